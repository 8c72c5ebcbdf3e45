/-! newCase, both sides -/
theorem inv_newCase {nc : Nat} {σ τ σ' τ' : St} (h : Inv nc σ τ) (h4 : nc < 4) {S : Nat} (hS : S < 32)
    (es : ∀ x k, x ∉ nwi nc → ¬ (x = 103 ∧ k = nc) → ¬ (x = 100 ∧ k = 3) → gi σ' x k = gi σ x k) (el : ∀ x, gl σ' x = gl σ x) (s1 : gi σ' 100 3 = nI (nc + 1)) (s2 : gi σ' 103 nc = nI (400 + 10 * nc)) (s3 : gi σ' (400 + 10 * nc) 0 = nI S) (s4 : ∀ w p, w < 3 → p < 5 → gi σ' (402 + 10 * nc + w) p = if w = 2 then 10 else 5)
    (et : ∀ x k, ¬ (x = 0 ∧ k = 0) → ¬ (x = 3 ∧ k = nc) → ¬ (4 ≤ x ∧ x ≤ 6 ∧ 6 * nc ≤ k ∧ k < 6 * nc + 6) → gi τ' x k = gi τ x k) (etl : ∀ x, gl τ' x = gl τ x) (t1 : gi τ' 0 0 = nI (nc + 1)) (t2 : gi τ' 3 nc = nI S) (t3 : ∀ w p, w < 3 → p < 5 → gi τ' (4 + w) (6 * nc + p) = if w = 2 then 10 else 5) : Inv (nc + 1) σ' τ' := by
  obtain ⟨h0, hc, h2, h3, h4', h5, h6, h7, Rs, h8, h9⟩ := h
  have e : ∀ x k, x < 400 → ¬ (x = 103 ∧ k = nc) → ¬ (x = 100 ∧ k = 3) → gi σ' x k = gi σ x k := fun x k hx => es x k (fun z => by have := mem_nwi.mp z; omega)
  refine ⟨by omega, ⟨s1, t1, fun k hk => ?_⟩, h2.same (fun x k hx => e x k (by omega) (by omega) (by omega)) (fun x k hx => et x k (by omega) (by omega) (by omega)), h3.same (fun x k hx => e x k (by omega) (by omega) (by omega)) (fun x k hx => et x k (by omega) (by omega) (by omega)), h4'.same (fun x k hx => e x k (by omega) (by omega) (by omega)), fun i hi => by rw [et 38 i (by omega) (by omega) (by omega)]; exact h5 i hi, h6.same (fun x k hx => e x k (by omega) (by omega) (by omega)) (fun x k hx => et x k (by omega) (by omega) (by omega)), h7.same (fun x k hx => e x k (by omega) (by omega) (by omega)) (fun x k hx => et x k (by omega) (by omega) (by omega)) el etl, Rs, h8.same (fun x k hx => e x k (by omega) (by omega) (by omega)) (fun x k hx => et x k (by omega) (by omega) (by omega)), h9.same (fun x k hx => e x k (by omega) (by omega) (by omega)) (fun x k hx => et x k (by omega) (by omega) (by omega))⟩
  by_cases hkn : k < nc
  · obtain ⟨h1, ⟨S', q2, q3, q4⟩, cs, q5, q6⟩ := hc.2.2 k hkn
    have out : ∀ x, x < 400 + 10 * nc → x ∉ nwi nc := fun x hx z => by have := mem_nwi.mp z; omega
    exact ⟨by rw [e 103 k (by omega) (by omega) (by omega)]; exact h1, ⟨S', q2, by rw [es _ 0 (out _ (by omega)) (by omega) (by omega)]; exact q3, by rw [et 3 k (by omega) (by omega) (by omega)]; exact q4⟩, cs, fun w p hw hp => by rw [es _ p (out _ (by omega)) (by omega) (by omega)]; exact q5 w p hw hp, fun w p hw hp => by rw [et _ _ (by omega) (by omega) (by omega)]; exact q6 w p hw hp⟩
  · have hk' : k = nc := by omega
    subst hk'
    have hv : ∀ w p, (if w = 2 then (10 : Int32) else 5) = nI ((fun (w _ : Nat) => if w = 2 then 10 else 5) w p) ∧ (fun (w _ : Nat) => if w = 2 then 10 else 5) w p ≤ 10 := fun w _ => by
      by_cases hw : w = 2
      · subst hw; exact ⟨rfl, Nat.le_refl 10⟩
      · show (if w = 2 then (10 : Int32) else 5) = nI (if w = 2 then 10 else 5) ∧ (if w = 2 then 10 else 5) ≤ 10
        rw [if_neg hw, if_neg hw]; exact ⟨rfl, by decide⟩
    refine ⟨by rw [s2, dc_nI (by omega)], ⟨S, hS, s3, t2⟩, fun w _ => if w = 2 then 10 else 5, fun w p hw hp => ?_, fun w p hw hp => ?_⟩
    · rw [s4 w p hw hp]; exact hv w p
    · rw [t3 w p hw hp]; exact hv w p
theorem s_newCase {d e nc : Nat} {σ τ : St} {Q : Int32 → Nat → St → Int32 → St → Prop} {a0 : Int32} (h : Inv nc σ τ) (hQ : ∀ x n' σ' τ', Inv n' σ' τ' → Q x n' σ' x τ') : ENw (d + 3) nc [.ref 100, .int a0] σ (fun x n' σ' => EI (e + 2) idsR Y_X7_newCase [.ref 0, .int a0] τ (fun y τ' => Q x n' σ' y τ')) := by
  have e0 := h.r0
  have hn := h.nc
  refine c_newCase h (fun z => ?_) (fun z h4 => ?_) (fun z h4 => ?_)
  · exact fl_X7_newCase hR (fun P37 _ => kR_in ⟨fun y => absurd (bI_n.mp y) z, fun _ => hQ _ _ _ _ (inv_sN h)⟩)
  · refine fl_X7_newCase hR (fun P37 _ => kR_in ⟨fun y => ⟨fun y4 => absurd ?_ y4, fun _ => hQ _ _ _ _ (inv_sN h)⟩, fun y => absurd z (bI_0.mp y)⟩)
    rw [e0, h4]; rfl
  · refine fl_X7_newCase hR (fun P37 H37 => kR_in ⟨fun y => ⟨fun y4 => ?_, fun y4 => absurd (e0.symm.trans y4) (fun q => ?_)⟩, fun y => absurd z (bI_0.mp y)⟩)
    · rw [rf0, e0, nI_clamp (by omega)]
      refine ⟨vp_in_nI h4 (by decide), fun s15 e15 => ?_⟩
      have loop : ∀ m j (s : St), 6 - j = m → j ≤ 6 → (∀ x k, ¬ (4 ≤ x ∧ x ≤ 6 ∧ 6 * nc ≤ k ∧ k < 6 * nc + j) → gi s x k = gi s15 x k) → (∀ x, gl s x = gl s15 x) → (∀ p, p < j → gi s 4 (6 * nc + p) = 5 ∧ gi s 5 (6 * nc + p) = 5 ∧ gi s 6 (6 * nc + p) = 10) → P37 (nI j) s := by
        have b0 : ∀ (s : St) (j : Nat), (∀ x k, ¬ (4 ≤ x ∧ x ≤ 6 ∧ 6 * nc ≤ k ∧ k < 6 * nc + j) → gi s x k = gi s15 x k) → gi s 0 0 = nI nc := fun s j q => by
          rw [q 0 0 (by omega), e15, gi_ne_o _ _ _ _ (by decide)]; exact e0
        intro m
        induction m with
        | zero =>
          intro j s q1 q2 q3 q4 q5
          have hj : j = 6 := by omega
          subst hj
          have es0 := b0 s 6 q3
          refine H37 _ _ ⟨fun _ s2 e2 => ?_, fun y => absurd (nI_le (Nat.le_refl 6) (by decide)) y⟩
          have et0 : gi s2 0 0 = nI (nc + 1) := by rw [e2, gi_same, es0, nI_succ]
          rw [et0, nI_pred]
          obtain ⟨S, hS, rfl⟩ := rng (n := 31) (by decide) z.1 z.2
          refine hQ _ _ _ _ (inv_newCase (inv_sN h) h4 (S := S) (by omega) (fun x k a b c => ?_) (fun x => ?_) ?_ ?_ ?_ (fun w p hw hp => ?_) (fun x k a b c => ?_) (fun x => ?_) et0 ?_ (fun w p hw hp => ?_))
          · rw [gi_si, if_neg c, gi_si, if_neg b, cst_gi a]
          · rw [gl_si_o, gl_si_o]; exact cst_gl
          · rw [gi_same, nI_succ]
          · rw [gi_ne_o _ _ _ _ (by decide), gi_same]
          · rw [gi_ne_o _ _ _ _ (by omega), gi_ne_o _ _ _ _ (by omega)]
            exact cst_so h4 _ _
          · rw [gi_ne_o _ _ _ _ (by omega), gi_ne_o _ _ _ _ (by omega)]
            exact cst_at h4 _ _ hw hp
          · rw [e2, gi_si, if_neg a, q3 x k (by omega), e15, gi_si, if_neg b]
          · rw [e2, gl_si_o, q4 x, e15, gl_si_o]
          · rw [e2, gi_ne_o _ _ _ _ (by decide), q3 3 nc (by omega), e15, gi_same]
          · rw [e2, gi_ne_o _ _ _ _ (by omega)]
            obtain ⟨u1, u2, u3⟩ := q5 p (by omega)
            rcases (show w = 0 ∨ w = 1 ∨ w = 2 by omega) with rfl | rfl | rfl
            · exact u1
            · exact u2
            · exact u3
        | succ m ih =>
          intro j s q1 q2 q3 q4 q5
          have hj : j < 6 := by omega
          have es0 := b0 s j q3
          refine H37 _ _ ⟨fun y => absurd ((nI_leI (a := 6) (by decide) (by omega)).mp y) (by omega), fun _ => ?_⟩
          have hv : vp_in (nI (6 * nc + j)) 24 := vp_in_nI (by omega) (by decide)
          rw [es0, k6, nI_clamp (by omega), rf0, rf0, rf0]
          refine ⟨hv, fun s4 e4 => ?_⟩
          have es4 : gi s4 0 0 = nI nc := by rw [e4, gi_ne_o _ _ _ _ (by decide)]; exact es0
          rw [es4, k6, nI_clamp (by omega)]
          refine ⟨hv, fun s6 e6 => ?_⟩
          have es6 : gi s6 0 0 = nI nc := by rw [e6, gi_ne_o _ _ _ _ (by decide)]; exact es4
          rw [es6, k6, nI_clamp (by omega)]
          refine ⟨hv, fun s8 e8 x9 e9 => ?_⟩
          rw [e9, ← nI_succ]
          refine ih (j + 1) s8 (by omega) (by omega) (fun x k a => ?_) (fun x => ?_) (fun p hp => ?_)
          · rw [e8, gi_si, if_neg (by omega), e6, gi_si, if_neg (by omega), e4, gi_si, if_neg (by omega)]
            exact q3 x k (by omega)
          · rw [e8, gl_si_o, e6, gl_si_o, e4, gl_si_o]; exact q4 x
          · by_cases hpj : p = j
            · subst hpj
              refine ⟨?_, ?_, ?_⟩
              · rw [e8, gi_ne_o _ _ _ _ (by decide), e6, gi_ne_o _ _ _ _ (by decide), e4, gi_same]
              · rw [e8, gi_ne_o _ _ _ _ (by decide), e6, gi_same]
              · rw [e8, gi_same]
            · obtain ⟨u1, u2, u3⟩ := q5 p (by omega)
              refine ⟨?_, ?_, ?_⟩
              · rw [e8, gi_ne_o _ _ _ _ (by decide), e6, gi_ne_o _ _ _ _ (by decide), e4, gi_ne_k _ _ _ _ (by omega)]; exact u1
              · rw [e8, gi_ne_o _ _ _ _ (by decide), e6, gi_ne_k _ _ _ _ (by omega), e4, gi_ne_o _ _ _ _ (by decide)]; exact u2
              · rw [e8, gi_ne_k _ _ _ _ (by omega), e6, gi_ne_o _ _ _ _ (by decide), e4, gi_ne_o _ _ _ _ (by decide)]; exact u3
      exact loop 6 0 s15 rfl (by decide) (fun _ _ _ => rfl) (fun _ => rfl) (fun p hp => absurd hp (Nat.not_lt_zero p))
    · have := (nI_eq (a := nc) (b := 4) (by omega) (by decide)).mp q
      omega
