/-! PURE: link, put, act, trace, taken, count, tapes: the calls of both sides -/
/-- both sides changed, but for some things; what changed is given anew -/
theorem Inv.chg {nc : Nat} {σ τ σ' τ' : St} (h : Inv nc σ τ) (pC pR : Nat → Nat → Prop) (e1 : ∀ x k, ¬ pC x k → gi σ' x k = gi σ x k) (e2 : ∀ x k, ¬ pR x k → gi τ' x k = gi τ x k)
    (c1 : ICs nc σ' τ' ∨ (∀ x k, (x = 100 ∧ k = 3) ∨ x = 103 ∨ 400 ≤ x → ¬ pC x k) ∧ (∀ x k, (x = 0 ∧ k = 0) ∨ (3 ≤ x ∧ x ≤ 6) → ¬ pR x k))
    (c2 : RLk σ' τ' ∨ (∀ x k, x = 101 ∨ x = 102 → ¬ pC x k) ∧ (∀ x k, x = 1 ∨ x = 2 → ¬ pR x k))
    (c3 : ITx σ' τ' ∨ (∀ x k, (x = 105 ∧ k = 1) ∨ x = 120 → ¬ pC x k) ∧ (∀ x k, (x = 0 ∧ k = 9) ∨ x = 12 → ¬ pR x k))
    (c4 : ∀ x k, (x = 310 ∧ k ≤ 6) ∨ x = 320 → ¬ pC x k) (c5 : ∀ k, ¬ pR 38 k)
    (c6 : IAc σ' τ' ∨ (∀ x k, (x = 110 ∧ k = 0) ∨ x = 121 → ¬ pC x k) ∧ (∀ x k, (x = 0 ∧ k = 45) ∨ x = 46 → ¬ pR x k))
    (c7 : ITp σ' τ' ∨ ((∀ x k, x = 111 ∨ x = 112 → ¬ pC x k) ∧ (∀ x k, x = 47 ∨ x = 48 → ¬ pR x k)) ∧ (∀ x, gl σ' x = gl σ x) ∧ (∀ x, gl τ' x = gl τ x))
    (c8 : (∀ x k, (x = 100 ∧ k = 6) ∨ x = 108 ∨ (140 ≤ x ∧ x < 300) → ¬ pC x k) ∧ (∀ x k, (x = 0 ∧ (k = 8 ∨ (24 ≤ k ∧ k ≤ 26))) ∨ (13 ≤ x ∧ x ≤ 19) ∨ (27 ≤ x ∧ x ≤ 36) → ¬ pR x k)) : Inv nc σ' τ' := by
  obtain ⟨h0, h1, h2, h3, h4, h5, h6, h7, Rs, h8, h9⟩ := h
  refine ⟨h0, c1.elim id (fun c => h1.same (fun x k hx => e1 x k (c.1 x k hx)) (fun x k hx => e2 x k (c.2 x k hx))), c2.elim id (fun c => h2.same (fun x k hx => e1 x k (c.1 x k hx)) (fun x k hx => e2 x k (c.2 x k hx))), c3.elim id (fun c => h3.same (fun x k hx => e1 x k (c.1 x k hx)) (fun x k hx => e2 x k (c.2 x k hx))), h4.same (fun x k hx => e1 x k (c4 x k hx)), fun i hi => by rw [e2 38 i (c5 i)]; exact h5 i hi, c6.elim id (fun c => h6.same (fun x k hx => e1 x k (c.1 x k hx)) (fun x k hx => e2 x k (c.2 x k hx))), c7.elim id (fun c => h7.same (fun x k hx => e1 x k (c.1.1 x k hx)) (fun x k hx => e2 x k (c.1.2 x k hx)) c.2.1 c.2.2), Rs, h8.same (fun x k hx => e1 x k (c8.1 x k (by omega))) (fun x k hx => e2 x k (c8.2 x k (by omega))), h9.same (fun x k hx => e1 x k (c8.1 x k (by omega))) (fun x k hx => e2 x k (c8.2 x k (by omega)))⟩
section SM
variable {d e nc : Nat} {σ τ : St} {Q : Int32 → St → Int32 → St → Prop}
theorem s_link {a0 a1 a2 a3 : Int32} (h : Inv nc σ τ) (hQ : ∀ x σ' τ', Inv nc σ' τ' → Q x σ' x τ') : BI (d + 2) (e + 3) nc Y_X6_link Y_X7_link [.int a0, .int a1, .int a2, .int a3] σ τ Q := by
  have hn := h.nc
  have hlk := h.2.2.1
  refine kC_link hn (fun z => kR_link (fun _ => hQ _ _ _ h) (fun y => absurd y z) (fun y => absurd y z)) (fun y z => kR_link (fun q => absurd y q) (fun _ _ => hQ _ _ _ h) (fun _ q => absurd z q)) (fun y z o ho => kR_link (fun q => absurd y q) (fun _ q => absurd q z) (fun _ _ o' ho' => ?_))
  obtain ⟨p, hp, ep⟩ := pt_of y.2.1
  obtain ⟨q, hq, eq⟩ := pt_of y.2.2
  have hcl : a1.toNatClampNeg = p := by rw [ep, cl_ix p (by omega)]
  obtain ⟨l1, l2, -, -⟩ := hlk p hp
  have eo : gi σ o p = gi τ o' p := by
    by_cases hz : a0 = 0
    · rw [ho, ho', if_pos hz, if_pos hz]; exact l1
    · rw [ho, ho', if_neg hz, if_neg hz]; exact l2
  have hR2 := RLk_put hlk hp hq a3 (b := a0 = 0)
  rw [← ho, ← ho'] at hR2
  rw [hcl, eq, eo]
  rw [eo] at hR2
  have ho1 : o = 101 ∨ o = 102 := by rw [ho]; split <;> simp
  have ho2 : o' = 1 ∨ o' = 2 := by rw [ho']; split <;> simp
  refine hQ _ _ _ (h.chg (fun x _ => x = 101 ∨ x = 102) (fun x _ => x = 1 ∨ x = 2) (fun x k hx => gi_ne_o _ _ _ _ (by omega)) (fun x k hx => gi_ne_o _ _ _ _ (by omega)) (Or.inr ⟨fun x k hx => by omega, fun x k hx => by omega⟩) (Or.inl hR2) (Or.inr ⟨fun x k hx => by omega, fun x k hx => by omega⟩) (fun x k hx => by omega) (fun k => by omega) (Or.inr ⟨fun x k hx => by omega, fun x k hx => by omega⟩) (Or.inr ⟨⟨fun x k hx => by omega, fun x k hx => by omega⟩, fun x => gl_si_o _ _ _ _ _, fun x => gl_si_o _ _ _ _ _⟩) ⟨fun x k hx => by omega, fun x k hx => by omega⟩)
theorem s_put {a0 a1 a2 a3 : Int32} (h : Inv nc σ τ) (hQ : ∀ x σ' τ', Inv nc σ' τ' → Q x σ' x τ') : BI (d + 2) (e + 3) nc Y_X6_put Y_X7_put [.int a0, .int a1, .int a2, .int a3] σ τ Q := by
  have hn := h.nc
  -- the reference, where it is refused
  have no1 : ¬ (isCs nc a0 ∧ Pt a1 ∧ (0 ≤ a2 ∧ a2 ≤ 2)) → EI (e + 3) idsR Y_X7_put [.ref 0, .int a0, .int a1, .int a2, .int a3] τ (fun y τ' => Q (-1) σ y τ') := by
    intro z
    refine fl_X7_put hR (fun P87 P102 P116 _ _ _ => r_isCase hn h.r0 (fun _ => ⟨fun _ => hQ _ _ _ h, fun y => absurd rfl y⟩) (fun z1 => ⟨fun y => absurd y (by decide), fun _ => kR_isPoint ⟨fun _ => hQ _ _ _ h, fun z2 => kR_in ⟨fun z3 => absurd ⟨z1, bI_n.mp z2, bI_n.mp z3⟩ z, fun _ => hQ _ _ _ h⟩⟩⟩))
  have no2 : isCs nc a0 → Pt a1 → (0 ≤ a2 ∧ a2 ≤ 2) → ¬ (0 ≤ a3 ∧ a3 ≤ 10) → EI (e + 3) idsR Y_X7_put [.ref 0, .int a0, .int a1, .int a2, .int a3] τ (fun y τ' => Q (-2) σ y τ') := by
    intro c1 c2 c3 z
    refine fl_X7_put hR (fun P87 P102 P116 _ _ _ => r_isCase hn h.r0 (fun y => absurd c1 y) (fun z1 => ⟨fun y => absurd y (by decide), fun _ => kR_isPoint ⟨fun y => absurd c2 (bI_0.mp y), fun z2 => kR_in ⟨fun z3 => kR_in ⟨fun y => absurd (bI_n.mp y) z, fun _ => hQ _ _ _ h⟩, fun y => absurd c3 (bI_0.mp y)⟩⟩⟩))
  refine fl_X6_put (h100 hn) (c_caseAt h (fun z => ⟨fun _ => no1 (fun y => z y.1), fun r2 y => (by cases y)⟩) (fun k hk ek => ⟨fun y => (by cases y), fun r2 e2 => ?_⟩))
  cases e2
  refine ⟨hCase hn hk, kC_isPoint ⟨fun z => no1 (fun y => bI_0.mp z y.2.1), fun z => ⟨fun z1 => no1 (fun y => Int32.not_le.mpr z1 y.2.2.1), fun z1 => ⟨fun z2 => ⟨fun z3 => ?_, fun z3 => ⟨fun z4 => ?_, fun z4 => ?_⟩⟩, fun z2 => no1 (fun y => z2 y.2.2.2)⟩⟩⟩⟩
  · exact no2 ⟨k, hk, ek⟩ (bI_n.mp z) ⟨nlt.mp z1, z2⟩ (fun y => Int32.not_le.mpr z3 y.1)
  · have hp := bI_n.mp z
    obtain ⟨p, p5, rfl⟩ := pt_of hp
    obtain ⟨w, hw, rfl⟩ := rng (n := 2) (by decide) (nlt.mp z1) z2
    obtain ⟨v, hv, rfl⟩ := rng (n := 10) (by decide) (nlt.mp z3) z4
    obtain ⟨cs, hc1, hc2⟩ := h.cs hk
    have hin5 : vp_in (nI p) 5 := vp_in_nI p5 (by decide)
    have hin3 : vp_in (nI w) 3 := vp_in_nI (by omega) (by decide)
    have hin24 : vp_in (nI (6 * k + p)) 24 := vp_in_nI (by omega) (by decide)
    rw [cl_ix w (by omega), cl_ix p (by omega), rf_cs (by omega), rf_cs2 (by omega), (hc1 w p (by omega) p5).1]
    refine ⟨hin3, hin5, fun x12 e12 => ⟨hin3, hin5, fun s15 e15 => ?_⟩⟩
    subst e12
    rw [ek]
    -- the reference's
    have hw3 : w < 3 := by omega
    have ref : ∀ τ', τ' = si τ (4 + w) (6 * k + p) (nI v) → Q (nI (cs w p)) s15 (nI (cs w p)) τ' := by
      intro τ' et
      have hcs : ICs nc s15 τ' := by
        obtain ⟨i1, i2, i3⟩ := h.2.1
        refine ⟨by rw [e15, gi_ne_o _ _ _ _ (by omega)]; exact i1, by rw [et, gi_ne_o _ _ _ _ (by omega)]; exact i2, fun j hj => ?_⟩
        obtain ⟨j1, ⟨S, j2, j3, j4⟩, cs', j5, j6⟩ := i3 j hj
        refine ⟨by rw [e15, gi_ne_o _ _ _ _ (by omega)]; exact j1, ⟨S, j2, by rw [e15, gi_ne_o _ _ _ _ (by omega)]; exact j3, by rw [et, gi_ne_o _ _ _ _ (by omega)]; exact j4⟩, fun w' p' => if j = k ∧ w' = w ∧ p' = p then v else cs' w' p', fun w' p' a1 a2 => ?_, fun w' p' a1 a2 => ?_⟩
        · dsimp only
          rw [e15, gi_si]
          by_cases hz : j = k ∧ w' = w ∧ p' = p
          · rw [if_pos (by omega), if_pos hz]; exact ⟨rfl, hv⟩
          · rw [if_neg (by omega), if_neg hz]; exact j5 w' p' a1 a2
        · dsimp only
          rw [et, gi_si]
          by_cases hz : j = k ∧ w' = w ∧ p' = p
          · rw [if_pos (by omega), if_pos hz]; exact ⟨rfl, hv⟩
          · rw [if_neg (by omega), if_neg hz]; exact j6 w' p' a1 a2
      have hnc := h.nc
      refine hQ _ _ _ (h.chg (fun x _ => 400 ≤ x) (fun x _ => 4 ≤ x ∧ x ≤ 6) (fun x j hx => by rw [e15, gi_ne_o _ _ _ _ (by omega)]) (fun x j hx => by rw [et, gi_ne_o _ _ _ _ (by omega)]) (Or.inl hcs) (Or.inr ⟨fun x k hx => by omega, fun x k hx => by omega⟩) (Or.inr ⟨fun x k hx => by omega, fun x k hx => by omega⟩) (fun x k hx => by omega) (fun k => by omega) (Or.inr ⟨fun x k hx => by omega, fun x k hx => by omega⟩) (Or.inr ⟨⟨fun x k hx => by omega, fun x k hx => by omega⟩, fun x => by rw [e15, gl_si_o], fun x => by rw [et, gl_si_o]⟩) ⟨fun x k hx => by omega, fun x k hx => by omega⟩)
    refine fl_X7_put hR (fun P87 P102 P116 H87 H102 H116 => r_isCase hn h.r0 (fun y => absurd ⟨k, hk, rfl⟩ y) (fun _ => ⟨fun y => absurd y (by decide), fun _ => kR_isPoint ⟨fun y => absurd hp (bI_0.mp y), fun _ => kR_in ⟨fun _ => kR_in ⟨fun _ x22 e22 => ?_, fun y => absurd ⟨nlt.mp z3, z4⟩ (bI_0.mp y)⟩, fun y => absurd ⟨nlt.mp z1, z2⟩ (bI_0.mp y)⟩⟩⟩))
    rw [k6] at e22
    subst e22
    rw [cl_ix _ (by omega), rf0, rf0, rf0]
    have c0 := (hc2 0 p (by decide) p5).1
    have c1 := (hc2 1 p (by decide) p5).1
    have c2 := (hc2 2 p (by decide) p5).1
    rw [c0, c1, c2]
    rw [rf0] at H87 H102 H116
    rcases (by omega : w = 0 ∨ w = 1 ∨ w = 2) with rfl | rfl | rfl
    · refine ⟨fun y => absurd rfl y, fun _ => ⟨hin24, H87 _ _ _ ⟨fun y => absurd rfl y, fun _ => ⟨hin24, fun s3 e3 => H102 _ _ _ ⟨fun _ => H116 _ _ _ ⟨fun _ => ref s3 ?_, fun y => absurd y (by decide)⟩, fun y => absurd y (by decide)⟩⟩⟩⟩⟩
      rw [e3, cl_ix _ (by omega)]
    · refine ⟨fun _ => ⟨fun y => absurd rfl y, fun _ => ⟨hin24, H87 _ _ _ ⟨fun _ => H102 _ _ _ ⟨fun y => absurd rfl y, fun _ => ⟨hin24, fun s3 e3 => H116 _ _ _ ⟨fun _ => ref s3 ?_, fun y => absurd y (by decide)⟩⟩⟩, fun y => absurd y (by decide)⟩⟩⟩, fun y => absurd y (by decide)⟩
      rw [e3, cl_ix _ (by omega)]
    · refine ⟨fun _ => ⟨fun _ => ⟨hin24, H87 _ _ _ ⟨fun _ => H102 _ _ _ ⟨fun _ => H116 _ _ _ ⟨fun y => absurd rfl y, fun _ => ⟨hin24, fun s3 e3 => ref s3 ?_⟩⟩, fun y => absurd y (by decide)⟩, fun y => absurd y (by decide)⟩⟩, fun y => absurd y (by decide)⟩, fun y => absurd y (by decide)⟩
      rw [e3, cl_ix _ (by omega)]
  · exact no2 ⟨k, hk, ek⟩ (bI_n.mp z) ⟨nlt.mp z1, z2⟩ (fun y => z4 y.2)
theorem Inv.act {σ' τ' : St} (h : Inv nc σ τ) (e1 : fr11 σ σ') (e2 : fr46 τ τ') (ha : IAc σ' τ') : Inv nc σ' τ' :=
  h.chg (fun x _ => x = 110 ∨ x = 121) (fun x k => (x = 0 ∧ k = 45) ∨ x = 46) (fun x k hx => e1.1 x k (by omega) (by omega)) (fun x k hx => e2.1 x k (by omega) (by omega)) (Or.inr ⟨fun x k hx => by omega, fun x k hx => by omega⟩) (Or.inr ⟨fun x k hx => by omega, fun x k hx => by omega⟩) (Or.inr ⟨fun x k hx => by omega, fun x k hx => by omega⟩) (fun x k hx => by omega) (fun k => by omega) (Or.inl ha) (Or.inr ⟨⟨fun x k hx => by omega, fun x k hx => by omega⟩, e1.2, e2.2⟩) ⟨fun x k hx => by omega, fun x k hx => by omega⟩
theorem IAc_of {n m n2 m2 : Int32} {L : List Int32} (hl : L.length < 1000) (h1 : TRC n m σ L) (h2 : TRR n2 m2 τ L) : IAc σ τ :=
  ⟨L.length, hl, h1.1, h2.1, fun i a b => by
    have hb : L[i]? = some L[i] := List.getElem?_eq_getElem b
    rw [h1.2.1 i _ a hb, h2.2.1 i _ a hb]⟩
theorem s_act {a0 a1 a2 : Int32} (h : Inv nc σ τ) (hQ : ∀ x σ' τ', Inv nc σ' τ' → Q x σ' x τ') : BI (d + 11) (e + 9) nc Y_X6_act Y_X7_act [.int a0, .int a1, .int a2] σ τ Q := by
  have hn := h.nc
  obtain ⟨Rs, G, ps, hi⟩ := h.op
  have hu := hi.1
  have r9 : rf 100 9 = 110 := rfl
  refine fl_X6_act (h100 hn) ?_
  rw [r9, h.2.1.1, hu.2.1]
  refine fl_X0_start (hAc hn) (fun s1 e1 => ?_)
  have f1 : fr11 σ s1 := ⟨fun x k b1 b2 => by rw [e1, gi_ne_o _ _ _ _ b1], fun x => by rw [e1, gl_si_o]⟩
  have g1 : gi s1 110 0 = nI 0 := by rw [e1, gi_same]; rfl
  -- the reference's beginning
  have rs : ∀ t1, t1 = si τ 0 45 0 → fr46 τ t1 ∧ TRR (nI nc) (nI Rs.length) t1 [] := by
    intro t1 et
    refine ⟨⟨fun x k b1 b2 => by rw [et, gi_si, if_neg b1], fun x => by rw [et, gl_si_o]⟩, by rw [et, gi_same]; rfl, fun i b _ hb => (by cases hb), by rw [et, gi_ne_k _ _ _ _ (by decide)]; exact h.r0, by rw [et, gi_ne_k _ _ _ _ (by decide)]; exact hu.2.2.1⟩
  have bad : ¬ ((0 ≤ a0 ∧ a0 ≤ 6) ∧ (0 ≤ a1 ∧ a1 ≤ 2)) → EI (e + 9) idsR Y_X7_act [.ref 0, .int a0, .int a1, .int a2] τ (fun y τ' => Q 0 s1 y τ') := by
    intro z
    refine fl_X7_act hR (fun t1 et => ?_)
    obtain ⟨u1, u2⟩ := rs t1 et
    have hI : Inv nc s1 t1 := h.act f1 u1 ⟨0, by decide, g1, u2.1, fun i _ b => absurd b (Nat.not_lt_zero _)⟩
    exact kR_in ⟨fun _ => hQ _ _ _ hI, fun z1 => kR_in ⟨fun z2 => absurd ⟨bI_n.mp z1, bI_n.mp z2⟩ z, fun _ => hQ _ _ _ hI⟩⟩
  have k7 : isCs 7 a0 ↔ (0 ≤ a0 ∧ a0 ≤ 6) := (rng_lt (n := 7) (by decide)).symm
  refine c_isKind (fun z => ⟨fun _ => bad (fun y => z (k7.mpr y.1)), fun y => absurd rfl y⟩) (fun z => ⟨fun y => absurd y (by decide), fun _ => ⟨fun z1 => bad (fun y => Int32.not_le.mpr z1 y.2.1), fun z1 => ⟨fun z2 s7 e7 s8 e8 => ?_, fun z2 => bad (fun y => ?_)⟩⟩⟩)
  · have hk := k7.mp z
    obtain ⟨k, hk7, rfl⟩ := z
    obtain ⟨a, ha, rfl⟩ := nI_of z1
    have ha3 : a < 3 := (nI_ltI (b := 3) ha (by decide)).mp z2
    have hin2 : 0 ≤ nI a ∧ nI a ≤ 2 := ⟨nI_pos' ha, nI_le (b := 2) (by omega) (by decide)⟩
    have f8 : fr11 σ s8 := f1.tr ⟨fun x k b1 b2 => by rw [e8, gi_ne_o _ _ _ _ b1, e7, gi_ne_o _ _ _ _ b1], fun x => by rw [e8, gl_si_o, e7, gl_si_o]⟩
    have t8 : TRC (nI nc) (nI Rs.length) s8 [] := by
      refine ⟨?_, fun i b _ hb => (by cases hb), ?_, ?_⟩
      · rw [e8, gi_ne_k _ _ _ _ (by decide), e7, gi_ne_k _ _ _ _ (by decide)]; exact g1
      · rw [e8, gi_ne_k _ _ _ _ (by decide), e7, gi_same]
      · rw [e8, gi_same]
    have ok : ∀ (L : List Int32) (x : Int32) σ' τ', L.length < 1000 → TRC (nI nc) (nI Rs.length) σ' L → fr11 s8 σ' → TRR (nI nc) (nI Rs.length) τ' L → fr46 τ τ' → Q x σ' x τ' := fun L x σ' τ' hl u1 u2 u3 u4 => hQ _ _ _ (h.act (f8.tr u2) u4 (IAc_of hl u1 u3))
    have ref : ∀ F : Int32 → St → Prop, (∀ t1, fr46 τ t1 → TRR (nI nc) (nI Rs.length) t1 [] → (¬ nI a = 0 → (¬ nI a = 1 → EI (e + 8) idsR Y_X7_tells [.ref 0, .int (nI k), .int a2] t1 F) ∧ (nI a = 1 → EI (e + 8) idsR Y_X7_admits [.ref 0, .int (nI k), .int a2] t1 F)) ∧ (nI a = 0 → EI (e + 8) idsR Y_X7_pleads [.ref 0, .int (nI k), .int a2] t1 F)) → EI (e + 9) idsR Y_X7_act [.ref 0, .int (nI k), .int (nI a), .int a2] τ F := by
      intro F hF
      refine fl_X7_act hR (fun t1 et => kR_in ⟨fun y => absurd hk (bI_0.mp y), fun _ => kR_in ⟨fun _ => ?_, fun y => absurd hin2 (bI_0.mp y)⟩⟩)
      obtain ⟨u1, u2⟩ := rs t1 et
      exact hF t1 u1 u2
    rcases (by omega : a = 0 ∨ a = 1 ∨ a = 2) with rfl | rfl | rfl
    · refine c_P (dep := 0) hn hk7 (by omega) (by decide) t8 (fun σ' v1 v2 => ref _ (fun t1 u1 u2 => ⟨fun y => absurd rfl y, fun _ => r_P hk7 (by decide) u2 (fun τ' w1 w2 => ?_)⟩))
      have hl := mP_len (nI nc) (nI Rs.length) k a2
      exact ok _ _ _ _ (by rw [List.nil_append]; omega) v1 v2 w1 (u1.tr w2)
    · refine c_A (dep := 0) hn hk7 (by omega) (by decide) t8 (fun σ' v1 v2 => ref _ (fun t1 u1 u2 => ⟨fun _ => ⟨fun y => absurd rfl y, fun _ => r_A hk7 (by decide) u2 (fun τ' w1 w2 => ?_)⟩, fun y => absurd y (by decide)⟩))
      have hl := mA_len (nI nc) (nI Rs.length) k a2
      exact ok _ _ _ _ (by rw [List.nil_append]; omega) v1 v2 w1 (u1.tr w2)
    · refine c_T (dep := 0) hn hk7 (by omega) (by decide) t8 (fun σ' v1 v2 => ref _ (fun t1 u1 u2 => ⟨fun _ => ⟨fun _ => r_T hk7 (by decide) u2 (fun τ' w1 w2 => ?_), fun y => absurd y (by decide)⟩, fun y => absurd y (by decide)⟩))
      have hl := mT_len (nI nc) (nI Rs.length) k a2
      exact ok _ _ _ _ (by rw [List.nil_append]; omega) v1 v2 w1 (u1.tr w2)
  · have q1 := i32_le.mp y.2.2
    have q2 : ¬ a1.toInt < (3 : Int32).toInt := fun q => z2 (i32_lt.mpr q)
    rw [show (2 : Int32).toInt = 2 from rfl] at q1
    rw [show (3 : Int32).toInt = 3 from rfl] at q2
    omega
theorem s_trace {a0 : Int32} (h : Inv nc σ τ) (hQ : ∀ x σ' τ', Inv nc σ' τ' → Q x σ' x τ') : BI (d + 2) (e + 2) nc Y_X6_trace Y_X7_trace [.int a0] σ τ Q := by
  have hn := h.nc
  have r9 : rf 100 9 = 110 := rfl
  obtain ⟨n, hn1, g1, g2, g3⟩ := h.2.2.2.2.2.2.1
  refine fl_X6_trace (h100 hn) ?_
  rw [r9]
  refine fl_X0_bodyAt (hAc hn) (fun P18 H18 => ?_)
  rw [g1]
  have in20 := in_nI (a := a0) (lo := 0) (hi := 19) (by decide) (by decide)
  have no : ¬ (∃ i, i < 20 ∧ i < n ∧ a0 = nI i) → P18 σ := by
    intro z
    refine H18 _ (fl_X7_trace hR (kR_in ⟨fun _ => hQ _ _ _ h, fun y => ?_⟩))
    rw [g2]
    refine ⟨fun _ => hQ _ _ _ h, fun y2 => ?_⟩
    obtain ⟨j, -, j2, e⟩ := in20.mp (bI_n.mp y)
    exact absurd ⟨j, by omega, Classical.byContradiction (fun q => y2 (by rw [e]; exact nI_le (by omega) (by omega))), e⟩ z
  refine ⟨fun z => no ?_, fun z => ⟨fun z1 => no ?_, fun z1 => ⟨fun z2 => ?_, fun z2 => no ?_⟩⟩⟩
  · rintro ⟨i, i1, i2, rfl⟩; exact nI_pos (by omega) z
  · rintro ⟨i, i1, i2, rfl⟩
    have := (nI_leI (by omega) (by omega)).mp z1
    omega
  · obtain ⟨i, hi, rfl⟩ := nI_of z
    have i1 : i < 20 := (nI_ltI (b := 20) hi (by decide)).mp z2
    have i2 : i < n := by
      have : ¬ n ≤ i := fun y => z1 (nI_le y (by omega))
      omega
    refine ⟨vp_in_nI i1 (by decide), fl_X7_trace hR (kR_in ⟨fun y => absurd (in20.mpr ⟨i, by omega, by omega, rfl⟩) (bI_0.mp y), fun _ => ?_⟩)⟩
    rw [g2, cl_ix i hi, rf0, show rf 110 1 = 121 from rfl, g3 i i1 i2]
    exact ⟨fun y => absurd ((nI_leI (by omega) hi).mp y) (by omega), fun _ => ⟨vp_in_nI i1 (by decide), hQ _ _ _ h⟩⟩
  · rintro ⟨i, i1, i2, rfl⟩; exact z2 (nI_lt (b := 20) i1 (by decide))
/-- a KIND under another -/
def unF : Nat → Nat → Nat → Bool
  | 0, _, _ => false
  | f + 1, v, k => if v = k then true else if v = 0 then false else unF f (if v = 5 then 2 else 0) k
theorem tA_ok : ∀ v, v < 7 → tAb v = (if v = 0 then -1 else nI (if v = 5 then 2 else 0)) := by decide +kernel
theorem un_ok : ∀ v, v < 7 → ∀ k, k < 7 → (unF 7 v k = true ↔ (k = 0 ∨ v = k ∨ (k = 2 ∧ v = 5))) := by decide +kernel
theorem c_isUnder {ids : List Nat} {v k : Nat} {Q : Int32 → St → Prop} (hv : v < 7) (hk : k < 7) (h : Q (nI (unF 7 v k).toNat) σ) : EI (d + 2) ids Y_X0_isUnder [.int (nI v), .int (nI k)] σ Q := by
  refine fl_X0_isUnder (fun P5 H5 => ?_)
  generalize hr : unF 7 v k = R at h
  have loop : ∀ f u, f < 100 → u < 7 → unF f u k = R → P5 (nI u) (nI f) σ := by
    intro f
    induction f with
    | zero =>
      intro u _ hu e
      have e : false = R := e
      rw [← e] at h
      exact H5 _ _ _ ⟨fun _ => h, fun y => absurd (by decide) y⟩
    | succ f ih =>
      intro u hf hu e
      refine H5 _ _ _ ⟨fun y => absurd y (nI_nle (by omega) (by omega)), fun _ => c_isKind (fun z => absurd ⟨u, hu, rfl⟩ z) (fun _ => ⟨fun y => absurd y (by decide), fun _ => ⟨fun z => ⟨vp_in_nI hu (by decide), fun x7 e7 x8 e8 => ?_⟩, fun z => ?_⟩⟩)⟩
      · have huk : u ≠ k := fun y => z (by rw [y])
        unfold unF at e
        rw [if_neg huk] at e
        rw [cl_ix u (by omega), tA_ok u hu] at e7
        rw [m1n (f + 1) (by omega)] at e8
        by_cases hu0 : u = 0
        · rw [if_pos hu0] at e e7
          rw [← e] at h
          rw [e7, e8]
          refine H5 _ _ _ ⟨fun _ => h, fun _ => c_isKind (fun _ => ⟨fun _ => h, fun y => absurd rfl y⟩) (fun y => ?_)⟩
          obtain ⟨j, j1, j2⟩ := y
          exact absurd j2.symm (m1_nI (by omega))
        · rw [if_neg hu0] at e e7
          rw [e7, e8]
          exact ih _ (by omega) (by split <;> decide) e
      · have huk : u = k := (nI_eq (by omega) (by omega)).mp z
        unfold unF at e
        rw [if_pos huk] at e
        rw [← e] at h
        exact h
  exact loop 7 v (by decide) hv hr
theorem s_taken {a0 a1 : Int32} (h : Inv nc σ τ) (hQ : ∀ x σ' τ', Inv nc σ' τ' → Q x σ' x τ') : BI (d + 3) (e + 2) nc Y_X6_taken Y_X7_taken [.int a0, .int a1] σ τ Q := by
  have hn := h.nc
  have k7 : ∀ a, isCs 7 a ↔ (0 ≤ a ∧ a ≤ 6) := fun a => (rng_lt (n := 7) (by decide)).symm
  refine fl_X6_taken (h100 hn) (c_isKind (fun z => ⟨fun y => absurd rfl y, fun _ => ?_⟩) (fun z => ⟨fun _ => c_isKind (fun z2 => ⟨fun y => absurd rfl y, fun _ => ?_⟩) (fun z2 => ⟨fun _ => ?_, fun y => absurd y (by decide)⟩), fun y => absurd y (by decide)⟩))
  · exact fl_X7_taken hR (fun P47 H47 => kR_in ⟨fun y => absurd ((k7 a1).mpr (bI_n.mp y)) z, fun _ => hQ _ _ _ h⟩)
  · exact fl_X7_taken hR (fun P47 H47 => kR_in ⟨fun _ => kR_in ⟨fun y => absurd ((k7 a0).mpr (bI_n.mp y)) z2, fun _ => hQ _ _ _ h⟩, fun y => absurd ((k7 a1).mp z) (bI_0.mp y)⟩)
  · have h1 := (k7 a1).mp z
    have h0 := (k7 a0).mp z2
    obtain ⟨k, hk, rfl⟩ := z
    obtain ⟨v, hv, rfl⟩ := z2
    refine c_isUnder hv hk ?_
    have hun := un_ok v hv k hk
    have ref : ∀ F : Int32 → St → Prop, (unF 7 v k = true → F (nI v) τ) → (¬ unF 7 v k = true → F (-12) τ) → EI (e + 2) idsR Y_X7_taken [.ref 0, .int (nI v), .int (nI k)] τ F := by
      intro F F1 F0
      refine fl_X7_taken hR (fun P47 H47 => kR_in ⟨fun _ => kR_in ⟨fun _ => ⟨fun y => H47 _ (F1 (hun.mpr (Or.inl ((nI_eq (b := 0) (by omega) (by decide)).mp y)))), fun y0 => ⟨fun y => H47 _ (F1 (hun.mpr (Or.inr (Or.inl ((nI_eq (by omega) (by omega)).mp y))))), fun y1 => ⟨fun y2 => F0 (fun q => ?_), fun y2 => ⟨fun y3 => F0 (fun q => ?_), fun y3 => H47 _ (F1 (hun.mpr (Or.inr (Or.inr ⟨(nI_eq (b := 2) (by omega) (by decide)).mp y2, (nI_eq (b := 5) (by omega) (by decide)).mp y3⟩))))⟩⟩⟩⟩, fun y => absurd h0 (bI_0.mp y)⟩, fun y => absurd h1 (bI_0.mp y)⟩)
      · rcases hun.mp q with q | q | q
        · exact y0 (by rw [q]; rfl)
        · exact y1 (by rw [q])
        · exact y2 (by rw [q.1]; rfl)
      · rcases hun.mp q with q | q | q
        · exact y0 (by rw [q]; rfl)
        · exact y1 (by rw [q])
        · exact y3 (by rw [q.2]; rfl)
    cases hb : unF 7 v k with
    | false => exact ⟨fun _ => ref _ (fun y => by rw [hb] at y; cases y) (fun _ => hQ _ _ _ h), fun y => absurd rfl y⟩
    | true => exact ⟨fun y => absurd y n1_0, fun _ => ref _ (fun _ => hQ _ _ _ h) (fun y => absurd hb y)⟩
theorem s_count {a0 : Int32} (h : Inv nc σ τ) (hQ : ∀ x σ' τ', Inv nc σ' τ' → Q x σ' x τ') : BI (d + 1) (e + 1) nc Y_X6_count Y_X7_count [.int a0] σ τ Q := by
  have hn := h.nc
  obtain ⟨Rs, G, ps, hi⟩ := h.op
  obtain ⟨bs, ⟨p1, -⟩, m1, -⟩ := h.2.2.2.1
  obtain ⟨n, -, g1, g2, -⟩ := h.2.2.2.2.2.2.1
  refine fl_X6_count (h100 hn) ?_
  rw [h.2.1.1, hi.1.2.1, show rf 100 4 = 105 from rfl, p1, r7, hi.2.1.made, show rf 100 9 = 110 from rfl, g1]
  have ref : ∀ F : Int32 → St → Prop, ((a0 = 0 → F (nI nc) τ) ∧ (a0 = 1 → F (nI Rs.length) τ) ∧ (a0 = 2 → F (nI bs.length) τ) ∧ (a0 = 3 → F (nI ps.length) τ) ∧ (a0 = 4 → F (nI n) τ) ∧ (¬ a0 = 0 → ¬ a0 = 1 → ¬ a0 = 2 → ¬ a0 = 3 → ¬ a0 = 4 → F (-2) τ)) → EI (e + 1) idsR Y_X7_count [.ref 0, .int a0] τ F := by
    intro F hF
    refine fl_X7_count hR ?_
    rw [h.r0, hi.1.2.2.1, m1, hi.2.2.1.made, g2]
    exact hF
  have all : ∀ x F, F = (fun y τ' => Q x σ y τ') → F x τ := fun x F e => by rw [e]; exact hQ _ _ _ h
  refine ⟨fun z => ref _ ?_, fun z => ref _ ?_, fun z => ref _ ?_, fun z => ref _ ?_, fun z => ref _ ?_, fun z0 z1 z2 z3 z4 => ref _ ?_⟩
  · subst z; exact ⟨fun _ => hQ _ _ _ h, fun y => absurd y (by decide), fun y => absurd y (by decide), fun y => absurd y (by decide), fun y => absurd y (by decide), fun y => absurd rfl y⟩
  · subst z; exact ⟨fun y => absurd y (by decide), fun _ => hQ _ _ _ h, fun y => absurd y (by decide), fun y => absurd y (by decide), fun y => absurd y (by decide), fun _ y => absurd rfl y⟩
  · subst z; exact ⟨fun y => absurd y (by decide), fun y => absurd y (by decide), fun _ => hQ _ _ _ h, fun y => absurd y (by decide), fun y => absurd y (by decide), fun _ _ y => absurd rfl y⟩
  · subst z; exact ⟨fun y => absurd y (by decide), fun y => absurd y (by decide), fun y => absurd y (by decide), fun _ => hQ _ _ _ h, fun y => absurd y (by decide), fun _ _ _ y => absurd rfl y⟩
  · subst z; exact ⟨fun y => absurd y (by decide), fun y => absurd y (by decide), fun y => absurd y (by decide), fun y => absurd y (by decide), fun _ => hQ _ _ _ h, fun _ _ _ _ y => absurd rfl y⟩
  · exact ⟨fun y => absurd y z0, fun y => absurd y z1, fun y => absurd y z2, fun y => absurd y z3, fun y => absurd y z4, fun _ _ _ _ _ => hQ _ _ _ h⟩
/-- tapes alone changed -/
theorem Inv.tp {σ' τ' : St} (h : Inv nc σ τ) (e1 : ∀ x, x ≠ 111 → x ≠ 112 → gi σ' x = gi σ x) (e2 : ∀ x, x ≠ 47 → x ≠ 48 → gi τ' x = gi τ x) (ht : ITp σ' τ') : Inv nc σ' τ' :=
  h.chg (fun x _ => x = 111 ∨ x = 112) (fun x k => x = 47 ∨ x = 48) (fun x k hx => by rw [e1 x (by omega) (by omega)]) (fun x k hx => by rw [e2 x (by omega) (by omega)]) (Or.inr ⟨fun x k hx => by omega, fun x k hx => by omega⟩) (Or.inr ⟨fun x k hx => by omega, fun x k hx => by omega⟩) (Or.inr ⟨fun x k hx => by omega, fun x k hx => by omega⟩) (fun x k hx => by omega) (fun k => by omega) (Or.inr ⟨fun x k hx => by omega, fun x k hx => by omega⟩) (Or.inl ht) ⟨fun x k hx => by omega, fun x k hx => by omega⟩
theorem Inv.tps {σ' τ' : St} (h : Inv nc σ τ) (e1 : ∀ x, gi σ' x = gi σ x) (e2 : ∀ x, gi τ' x = gi τ x) (ht : RTp σ' τ') : Inv nc σ' τ' :=
  h.tp (fun x _ _ => e1 x) (fun x _ _ => e2 x) ⟨ht, fun t ht z => by
    rw [e2] at z ⊢
    exact h.2.2.2.2.2.2.2.1.2 t ht z⟩
theorem Inv.rt (h : Inv nc σ τ) : RTp σ τ := h.2.2.2.2.2.2.2.1.1
theorem t_item {a0 a1 : Int32} {a2 : Int64} (h : Inv nc σ τ) (hQ : ∀ x σ' τ', Inv nc σ' τ' → Q x σ' x τ') (hde : d = e) : BI (d + 2) (e + 3) nc Y_X6_item Y_X7_item [.int a0, .int a1, .long a2] σ τ Q := by
  subst hde
  exact s_item h.nc h.rt (fun x => hQ _ _ _ h) (fun t i v ht hi => hQ _ _ _ (h.tps (fun x => gi_sl_o _ _ _ _ _) (fun x => gi_sl_o _ _ _ _ _) (RTp_item h.rt v ht hi)))
theorem t_shift {a0 a1 a2 a3 a4 : Int32} (h : Inv nc σ τ) (hQ : ∀ x σ' τ', Inv nc σ' τ' → Q x σ' x τ') (hde : d = e) : BI (d + 2) (e + 3) nc Y_X6_shift Y_X7_shift [.int a0, .int a1, .int a2, .int a3, .int a4] σ τ Q := by
  subst hde
  exact s_shift h.nc h.rt (fun x => hQ _ _ _ h) (fun t u i j n ht hu hi hj τ' g1 g2 g3 => hQ _ _ _ (h.tps (fun x => rfl) g1 (RTp_shift h.rt ht hu hi hj g1 g2 g3)))
theorem t_read {a0 a1 : Int32} {Q : Int64 → St → Int64 → St → Prop} (h : Inv nc σ τ) (hQ : ∀ x σ' τ', Inv nc σ' τ' → Q x σ' x τ') :
    EL (d + 2) (idsC nc) Y_X6_read [.ref 100, .int a0, .int a1] σ (fun x σ' => EL (d + 3) idsR Y_X7_read [.ref 0, .int a0, .int a1] τ (fun y τ' => Q x σ' y τ')) :=
  s_read h.nc h.rt (fun x => hQ _ _ _ h)
theorem t_tape {a0 a1 a2 : Int32} (h : Inv nc σ τ) (hQ : ∀ x σ' τ', Inv nc σ' τ' → Q x σ' x τ') : BI (d + 2) (e + 3) nc Y_X6_tape Y_X7_tape [.int a0, .int a1, .int a2] σ τ Q := by
  have h1 : ∀ x, Q x σ x τ := fun x => hQ _ _ _ h
  refine kC_tape h.nc (fun v => ?_) (fun v b => ?_) (fun v b c1 c2 => ?_) (fun t ht ea nb ns σ' i1 i2 i3 i4 i5 => ?_)
  · exact kR_tape (fun _ => h1 _) (fun q => absurd q v) (fun q => absurd q v) (fun t ht e => absurd (e ▸ ⟨nI_pos' (by omega), (nI_leI (b := 5) (by omega) (by decide)).mpr (by omega)⟩) v)
  · exact kR_tape (fun q => absurd v q) (fun _ _ => h1 _) (fun _ q => absurd b q) (fun _ _ _ q => absurd b q)
  · exact kR_tape (fun q => absurd v q) (fun _ q => absurd q b) (fun _ _ _ _ => h1 _) (fun _ _ _ _ q => absurd ⟨c1, c2⟩ q)
  · have v : Tp a0 := ea ▸ ⟨nI_pos' (by omega), (nI_leI (b := 5) (by omega) (by decide)).mpr (by omega)⟩
    refine kR_tape (fun q => absurd v q) (fun _ q => absurd q nb) (fun _ _ c1 c2 => absurd ⟨c1, c2⟩ ns) (fun t2 ht2 ea2 _ _ τ' j1 j2 j3 j4 j5 => ?_)
    have : t2 = t := (nI_eq (by omega) (by omega)).mp (ea2.symm.trans ea)
    subst this
    refine hQ _ _ _ (h.tp i1 j1 ⟨fun w hw => ?_, fun w hw hz => ?_⟩)
    · obtain ⟨e1, e2, e3, e4, e5⟩ := h.rt w hw
      rw [i2, i3, j2, j3]
      have r1 : -1 ≤ a1 ∧ a1 ≤ 4 := Classical.byContradiction (fun z => nb (Or.inl z))
      by_cases hwt : w = t2
      · subst hwt
        rw [pk_us, pk_us, pk_us, pk_us]
        refine ⟨rfl, rfl, ?_, r1, fun i hi => by rw [i4 i hi, j4 i hi]⟩
        unfold tpSz
        split
        · rename_i h0
          obtain ⟨n, hn60, rfl⟩ := rng (n := 60) (by decide) (nlt.mp (fun z => ns ⟨h0, z⟩)) (nlt.mp (fun z => nb (Or.inr ⟨h0, z⟩)))
          exact ⟨n, hn60, rfl⟩
        · exact ⟨0, by omega, rfl⟩
      · simp only [upd, if_neg hwt]
        refine ⟨e1, e2, e3, e4, fun i hi => ?_⟩
        rw [i5 _ (by omega), j5 _ (by omega)]
        exact e5 i hi
    · rw [j2] at hz
      rw [j3]
      by_cases hwt : w = t2
      · subst hwt
        rw [pk_us] at hz ⊢
        unfold tpSz
        rw [if_neg (fun y => Int32.not_le.mpr hz y)]
      · simp only [upd, if_neg hwt] at hz ⊢
        exact h.2.2.2.2.2.2.2.1.2 w hw hz
end SM
