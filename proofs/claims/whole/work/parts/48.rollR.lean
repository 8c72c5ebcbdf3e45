/-! PURE: the reference's roll -/
/-- the end's sort of a closed stage -/
def enM (s : SF) : Int32 := if s 1 = 1 then 1 else if s 1 = 3 then 3 else if s 1 = 4 then 4 else 0
theorem enM_0 {s : SF} : enM s = 0 ↔ ¬ clM s := by
  unfold enM clM
  by_cases h1 : s 1 = 1
  · rw [if_pos h1]; exact ⟨fun h => absurd h (by decide), fun h => absurd (Or.inl h1) h⟩
  · rw [if_neg h1]
    by_cases h3 : s 1 = 3
    · rw [if_pos h3]; exact ⟨fun h => absurd h (by decide), fun h => absurd (Or.inr (Or.inl h3)) h⟩
    · rw [if_neg h3]
      by_cases h4 : s 1 = 4
      · rw [if_pos h4]; exact ⟨fun h => absurd h (by decide), fun h => absurd (Or.inr (Or.inr h4)) h⟩
      · rw [if_neg h4]; exact ⟨fun _ z => z.elim h1 (fun z => z.elim h3 h4), fun _ => rfl⟩
theorem enM_c {s : SF} (h : clM s) : enM s = s 1 := by
  unfold enM
  rcases h with h | h | h
  · rw [if_pos h, h]
  · rw [if_neg (by rw [h]; decide), if_pos h, h]
  · rw [if_neg (by rw [h]; decide), if_neg (by rw [h]; decide), if_pos h, h]
/-- the reference's stage j -/
def StR (τ : St) (j : Nat) (s : SF) : Prop := gi τ 28 j = s 6 ∧ gi τ 29 j = s 3 ∧ gi τ 30 j = s 4 ∧ gi τ 31 j = s 5 ∧ gi τ 32 j = s 1 ∧ gi τ 33 j = enM s ∧ gi τ 34 j = s 7 ∧ gi τ 35 j = s 8 ∧ gi τ 36 j = s 2
theorem StR.same {τ τ' : St} {j : Nat} {s : SF} (h : StR τ j s) (e : ∀ x, 28 ≤ x → x ≤ 36 → gi τ' x j = gi τ x j) : StR τ' j s := by
  unfold StR at h ⊢
  rw [e 28 (by decide) (by decide), e 29 (by decide) (by decide), e 30 (by decide) (by decide), e 31 (by decide) (by decide), e 32 (by decide) (by decide), e 33 (by decide) (by decide), e 34 (by decide) (by decide), e 35 (by decide) (by decide), e 36 (by decide) (by decide)]
  exact h
/-- the reference's roll: by rules r but for a clause, with PLEAS -/
def RoR (τ : St) (r : Nat) (R : Ru) (wo : Option Nat) (ps : List Nat) : Prop :=
  gi τ 0 24 = nI r ∧ gi τ 0 25 = woR r wo ∧ gi τ 0 26 = nI ps.length ∧ (∀ j, j ≤ ps.length → StR τ j (stg R wo (ps.drop (ps.length - j)))) ∧ ∀ j m, ps.reverse[j]? = some m → gi τ 27 j = nI m
def RgR (τ : St) (r : Nat) (R : Ru) (wo : Option Nat) (ps : List Nat) : Prop := r < 5 ∧ RuR τ r R ∧ okR R ∧ woOk wo ∧ lgl R wo ps
theorem RoR.top {τ : St} {r : Nat} {R : Ru} {wo : Option Nat} {ps : List Nat} (h : RoR τ r R wo ps) : StR τ ps.length (stg R wo ps) := by
  have := h.2.2.2.1 ps.length (Nat.le_refl _)
  rw [Nat.sub_self] at this
  exact this
theorem RuR_same {τ τ' : St} {r : Nat} {R : Ru} (h : RuR τ r R) (e : ∀ x, 13 ≤ x → x ≤ 19 → gi τ' x = gi τ x) : RuR τ' r R := by
  obtain ⟨h1, h2, h3⟩ := h
  refine ⟨h1, by rw [e 13 (by decide) (by decide)]; exact h2, fun c w x l hc => ?_⟩
  rw [e 14 (by decide) (by decide), e 15 (by decide) (by decide), e 16 (by decide) (by decide), e 17 (by decide) (by decide), e 18 (by decide) (by decide), e 19 (by decide) (by decide)]
  exact h3 c w x l hc
theorem RoR_same {τ τ' : St} {r : Nat} {R : Ru} {wo : Option Nat} {ps : List Nat} (h : RoR τ r R wo ps) (e0 : ∀ k, 24 ≤ k → k ≤ 26 → gi τ' 0 k = gi τ 0 k) (e : ∀ x, 27 ≤ x → x ≤ 36 → gi τ' x = gi τ x) : RoR τ' r R wo ps :=
  ⟨by rw [e0 24 (by decide) (by decide)]; exact h.1, by rw [e0 25 (by decide) (by decide)]; exact h.2.1, by rw [e0 26 (by decide) (by decide)]; exact h.2.2.1, fun j hj => (h.2.2.2.1 j hj).same (fun x h1 h2 => by rw [e x (by omega) (by omega)]), fun j m hm => by rw [e 27 (by decide) (by decide)]; exact h.2.2.2.2 j m hm⟩
theorem faR_faM {τ : St} {n : Nat} {s : SF} (h : StR τ n s) : ∀ f, f < 5 → faR τ n f = faM n s f := by
  obtain ⟨-, e3, e4, e5, e1, -⟩ := h
  intro f hf
  rcases (by omega : f = 0 ∨ f = 1 ∨ f = 2 ∨ f = 3 ∨ f = 4) with rfl | rfl | rfl | rfl | rfl
  · rfl
  · exact e3
  · exact e4
  · show nI (pc (gi τ 31 n).toNatClampNeg) = nI (pc (s 5).toNatClampNeg); rw [e5]
  · exact e1
/-- what of the reference a PLEA made writes -/
def mkT (τ : St) (n m : Nat) (s : SF) : St :=
  si (si (si (si (si (si (si (si (si (si (si τ 27 n (nI m)) 28 (n + 1) (s 6)) 29 (n + 1) (s 3)) 30 (n + 1) (s 4)) 31 (n + 1) (s 5)) 32 (n + 1) (s 1)) 33 (n + 1) (enM s)) 34 (n + 1) (s 7)) 35 (n + 1) (s 8)) 36 (n + 1) (s 2)) 0 26 (nI (n + 1))
theorem mkT_out (τ : St) (n m : Nat) (s : SF) : (∀ o, (o < 27 ∨ 36 < o) → o ≠ 0 → gi (mkT τ n m s) o = gi τ o) ∧ (∀ k, k ≠ 26 → gi (mkT τ n m s) 0 k = gi τ 0 k) ∧ ∀ o, gl (mkT τ n m s) o = gl τ o := by
  refine ⟨fun o h1 h2 => ?_, fun k hk => ?_, fun o => rfl⟩
  · unfold mkT
    rw [gi_si_o _ _ _ h2, gi_si_o _ _ _ (by omega), gi_si_o _ _ _ (by omega), gi_si_o _ _ _ (by omega), gi_si_o _ _ _ (by omega), gi_si_o _ _ _ (by omega), gi_si_o _ _ _ (by omega), gi_si_o _ _ _ (by omega), gi_si_o _ _ _ (by omega), gi_si_o _ _ _ (by omega), gi_si_o _ _ _ (by omega)]
  · unfold mkT
    rw [gi_ne_k _ _ _ _ hk]
    simp only [gi_si]
    simp
theorem mkT_low (τ : St) (n m : Nat) (s : SF) {x j : Nat} (h1 : 28 ≤ x) (h2 : x ≤ 36) (hj : j ≠ n + 1) : gi (mkT τ n m s) x j = gi τ x j := by
  unfold mkT
  simp only [gi_si]
  simp [hj, show x ≠ 27 by omega, show x ≠ 0 by omega]
theorem mkT_27 (τ : St) (n m : Nat) (s : SF) {j : Nat} : gi (mkT τ n m s) 27 j = if j = n then nI m else gi τ 27 j := by
  unfold mkT
  simp only [gi_si]
  simp
theorem mkT_new (τ : St) (n m : Nat) (s : SF) : StR (mkT τ n m s) (n + 1) s ∧ gi (mkT τ n m s) 0 26 = nI (n + 1) := by
  unfold mkT StR
  simp only [gi_si]
  simp
theorem RoR_mk {τ : St} {r m : Nat} {R : Ru} {wo : Option Nat} {ps : List Nat} (h : RoR τ r R wo ps) : RoR (mkT τ ps.length m (stg R wo (m :: ps))) r R wo (m :: ps) := by
  obtain ⟨h1, h2, h3, h4, h5⟩ := h
  have o := mkT_out τ ps.length m (stg R wo (m :: ps))
  have nw := mkT_new τ ps.length m (stg R wo (m :: ps))
  refine ⟨by rw [o.2.1 24 (by decide)]; exact h1, by rw [o.2.1 25 (by decide)]; exact h2, by rw [nw.2, List.length_cons], fun j hj => ?_, fun j k hk => ?_⟩
  · rw [List.length_cons] at hj
    rcases Nat.lt_or_ge j (ps.length + 1) with q | q
    · rw [drop_cons_sub m ps (by omega)]
      exact (h4 j (by omega)).same (fun x hx1 hx2 => mkT_low _ _ _ _ hx1 hx2 (by omega))
    · have : j = ps.length + 1 := by omega
      subst this
      rw [List.length_cons, Nat.sub_self]
      exact nw.1
  · rw [mkT_27]
    rw [List.reverse_cons] at hk
    by_cases hj : j = ps.length
    · rw [if_pos hj]
      subst hj
      rw [List.getElem?_append_right (by simp)] at hk
      simp at hk
      rw [hk]
    · rw [if_neg hj]
      have hlt : j < ps.reverse.length := by
        have := (List.getElem?_eq_some_iff.mp hk).1
        rw [List.length_append, List.length_reverse, List.length_singleton] at this
        rw [List.length_reverse]; omega
      rw [List.getElem?_append_left hlt] at hk
      exact h5 j k hk
theorem kR_make {d : Nat} {τ : St} {Q : St → Prop} {r m : Nat} {R : Ru} {wo : Option Nat} {ps : List Nat} (hK : RoR τ r R wo ps) (hG : RgR τ r R wo ps) (hl : ps.length < 7) (hm : m ∈ PLn)
    (h : ∀ τ1, eqP τ τ1 → Q (mkT τ1 ps.length m (stg R wo (m :: ps)))) : EV (d + 5) idsR Y_X7_make [.ref 0, .int (nI m)] τ Q := by
  obtain ⟨hr, hRR, hok, hwo, hlg⟩ := hG
  obtain ⟨m1, m2, m3, m4⟩ := PLn_lt m hm
  have hgs := lgl_gs hlg
  obtain ⟨k24, k25, k26, k6, k27⟩ := id hK
  have htop := hK.top
  obtain ⟨⟨p, q, hp, hq, e3, e6, hb⟩, h4, ⟨ad, had, ead⟩, -, -⟩ := hgs
  have k10 : (nI m) / 10 = nI (m / 10) := by rw [show (10 : Int32) = nI 10 from rfl]; exact pk_div (by omega) (by decide) (by decide)
  have r10 : (nI m) - (nI m) / 10 * 10 = nI (m % 10) := by rw [show (10 : Int32) = nI 10 from rfl]; exact pk_rem (by omega) (by decide) (by decide)
  have hk : ∀ j : Nat, j ≤ 6 → (nI (m / 10) = nI j ↔ m / 10 = j) := fun j hj => nI_eq (by omega) (by omega)
  refine fl_X7_make hR (fun P28 P33 P76 P102 P132 P150 P174 P202 P207 P240 P241 P276 P277 H28 H33 H76 H102 H132 H150 H174 H202 H207 H240 H241 H276 H277 x45 e45 x46 e46 => ?_)
  rw [k10] at e46
  rw [k26] at e45
  subst e45 e46
  rw [r10] at H33 H76
  simp only [rf0] at H33 H76 H102 H132 H150 H174 H202 H207 H240 H241 H276 H277
  refine kR_some hr hRR hok (Or.inr rfl) hwo k24 k25 (by omega) k26 (by rw [htop.2.2.2.1, ead]; exact ⟨ad, had, rfl⟩) (fun τ1 hE => ?_)
  rw [smM_congr (faR_faM htop) hok (Or.inr rfl)]
  have hQ := h τ1 hE
  -- names for what is written
  have htop1 : StR τ1 ps.length (stg R wo ps) := htop.same (fun x h1 h2 => by rw [hE.1 x (by omega)])
  obtain ⟨t6, t3, t4, t5, t1, -, t7, t8, -⟩ := htop1
  have hs' : stg R wo (m :: ps) = flw (smM R wo 1 (nI (m / 10)) (faM ps.length (stg R wo ps))) (stg R wo ps) m := rfl
  rw [hs'] at hQ
  generalize smM R wo 1 (nI (m / 10)) (faM ps.length (stg R wo ps)) = sl at hQ ⊢
  generalize stg R wo ps = s at *
  generalize ps.length = n at *
  have hin : vp_in (nI n) 8 := vp_in_nI (by omega) (by decide)
  have hin1 : vp_in (nI (n + 1)) 8 := vp_in_nI (by omega) (by decide)
  have en : (nI n).toNatClampNeg = n := cl_ix n (by omega)
  have en1 : (nI (n + 1)).toNatClampNeg = n + 1 := cl_ix _ (by omega)
  have n1 : nI n + 1 = nI (n + 1) := nI_1 n
  have T27 : ∀ T, T = si τ1 27 n (nI m) → ∀ v5 : Int32, (v5 = 0 ↔ ¬ turns m) → (v5 = 0 ∨ v5 = 1) → True := fun _ _ _ _ _ => trivial
  clear T27
  -- from the end back
  have E277 : ∀ T t0 t1, gi T 0 26 = nI n → t1 + t0 = flw sl s m 8 → si (si (si T 35 (n + 1) (flw sl s m 8)) 36 (n + 1) (flw sl s m 2)) 0 26 (nI (n + 1)) = mkT τ1 n m (flw sl s m) → P277 (nI n) (nI sl.toNat) t0 t1 (nI (n + 1)) 35 T := by
    intro T t0 t1 g0 g1 g2
    refine H277 _ _ _ _ _ _ _ (fun _ => ⟨hin1, fun s41 e41 => ?_⟩)
    rw [g1, en1] at e41
    rw [n1]
    refine ⟨hin1, fun s43 e43 s44 e44 => ?_⟩
    rw [en1, nar_b] at e43
    have g26 : gi s43 0 26 = nI n := by rw [e43, gi_ne_o _ _ _ _ (by decide), e41, gi_ne_o _ _ _ _ (by decide), g0]
    rw [g26, n1] at e44
    have : s44 = mkT τ1 n m (flw sl s m) := by rw [e44, e43, e41, ← g2]; rfl
    rw [this]
    exact hQ
  have E241 : ∀ T t0 t1, gi T 0 26 = nI n → gi T 35 n = s 8 → gi T 30 n = s 4 → t1 + t0 = flw sl s m 7 → si (si (si (si T 34 (n + 1) (flw sl s m 7)) 35 (n + 1) (flw sl s m 8)) 36 (n + 1) (flw sl s m 2)) 0 26 (nI (n + 1)) = mkT τ1 n m (flw sl s m) → P241 (nI n) (nI (m / 10)) (nI sl.toNat) t0 t1 (nI (n + 1)) 34 T := by
    intro T t0 t1 g0 g35 g30 g1 g2
    refine H241 _ _ _ _ _ _ _ _ (fun _ => ⟨hin1, fun s35 e35 => ?_⟩)
    rw [g1, en1] at e35
    have f26 : gi s35 0 26 = nI n := by rw [e35, gi_ne_o _ _ _ _ (by decide), g0]
    have f35 : gi s35 35 n = s 8 := by rw [e35, gi_ne_o _ _ _ _ (by decide), g35]
    have f30 : gi s35 30 n = s 4 := by rw [e35, gi_ne_o _ _ _ _ (by decide), g30]
    rw [en, f35, f30, n1]
    subst e35
    have z : (m / 10 = 6 ∧ s 4 = 1) → P277 (nI n) (nI sl.toNat) 1 (s 8) (nI (n + 1)) 35 (si T 34 (n + 1) (flw sl s m 7)) := fun hc => E277 _ _ _ f26 (by show s 8 + 1 = (if m / 10 = 6 ∧ s 4 = 1 then s 8 + 1 else s 8); rw [if_pos hc]) g2
    have z0 : ¬ (m / 10 = 6 ∧ s 4 = 1) → P276 (nI n) (nI sl.toNat) (s 8) (nI (n + 1)) 35 (si T 34 (n + 1) (flw sl s m 7)) := fun hc => H276 _ _ _ _ _ _ (fun _ => E277 _ _ _ f26 (by show s 8 + 0 = (if m / 10 = 6 ∧ s 4 = 1 then s 8 + 1 else s 8); rw [if_neg hc, Int32.add_zero]) g2)
    exact ⟨hin, fun c => z0 (fun y => c ((hk 6 (by decide)).mpr y.1)), fun c => ⟨hin, fun c2 => z0 (fun y => c2 y.2), fun c2 => z ⟨(hk 6 (by decide)).mp c, c2⟩⟩⟩
  have E207 : ∀ T t0, gi T 0 26 = nI n → gi T 34 n = s 7 → gi T 35 n = s 8 → gi T 30 n = s 4 → t0 = enM (flw sl s m) → si (si (si (si (si T 33 (n + 1) (enM (flw sl s m))) 34 (n + 1) (flw sl s m 7)) 35 (n + 1) (flw sl s m 8)) 36 (n + 1) (flw sl s m 2)) 0 26 (nI (n + 1)) = mkT τ1 n m (flw sl s m) → P207 (nI n) (nI (m / 10)) (nI sl.toNat) t0 (nI (n + 1)) 33 T := by
    rintro T t0 g0 g34 g35 g30 rfl g2
    refine H207 _ _ _ _ _ _ _ (fun _ => ⟨hin1, fun s29 e29 => ?_⟩)
    rw [en1] at e29
    have f26 : gi s29 0 26 = nI n := by rw [e29, gi_ne_o _ _ _ _ (by decide), g0]
    have f34 : gi s29 34 n = s 7 := by rw [e29, gi_ne_o _ _ _ _ (by decide), g34]
    have f35 : gi s29 35 n = s 8 := by rw [e29, gi_ne_o _ _ _ _ (by decide), g35]
    have f30 : gi s29 30 n = s 4 := by rw [e29, gi_ne_o _ _ _ _ (by decide), g30]
    rw [en, f34, f30, n1]
    subst e29
    have z : (m / 10 = 6 ∧ s 4 = 0) → P241 (nI n) (nI (m / 10)) (nI sl.toNat) 1 (s 7) (nI (n + 1)) 34 (si T 33 (n + 1) (enM (flw sl s m))) := fun hc => E241 _ _ _ f26 f35 f30 (by show s 7 + 1 = (if m / 10 = 6 ∧ s 4 = 0 then s 7 + 1 else s 7); rw [if_pos hc]) g2
    have z0 : ¬ (m / 10 = 6 ∧ s 4 = 0) → P240 (nI n) (nI (m / 10)) (nI sl.toNat) (s 7) (nI (n + 1)) 34 (si T 33 (n + 1) (enM (flw sl s m))) := fun hc => H240 _ _ _ _ _ _ _ (fun _ => E241 _ _ _ f26 f35 f30 (by show s 7 + 0 = (if m / 10 = 6 ∧ s 4 = 0 then s 7 + 1 else s 7); rw [if_neg hc, Int32.add_zero]) g2)
    exact ⟨hin, fun c => z0 (fun y => c ((hk 6 (by decide)).mpr y.1)), fun c => ⟨hin, fun c2 => z0 (fun y => c2 y.2), fun c2 => z ⟨(hk 6 (by decide)).mp c, c2⟩⟩⟩
  have E174 : ∀ T v5 t0, (v5 = 0 ↔ ¬ turns m) → gi T 0 26 = nI n → gi T 34 n = s 7 → gi T 35 n = s 8 → gi T 30 n = s 4 → t0 = flw sl s m 5 → si (si (si (si (si (si (si T 31 (n + 1) (flw sl s m 5)) 32 (n + 1) (flw sl s m 1)) 33 (n + 1) (enM (flw sl s m))) 34 (n + 1) (flw sl s m 7)) 35 (n + 1) (flw sl s m 8)) 36 (n + 1) (flw sl s m 2)) 0 26 (nI (n + 1)) = mkT τ1 n m (flw sl s m) → P174 (nI n) (nI (m / 10)) (nI sl.toNat) v5 t0 (nI (n + 1)) 31 T := by
    rintro T v5 t0 hv g0 g34 g35 g30 rfl g2
    refine H174 _ _ _ _ _ _ _ _ (fun _ => ⟨hin1, fun s23 e23 => ?_⟩)
    rw [en1] at e23
    rw [n1]
    refine ⟨hin1, fun s25 e25 => ?_⟩
    rw [en1] at e25
    have f26 : gi s25 0 26 = nI n := by rw [e25, gi_ne_o _ _ _ _ (by decide), e23, gi_ne_o _ _ _ _ (by decide), g0]
    have f34 : gi s25 34 n = s 7 := by rw [e25, gi_ne_o _ _ _ _ (by decide), e23, gi_ne_o _ _ _ _ (by decide), g34]
    have f35 : gi s25 35 n = s 8 := by rw [e25, gi_ne_o _ _ _ _ (by decide), e23, gi_ne_o _ _ _ _ (by decide), g35]
    have f30 : gi s25 30 n = s 4 := by rw [e25, gi_ne_o _ _ _ _ (by decide), e23, gi_ne_o _ _ _ _ (by decide), g30]
    subst e25 e23
    have en1' : flw sl s m 1 = nI (m / 10) := rfl
    have hen : enM (flw sl s m) = if m / 10 = 1 then 1 else if m / 10 = 3 then 3 else if m / 10 = 4 then 4 else 0 := by
      unfold enM
      rw [en1']
      simp only [show ∀ j : Nat, j ≤ 6 → ((nI (m / 10) = nI j) = (m / 10 = j)) from fun j hj => propext (hk j hj), show (1 : Int32) = nI 1 from rfl, show (3 : Int32) = nI 3 from rfl, show (4 : Int32) = nI 4 from rfl]
      by_cases h1 : m / 10 = 1
      · rw [if_pos ((hk 1 (by decide)).mpr h1), if_pos h1]
      · rw [if_neg (fun z => h1 ((hk 1 (by decide)).mp z)), if_neg h1]
        by_cases h3 : m / 10 = 3
        · rw [if_pos ((hk 3 (by decide)).mpr h3), if_pos h3]
        · rw [if_neg (fun z => h3 ((hk 3 (by decide)).mp z)), if_neg h3]
          by_cases h4 : m / 10 = 4
          · rw [if_pos ((hk 4 (by decide)).mpr h4), if_pos h4]
          · rw [if_neg (fun z => h4 ((hk 4 (by decide)).mp z)), if_neg h4]
    have go0 : (turns m ∨ m / 10 = 6) → P202 (nI n) (nI (m / 10)) (nI sl.toNat) (nI (n + 1)) 33 (si (si T 31 (n + 1) (flw sl s m 5)) 32 (n + 1) (nI (m / 10))) := fun hc =>
      H202 _ _ _ _ _ _ (fun _ => E207 _ _ f26 f34 f35 f30 (by rw [hen]; unfold turns at hc; rw [if_neg (by omega), if_neg (by omega), if_neg (by omega)]) g2)
    refine ⟨fun c => go0 (Or.inl (Classical.byContradiction (fun y => c (hv.mpr y)))), fun c => ⟨fun c2 => ?_, fun c2 => go0 (Or.inr ((hk 6 (by decide)).mp c2))⟩⟩
    have nt := hv.mp c
    refine E207 _ _ f26 f34 f35 f30 ?_ g2
    have n6 : m / 10 ≠ 6 := fun z => c2 ((hk 6 (by decide)).mpr z)
    rw [hen]
    unfold turns at nt
    rcases (by omega : m / 10 = 1 ∨ m / 10 = 3 ∨ m / 10 = 4) with z | z | z <;> rw [z] <;> rfl
  have E132 : ∀ T v5 t0, (v5 = 0 ↔ ¬ turns m) → gi T 0 26 = nI n → gi T 34 n = s 7 → gi T 35 n = s 8 → gi T 30 n = s 4 → gi T 31 n = s 5 → gi T 29 n = s 3 → t0 = flw sl s m 4 → si (si (si (si (si (si (si (si T 30 (n + 1) (flw sl s m 4)) 31 (n + 1) (flw sl s m 5)) 32 (n + 1) (flw sl s m 1)) 33 (n + 1) (enM (flw sl s m))) 34 (n + 1) (flw sl s m 7)) 35 (n + 1) (flw sl s m 8)) 36 (n + 1) (flw sl s m 2)) 0 26 (nI (n + 1)) = mkT τ1 n m (flw sl s m) → P132 (nI n) (nI (m / 10)) (nI sl.toNat) v5 t0 (nI (n + 1)) 30 T := by
    rintro T v5 t0 hv g0 g34 g35 g30 g31 g29 rfl g2
    refine H132 _ _ _ _ _ _ _ _ (fun _ => ⟨hin1, fun s16 e16 => ?_⟩)
    rw [en1] at e16
    have f26 : gi s16 0 26 = nI n := by rw [e16, gi_ne_o _ _ _ _ (by decide), g0]
    have f34 : gi s16 34 n = s 7 := by rw [e16, gi_ne_o _ _ _ _ (by decide), g34]
    have f35 : gi s16 35 n = s 8 := by rw [e16, gi_ne_o _ _ _ _ (by decide), g35]
    have f30 : gi s16 30 n = s 4 := by rw [e16, gi_ne_k _ _ _ _ (by omega), g30]
    have f31 : gi s16 31 n = s 5 := by rw [e16, gi_ne_o _ _ _ _ (by decide), g31]
    have f29 : gi s16 29 n = s 3 := by rw [e16, gi_ne_o _ _ _ _ (by decide), g29]
    rw [n1, en, f31]
    subst e16
    have go : (m / 10 = 2 ∨ m / 10 = 3) → P150 (nI n) (nI (m / 10)) (nI sl.toNat) v5 (nI (n + 1)) 31 (si T 30 (n + 1) (flw sl s m 4)) := fun hc =>
      H150 _ _ _ _ _ _ _ (fun _ => ⟨hin, hin, by
        rw [en, f31, f29]
        exact E174 _ _ _ hv f26 f34 f35 f30 (by show s 5 ||| ((1 : Int32) <<< (s 3 &&& 31)) = (if m / 10 = 2 ∨ m / 10 = 3 then s 5 ||| ((1 : Int32) <<< (s 3 &&& 31)) else s 5); rw [if_pos hc]) g2⟩)
    exact ⟨fun c => go (Or.inl ((hk 2 (by decide)).mp c)), fun c => ⟨fun c2 => ⟨hin, E174 _ _ _ hv f26 f34 f35 f30 (by show s 5 = (if m / 10 = 2 ∨ m / 10 = 3 then s 5 ||| ((1 : Int32) <<< (s 3 &&& 31)) else s 5); rw [if_neg (fun z => z.elim (fun z => c ((hk 2 (by decide)).mpr z)) (fun z => c2 ((hk 3 (by decide)).mpr z)))]) g2⟩, fun c2 => go (Or.inr ((hk 3 (by decide)).mp c2))⟩⟩
  have E33 : ∀ v5, (v5 = 0 ↔ ¬ turns m) → P33 (nI n) (nI (m / 10)) (nI sl.toNat) v5 τ1 := by
    intro v5 hv
    refine H33 _ _ _ _ _ ⟨hin, fun s2 e2 => ?_⟩
    rw [en] at e2
    have q26 : gi τ1 0 26 = nI n := by rw [hE.1 0 (by decide)]; exact k26
    have E76 : ∀ t0, t0 = flw sl s m 6 → P76 (nI n) (nI (m / 10)) (nI sl.toNat) v5 t0 (nI (n + 1)) 28 s2 := by
      rintro t0 rfl
      refine H76 _ _ _ _ _ _ _ _ (fun _ => ⟨hin1, fun s7 e7 => ?_⟩)
      rw [en1] at e7
      have E102 : ∀ t0, t0 = flw sl s m 3 → P102 (nI n) (nI (m / 10)) (nI sl.toNat) v5 t0 (nI (n + 1)) 29 s7 := by
        rintro t0 rfl
        refine H102 _ _ _ _ _ _ _ _ (fun _ => ⟨hin1, fun s11 e11 => ?_⟩)
        rw [en1] at e11
        have f : ∀ x, 28 ≤ x → x ≤ 36 → gi s11 x n = gi τ1 x n := by
          intro x hx1 hx2
          rw [e11, e7, e2]
          simp only [gi_si]
          simp [show x ≠ 27 by omega]
        have f26 : gi s11 0 26 = nI n := by rw [e11, gi_ne_o _ _ _ _ (by decide), e7, gi_ne_o _ _ _ _ (by decide), e2, gi_ne_o _ _ _ _ (by decide), q26]
        have hfin : ∀ t0, t0 = flw sl s m 4 → P132 (nI n) (nI (m / 10)) (nI sl.toNat) v5 t0 (nI (n + 1)) 30 s11 := fun t0 ht => E132 _ _ _ hv f26 (by rw [f 34 (by decide) (by decide), t7]) (by rw [f 35 (by decide) (by decide), t8]) (by rw [f 30 (by decide) (by decide), t4]) (by rw [f 31 (by decide) (by decide), t5]) (by rw [f 29 (by decide) (by decide), t3]) ht (by rw [e11, e7, e2]; rfl)
        rw [n1, en, f 30 (by decide) (by decide), t4]
        exact ⟨fun c => ⟨hin, hfin _ (by show s 4 = (if turns m then 1 - s 4 else s 4); rw [if_neg (hv.mp c)])⟩, fun c => ⟨hin, hfin _ (by show 1 - s 4 = (if turns m then 1 - s 4 else s 4); rw [if_pos (Classical.byContradiction (fun y => c (hv.mpr y)))])⟩⟩
      have f29 : gi s7 29 n = s 3 := by
        rw [e7, e2]
        simp only [gi_si]
        simp [t3]
      rw [n1, en, f29]
      exact ⟨fun c => ⟨hin, E102 _ (by show s 3 = (if turns m then nI (m % 10) else s 3); rw [if_neg (hv.mp c)])⟩, fun c => E102 _ (by show nI (m % 10) = (if turns m then nI (m % 10) else s 3); rw [if_pos (Classical.byContradiction (fun y => c (hv.mpr y)))])⟩
    have f28 : gi s2 28 n = s 6 := by rw [e2, gi_ne_o _ _ _ _ (by decide), t6]
    rw [n1, en, f28]
    exact ⟨fun c => ⟨hin, E76 _ (by show s 6 = (if turns m then s 6 ||| ((1 : Int32) <<< (nI (m % 10) &&& 31)) else s 6); rw [if_neg (hv.mp c)])⟩, fun c => ⟨hin, E76 _ (by show s 6 ||| ((1 : Int32) <<< (nI (m % 10) &&& 31)) = (if turns m then s 6 ||| ((1 : Int32) <<< (nI (m % 10) &&& 31)) else s 6); rw [if_pos (Classical.byContradiction (fun y => c (hv.mpr y)))])⟩⟩
  rw [bI_b]
  have yes : turns m → P28 (nI n) (nI (m / 10)) (nI sl.toNat) τ1 := fun ht => H28 _ _ _ _ (E33 1 ⟨fun c => absurd c (by decide), fun c => absurd ht c⟩)
  exact ⟨fun c => yes (Or.inl ((hk 2 (by decide)).mp c)), fun c => ⟨fun c2 => E33 0 ⟨fun _ z => z.elim (fun z => c ((hk 2 (by decide)).mpr z)) (fun z => c2 ((hk 5 (by decide)).mpr z)), fun _ => rfl⟩, fun c2 => yes (Or.inr ((hk 5 (by decide)).mp c2))⟩⟩
