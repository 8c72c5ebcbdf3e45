/-! PURE: the class's rolls: begun, gone on with, what may be made -/
theorem RoC_begin {σ : St} {b r : Nat} {R : Ru} {wo : Option Nat} (h1 : gi σ b 10 = 0) (h2 : dc (gi σ b 5) = some (140 + r)) (h3 : gi σ b 6 = woC wo) (h4 : gi σ b 7 = lastM R wo) (h5 : gi σ b 8 = daysM R wo) (h6 : StC σ (Bo b + 10) sg0) : RoK 0 σ b r R wo [] :=
  ⟨h1, h2, h3, h4, h5, fun j hj => by
    have : j = 0 := by simpa using hj
    subst this; exact h6, fun j hj => absurd hj (by omega)⟩
theorem lgl_cons {R : Ru} {wo : Option Nat} {m : Nat} {ps : List Nat} (h : lgl R wo ps) (ho : opn R wo ps) (hm : m ∈ PLn) : lgl R wo (m :: ps) := ⟨h, hm, ho.1, ho.2⟩
theorem opn_len {R : Ru} (hok : okR R) {wo : Option Nat} {ps : List Nat} (h : opn R wo ps) (hl : ps.length ≤ 5) : ps.length < 5 := by
  obtain ⟨k, hk, e⟩ := lastM_rng hok wo
  have h2 := h.1
  rw [e, nI_ltI (by omega) (by omega)] at h2
  omega
theorem drop_cons_sub {α : Type} (m : α) (ps : List α) {j : Nat} (hj : j ≤ ps.length) : (m :: ps).drop ((m :: ps).length - j) = ps.drop (ps.length - j) := by
  rw [List.length_cons, show ps.length + 1 - j = (ps.length - j) + 1 by omega, List.drop_succ_cons]
theorem kC_make {d nc : Nat} {σ : St} {Q : St → Prop} {b r m : Nat} {R : Ru} {wo : Option Nat} {ps : List Nat} (hn : nc < 5) (hb : isB b) (hK : RoC σ b r R wo ps) (hG : RoG σ r R wo ps) (ho : opn R wo ps) (hm : m ∈ PLn)
    (h : ∀ σ', RoC σ' b r R wo (m :: ps) → RoG σ' r R wo (m :: ps) → (∀ x, x ≠ b → x ≠ Bo b + 3 → x ≠ Bo b + 11 + ps.length → x ≠ Bo b + 21 + ps.length → gi σ' x = gi σ x) → (∀ k, k ≠ 10 → gi σ' b k = gi σ b k) → (∀ x, gl σ' x = gl σ x) → Q σ') : EV (d + 4) (idsC nc) Y_X2_make [.ref b, .int (nI m)] σ Q := by
  obtain ⟨hr, hRC, hok, hwo, hlg⟩ := id hG
  have hl5 := lgl_len hok hlg
  have hl4 := opn_len hok ho hl5
  have hBo := Bo_v hb
  have hb100 := isB_lt hb
  obtain ⟨k1, k2, k3, k4, k5, k6, k7⟩ := id hK
  have htop := hK.top
  have hw := k7 ps.length (by omega) (Nat.le_refl _)
  rw [Nat.sub_self] at hw
  obtain ⟨-, w9⟩ := hw ho
  refine fl_X2_make (hRo hn hb) ⟨fun q => ?_, fun _ => ?_⟩
  · rw [k1] at q
    exact absurd ((nI_leI (a := 5) (by decide) (by omega)).mp q) (by omega)
  rw [k1, rfb hb (by decide), ← nI_succ, rfs hb, rfs hb, cl_ix ps.length (by omega), cl_ix (ps.length + 1) (by omega)]
  refine ⟨vp_in_nI (by omega) (by decide), vp_in_nI (by omega) (by decide), ?_⟩
  have hS1 := hSt (nc := nc) hn hb (i := ps.length + 1) (by omega)
  have ro := rfd (i := ps.length + 1) hb (by omega)
  refine kC_follow (s := stg R wo ps) (n := ps.length) hS1 (hSt hn hb hl5) ro (rfd hb hl5) (by omega) (by omega) (by omega) htop (lgl_gs hlg) hm hl5 (kbM_lt hok (Or.inr rfl) _) w9 (kbM_smM hok (Or.inr rfl) (k := m / 10) (by have := PLn_lt m hm; omega)) (fun s4 hst f1 f2 s5 e5 => ?_)
  have eb : ∀ k, gi s4 b k = gi σ b k := fun k => by rw [f1 b (by omega) (by omega)]
  rw [eb 10, k1, ← nI_succ] at e5
  have F5 : ∀ x, x ≠ b → x ≠ Bo b + 11 + ps.length → x ≠ Bo b + 21 + ps.length → gi s5 x = gi σ x := fun x h1 h2 h3 => by rw [e5, gi_si_o _ _ _ h1, f1 x (by omega) (by omega)]
  have B5 : ∀ k, k ≠ 10 → gi s5 b k = gi σ b k := fun k hk => by rw [e5, gi_ne_k _ _ _ _ hk, eb]
  have hlg' := lgl_cons hlg ho hm
  have hRC5 : RuC s5 r R := RuC_same hRC hr (fun x h1 h2 => F5 x (by omega) (by omega) (by omega))
  have hK5 : RoK (m :: ps).length s5 b r R wo (m :: ps) := by
    refine ⟨by rw [e5, gi_same, List.length_cons], by rw [B5 5 (by decide)]; exact k2, by rw [B5 6 (by decide)]; exact k3, by rw [B5 7 (by decide)]; exact k4, by rw [B5 8 (by decide)]; exact k5, fun j hj => ?_, fun j hj1 hj2 hop => ?_⟩
    · rw [List.length_cons] at hj
      rcases Nat.lt_or_ge j (ps.length + 1) with q | q
      · rw [drop_cons_sub m ps (by omega)]
        exact (k6 j (by omega)).same (fun i _ => by rw [F5 _ (by omega) (by omega) (by omega)]) (F5 _ (by omega) (by omega) (by omega))
      · have : j = ps.length + 1 := by omega
        subst this
        rw [List.length_cons, Nat.sub_self]
        refine hst.same (fun i _ => by rw [e5, gi_ne_o _ _ _ _ (by omega)]) (by rw [e5, gi_si_o _ _ _ (by omega)])
    · rw [List.length_cons] at hj1
      rw [drop_cons_sub m ps (by omega)] at hop ⊢
      have := k7 j (by omega) (by omega) hop
      unfold wgd at this ⊢
      rw [F5 _ (by omega) (by omega) (by omega)]
      exact this
  have hG5 : RoG s5 r R wo (m :: ps) := ⟨hr, hRC5, hok, hwo, hlg'⟩
  refine kC_weigh hn hb hK5 hG5 (fun s6 g1 g2 g3 g4 => ?_)
  rw [List.length_cons] at g2 g3
  refine h s6 g1 ⟨hr, RuC_same hRC hr (fun x h1 h2 => by rw [g2 x (by omega) (by omega)]; exact F5 x (by omega) (by omega) (by omega)), hok, hwo, hlg'⟩ (fun x h1 h2 h3 h4 => ?_) (fun k hk => ?_) (fun x => ?_)
  · rw [g2 x (by omega) (by omega)]; exact F5 x h1 h3 h4
  · rw [g2 b (by omega) (by omega)]; exact B5 k hk
  · rw [g4, e5, gl_si_o, f2]
theorem kC_restart {d nc : Nat} {σ : St} {Q : St → Prop} {b r : Nat} {R : Ru} {wo : Option Nat} (hn : nc < 5) (hb : isB b) (hr : r < 5) (hRC : RuC σ r R) (hok : okR R) (hwo : woOk wo) (h0 : StC σ (Bo b + 10) sg0)
    (h : ∀ σ', RoC σ' b r R wo [] → RoG σ' r R wo [] → (∀ x, x ≠ b → x ≠ Bo b + 3 → x ≠ Bo b + 10 → gi σ' x = gi σ x) → (∀ k, k < 5 → gi σ' b k = gi σ b k) → (∀ x, gl σ' x = gl σ x) → Q σ') : EV (d + 4) (idsC nc) Y_X2_restart [.ref b, .ref (140 + r), .int (woC wo)] σ Q := by
  have hBo := Bo_v hb
  have hb100 := isB_lt hb
  refine fl_X2_restart (hRo hn hb) (hRu hn hr) (fun s1 e1 s2 e2 => ?_)
  have A2 : ∀ x, x ≠ b → gi s2 x = gi σ x := fun x hx => by rw [e2, gi_si_o _ _ _ hx, e1, gi_si_o _ _ _ hx]
  have b6 : gi s2 b 6 = woC wo := by rw [e2, gi_same]
  rw [b6]
  refine kC_numberOf hr (hRu hn hr) (RuC_same hRC hr (fun x h1 h2 => A2 x (by omega))) hwo (fun s5 e5 => ?_)
  have A5 : ∀ x, x ≠ b → gi s5 x = gi σ x := fun x hx => by rw [e5, gi_si_o _ _ _ hx, A2 x hx]
  have c6 : gi s5 b 6 = woC wo := by rw [e5, gi_ne_k _ _ _ _ (by decide), b6]
  rw [c6]
  refine kC_numberOf hr (hRu hn hr) (RuC_same hRC hr (fun x h1 h2 => A5 x (by omega))) hwo (fun s8 e8 s9 e9 => ?_)
  have A9 : ∀ x, x ≠ b → gi s9 x = gi σ x := fun x hx => by rw [e9, gi_si_o _ _ _ hx, e8, gi_si_o _ _ _ hx, A5 x hx]
  have G9 : ∀ x, gl s9 x = gl σ x := fun x => by rw [e9, gl_si_o, e8, gl_si_o, e5, gl_si_o, e2, gl_si_o, e1, gl_si_o]
  have d5 : gi s9 b 5 = nI (140 + r) := by rw [e9, gi_ne_k _ _ _ _ (by decide), e8, gi_ne_k _ _ _ _ (by decide), e5, gi_ne_k _ _ _ _ (by decide), e2, gi_ne_k _ _ _ _ (by decide), e1, gi_same]
  have d6 : gi s9 b 6 = woC wo := by rw [e9, gi_ne_k _ _ _ _ (by decide), e8, gi_ne_k _ _ _ _ (by decide), c6]
  have d7 : gi s9 b 7 = lastM R wo := by rw [e9, gi_ne_k _ _ _ _ (by decide), e8, gi_ne_k _ _ _ _ (by decide), e5, gi_same]; rfl
  have d8 : gi s9 b 8 = daysM R wo := by rw [e9, gi_ne_k _ _ _ _ (by decide), e8, gi_same]; rfl
  have d10 : gi s9 b 10 = 0 := by rw [e9, gi_same]
  have dlow : ∀ k, k < 5 → gi s9 b k = gi σ b k := fun k hk => by rw [e9, gi_ne_k _ _ _ _ (by omega), e8, gi_ne_k _ _ _ _ (by omega), e5, gi_ne_k _ _ _ _ (by omega), e2, gi_ne_k _ _ _ _ (by omega), e1, gi_ne_k _ _ _ _ (by omega)]
  have hRC9 : RuC s9 r R := RuC_same hRC hr (fun x h1 h2 => A9 x (by omega))
  have hK : RoK 0 s9 b r R wo [] := RoC_begin d10 (by rw [d5]; exact dc_nI (by omega)) d6 d7 d8 (h0.same (fun i _ => by rw [A9 _ (by omega)]) (A9 _ (by omega)))
  refine kC_weigh hn hb hK ⟨hr, hRC9, hok, hwo, trivial⟩ (fun s6 g1 g2 g3 g4 => ?_)
  refine h s6 g1 ⟨hr, RuC_same hRC9 hr (fun x h1 h2 => g2 x (by omega) (by simp; omega)), hok, hwo, trivial⟩ (fun x h1 h2 h3 => ?_) (fun k hk => ?_) (fun x => by rw [g4]; exact G9 x)
  · rw [g2 x h2 (by simpa using h3)]; exact A9 x h1
  · rw [g2 b (by omega) (by simp; omega)]; exact dlow k hk
/-- whether a PLEA may be made behind PLEAS; le, la: the links by POINT -/
def canP (le la : Nat → Int32) (R : Ru) (wo : Option Nat) (ps : List Nat) (m : Nat) : Prop :=
  opn R wo ps ∧ smM R wo 0 (nI (m / 10)) (faM ps.length (stg R wo ps)) = false ∧
  (m / 10 = 2 → (le (stg R wo ps 3).toNatClampNeg).toNatClampNeg.testBit (m % 10) = true ∧ (stg R wo ps 6).toNatClampNeg.testBit (m % 10) = false) ∧
  (m / 10 = 5 → (la (stg R wo ps 3).toNatClampNeg).toNatClampNeg.testBit (m % 10) = true ∧ (stg R wo ps 6).toNatClampNeg.testBit (m % 10) = false) ∧
  (m / 10 = 4 → 0 < ps.length ∧ ¬ stg R wo ps 1 = 6) ∧
  (m / 10 = 6 → (if stg R wo ps 4 = 0 then stg R wo ps 7 else stg R wo ps 8) < daysM R wo)
def PLa (i : Nat) : Nat := PLn.getD i 0
theorem free_and : ∀ E, E < 32 → ∀ S, S < 32 → (nI E &&& (nI S ^^^ (-1))) = nI (E &&& (31 ^^^ S)) ∧ E &&& (31 ^^^ S) < 32 ∧ ∀ p, p < 5 → (E &&& (31 ^^^ S)).testBit p = (E.testBit p && !S.testBit p) := by decide +kernel
theorem tb_scale (X k i : Nat) : (X * 2 ^ k).testBit i = (decide (k ≤ i) && X.testBit (i - k)) := Nat.testBit_mul_two_pow X i k
theorem opn_bits {a b c d e f X Y : Nat} : (((((a ||| X * 2 ^ 1) ||| c) ||| d) ||| Y * 2 ^ 8) ||| f).testBit b = ((((a.testBit b || (decide (1 ≤ b) && X.testBit (b - 1))) || c.testBit b) || d.testBit b) || (decide (8 ≤ b) && Y.testBit (b - 8)) || f.testBit b) := by
  simp only [Nat.testBit_or, tb_scale]
