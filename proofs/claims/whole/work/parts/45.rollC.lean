/-! PURE: the class's rolls -/
theorem tst_congr {fa fb : Nat → Int32} (h : ∀ f, f < 5 → fa f = fb f) {t : Int32} (ht : tok t) : tst fa t = tst fb t := by
  obtain ⟨f, hf, e⟩ := tok_f ht
  rw [tst_def, tst_def, e, cl_ix f (by omega), h f hf]
theorem evs_congr {fa fb : Nat → Int32} (h : ∀ f, f < 5 → fa f = fb f) {t : Int32} (ht : t = -1 ∨ t = -2 ∨ t = -3 ∨ tok t) (st : List Bool) : evs fa t st = evs fb t st := by
  rcases ht with rfl | rfl | rfl | ht
  · simp [evs]
  · simp [evs]
  · simp [evs]
  · rw [evs_tst _ ht, evs_tst _ ht, tst_congr h ht]
theorem evl_congr {fa fb : Nat → Int32} (h : ∀ f, f < 5 → fa f = fb f) : ∀ (l : List Int32), (∀ t, t ∈ l → t = -1 ∨ t = -2 ∨ t = -3 ∨ tok t) → ∀ st, evl fa l st = evl fb l st
  | [], _, _ => rfl
  | t :: l, hl, st => by
    rw [evl, evl, evs_congr h (hl t List.mem_cons_self), evl_congr h l (fun t ht => hl t (List.mem_cons_of_mem _ ht))]
theorem evc_congr {fa fb : Nat → Int32} (h : ∀ f, f < 5 → fa f = fb f) {l : List Int32} (hl : okc l) : evc fa l = evc fb l := by rw [evc, evc, evl_congr h l hl.2]
theorem kbM_congr {fa fb : Nat → Int32} (h : ∀ f, f < 5 → fa f = fb f) {R : Ru} (hok : okR R) {wo : Option Nat} {s : Int32} (hs : s = 0 ∨ s = 1) : ∀ n, kbM R wo s fa n = kbM R wo s fb n := by
  intro n
  induction n with
  | zero => rfl
  | succ n ih =>
    rw [kbM, kbM, ih]
    split
    · rename_i w x l hR
      by_cases hw : w = s
      · have hc : evc fa l = evc fb l := by
          rcases hok n w x l hR with ⟨-, -, h3⟩ | ⟨h1, -⟩
          · exact evc_congr h h3
          · exfalso; rw [hw] at h1; rcases hs with rfl | rfl <;> rcases h1 with h1 | h1 <;> exact absurd h1 (by decide)
        rw [hc]
      · rw [if_neg (fun z => hw z.2.1), if_neg (fun z => hw z.2.1)]
    · rfl
theorem smM_congr {fa fb : Nat → Int32} (h : ∀ f, f < 5 → fa f = fb f) {R : Ru} (hok : okR R) {wo : Option Nat} {s k : Int32} (hs : s = 0 ∨ s = 1) : smM R wo s k fa = smM R wo s k fb := by
  have key : ∀ c, cHd R wo s k fa c = cHd R wo s k fb c := by
    intro c
    unfold cHd
    split
    · rename_i w x l hR
      by_cases hw : w = s
      · have hc : evc fa l = evc fb l := by
          rcases hok c w x l hR with ⟨-, -, h3⟩ | ⟨h1, -⟩
          · exact evc_congr h h3
          · exfalso; rw [hw] at h1; rcases hs with rfl | rfl <;> rcases h1 with h1 | h1 <;> exact absurd h1 (by decide)
        rw [hc]
      · rw [decide_eq_false hw]; simp
    · rfl
  unfold smM
  congr 1
  funext c
  exact key c
/-- where a roll's own things lie -/
def Bo (b : Nat) : Nat := 100 * b - 10600
abbrev isB (b : Nat) : Prop := b = 108 ∨ b = 109
theorem Bo_v {b : Nat} (h : isB b) : Bo b = 200 ∨ Bo b = 300 := by
  rcases h with rfl | rfl
  · exact Or.inl rfl
  · exact Or.inr rfl
theorem isB_lt {b : Nat} (h : isB b) : 108 ≤ b ∧ b < 110 := by rcases h with rfl | rfl <;> decide
theorem rfb {b k : Nat} (h : isB b) (hk : 2 ≤ k) : rf b k = Bo b + k := by
  rcases h with rfl | rfl
  · show (if k = 0 then 101 else if k = 1 then 102 else 200 + 100 * (108 - 108) + k) = 200 + k
    rw [if_neg (by omega), if_neg (by omega)]
  · show (if k = 0 then 101 else if k = 1 then 102 else 200 + 100 * (109 - 108) + k) = 300 + k
    rw [if_neg (by omega), if_neg (by omega)]
theorem rfs {b i : Nat} (h : isB b) : rf (Bo b + 2) i = Bo b + 10 + i := by
  rcases h with rfl | rfl
  · show 202 + 8 + i = 200 + 10 + i; omega
  · show 302 + 8 + i = 300 + 10 + i; omega
theorem rfd {b i : Nat} (h : isB b) (hi : i ≤ 5) : rf (Bo b + 10 + i) 7 = Bo b + 10 + i + 10 := by
  rcases h with rfl | rfl <;> rcases (by omega : i = 0 ∨ i = 1 ∨ i = 2 ∨ i = 3 ∨ i = 4 ∨ i = 5) with rfl | rfl | rfl | rfl | rfl | rfl <;> rfl
theorem hRo {nc b : Nat} (hn : nc < 5) (h : isB b) : IO (idsC nc) b 2 := by rcases h with rfl | rfl <;> exact hB hn (by decide) rfl
theorem hSt {nc b i : Nat} (hn : nc < 5) (h : isB b) (hi : i ≤ 5) : IO (idsC nc) (Bo b + 10 + i) 4 := by
  rcases h with rfl | rfl <;> rcases (by omega : i = 0 ∨ i = 1 ∨ i = 2 ∨ i = 3 ∨ i = 4 ∨ i = 5) with rfl | rfl | rfl | rfl | rfl | rfl <;> exact hB hn (by decide) rfl
theorem hSe {nc b : Nat} (hn : nc < 5) (h : isB b) : IA (idsC nc) (Bo b + 3) 0 5 := by rcases h with rfl | rfl <;> exact hBA hn (by decide) rfl
theorem hRu {nc r : Nat} (hn : nc < 5) (h : r < 5) : IO (idsC nc) (140 + r) 3 := by
  rcases (by omega : r = 0 ∨ r = 1 ∨ r = 2 ∨ r = 3 ∨ r = 4) with rfl | rfl | rfl | rfl | rfl <;> exact hB hn (by decide) rfl
/-- not at its end but that none may be made -/
def opn (R : Ru) (wo : Option Nat) (ps : List Nat) : Prop := nI ps.length < lastM R wo ∧ ¬ clM (stg R wo ps)
/-- what was weighed of a stage -/
def wgd (σ : St) (o n : Nat) (R : Ru) (wo : Option Nat) (s : SF) : Prop := gi σ o 8 = nI (kbM R wo 0 (faM n s) R.length) ∧ gi σ o 9 = nI (kbM R wo 1 (faM n s) R.length)
/-- roll b of the class is by rules r without a clause, and holds PLEAS; k: up to which stage all is weighed -/
def RoK (k : Nat) (σ : St) (b r : Nat) (R : Ru) (wo : Option Nat) (ps : List Nat) : Prop :=
  gi σ b 10 = nI ps.length ∧ dc (gi σ b 5) = some (140 + r) ∧ gi σ b 6 = woC wo ∧ gi σ b 7 = lastM R wo ∧ gi σ b 8 = daysM R wo ∧ (∀ j, j ≤ ps.length → StC σ (Bo b + 10 + j) (stg R wo (ps.drop (ps.length - j)))) ∧
  ∀ j, j < k → j ≤ ps.length → opn R wo (ps.drop (ps.length - j)) → wgd σ (Bo b + 10 + j) j R wo (stg R wo (ps.drop (ps.length - j)))
abbrev RoC (σ : St) (b r : Nat) (R : Ru) (wo : Option Nat) (ps : List Nat) : Prop := RoK (ps.length + 1) σ b r R wo ps
/-- what a roll is given: rules that stand, PLEAS as they may be -/
def RoG (σ : St) (r : Nat) (R : Ru) (wo : Option Nat) (ps : List Nat) : Prop := r < 5 ∧ RuC σ r R ∧ okR R ∧ woOk wo ∧ lgl R wo ps
theorem RoK.top {k : Nat} {σ : St} {b r : Nat} {R : Ru} {wo : Option Nat} {ps : List Nat} (h : RoK k σ b r R wo ps) : StC σ (Bo b + 10 + ps.length) (stg R wo ps) := by
  have := h.2.2.2.2.2.1 ps.length (Nat.le_refl _)
  rw [Nat.sub_self] at this
  exact this
theorem RuC_same {σ σ' : St} {r : Nat} {R : Ru} (h : RuC σ r R) (hr : r < 5) (e : ∀ x, 140 ≤ x → x < 200 → gi σ' x = gi σ x) : RuC σ' r R := by
  obtain ⟨h1, h2, h3⟩ := h
  refine ⟨h1, by rw [e _ (by omega) (by omega)]; exact h2, fun c w x l hc => ?_⟩
  obtain ⟨g1, g2, f, g3, g4, g5, g6⟩ := h3 c w x l hc
  rw [e (151 + 10 * r) (by omega) (by omega), e (152 + 10 * r) (by omega) (by omega), e (153 + 10 * r) (by omega) (by omega), e (155 + 10 * r) (by omega) (by omega)]
  exact ⟨g1, g2, f, g3, g4, g5, g6⟩
theorem kC_now {d nc : Nat} {σ : St} {Q : Nat → St → Prop} {b n : Nat} (hn : nc < 5) (hb : isB b) (e : gi σ b 10 = nI n) (h5 : n ≤ 5) (h : Q (Bo b + 10 + n) σ) : ER (d + 1) (idsC nc) Y_X2_now [.ref b] σ Q := by
  refine fl_X2_now (hRo hn hb) ?_
  rw [e, rfb hb (by decide), rfs hb, cl_ix n (by omega)]
  exact ⟨vp_in_nI (by omega) (by decide), h⟩
theorem kC_isClosed {d nc : Nat} {σ : St} {Q : Int32 → St → Prop} {o : Nat} {s : SF} (ho : IO (idsC nc) o 4) (hs : StC σ o s) (h1 : clM s → Q 1 σ) (h0 : ¬ clM s → Q 0 σ) : EI (d + 1) (idsC nc) Y_X4_isClosed [.ref o] σ Q := by
  refine fl_X4_isClosed ho (fun P24 H24 => ?_)
  rw [hs.1 1 (by decide)]
  exact ⟨fun c => H24 _ (h1 (Or.inl c)), fun c => ⟨fun c2 => H24 _ (h1 (Or.inr (Or.inl c2))), fun c2 => ⟨fun c3 => h0 (fun z => z.elim c (fun z => z.elim c2 c3)), fun c3 => H24 _ (h1 (Or.inr (Or.inr c3)))⟩⟩⟩
/-- what a walk of a roll may write: its own things -/
def ownW (b : Nat) (x : Nat) : Prop := x = b ∨ (Bo b + 3 ≤ x ∧ x < Bo b + 30)
theorem kC_weigh {d nc : Nat} {σ : St} {Q : St → Prop} {b r : Nat} {R : Ru} {wo : Option Nat} {ps : List Nat} (hn : nc < 5) (hb : isB b) (hK : RoK ps.length σ b r R wo ps) (hG : RoG σ r R wo ps)
    (h : ∀ σ', RoC σ' b r R wo ps → (∀ x, x ≠ Bo b + 3 → x ≠ Bo b + 10 + ps.length → gi σ' x = gi σ x) → (∀ k, k ≠ 8 → k ≠ 9 → gi σ' (Bo b + 10 + ps.length) k = gi σ (Bo b + 10 + ps.length) k) → (∀ x, gl σ' x = gl σ x) → Q σ') : EV (d + 3) (idsC nc) Y_X2_weigh [.ref b] σ Q := by
  obtain ⟨hr, hRC, hok, hwo, hlg⟩ := hG
  have hl5 := lgl_len hok hlg
  have hgs := lgl_gs hlg
  have htop := hK.top
  obtain ⟨k1, k2, k3, k4, k5, k6, k7⟩ := id hK
  have hBo := Bo_v hb
  have hne : Bo b + 10 + ps.length ≠ Bo b + 3 := by omega
  have hb100 := isB_lt hb
  have hbo : b ≠ Bo b + 3 := by omega
  have hbs : b ≠ Bo b + 10 + ps.length := by omega
  have same : ¬ opn R wo ps → Q σ := by
    intro no
    refine h σ ⟨k1, k2, k3, k4, k5, k6, fun j hj1 hj2 ho => ?_⟩ (fun _ _ _ => rfl) (fun _ _ _ => rfl) (fun _ => rfl)
    rcases Nat.lt_or_ge j ps.length with q | q
    · exact k7 j q hj2 ho
    · have : j = ps.length := by omega
      subst this
      rw [Nat.sub_self] at ho
      exact absurd ho no
  refine fl_X2_weigh (hRo hn hb) (kC_now hn hb k1 hl5 ⟨hSt hn hb hl5, ?_⟩)
  rw [k2]
  refine ⟨fun q => (by cases q), fun r3 e3 => ?_⟩
  cases e3
  refine ⟨hRu hn hr, fun q => same (fun z => ?_), fun q => ?_⟩
  · rw [k4, k1] at q
    exact nlt.mpr q z.1
  rw [k4, k1, nle] at q
  refine kC_isClosed (hSt hn hb hl5) htop (fun hc => ⟨fun z => absurd z (by decide), fun _ => same (fun z => z.2 hc)⟩) (fun hc => ⟨fun _ => ?_, fun z => absurd rfl z⟩)
  rw [rfb hb (k := 3) (by decide)]
  have z0 : ((0 : Int32).toNatClampNeg) = 0 := rfl
  have z1 : ((1 : Int32).toNatClampNeg) = 1 := rfl
  have z2 : ((2 : Int32).toNatClampNeg) = 2 := rfl
  have z3 : ((3 : Int32).toNatClampNeg) = 3 := rfl
  have z4 : ((4 : Int32).toNatClampNeg) = 4 := rfl
  rw [z0, z1, z2, z3, z4]
  intro s8 e8 s9 e9 s10 e10
  have A8 : ∀ x, x ≠ Bo b + 3 → gi s8 x = gi σ x := fun x hx => by rw [e8, gi_si_o _ _ _ hx]
  have A9 : ∀ x, x ≠ Bo b + 3 → gi s9 x = gi σ x := fun x hx => by rw [e9, gi_si_o _ _ _ hx, A8 x hx]
  have A10 : ∀ x, x ≠ Bo b + 3 → gi s10 x = gi σ x := fun x hx => by rw [e10, gi_si_o _ _ _ hx, A9 x hx]
  rw [k1] at e8
  rw [A8 _ hne, htop.1 3 (by decide)] at e9
  rw [A9 _ hne, htop.1 4 (by decide)] at e10
  rw [A10 _ hne, htop.1 5 (by decide)]
  obtain ⟨-, -, ⟨ad, had, ead⟩, -, -⟩ := hgs
  rw [ead]
  refine kJ_bits had (fun s13 e13 s14 e14 => ?_)
  have A13 : ∀ x, x ≠ Bo b + 3 → gi s13 x = gi σ x := fun x hx => by rw [e13, gi_si_o _ _ _ hx, A10 x hx]
  have A14 : ∀ x, x ≠ Bo b + 3 → gi s14 x = gi σ x := fun x hx => by rw [e14, gi_si_o _ _ _ hx, A13 x hx]
  have G14 : ∀ x, gl s14 x = gl σ x := fun x => by rw [e14, gl_si_o, e13, gl_si_o, e10, gl_si_o, e9, gl_si_o, e8, gl_si_o]
  rw [A13 _ hne, htop.1 1 (by decide)] at e14
  have hfa : ∀ f, f < 5 → gi s14 (Bo b + 3) f = faM ps.length (stg R wo ps) f := by
    intro f hf
    rw [e14, gi_si_row, e13, gi_si_row, e10, gi_si_row, e9, gi_si_row, e8, gi_si_row]
    rcases (by omega : f = 0 ∨ f = 1 ∨ f = 2 ∨ f = 3 ∨ f = 4) with rfl | rfl | rfl | rfl | rfl
    · rfl
    · rfl
    · rfl
    · show nI (pc ad) = nI (pc (stg R wo ps 5).toNatClampNeg)
      rw [ead, cl_ix ad (by omega)]
    · rfl
  rw [A14 b hbo, k2]
  refine ⟨fun z => (by cases z), fun r15 e15 => ?_⟩
  cases e15
  refine ⟨hRu hn hr, ?_⟩
  rw [k3]
  have hRC14 : RuC s14 r R := RuC_same hRC hr (fun x h1 h2 => A14 x (by omega))
  refine kC_kindsThat hr (hRu hn hr) (hSe hn hb) hRC14 hok (Or.inl rfl) hwo (fun s18 e18 => ?_)
  rw [kbM_congr hfa hok (Or.inl rfl)] at e18
  have A18 : ∀ x, x ≠ Bo b + 3 → x ≠ Bo b + 10 + ps.length → gi s18 x = gi σ x := fun x hx hx2 => by rw [e18, gi_si_o _ _ _ hx2, A14 x hx]
  rw [A18 b hbo hbs, k2]
  refine ⟨fun z => (by cases z), fun r19 e19 => ?_⟩
  cases e19
  refine ⟨hRu hn hr, ?_⟩
  rw [k3]
  have hRC18 : RuC s18 r R := RuC_same hRC hr (fun x h1 h2 => A18 x (by omega) (by omega))
  have hfa18 : ∀ f, f < 5 → gi s18 (Bo b + 3) f = faM ps.length (stg R wo ps) f := fun f hf => by rw [e18, gi_ne_o _ _ _ _ (Ne.symm hne)]; exact hfa f hf
  refine kC_kindsThat hr (hRu hn hr) (hSe hn hb) hRC18 hok (Or.inr rfl) hwo (fun s22 e22 => ?_)
  rw [kbM_congr hfa18 hok (Or.inr rfl)] at e22
  have A22 : ∀ x, x ≠ Bo b + 3 → x ≠ Bo b + 10 + ps.length → gi s22 x = gi σ x := fun x hx hx2 => by rw [e22, gi_si_o _ _ _ hx2, A18 x hx hx2]
  have T22 : ∀ k, k ≠ 8 → k ≠ 9 → gi s22 (Bo b + 10 + ps.length) k = gi σ (Bo b + 10 + ps.length) k := fun k h8 h9 => by rw [e22, gi_ne_k _ _ _ _ h9, e18, gi_ne_k _ _ _ _ h8, A14 _ hne]
  refine h s22 ⟨by rw [A22 b hbo hbs]; exact k1, by rw [A22 b hbo hbs]; exact k2, by rw [A22 b hbo hbs]; exact k3, by rw [A22 b hbo hbs]; exact k4, by rw [A22 b hbo hbs]; exact k5, fun j hj => ?_, fun j hj1 hj2 hop => ?_⟩ A22 T22 (fun x => by rw [e22, gl_si_o, e18, gl_si_o]; exact G14 x)
  · rcases Nat.lt_or_ge j ps.length with q2 | q2
    · exact (k6 j hj).same (fun i hi => by rw [A22 _ (by omega) (by omega)]) (A22 _ (by omega) (by omega))
    · have : j = ps.length := by omega
      subst this
      exact (k6 _ hj).same (fun i hi => T22 i (by omega) (by omega)) (A22 _ (by omega) (by omega))
  · rcases Nat.lt_or_ge j ps.length with q2 | q2
    · have := k7 j q2 hj2 hop
      unfold wgd at this ⊢
      rw [A22 _ (by omega) (by omega)]
      exact this
    · have : j = ps.length := by omega
      subst this
      rw [Nat.sub_self]
      refine ⟨?_, ?_⟩
      · rw [e22, gi_ne_k _ _ _ _ (by decide), e18, gi_same]; rfl
      · rw [e22, gi_same]; rfl
