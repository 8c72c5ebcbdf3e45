/-! PURE: the class's best, traps, edges -/
theorem fmN.upN {b n m : Nat} {σ σ' : St} (hn : n ≤ m) (hm : m ≤ 6) (h : fmN b m σ σ') : fmN b n σ σ' := ⟨fun x k hx => h.1 x k (fun z => hx (by unfold exc at *; omega)), h.2⟩
def vlG (C : Cx) (cs : Cs) (ps : List Nat) : Nat := val C (wth C cs) (5 - ps.length) ps
def bsG (C : Cx) (cs : Cs) (ps : List Nat) : Option Nat := (bso C (wth C cs) (5 - ps.length) ps).map (fun q => q.2)
theorem bsG_leaf {C : Cx} {cs : Cs} {ps : List Nat} (h : leaf C ps = true) : bsG C cs ps = none := by rw [bsG, bso_leaf h]; rfl
theorem bsG_some {C : Cx} {cs : Cs} {ps : List Nat} (hl : lgG C.1 ps) (h : ¬ leaf C ps = true) : ∃ v j, bso C (wth C cs) (5 - ps.length) ps = some (v, j) ∧ bsG C cs ps = some j ∧ j < 14 ∧ cb C ps j = true := by
  have h5 : ps.length < 5 := by
    have := hl.len
    rcases Nat.lt_or_ge ps.length 5 with q | q
    · exact q
    · exact absurd (leaf_5 hl (by omega)) h
  have e : ∃ f, 5 - ps.length = f + 1 := ⟨4 - ps.length, by omega⟩
  obtain ⟨f, ef⟩ := e
  cases hz : bso C (wth C cs) (5 - ps.length) ps with
  | none =>
    rw [ef] at hz
    exact absurd (leaf_iff.mpr (bst_none.mp hz)) h
  | some q =>
    obtain ⟨v, j⟩ := q
    have hz2 := hz
    rw [ef] at hz2
    obtain ⟨h1, h2, -⟩ := bst_some hz2
    exact ⟨v, j, rfl, by rw [bsG, hz]; rfl, h1, h2⟩
theorem c_valueIn {d nc b k : Nat} {C : Cx} {cs : Cs} {ps : List Nat} {σ : St} {Q : Int32 → St → Prop} (hn : nc < 5) (hb : isB b) (hk : k < nc) (hR : RlC σ b C.1 ps) (hlk : lkC σ C) (hc : cC σ k cs)
    (h : ∀ σ', fmN b ps.length σ σ' → gi σ' b 10 = nI ps.length → (∀ j, bsG C cs ps = some j → gi σ' (Bo b + 10 + ps.length) 10 = nI (PLa j)) → Q (nI (vlG C cs ps)) σ') :
    EI (d + 10) (idsC nc) Y_X2_valueFrom [.ref b, .ref (400 + 10 * k), .int (-1), .int 21, .int (nI ps.length)] σ Q := by
  have hl := hR.lg.len
  rw [show d + 10 = (d + ps.length) + (5 - ps.length) + 5 by omega]
  refine c_valueFrom hn hb hk (5 - ps.length) (d + ps.length) ps (-1) 21 σ Q (by omega) hR hlk hc (by decide) (by decide) (by decide) (fun x σ' g1 g2 g3 g4 => ?_)
  have e1 : (-1 : Int32).toInt = -1 := rfl
  have e21 : (21 : Int32).toInt = 21 := rfl
  obtain ⟨a1, a2, a3, a4, a5⟩ := g3
  have hx := a4 (by omega) (by omega)
  have : x = nI (vlG C cs ps) := by
    rw [i32_eq]
    have hv : (vlG C cs ps : Int) = x.toInt := hx
    rw [nI_toInt (by omega), hv]
  rw [this]
  refine h σ' g1 g2 (fun j hj => ?_)
  unfold bsG at hj
  cases hz : bso C (wth C cs) (5 - ps.length) ps with
  | none => rw [hz] at hj; cases hj
  | some q =>
    obtain ⟨v, j2⟩ := q
    rw [hz] at hj
    have e : j2 = j := Option.some.inj hj
    subst e
    exact g4 v j2 hz e1 e21
theorem c_valueIn' {d nc b k : Nat} {C : Cx} {cs : Cs} {ps : List Nat} {σ : St} {Q : Int32 → St → Prop} (hn : nc < 5) (hb : isB b) (hk : k < nc) (hR : RlC σ b C.1 ps) (hlk : lkC σ C) (hc : cC σ k cs)
    (h : ∀ σ', fmN b ps.length σ σ' → gi σ' b 10 = nI ps.length → Q (nI (vlG C cs ps)) σ') : EI (d + 11) (idsC nc) Y_X2_valueIn [.ref b, .ref (400 + 10 * k)] σ Q := by
  refine fl_X2_valueIn (hRo hn hb) (hCase hn hk) ?_
  rw [hR.made]
  exact c_valueIn hn hb hk hR hlk hc (fun σ' g1 g2 _ => h σ' g1 g2)
/-- the best PLEA now, -5: there is none -/
def bsI (o : Option Nat) : Int32 := match o with | none => -5 | some j => nI (PLa j)
theorem c_bestNow {d nc b k : Nat} {C : Cx} {cs : Cs} {ps : List Nat} {σ : St} {Q : Int32 → St → Prop} (hn : nc < 5) (hb : isB b) (hk : k < nc) (hR : RlC σ b C.1 ps) (hlk : lkC σ C) (hc : cC σ k cs)
    (h : ∀ σ', fmN b ps.length σ σ' → gi σ' b 10 = nI ps.length → Q (bsI (bsG C cs ps)) σ') : EI (d + 11) (idsC nc) Y_X2_bestNow [.ref b, .ref (400 + 10 * k)] σ Q := by
  refine fl_X2_bestNow (hRo hn hb) (hCase hn hk) (c_open hn hb hR hlk (fun N hN hbit => ⟨fun c => ?_, fun c => ?_⟩))
  · have nlf : ¬ leaf C ps = true := fun z => c ((open_zero hN hbit).mpr (leaf_iff.mp z))
    rw [hR.made]
    refine c_valueIn hn hb hk hR hlk hc (fun σ' g1 g2 g3 => ?_)
    refine c_now hn hb (RlC_fm hb hR g1 g2) (fun hI => ⟨hI, ?_⟩)
    obtain ⟨v, j, e1, e2, e3, e4⟩ := bsG_some (cs := cs) hR.lg nlf
    rw [g3 j e2]
    have := h σ' g1 g2
    rw [e2] at this
    exact this
  · have := h σ (fmN.rf _ _ _) hR.made
    rw [bsG_leaf (leaf_iff.mpr ((open_zero hN hbit).mp c))] at this
    exact this
/-- the best PLEA behind i best ones -/
def bsA (C : Cx) (cs : Cs) : Nat → List Nat → Int32
  | 0, ps => bsI (bsG C cs ps)
  | i + 1, ps => match bsG C cs ps with | none => -5 | some j => bsA C cs i (PLa j :: ps)
theorem PLa_m5 {j : Nat} (hj : j < 14) : ¬ nI (PLa j) = -5 := (by decide +kernel : ∀ j, j < 14 → ¬ nI (PLa j) = -5) j hj
theorem c_pleaOfBest {d nc b k i : Nat} {C : Cx} {cs : Cs} {ps : List Nat} {σ : St} {Q : Int32 → St → Prop} (hn : nc < 5) (hb : isB b) (hk : k < nc) (hi : i < 2 ^ 31) (hR : RlC σ b C.1 ps) (hlk : lkC σ C) (hc : cC σ k cs)
    (h : ∀ σ', fmN b ps.length σ σ' → gi σ' b 10 = nI ps.length → Q (bsA C cs i ps) σ') : EI (d + 12) (idsC nc) Y_X2_pleaOfBest [.ref b, .ref (400 + 10 * k), .int (nI i)] σ Q := by
  have hBo := Bo_v hb
  have hb1 := isB_lt hb
  have hl := hR.lg.len
  refine fl_X2_pleaOfBest (hRo hn hb) (hCase hn hk) (fun P12 P53 H12 H53 x9 e9 => ?_)
  rw [hR.made] at e9
  subst e9
  have fin : ∀ v σ1, fmN b ps.length σ σ1 → v = bsA C cs i ps → P53 (nI ps.length) v σ1 := by
    rintro v σ1 g rfl
    refine H53 _ _ _ (fun s e => h s ?_ ?_)
    · rw [e]; exact g.si _ (by unfold exc; omega)
    · rw [e, gi_same]
  have loop : ∀ m qs j u σ1, 5 - qs.length = m → qs.length = ps.length + j → j ≤ i → RlC σ1 b C.1 qs → fmN b ps.length σ σ1 → bsA C cs (i - j) qs = bsA C cs i ps → P12 (nI ps.length) u (nI j) σ1 := by
    intro m
    induction m with
    | zero =>
      intro qs j u σ1 q1 q2 q3 q4 q5 q6
      have hlq := q4.lg.len
      have lf := leaf_5 q4.lg (by omega)
      have hb0 : bsA C cs (i - j) qs = -5 := by
        cases hz : i - j with
        | zero => rw [bsA, bsG_leaf lf]; rfl
        | succ t => rw [bsA, bsG_leaf lf]
      refine H12 _ _ _ _ ⟨fun q => absurd ((nI_ltI hi (by omega)).mp q) (by omega), fun _ => ⟨fun q => absurd ((nI_ltI (a := 5) (by decide) (by omega)).mp q) (by omega), fun _ => ?_⟩⟩
      refine c_bestNow hn hb hk q4 (lkC_fm hb q5 hlk) (cC_fm hb q5 hc) (fun σ2 g1 g2 => ?_)
      rw [bsG_leaf lf]
      exact ⟨fun z => absurd rfl z, fun _ => fin _ σ2 (q5.tr (fmN.upN (by omega) (by omega) g1)) (by rw [← q6, hb0]; rfl)⟩
    | succ m ih =>
      intro qs j u σ1 q1 q2 q3 q4 q5 q6
      have hlq := q4.lg.len
      refine H12 _ _ _ _ ⟨fun q => absurd ((nI_ltI hi (by omega)).mp q) (by omega), fun _ => ⟨fun q => absurd ((nI_ltI (a := 5) (by decide) (by omega)).mp q) (by omega), fun _ => ?_⟩⟩
      refine c_bestNow hn hb hk q4 (lkC_fm hb q5 hlk) (cC_fm hb q5 hc) (fun σ2 g1 g2 => ?_)
      have g5 := q5.tr (fmN.upN (by omega) (by omega) g1)
      by_cases lf : leaf C qs = true
      · have hb0 : bsA C cs (i - j) qs = -5 := by
          cases hz : i - j with
          | zero => rw [bsA, bsG_leaf lf]; rfl
          | succ t => rw [bsA, bsG_leaf lf]
        rw [bsG_leaf lf]
        exact ⟨fun z => absurd rfl z, fun _ => fin _ σ2 g5 (by rw [← q6, hb0]; rfl)⟩
      · obtain ⟨v, t, e1, e2, e3, e4⟩ := bsG_some (cs := cs) q4.lg lf
        rw [e2]
        refine ⟨fun _ => ?_, fun z => absurd z (PLa_m5 e3)⟩
        refine c_make hn hb (RlC_fm hb q4 g1 g2) e3 e4 (fun σ3 w1 w2 w3 w4 x ex => ?_)
        rw [ex, ← nI_succ]
        have g6 := g5.tr (fmN.upN (by omega) (by omega) w2)
        by_cases hij : j = i
        · subst hij
          refine H12 _ _ _ _ ⟨fun _ => fin _ σ3 g6 ?_, fun z => absurd (nI_lt (Nat.lt_succ_self j) (by omega)) z⟩
          rw [← q6, Nat.sub_self, bsA, e2]
        · refine ih (PLa t :: qs) (j + 1) _ σ3 (by rw [List.length_cons]; omega) (by rw [List.length_cons]; omega) (by omega) w1 g6 ?_
          rw [← q6, show i - j = (i - (j + 1)) + 1 by omega, bsA, e2]
  exact loop _ ps 0 (-5) σ rfl rfl (Nat.zero_le _) hR (fmN.rf _ _ _) rfl
/-! TRAPS -/
def isT (C : Cx) (cs : Cs) (n : Nat) (ps : List Nat) (p : Nat) : Bool := cb C ps p && (if w0G C.1 ps = true then decide (vlG C cs (PLa p :: ps) + n ≤ vlG C cs ps) else decide (vlG C cs ps + n ≤ vlG C cs (PLa p :: ps)))
def trA (l : List Nat) (i : Int32) : Int32 := if i = -1 then nI l.length else if 0 ≤ i then (match l[i.toNatClampNeg]? with | some p => nI (PLa p) | none => -1) else -1
theorem trf_succ (P : Nat → Bool) (p : Nat) : (List.range (p + 1)).filter P = (List.range p).filter P ++ (if P p = true then [p] else []) := by
  rw [List.range_succ, List.filter_append]
  congr 1
  by_cases h : P p = true
  · rw [if_pos h]; simp [h]
  · rw [if_neg h]; simp [h]
theorem trf_pre (P : Nat → Bool) {p : Nat} (hp : p < 14) (h : P p = true) : ((List.range 14).filter P)[((List.range p).filter P).length]? = some p := by
  have e : List.range 14 = List.range p ++ (p :: (List.range (13 - p)).map (fun x => p + 1 + x)) := by
    have h : (14 : Nat) = (p + 1) + (13 - p) := by omega
    rw [h, List.range_add, List.range_succ, List.append_assoc]
    rfl
  rw [e, List.filter_append, List.getElem?_append_right (Nat.le_refl _), Nat.sub_self, List.filter_cons, if_pos h]
  rfl
theorem vlG_le {C : Cx} {cs : Cs} {ps : List Nat} (h : ∀ w p, w < 3 → p < 5 → cs w p ≤ 10) (hl : lgG C.1 ps) : vlG C cs ps ≤ 20 := val_le (fun ps hl => wth_le h hl) _ _ hl
theorem flt_len (P : Nat → Bool) (p : Nat) : ((List.range p).filter P).length ≤ p := by
  have := List.length_filter_le P (List.range p)
  rwa [List.length_range] at this
theorem c_trapsIn {d nc b k n : Nat} {C : Cx} {cs : Cs} {ps : List Nat} {i : Int32} {σ : St} {Q : Int32 → St → Prop} (hn : nc < 5) (hb : isB b) (hk : k < nc) (hR : RlC σ b C.1 ps) (hlk : lkC σ C) (hc : cC σ k cs) (hn20 : n ≤ 20)
    (h : ∀ σ', fmN b ps.length σ σ' → gi σ' b 10 = nI ps.length → Q (trA ((List.range 14).filter (isT C cs n ps)) i) σ') : EI (d + 12) (idsC nc) Y_X2_trapsIn [.ref b, .ref (400 + 10 * k), .int (nI n), .int i] σ Q := by
  have hBo := Bo_v hb
  have hb1 := isB_lt hb
  have hl := hR.lg.len
  have hcs : ∀ w p, w < 3 → p < 5 → cs w p ≤ 10 := fun w p hw hp => (hc w p hw hp).2
  refine fl_X2_trapsIn (hRo hn hb) (hCase hn hk) (fun P25 P93 P117 H25 H93 H117 => ?_)
  refine c_open hn hb hR hlk (fun N hN hbit x19 e19 => ?_)
  rw [hR.made] at e19
  subst e19
  refine c_valueIn' hn hb hk hR hlk hc (fun σ0 g01 g02 => ?_)
  have hv0 := vlG_le hcs hR.lg
  have loop : ∀ m p σ1, 14 - p = m → p ≤ 14 → fmN b ps.length σ σ1 → gi σ1 b 10 = nI ps.length → (0 ≤ i → ((List.range p).filter (isT C cs n ps)).length ≤ i.toNatClampNeg) → P25 (nI N) (nI ps.length) (nI (vlG C cs ps)) (nI ((List.range p).filter (isT C cs n ps)).length) (nI p) σ1 := by
    intro m
    induction m with
    | zero =>
      intro p σ1 q1 q2 q3 q4 q5
      have : p = 14 := by omega
      subst this
      have hQ := h σ1 q3 q4
      refine H25 _ _ _ _ _ _ ⟨fun _ => ⟨fun c => ?_, fun c => ?_⟩, fun q => absurd (nI_le (Nat.le_refl 14) (by decide)) q⟩
      · rw [trA, if_neg c] at hQ
        by_cases hi0 : 0 ≤ i
        · rw [if_pos hi0, List.getElem?_eq_none (q5 hi0)] at hQ; exact hQ
        · rw [if_neg hi0] at hQ; exact hQ
      · rw [trA, if_pos c] at hQ; exact hQ
    | succ m ih =>
      intro p σ1 q1 q2 q3 q4 q5
      have hp : p < 14 := by omega
      have hll := flt_len (isT C cs n ps) p
      have next : ∀ σ2, fmN b ps.length σ σ2 → gi σ2 b 10 = nI ps.length → ∀ u, u = nI ((List.range (p + 1)).filter (isT C cs n ps)).length → (0 ≤ i → ((List.range (p + 1)).filter (isT C cs n ps)).length ≤ i.toNatClampNeg) → P117 (nI N) (nI ps.length) (nI (vlG C cs ps)) u (nI p) σ2 := by
        rintro σ2 j1 j2 u rfl j3
        refine H117 _ _ _ _ _ _ (fun x ex => ?_)
        rw [ex, ← nI_succ]
        exact ih (p + 1) σ2 (by omega) (by omega) j1 j2 j3
      refine H25 _ _ _ _ _ _ ⟨fun q => absurd ((nI_leI (a := 14) (by decide) (by omega)).mp q) (by omega), fun _ => ?_⟩
      rw [c_bit hN hp, hbit p hp]
      refine ⟨fun q => ⟨vp_in_nI hp (by decide), ?_⟩, fun q => ?_⟩
      · have hci := tn1 q
        rw [tPl_at hp]
        refine c_make hn hb (RlC_fm hb hR q3 q4) hp hci (fun σ2 w1 w2 w3 w4 => ?_)
        have g2 := q3.tr w2
        refine c_valueIn' hn hb hk w1 (lkC_fm hb g2 hlk) (cC_fm hb g2 hc) (fun σ3 z1 z2 s es => ?_)
        have hv1 := vlG_le hcs w1.lg
        have g3 : fmN b ps.length σ s := by rw [es]; exact (g2.tr (fmN.up hl z1)).si _ (by unfold exc; omega)
        have m3 : gi s b 10 = nI ps.length := by rw [es, gi_same]
        have hRs := RlC_fm hb hR g3 m3
        have after : ∀ t0 : Int32, (t0 < nI n ↔ ¬ isT C cs n ps p = true) → P93 (nI N) (nI ps.length) (nI (vlG C cs ps)) (nI ((List.range p).filter (isT C cs n ps)).length) (nI p) t0 s := by
          intro t0 ht
          refine H93 _ _ _ _ _ _ _ ⟨fun c => ?_, fun c => ?_⟩
          · have hT := ht.mp c
            refine next s g3 m3 _ ?_ ?_
            · rw [trf_succ, if_neg hT, List.append_nil]
            · rw [trf_succ, if_neg hT, List.append_nil]; exact q5
          · have hT : isT C cs n ps p = true := Classical.byContradiction (fun z => c (ht.mpr z))
            have e1 : ((List.range (p + 1)).filter (isT C cs n ps)).length = ((List.range p).filter (isT C cs n ps)).length + 1 := by
              rw [trf_succ, if_pos hT, List.length_append]; rfl
            refine ⟨fun c2 x ex => next s g3 m3 _ ?_ (fun hi0 => ?_), fun c2 => ⟨vp_in_nI hp (by decide), ?_⟩⟩
            · rw [ex, e1, nI_succ]
            · obtain ⟨t, ht31, rfl⟩ := nI_of (nlt.mpr hi0)
              have := q5 hi0
              rw [cl_ix t ht31] at this ⊢
              have : ((List.range p).filter (isT C cs n ps)).length ≠ t := fun z => c2 (by rw [z])
              omega
            · have hQ := h s g3 m3
              rw [tPl_at hp]
              have hi1 : ¬ i = -1 := fun z => by
                rw [z] at c2
                have := nI_pos (n := ((List.range p).filter (isT C cs n ps)).length) (by omega)
                rw [c2] at this
                exact this (by decide)
              rw [trA, if_neg hi1, if_pos (by rw [← c2]; exact nI_pos' (by omega)), ← c2, cl_ix _ (by omega), trf_pre _ hp hT] at hQ
              exact hQ
        refine c_now hn hb hRs (fun hI => ⟨hI, ?_⟩)
        rw [hRs.top.1 4 (by decide)]
        have hd : ∀ x y : Nat, x ≤ 20 → y ≤ 20 → (nI x - nI y < nI n ↔ ¬ y + n ≤ x) := by
          intro x y hx hy
          rw [i32_lt, i_sub (by rw [nI_toInt (by omega), nI_toInt (by omega)]; omega) (by rw [nI_toInt (by omega), nI_toInt (by omega)]; omega), nI_toInt (by omega), nI_toInt (by omega), nI_toInt (by omega)]
          omega
        refine ⟨fun c => after _ ?_, fun c => after _ ?_⟩
        · rw [hd _ _ hv1 hv0, isT, hci, show w0G C.1 ps = false from decide_eq_false c]
          simp
        · rw [hd _ _ hv0 hv1, isT, hci, show w0G C.1 ps = true from decide_eq_true c]
          simp
      · have hci := tn0 q
        have hT : ¬ isT C cs n ps p = true := by rw [isT, hci]; simp
        refine next σ1 q3 q4 _ ?_ ?_
        · rw [trf_succ, if_neg hT, List.append_nil]
        · rw [trf_succ, if_neg hT, List.append_nil]; exact q5
  exact loop 14 0 σ0 rfl (by decide) g01 g02 (fun _ => Nat.zero_le _)
