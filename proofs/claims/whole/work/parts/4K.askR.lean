/-! PURE: the reference's ends counted, rows, best, traps, edge -/
theorem kf_len {C : Cx} {g : List Nat → List (List Nat)} {ps : List Nat} {B : Nat} (hg : ∀ qs, (g qs).length ≤ B) : ∀ m, ((List.range m).flatMap (kf C g ps)).length ≤ m * B := by
  intro m
  induction m with
  | zero => exact Nat.le_of_eq (Nat.zero_mul B).symm
  | succ m ih =>
    rw [List.range_succ, List.flatMap_append, List.length_append, Nat.succ_mul]
    refine Nat.add_le_add ih ?_
    simp only [List.flatMap_cons, List.flatMap_nil, List.append_nil, kf]
    split
    · exact hg _
    · exact Nat.zero_le _
theorem endsL_len (C : Cx) : ∀ f ps, (endsL C f ps).length ≤ 14 ^ f := by
  intro f
  induction f with
  | zero => intro ps; exact Nat.le_refl 1
  | succ f ih =>
    intro ps
    rw [endsL]
    split
    · exact Nat.one_le_pow _ _ (by decide)
    · have := kf_len (C := C) (ps := ps) ih 14
      rwa [Nat.pow_succ, Nat.mul_comm]
theorem endsL_31 (C : Cx) {f : Nat} (hf : f ≤ 5) (ps : List Nat) : (endsL C f ps).length < 1000000 := Nat.lt_of_le_of_lt (endsL_len C f ps) (Nat.lt_of_le_of_lt (Nat.pow_le_pow_right (by decide) hf) (by decide))
def isW (a : Int32) : Prop := a = 0 ∨ a = 1 ∨ a = 3 ∨ a = 4 ∨ a = 7
theorem kR_isW {d : Nat} {τ : St} {Q : Int32 → St → Prop} {a : Int32} {P28 : St → Prop} (h1 : isW a → P28 τ) (h0 : ¬ isW a → Q (-1) τ) :
    EI (d + 1) idsR Y_X7_in [.ref 0, .int a, .int 0, .int 1] τ (fun x13 s12 => ((¬ x13 = 0 → P28 s12) ∧ (x13 = 0 → ((a = 3 → P28 s12) ∧ (¬ a = 3 → ((a = 4 → P28 s12) ∧ (¬ a = 4 → ((a = 7 → P28 s12) ∧ (¬ a = 7 → Q (-1) s12))))))))) := by
  refine kR_in ⟨fun c => h1 ?_, fun c => ⟨fun q => h1 (by unfold isW; exact Or.inr (Or.inr (Or.inl q))), fun q3 => ⟨fun q => h1 (by unfold isW; exact Or.inr (Or.inr (Or.inr (Or.inl q)))), fun q4 => ⟨fun q => h1 (by unfold isW; exact Or.inr (Or.inr (Or.inr (Or.inr q)))), fun q7 => h0 (fun z => ?_)⟩⟩⟩⟩
  · obtain ⟨c1, c2⟩ := bI_n.mp c
    obtain ⟨j, hj, rfl⟩ := rng (n := 1) (by decide) c1 c2
    rcases (by omega : j = 0 ∨ j = 1) with rfl | rfl
    · exact Or.inl rfl
    · exact Or.inr (Or.inl rfl)
  · have := bI_0.mp c
    rcases z with z | z | z | z | z
    · rw [z] at this; exact this (by decide)
    · rw [z] at this; exact this (by decide)
    · exact q3 z
    · exact q4 z
    · exact q7 z
theorem r_ends {d : Nat} {C : Cx} {ps : List Nat} {τ : St} {a0 : Int32} {Q : Int32 → St → Prop} (hT : RlR τ C.1 ps) (hlk : lkR τ C) (ha : allR τ) (h0 : ¬ isW a0 → Q (-1) τ)
    (h : ∀ w, w < 8 → a0 = nI w → isW a0 → ∀ τ', fmR ps.length τ τ' → gi τ' 0 26 = nI ps.length → Q (nI (cntE C (endsL C (5 - ps.length) ps) w)) τ') : EI (d + 8) idsR Y_X7_ends [.ref 0, .int a0] τ Q := by
  have hl := hT.lg.len
  refine fl_X7_ends hR (fun P28 P43 P61 P66 H28 H43 H61 H66 => kR_isW (fun hw => ?_) h0)
  obtain ⟨w, hw8, ew⟩ : ∃ w, w < 8 ∧ a0 = nI w := by
    rcases hw with z | z | z | z | z
    · exact ⟨0, by decide, z⟩
    · exact ⟨1, by decide, z⟩
    · exact ⟨3, by decide, z⟩
    · exact ⟨4, by decide, z⟩
    · exact ⟨7, by decide, z⟩
  have hall := endsL_31 C (f := 5 - ps.length) (by omega) ps
  generalize htot : cntE C (endsL C (5 - ps.length) ps) w = tot at h
  have fin : ∀ τ', fmR ps.length τ τ' → gi τ' 0 26 = nI ps.length → P43 (nI ps.length) (nI tot) 0 τ' := fun τ' g1 g2 => H43 _ _ _ _ ⟨fun _ => h w hw8 ew hw τ' g1 g2, fun z => absurd rfl z⟩
  have loop : ∀ (R : List (List Nat)) (q : List Nat) (go : Nat → Nat) (c : Nat) (τ1 : St), EN τ τ1 C ps q go → R = lowL C ps go q → c + cntE C [q ++ ps] w + cntE C R w = tot → P43 (nI ps.length) (nI c) 1 τ1 := by
    intro R
    induction R with
    | nil =>
      intro q go c τ1 g1 g2 g3
      have next : ∀ (x : Nat) τ2, EN τ τ2 C ps q go → x = cntE C [q ++ ps] w → P66 (nI ps.length) (nI x) (nI c) τ2 := by
        rintro x τ2 gg rfl
        refine H66 _ _ _ _ (fun x9 e9 => ?_)
        rw [nI_add] at e9
        refine r_nextEnd (fst := false) (τ0 := τ) (ps := ps) (q := q) (go := go) (L := []) hlk ha ⟨gg, g2⟩ (fun e r q' go' τ' z => by cases z) (fun τ' _ f1 f2 => ?_)
        rw [e9, show c + cntE C [q ++ ps] w = tot by rw [← g3]; rfl]
        exact fin τ' f1 f2
      refine H43 _ _ _ _ ⟨fun z => absurd z (by decide), fun _ => ⟨fun z => H61 _ _ _ (next 1 τ1 g1 ?_), fun z => ?_⟩⟩
      · have : w = 0 := (nI_eq (b := 0) (by omega) (by decide)).mp (ew ▸ z)
        rw [this]; rfl
      · refine r_endSort (C := C) (ps := q ++ ps) g1.1.2.1 (lkR_fm hlk g1.1.1) (allR_fm ha g1.1.1) (fun τ2 hE => ⟨fun z2 => ?_, fun z2 => H61 _ _ _ ?_⟩)
        · refine next 0 τ2 ⟨g1.1.eqP hE, g1.2⟩ ?_
          unfold cntE
          rw [List.countP_singleton, if_neg]
          simp only [Bool.or_eq_true, decide_eq_true_eq, not_or]
          exact ⟨fun y => z (by rw [ew, y]; rfl), fun y => z2 (y.trans ew.symm)⟩
        · refine next 1 τ2 ⟨g1.1.eqP hE, g1.2⟩ ?_
          unfold cntE
          rw [List.countP_singleton, if_pos]
          simp only [Bool.or_eq_true, decide_eq_true_eq]
          exact Or.inr (z2.trans ew)
    | cons e r ih =>
      intro q go c τ1 g1 g2 g3
      have next : ∀ (x : Nat) τ2, EN τ τ2 C ps q go → x = cntE C [q ++ ps] w → P66 (nI ps.length) (nI x) (nI c) τ2 := by
        rintro x τ2 gg rfl
        refine H66 _ _ _ _ (fun x9 e9 => ?_)
        rw [nI_add] at e9
        refine r_nextEnd (fst := false) (τ0 := τ) (ps := ps) (q := q) (go := go) (L := e :: r) hlk ha ⟨gg, g2⟩ (fun e' r' q' go' τ' z1 z2 z3 z4 => ?_) (fun τ' z => by cases z)
        cases z1
        rw [e9]
        refine ih q' go' _ τ' z3 z4 ?_
        rw [← g3, ← z2]
        have : cntE C (e :: r) w = cntE C [e] w + cntE C r w := cntE_app C [e] r w
        rw [this]
        omega
      refine H43 _ _ _ _ ⟨fun z => absurd z (by decide), fun _ => ⟨fun z => H61 _ _ _ (next 1 τ1 g1 ?_), fun z => ?_⟩⟩
      · have : w = 0 := (nI_eq (b := 0) (by omega) (by decide)).mp (ew ▸ z)
        rw [this]; rfl
      · refine r_endSort (C := C) (ps := q ++ ps) g1.1.2.1 (lkR_fm hlk g1.1.1) (allR_fm ha g1.1.1) (fun τ2 hE => ⟨fun z2 => ?_, fun z2 => H61 _ _ _ ?_⟩)
        · refine next 0 τ2 ⟨g1.1.eqP hE, g1.2⟩ ?_
          unfold cntE
          rw [List.countP_singleton, if_neg]
          simp only [Bool.or_eq_true, decide_eq_true_eq, not_or]
          exact ⟨fun y => z (by rw [ew, y]; rfl), fun y => z2 (y.trans ew.symm)⟩
        · refine next 1 τ2 ⟨g1.1.eqP hE, g1.2⟩ ?_
          unfold cntE
          rw [List.countP_singleton, if_pos]
          simp only [Bool.or_eq_true, decide_eq_true_eq]
          exact Or.inr (z2.trans ew)
  refine H28 _ (fun x1 e1 => ?_)
  rw [hT.made] at e1
  subst e1
  refine r_nextEnd (fst := true) (τ0 := τ) (ps := ps) (q := []) (go := fun _ => 0) (L := endsL C (5 - ps.length) ps) hlk ha ⟨hT, fmR.rf _ _, rfl⟩ (fun e r q' go' τ' z1 z2 z3 z4 => ?_) (fun τ' z f1 f2 => ?_)
  · refine loop r q' go' 0 τ' z3 z4 ?_
    rw [← htot, z1, ← z2, Nat.zero_add]
    exact (cntE_app C [e] r w).symm
  · have := fin τ' f1 f2
    rw [← htot, z] at this
    exact this
def rowB (n : Nat) (o : Option (List Nat)) (k : Int32) : Int32 := if k < -1 then -1 else rowA n o k
theorem plA_in {e : List Nat} {n k : Nat} (hn : n ≤ e.length) (he : e.length ≤ 5) (hk : k < 2 ^ 31) : plA e (nI n + nI k) = if k < e.length - n then nI (e.reverse.getD (n + k) 0) else -1 := by
  unfold plA
  by_cases h : k < e.length - n
  · rw [if_pos h, if_pos ((nI_wrap (by omega) hk he).mpr (by omega)), nI_add, cl_ix _ (by omega)]
  · rw [if_neg h, if_neg (fun z => h (by have := (nI_wrap (by omega) hk he).mp z; omega))]
theorem r_row {d : Nat} {C : Cx} {ps : List Nat} {τ : St} {a0 a1 : Int32} {Q : Int32 → St → Prop} (hT : RlR τ C.1 ps) (hlk : lkR τ C) (ha : allR τ)
    (h0 : a0 < 0 → ∀ τ', fmR ps.length τ τ' → gi τ' 0 26 = nI ps.length → Q (-1) τ')
    (h : ∀ i, i < 2 ^ 31 → a0 = nI i → ∀ τ', fmR ps.length τ τ' → gi τ' 0 26 = nI ps.length → Q (rowB ps.length ((endsL C (5 - ps.length) ps)[i]?) a1) τ') : EI (d + 8) idsR Y_X7_row [.ref 0, .int a0, .int a1] τ Q := by
  have hl := hT.lg.len
  refine fl_X7_row hR (fun P19 P69 P70 P72 H19 H69 H70 H72 x10 e10 => ?_)
  rw [hT.made] at e10
  subst e10
  simp only [rf0] at H19
  have hall := endsL_31 C (f := 5 - ps.length) (by omega) ps
  generalize hE0 : endsL C (5 - ps.length) ps = E at h hall
  -- what was found among the first c
  let fnd : Nat → Int32 := fun c => if a0 < 0 then -1 else if a0.toNatClampNeg < c then rowB ps.length (E[a0.toNatClampNeg]?) a1 else -1
  have fndE : ∀ c, fnd c = if a0 < 0 then -1 else if a0.toNatClampNeg < c then rowB ps.length (E[a0.toNatClampNeg]?) a1 else -1 := fun _ => rfl
  have fin : ∀ τ', fmR ps.length τ τ' → gi τ' 0 26 = nI ps.length → ∀ c, P19 (nI ps.length) c (fnd E.length) 0 τ' := by
    intro τ' g1 g2 c
    refine H19 _ _ _ _ _ ⟨fun _ => ?_, fun z => absurd rfl z⟩
    rw [fndE]
    by_cases hneg : a0 < 0
    · rw [if_pos hneg]; exact h0 hneg τ' g1 g2
    · rw [if_neg hneg]
      obtain ⟨i, hi, rfl⟩ := nI_of hneg
      rw [cl_ix i hi]
      have := h i hi rfl τ' g1 g2
      by_cases hlt : i < E.length
      · rw [if_pos hlt]; exact this
      · rw [if_neg hlt]
        rw [List.getElem?_eq_none (by omega)] at this
        unfold rowB rowA at this
        rw [ite_self] at this
        exact this
  have loop : ∀ (R : List (List Nat)) (q : List Nat) (go : Nat → Nat) (c : Nat) (τ1 : St), EN τ τ1 C ps q go → R = lowL C ps go q → (∃ A, E = A ++ (q ++ ps) :: R ∧ A.length = c) → P19 (nI ps.length) (nI c) (fnd c) 1 τ1 := by
    intro R
    induction R with
    | nil =>
      rintro q go c τ1 g1 g2 ⟨A, g3, g4⟩
      have hc : c < E.length := by rw [g3, List.length_append, List.length_cons]; omega
      have next : ∀ x, x = fnd (c + 1) → P72 (nI ps.length) (nI c) x τ1 := by
        rintro x rfl
        refine H72 _ _ _ _ (fun x7 e7 => ?_)
        refine r_nextEnd (fst := false) (τ0 := τ) (ps := ps) (q := q) (go := go) (L := []) hlk ha ⟨g1, g2⟩ (fun e r q' go' τ' z => by cases z) (fun τ' _ f1 f2 => ?_)
        have hcl : c + 1 = E.length := by rw [g3, List.length_append, List.length_cons, List.length_nil]; omega
        rw [hcl]
        exact fin τ' f1 f2 _
      exact rowStep g1 g2 g3 g4 hc next
    | cons e r ih => skip
  skip
