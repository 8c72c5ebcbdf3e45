/-! PURE: the reference's ends counted, rows, best, traps, edge -/
theorem kf_len {C : Cx} {g : List Nat → List (List Nat)} {ps : List Nat} {B : Nat} (hg : ∀ qs, (g qs).length ≤ B) : ∀ m, ((List.range m).flatMap (kf C g ps)).length ≤ m * B := by
  intro m
  induction m with
  | zero => exact Nat.le_of_eq (Nat.zero_mul B).symm
  | succ m ih =>
    rw [List.range_succ, List.flatMap_append, List.length_append, Nat.succ_mul]
    refine Nat.add_le_add ih ?_
    simp only [List.flatMap_cons, List.flatMap_nil, List.append_nil, kf]
    split
    · exact hg _
    · exact Nat.zero_le _
theorem endsL_len (C : Cx) : ∀ f ps, (endsL C f ps).length ≤ 14 ^ f := by
  intro f
  induction f with
  | zero => intro ps; exact Nat.le_refl 1
  | succ f ih =>
    intro ps
    rw [endsL]
    split
    · exact Nat.one_le_pow _ _ (by decide)
    · have := kf_len (C := C) (ps := ps) ih 14
      rwa [Nat.pow_succ, Nat.mul_comm]
theorem endsL_31 (C : Cx) {f : Nat} (hf : f ≤ 5) (ps : List Nat) : (endsL C f ps).length < 1000000 := Nat.lt_of_le_of_lt (endsL_len C f ps) (Nat.lt_of_le_of_lt (Nat.pow_le_pow_right (by decide) hf) (by decide))
def isW (a : Int32) : Prop := a = 0 ∨ a = 1 ∨ a = 3 ∨ a = 4 ∨ a = 7
theorem kR_isW {d : Nat} {τ : St} {Q : Int32 → St → Prop} {a : Int32} {P28 : St → Prop} (h1 : isW a → P28 τ) (h0 : ¬ isW a → Q (-1) τ) :
    EI (d + 1) idsR Y_X7_in [.ref 0, .int a, .int 0, .int 1] τ (fun x13 s12 => ((¬ x13 = 0 → P28 s12) ∧ (x13 = 0 → ((a = 3 → P28 s12) ∧ (¬ a = 3 → ((a = 4 → P28 s12) ∧ (¬ a = 4 → ((a = 7 → P28 s12) ∧ (¬ a = 7 → Q (-1) s12))))))))) := by
  refine kR_in ⟨fun c => h1 ?_, fun c => ⟨fun q => h1 (by unfold isW; exact Or.inr (Or.inr (Or.inl q))), fun q3 => ⟨fun q => h1 (by unfold isW; exact Or.inr (Or.inr (Or.inr (Or.inl q)))), fun q4 => ⟨fun q => h1 (by unfold isW; exact Or.inr (Or.inr (Or.inr (Or.inr q)))), fun q7 => h0 (fun z => ?_)⟩⟩⟩⟩
  · obtain ⟨c1, c2⟩ := bI_n.mp c
    obtain ⟨j, hj, rfl⟩ := rng (n := 1) (by decide) c1 c2
    rcases (by omega : j = 0 ∨ j = 1) with rfl | rfl
    · exact Or.inl rfl
    · exact Or.inr (Or.inl rfl)
  · have := bI_0.mp c
    rcases z with z | z | z | z | z
    · rw [z] at this; exact this (by decide)
    · rw [z] at this; exact this (by decide)
    · exact q3 z
    · exact q4 z
    · exact q7 z
theorem r_ends {d : Nat} {C : Cx} {ps : List Nat} {τ : St} {a0 : Int32} {Q : Int32 → St → Prop} (hT : RlR τ C.1 ps) (hlk : lkR τ C) (ha : allR τ) (h0 : ¬ isW a0 → Q (-1) τ)
    (h : ∀ w, w < 8 → a0 = nI w → isW a0 → ∀ τ', fmR ps.length τ τ' → gi τ' 0 26 = nI ps.length → Q (nI (cntE C (endsL C (5 - ps.length) ps) w)) τ') : EI (d + 8) idsR Y_X7_ends [.ref 0, .int a0] τ Q := by
  have hl := hT.lg.len
  refine fl_X7_ends hR (fun P28 P43 P61 P66 H28 H43 H61 H66 => kR_isW (fun hw => ?_) h0)
  obtain ⟨w, hw8, ew⟩ : ∃ w, w < 8 ∧ a0 = nI w := by
    rcases hw with z | z | z | z | z
    · exact ⟨0, by decide, z⟩
    · exact ⟨1, by decide, z⟩
    · exact ⟨3, by decide, z⟩
    · exact ⟨4, by decide, z⟩
    · exact ⟨7, by decide, z⟩
  have hall := endsL_31 C (f := 5 - ps.length) (by omega) ps
  generalize htot : cntE C (endsL C (5 - ps.length) ps) w = tot
  have fin : ∀ τ', fmR ps.length τ τ' → gi τ' 0 26 = nI ps.length → P43 (nI ps.length) (nI tot) 0 τ' := fun τ' g1 g2 => H43 _ _ _ _ ⟨fun _ => by rw [← htot]; exact h w hw8 ew hw τ' g1 g2, fun z => absurd rfl z⟩
  have loop : ∀ (R : List (List Nat)) (q : List Nat) (go : Nat → Nat) (c : Nat) (τ1 : St), EN τ τ1 C ps q go → R = lowL C ps go q → c + cntE C [q ++ ps] w + cntE C R w = tot → P43 (nI ps.length) (nI c) 1 τ1 := by
    intro R
    induction R with
    | nil =>
      intro q go c τ1 g1 g2 g3
      have next : ∀ (x : Nat) τ2, EN τ τ2 C ps q go → x = cntE C [q ++ ps] w → P66 (nI ps.length) (nI x) (nI c) τ2 := by
        rintro x τ2 gg rfl
        refine H66 _ _ _ _ (fun x9 e9 => ?_)
        rw [nI_add] at e9
        refine r_nextEnd (fst := false) (τ0 := τ) (ps := ps) (q := q) (go := go) (L := []) hlk ha ⟨gg, g2⟩ (fun e r q' go' τ' z => by cases z) (fun τ' _ f1 f2 => ?_)
        rw [e9, show c + cntE C [q ++ ps] w = tot by rw [← g3]; rfl]
        exact fin τ' f1 f2
      refine H43 _ _ _ _ ⟨fun z => absurd z (by decide), fun _ => ⟨fun z => H61 _ _ _ (next 1 τ1 g1 ?_), fun z => ?_⟩⟩
      · have : w = 0 := (nI_eq (b := 0) (by omega) (by decide)).mp (ew ▸ z)
        rw [this]; rfl
      · refine r_endSort (C := C) (ps := q ++ ps) g1.1.2.1 (lkR_fm hlk g1.1.1) (allR_fm ha g1.1.1) (fun τ2 hE => ⟨fun z2 => ?_, fun z2 => H61 _ _ _ ?_⟩)
        · refine next 0 τ2 ⟨g1.1.eqP hE, g1.2⟩ ?_
          unfold cntE
          rw [List.countP_singleton, if_neg]
          simp only [Bool.or_eq_true, decide_eq_true_eq, not_or]
          exact ⟨fun y => z (by rw [ew, y]; rfl), fun y => z2 (y.trans ew.symm)⟩
        · refine next 1 τ2 ⟨g1.1.eqP hE, g1.2⟩ ?_
          unfold cntE
          rw [List.countP_singleton, if_pos]
          simp only [Bool.or_eq_true, decide_eq_true_eq]
          exact Or.inr (z2.trans ew)
    | cons e r ih =>
      intro q go c τ1 g1 g2 g3
      have next : ∀ (x : Nat) τ2, EN τ τ2 C ps q go → x = cntE C [q ++ ps] w → P66 (nI ps.length) (nI x) (nI c) τ2 := by
        rintro x τ2 gg rfl
        refine H66 _ _ _ _ (fun x9 e9 => ?_)
        rw [nI_add] at e9
        refine r_nextEnd (fst := false) (τ0 := τ) (ps := ps) (q := q) (go := go) (L := e :: r) hlk ha ⟨gg, g2⟩ (fun e' r' q' go' τ' z1 z2 z3 z4 => ?_) (fun τ' z => by cases z)
        cases z1
        rw [e9]
        refine ih q' go' _ τ' z3 z4 ?_
        rw [← g3, ← z2]
        have : cntE C (e :: r) w = cntE C [e] w + cntE C r w := cntE_app C [e] r w
        rw [this]
        omega
      refine H43 _ _ _ _ ⟨fun z => absurd z (by decide), fun _ => ⟨fun z => H61 _ _ _ (next 1 τ1 g1 ?_), fun z => ?_⟩⟩
      · have : w = 0 := (nI_eq (b := 0) (by omega) (by decide)).mp (ew ▸ z)
        rw [this]; rfl
      · refine r_endSort (C := C) (ps := q ++ ps) g1.1.2.1 (lkR_fm hlk g1.1.1) (allR_fm ha g1.1.1) (fun τ2 hE => ⟨fun z2 => ?_, fun z2 => H61 _ _ _ ?_⟩)
        · refine next 0 τ2 ⟨g1.1.eqP hE, g1.2⟩ ?_
          unfold cntE
          rw [List.countP_singleton, if_neg]
          simp only [Bool.or_eq_true, decide_eq_true_eq, not_or]
          exact ⟨fun y => z (by rw [ew, y]; rfl), fun y => z2 (y.trans ew.symm)⟩
        · refine next 1 τ2 ⟨g1.1.eqP hE, g1.2⟩ ?_
          unfold cntE
          rw [List.countP_singleton, if_pos]
          simp only [Bool.or_eq_true, decide_eq_true_eq]
          exact Or.inr (z2.trans ew)
  refine H28 _ (fun x1 e1 => ?_)
  rw [hT.made] at e1
  subst e1
  refine r_nextEnd (fst := true) (τ0 := τ) (ps := ps) (q := []) (go := fun _ => 0) (L := endsL C (5 - ps.length) ps) hlk ha ⟨hT, fmR.rf _ _, rfl⟩ (fun e r q' go' τ' z1 z2 z3 z4 => ?_) (fun τ' z f1 f2 => ?_)
  · refine loop r q' go' 0 τ' z3 z4 ?_
    rw [← htot, z1, ← z2, Nat.zero_add]
    exact (cntE_app C [e] r w).symm
  · have := fin τ' f1 f2
    rw [← htot, z] at this
    exact this
def rowB (n : Nat) (o : Option (List Nat)) (k : Int32) : Int32 := if k < -1 then -1 else rowA n o k
theorem plA_in {e : List Nat} {n k : Nat} (hn : n ≤ e.length) (he : e.length ≤ 5) (hk : k < 2 ^ 31) : plA e (nI n + nI k) = if k < e.length - n then nI (e.reverse.getD (n + k) 0) else -1 := by
  unfold plA
  by_cases h : k < e.length - n
  · rw [if_pos h, if_pos ((nI_wrap (by omega) hk he).mpr (by omega)), nI_add, cl_ix _ (by omega)]
  · rw [if_neg h, if_neg (fun z => h (by have := (nI_wrap (by omega) hk he).mp z; omega))]
theorem RlR.at27 {τ : St} {G : Gm} {e : List Nat} {j : Nat} (h : RlR τ G e) (hj : j < e.length) : gi τ 27 j = nI (e.reverse.getD j 0) := by
  match G, h with
  | none, h => rw [h.1] at hj; exact absurd hj (Nat.not_lt_zero _)
  | some (r, R, wo), h =>
    refine h.1.1.2.2.2.2 j _ ?_
    have hr : j < e.reverse.length := by rw [List.length_reverse]; exact hj
    rw [List.getD_eq_getElem?_getD, List.getElem?_eq_getElem hr]
    rfl
theorem rowB_some {n : Nat} {e : List Nat} {k : Int32} : rowB n (some e) k = if k < -1 then -1 else if k = -1 then nI (e.length - n) else plA e (nI n + k) := rfl
theorem r_row {d : Nat} {C : Cx} {ps : List Nat} {τ : St} {a0 a1 : Int32} {Q : Int32 → St → Prop} (hT : RlR τ C.1 ps) (hlk : lkR τ C) (ha : allR τ)
    (h0 : a0 < 0 → ∀ τ', fmR ps.length τ τ' → gi τ' 0 26 = nI ps.length → Q (-1) τ')
    (h : ∀ i, i < 2 ^ 31 → a0 = nI i → ∀ τ', fmR ps.length τ τ' → gi τ' 0 26 = nI ps.length → Q (rowB ps.length ((endsL C (5 - ps.length) ps)[i]?) a1) τ') : EI (d + 8) idsR Y_X7_row [.ref 0, .int a0, .int a1] τ Q := by
  have hl := hT.lg.len
  refine fl_X7_row hR (fun P19 P69 P70 P72 H19 H69 H70 H72 x10 e10 => ?_)
  rw [hT.made] at e10
  subst e10
  simp only [rf0] at H19
  have hall := endsL_31 C (f := 5 - ps.length) (by omega) ps
  generalize hE0 : endsL C (5 - ps.length) ps = E at h hall
  -- what was found among the first c
  obtain ⟨fnd, fndE⟩ : ∃ f : Nat → Int32, ∀ c, f c = if a0 < 0 then -1 else if a0.toNatClampNeg < c then rowB ps.length (E[a0.toNatClampNeg]?) a1 else -1 := ⟨_, fun _ => rfl⟩
  have fin : ∀ τ', fmR ps.length τ τ' → gi τ' 0 26 = nI ps.length → ∀ c, P19 (nI ps.length) c (fnd E.length) 0 τ' := by
    intro τ' g1 g2 c
    refine H19 _ _ _ _ _ ⟨fun _ => ?_, fun z => absurd rfl z⟩
    rw [fndE]
    by_cases hneg : a0 < 0
    · rw [if_pos hneg]; exact h0 hneg τ' g1 g2
    · rw [if_neg hneg]
      obtain ⟨i, hi, rfl⟩ := nI_of hneg
      rw [cl_ix i hi]
      have := h i hi rfl τ' g1 g2
      by_cases hlt : i < E.length
      · rw [if_pos hlt]; exact this
      · rw [if_neg hlt]
        rw [List.getElem?_eq_none (by omega)] at this
        unfold rowB rowA at this
        rw [ite_self] at this
        exact this
  have step : ∀ (q : List Nat) (go : Nat → Nat) (c : Nat) (τ1 : St) (A R : List (List Nat)), EN τ τ1 C ps q go → E = A ++ (q ++ ps) :: R → A.length = c → (∀ x, x = fnd (c + 1) → P72 (nI ps.length) (nI c) x τ1) → P19 (nI ps.length) (nI c) (fnd c) 1 τ1 := by
    intro q go c τ1 A R g1 g3 g4 next
    have hc : c < E.length := by rw [g3, List.length_append, List.length_cons]; omega
    have hEc : E[c]? = some (q ++ ps) := by rw [g3, ← g4, List.getElem?_append_right (Nat.le_refl _), Nat.sub_self]; rfl
    have hT1 : RlR τ1 C.1 (q ++ ps) := g1.1.2.1
    have hl1 := hT1.lg.len
    have hpl := app_len q ps
    have rowE : nI c = a0 → fnd (c + 1) = rowB ps.length (some (q ++ ps)) a1 := by
      rintro rfl
      rw [fndE, if_neg (nI_pos (by omega)), cl_ix _ (by omega), if_pos (by omega), hEc]
    refine H19 _ _ _ _ _ ⟨fun z => absurd z (by decide), fun _ => ⟨fun z => next _ ?_, fun z => ?_⟩⟩
    · rw [fndE, fndE]
      by_cases hneg : a0 < 0
      · rw [if_pos hneg, if_pos hneg]
      · rw [if_neg hneg, if_neg hneg]
        obtain ⟨i, hi, rfl⟩ := nI_of hneg
        rw [cl_ix i hi]
        have hne : c ≠ i := fun y => z (by rw [y])
        by_cases hlt : i < c
        · rw [if_pos hlt, if_pos (by omega)]
        · rw [if_neg hlt, if_neg (by omega)]
    · refine ⟨fun z1 => ⟨fun z2 => H69 _ _ _ (H70 _ _ _ _ (next _ ?_)), fun z2 => ?_⟩, fun z1 => H70 _ _ _ _ (next _ ?_)⟩
      · rw [rowE z, rowB_some, if_pos]
        have h1 : ¬ a1.toInt = -1 := fun y => z1 (i32_eq.mpr y)
        have h2 := i32_lt.mp z2
        rw [i32_lt]
        have e0 : (0 : Int32).toInt = 0 := rfl
        have e1 : (-1 : Int32).toInt = -1 := rfl
        omega
      · obtain ⟨k, hk, rfl⟩ := nI_of z2
        have hn1 : ¬ nI k < -1 := by
          rw [i32_lt, nI_toInt hk, show (-1 : Int32).toInt = -1 from rfl]
          omega
        rw [hT1.made, pk_sub hpl]
        refine ⟨fun z3 => H69 _ _ _ (H70 _ _ _ _ (next _ ?_)), fun z3 => ⟨?_, H70 _ _ _ _ (next _ ?_)⟩⟩
        · rw [rowE z, rowB_some, if_neg hn1, if_neg z1, plA_in hpl hl1 hk, if_neg]
          have := (nI_leI (by omega) hk).mp z3
          omega
        · have : ¬ (q ++ ps).length - ps.length ≤ k := fun y => z3 ((nI_leI (by omega) hk).mpr y)
          rw [nI_add]
          exact vp_in_nI (by omega) (by decide)
        · have hlt : ¬ (q ++ ps).length - ps.length ≤ k := fun y => z3 ((nI_leI (by omega) hk).mpr y)
          rw [rowE z, rowB_some, if_neg hn1, if_neg z1, plA_in hpl hl1 hk, if_pos (by omega), nI_add, cl_ix _ (by omega)]
          exact hT1.at27 (by omega)
      · subst z1
        rw [rowE z, rowB_some, if_neg (by decide), if_pos rfl, hT1.made, pk_sub hpl]
  have loop : ∀ (R : List (List Nat)) (q : List Nat) (go : Nat → Nat) (c : Nat) (τ1 : St), EN τ τ1 C ps q go → R = lowL C ps go q → (∃ A, E = A ++ (q ++ ps) :: R ∧ A.length = c) → P19 (nI ps.length) (nI c) (fnd c) 1 τ1 := by
    intro R
    induction R with
    | nil =>
      rintro q go c τ1 g1 g2 ⟨A, g3, g4⟩
      refine step q go c τ1 A [] g1 g3 g4 (fun x ex => H72 _ _ _ _ (fun x7 e7 => ?_))
      refine r_nextEnd (fst := false) (τ0 := τ) (ps := ps) (q := q) (go := go) (L := []) hlk ha ⟨g1, g2⟩ (fun e r q' go' τ' z => by cases z) (fun τ' _ f1 f2 => ?_)
      have hcl : c + 1 = E.length := by rw [g3, List.length_append, List.length_cons, List.length_nil]; omega
      rw [ex, hcl]
      exact fin τ' f1 f2 _
    | cons e r ih =>
      rintro q go c τ1 g1 g2 ⟨A, g3, g4⟩
      refine step q go c τ1 A (e :: r) g1 g3 g4 (fun x ex => H72 _ _ _ _ (fun x7 e7 => ?_))
      refine r_nextEnd (fst := false) (τ0 := τ) (ps := ps) (q := q) (go := go) (L := e :: r) hlk ha ⟨g1, g2⟩ (fun e' r' q' go' τ' z1 z2 z3 z4 => ?_) (fun τ' z => by cases z)
      cases z1
      rw [ex, e7, ← nI_succ]
      refine ih q' go' _ τ' z3 z4 ⟨A ++ [q ++ ps], ?_, ?_⟩
      · rw [g3, z2, List.append_assoc]; rfl
      · rw [List.length_append, g4]; rfl
  have f0 : fnd 0 = -1 := by rw [fndE, if_neg (Nat.not_lt_zero _), ite_self]
  refine r_nextEnd (fst := true) (τ0 := τ) (ps := ps) (q := []) (go := fun _ => 0) (L := E) hlk ha ⟨hT, fmR.rf _ _, hE0.symm⟩ (fun e r q' go' τ' z1 z2 z3 z4 => ?_) (fun τ' z f1 f2 => ?_)
  · have := loop r q' go' 0 τ' z3 z4 ⟨[], by rw [z1, z2]; rfl, rfl⟩
    rw [f0] at this
    exact this
  · have := fin τ' f1 f2 0
    rw [z, List.length_nil, f0] at this
    exact this
/-- the best PLEA as the reference keeps it -/
def bsZ (o : Option Nat) : Int32 := match o with | none => 0 | some j => nI (PLa j)
theorem bsA_none {C : Cx} {cs : Cs} {ps : List Nat} (h : bsG C cs ps = none) : ∀ i, bsA C cs i ps = -5
  | 0 => by rw [bsA, h]; rfl
  | i + 1 => by rw [bsA, h]
theorem r_best {d nc k : Nat} {C : Cx} {cs : Cs} {ps : List Nat} {τ : St} {a1 : Int32} {Q : Int32 → St → Prop} (hn : nc < 5) (hk : k < nc) (h00 : gi τ 0 0 = nI nc) (hT : RlR τ C.1 ps) (hlk : lkR τ C) (ha : allR τ) (hc : cR τ k cs)
    (h1 : a1 < -1 → Q (-1) τ) (h2 : a1 = -1 → ∀ τ', fmR ps.length τ τ' → gi τ' 0 26 = nI ps.length → Q (nI (vlG C cs ps)) τ')
    (h3 : ∀ i, i < 2 ^ 31 → a1 = nI i → ∀ τ', fmR ps.length τ τ' → gi τ' 0 26 = nI ps.length → Q (bsA C cs i ps) τ') : EI (d + 8) idsR Y_X7_best [.ref 0, .int (nI k), .int a1] τ Q := by
  have hl := hT.lg.len
  have hcs : ∀ w p, w < 3 → p < 5 → cs w p ≤ 10 := fun w p hw hp => (hc w p hw hp).2
  refine fl_X7_best hR (fun P41 P76 P101 H41 H76 H101 => kR_isCase ⟨fun c => ?_, fun _ => ⟨fun c => ?_, fun c => ?_⟩⟩)
  · refine absurd ⟨nI_pos' (by omega), ?_⟩ (bI_0.mp c)
    rw [h00, show nc = (nc - 1) + 1 by omega, nI_pred]
    exact nI_le (by omega) (by omega)
  · refine r_valueOf (C := C) (by omega) hT hlk ha hc (fun τ0 f1 f2 f3 => ⟨fun z x21 e21 => ?_, fun z => h2 z τ0 f1 f2⟩)
    have hnn : ¬ a1 < 0 := by
      intro y
      have q1 := i32_le.mp c
      have q2 := i32_lt.mp y
      have q3 : ¬ a1.toInt = -1 := fun y => z (i32_eq.mpr y)
      rw [show (-1 : Int32).toInt = -1 from rfl] at q1
      rw [show (0 : Int32).toInt = 0 from rfl] at q2
      omega
    obtain ⟨i, hi, rfl⟩ := nI_of hnn
    rw [f2] at e21
    subst e21
    have h3 := h3 i hi rfl
    simp only [rf0] at H41 H76
    -- the answer
    have fin : ∀ τ1 v, v ≤ 20 → fmR ps.length τ τ1 → P101 (nI v) (nI ps.length) (bsA C cs i ps) τ1 := by
      intro τ1 v hv g
      refine H101 _ _ _ _ (fun s es => ⟨fun _ => h3 s ?_ ?_, fun y => absurd (nI_pos' (by omega)) y⟩)
      · rw [es]; exact g.si _ (by omega)
      · rw [es, gi_same]
    have loop : ∀ (m : Nat) (qs : List Nat) (j v : Nat) (τ1 : St) (fo : Int32), 5 - qs.length = m → ps.length ≤ qs.length → fmR ps.length τ τ1 → RlR τ1 C.1 qs → gi τ1 44 qs.length = bsZ (bsG C cs qs) → (j ≤ i ∧ fo = -5 ∧ bsA C cs (i - j) qs = bsA C cs i ps ∨ j = i + 1 ∧ fo = bsA C cs i ps) → v ≤ 20 → j + 5 ≤ 10 + qs.length → P41 (nI v) (nI ps.length) fo (nI j) τ1 := by
      intro m
      induction m with
      | zero =>
        intro qs j v τ1 fo q1 q2 q3 q4 q5 q6 q7 q8
        have hlq := q4.lg.len
        have lf := leaf_5 q4.lg (by omega)
        have hnb : bsG C cs qs = none := by
          unfold bsG
          rw [bso_leaf lf]; rfl
        refine H41 _ _ _ _ _ ⟨fun y => ?_, fun y => ⟨?_, fun _ => ?_, fun z2 => ?_⟩⟩
        · have := (nI_ltI hi (by omega)).mp y
          rcases q6 with ⟨u1, -⟩ | ⟨-, u2⟩
          · omega
          · rw [u2]; exact fin τ1 v q7 q3
        · rw [q4.made]; exact vp_in_nI (by omega) (by decide)
        · have : ¬ i < j := fun u => y ((nI_ltI hi (by omega)).mpr u)
          rcases q6 with ⟨-, u2, u3⟩ | ⟨u1, -⟩
          · rw [u2, ← bsA_none hnb (i - j), u3]; exact fin τ1 v q7 q3
          · omega
        · rw [q4.made, cl_ix _ (by omega), q5, hnb] at z2
          exact absurd rfl z2
      | succ m ih =>
        intro qs j v τ1 fo q1 q2 q3 q4 q5 q6 q7 q8
        have hlq := q4.lg.len
        refine H41 _ _ _ _ _ ⟨fun y => ?_, fun y => ⟨?_, fun z2 => ?_, fun z2 => ?_⟩⟩
        · have := (nI_ltI hi (by omega)).mp y
          rcases q6 with ⟨u1, -⟩ | ⟨-, u2⟩
          · omega
          · rw [u2]; exact fin τ1 v q7 q3
        · rw [q4.made]; exact vp_in_nI (by omega) (by decide)
        · have hij : ¬ i < j := fun u => y ((nI_ltI hi (by omega)).mpr u)
          rw [q4.made, cl_ix _ (by omega), q5] at z2
          have hnb : bsG C cs qs = none := by
            cases hb : bsG C cs qs with
            | none => rfl
            | some p => rw [hb] at z2; exact absurd z2 (PLa_0 (bsG_lt hb).1)
          rcases q6 with ⟨-, u2, u3⟩ | ⟨u1, -⟩
          · rw [u2, ← bsA_none hnb (i - j), u3]; exact fin τ1 v q7 q3
          · omega
        · have hij : ¬ i < j := fun u => y ((nI_ltI hi (by omega)).mpr u)
          obtain ⟨p, hb⟩ : ∃ p, bsG C cs qs = some p := by
            cases hb : bsG C cs qs with
            | none => rw [q4.made, cl_ix _ (by omega), q5, hb] at z2; exact absurd rfl z2
            | some p => exact ⟨p, rfl⟩
          obtain ⟨hp, hcb⟩ := bsG_lt hb
          rcases q6 with ⟨u1, u2, u3⟩ | ⟨u1, -⟩
          · have go : ∀ fo', (j + 1 ≤ i ∧ fo' = -5 ∧ bsA C cs (i - (j + 1)) (PLa p :: qs) = bsA C cs i ps ∨ j + 1 = i + 1 ∧ fo' = bsA C cs i ps) → P76 (nI ps.length) fo' (nI j) τ1 := by
              intro fo' hfo
              refine H76 _ _ _ _ ?_
              rw [q4.made, cl_ix _ (by omega), q5, hb]
              refine ⟨vp_in_nI (by omega) (by decide), ?_⟩
              refine r_make (C := C) q4 hp hcb (fun τ2 w1 w2 w3 w4 => ?_)
              have g2 := q3.tr (fmR.up q2 w2)
              refine r_valueOf (C := C) (by omega) w1 (lkR_fm hlk g2) (allR_fm ha g2) (cR_fm g2 hc) (fun τ3 r1 r2 r3 x11 e11 => ?_)
              rw [e11, ← nI_succ]
              refine ih (PLa p :: qs) (j + 1) _ τ3 fo' ?_ ?_ (g2.tr (fmR.up ?_ r1)) (RlR_fm w1 r1 r2) r3 hfo (vlG_le hcs w1.lg) ?_
              · rw [List.length_cons]; omega
              · rw [List.length_cons]; omega
              · rw [List.length_cons]; omega
              · rw [List.length_cons]; omega
            refine ⟨fun z3 => go fo (Or.inl ?_), fun z3 => ⟨?_, fun x6 e6 => go x6 (Or.inr ?_)⟩⟩
            · have hlt : j < i := by
                have : j ≠ i := fun u => z3 (by rw [u])
                omega
              refine ⟨hlt, u2, ?_⟩
              rw [← u3, show i - j = (i - (j + 1)) + 1 by omega, bsA, hb]
            · rw [q4.made]; exact vp_in_nI (by omega) (by decide)
            · have hji := (nI_eq (by omega) hi).mp z3
              rw [e6, q4.made, cl_ix _ (by omega), q5, hb]
              refine ⟨by omega, ?_⟩
              rw [← u3, hji, Nat.sub_self, bsA, hb]
              rfl
          · omega
    exact loop _ ps 0 _ τ0 (-5) rfl (Nat.le_refl _) f1 (RlR_fm hT f1 f2) f3 (Or.inl ⟨Nat.zero_le _, rfl, rfl⟩) (vlG_le hcs hT.lg) (by omega)
  · refine h1 ?_
    have := nle.mp c
    exact this
