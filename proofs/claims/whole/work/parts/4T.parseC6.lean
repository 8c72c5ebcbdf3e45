/-! PURE: the class's reader of clauses and rules -/
theorem CX_fr {nc rr : Nat} {bs : List Nat} {σ : St} {x : PR} {R : Ru} (h : CX σ bs rr x R) : PX 0 σ bs rr x := h.1
section PG
variable {nc rr : Nat} {bs : List Nat}
theorem hd_1 {x : PR} {c : Nat} (h1 : x.1 = true) : (nI (x.1 && decide (x.2.1.head? = some c)).toNat = 0 ↔ ¬ hdI x.2.1 c) := by
  rw [h1, Bool.true_and]
  by_cases hz : x.2.1.head? = some c
  · rw [decide_eq_true hz]
    exact ⟨fun z => absurd z n1_0, fun z => absurd hz z⟩
  · rw [decide_eq_false hz]
    exact ⟨fun _ => hz, fun _ => rfl⟩
theorem c_takeClause {d : Nat} {σ : St} {x : PR} {R : Ru} {Q : St → Prop} (hn : nc < 5) (hC : CX σ bs rr x R) (hlt : x.1 = true → R.length < 6)
    (h : ∀ σ', frC rr σ σ' → CX σ' bs rr (bnd x pcP) (R ++ [pcC x.2.1]) → Q σ') : EV (d + 510) (idsC nc) Y_X5_takeClause [.ref 105] σ Q := by
  have hX := hC.1
  have hr := hX.2.1
  refine fl_X5_takeClause (hTx hn) (fun P18 P32 P45 P94 P108 H18 H32 H45 H94 H108 => ?_)
  have fin : ∀ y σ1 v, frP rr σ σ1 → PX 0 σ1 bs rr y → y = bnd x pcP → (y.1 = true → pcW x.2.1 = v) → ∀ d', EV (d' + 1) (idsC nc) Y_X3_addClause [.ref (140 + rr), .int v.1, .int v.2] σ1 Q := by
    rintro y σ1 v f1 h1 rfl hv d'
    refine c_addClause hn hC hlt f1 h1 (fun z => (bnd_1 z).1) (pcP x.2.1).2.2 (fun z => ?_) (fun σ' g1 g2 => h σ' g1 ?_)
    · have z1 := (bnd_1 z).1
      obtain ⟨b, r, s⟩ := x
      have z1 : b = true := z1
      subst z1
      rfl
    · refine ⟨g2.1, g2.2.1, fun z => ?_⟩
      have := g2.2.2 z
      rw [show R ++ [pcC x.2.1] = R ++ [(v.1, v.2, (pcP x.2.1).2.2)] from by rw [pcC, hv z]]
      exact this
  -- bar, slip
  have bars : ∀ (t : Nat), (t = 0 ∨ t = 1) → (x.1 = true → hdI x.2.1 98 ∨ hdI x.2.1 115) → (x.1 = true → wdN x.2.1 = t ∧ soN x.2.1 = nI t) → P45 (nI t) t σ := by
    intro t ht hbs hw
    have ht10 : t < 10 := by omega
    refine H45 _ _ _ (fun _ => ?_)
    show EV (d + 509) _ _ _ _ _
    rw [show d + 509 = (d + 504) + 5 by omega]
    refine c_take hn ht10 hX (fun σ1 f1 g1 => ?_)
    show EI (d + 504 + 5) _ _ _ _ _
    rw [show d + 504 + 5 = (d + 502) + 7 by omega]
    refine c_takeOneOf hn (by decide) g1 (fun v2 σ2 f2 g2 u2 x8 e8 => ?_)
    show EV (d + 502 + 7) _ _ _ _ _
    rw [show d + 502 + 7 = (d + 504) + 5 by omega]
    refine c_take hn (by decide) g2 (fun σ3 f3 g3 => ?_)
    show EV (d + 504 + 5) _ _ _ _ _
    rw [show d + 504 + 5 = (d + 1) + FU + 8 by unfold FU; omega]
    have hln : lnX (bnd (bnd (bnd x (wd (kbs.getD t []))) (oneP 2)) (wd (kbs.getD 3 []))) ≤ 100 := by
      have h1 := g3.le
      have h2 := g3.1.2.1
      unfold lnX
      split <;> omega
    refine (c_pz hn FU (d + 1) 0 1 σ3 _ _ (by decide) (g3)).1 (by unfold FU; omega) (fun σ4 f4 g4 => ?_)
    rw [g4.2.2.1]
    refine ⟨fun z => (by cases z), fun r11 er => ?_⟩
    cases er
    refine ⟨hRu hn hr, ?_⟩
    show EV (d + 1 + FU + 8) _ _ _ _ _
    rw [show d + 1 + FU + 8 = (d + 508) + 1 by unfold FU; omega]
    have ey : bnd (bnd (bnd (bnd x (wd (kbs.getD t []))) (oneP 2)) (wd (kbs.getD 3 []))) (pz FU 0 0) = bnd x pcP := by
      rw [bnd_bnd, bnd_bnd, bnd_bnd]
      refine bnd_congr (fun z => ?_)
      unfold pcP
      rw [if_pos (hbs z), (hw z).1]
    refine fin _ σ4 (nI t, x8) (((f1.tr f2).tr f3).tr f4) (g4.weak (Nat.zero_le _)) ey (fun z => ?_) (d + 508)
    obtain ⟨z1, -, -⟩ := bnd_1 z
    obtain ⟨z2, z3, -⟩ := bnd_1 z1
    obtain ⟨z4, z5, -⟩ := bnd_1 z2
    obtain ⟨z6, z7, z8⟩ := bnd_1 z4
    rw [pcW, if_pos (hbs z6), (hw z6).1, (hw z6).2, e8, u2 z4 z5, z8]
    show (nI t, nI (1 + _)) = (nI t, (1 : Int32) + nI _)
    rw [show (1 : Int32) = nI 1 from rfl, nI_add]
  -- last, days
  have lasts : ∀ (t : Nat), (t = 2 ∨ t = 3) → (x.1 = true → ¬ hdI x.2.1 98 ∧ ¬ hdI x.2.1 115) → (x.1 = true → wdN x.2.1 = (if t = 2 then 8 else 9) ∧ soN x.2.1 = nI t) → P108 (nI t) (if t = 2 then 8 else 9) σ := by
    intro t ht hbs hw
    generalize htt : (if t = 2 then 8 else 9) = tt at hw ⊢
    have ht10 : tt < 10 := by rw [← htt]; split <;> decide
    refine H108 _ _ _ (fun _ => ?_)
    show EV (d + 509) _ _ _ _ _
    rw [show d + 509 = (d + 504) + 5 by omega]
    refine c_take hn ht10 hX (fun σ1 f1 g1 => ?_)
    rw [g1.2.2.1]
    refine ⟨fun z => (by cases z), fun r11 er => ?_⟩
    cases er
    refine ⟨hRu hn hr, ?_⟩
    show EI (d + 504 + 5) _ _ _ _ _
    rw [show d + 504 + 5 = (d + 502) + 7 by omega]
    refine c_takeOneOf hn (by decide) g1 (fun v2 σ2 f2 g2 u2 => ?_)
    show EV (d + 502 + 7) _ _ _ _ _
    rw [show d + 502 + 7 = (d + 508) + 1 by omega]
    have ey : bnd (bnd x (wd (kbs.getD tt []))) (oneP 6) = bnd x pcP := by
      rw [bnd_bnd]
      refine bnd_congr (fun z => ?_)
      unfold pcP
      rw [if_neg (fun y => y.elim (hbs z).1 (hbs z).2), (hw z).1]
    refine fin _ σ2 (nI t, v2) (f1.tr f2) (g2.weak (Nat.zero_le _)) ey (fun z => ?_) (d + 508)
    obtain ⟨z1, z2, -⟩ := bnd_1 z
    obtain ⟨z6, z7, z8⟩ := bnd_1 z1
    rw [pcW, if_neg (fun y => y.elim (hbs z6).1 (hbs z6).2), (hw z6).1, (hw z6).2, u2 z1 z2, z8]
  show EI (d + 509) _ _ _ _ _
  refine c_isNext (c := 98) hn hX ⟨fun z => H18 _ (c_isNext (c := 98) hn hX ⟨fun y => absurd y z, fun _ => H32 _ _ ⟨fun y => absurd rfl y, fun _ => ?_⟩⟩ (by decide)), fun z => c_isNext (c := 115) hn hX ⟨fun z2 => c_isNext (c := 108) hn hX ⟨fun z3 => H94 _ _ ⟨fun _ => ?_, fun y => absurd y (by decide)⟩, fun z3 => H94 _ _ ⟨fun y => absurd rfl y, fun _ => ?_⟩⟩ (by decide), fun z2 => H18 _ (c_isNext (c := 98) hn hX ⟨fun _ => H32 _ _ ⟨fun _ => ?_, fun y => absurd y (by decide)⟩, fun y => absurd z y⟩ (by decide))⟩ (by decide)⟩ (by decide)
  · obtain ⟨r, s, rfl⟩ := nx_1 z
    exact bars 0 (Or.inl rfl) (fun _ => Or.inl rfl) (fun _ => ⟨rfl, rfl⟩)
  · refine lasts 3 (Or.inr rfl) (fun y => ⟨(hd_1 y).mp z, (hd_1 y).mp z2⟩) (fun y => ?_)
    have n1 := (hd_1 y).mp z
    have n2 := (hd_1 y).mp z2
    have n3 := (hd_1 y).mp z3
    unfold wdN soN
    rw [if_neg n1, if_neg n2, if_neg n3, if_neg n1, if_neg n2, if_neg n3]
    exact ⟨rfl, rfl⟩
  · refine lasts 2 (Or.inl rfl) (fun y => ⟨(hd_1 y).mp z, (hd_1 y).mp z2⟩) (fun y => ?_)
    have n1 := (hd_1 y).mp z
    have n2 := (hd_1 y).mp z2
    obtain ⟨r, s, rfl⟩ := nx_1 z3
    unfold wdN soN
    have n3 : hdI ((true, 108 :: r, s) : PR).2.1 108 := rfl
    rw [if_neg n1, if_neg n2, if_pos n3, if_neg n1, if_neg n2, if_pos n3]
    exact ⟨rfl, rfl⟩
  · obtain ⟨r, s, rfl⟩ := nx_1 z2
    have n1 := (hd_1 (x := (true, 115 :: r, s)) rfl).mp z
    refine bars 1 (Or.inr rfl) (fun _ => Or.inr rfl) (fun _ => ?_)
    unfold wdN soN
    have n3 : hdI ((true, 115 :: r, s) : PR).2.1 115 := rfl
    rw [if_neg n1, if_pos n3, if_neg n1, if_pos n3]
    exact ⟨rfl, rfl⟩
end PG
