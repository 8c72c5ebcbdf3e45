/-! formulas of the methods: if the formula holds, the contract does -/
set_option maxHeartbeats 4000000 in
set_option maxRecDepth 20000 in
theorem fl_J6_bitCount_0f7a4 {d : Nat} {ids : List Nat} {a0 : Int32} {σ : St} {Q : Int32 → St → Prop}  (H : ∀ x1 : Int32, x1 = a0 - ((UInt32.toInt32 ((Int32.toUInt32 a0) >>> ((Int32.toUInt32 1) &&& Int32.toUInt32 31))) &&& 1431655765) → ∀ x2 : Int32, x2 = (x1 &&& 858993459) + ((UInt32.toInt32 ((Int32.toUInt32 x1) >>> ((Int32.toUInt32 2) &&& Int32.toUInt32 31))) &&& 858993459) → ∀ x3 : Int32, x3 = (x2 + (UInt32.toInt32 ((Int32.toUInt32 x2) >>> ((Int32.toUInt32 4) &&& Int32.toUInt32 31)))) &&& 252645135 → ∀ x4 : Int32, x4 = x3 + (UInt32.toInt32 ((Int32.toUInt32 x3) >>> ((Int32.toUInt32 8) &&& Int32.toUInt32 31))) → ∀ x5 : Int32, x5 = x4 + (UInt32.toInt32 ((Int32.toUInt32 x4) >>> ((Int32.toUInt32 16) &&& Int32.toUInt32 31))) → Q (x5 &&& 63) σ) : EI (d + 1) ids Y_J6_bitCount_0f7a4 [.int a0] σ Q := by
  refine E_mk (by decide) (Nat.le_of_ble_eq_true rfl) (fun X hX => ?_)
  replace hX : Cok X ids 1 cJ6_bitCount_0f7a4 (some .int) (d + 1) RJ6 := hX
  show Wg X ids 1 _ 0 [(0, .int a0)] [] σ
  have h := H
  refine q_iload_n 0 hX dJ6_bitCount_0f7a4_0 rfl rfl ?_
  refine q_iload_n 0 hX dJ6_bitCount_0f7a4_1 rfl rfl ?_
  refine q_iconst (v := 1) hX dJ6_bitCount_0f7a4_2 (by decide) ?_
  refine q_iushr hX dJ6_bitCount_0f7a4_3 ?_
  refine q_ldc_w (v := 1431655765) hX dJ6_bitCount_0f7a4_4 tb_563 ?_
  refine q_iand hX dJ6_bitCount_0f7a4_7 ?_
  refine q_isub hX dJ6_bitCount_0f7a4_8 ?_
  refine Wg.nmI (fun x1 ex1 => ?_)
  replace h := h x1 ex1
  refine q_istore_n (L' := [(0, .int x1)]) hX dJ6_bitCount_0f7a4_9 rfl (by decide) rfl ?_
  refine q_iload_n 0 hX dJ6_bitCount_0f7a4_10 rfl rfl ?_
  refine q_ldc_w (v := 858993459) hX dJ6_bitCount_0f7a4_11 tb_564 ?_
  refine q_iand hX dJ6_bitCount_0f7a4_14 ?_
  refine q_iload_n 0 hX dJ6_bitCount_0f7a4_15 rfl rfl ?_
  refine q_iconst (v := 2) hX dJ6_bitCount_0f7a4_16 (by decide) ?_
  refine q_iushr hX dJ6_bitCount_0f7a4_17 ?_
  refine q_ldc_w (v := 858993459) hX dJ6_bitCount_0f7a4_18 tb_564 ?_
  refine q_iand hX dJ6_bitCount_0f7a4_21 ?_
  refine q_iadd hX dJ6_bitCount_0f7a4_22 ?_
  refine Wg.nmI (fun x2 ex2 => ?_)
  replace h := h x2 ex2
  refine q_istore_n (L' := [(0, .int x2)]) hX dJ6_bitCount_0f7a4_23 rfl (by decide) rfl ?_
  refine q_iload_n 0 hX dJ6_bitCount_0f7a4_24 rfl rfl ?_
  refine q_iload_n 0 hX dJ6_bitCount_0f7a4_25 rfl rfl ?_
  refine q_iconst (v := 4) hX dJ6_bitCount_0f7a4_26 (by decide) ?_
  refine q_iushr hX dJ6_bitCount_0f7a4_27 ?_
  refine q_iadd hX dJ6_bitCount_0f7a4_28 ?_
  refine q_ldc_w (v := 252645135) hX dJ6_bitCount_0f7a4_29 tb_565 ?_
  refine q_iand hX dJ6_bitCount_0f7a4_32 ?_
  refine Wg.nmI (fun x3 ex3 => ?_)
  replace h := h x3 ex3
  refine q_istore_n (L' := [(0, .int x3)]) hX dJ6_bitCount_0f7a4_33 rfl (by decide) rfl ?_
  refine q_iload_n 0 hX dJ6_bitCount_0f7a4_34 rfl rfl ?_
  refine q_iload_n 0 hX dJ6_bitCount_0f7a4_35 rfl rfl ?_
  refine q_bipush (v := 8) hX dJ6_bitCount_0f7a4_36 (by decide) ?_
  refine q_iushr hX dJ6_bitCount_0f7a4_38 ?_
  refine q_iadd hX dJ6_bitCount_0f7a4_39 ?_
  refine Wg.nmI (fun x4 ex4 => ?_)
  replace h := h x4 ex4
  refine q_istore_n (L' := [(0, .int x4)]) hX dJ6_bitCount_0f7a4_40 rfl (by decide) rfl ?_
  refine q_iload_n 0 hX dJ6_bitCount_0f7a4_41 rfl rfl ?_
  refine q_iload_n 0 hX dJ6_bitCount_0f7a4_42 rfl rfl ?_
  refine q_bipush (v := 16) hX dJ6_bitCount_0f7a4_43 (by decide) ?_
  refine q_iushr hX dJ6_bitCount_0f7a4_45 ?_
  refine q_iadd hX dJ6_bitCount_0f7a4_46 ?_
  refine Wg.nmI (fun x5 ex5 => ?_)
  replace h := h x5 ex5
  refine q_istore_n (L' := [(0, .int x5)]) hX dJ6_bitCount_0f7a4_47 rfl (by decide) rfl ?_
  refine q_iload_n 0 hX dJ6_bitCount_0f7a4_48 rfl rfl ?_
  refine q_bipush (v := 63) hX dJ6_bitCount_0f7a4_49 (by decide) ?_
  refine q_iand hX dJ6_bitCount_0f7a4_51 ?_
  exact q_ret hX dJ6_bitCount_0f7a4_52 ⟨_, rfl, h⟩
set_option maxHeartbeats 4000000 in
set_option maxRecDepth 20000 in
theorem fl_J9_max_7cf53 {d : Nat} {ids : List Nat} {a0 : Int32} {a1 : Int32} {σ : St} {Q : Int32 → St → Prop}  (H : ((a0 < a1 → Q a1 σ) ∧ (¬ (a0 < a1) → Q a0 σ))) : EI (d + 1) ids Y_J9_max_7cf53 [.int a0, .int a1] σ Q := by
  refine E_mk (by decide) (Nat.le_of_ble_eq_true rfl) (fun X hX => ?_)
  replace hX : Cok X ids 2 cJ9_max_7cf53 (some .int) (d + 1) RJ9 := hX
  show Wg X ids 2 _ 0 [(0, .int a0), (1, .int a1)] [] σ
  have h := H
  refine q_iload_n 0 hX dJ9_max_7cf53_0 rfl rfl ?_
  refine q_iload_n 1 hX dJ9_max_7cf53_1 rfl rfl ?_
  refine q_icmp_lt 9 hX dJ9_max_7cf53_2 (by decide) (fun c1 => ?_) (fun c1 => ?_)
  · replace h := h.1 c1
    refine q_iload_n 1 hX dJ9_max_7cf53_9 rfl rfl ?_
    exact q_ret hX dJ9_max_7cf53_10 ⟨_, rfl, h⟩
  · replace h := h.2 c1
    refine q_iload_n 0 hX dJ9_max_7cf53_5 rfl rfl ?_
    refine q_goto 10 hX dJ9_max_7cf53_6 (by decide) ?_
    exact q_ret hX dJ9_max_7cf53_10 ⟨_, rfl, h⟩
set_option maxHeartbeats 4000000 in
set_option maxRecDepth 20000 in
theorem fl_J9_min_7cf53 {d : Nat} {ids : List Nat} {a0 : Int32} {a1 : Int32} {σ : St} {Q : Int32 → St → Prop}  (H : ((a1 < a0 → Q a1 σ) ∧ (¬ (a1 < a0) → Q a0 σ))) : EI (d + 1) ids Y_J9_min_7cf53 [.int a0, .int a1] σ Q := by
  refine E_mk (by decide) (Nat.le_of_ble_eq_true rfl) (fun X hX => ?_)
  replace hX : Cok X ids 2 cJ9_min_7cf53 (some .int) (d + 1) RJ9 := hX
  show Wg X ids 2 _ 0 [(0, .int a0), (1, .int a1)] [] σ
  have h := H
  refine q_iload_n 0 hX dJ9_min_7cf53_0 rfl rfl ?_
  refine q_iload_n 1 hX dJ9_min_7cf53_1 rfl rfl ?_
  refine q_icmp_gt 9 hX dJ9_min_7cf53_2 (by decide) (fun c1 => ?_) (fun c1 => ?_)
  · replace h := h.1 c1
    refine q_iload_n 1 hX dJ9_min_7cf53_9 rfl rfl ?_
    exact q_ret hX dJ9_min_7cf53_10 ⟨_, rfl, h⟩
  · replace h := h.2 c1
    refine q_iload_n 0 hX dJ9_min_7cf53_5 rfl rfl ?_
    refine q_goto 10 hX dJ9_min_7cf53_6 (by decide) ?_
    exact q_ret hX dJ9_min_7cf53_10 ⟨_, rfl, h⟩
