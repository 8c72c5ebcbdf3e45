/-! formulas of the methods: if the formula holds, the contract does -/
set_option maxHeartbeats 4000000 in
set_option maxRecDepth 20000 in
theorem fl_J6_bitCount_0f7a4 {d : Nat} {ids : List Nat} {a0 : Int32} {σ : St} {Q : Int32 → St → Prop}  (H : ∀ x1 : Int32, x1 = (a0 - ((UInt32.toInt32 ((Int32.toUInt32 a0) >>> ((Int32.toUInt32 1) &&& Int32.toUInt32 31))) &&& 1431655765)) → ∀ x2 : Int32, x2 = ((x1 &&& 858993459) + ((UInt32.toInt32 ((Int32.toUInt32 x1) >>> ((Int32.toUInt32 2) &&& Int32.toUInt32 31))) &&& 858993459)) → ∀ x3 : Int32, x3 = ((x2 + (UInt32.toInt32 ((Int32.toUInt32 x2) >>> ((Int32.toUInt32 4) &&& Int32.toUInt32 31)))) &&& 252645135) → ∀ x4 : Int32, x4 = (x3 + (UInt32.toInt32 ((Int32.toUInt32 x3) >>> ((Int32.toUInt32 8) &&& Int32.toUInt32 31)))) → ∀ x5 : Int32, x5 = (x4 + (UInt32.toInt32 ((Int32.toUInt32 x4) >>> ((Int32.toUInt32 16) &&& Int32.toUInt32 31)))) → Q (x5 &&& 63) σ) : EI (d + 1) ids Y_J6_bitCount_0f7a4 [.int a0] σ Q := by
  refine E_mk (by decide) (Nat.le_of_ble_eq_true rfl) (fun X hX => ?_)
  replace hX : Cok X ids 1 cJ6_bitCount_0f7a4 (some .int) (d + 1) RJ6 := hX
  show Wg X ids 1 _ 0 [(0, .int a0)] [] σ
  have h := H
  refine q_iload_n 0 hX dJ6_bitCount_0f7a4_0 rfl rfl ?_
  refine q_iload_n 0 hX dJ6_bitCount_0f7a4_1 rfl rfl ?_
  refine q_iconst (v := 1) hX dJ6_bitCount_0f7a4_2 (by decide) ?_
  refine q_iushr hX dJ6_bitCount_0f7a4_3 ?_
  refine q_ldc_w (v := 1431655765) hX dJ6_bitCount_0f7a4_4 tb_563 ?_
  refine q_iand hX dJ6_bitCount_0f7a4_7 ?_
  refine q_isub hX dJ6_bitCount_0f7a4_8 ?_
  refine Wg.nmI (fun x1 ex1 => ?_)
  replace h := h x1 ex1
  refine q_istore_n (L' := [(0, .int x1)]) hX dJ6_bitCount_0f7a4_9 rfl (by decide) rfl ?_
  refine q_iload_n 0 hX dJ6_bitCount_0f7a4_10 rfl rfl ?_
  refine q_ldc_w (v := 858993459) hX dJ6_bitCount_0f7a4_11 tb_564 ?_
  refine q_iand hX dJ6_bitCount_0f7a4_14 ?_
  refine q_iload_n 0 hX dJ6_bitCount_0f7a4_15 rfl rfl ?_
  refine q_iconst (v := 2) hX dJ6_bitCount_0f7a4_16 (by decide) ?_
  refine q_iushr hX dJ6_bitCount_0f7a4_17 ?_
  refine q_ldc_w (v := 858993459) hX dJ6_bitCount_0f7a4_18 tb_564 ?_
  refine q_iand hX dJ6_bitCount_0f7a4_21 ?_
  refine q_iadd hX dJ6_bitCount_0f7a4_22 ?_
  refine Wg.nmI (fun x2 ex2 => ?_)
  replace h := h x2 ex2
  refine q_istore_n (L' := [(0, .int x2)]) hX dJ6_bitCount_0f7a4_23 rfl (by decide) rfl ?_
  refine q_iload_n 0 hX dJ6_bitCount_0f7a4_24 rfl rfl ?_
  refine q_iload_n 0 hX dJ6_bitCount_0f7a4_25 rfl rfl ?_
  refine q_iconst (v := 4) hX dJ6_bitCount_0f7a4_26 (by decide) ?_
  refine q_iushr hX dJ6_bitCount_0f7a4_27 ?_
  refine q_iadd hX dJ6_bitCount_0f7a4_28 ?_
  refine q_ldc_w (v := 252645135) hX dJ6_bitCount_0f7a4_29 tb_565 ?_
  refine q_iand hX dJ6_bitCount_0f7a4_32 ?_
  refine Wg.nmI (fun x3 ex3 => ?_)
  replace h := h x3 ex3
  refine q_istore_n (L' := [(0, .int x3)]) hX dJ6_bitCount_0f7a4_33 rfl (by decide) rfl ?_
  refine q_iload_n 0 hX dJ6_bitCount_0f7a4_34 rfl rfl ?_
  refine q_iload_n 0 hX dJ6_bitCount_0f7a4_35 rfl rfl ?_
  refine q_bipush (v := 8) hX dJ6_bitCount_0f7a4_36 (by decide) ?_
  refine q_iushr hX dJ6_bitCount_0f7a4_38 ?_
  refine q_iadd hX dJ6_bitCount_0f7a4_39 ?_
  refine Wg.nmI (fun x4 ex4 => ?_)
  replace h := h x4 ex4
  refine q_istore_n (L' := [(0, .int x4)]) hX dJ6_bitCount_0f7a4_40 rfl (by decide) rfl ?_
  refine q_iload_n 0 hX dJ6_bitCount_0f7a4_41 rfl rfl ?_
  refine q_iload_n 0 hX dJ6_bitCount_0f7a4_42 rfl rfl ?_
  refine q_bipush (v := 16) hX dJ6_bitCount_0f7a4_43 (by decide) ?_
  refine q_iushr hX dJ6_bitCount_0f7a4_45 ?_
  refine q_iadd hX dJ6_bitCount_0f7a4_46 ?_
  refine Wg.nmI (fun x5 ex5 => ?_)
  replace h := h x5 ex5
  refine q_istore_n (L' := [(0, .int x5)]) hX dJ6_bitCount_0f7a4_47 rfl (by decide) rfl ?_
  refine q_iload_n 0 hX dJ6_bitCount_0f7a4_48 rfl rfl ?_
  refine q_bipush (v := 63) hX dJ6_bitCount_0f7a4_49 (by decide) ?_
  refine q_iand hX dJ6_bitCount_0f7a4_51 ?_
  exact q_ret hX dJ6_bitCount_0f7a4_52 ⟨_, rfl, h⟩
set_option maxHeartbeats 4000000 in
set_option maxRecDepth 20000 in
theorem fl_J0_length_8abf5 {d : Nat} {ids : List Nat} {o : Nat} {σ : St} {Q : Int32 → St → Prop} (h_o : o < 10) (H : EI d ids Y_J0_coder_7d493 [.ref ((1010 + o))] σ (fun x2 s1 => Q ((nI (kls.getD o 0)) >>> (x2 &&& 31)) s1)) : EI (d + 1) ids Y_J0_length_8abf5 [.ref ((1010 + o))] σ Q := by
  refine E_mk (by decide) (Nat.le_of_ble_eq_true rfl) (fun X hX => ?_)
  replace hX : Cok X ids 1 cJ0_length_8abf5 (some .int) (d + 1) RJ0 := hX
  show Wg X ids 1 _ 0 [(0, .ref ((1010 + o)))] [] σ
  have h := H
  refine q_aload_n 0 hX dJ0_length_8abf5_0 rfl rfl ?_
  refine q_kval hX dJ0_length_8abf5_1 tb_1280 h_o ?_
  refine q_klen hX dJ0_length_8abf5_4 h_o ?_
  refine q_aload_n 0 hX dJ0_length_8abf5_5 rfl rfl ?_
  refine cl_J0_335 hX h_o dJ0_length_8abf5_6 (Nat.le_of_ble_eq_true rfl) h (fun x2 s1 h => ?_)
  refine q_ishr hX dJ0_length_8abf5_9 ?_
  exact q_ret hX dJ0_length_8abf5_10 ⟨_, rfl, h⟩
set_option maxHeartbeats 4000000 in
set_option maxRecDepth 20000 in
theorem fl_J0_charAt_5068e {d : Nat} {ids : List Nat} {o : Nat} {a0 : Int32} {σ : St} {Q : Int32 → St → Prop} (h_o : o < 10) (H : EI d ids Y_J0_isLatin1_aae02 [.ref ((1010 + o))] σ (fun x2 s1 => ((x2 = 0 → False) ∧ (¬ x2 = 0 → EI d ids Y_J1_charAt_3b067 [.ref ((1030 + o)), .int a0] s1 (fun x5 s4 => (narrow .char (.int x5) = .int x5 ∧ Q x5 s4)))))) : EI (d + 1) ids Y_J0_charAt_5068e [.ref ((1010 + o)), .int a0] σ Q := by
  refine E_mk (by decide) (Nat.le_of_ble_eq_true rfl) (fun X hX => ?_)
  replace hX : Cok X ids 2 cJ0_charAt_5068e (some .char) (d + 1) RJ0 := hX
  show Wg X ids 2 _ 0 [(0, .ref ((1010 + o))), (1, .int a0)] [] σ
  have h := H
  refine q_aload_n 0 hX dJ0_charAt_5068e_0 rfl rfl ?_
  refine cl_J0_492 hX h_o dJ0_charAt_5068e_1 (Nat.le_of_ble_eq_true rfl) h (fun x2 s1 h => ?_)
  refine q_if_eq 16 hX dJ0_charAt_5068e_4 (by decide) (fun c3 => ?_) (fun c3 => ?_)
  · replace h := h.1 c3
    refine q_aload_n 0 hX dJ0_charAt_5068e_16 rfl rfl ?_
    refine q_kval hX dJ0_charAt_5068e_17 tb_1280 h_o ?_
    refine q_iload_n 1 hX dJ0_charAt_5068e_20 rfl rfl ?_
    exact h.elim
  · replace h := h.2 c3
    refine q_aload_n 0 hX dJ0_charAt_5068e_7 rfl rfl ?_
    refine q_kval hX dJ0_charAt_5068e_8 tb_1280 h_o ?_
    refine q_iload_n 1 hX dJ0_charAt_5068e_11 rfl rfl ?_
    refine cl_J0_495 hX dJ0_charAt_5068e_12 (Nat.le_of_ble_eq_true rfl) h (fun x5 s4 h => ?_)
    exact q_nret hX dJ0_charAt_5068e_15 h.1 ⟨_, rfl, h.2⟩
set_option maxHeartbeats 4000000 in
set_option maxRecDepth 20000 in
theorem fl_J0_indexOf_0f7a4 {d : Nat} {ids : List Nat} {o : Nat} {a0 : Int32} {σ : St} {Q : Int32 → St → Prop} (h_o : o < 10) (H : EI d ids Y_J0_indexOf_7cf53 [.ref ((1010 + o)), .int a0, .int 0] σ (fun x2 s1 => Q x2 s1)) : EI (d + 1) ids Y_J0_indexOf_0f7a4 [.ref ((1010 + o)), .int a0] σ Q := by
  refine E_mk (by decide) (Nat.le_of_ble_eq_true rfl) (fun X hX => ?_)
  replace hX : Cok X ids 2 cJ0_indexOf_0f7a4 (some .int) (d + 1) RJ0 := hX
  show Wg X ids 2 _ 0 [(0, .ref ((1010 + o))), (1, .int a0)] [] σ
  have h := H
  refine q_aload_n 0 hX dJ0_indexOf_0f7a4_0 rfl rfl ?_
  refine q_iload_n 1 hX dJ0_indexOf_0f7a4_1 rfl rfl ?_
  refine q_iconst (v := 0) hX dJ0_indexOf_0f7a4_2 (by decide) ?_
  refine cl_J0_633 hX h_o dJ0_indexOf_0f7a4_3 (Nat.le_of_ble_eq_true rfl) h (fun x2 s1 h => ?_)
  exact q_ret hX dJ0_indexOf_0f7a4_6 ⟨_, rfl, h⟩
set_option maxHeartbeats 4000000 in
set_option maxRecDepth 20000 in
theorem fl_J0_indexOf_7cf53 {d : Nat} {ids : List Nat} {o : Nat} {a0 : Int32} {a1 : Int32} {σ : St} {Q : Int32 → St → Prop} (h_o : o < 10) (H : EI d ids Y_J0_isLatin1_aae02 [.ref ((1010 + o))] σ (fun x2 s1 => ((x2 = 0 → EI d ids Y_J0_length_8abf5 [.ref ((1010 + o))] s1 (fun x5 s4 => False)) ∧ (¬ x2 = 0 → EI d ids Y_J0_length_8abf5 [.ref ((1010 + o))] s1 (fun x7 s6 => EI d ids Y_J1_indexOf_4cfef [.ref ((1030 + o)), .int a0, .int a1, .int x7] s6 (fun x9 s8 => Q x9 s8)))))) : EI (d + 1) ids Y_J0_indexOf_7cf53 [.ref ((1010 + o)), .int a0, .int a1] σ Q := by
  refine E_mk (by decide) (Nat.le_of_ble_eq_true rfl) (fun X hX => ?_)
  replace hX : Cok X ids 3 cJ0_indexOf_7cf53 (some .int) (d + 1) RJ0 := hX
  show Wg X ids 3 _ 0 [(0, .ref ((1010 + o))), (1, .int a0), (2, .int a1)] [] σ
  have h := H
  refine q_aload_n 0 hX dJ0_indexOf_7cf53_0 rfl rfl ?_
  refine cl_J0_492 hX h_o dJ0_indexOf_7cf53_1 (Nat.le_of_ble_eq_true rfl) h (fun x2 s1 h => ?_)
  refine q_if_eq 23 hX dJ0_indexOf_7cf53_4 (by decide) (fun c3 => ?_) (fun c3 => ?_)
  · replace h := h.1 c3
    refine q_aload_n 0 hX dJ0_indexOf_7cf53_23 rfl rfl ?_
    refine q_kval hX dJ0_indexOf_7cf53_24 tb_1280 h_o ?_
    refine q_iload_n 1 hX dJ0_indexOf_7cf53_27 rfl rfl ?_
    refine q_iload_n 2 hX dJ0_indexOf_7cf53_28 rfl rfl ?_
    refine q_aload_n 0 hX dJ0_indexOf_7cf53_29 rfl rfl ?_
    refine cl_J0_505 hX h_o dJ0_indexOf_7cf53_30 (Nat.le_of_ble_eq_true rfl) h (fun x5 s4 h => ?_)
    exact h.elim
  · replace h := h.2 c3
    refine q_aload_n 0 hX dJ0_indexOf_7cf53_7 rfl rfl ?_
    refine q_kval hX dJ0_indexOf_7cf53_8 tb_1280 h_o ?_
    refine q_iload_n 1 hX dJ0_indexOf_7cf53_11 rfl rfl ?_
    refine q_iload_n 2 hX dJ0_indexOf_7cf53_12 rfl rfl ?_
    refine q_aload_n 0 hX dJ0_indexOf_7cf53_13 rfl rfl ?_
    refine cl_J0_505 hX h_o dJ0_indexOf_7cf53_14 (Nat.le_of_ble_eq_true rfl) h (fun x7 s6 h => ?_)
    refine cl_J0_637 hX dJ0_indexOf_7cf53_17 (Nat.le_of_ble_eq_true rfl) h (fun x9 s8 h => ?_)
    refine q_goto 36 hX dJ0_indexOf_7cf53_20 (by decide) ?_
    exact q_ret hX dJ0_indexOf_7cf53_36 ⟨_, rfl, h⟩
set_option maxHeartbeats 4000000 in
set_option maxRecDepth 20000 in
theorem fl_J0_coder_7d493 {d : Nat} {ids : List Nat} {o : Nat} {σ : St} {Q : Int32 → St → Prop} (h_o : o < 10) (H : (((1 : Int32) = 0 → (narrow .byte (.int 1) = .int 1 ∧ Q 1 σ)) ∧ (¬ (1 : Int32) = 0 → (narrow .byte (.int 0) = .int 0 ∧ Q 0 σ)))) : EI (d + 1) ids Y_J0_coder_7d493 [.ref ((1010 + o))] σ Q := by
  refine E_mk (by decide) (Nat.le_of_ble_eq_true rfl) (fun X hX => ?_)
  replace hX : Cok X ids 1 cJ0_coder_7d493 (some .byte) (d + 1) RJ0 := hX
  show Wg X ids 1 _ 0 [(0, .ref ((1010 + o)))] [] σ
  have h := H
  refine q_compact hX dJ0_coder_7d493_0 tb_399 ?_
  refine q_if_eq 13 hX dJ0_coder_7d493_3 (by decide) (fun c1 => ?_) (fun c1 => ?_)
  · replace h := h.1 c1
    refine q_iconst (v := 1) hX dJ0_coder_7d493_13 (by decide) ?_
    exact q_nret hX dJ0_coder_7d493_14 h.1 ⟨_, rfl, h.2⟩
  · replace h := h.2 c1
    refine q_aload_n 0 hX dJ0_coder_7d493_6 rfl rfl ?_
    refine q_kcod hX dJ0_coder_7d493_7 tb_1281 h_o ?_
    refine q_goto 14 hX dJ0_coder_7d493_10 (by decide) ?_
    exact q_nret hX dJ0_coder_7d493_14 h.1 ⟨_, rfl, h.2⟩
set_option maxHeartbeats 4000000 in
set_option maxRecDepth 20000 in
theorem fl_J0_isLatin1_aae02 {d : Nat} {ids : List Nat} {o : Nat} {σ : St} {Q : Int32 → St → Prop} (h_o : o < 10) (H : (((1 : Int32) = 0 → Q 0 σ) ∧ (¬ (1 : Int32) = 0 → ((¬ (0 : Int32) = 0 → Q 0 σ) ∧ ((0 : Int32) = 0 → Q 1 σ))))) : EI (d + 1) ids Y_J0_isLatin1_aae02 [.ref ((1010 + o))] σ Q := by
  refine E_mk (by decide) (Nat.le_of_ble_eq_true rfl) (fun X hX => ?_)
  replace hX : Cok X ids 1 cJ0_isLatin1_aae02 (some .boolean) (d + 1) RJ0 := hX
  show Wg X ids 1 _ 0 [(0, .ref ((1010 + o)))] [] σ
  have h := H
  refine q_compact hX dJ0_isLatin1_aae02_0 tb_399 ?_
  refine q_if_eq 17 hX dJ0_isLatin1_aae02_3 (by decide) (fun c1 => ?_) (fun c1 => ?_)
  · replace h := h.1 c1
    refine q_iconst (v := 0) hX dJ0_isLatin1_aae02_17 (by decide) ?_
    exact q_zret hX dJ0_isLatin1_aae02_18 (by decide) ⟨_, rfl, h⟩
  · replace h := h.2 c1
    refine q_aload_n 0 hX dJ0_isLatin1_aae02_6 rfl rfl ?_
    refine q_kcod hX dJ0_isLatin1_aae02_7 tb_1281 h_o ?_
    refine q_if_ne 17 hX dJ0_isLatin1_aae02_10 (by decide) (fun c2 => ?_) (fun c2 => ?_)
    · replace h := h.1 c2
      refine q_iconst (v := 0) hX dJ0_isLatin1_aae02_17 (by decide) ?_
      exact q_zret hX dJ0_isLatin1_aae02_18 (by decide) ⟨_, rfl, h⟩
    · replace h := h.2 c2
      refine q_iconst (v := 1) hX dJ0_isLatin1_aae02_13 (by decide) ?_
      refine q_goto 18 hX dJ0_isLatin1_aae02_14 (by decide) ?_
      exact q_zret hX dJ0_isLatin1_aae02_18 (by decide) ⟨_, rfl, h⟩
set_option maxHeartbeats 4000000 in
set_option maxRecDepth 20000 in
theorem fl_J0_checkIndex_df160 {d : Nat} {ids : List Nat} {a0 : Int32} {a1 : Int32} {σ : St} {Q : St → Prop}  (H : (EI d ids Y_J3_checkIndex_8e157 [.int a0, .int a1, .null] σ (fun x2 s1 => Q s1) ∧ EI d ids Y_J3_checkIndex_8e157 [.int a0, .int a1, .ref 1050] σ (fun x4 s3 => Q s3))) : EV (d + 1) ids Y_J0_checkIndex_df160 [.int a0, .int a1] σ Q := by
  refine E_mk (by decide) (Nat.le_of_ble_eq_true rfl) (fun X hX => ?_)
  replace hX : Cok X ids 2 cJ0_checkIndex_df160 none (d + 1) RJ0 := hX
  show Wg X ids 2 _ 0 [(0, .int a0), (1, .int a1)] [] σ
  have h := H
  refine q_iload_n 0 hX dJ0_checkIndex_df160_0 rfl rfl ?_
  refine q_iload_n 1 hX dJ0_checkIndex_df160_1 rfl rfl ?_
  refine q_sioobe hX dJ0_checkIndex_df160_2 tb_415 ?_ ?_
  · replace h := h.1
    refine cl_J0_1059n hX dJ0_checkIndex_df160_5 (Nat.le_of_ble_eq_true rfl) h (fun x2 s1 h => ?_)
    refine q_pop hX dJ0_checkIndex_df160_8 rfl ?_
    exact q_vret hX dJ0_checkIndex_df160_9 ⟨rfl, h⟩
  · replace h := h.2
    refine cl_J0_1059 hX dJ0_checkIndex_df160_5 (Nat.le_of_ble_eq_true rfl) h (fun x4 s3 h => ?_)
    refine q_pop hX dJ0_checkIndex_df160_8 rfl ?_
    exact q_vret hX dJ0_checkIndex_df160_9 ⟨rfl, h⟩
set_option maxHeartbeats 4000000 in
set_option maxRecDepth 20000 in
theorem fl_J1_charAt_3b067 {d : Nat} {ids : List Nat} {a0 : Nat} {a1 : Int32} {σ : St} {Q : Int32 → St → Prop} (h_a0 : a0 < 10) (H : EV d ids Y_J0_checkIndex_df160 [.int a1, .int (nI (kls.getD a0 0))] σ (fun s1 => vp_in a1 (kls.getD a0 0) ∧ (narrow .char (.int (UInt32.toInt32 (Int32.toUInt32 (((kbs.getD a0 []).getD (Int32.toNatClampNeg a1) 0) &&& 255) % 65536))) = .int (UInt32.toInt32 (Int32.toUInt32 (((kbs.getD a0 []).getD (Int32.toNatClampNeg a1) 0) &&& 255) % 65536)) ∧ Q (UInt32.toInt32 (Int32.toUInt32 (((kbs.getD a0 []).getD (Int32.toNatClampNeg a1) 0) &&& 255) % 65536)) s1))) : EI (d + 1) ids Y_J1_charAt_3b067 [.ref ((1030 + a0)), .int a1] σ Q := by
  refine E_mk (by decide) (Nat.le_of_ble_eq_true rfl) (fun X hX => ?_)
  replace hX : Cok X ids 2 cJ1_charAt_3b067 (some .char) (d + 1) RJ1 := hX
  show Wg X ids 2 _ 0 [(0, .ref ((1030 + a0))), (1, .int a1)] [] σ
  have h := H
  refine q_iload_n 1 hX dJ1_charAt_3b067_0 rfl rfl ?_
  refine q_aload_n 0 hX dJ1_charAt_3b067_1 rfl rfl ?_
  refine q_klen hX dJ1_charAt_3b067_2 h_a0 ?_
  refine cl_J1_9 hX dJ1_charAt_3b067_3 (Nat.le_of_ble_eq_true rfl) h (fun s1 h => ?_)
  refine q_aload_n 0 hX dJ1_charAt_3b067_6 rfl rfl ?_
  refine q_iload_n 1 hX dJ1_charAt_3b067_7 rfl rfl ?_
  obtain ⟨b2, h⟩ := h
  refine q_kald hX dJ1_charAt_3b067_8 h_a0 b2 ?_
  refine q_sipush (v := 255) hX dJ1_charAt_3b067_9 (by decide) ?_
  refine q_iand hX dJ1_charAt_3b067_12 ?_
  refine q_i2c hX dJ1_charAt_3b067_13 ?_
  exact q_nret hX dJ1_charAt_3b067_14 h.1 ⟨_, rfl, h.2⟩
set_option maxHeartbeats 4000000 in
set_option maxRecDepth 20000 in
theorem fl_J1_canEncode_9a6ad {d : Nat} {ids : List Nat} {a0 : Int32} {σ : St} {Q : Int32 → St → Prop}  (H : ((a0 < 0 → Q 0 σ) ∧ (¬ (a0 < 0) → ((255 < a0 → Q 0 σ) ∧ (¬ (255 < a0) → Q 1 σ))))) : EI (d + 1) ids Y_J1_canEncode_9a6ad [.int a0] σ Q := by
  refine E_mk (by decide) (Nat.le_of_ble_eq_true rfl) (fun X hX => ?_)
  replace hX : Cok X ids 1 cJ1_canEncode_9a6ad (some .boolean) (d + 1) RJ1 := hX
  show Wg X ids 1 _ 0 [(0, .int a0)] [] σ
  have h := H
  refine q_iload_n 0 hX dJ1_canEncode_9a6ad_0 rfl rfl ?_
  refine q_if_lt 15 hX dJ1_canEncode_9a6ad_1 (by decide) (fun c1 => ?_) (fun c1 => ?_)
  · replace h := h.1 c1
    refine q_iconst (v := 0) hX dJ1_canEncode_9a6ad_15 (by decide) ?_
    exact q_zret hX dJ1_canEncode_9a6ad_16 (by decide) ⟨_, rfl, h⟩
  · replace h := h.2 c1
    refine q_iload_n 0 hX dJ1_canEncode_9a6ad_4 rfl rfl ?_
    refine q_sipush (v := 255) hX dJ1_canEncode_9a6ad_5 (by decide) ?_
    refine q_icmp_gt 15 hX dJ1_canEncode_9a6ad_8 (by decide) (fun c2 => ?_) (fun c2 => ?_)
    · replace h := h.1 c2
      refine q_iconst (v := 0) hX dJ1_canEncode_9a6ad_15 (by decide) ?_
      exact q_zret hX dJ1_canEncode_9a6ad_16 (by decide) ⟨_, rfl, h⟩
    · replace h := h.2 c2
      refine q_iconst (v := 1) hX dJ1_canEncode_9a6ad_11 (by decide) ?_
      refine q_goto 16 hX dJ1_canEncode_9a6ad_12 (by decide) ?_
      exact q_zret hX dJ1_canEncode_9a6ad_16 (by decide) ⟨_, rfl, h⟩
set_option maxHeartbeats 4000000 in
set_option maxRecDepth 20000 in
theorem fl_J1_indexOf_4cfef {d : Nat} {ids : List Nat} {a0 : Nat} {a1 : Int32} {a2 : Int32} {a3 : Int32} {σ : St} {Q : Int32 → St → Prop} (h_a0 : a0 < 10) (H : EI d ids Y_J1_canEncode_9a6ad [.int a1] σ (fun x2 s1 => ((¬ x2 = 0 → ∀ x4 : Int32, x4 = (if a2 < 0 then 0 else a2) → ∀ x5 : Int32, x5 = (if (nI (kls.getD a0 0)) < a3 then (nI (kls.getD a0 0)) else a3) → ((x4 < x5 → EI d ids Y_J1_indexOfChar_4cfef [.ref ((1030 + a0)), .int a1, .int x4, .int x5] s1 (fun x8 s7 => Q x8 s7)) ∧ (¬ (x4 < x5) → Q (-1) s1))) ∧ (x2 = 0 → Q (-1) s1)))) : EI (d + 1) ids Y_J1_indexOf_4cfef [.ref ((1030 + a0)), .int a1, .int a2, .int a3] σ Q := by
  refine E_mk (by decide) (Nat.le_of_ble_eq_true rfl) (fun X hX => ?_)
  replace hX : Cok X ids 4 cJ1_indexOf_4cfef (some .int) (d + 1) RJ1 := hX
  show Wg X ids 4 _ 0 [(0, .ref ((1030 + a0))), (1, .int a1), (2, .int a2), (3, .int a3)] [] σ
  have h := H
  refine q_iload_n 1 hX dJ1_indexOf_4cfef_0 rfl rfl ?_
  refine cl_J1_88 hX dJ1_indexOf_4cfef_1 (Nat.le_of_ble_eq_true rfl) h (fun x2 s1 h => ?_)
  refine q_if_ne 9 hX dJ1_indexOf_4cfef_4 (by decide) (fun c3 => ?_) (fun c3 => ?_)
  · replace h := h.1 c3
    refine q_iload_n 2 hX dJ1_indexOf_4cfef_9 rfl rfl ?_
    refine q_iconst (v := 0) hX dJ1_indexOf_4cfef_10 (by decide) ?_
    refine q_mmax hX dJ1_indexOf_4cfef_11 tb_459 tb_460 tb_83 tb_461 (Nat.le_of_ble_eq_true rfl) ?_
    refine Wg.nmI (fun x4 ex4 => ?_)
    replace h := h x4 ex4
    refine q_istore_n (L' := [(2, .int x4), (0, .ref ((1030 + a0))), (1, .int a1), (3, .int a3)]) hX dJ1_indexOf_4cfef_14 rfl (by decide) rfl ?_
    refine q_iload_n 3 hX dJ1_indexOf_4cfef_15 rfl rfl ?_
    refine q_aload_n 1 hX dJ1_indexOf_4cfef_16 rfl rfl ?_
    refine q_klen hX dJ1_indexOf_4cfef_17 h_a0 ?_
    refine q_mmin hX dJ1_indexOf_4cfef_18 tb_462 tb_463 tb_83 tb_464 (Nat.le_of_ble_eq_true rfl) ?_
    refine Wg.nmI (fun x5 ex5 => ?_)
    replace h := h x5 ex5
    refine q_istore_n (L' := [(3, .int x5), (2, .int x4), (0, .ref ((1030 + a0))), (1, .int a1)]) hX dJ1_indexOf_4cfef_21 rfl (by decide) rfl ?_
    refine q_iload_n 1 hX dJ1_indexOf_4cfef_22 rfl rfl ?_
    refine q_iload_n 0 hX dJ1_indexOf_4cfef_23 rfl rfl ?_
    refine q_icmp_lt 29 hX dJ1_indexOf_4cfef_24 (by decide) (fun c6 => ?_) (fun c6 => ?_)
    · replace h := h.1 c6
      refine q_aload_n 2 hX dJ1_indexOf_4cfef_29 rfl rfl ?_
      refine q_iload_n 3 hX dJ1_indexOf_4cfef_30 rfl rfl ?_
      refine q_iload_n 1 hX dJ1_indexOf_4cfef_31 rfl rfl ?_
      refine q_iload_n 0 hX dJ1_indexOf_4cfef_32 rfl rfl ?_
      refine cl_J1_95 hX dJ1_indexOf_4cfef_33 (Nat.le_of_ble_eq_true rfl) h (fun x8 s7 h => ?_)
      exact q_ret hX dJ1_indexOf_4cfef_36 ⟨_, rfl, h⟩
    · replace h := h.2 c6
      refine q_iconst (v := (-1)) hX dJ1_indexOf_4cfef_27 (by decide) ?_
      exact q_ret hX dJ1_indexOf_4cfef_28 ⟨_, rfl, h⟩
  · replace h := h.2 c3
    refine q_iconst (v := (-1)) hX dJ1_indexOf_4cfef_7 (by decide) ?_
    exact q_ret hX dJ1_indexOf_4cfef_8 ⟨_, rfl, h⟩
set_option maxHeartbeats 4000000 in
set_option maxRecDepth 20000 in
theorem fl_J1_indexOfChar_4cfef {d : Nat} {ids : List Nat} {a0 : Nat} {a1 : Int32} {a2 : Int32} {a3 : Int32} {σ : St} {Q : Int32 → St → Prop} (h_a0 : a0 < 10) (H : ∀ (P7 : Int32 → Int32 → St → Prop), (∀ (v4 : Int32) (v5 : Int32) (σ : St), (((a3 ≤ v5 → Q (-1) σ) ∧ (¬ (a3 ≤ v5) → vp_in v5 (kls.getD a0 0) ∧ ((¬ ((kbs.getD a0 []).getD (Int32.toNatClampNeg v5) 0) = v4 → ∀ x4 : Int32, x4 = v5 + 1 → P7 v4 x4 σ) ∧ (((kbs.getD a0 []).getD (Int32.toNatClampNeg v5) 0) = v4 → Q v5 σ))))) → P7 v4 v5 σ) → ∀ x5 : Int32, x5 = (Int8.toInt32 (Int32.toInt8 a1)) → P7 x5 a2 σ) : EI (d + 1) ids Y_J1_indexOfChar_4cfef [.ref ((1030 + a0)), .int a1, .int a2, .int a3] σ Q := by
  refine E_mk (by decide) (Nat.le_of_ble_eq_true rfl) (fun X hX => ?_)
  replace hX : Cok X ids 6 cJ1_indexOfChar_4cfef (some .int) (d + 1) RJ1 := hX
  show Wg X ids 6 _ 0 [(0, .ref ((1030 + a0))), (1, .int a1), (2, .int a2), (3, .int a3)] [] σ
  have h := H (fun (v4 : Int32) (v5 : Int32) (σ : St) => (Wg X ids 6 (fun r σ1 => ∃ x, r = some (Value.int x) ∧ Q x σ1) 7 [(0, .ref ((1030 + a0))), (3, .int a3), (4, .int v4), (5, .int v5)] [] σ))
  replace h := h (fun v4 v5 σ h => by
    refine q_iload 3 hX dJ1_indexOfChar_4cfef_7 rfl ?_
    refine q_iload_n 1 hX dJ1_indexOfChar_4cfef_9 rfl rfl ?_
    refine q_icmp_ge 31 hX dJ1_indexOfChar_4cfef_10 (by decide) (fun c1 => ?_) (fun c1 => ?_)
    · replace h := h.1 c1
      refine q_iconst (v := (-1)) hX dJ1_indexOfChar_4cfef_31 (by decide) ?_
      exact q_ret hX dJ1_indexOfChar_4cfef_32 ⟨_, rfl, h⟩
    · replace h := h.2 c1
      refine q_aload_n 0 hX dJ1_indexOfChar_4cfef_13 rfl rfl ?_
      refine q_iload 3 hX dJ1_indexOfChar_4cfef_14 rfl ?_
      obtain ⟨b2, h⟩ := h
      refine q_kald hX dJ1_indexOfChar_4cfef_16 h_a0 b2 ?_
      refine q_iload 2 hX dJ1_indexOfChar_4cfef_17 rfl ?_
      refine q_icmp_ne 25 hX dJ1_indexOfChar_4cfef_19 (by decide) (fun c3 => ?_) (fun c3 => ?_)
      · replace h := h.1 c3
        obtain ⟨x4, ex4⟩ : ∃ z : Int32, z = v5 + 1 := ⟨_, rfl⟩
        replace h := h x4 ex4
        refine q_iinc (v := x4) (L' := [(5, .int x4), (0, .ref ((1030 + a0))), (3, .int a3), (4, .int v4)]) 3 hX dJ1_indexOfChar_4cfef_25 rfl (by rw [ex4]; rfl) (by decide) rfl ?_
        refine q_goto 7 hX dJ1_indexOfChar_4cfef_28 (by decide) ?_
        exact Wg.sub [1, 2, 3, 0] rfl (h)
      · replace h := h.2 c3
        refine q_iload 3 hX dJ1_indexOfChar_4cfef_22 rfl ?_
        exact q_ret hX dJ1_indexOfChar_4cfef_24 ⟨_, rfl, h⟩
    )
  refine q_iload_n 1 hX dJ1_indexOfChar_4cfef_0 rfl rfl ?_
  refine q_i2b hX dJ1_indexOfChar_4cfef_1 ?_
  refine Wg.nmI (fun x5 ex5 => ?_)
  replace h := h x5 ex5
  refine q_istore (L' := [(4, .int x5), (0, .ref ((1030 + a0))), (1, .int a1), (2, .int a2), (3, .int a3)]) hX dJ1_indexOfChar_4cfef_2 (by decide) rfl ?_
  refine q_iload_n 3 hX dJ1_indexOfChar_4cfef_4 rfl rfl ?_
  refine q_istore (L' := [(5, .int a2), (4, .int x5), (0, .ref ((1030 + a0))), (1, .int a1), (2, .int a2), (3, .int a3)]) hX dJ1_indexOfChar_4cfef_5 (by decide) rfl ?_
  exact Wg.sub [2, 5, 1, 0] rfl (h)
set_option maxHeartbeats 4000000 in
set_option maxRecDepth 20000 in
theorem fl_J3_checkIndex_8e157_n {d : Nat} {ids : List Nat} {a0 : Int32} {a1 : Int32} {σ : St} {Q : Int32 → St → Prop}  (H : ∀ (P9 : St → Prop), (∀ (σ : St), (False) → P9 σ) → ((a0 < 0 → P9 σ) ∧ (¬ (a0 < 0) → ((a0 < a1 → Q a0 σ) ∧ (¬ (a0 < a1) → P9 σ))))) : EI (d + 1) ids Y_J3_checkIndex_8e157 [.int a0, .int a1, .null] σ Q := by
  refine E_mk (by decide) (Nat.le_of_ble_eq_true rfl) (fun X hX => ?_)
  replace hX : Cok X ids 3 cJ3_checkIndex_8e157 (some .int) (d + 1) RJ3 := hX
  show Wg X ids 3 _ 0 [(0, .int a0), (1, .int a1), (2, .null)] [] σ
  have h := H (fun (σ : St) => (Wg X ids 3 (fun r σ1 => ∃ x, r = some (Value.int x) ∧ Q x σ1) 9 [(0, .int a0), (1, .int a1), (2, .null)] [] σ))
  replace h := h (fun σ h => by
    refine q_aload_nN 2 hX dJ3_checkIndex_8e157_9 rfl rfl ?_
    refine q_iload_n 0 hX dJ3_checkIndex_8e157_10 rfl rfl ?_
    refine q_iload_n 1 hX dJ3_checkIndex_8e157_11 rfl rfl ?_
    exact h.elim
    )
  refine q_iload_n 0 hX dJ3_checkIndex_8e157_0 rfl rfl ?_
  refine q_if_lt 9 hX dJ3_checkIndex_8e157_1 (by decide) (fun c1 => ?_) (fun c1 => ?_)
  · replace h := h.1 c1
    exact Wg.sub [0, 1, 2] rfl (h)
  · replace h := h.2 c1
    refine q_iload_n 0 hX dJ3_checkIndex_8e157_4 rfl rfl ?_
    refine q_iload_n 1 hX dJ3_checkIndex_8e157_5 rfl rfl ?_
    refine q_icmp_lt 16 hX dJ3_checkIndex_8e157_6 (by decide) (fun c2 => ?_) (fun c2 => ?_)
    · replace h := h.1 c2
      refine q_iload_n 0 hX dJ3_checkIndex_8e157_16 rfl rfl ?_
      exact q_ret hX dJ3_checkIndex_8e157_17 ⟨_, rfl, h⟩
    · replace h := h.2 c2
      exact Wg.sub [0, 1, 2] rfl (h)
set_option maxHeartbeats 4000000 in
set_option maxRecDepth 20000 in
theorem fl_J3_checkIndex_8e157_r {d : Nat} {ids : List Nat} {a0 : Int32} {a1 : Int32} {σ : St} {Q : Int32 → St → Prop}  (H : ∀ (P9 : St → Prop), (∀ (σ : St), (False) → P9 σ) → ((a0 < 0 → P9 σ) ∧ (¬ (a0 < 0) → ((a0 < a1 → Q a0 σ) ∧ (¬ (a0 < a1) → P9 σ))))) : EI (d + 1) ids Y_J3_checkIndex_8e157 [.int a0, .int a1, .ref 1050] σ Q := by
  refine E_mk (by decide) (Nat.le_of_ble_eq_true rfl) (fun X hX => ?_)
  replace hX : Cok X ids 3 cJ3_checkIndex_8e157 (some .int) (d + 1) RJ3 := hX
  show Wg X ids 3 _ 0 [(0, .int a0), (1, .int a1), (2, .ref 1050)] [] σ
  have h := H (fun (σ : St) => (Wg X ids 3 (fun r σ1 => ∃ x, r = some (Value.int x) ∧ Q x σ1) 9 [(0, .int a0), (1, .int a1), (2, .ref 1050)] [] σ))
  replace h := h (fun σ h => by
    refine q_aload_n 2 hX dJ3_checkIndex_8e157_9 rfl rfl ?_
    refine q_iload_n 0 hX dJ3_checkIndex_8e157_10 rfl rfl ?_
    refine q_iload_n 1 hX dJ3_checkIndex_8e157_11 rfl rfl ?_
    exact h.elim
    )
  refine q_iload_n 0 hX dJ3_checkIndex_8e157_0 rfl rfl ?_
  refine q_if_lt 9 hX dJ3_checkIndex_8e157_1 (by decide) (fun c1 => ?_) (fun c1 => ?_)
  · replace h := h.1 c1
    exact Wg.sub [0, 1, 2] rfl (h)
  · replace h := h.2 c1
    refine q_iload_n 0 hX dJ3_checkIndex_8e157_4 rfl rfl ?_
    refine q_iload_n 1 hX dJ3_checkIndex_8e157_5 rfl rfl ?_
    refine q_icmp_lt 16 hX dJ3_checkIndex_8e157_6 (by decide) (fun c2 => ?_) (fun c2 => ?_)
    · replace h := h.1 c2
      refine q_iload_n 0 hX dJ3_checkIndex_8e157_16 rfl rfl ?_
      exact q_ret hX dJ3_checkIndex_8e157_17 ⟨_, rfl, h⟩
    · replace h := h.2 c2
      exact Wg.sub [0, 1, 2] rfl (h)
