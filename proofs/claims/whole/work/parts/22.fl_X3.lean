/-! formulas of the methods: if the formula holds, the contract does -/
set_option maxHeartbeats 4000000 in
set_option maxRecDepth 20000 in
theorem fl_X3_clear {d : Nat} {ids : List Nat} {o : Nat} {σ : St} {Q : St → Prop} (h_o : IO ids o 3) (H : ∀ s1 : St, s1 = si σ o 0 0 → ∀ s2 : St, s2 = si s1 o 4 0 → Q s2) : EV (d + 1) ids Y_X3_clear [.ref o] σ Q := by
  refine E_mk (by decide) (Nat.le_of_ble_eq_true rfl) (fun X hX => ?_)
  replace hX : Cok X ids 1 cX3_clear none (d + 1) RX3 := hX
  show Wg X ids 1 _ 0 [(0, .ref o)] [] σ
  have h := H
  refine q_aload_n 0 hX dX3_clear_0 rfl rfl ?_
  refine q_iconst (v := 0) hX dX3_clear_1 (by decide) ?_
  refine pf_X3_24 hX h_o dX3_clear_2 ?_
  refine Wg.nmS (fun s1 es1 => ?_)
  replace h := h s1 es1
  refine q_aload_n 0 hX dX3_clear_5 rfl rfl ?_
  refine q_iconst (v := 0) hX dX3_clear_6 (by decide) ?_
  refine pf_X3_28 hX h_o dX3_clear_7 ?_
  refine Wg.nmS (fun s2 es2 => ?_)
  replace h := h s2 es2
  exact q_vret hX dX3_clear_10 ⟨rfl, h⟩
set_option maxHeartbeats 4000000 in
set_option maxRecDepth 20000 in
theorem fl_X3_addClause {d : Nat} {ids : List Nat} {o : Nat} {a0 : Int32} {a1 : Int32} {σ : St} {Q : St → Prop} (h_o : IO ids o 3) (H : ((6 ≤ (gi σ o 0) → Q σ) ∧ (¬ (6 ≤ (gi σ o 0)) → vp_in (gi σ o 0) 6 ∧ ∀ s3 : St, s3 = si σ (rf o 1) (Int32.toNatClampNeg (gi σ o 0)) a0 → vp_in (gi s3 o 0) 6 ∧ ∀ s5 : St, s5 = si s3 (rf o 2) (Int32.toNatClampNeg (gi s3 o 0)) a1 → vp_in (gi s5 o 0) 6 ∧ ∀ s7 : St, s7 = si s5 (rf o 3) (Int32.toNatClampNeg (gi s5 o 0)) (gi s5 o 4) → ∀ s8 : St, s8 = si s7 o 0 ((gi s7 o 0) + 1) → Q s8))) : EV (d + 1) ids Y_X3_addClause [.ref o, .int a0, .int a1] σ Q := by
  refine E_mk (by decide) (Nat.le_of_ble_eq_true rfl) (fun X hX => ?_)
  replace hX : Cok X ids 3 cX3_addClause none (d + 1) RX3 := hX
  show Wg X ids 3 _ 0 [(0, .ref o), (1, .int a0), (2, .int a1)] [] σ
  have h := H
  refine q_aload_n 0 hX dX3_addClause_0 rfl rfl ?_
  refine gf_X3_24 hX h_o dX3_addClause_1 ?_
  refine q_bipush (v := 6) hX dX3_addClause_4 (by decide) ?_
  refine q_icmp_ge 52 hX dX3_addClause_6 (by decide) (fun c1 => ?_) (fun c1 => ?_)
  · replace h := h.1 c1
    exact q_vret hX dX3_addClause_52 ⟨rfl, h⟩
  · replace h := h.2 c1
    refine q_aload_n 0 hX dX3_addClause_9 rfl rfl ?_
    refine gf_X3_9 hX h_o dX3_addClause_10 ?_
    refine q_aload_n 0 hX dX3_addClause_13 rfl rfl ?_
    refine gf_X3_24 hX h_o dX3_addClause_14 ?_
    refine q_iload_n 1 hX dX3_addClause_17 rfl rfl ?_
    obtain ⟨b2, h⟩ := h
    refine q_iast hX dX3_addClause_18 (rfO_3_1 h_o) b2 ?_
    refine Wg.nmS (fun s3 es3 => ?_)
    replace h := h s3 es3
    refine q_aload_n 0 hX dX3_addClause_19 rfl rfl ?_
    refine gf_X3_15 hX h_o dX3_addClause_20 ?_
    refine q_aload_n 0 hX dX3_addClause_23 rfl rfl ?_
    refine gf_X3_24 hX h_o dX3_addClause_24 ?_
    refine q_iload_n 2 hX dX3_addClause_27 rfl rfl ?_
    obtain ⟨b4, h⟩ := h
    refine q_iast hX dX3_addClause_28 (rfO_3_2 h_o) b4 ?_
    refine Wg.nmS (fun s5 es5 => ?_)
    replace h := h s5 es5
    refine q_aload_n 0 hX dX3_addClause_29 rfl rfl ?_
    refine gf_X3_18 hX h_o dX3_addClause_30 ?_
    refine q_aload_n 0 hX dX3_addClause_33 rfl rfl ?_
    refine gf_X3_24 hX h_o dX3_addClause_34 ?_
    refine q_aload_n 0 hX dX3_addClause_37 rfl rfl ?_
    refine gf_X3_28 hX h_o dX3_addClause_38 ?_
    obtain ⟨b6, h⟩ := h
    refine q_iast hX dX3_addClause_41 (rfO_3_3 h_o) b6 ?_
    refine Wg.nmS (fun s7 es7 => ?_)
    replace h := h s7 es7
    refine q_aload_n 0 hX dX3_addClause_42 rfl rfl ?_
    refine q_dup hX dX3_addClause_43 rfl ?_
    refine gf_X3_24 hX h_o dX3_addClause_44 ?_
    refine q_iconst (v := 1) hX dX3_addClause_47 (by decide) ?_
    refine q_iadd hX dX3_addClause_48 ?_
    refine pf_X3_24 hX h_o dX3_addClause_49 ?_
    refine Wg.nmS (fun s8 es8 => ?_)
    replace h := h s8 es8
    exact q_vret hX dX3_addClause_52 ⟨rfl, h⟩
set_option maxHeartbeats 4000000 in
set_option maxRecDepth 20000 in
theorem fl_X3_addStep {d : Nat} {ids : List Nat} {o : Nat} {a0 : Int32} {σ : St} {Q : St → Prop} (h_o : IO ids o 3) (H : ((100 ≤ (gi σ o 4) → Q σ) ∧ (¬ (100 ≤ (gi σ o 4)) → vp_in (gi σ o 4) 100 ∧ ∀ s3 : St, s3 = si σ (rf o 5) (Int32.toNatClampNeg (gi σ o 4)) a0 → ∀ s4 : St, s4 = si s3 o 4 ((gi s3 o 4) + 1) → Q s4))) : EV (d + 1) ids Y_X3_addStep [.ref o, .int a0] σ Q := by
  refine E_mk (by decide) (Nat.le_of_ble_eq_true rfl) (fun X hX => ?_)
  replace hX : Cok X ids 2 cX3_addStep none (d + 1) RX3 := hX
  show Wg X ids 2 _ 0 [(0, .ref o), (1, .int a0)] [] σ
  have h := H
  refine q_aload_n 0 hX dX3_addStep_0 rfl rfl ?_
  refine gf_X3_28 hX h_o dX3_addStep_1 ?_
  refine q_bipush (v := 100) hX dX3_addStep_4 (by decide) ?_
  refine q_icmp_ge 29 hX dX3_addStep_6 (by decide) (fun c1 => ?_) (fun c1 => ?_)
  · replace h := h.1 c1
    exact q_vret hX dX3_addStep_29 ⟨rfl, h⟩
  · replace h := h.2 c1
    refine q_aload_n 0 hX dX3_addStep_9 rfl rfl ?_
    refine gf_X3_21 hX h_o dX3_addStep_10 ?_
    refine q_aload_n 0 hX dX3_addStep_13 rfl rfl ?_
    refine gf_X3_28 hX h_o dX3_addStep_14 ?_
    refine q_iload_n 1 hX dX3_addStep_17 rfl rfl ?_
    obtain ⟨b2, h⟩ := h
    refine q_iast hX dX3_addStep_18 (rfO_3_5 h_o) b2 ?_
    refine Wg.nmS (fun s3 es3 => ?_)
    replace h := h s3 es3
    refine q_aload_n 0 hX dX3_addStep_19 rfl rfl ?_
    refine q_dup hX dX3_addStep_20 rfl ?_
    refine gf_X3_28 hX h_o dX3_addStep_21 ?_
    refine q_iconst (v := 1) hX dX3_addStep_24 (by decide) ?_
    refine q_iadd hX dX3_addStep_25 ?_
    refine pf_X3_28 hX h_o dX3_addStep_26 ?_
    refine Wg.nmS (fun s4 es4 => ?_)
    replace h := h s4 es4
    exact q_vret hX dX3_addStep_29 ⟨rfl, h⟩
set_option maxHeartbeats 4000000 in
set_option maxRecDepth 20000 in
theorem fl_X3_addTest {d : Nat} {ids : List Nat} {o : Nat} {a0 : Int32} {a1 : Int32} {a2 : Int32} {σ : St} {Q : St → Prop} (h_o : IO ids o 3) (H : EV d ids Y_X3_addStep [.ref o, .int (((a0 * 1000) + (a1 * 100)) + a2)] σ (fun s1 => Q s1)) : EV (d + 1) ids Y_X3_addTest [.ref o, .int a0, .int a1, .int a2] σ Q := by
  refine E_mk (by decide) (Nat.le_of_ble_eq_true rfl) (fun X hX => ?_)
  replace hX : Cok X ids 4 cX3_addTest none (d + 1) RX3 := hX
  show Wg X ids 4 _ 0 [(0, .ref o), (1, .int a0), (2, .int a1), (3, .int a2)] [] σ
  have h := H
  refine q_aload_n 0 hX dX3_addTest_0 rfl rfl ?_
  refine q_iload_n 1 hX dX3_addTest_1 rfl rfl ?_
  refine q_sipush (v := 1000) hX dX3_addTest_2 (by decide) ?_
  refine q_imul hX dX3_addTest_5 ?_
  refine q_iload_n 2 hX dX3_addTest_6 rfl rfl ?_
  refine q_bipush (v := 100) hX dX3_addTest_7 (by decide) ?_
  refine q_imul hX dX3_addTest_9 ?_
  refine q_iadd hX dX3_addTest_10 ?_
  refine q_iload_n 3 hX dX3_addTest_11 rfl rfl ?_
  refine q_iadd hX dX3_addTest_12 ?_
  refine cl_X3_31 hX h_o dX3_addTest_13 (Nat.le_of_ble_eq_true rfl) h (fun s1 h => ?_)
  exact q_vret hX dX3_addTest_16 ⟨rfl, h⟩
set_option maxHeartbeats 4000000 in
set_option maxRecDepth 20000 in
theorem fl_X3_numberOf {d : Nat} {ids : List Nat} {o : Nat} {a0 : Int32} {a1 : Int32} {a2 : Int32} {a3 : Int32} {σ : St} {Q : Int32 → St → Prop} (h_o : IO ids o 3) (H : ∀ (P6 : Int32 → Int32 → St → Prop) (P46 : Int32 → Int32 → St → Prop), (∀ (v5 : Int32) (v6 : Int32) (σ : St), ((((gi σ o 0) ≤ v6 → Q v5 σ) ∧ (¬ ((gi σ o 0) ≤ v6) → ((v6 = a1 → P46 v5 v6 σ) ∧ (¬ v6 = a1 → vp_in v6 6 ∧ ((¬ (gi σ (rf o 1) (Int32.toNatClampNeg v6)) = a0 → P46 v5 v6 σ) ∧ ((gi σ (rf o 1) (Int32.toNatClampNeg v6)) = a0 → vp_in v6 6 ∧ ∀ x6 : Int32, x6 = (if a3 < (gi σ (rf o 2) (Int32.toNatClampNeg v6)) then a3 else (gi σ (rf o 2) (Int32.toNatClampNeg v6))) → P46 x6 v6 σ))))))) → P6 v5 v6 σ) → (∀ (v5 : Int32) (v6 : Int32) (σ : St), (∀ x7 : Int32, x7 = v6 + 1 → P6 v5 x7 σ) → P46 v5 v6 σ) → P6 a2 0 σ) : EI (d + 1) ids Y_X3_numberOf [.ref o, .int a0, .int a1, .int a2, .int a3] σ Q := by
  refine E_mk (by decide) (Nat.le_of_ble_eq_true rfl) (fun X hX => ?_)
  replace hX : Cok X ids 7 cX3_numberOf (some .int) (d + 1) RX3 := hX
  show Wg X ids 7 _ 0 [(0, .ref o), (1, .int a0), (2, .int a1), (3, .int a2), (4, .int a3)] [] σ
  have h := H (fun (v5 : Int32) (v6 : Int32) (σ : St) => (Wg X ids 7 (fun r σ1 => ∃ x, r = some (Value.int x) ∧ Q x σ1) 6 [(0, .ref o), (1, .int a0), (2, .int a1), (4, .int a3), (5, .int v5), (6, .int v6)] [] σ)) (fun (v5 : Int32) (v6 : Int32) (σ : St) => (Wg X ids 7 (fun r σ1 => ∃ x, r = some (Value.int x) ∧ Q x σ1) 46 [(0, .ref o), (1, .int a0), (2, .int a1), (4, .int a3), (5, .int v5), (6, .int v6)] [] σ))
  replace h := h (fun v5 v6 σ h => by
    refine q_iload 5 hX dX3_numberOf_6 rfl ?_
    refine q_aload_n 0 hX dX3_numberOf_8 rfl rfl ?_
    refine gf_X3_24 hX h_o dX3_numberOf_9 ?_
    refine q_icmp_ge 52 hX dX3_numberOf_12 (by decide) (fun c1 => ?_) (fun c1 => ?_)
    · replace h := h.1 c1
      refine q_iload 4 hX dX3_numberOf_52 rfl ?_
      exact q_ret hX dX3_numberOf_54 ⟨_, rfl, h⟩
    · replace h := h.2 c1
      refine q_iload 5 hX dX3_numberOf_15 rfl ?_
      refine q_iload_n 2 hX dX3_numberOf_17 rfl rfl ?_
      refine q_icmp_eq 46 hX dX3_numberOf_18 (by decide) (fun c2 => ?_) (fun c2 => ?_)
      · replace h := h.1 c2
        exact Wg.sub [0, 1, 2, 3, 4, 5] rfl (h)
      · replace h := h.2 c2
        refine q_aload_n 0 hX dX3_numberOf_21 rfl rfl ?_
        refine gf_X3_9 hX h_o dX3_numberOf_22 ?_
        refine q_iload 5 hX dX3_numberOf_25 rfl ?_
        obtain ⟨b3, h⟩ := h
        refine q_iald hX dX3_numberOf_27 (rfO_3_1 h_o) b3 ?_
        refine q_iload_n 1 hX dX3_numberOf_28 rfl rfl ?_
        refine q_icmp_ne 46 hX dX3_numberOf_29 (by decide) (fun c4 => ?_) (fun c4 => ?_)
        · replace h := h.1 c4
          exact Wg.sub [0, 1, 2, 3, 4, 5] rfl (h)
        · replace h := h.2 c4
          refine q_aload_n 0 hX dX3_numberOf_32 rfl rfl ?_
          refine gf_X3_15 hX h_o dX3_numberOf_33 ?_
          refine q_iload 5 hX dX3_numberOf_36 rfl ?_
          obtain ⟨b5, h⟩ := h
          refine q_iald hX dX3_numberOf_38 (rfO_3_2 h_o) b5 ?_
          refine q_iload 3 hX dX3_numberOf_39 rfl ?_
          refine q_mmin hX dX3_numberOf_41 tb_547 tb_463 tb_83 tb_464 (Nat.le_of_ble_eq_true rfl) ?_
          refine Wg.nmI (fun x6 ex6 => ?_)
          replace h := h x6 ex6
          refine q_istore (L' := [(5, .int x6), (0, .ref o), (1, .int a0), (2, .int a1), (4, .int a3), (6, .int v6)]) hX dX3_numberOf_44 (by decide) rfl ?_
          exact Wg.sub [1, 2, 3, 4, 0, 5] rfl (h)
    )
  replace h := h (fun v5 v6 σ h => by
    obtain ⟨x7, ex7⟩ : ∃ z : Int32, z = v6 + 1 := ⟨_, rfl⟩
    replace h := h x7 ex7
    refine q_iinc (v := x7) (L' := [(6, .int x7), (0, .ref o), (1, .int a0), (2, .int a1), (4, .int a3), (5, .int v5)]) 5 hX dX3_numberOf_46 rfl (by rw [ex7]; rfl) (by decide) rfl ?_
    refine q_goto 6 hX dX3_numberOf_49 (by decide) ?_
    exact Wg.sub [1, 2, 3, 4, 5, 0] rfl (h)
    )
  refine q_iload_n 3 hX dX3_numberOf_0 rfl rfl ?_
  refine q_istore (L' := [(5, .int a2), (0, .ref o), (1, .int a0), (2, .int a1), (3, .int a2), (4, .int a3)]) hX dX3_numberOf_1 (by decide) rfl ?_
  refine q_iconst (v := 0) hX dX3_numberOf_3 (by decide) ?_
  refine q_istore (L' := [(6, .int 0), (5, .int a2), (0, .ref o), (1, .int a0), (2, .int a1), (3, .int a2), (4, .int a3)]) hX dX3_numberOf_4 (by decide) rfl ?_
  exact Wg.sub [2, 3, 4, 6, 1, 0] rfl (h)
set_option maxHeartbeats 4000000 in
set_option maxRecDepth 20000 in
theorem fl_X3_kindsThat {d : Nat} {ids : List Nat} {o : Nat} {a0 : Int32} {a1 : Int32} {a2 : Nat} {σ : St} {Q : Int32 → St → Prop} (h_o : IO ids o 3) (h_a2 : IA ids a2 0 5) (H : ∀ (P6 : Int32 → Int32 → St → Prop) (P71 : Int32 → Int32 → St → Prop), (∀ (v4 : Int32) (v5 : Int32) (σ : St), ((((gi σ o 0) ≤ v5 → Q v4 σ) ∧ (¬ ((gi σ o 0) ≤ v5) → ((v5 = a1 → P71 v4 v5 σ) ∧ (¬ v5 = a1 → vp_in v5 6 ∧ ((¬ (gi σ (rf o 1) (Int32.toNatClampNeg v5)) = a0 → P71 v4 v5 σ) ∧ ((gi σ (rf o 1) (Int32.toNatClampNeg v5)) = a0 → vp_in v5 6 ∧ ((¬ ((v4 >>> ((gi σ (rf o 2) (Int32.toNatClampNeg v5)) &&& 31)) &&& 1) = 0 → P71 v4 v5 σ) ∧ (((v4 >>> ((gi σ (rf o 2) (Int32.toNatClampNeg v5)) &&& 31)) &&& 1) = 0 → EI d ids Y_X3_holds [.ref o, .int v5, .ref a2] σ (fun x8 s7 => ((x8 = 0 → P71 v4 v5 s7) ∧ (¬ x8 = 0 → vp_in v5 6 ∧ ∀ x11 : Int32, x11 = (v4 ||| ((1 : Int32) <<< ((gi s7 (rf o 2) (Int32.toNatClampNeg v5)) &&& 31))) → P71 x11 v5 s7)))))))))))) → P6 v4 v5 σ) → (∀ (v4 : Int32) (v5 : Int32) (σ : St), (∀ x12 : Int32, x12 = v5 + 1 → P6 v4 x12 σ) → P71 v4 v5 σ) → P6 0 0 σ) : EI (d + 1) ids Y_X3_kindsThat [.ref o, .int a0, .int a1, .ref a2] σ Q := by
  refine E_mk (by decide) (Nat.le_of_ble_eq_true rfl) (fun X hX => ?_)
  replace hX : Cok X ids 6 cX3_kindsThat (some .int) (d + 1) RX3 := hX
  show Wg X ids 6 _ 0 [(0, .ref o), (1, .int a0), (2, .int a1), (3, .ref a2)] [] σ
  have h := H (fun (v4 : Int32) (v5 : Int32) (σ : St) => (Wg X ids 6 (fun r σ1 => ∃ x, r = some (Value.int x) ∧ Q x σ1) 6 [(0, .ref o), (1, .int a0), (2, .int a1), (3, .ref a2), (4, .int v4), (5, .int v5)] [] σ)) (fun (v4 : Int32) (v5 : Int32) (σ : St) => (Wg X ids 6 (fun r σ1 => ∃ x, r = some (Value.int x) ∧ Q x σ1) 71 [(0, .ref o), (1, .int a0), (2, .int a1), (3, .ref a2), (4, .int v4), (5, .int v5)] [] σ))
  replace h := h (fun v4 v5 σ h => by
    refine q_iload 5 hX dX3_kindsThat_6 rfl ?_
    refine q_aload_n 0 hX dX3_kindsThat_8 rfl rfl ?_
    refine gf_X3_24 hX h_o dX3_kindsThat_9 ?_
    refine q_icmp_ge 77 hX dX3_kindsThat_12 (by decide) (fun c1 => ?_) (fun c1 => ?_)
    · replace h := h.1 c1
      refine q_iload 4 hX dX3_kindsThat_77 rfl ?_
      exact q_ret hX dX3_kindsThat_79 ⟨_, rfl, h⟩
    · replace h := h.2 c1
      refine q_iload 5 hX dX3_kindsThat_15 rfl ?_
      refine q_iload_n 2 hX dX3_kindsThat_17 rfl rfl ?_
      refine q_icmp_eq 71 hX dX3_kindsThat_18 (by decide) (fun c2 => ?_) (fun c2 => ?_)
      · replace h := h.1 c2
        exact Wg.sub [0, 1, 2, 3, 4, 5] rfl (h)
      · replace h := h.2 c2
        refine q_aload_n 0 hX dX3_kindsThat_21 rfl rfl ?_
        refine gf_X3_9 hX h_o dX3_kindsThat_22 ?_
        refine q_iload 5 hX dX3_kindsThat_25 rfl ?_
        obtain ⟨b3, h⟩ := h
        refine q_iald hX dX3_kindsThat_27 (rfO_3_1 h_o) b3 ?_
        refine q_iload_n 1 hX dX3_kindsThat_28 rfl rfl ?_
        refine q_icmp_ne 71 hX dX3_kindsThat_29 (by decide) (fun c4 => ?_) (fun c4 => ?_)
        · replace h := h.1 c4
          exact Wg.sub [0, 1, 2, 3, 4, 5] rfl (h)
        · replace h := h.2 c4
          refine q_iload 4 hX dX3_kindsThat_32 rfl ?_
          refine q_aload_n 0 hX dX3_kindsThat_34 rfl rfl ?_
          refine gf_X3_15 hX h_o dX3_kindsThat_35 ?_
          refine q_iload 5 hX dX3_kindsThat_38 rfl ?_
          obtain ⟨b5, h⟩ := h
          refine q_iald hX dX3_kindsThat_40 (rfO_3_2 h_o) b5 ?_
          refine q_ishr hX dX3_kindsThat_41 ?_
          refine q_iconst (v := 1) hX dX3_kindsThat_42 (by decide) ?_
          refine q_iand hX dX3_kindsThat_43 ?_
          refine q_if_ne 71 hX dX3_kindsThat_44 (by decide) (fun c6 => ?_) (fun c6 => ?_)
          · replace h := h.1 c6
            exact Wg.sub [0, 1, 2, 3, 4, 5] rfl (h)
          · replace h := h.2 c6
            refine q_aload_n 0 hX dX3_kindsThat_47 rfl rfl ?_
            refine q_iload 5 hX dX3_kindsThat_48 rfl ?_
            refine q_aload_n 3 hX dX3_kindsThat_50 rfl rfl ?_
            refine cl_X3_41 hX h_o dX3_kindsThat_51 (Nat.le_of_ble_eq_true rfl) h (fun x8 s7 h => ?_)
            refine q_if_eq 71 hX dX3_kindsThat_54 (by decide) (fun c9 => ?_) (fun c9 => ?_)
            · replace h := h.1 c9
              exact Wg.sub [0, 1, 2, 3, 4, 5] rfl (h)
            · replace h := h.2 c9
              refine q_iload 4 hX dX3_kindsThat_57 rfl ?_
              refine q_iconst (v := 1) hX dX3_kindsThat_59 (by decide) ?_
              refine q_aload_n 0 hX dX3_kindsThat_60 rfl rfl ?_
              refine gf_X3_15 hX h_o dX3_kindsThat_61 ?_
              refine q_iload 5 hX dX3_kindsThat_64 rfl ?_
              obtain ⟨b10, h⟩ := h
              refine q_iald hX dX3_kindsThat_66 (rfO_3_2 h_o) b10 ?_
              refine q_ishl hX dX3_kindsThat_67 ?_
              refine q_ior hX dX3_kindsThat_68 ?_
              refine Wg.nmI (fun x11 ex11 => ?_)
              replace h := h x11 ex11
              refine q_istore (L' := [(4, .int x11), (0, .ref o), (1, .int a0), (2, .int a1), (3, .ref a2), (5, .int v5)]) hX dX3_kindsThat_69 (by decide) rfl ?_
              exact Wg.sub [1, 2, 3, 4, 0, 5] rfl (h)
    )
  replace h := h (fun v4 v5 σ h => by
    obtain ⟨x12, ex12⟩ : ∃ z : Int32, z = v5 + 1 := ⟨_, rfl⟩
    replace h := h x12 ex12
    refine q_iinc (v := x12) (L' := [(5, .int x12), (0, .ref o), (1, .int a0), (2, .int a1), (3, .ref a2), (4, .int v4)]) 5 hX dX3_kindsThat_71 rfl (by rw [ex12]; rfl) (by decide) rfl ?_
    refine q_goto 6 hX dX3_kindsThat_74 (by decide) ?_
    exact Wg.sub [1, 2, 3, 4, 5, 0] rfl (h)
    )
  refine q_iconst (v := 0) hX dX3_kindsThat_0 (by decide) ?_
  refine q_istore (L' := [(4, .int 0), (0, .ref o), (1, .int a0), (2, .int a1), (3, .ref a2)]) hX dX3_kindsThat_1 (by decide) rfl ?_
  refine q_iconst (v := 0) hX dX3_kindsThat_3 (by decide) ?_
  refine q_istore (L' := [(5, .int 0), (4, .int 0), (0, .ref o), (1, .int a0), (2, .int a1), (3, .ref a2)]) hX dX3_kindsThat_4 (by decide) rfl ?_
  exact Wg.sub [2, 3, 4, 5, 1, 0] rfl (h)
set_option maxHeartbeats 4000000 in
set_option maxRecDepth 20000 in
theorem fl_X3_holds {d : Nat} {ids : List Nat} {o : Nat} {a0 : Int32} {a1 : Nat} {σ : St} {Q : Int32 → St → Prop} (h_o : IO ids o 3) (h_a1 : IA ids a1 0 5) (H : ∀ (P18 : Int32 → Int32 → St → Prop) (P20 : Int32 → Int32 → St → Prop) (P196 : Int32 → Int32 → Int32 → St → Prop) (P211 : Int32 → Int32 → Int32 → St → Prop) (P213 : Int32 → Int32 → St → Prop), (∀ (v3 : Int32) (t0 : Int32) (σ : St), (P20 v3 t0 σ) → P18 v3 t0 σ) → (∀ (v3 : Int32) (v4 : Int32) (σ : St), (vp_in a0 6 ∧ (((gi σ (rf o 3) (Int32.toNatClampNeg a0)) ≤ v4 → ((¬ (v3 &&& 1) = 1 → Q 0 σ) ∧ ((v3 &&& 1) = 1 → Q 1 σ))) ∧ (¬ ((gi σ (rf o 3) (Int32.toNatClampNeg a0)) ≤ v4) → ∀ x4 : Int32, x4 = (v3 &&& 1) → vp_in v4 100 ∧ ((¬ (gi σ (rf o 5) (Int32.toNatClampNeg v4)) = (-3) → vp_in v4 100 ∧ ((¬ (gi σ (rf o 5) (Int32.toNatClampNeg v4)) = (-1) → vp_in v4 100 ∧ ((¬ (gi σ (rf o 5) (Int32.toNatClampNeg v4)) = (-2) → vp_in v4 100 ∧ vp_in ((gi σ (rf o 5) (Int32.toNatClampNeg v4)) / 1000) 5 ∧ ∀ x13 : Int32, x13 = (gi σ a1 (Int32.toNatClampNeg ((gi σ (rf o 5) (Int32.toNatClampNeg v4)) / 1000))) → vp_in v4 100 ∧ ∀ x15 : Int32, x15 = (((gi σ (rf o 5) (Int32.toNatClampNeg v4)) / 100) - ((gi σ (rf o 5) (Int32.toNatClampNeg v4)) / 100) / 10 * 10) → vp_in v4 100 ∧ ∀ x17 : Int32, x17 = ((gi σ (rf o 5) (Int32.toNatClampNeg v4)) - (gi σ (rf o 5) (Int32.toNatClampNeg v4)) / 100 * 100) → ((¬ x15 = 0 → ((¬ x15 = 1 → ((x13 ≤ x17 → P196 v3 v4 0 σ) ∧ (¬ (x13 ≤ x17) → P196 v3 v4 1 σ))) ∧ (x15 = 1 → ((¬ x13 = x17 → P196 v3 v4 0 σ) ∧ (x13 = x17 → P196 v3 v4 1 σ))))) ∧ (x15 = 0 → ((x17 ≤ x13 → P196 v3 v4 0 σ) ∧ (¬ (x17 ≤ x13) → P196 v3 v4 1 σ))))) ∧ ((gi σ (rf o 5) (Int32.toNatClampNeg v4)) = (-2) → ∀ x23 : Int32, x23 = ((v3 >>> (1 &&& 31)) ||| x4) → P213 x23 v4 σ))) ∧ ((gi σ (rf o 5) (Int32.toNatClampNeg v4)) = (-1) → ∀ x24 : Int32, x24 = ((v3 >>> (1 &&& 31)) &&& (x4 ||| (-2))) → P213 x24 v4 σ))) ∧ ((gi σ (rf o 5) (Int32.toNatClampNeg v4)) = (-3) → ∀ x25 : Int32, x25 = (v3 ^^^ 1) → P213 x25 v4 σ))))) → P20 v3 v4 σ) → (∀ (v3 : Int32) (v4 : Int32) (t0 : Int32) (σ : St), (((t0 = 0 → P211 v4 0 (v3 <<< (1 &&& 31)) σ) ∧ (¬ t0 = 0 → P211 v4 1 (v3 <<< (1 &&& 31)) σ))) → P196 v3 v4 t0 σ) → (∀ (v4 : Int32) (t0 : Int32) (t1 : Int32) (σ : St), (∀ x27 : Int32, x27 = (t1 ||| t0) → P213 x27 v4 σ) → P211 v4 t0 t1 σ) → (∀ (v3 : Int32) (v4 : Int32) (σ : St), (∀ x28 : Int32, x28 = v4 + 1 → P20 v3 x28 σ) → P213 v3 v4 σ) → ((¬ a0 = 0 → vp_in (a0 - 1) 6 ∧ P18 0 (gi σ (rf o 3) (Int32.toNatClampNeg (a0 - 1))) σ) ∧ (a0 = 0 → P18 0 0 σ))) : EI (d + 1) ids Y_X3_holds [.ref o, .int a0, .ref a1] σ Q := by
  refine E_mk (by decide) (Nat.le_of_ble_eq_true rfl) (fun X hX => ?_)
  replace hX : Cok X ids 10 cX3_holds (some .boolean) (d + 1) RX3 := hX
  show Wg X ids 10 _ 0 [(0, .ref o), (1, .int a0), (2, .ref a1)] [] σ
  have h := H (fun (v3 : Int32) (t0 : Int32) (σ : St) => (Wg X ids 10 (fun r σ1 => ∃ x, r = some (Value.int x) ∧ Q x σ1) 18 [(0, .ref o), (1, .int a0), (2, .ref a1), (3, .int v3)] [.int t0] σ)) (fun (v3 : Int32) (v4 : Int32) (σ : St) => (Wg X ids 10 (fun r σ1 => ∃ x, r = some (Value.int x) ∧ Q x σ1) 20 [(0, .ref o), (1, .int a0), (2, .ref a1), (3, .int v3), (4, .int v4)] [] σ)) (fun (v3 : Int32) (v4 : Int32) (t0 : Int32) (σ : St) => (Wg X ids 10 (fun r σ1 => ∃ x, r = some (Value.int x) ∧ Q x σ1) 196 [(0, .ref o), (1, .int a0), (2, .ref a1), (3, .int v3), (4, .int v4)] [.int t0] σ)) (fun (v4 : Int32) (t0 : Int32) (t1 : Int32) (σ : St) => (Wg X ids 10 (fun r σ1 => ∃ x, r = some (Value.int x) ∧ Q x σ1) 211 [(0, .ref o), (1, .int a0), (2, .ref a1), (4, .int v4)] [.int t0, .int t1] σ)) (fun (v3 : Int32) (v4 : Int32) (σ : St) => (Wg X ids 10 (fun r σ1 => ∃ x, r = some (Value.int x) ∧ Q x σ1) 213 [(0, .ref o), (1, .int a0), (2, .ref a1), (3, .int v3), (4, .int v4)] [] σ))
  replace h := h (fun v3 t0 σ h => by
    refine q_istore (L' := [(4, .int t0), (0, .ref o), (1, .int a0), (2, .ref a1), (3, .int v3)]) hX dX3_holds_18 (by decide) rfl ?_
    exact Wg.sub [1, 2, 3, 4, 0] rfl (h)
    )
  replace h := h (fun v3 v4 σ h => by
    refine q_iload 4 hX dX3_holds_20 rfl ?_
    refine q_aload_n 0 hX dX3_holds_22 rfl rfl ?_
    refine gf_X3_18 hX h_o dX3_holds_23 ?_
    refine q_iload_n 1 hX dX3_holds_26 rfl rfl ?_
    obtain ⟨b1, h⟩ := h
    refine q_iald hX dX3_holds_27 (rfO_3_3 h_o) b1 ?_
    refine q_icmp_ge 219 hX dX3_holds_28 (by decide) (fun c2 => ?_) (fun c2 => ?_)
    · replace h := h.1 c2
      refine q_iload_n 3 hX dX3_holds_219 rfl rfl ?_
      refine q_iconst (v := 1) hX dX3_holds_220 (by decide) ?_
      refine q_iand hX dX3_holds_221 ?_
      refine q_iconst (v := 1) hX dX3_holds_222 (by decide) ?_
      refine q_icmp_ne 230 hX dX3_holds_223 (by decide) (fun c3 => ?_) (fun c3 => ?_)
      · replace h := h.1 c3
        refine q_iconst (v := 0) hX dX3_holds_230 (by decide) ?_
        exact q_zret hX dX3_holds_231 (by decide) ⟨_, rfl, h⟩
      · replace h := h.2 c3
        refine q_iconst (v := 1) hX dX3_holds_226 (by decide) ?_
        refine q_goto 231 hX dX3_holds_227 (by decide) ?_
        exact q_zret hX dX3_holds_231 (by decide) ⟨_, rfl, h⟩
    · replace h := h.2 c2
      refine q_iload_n 3 hX dX3_holds_31 rfl rfl ?_
      refine q_iconst (v := 1) hX dX3_holds_32 (by decide) ?_
      refine q_iand hX dX3_holds_33 ?_
      refine Wg.nmI (fun x4 ex4 => ?_)
      replace h := h x4 ex4
      refine q_istore (L' := [(5, .int x4), (0, .ref o), (1, .int a0), (2, .ref a1), (3, .int v3), (4, .int v4)]) hX dX3_holds_34 (by decide) rfl ?_
      refine q_aload_n 1 hX dX3_holds_36 rfl rfl ?_
      refine gf_X3_21 hX h_o dX3_holds_37 ?_
      refine q_iload 5 hX dX3_holds_40 rfl ?_
      obtain ⟨b5, h⟩ := h
      refine q_iald hX dX3_holds_42 (rfO_3_5 h_o) b5 ?_
      refine q_bipush (v := (-3)) hX dX3_holds_43 (by decide) ?_
      refine q_icmp_ne 55 hX dX3_holds_45 (by decide) (fun c6 => ?_) (fun c6 => ?_)
      · replace h := h.1 c6
        refine q_aload_n 1 hX dX3_holds_55 rfl rfl ?_
        refine gf_X3_21 hX h_o dX3_holds_56 ?_
        refine q_iload 5 hX dX3_holds_59 rfl ?_
        obtain ⟨b7, h⟩ := h
        refine q_iald hX dX3_holds_61 (rfO_3_5 h_o) b7 ?_
        refine q_iconst (v := (-1)) hX dX3_holds_62 (by decide) ?_
        refine q_icmp_ne 79 hX dX3_holds_63 (by decide) (fun c8 => ?_) (fun c8 => ?_)
        · replace h := h.1 c8
          refine q_aload_n 1 hX dX3_holds_79 rfl rfl ?_
          refine gf_X3_21 hX h_o dX3_holds_80 ?_
          refine q_iload 5 hX dX3_holds_83 rfl ?_
          obtain ⟨b9, h⟩ := h
          refine q_iald hX dX3_holds_85 (rfO_3_5 h_o) b9 ?_
          refine q_bipush (v := (-2)) hX dX3_holds_86 (by decide) ?_
          refine q_icmp_ne 101 hX dX3_holds_88 (by decide) (fun c10 => ?_) (fun c10 => ?_)
          · replace h := h.1 c10
            refine q_aload_n 3 hX dX3_holds_101 rfl rfl ?_
            refine q_aload_n 1 hX dX3_holds_102 rfl rfl ?_
            refine gf_X3_21 hX h_o dX3_holds_103 ?_
            refine q_iload 5 hX dX3_holds_106 rfl ?_
            obtain ⟨b11, h⟩ := h
            refine q_iald hX dX3_holds_108 (rfO_3_5 h_o) b11 ?_
            refine q_sipush (v := 1000) hX dX3_holds_109 (by decide) ?_
            refine q_idiv hX dX3_holds_112 (by decide) ?_
            obtain ⟨b12, h⟩ := h
            refine q_iald hX dX3_holds_113 h_a1 b12 ?_
            refine Wg.nmI (fun x13 ex13 => ?_)
            replace h := h x13 ex13
            refine q_istore (L' := [(6, .int x13), (5, .int x4), (0, .ref o), (1, .int a0), (2, .ref a1), (3, .int v3), (4, .int v4)]) hX dX3_holds_114 (by decide) rfl ?_
            refine q_aload_n 2 hX dX3_holds_116 rfl rfl ?_
            refine gf_X3_21 hX h_o dX3_holds_117 ?_
            refine q_iload 6 hX dX3_holds_120 rfl ?_
            obtain ⟨b14, h⟩ := h
            refine q_iald hX dX3_holds_122 (rfO_3_5 h_o) b14 ?_
            refine q_bipush (v := 100) hX dX3_holds_123 (by decide) ?_
            refine q_idiv hX dX3_holds_125 (by decide) ?_
            refine q_bipush (v := 10) hX dX3_holds_126 (by decide) ?_
            refine q_irem hX dX3_holds_128 (by decide) ?_
            refine Wg.nmI (fun x15 ex15 => ?_)
            replace h := h x15 ex15
            refine q_istore (L' := [(7, .int x15), (6, .int x13), (5, .int x4), (0, .ref o), (1, .int a0), (2, .ref a1), (3, .int v3), (4, .int v4)]) hX dX3_holds_129 (by decide) rfl ?_
            refine q_aload_n 3 hX dX3_holds_131 rfl rfl ?_
            refine gf_X3_21 hX h_o dX3_holds_132 ?_
            refine q_iload 7 hX dX3_holds_135 rfl ?_
            obtain ⟨b16, h⟩ := h
            refine q_iald hX dX3_holds_137 (rfO_3_5 h_o) b16 ?_
            refine q_bipush (v := 100) hX dX3_holds_138 (by decide) ?_
            refine q_irem hX dX3_holds_140 (by decide) ?_
            refine Wg.nmI (fun x17 ex17 => ?_)
            replace h := h x17 ex17
            refine q_istore (L' := [(8, .int x17), (7, .int x15), (6, .int x13), (5, .int x4), (0, .ref o), (1, .int a0), (2, .ref a1), (3, .int v3), (4, .int v4)]) hX dX3_holds_141 (by decide) rfl ?_
            refine q_iload 1 hX dX3_holds_143 rfl ?_
            refine q_if_ne 163 hX dX3_holds_145 (by decide) (fun c18 => ?_) (fun c18 => ?_)
            · replace h := h.1 c18
              refine q_iload 1 hX dX3_holds_163 rfl ?_
              refine q_iconst (v := 1) hX dX3_holds_165 (by decide) ?_
              refine q_icmp_ne 184 hX dX3_holds_166 (by decide) (fun c19 => ?_) (fun c19 => ?_)
              · replace h := h.1 c19
                refine q_iload 2 hX dX3_holds_184 rfl ?_
                refine q_iload 0 hX dX3_holds_186 rfl ?_
                refine q_icmp_le 195 hX dX3_holds_188 (by decide) (fun c20 => ?_) (fun c20 => ?_)
                · replace h := h.1 c20
                  refine q_iconst (v := 0) hX dX3_holds_195 (by decide) ?_
                  exact Wg.sub [4, 5, 6, 7, 8] rfl (h)
                · replace h := h.2 c20
                  refine q_iconst (v := 1) hX dX3_holds_191 (by decide) ?_
                  refine q_goto 196 hX dX3_holds_192 (by decide) ?_
                  exact Wg.sub [4, 5, 6, 7, 8] rfl (h)
              · replace h := h.2 c19
                refine q_iload 2 hX dX3_holds_169 rfl ?_
                refine q_iload 0 hX dX3_holds_171 rfl ?_
                refine q_icmp_ne 180 hX dX3_holds_173 (by decide) (fun c21 => ?_) (fun c21 => ?_)
                · replace h := h.1 c21
                  refine q_iconst (v := 0) hX dX3_holds_180 (by decide) ?_
                  refine q_goto 196 hX dX3_holds_181 (by decide) ?_
                  exact Wg.sub [4, 5, 6, 7, 8] rfl (h)
                · replace h := h.2 c21
                  refine q_iconst (v := 1) hX dX3_holds_176 (by decide) ?_
                  refine q_goto 196 hX dX3_holds_177 (by decide) ?_
                  exact Wg.sub [4, 5, 6, 7, 8] rfl (h)
            · replace h := h.2 c18
              refine q_iload 2 hX dX3_holds_148 rfl ?_
              refine q_iload 0 hX dX3_holds_150 rfl ?_
              refine q_icmp_ge 159 hX dX3_holds_152 (by decide) (fun c22 => ?_) (fun c22 => ?_)
              · replace h := h.1 c22
                refine q_iconst (v := 0) hX dX3_holds_159 (by decide) ?_
                refine q_goto 196 hX dX3_holds_160 (by decide) ?_
                exact Wg.sub [4, 5, 6, 7, 8] rfl (h)
              · replace h := h.2 c22
                refine q_iconst (v := 1) hX dX3_holds_155 (by decide) ?_
                refine q_goto 196 hX dX3_holds_156 (by decide) ?_
                exact Wg.sub [4, 5, 6, 7, 8] rfl (h)
          · replace h := h.2 c10
            refine q_iload_n 4 hX dX3_holds_91 rfl rfl ?_
            refine q_iconst (v := 1) hX dX3_holds_92 (by decide) ?_
            refine q_ishr hX dX3_holds_93 ?_
            refine q_iload 0 hX dX3_holds_94 rfl ?_
            refine q_ior hX dX3_holds_96 ?_
            refine Wg.nmI (fun x23 ex23 => ?_)
            replace h := h x23 ex23
            refine q_istore_n (L' := [(3, .int x23), (5, .int x4), (0, .ref o), (1, .int a0), (2, .ref a1), (4, .int v4)]) hX dX3_holds_97 rfl (by decide) rfl ?_
            refine q_goto 213 hX dX3_holds_98 (by decide) ?_
            exact Wg.sub [2, 3, 4, 0, 5] rfl (h)
        · replace h := h.2 c8
          refine q_iload_n 4 hX dX3_holds_66 rfl rfl ?_
          refine q_iconst (v := 1) hX dX3_holds_67 (by decide) ?_
          refine q_ishr hX dX3_holds_68 ?_
          refine q_iload 0 hX dX3_holds_69 rfl ?_
          refine q_bipush (v := (-2)) hX dX3_holds_71 (by decide) ?_
          refine q_ior hX dX3_holds_73 ?_
          refine q_iand hX dX3_holds_74 ?_
          refine Wg.nmI (fun x24 ex24 => ?_)
          replace h := h x24 ex24
          refine q_istore_n (L' := [(3, .int x24), (5, .int x4), (0, .ref o), (1, .int a0), (2, .ref a1), (4, .int v4)]) hX dX3_holds_75 rfl (by decide) rfl ?_
          refine q_goto 213 hX dX3_holds_76 (by decide) ?_
          exact Wg.sub [2, 3, 4, 0, 5] rfl (h)
      · replace h := h.2 c6
        refine q_iload_n 4 hX dX3_holds_48 rfl rfl ?_
        refine q_iconst (v := 1) hX dX3_holds_49 (by decide) ?_
        refine q_ixor hX dX3_holds_50 ?_
        refine Wg.nmI (fun x25 ex25 => ?_)
        replace h := h x25 ex25
        refine q_istore_n (L' := [(3, .int x25), (5, .int x4), (0, .ref o), (1, .int a0), (2, .ref a1), (4, .int v4)]) hX dX3_holds_51 rfl (by decide) rfl ?_
        refine q_goto 213 hX dX3_holds_52 (by decide) ?_
        exact Wg.sub [2, 3, 4, 0, 5] rfl (h)
    )
  replace h := h (fun v3 v4 t0 σ h => by
    refine q_istore (L' := [(9, .int t0), (0, .ref o), (1, .int a0), (2, .ref a1), (3, .int v3), (4, .int v4)]) hX dX3_holds_196 (by decide) rfl ?_
    refine q_iload_n 4 hX dX3_holds_198 rfl rfl ?_
    refine q_iconst (v := 1) hX dX3_holds_199 (by decide) ?_
    refine q_ishl hX dX3_holds_200 ?_
    refine q_iload 0 hX dX3_holds_201 rfl ?_
    refine q_if_eq 210 hX dX3_holds_203 (by decide) (fun c26 => ?_) (fun c26 => ?_)
    · replace h := h.1 c26
      refine q_iconst (v := 0) hX dX3_holds_210 (by decide) ?_
      exact Wg.sub [1, 2, 3, 5] rfl (h)
    · replace h := h.2 c26
      refine q_iconst (v := 1) hX dX3_holds_206 (by decide) ?_
      refine q_goto 211 hX dX3_holds_207 (by decide) ?_
      exact Wg.sub [1, 2, 3, 5] rfl (h)
    )
  replace h := h (fun v4 t0 t1 σ h => by
    refine q_ior hX dX3_holds_211 ?_
    refine Wg.nmI (fun x27 ex27 => ?_)
    replace h := h x27 ex27
    refine q_istore_n (L' := [(3, .int x27), (0, .ref o), (1, .int a0), (2, .ref a1), (4, .int v4)]) hX dX3_holds_212 rfl (by decide) rfl ?_
    exact Wg.sub [1, 2, 3, 0, 4] rfl (h)
    )
  replace h := h (fun v3 v4 σ h => by
    obtain ⟨x28, ex28⟩ : ∃ z : Int32, z = v4 + 1 := ⟨_, rfl⟩
    replace h := h x28 ex28
    refine q_iinc (v := x28) (L' := [(4, .int x28), (0, .ref o), (1, .int a0), (2, .ref a1), (3, .int v3)]) 4 hX dX3_holds_213 rfl (by rw [ex28]; rfl) (by decide) rfl ?_
    refine q_goto 20 hX dX3_holds_216 (by decide) ?_
    exact Wg.sub [1, 2, 3, 4, 0] rfl (h)
    )
  refine q_iconst (v := 0) hX dX3_holds_0 (by decide) ?_
  refine q_istore_n (L' := [(3, .int 0), (0, .ref o), (1, .int a0), (2, .ref a1)]) hX dX3_holds_1 rfl (by decide) rfl ?_
  refine q_iload_n 2 hX dX3_holds_2 rfl rfl ?_
  refine q_if_ne 10 hX dX3_holds_3 (by decide) (fun c29 => ?_) (fun c29 => ?_)
  · replace h := h.1 c29
    refine q_aload_n 1 hX dX3_holds_10 rfl rfl ?_
    refine gf_X3_18 hX h_o dX3_holds_11 ?_
    refine q_iload_n 2 hX dX3_holds_14 rfl rfl ?_
    refine q_iconst (v := 1) hX dX3_holds_15 (by decide) ?_
    refine q_isub hX dX3_holds_16 ?_
    obtain ⟨b30, h⟩ := h
    refine q_iald hX dX3_holds_17 (rfO_3_3 h_o) b30 ?_
    exact Wg.sub [1, 2, 3, 0] rfl (h)
  · replace h := h.2 c29
    refine q_iconst (v := 0) hX dX3_holds_6 (by decide) ?_
    refine q_goto 18 hX dX3_holds_7 (by decide) ?_
    exact Wg.sub [1, 2, 3, 0] rfl (h)
