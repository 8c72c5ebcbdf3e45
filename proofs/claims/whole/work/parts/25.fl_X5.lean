/-! formulas of the methods: if the formula holds, the contract does -/
set_option maxHeartbeats 4000000 in
set_option maxRecDepth 20000 in
theorem fl_X5_add {d : Nat} {ids : List Nat} {o : Nat} {a0 : Int32} {σ : St} {Q : St → Prop} (h_o : IO ids o 5) (H : ((100 ≤ (gi σ o 1) → Q σ) ∧ (¬ (100 ≤ (gi σ o 1)) → vp_in (gi σ o 1) 100 ∧ ∀ s3 : St, s3 = si σ (rf o 0) (Int32.toNatClampNeg (gi σ o 1)) a0 → ∀ s4 : St, s4 = si s3 o 1 ((gi s3 o 1) + 1) → Q s4))) : EV (d + 1) ids Y_X5_add [.ref o, .int a0] σ Q := by
  refine E_mk (by decide) (Nat.le_of_ble_eq_true rfl) (fun X hX => ?_)
  replace hX : Cok X ids 2 cX5_add none (d + 1) RX5 := hX
  show Wg X ids 2 _ 0 [(0, .ref o), (1, .int a0)] [] σ
  have h := H
  refine q_aload_n 0 hX dX5_add_0 rfl rfl ?_
  refine gf_X5_15 hX h_o dX5_add_1 ?_
  refine q_bipush (v := 100) hX dX5_add_4 (by decide) ?_
  refine q_icmp_ge 29 hX dX5_add_6 (by decide) (fun c1 => ?_) (fun c1 => ?_)
  · replace h := h.1 c1
    exact q_vret hX dX5_add_29 ⟨rfl, h⟩
  · replace h := h.2 c1
    refine q_aload_n 0 hX dX5_add_9 rfl rfl ?_
    refine gf_X5_9 hX h_o dX5_add_10 ?_
    refine q_aload_n 0 hX dX5_add_13 rfl rfl ?_
    refine gf_X5_15 hX h_o dX5_add_14 ?_
    refine q_iload_n 1 hX dX5_add_17 rfl rfl ?_
    obtain ⟨b2, h⟩ := h
    refine q_iast hX dX5_add_18 (rfO_5_0 h_o) b2 ?_
    refine Wg.nmS (fun s3 es3 => ?_)
    replace h := h s3 es3
    refine q_aload_n 0 hX dX5_add_19 rfl rfl ?_
    refine q_dup hX dX5_add_20 rfl ?_
    refine gf_X5_15 hX h_o dX5_add_21 ?_
    refine q_iconst (v := 1) hX dX5_add_24 (by decide) ?_
    refine q_iadd hX dX5_add_25 ?_
    refine pf_X5_15 hX h_o dX5_add_26 ?_
    refine Wg.nmS (fun s4 es4 => ?_)
    replace h := h s4 es4
    exact q_vret hX dX5_add_29 ⟨rfl, h⟩
set_option maxHeartbeats 4000000 in
set_option maxRecDepth 20000 in
theorem fl_X5_faultOf {d : Nat} {ids : List Nat} {o : Nat} {a0 : Nat} {σ : St} {Q : Int32 → St → Prop} (h_o : IO ids o 5) (h_a0 : IO ids a0 3) (H : ∀ (P25 : Int32 → St → Prop) (P60 : St → Prop) (P78 : St → Prop), (∀ (v2 : Int32) (σ : St), (((6 ≤ v2 → P60 σ) ∧ (¬ (6 ≤ v2) → EI d ids Y_X5_isNext [.ref o, .int 59] σ (fun x3 s2 => ((x3 = 0 → P60 s2) ∧ (¬ x3 = 0 → ∀ s5 : St, s5 = si s2 o 3 ((gi s2 o 3) + 1) → EV d ids Y_X5_takeClause [.ref o] s5 (fun s6 => ∀ x7 : Int32, x7 = v2 + 1 → P25 x7 s6))))))) → P25 v2 σ) → (∀ (σ : St), (((¬ (gi σ o 4) = 0 → P78 σ) ∧ ((gi σ o 4) = 0 → (((gi σ o 1) ≤ (gi σ o 3) → Q (-1) σ) ∧ (¬ ((gi σ o 1) ≤ (gi σ o 3)) → P78 σ))))) → P60 σ) → (∀ (σ : St), (Q (gi σ o 3) σ) → P78 σ) → ∀ s10 : St, s10 = si σ o 2 (nI a0) → EV d ids Y_X3_clear [.ref a0] s10 (fun s11 => ∀ s12 : St, s12 = si s11 o 3 0 → ∀ s13 : St, s13 = si s12 o 4 0 → EV d ids Y_X5_takeClause [.ref o] s13 (fun s14 => P25 1 s14))) : EI (d + 1) ids Y_X5_faultOf [.ref o, .ref a0] σ Q := by
  refine E_mk (by decide) (Nat.le_of_ble_eq_true rfl) (fun X hX => ?_)
  replace hX : Cok X ids 3 cX5_faultOf (some .int) (d + 1) RX5 := hX
  show Wg X ids 3 _ 0 [(0, .ref o), (1, .ref a0)] [] σ
  have h := H (fun (v2 : Int32) (σ : St) => (Wg X ids 3 (fun r σ1 => ∃ x, r = some (Value.int x) ∧ Q x σ1) 25 [(0, .ref o), (2, .int v2)] [] σ)) (fun (σ : St) => (Wg X ids 3 (fun r σ1 => ∃ x, r = some (Value.int x) ∧ Q x σ1) 60 [(0, .ref o)] [] σ)) (fun (σ : St) => (Wg X ids 3 (fun r σ1 => ∃ x, r = some (Value.int x) ∧ Q x σ1) 78 [(0, .ref o)] [] σ))
  replace h := h (fun v2 σ h => by
    refine q_iload_n 1 hX dX5_faultOf_25 rfl rfl ?_
    refine q_bipush (v := 6) hX dX5_faultOf_26 (by decide) ?_
    refine q_icmp_ge 60 hX dX5_faultOf_28 (by decide) (fun c1 => ?_) (fun c1 => ?_)
    · replace h := h.1 c1
      exact Wg.sub [0] rfl (h)
    · replace h := h.2 c1
      refine q_aload_n 0 hX dX5_faultOf_31 rfl rfl ?_
      refine q_bipush (v := 59) hX dX5_faultOf_32 (by decide) ?_
      refine cl_X5_38 hX h_o dX5_faultOf_34 (Nat.le_of_ble_eq_true rfl) h (fun x3 s2 h => ?_)
      refine q_if_eq 60 hX dX5_faultOf_37 (by decide) (fun c4 => ?_) (fun c4 => ?_)
      · replace h := h.1 c4
        exact Wg.sub [0] rfl (h)
      · replace h := h.2 c4
        refine q_aload_n 0 hX dX5_faultOf_40 rfl rfl ?_
        refine q_dup hX dX5_faultOf_41 rfl ?_
        refine gf_X5_28 hX h_o dX5_faultOf_42 ?_
        refine q_iconst (v := 1) hX dX5_faultOf_45 (by decide) ?_
        refine q_iadd hX dX5_faultOf_46 ?_
        refine pf_X5_28 hX h_o dX5_faultOf_47 ?_
        refine Wg.nmS (fun s5 es5 => ?_)
        replace h := h s5 es5
        refine q_aload_n 0 hX dX5_faultOf_50 rfl rfl ?_
        refine cl_X5_35 hX h_o dX5_faultOf_51 (Nat.le_of_ble_eq_true rfl) h (fun s6 h => ?_)
        obtain ⟨x7, ex7⟩ : ∃ z : Int32, z = v2 + 1 := ⟨_, rfl⟩
        replace h := h x7 ex7
        refine q_iinc (v := x7) (L' := [(2, .int x7), (0, .ref o)]) 1 hX dX5_faultOf_54 rfl (by rw [ex7]; rfl) (by decide) rfl ?_
        refine q_goto 25 hX dX5_faultOf_57 (by decide) ?_
        exact Wg.sub [1, 0] rfl (h)
    )
  replace h := h (fun σ h => by
    refine q_aload_n 0 hX dX5_faultOf_60 rfl rfl ?_
    refine gf_X5_31 hX h_o dX5_faultOf_61 ?_
    refine q_if_ne 78 hX dX5_faultOf_64 (by decide) (fun c8 => ?_) (fun c8 => ?_)
    · replace h := h.1 c8
      exact Wg.sub [0] rfl (h)
    · replace h := h.2 c8
      refine q_aload_n 0 hX dX5_faultOf_67 rfl rfl ?_
      refine gf_X5_28 hX h_o dX5_faultOf_68 ?_
      refine q_aload_n 0 hX dX5_faultOf_71 rfl rfl ?_
      refine gf_X5_15 hX h_o dX5_faultOf_72 ?_
      refine q_icmp_ge 85 hX dX5_faultOf_75 (by decide) (fun c9 => ?_) (fun c9 => ?_)
      · replace h := h.1 c9
        refine q_iconst (v := (-1)) hX dX5_faultOf_85 (by decide) ?_
        exact q_ret hX dX5_faultOf_86 ⟨_, rfl, h⟩
      · replace h := h.2 c9
        exact Wg.sub [0] rfl (h)
    )
  replace h := h (fun σ h => by
    refine q_aload_n 0 hX dX5_faultOf_78 rfl rfl ?_
    refine gf_X5_28 hX h_o dX5_faultOf_79 ?_
    refine q_goto 86 hX dX5_faultOf_82 (by decide) ?_
    exact q_ret hX dX5_faultOf_86 ⟨_, rfl, h⟩
    )
  refine q_aload_n 0 hX dX5_faultOf_0 rfl rfl ?_
  refine q_aload_n 1 hX dX5_faultOf_1 rfl rfl ?_
  refine pf_X5_19 hX h_o dX5_faultOf_2 (IO_lt h_a0) ?_
  refine Wg.nmS (fun s10 es10 => ?_)
  replace h := h s10 es10
  refine q_aload_n 1 hX dX5_faultOf_5 rfl rfl ?_
  refine cl_X5_23 hX h_a0 dX5_faultOf_6 (Nat.le_of_ble_eq_true rfl) h (fun s11 h => ?_)
  refine q_aload_n 0 hX dX5_faultOf_9 rfl rfl ?_
  refine q_iconst (v := 0) hX dX5_faultOf_10 (by decide) ?_
  refine pf_X5_28 hX h_o dX5_faultOf_11 ?_
  refine Wg.nmS (fun s12 es12 => ?_)
  replace h := h s12 es12
  refine q_aload_n 0 hX dX5_faultOf_14 rfl rfl ?_
  refine q_iconst (v := 0) hX dX5_faultOf_15 (by decide) ?_
  refine pf_X5_31 hX h_o dX5_faultOf_16 (by decide) ?_
  refine Wg.nmS (fun s13 es13 => ?_)
  replace h := h s13 es13
  refine q_aload_n 0 hX dX5_faultOf_19 rfl rfl ?_
  refine cl_X5_35 hX h_o dX5_faultOf_20 (Nat.le_of_ble_eq_true rfl) h (fun s14 h => ?_)
  refine q_iconst (v := 1) hX dX5_faultOf_23 (by decide) ?_
  refine q_istore_n (L' := [(2, .int 1), (0, .ref o), (1, .ref a0)]) hX dX5_faultOf_24 rfl (by decide) rfl ?_
  exact Wg.sub [1, 0] rfl (h)
set_option maxHeartbeats 4000000 in
set_option maxRecDepth 20000 in
theorem fl_X5_isNext {d : Nat} {ids : List Nat} {o : Nat} {a0 : Int32} {σ : St} {Q : Int32 → St → Prop} (h_o : IO ids o 5) (H : ((¬ (gi σ o 4) = 0 → Q 0 σ) ∧ ((gi σ o 4) = 0 → (((gi σ o 1) ≤ (gi σ o 3) → Q 0 σ) ∧ (¬ ((gi σ o 1) ≤ (gi σ o 3)) → vp_in (gi σ o 3) 100 ∧ ((¬ (gi σ (rf o 0) (Int32.toNatClampNeg (gi σ o 3))) = a0 → Q 0 σ) ∧ ((gi σ (rf o 0) (Int32.toNatClampNeg (gi σ o 3))) = a0 → Q 1 σ))))))) : EI (d + 1) ids Y_X5_isNext [.ref o, .int a0] σ Q := by
  refine E_mk (by decide) (Nat.le_of_ble_eq_true rfl) (fun X hX => ?_)
  replace hX : Cok X ids 2 cX5_isNext (some .boolean) (d + 1) RX5 := hX
  show Wg X ids 2 _ 0 [(0, .ref o), (1, .int a0)] [] σ
  have h := H
  refine q_aload_n 0 hX dX5_isNext_0 rfl rfl ?_
  refine gf_X5_31 hX h_o dX5_isNext_1 ?_
  refine q_if_ne 35 hX dX5_isNext_4 (by decide) (fun c1 => ?_) (fun c1 => ?_)
  · replace h := h.1 c1
    refine q_iconst (v := 0) hX dX5_isNext_35 (by decide) ?_
    exact q_zret hX dX5_isNext_36 (by decide) ⟨_, rfl, h⟩
  · replace h := h.2 c1
    refine q_aload_n 0 hX dX5_isNext_7 rfl rfl ?_
    refine gf_X5_28 hX h_o dX5_isNext_8 ?_
    refine q_aload_n 0 hX dX5_isNext_11 rfl rfl ?_
    refine gf_X5_15 hX h_o dX5_isNext_12 ?_
    refine q_icmp_ge 35 hX dX5_isNext_15 (by decide) (fun c2 => ?_) (fun c2 => ?_)
    · replace h := h.1 c2
      refine q_iconst (v := 0) hX dX5_isNext_35 (by decide) ?_
      exact q_zret hX dX5_isNext_36 (by decide) ⟨_, rfl, h⟩
    · replace h := h.2 c2
      refine q_aload_n 0 hX dX5_isNext_18 rfl rfl ?_
      refine gf_X5_9 hX h_o dX5_isNext_19 ?_
      refine q_aload_n 0 hX dX5_isNext_22 rfl rfl ?_
      refine gf_X5_28 hX h_o dX5_isNext_23 ?_
      obtain ⟨b3, h⟩ := h
      refine q_iald hX dX5_isNext_26 (rfO_5_0 h_o) b3 ?_
      refine q_iload_n 1 hX dX5_isNext_27 rfl rfl ?_
      refine q_icmp_ne 35 hX dX5_isNext_28 (by decide) (fun c4 => ?_) (fun c4 => ?_)
      · replace h := h.1 c4
        refine q_iconst (v := 0) hX dX5_isNext_35 (by decide) ?_
        exact q_zret hX dX5_isNext_36 (by decide) ⟨_, rfl, h⟩
      · replace h := h.2 c4
        refine q_iconst (v := 1) hX dX5_isNext_31 (by decide) ?_
        refine q_goto 36 hX dX5_isNext_32 (by decide) ?_
        exact q_zret hX dX5_isNext_36 (by decide) ⟨_, rfl, h⟩
set_option maxHeartbeats 4000000 in
set_option maxRecDepth 20000 in
theorem fl_X5_takeEither {d : Nat} {ids : List Nat} {o : Nat} {a0 : Int32} {σ : St} {Q : St → Prop} (h_o : IO ids o 5) (H : ∀ (P8 : Int32 → St → Prop), (∀ (v2 : Int32) (σ : St), (((v2 ≤ 0 → Q σ) ∧ (¬ (v2 ≤ 0) → EI d ids Y_X5_isNext [.ref o, .int 124] σ (fun x3 s2 => ((x3 = 0 → Q s2) ∧ (¬ x3 = 0 → ∀ s5 : St, s5 = si s2 o 3 ((gi s2 o 3) + 1) → EV d ids Y_X5_takeBoth [.ref o, .int a0] s5 (fun s6 => ((dc (gi s6 o 2) = none → False) ∧ (∀ r7 : Nat, dc (gi s6 o 2) = some r7 → IO ids r7 3 ∧ EV d ids Y_X3_addStep [.ref r7, .int (-2)] s6 (fun s8 => ∀ x9 : Int32, x9 = v2 + (-1) → P8 x9 s8)))))))))) → P8 v2 σ) → EV d ids Y_X5_takeBoth [.ref o, .int a0] σ (fun s10 => P8 100 s10)) : EV (d + 1) ids Y_X5_takeEither [.ref o, .int a0] σ Q := by
  refine E_mk (by decide) (Nat.le_of_ble_eq_true rfl) (fun X hX => ?_)
  replace hX : Cok X ids 3 cX5_takeEither none (d + 1) RX5 := hX
  show Wg X ids 3 _ 0 [(0, .ref o), (1, .int a0)] [] σ
  have h := H (fun (v2 : Int32) (σ : St) => (Wg X ids 3 (fun r σ1 => r = none ∧ Q σ1) 8 [(0, .ref o), (1, .int a0), (2, .int v2)] [] σ))
  replace h := h (fun v2 σ h => by
    refine q_iload_n 2 hX dX5_takeEither_8 rfl rfl ?_
    refine q_if_le 51 hX dX5_takeEither_9 (by decide) (fun c1 => ?_) (fun c1 => ?_)
    · replace h := h.1 c1
      exact q_vret hX dX5_takeEither_51 ⟨rfl, h⟩
    · replace h := h.2 c1
      refine q_aload_n 0 hX dX5_takeEither_12 rfl rfl ?_
      refine q_bipush (v := 124) hX dX5_takeEither_13 (by decide) ?_
      refine cl_X5_38 hX h_o dX5_takeEither_15 (Nat.le_of_ble_eq_true rfl) h (fun x3 s2 h => ?_)
      refine q_if_eq 51 hX dX5_takeEither_18 (by decide) (fun c4 => ?_) (fun c4 => ?_)
      · replace h := h.1 c4
        exact q_vret hX dX5_takeEither_51 ⟨rfl, h⟩
      · replace h := h.2 c4
        refine q_aload_n 0 hX dX5_takeEither_21 rfl rfl ?_
        refine q_dup hX dX5_takeEither_22 rfl ?_
        refine gf_X5_28 hX h_o dX5_takeEither_23 ?_
        refine q_iconst (v := 1) hX dX5_takeEither_26 (by decide) ?_
        refine q_iadd hX dX5_takeEither_27 ?_
        refine pf_X5_28 hX h_o dX5_takeEither_28 ?_
        refine Wg.nmS (fun s5 es5 => ?_)
        replace h := h s5 es5
        refine q_aload_n 0 hX dX5_takeEither_31 rfl rfl ?_
        refine q_iload_n 1 hX dX5_takeEither_32 rfl rfl ?_
        refine cl_X5_85 hX h_o dX5_takeEither_33 (Nat.le_of_ble_eq_true rfl) h (fun s6 h => ?_)
        refine q_aload_n 0 hX dX5_takeEither_36 rfl rfl ?_
        refine gf_X5_19 hX h_o dX5_takeEither_37 (fun hn => ?_) (fun r7 h_r7 => ?_)
        · replace h := h.1 hn
          refine q_bipush (v := (-2)) hX dX5_takeEither_40 (by decide) ?_
          exact h.elim
        · obtain ⟨h_r7, h⟩ := h.2 r7 h_r7
          refine q_bipush (v := (-2)) hX dX5_takeEither_40 (by decide) ?_
          refine cl_X5_88 hX h_r7 dX5_takeEither_42 (Nat.le_of_ble_eq_true rfl) h (fun s8 h => ?_)
          obtain ⟨x9, ex9⟩ : ∃ z : Int32, z = v2 + (-1) := ⟨_, rfl⟩
          replace h := h x9 ex9
          refine q_iinc (v := x9) (L' := [(2, .int x9), (0, .ref o), (1, .int a0)]) 2 hX dX5_takeEither_45 rfl (by rw [ex9]; rfl) (by decide) rfl ?_
          refine q_goto 8 hX dX5_takeEither_48 (by decide) ?_
          exact Wg.sub [1, 2, 0] rfl (h)
    )
  refine q_aload_n 0 hX dX5_takeEither_0 rfl rfl ?_
  refine q_iload_n 1 hX dX5_takeEither_1 rfl rfl ?_
  refine cl_X5_85 hX h_o dX5_takeEither_2 (Nat.le_of_ble_eq_true rfl) h (fun s10 h => ?_)
  refine q_bipush (v := 100) hX dX5_takeEither_5 (by decide) ?_
  refine q_istore_n (L' := [(2, .int 100), (0, .ref o), (1, .int a0)]) hX dX5_takeEither_7 rfl (by decide) rfl ?_
  exact Wg.sub [1, 2, 0] rfl (h)
set_option maxHeartbeats 4000000 in
set_option maxRecDepth 20000 in
theorem fl_X5_takeBoth {d : Nat} {ids : List Nat} {o : Nat} {a0 : Int32} {σ : St} {Q : St → Prop} (h_o : IO ids o 5) (H : ∀ (P8 : Int32 → St → Prop), (∀ (v2 : Int32) (σ : St), (((v2 ≤ 0 → Q σ) ∧ (¬ (v2 ≤ 0) → EI d ids Y_X5_isNext [.ref o, .int 38] σ (fun x3 s2 => ((x3 = 0 → Q s2) ∧ (¬ x3 = 0 → ∀ s5 : St, s5 = si s2 o 3 ((gi s2 o 3) + 1) → EV d ids Y_X5_takePart [.ref o, .int a0] s5 (fun s6 => ((dc (gi s6 o 2) = none → False) ∧ (∀ r7 : Nat, dc (gi s6 o 2) = some r7 → IO ids r7 3 ∧ EV d ids Y_X3_addStep [.ref r7, .int (-1)] s6 (fun s8 => ∀ x9 : Int32, x9 = v2 + (-1) → P8 x9 s8)))))))))) → P8 v2 σ) → EV d ids Y_X5_takePart [.ref o, .int a0] σ (fun s10 => P8 100 s10)) : EV (d + 1) ids Y_X5_takeBoth [.ref o, .int a0] σ Q := by
  refine E_mk (by decide) (Nat.le_of_ble_eq_true rfl) (fun X hX => ?_)
  replace hX : Cok X ids 3 cX5_takeBoth none (d + 1) RX5 := hX
  show Wg X ids 3 _ 0 [(0, .ref o), (1, .int a0)] [] σ
  have h := H (fun (v2 : Int32) (σ : St) => (Wg X ids 3 (fun r σ1 => r = none ∧ Q σ1) 8 [(0, .ref o), (1, .int a0), (2, .int v2)] [] σ))
  replace h := h (fun v2 σ h => by
    refine q_iload_n 2 hX dX5_takeBoth_8 rfl rfl ?_
    refine q_if_le 50 hX dX5_takeBoth_9 (by decide) (fun c1 => ?_) (fun c1 => ?_)
    · replace h := h.1 c1
      exact q_vret hX dX5_takeBoth_50 ⟨rfl, h⟩
    · replace h := h.2 c1
      refine q_aload_n 0 hX dX5_takeBoth_12 rfl rfl ?_
      refine q_bipush (v := 38) hX dX5_takeBoth_13 (by decide) ?_
      refine cl_X5_38 hX h_o dX5_takeBoth_15 (Nat.le_of_ble_eq_true rfl) h (fun x3 s2 h => ?_)
      refine q_if_eq 50 hX dX5_takeBoth_18 (by decide) (fun c4 => ?_) (fun c4 => ?_)
      · replace h := h.1 c4
        exact q_vret hX dX5_takeBoth_50 ⟨rfl, h⟩
      · replace h := h.2 c4
        refine q_aload_n 0 hX dX5_takeBoth_21 rfl rfl ?_
        refine q_dup hX dX5_takeBoth_22 rfl ?_
        refine gf_X5_28 hX h_o dX5_takeBoth_23 ?_
        refine q_iconst (v := 1) hX dX5_takeBoth_26 (by decide) ?_
        refine q_iadd hX dX5_takeBoth_27 ?_
        refine pf_X5_28 hX h_o dX5_takeBoth_28 ?_
        refine Wg.nmS (fun s5 es5 => ?_)
        replace h := h s5 es5
        refine q_aload_n 0 hX dX5_takeBoth_31 rfl rfl ?_
        refine q_iload_n 1 hX dX5_takeBoth_32 rfl rfl ?_
        refine cl_X5_91 hX h_o dX5_takeBoth_33 (Nat.le_of_ble_eq_true rfl) h (fun s6 h => ?_)
        refine q_aload_n 0 hX dX5_takeBoth_36 rfl rfl ?_
        refine gf_X5_19 hX h_o dX5_takeBoth_37 (fun hn => ?_) (fun r7 h_r7 => ?_)
        · replace h := h.1 hn
          refine q_iconst (v := (-1)) hX dX5_takeBoth_40 (by decide) ?_
          exact h.elim
        · obtain ⟨h_r7, h⟩ := h.2 r7 h_r7
          refine q_iconst (v := (-1)) hX dX5_takeBoth_40 (by decide) ?_
          refine cl_X5_88 hX h_r7 dX5_takeBoth_41 (Nat.le_of_ble_eq_true rfl) h (fun s8 h => ?_)
          obtain ⟨x9, ex9⟩ : ∃ z : Int32, z = v2 + (-1) := ⟨_, rfl⟩
          replace h := h x9 ex9
          refine q_iinc (v := x9) (L' := [(2, .int x9), (0, .ref o), (1, .int a0)]) 2 hX dX5_takeBoth_44 rfl (by rw [ex9]; rfl) (by decide) rfl ?_
          refine q_goto 8 hX dX5_takeBoth_47 (by decide) ?_
          exact Wg.sub [1, 2, 0] rfl (h)
    )
  refine q_aload_n 0 hX dX5_takeBoth_0 rfl rfl ?_
  refine q_iload_n 1 hX dX5_takeBoth_1 rfl rfl ?_
  refine cl_X5_91 hX h_o dX5_takeBoth_2 (Nat.le_of_ble_eq_true rfl) h (fun s10 h => ?_)
  refine q_bipush (v := 100) hX dX5_takeBoth_5 (by decide) ?_
  refine q_istore_n (L' := [(2, .int 100), (0, .ref o), (1, .int a0)]) hX dX5_takeBoth_7 rfl (by decide) rfl ?_
  exact Wg.sub [1, 2, 0] rfl (h)
