/-! formulas of the methods: if the formula holds, the contract does -/
set_option maxHeartbeats 4000000 in
set_option maxRecDepth 20000 in
theorem fl_X5_add {d : Nat} {ids : List Nat} {o : Nat} {a0 : Int32} {σ : St} {Q : St → Prop} (h_o : IO ids o 5) (H : ((100 ≤ (gi σ o 1) → Q σ) ∧ (¬ (100 ≤ (gi σ o 1)) → vp_in (gi σ o 1) 100 ∧ ∀ s3 : St, s3 = si σ (rf o 0) (Int32.toNatClampNeg (gi σ o 1)) a0 → ∀ s4 : St, s4 = si s3 o 1 ((gi s3 o 1) + 1) → Q s4))) : EV (d + 1) ids Y_X5_add [.ref o, .int a0] σ Q := by
  refine E_mk (by decide) (Nat.le_of_ble_eq_true rfl) (fun X hX => ?_)
  replace hX : Cok X ids 2 cX5_add none (d + 1) RX5 := hX
  show Wg X ids 2 _ 0 [(0, .ref o), (1, .int a0)] [] σ
  have h := H
  refine q_aload_n 0 hX dX5_add_0 rfl rfl ?_
  refine gf_X5_15 hX h_o dX5_add_1 ?_
  refine q_bipush (v := 100) hX dX5_add_4 (by decide) ?_
  refine q_icmp_ge 29 hX dX5_add_6 (by decide) (fun c1 => ?_) (fun c1 => ?_)
  · replace h := h.1 c1
    exact q_vret hX dX5_add_29 ⟨rfl, h⟩
  · replace h := h.2 c1
    refine q_aload_n 0 hX dX5_add_9 rfl rfl ?_
    refine gf_X5_9 hX h_o dX5_add_10 ?_
    refine q_aload_n 0 hX dX5_add_13 rfl rfl ?_
    refine gf_X5_15 hX h_o dX5_add_14 ?_
    refine q_iload_n 1 hX dX5_add_17 rfl rfl ?_
    obtain ⟨b2, h⟩ := h
    refine q_iast hX dX5_add_18 (rfO_5_0 h_o) b2 ?_
    refine Wg.nmS (fun s3 es3 => ?_)
    replace h := h s3 es3
    refine q_aload_n 0 hX dX5_add_19 rfl rfl ?_
    refine q_dup hX dX5_add_20 rfl ?_
    refine gf_X5_15 hX h_o dX5_add_21 ?_
    refine q_iconst (v := 1) hX dX5_add_24 (by decide) ?_
    refine q_iadd hX dX5_add_25 ?_
    refine pf_X5_15 hX h_o dX5_add_26 ?_
    refine Wg.nmS (fun s4 es4 => ?_)
    replace h := h s4 es4
    exact q_vret hX dX5_add_29 ⟨rfl, h⟩
set_option maxHeartbeats 4000000 in
set_option maxRecDepth 20000 in
theorem fl_X5_faultOf {d : Nat} {ids : List Nat} {o : Nat} {a0 : Nat} {σ : St} {Q : Int32 → St → Prop} (h_o : IO ids o 5) (h_a0 : IO ids a0 3) (H : ∀ (P25 : Int32 → St → Prop) (P60 : St → Prop) (P78 : St → Prop), (∀ (v2 : Int32) (σ : St), (((6 ≤ v2 → P60 σ) ∧ (¬ (6 ≤ v2) → EI d ids Y_X5_isNext [.ref o, .int 59] σ (fun x3 s2 => ((x3 = 0 → P60 s2) ∧ (¬ x3 = 0 → ∀ s5 : St, s5 = si s2 o 3 ((gi s2 o 3) + 1) → EV d ids Y_X5_takeClause [.ref o] s5 (fun s6 => ∀ x7 : Int32, x7 = v2 + 1 → P25 x7 s6))))))) → P25 v2 σ) → (∀ (σ : St), (((¬ (gi σ o 4) = 0 → P78 σ) ∧ ((gi σ o 4) = 0 → (((gi σ o 1) ≤ (gi σ o 3) → Q (-1) σ) ∧ (¬ ((gi σ o 1) ≤ (gi σ o 3)) → P78 σ))))) → P60 σ) → (∀ (σ : St), (Q (gi σ o 3) σ) → P78 σ) → ∀ s10 : St, s10 = si σ o 2 (nI a0) → EV d ids Y_X3_clear [.ref a0] s10 (fun s11 => ∀ s12 : St, s12 = si s11 o 3 0 → ∀ s13 : St, s13 = si s12 o 4 0 → EV d ids Y_X5_takeClause [.ref o] s13 (fun s14 => P25 1 s14))) : EI (d + 1) ids Y_X5_faultOf [.ref o, .ref a0] σ Q := by
  refine E_mk (by decide) (Nat.le_of_ble_eq_true rfl) (fun X hX => ?_)
  replace hX : Cok X ids 3 cX5_faultOf (some .int) (d + 1) RX5 := hX
  show Wg X ids 3 _ 0 [(0, .ref o), (1, .ref a0)] [] σ
  have h := H (fun (v2 : Int32) (σ : St) => (Wg X ids 3 (fun r σ1 => ∃ x, r = some (Value.int x) ∧ Q x σ1) 25 [(0, .ref o), (2, .int v2)] [] σ)) (fun (σ : St) => (Wg X ids 3 (fun r σ1 => ∃ x, r = some (Value.int x) ∧ Q x σ1) 60 [(0, .ref o)] [] σ)) (fun (σ : St) => (Wg X ids 3 (fun r σ1 => ∃ x, r = some (Value.int x) ∧ Q x σ1) 78 [(0, .ref o)] [] σ))
  replace h := h (fun v2 σ h => by
    refine q_iload_n 1 hX dX5_faultOf_25 rfl rfl ?_
    refine q_bipush (v := 6) hX dX5_faultOf_26 (by decide) ?_
    refine q_icmp_ge 60 hX dX5_faultOf_28 (by decide) (fun c1 => ?_) (fun c1 => ?_)
    · replace h := h.1 c1
      exact Wg.sub [0] rfl (h)
    · replace h := h.2 c1
      refine q_aload_n 0 hX dX5_faultOf_31 rfl rfl ?_
      refine q_bipush (v := 59) hX dX5_faultOf_32 (by decide) ?_
      refine cl_X5_38 hX h_o dX5_faultOf_34 (Nat.le_of_ble_eq_true rfl) h (fun x3 s2 h => ?_)
      refine q_if_eq 60 hX dX5_faultOf_37 (by decide) (fun c4 => ?_) (fun c4 => ?_)
      · replace h := h.1 c4
        exact Wg.sub [0] rfl (h)
      · replace h := h.2 c4
        refine q_aload_n 0 hX dX5_faultOf_40 rfl rfl ?_
        refine q_dup hX dX5_faultOf_41 rfl ?_
        refine gf_X5_28 hX h_o dX5_faultOf_42 ?_
        refine q_iconst (v := 1) hX dX5_faultOf_45 (by decide) ?_
        refine q_iadd hX dX5_faultOf_46 ?_
        refine pf_X5_28 hX h_o dX5_faultOf_47 ?_
        refine Wg.nmS (fun s5 es5 => ?_)
        replace h := h s5 es5
        refine q_aload_n 0 hX dX5_faultOf_50 rfl rfl ?_
        refine cl_X5_35 hX h_o dX5_faultOf_51 (Nat.le_of_ble_eq_true rfl) h (fun s6 h => ?_)
        obtain ⟨x7, ex7⟩ : ∃ z : Int32, z = v2 + 1 := ⟨_, rfl⟩
        replace h := h x7 ex7
        refine q_iinc (v := x7) (L' := [(2, .int x7), (0, .ref o)]) 1 hX dX5_faultOf_54 rfl (by rw [ex7]; rfl) (by decide) rfl ?_
        refine q_goto 25 hX dX5_faultOf_57 (by decide) ?_
        exact Wg.sub [1, 0] rfl (h)
    )
  replace h := h (fun σ h => by
    refine q_aload_n 0 hX dX5_faultOf_60 rfl rfl ?_
    refine gf_X5_31 hX h_o dX5_faultOf_61 ?_
    refine q_if_ne 78 hX dX5_faultOf_64 (by decide) (fun c8 => ?_) (fun c8 => ?_)
    · replace h := h.1 c8
      exact Wg.sub [0] rfl (h)
    · replace h := h.2 c8
      refine q_aload_n 0 hX dX5_faultOf_67 rfl rfl ?_
      refine gf_X5_28 hX h_o dX5_faultOf_68 ?_
      refine q_aload_n 0 hX dX5_faultOf_71 rfl rfl ?_
      refine gf_X5_15 hX h_o dX5_faultOf_72 ?_
      refine q_icmp_ge 85 hX dX5_faultOf_75 (by decide) (fun c9 => ?_) (fun c9 => ?_)
      · replace h := h.1 c9
        refine q_iconst (v := (-1)) hX dX5_faultOf_85 (by decide) ?_
        exact q_ret hX dX5_faultOf_86 ⟨_, rfl, h⟩
      · replace h := h.2 c9
        exact Wg.sub [0] rfl (h)
    )
  replace h := h (fun σ h => by
    refine q_aload_n 0 hX dX5_faultOf_78 rfl rfl ?_
    refine gf_X5_28 hX h_o dX5_faultOf_79 ?_
    refine q_goto 86 hX dX5_faultOf_82 (by decide) ?_
    exact q_ret hX dX5_faultOf_86 ⟨_, rfl, h⟩
    )
  refine q_aload_n 0 hX dX5_faultOf_0 rfl rfl ?_
  refine q_aload_n 1 hX dX5_faultOf_1 rfl rfl ?_
  refine pf_X5_19 hX h_o dX5_faultOf_2 (IO_lt h_a0) ?_
  refine Wg.nmS (fun s10 es10 => ?_)
  replace h := h s10 es10
  refine q_aload_n 1 hX dX5_faultOf_5 rfl rfl ?_
  refine cl_X5_23 hX h_a0 dX5_faultOf_6 (Nat.le_of_ble_eq_true rfl) h (fun s11 h => ?_)
  refine q_aload_n 0 hX dX5_faultOf_9 rfl rfl ?_
  refine q_iconst (v := 0) hX dX5_faultOf_10 (by decide) ?_
  refine pf_X5_28 hX h_o dX5_faultOf_11 ?_
  refine Wg.nmS (fun s12 es12 => ?_)
  replace h := h s12 es12
  refine q_aload_n 0 hX dX5_faultOf_14 rfl rfl ?_
  refine q_iconst (v := 0) hX dX5_faultOf_15 (by decide) ?_
  refine pf_X5_31 hX h_o dX5_faultOf_16 (by decide) ?_
  refine Wg.nmS (fun s13 es13 => ?_)
  replace h := h s13 es13
  refine q_aload_n 0 hX dX5_faultOf_19 rfl rfl ?_
  refine cl_X5_35 hX h_o dX5_faultOf_20 (Nat.le_of_ble_eq_true rfl) h (fun s14 h => ?_)
  refine q_iconst (v := 1) hX dX5_faultOf_23 (by decide) ?_
  refine q_istore_n (L' := [(2, .int 1), (0, .ref o), (1, .ref a0)]) hX dX5_faultOf_24 rfl (by decide) rfl ?_
  exact Wg.sub [1, 0] rfl (h)
set_option maxHeartbeats 4000000 in
set_option maxRecDepth 20000 in
theorem fl_X5_isNext {d : Nat} {ids : List Nat} {o : Nat} {a0 : Int32} {σ : St} {Q : Int32 → St → Prop} (h_o : IO ids o 5) (H : ((¬ (gi σ o 4) = 0 → Q 0 σ) ∧ ((gi σ o 4) = 0 → (((gi σ o 1) ≤ (gi σ o 3) → Q 0 σ) ∧ (¬ ((gi σ o 1) ≤ (gi σ o 3)) → vp_in (gi σ o 3) 100 ∧ ((¬ (gi σ (rf o 0) (Int32.toNatClampNeg (gi σ o 3))) = a0 → Q 0 σ) ∧ ((gi σ (rf o 0) (Int32.toNatClampNeg (gi σ o 3))) = a0 → Q 1 σ))))))) : EI (d + 1) ids Y_X5_isNext [.ref o, .int a0] σ Q := by
  refine E_mk (by decide) (Nat.le_of_ble_eq_true rfl) (fun X hX => ?_)
  replace hX : Cok X ids 2 cX5_isNext (some .boolean) (d + 1) RX5 := hX
  show Wg X ids 2 _ 0 [(0, .ref o), (1, .int a0)] [] σ
  have h := H
  refine q_aload_n 0 hX dX5_isNext_0 rfl rfl ?_
  refine gf_X5_31 hX h_o dX5_isNext_1 ?_
  refine q_if_ne 35 hX dX5_isNext_4 (by decide) (fun c1 => ?_) (fun c1 => ?_)
  · replace h := h.1 c1
    refine q_iconst (v := 0) hX dX5_isNext_35 (by decide) ?_
    exact q_zret hX dX5_isNext_36 (by decide) ⟨_, rfl, h⟩
  · replace h := h.2 c1
    refine q_aload_n 0 hX dX5_isNext_7 rfl rfl ?_
    refine gf_X5_28 hX h_o dX5_isNext_8 ?_
    refine q_aload_n 0 hX dX5_isNext_11 rfl rfl ?_
    refine gf_X5_15 hX h_o dX5_isNext_12 ?_
    refine q_icmp_ge 35 hX dX5_isNext_15 (by decide) (fun c2 => ?_) (fun c2 => ?_)
    · replace h := h.1 c2
      refine q_iconst (v := 0) hX dX5_isNext_35 (by decide) ?_
      exact q_zret hX dX5_isNext_36 (by decide) ⟨_, rfl, h⟩
    · replace h := h.2 c2
      refine q_aload_n 0 hX dX5_isNext_18 rfl rfl ?_
      refine gf_X5_9 hX h_o dX5_isNext_19 ?_
      refine q_aload_n 0 hX dX5_isNext_22 rfl rfl ?_
      refine gf_X5_28 hX h_o dX5_isNext_23 ?_
      obtain ⟨b3, h⟩ := h
      refine q_iald hX dX5_isNext_26 (rfO_5_0 h_o) b3 ?_
      refine q_iload_n 1 hX dX5_isNext_27 rfl rfl ?_
      refine q_icmp_ne 35 hX dX5_isNext_28 (by decide) (fun c4 => ?_) (fun c4 => ?_)
      · replace h := h.1 c4
        refine q_iconst (v := 0) hX dX5_isNext_35 (by decide) ?_
        exact q_zret hX dX5_isNext_36 (by decide) ⟨_, rfl, h⟩
      · replace h := h.2 c4
        refine q_iconst (v := 1) hX dX5_isNext_31 (by decide) ?_
        refine q_goto 36 hX dX5_isNext_32 (by decide) ?_
        exact q_zret hX dX5_isNext_36 (by decide) ⟨_, rfl, h⟩
set_option maxHeartbeats 4000000 in
set_option maxRecDepth 20000 in
theorem fl_X5_take {d : Nat} {ids : List Nat} {o : Nat} {a0 : Nat} {σ : St} {Q : St → Prop} (h_o : IO ids o 5) (h_a0 : a0 < 10) (H : ∀ (P2 : Int32 → St → Prop) (P47 : Int32 → St → Prop), (∀ (v2 : Int32) (σ : St), (EI d ids Y_J0_length_8abf5 [.ref ((1010 + a0))] σ (fun x2 s1 => ((x2 ≤ v2 → Q s1) ∧ (¬ (x2 ≤ v2) → ((¬ (gi s1 o 4) = 0 → Q s1) ∧ ((gi s1 o 4) = 0 → EI d ids Y_J0_charAt_5068e [.ref ((1010 + a0)), .int v2] s1 (fun x6 s5 => EI d ids Y_X5_isNext [.ref o, .int x6] s5 (fun x8 s7 => ((x8 = 0 → ∀ s10 : St, s10 = si s7 o 4 1 → P47 v2 s10) ∧ (¬ x8 = 0 → ∀ s11 : St, s11 = si s7 o 3 ((gi s7 o 3) + 1) → P47 v2 s11)))))))))) → P2 v2 σ) → (∀ (v2 : Int32) (σ : St), (∀ x12 : Int32, x12 = v2 + 1 → P2 x12 σ) → P47 v2 σ) → P2 0 σ) : EV (d + 1) ids Y_X5_take [.ref o, .ref ((1010 + a0))] σ Q := by
  refine E_mk (by decide) (Nat.le_of_ble_eq_true rfl) (fun X hX => ?_)
  replace hX : Cok X ids 3 cX5_take none (d + 1) RX5 := hX
  show Wg X ids 3 _ 0 [(0, .ref o), (1, .ref ((1010 + a0)))] [] σ
  have h := H (fun (v2 : Int32) (σ : St) => (Wg X ids 3 (fun r σ1 => r = none ∧ Q σ1) 2 [(0, .ref o), (1, .ref ((1010 + a0))), (2, .int v2)] [] σ)) (fun (v2 : Int32) (σ : St) => (Wg X ids 3 (fun r σ1 => r = none ∧ Q σ1) 47 [(0, .ref o), (1, .ref ((1010 + a0))), (2, .int v2)] [] σ))
  replace h := h (fun v2 σ h => by
    refine q_iload_n 2 hX dX5_take_2 rfl rfl ?_
    refine q_aload_n 1 hX dX5_take_3 rfl rfl ?_
    refine cl_X5_42 hX h_a0 dX5_take_4 (Nat.le_of_ble_eq_true rfl) h (fun x2 s1 h => ?_)
    refine q_icmp_ge 53 hX dX5_take_7 (by decide) (fun c3 => ?_) (fun c3 => ?_)
    · replace h := h.1 c3
      exact q_vret hX dX5_take_53 ⟨rfl, h⟩
    · replace h := h.2 c3
      refine q_aload_n 0 hX dX5_take_10 rfl rfl ?_
      refine gf_X5_31 hX h_o dX5_take_11 ?_
      refine q_if_ne 53 hX dX5_take_14 (by decide) (fun c4 => ?_) (fun c4 => ?_)
      · replace h := h.1 c4
        exact q_vret hX dX5_take_53 ⟨rfl, h⟩
      · replace h := h.2 c4
        refine q_aload_n 0 hX dX5_take_17 rfl rfl ?_
        refine q_aload_n 1 hX dX5_take_18 rfl rfl ?_
        refine q_iload_n 2 hX dX5_take_19 rfl rfl ?_
        refine cl_X5_47 hX h_a0 dX5_take_20 (Nat.le_of_ble_eq_true rfl) h (fun x6 s5 h => ?_)
        refine cl_X5_38 hX h_o dX5_take_23 (Nat.le_of_ble_eq_true rfl) h (fun x8 s7 h => ?_)
        refine q_if_eq 42 hX dX5_take_26 (by decide) (fun c9 => ?_) (fun c9 => ?_)
        · replace h := h.1 c9
          refine q_aload_n 0 hX dX5_take_42 rfl rfl ?_
          refine q_iconst (v := 1) hX dX5_take_43 (by decide) ?_
          refine pf_X5_31 hX h_o dX5_take_44 (by decide) ?_
          refine Wg.nmS (fun s10 es10 => ?_)
          replace h := h s10 es10
          exact Wg.sub [0, 1, 2] rfl (h)
        · replace h := h.2 c9
          refine q_aload_n 0 hX dX5_take_29 rfl rfl ?_
          refine q_dup hX dX5_take_30 rfl ?_
          refine gf_X5_28 hX h_o dX5_take_31 ?_
          refine q_iconst (v := 1) hX dX5_take_34 (by decide) ?_
          refine q_iadd hX dX5_take_35 ?_
          refine pf_X5_28 hX h_o dX5_take_36 ?_
          refine Wg.nmS (fun s11 es11 => ?_)
          replace h := h s11 es11
          refine q_goto 47 hX dX5_take_39 (by decide) ?_
          exact Wg.sub [0, 1, 2] rfl (h)
    )
  replace h := h (fun v2 σ h => by
    obtain ⟨x12, ex12⟩ : ∃ z : Int32, z = v2 + 1 := ⟨_, rfl⟩
    replace h := h x12 ex12
    refine q_iinc (v := x12) (L' := [(2, .int x12), (0, .ref o), (1, .ref ((1010 + a0)))]) 2 hX dX5_take_47 rfl (by rw [ex12]; rfl) (by decide) rfl ?_
    refine q_goto 2 hX dX5_take_50 (by decide) ?_
    exact Wg.sub [1, 2, 0] rfl (h)
    )
  refine q_iconst (v := 0) hX dX5_take_0 (by decide) ?_
  refine q_istore_n (L' := [(2, .int 0), (0, .ref o), (1, .ref ((1010 + a0)))]) hX dX5_take_1 rfl (by decide) rfl ?_
  exact Wg.sub [1, 2, 0] rfl (h)
set_option maxHeartbeats 4000000 in
set_option maxRecDepth 20000 in
theorem fl_X5_takeOneOf {d : Nat} {ids : List Nat} {o : Nat} {a0 : Nat} {σ : St} {Q : Int32 → St → Prop} (h_o : IO ids o 5) (h_a0 : a0 < 10) (H : ∀ (P35 : St → Prop) (P36 : Int32 → St → Prop), (∀ (σ : St), (P36 (-1) σ) → P35 σ) → (∀ (t0 : Int32) (σ : St), (((0 ≤ t0 → ∀ s2 : St, s2 = si σ o 3 ((gi σ o 3) + 1) → Q t0 s2) ∧ (¬ (0 ≤ t0) → ∀ s3 : St, s3 = si σ o 4 1 → Q 0 s3))) → P36 t0 σ) → ((¬ (gi σ o 4) = 0 → P35 σ) ∧ ((gi σ o 4) = 0 → (((gi σ o 1) ≤ (gi σ o 3) → P35 σ) ∧ (¬ ((gi σ o 1) ≤ (gi σ o 3)) → vp_in (gi σ o 3) 100 ∧ EI d ids Y_J0_indexOf_0f7a4 [.ref ((1010 + a0)), .int (UInt32.toInt32 (Int32.toUInt32 (gi σ (rf o 0) (Int32.toNatClampNeg (gi σ o 3))) % 65536))] σ (fun x8 s7 => P36 x8 s7)))))) : EI (d + 1) ids Y_X5_takeOneOf [.ref o, .ref ((1010 + a0))] σ Q := by
  refine E_mk (by decide) (Nat.le_of_ble_eq_true rfl) (fun X hX => ?_)
  replace hX : Cok X ids 3 cX5_takeOneOf (some .int) (d + 1) RX5 := hX
  show Wg X ids 3 _ 0 [(0, .ref o), (1, .ref ((1010 + a0)))] [] σ
  have h := H (fun (σ : St) => (Wg X ids 3 (fun r σ1 => ∃ x, r = some (Value.int x) ∧ Q x σ1) 35 [(0, .ref o)] [] σ)) (fun (t0 : Int32) (σ : St) => (Wg X ids 3 (fun r σ1 => ∃ x, r = some (Value.int x) ∧ Q x σ1) 36 [(0, .ref o)] [.int t0] σ))
  replace h := h (fun σ h => by
    refine q_iconst (v := (-1)) hX dX5_takeOneOf_35 (by decide) ?_
    exact Wg.sub [0] rfl (h)
    )
  replace h := h (fun t0 σ h => by
    refine q_istore_n (L' := [(2, .int t0), (0, .ref o)]) hX dX5_takeOneOf_36 rfl (by decide) rfl ?_
    refine q_iload_n 0 hX dX5_takeOneOf_37 rfl rfl ?_
    refine q_if_ge 48 hX dX5_takeOneOf_38 (by decide) (fun c1 => ?_) (fun c1 => ?_)
    · replace h := h.1 c1
      refine q_aload_n 1 hX dX5_takeOneOf_48 rfl rfl ?_
      refine q_dup hX dX5_takeOneOf_49 rfl ?_
      refine gf_X5_28 hX h_o dX5_takeOneOf_50 ?_
      refine q_iconst (v := 1) hX dX5_takeOneOf_53 (by decide) ?_
      refine q_iadd hX dX5_takeOneOf_54 ?_
      refine pf_X5_28 hX h_o dX5_takeOneOf_55 ?_
      refine Wg.nmS (fun s2 es2 => ?_)
      replace h := h s2 es2
      refine q_iload_n 0 hX dX5_takeOneOf_58 rfl rfl ?_
      exact q_ret hX dX5_takeOneOf_59 ⟨_, rfl, h⟩
    · replace h := h.2 c1
      refine q_aload_n 1 hX dX5_takeOneOf_41 rfl rfl ?_
      refine q_iconst (v := 1) hX dX5_takeOneOf_42 (by decide) ?_
      refine pf_X5_31 hX h_o dX5_takeOneOf_43 (by decide) ?_
      refine Wg.nmS (fun s3 es3 => ?_)
      replace h := h s3 es3
      refine q_iconst (v := 0) hX dX5_takeOneOf_46 (by decide) ?_
      exact q_ret hX dX5_takeOneOf_47 ⟨_, rfl, h⟩
    )
  refine q_aload_n 0 hX dX5_takeOneOf_0 rfl rfl ?_
  refine gf_X5_31 hX h_o dX5_takeOneOf_1 ?_
  refine q_if_ne 35 hX dX5_takeOneOf_4 (by decide) (fun c4 => ?_) (fun c4 => ?_)
  · replace h := h.1 c4
    exact Wg.sub [0] rfl (h)
  · replace h := h.2 c4
    refine q_aload_n 0 hX dX5_takeOneOf_7 rfl rfl ?_
    refine gf_X5_28 hX h_o dX5_takeOneOf_8 ?_
    refine q_aload_n 0 hX dX5_takeOneOf_11 rfl rfl ?_
    refine gf_X5_15 hX h_o dX5_takeOneOf_12 ?_
    refine q_icmp_ge 35 hX dX5_takeOneOf_15 (by decide) (fun c5 => ?_) (fun c5 => ?_)
    · replace h := h.1 c5
      exact Wg.sub [0] rfl (h)
    · replace h := h.2 c5
      refine q_aload_n 1 hX dX5_takeOneOf_18 rfl rfl ?_
      refine q_aload_n 0 hX dX5_takeOneOf_19 rfl rfl ?_
      refine gf_X5_9 hX h_o dX5_takeOneOf_20 ?_
      refine q_aload_n 0 hX dX5_takeOneOf_23 rfl rfl ?_
      refine gf_X5_28 hX h_o dX5_takeOneOf_24 ?_
      obtain ⟨b6, h⟩ := h
      refine q_iald hX dX5_takeOneOf_27 (rfO_5_0 h_o) b6 ?_
      refine q_i2c hX dX5_takeOneOf_28 ?_
      refine cl_X5_51 hX h_a0 dX5_takeOneOf_29 (Nat.le_of_ble_eq_true rfl) h (fun x8 s7 h => ?_)
      refine q_goto 36 hX dX5_takeOneOf_32 (by decide) ?_
      exact Wg.sub [0] rfl (h)
set_option maxHeartbeats 4000000 in
set_option maxRecDepth 20000 in
theorem fl_X5_takeClause {d : Nat} {ids : List Nat} {o : Nat} {σ : St} {Q : St → Prop} (h_o : IO ids o 5) (H : ∀ (P18 : St → Prop) (P32 : Int32 → St → Prop) (P45 : Int32 → Nat → St → Prop) (P94 : Int32 → St → Prop) (P108 : Int32 → Nat → St → Prop), (∀ (σ : St), (EI d ids Y_X5_isNext [.ref o, .int 98] σ (fun x2 s1 => ((x2 = 0 → P32 1 s1) ∧ (¬ x2 = 0 → P32 0 s1)))) → P18 σ) → (∀ (t0 : Int32) (σ : St), (((¬ t0 = 0 → P45 t0 1 σ) ∧ (t0 = 0 → P45 t0 0 σ))) → P32 t0 σ) → (∀ (v1 : Int32) (t0 : Nat) (σ : St), (t0 < 10 → EV d ids Y_X5_take [.ref o, .ref ((1010 + t0))] σ (fun s5 => EI d ids Y_X5_takeOneOf [.ref o, .ref ((1010 + 2))] s5 (fun x7 s6 => ∀ x8 : Int32, x8 = (1 + x7) → EV d ids Y_X5_take [.ref o, .ref ((1010 + 3))] s6 (fun s9 => EV d ids Y_X5_takeEither [.ref o, .int 0] s9 (fun s10 => ((dc (gi s10 o 2) = none → False) ∧ (∀ r11 : Nat, dc (gi s10 o 2) = some r11 → IO ids r11 3 ∧ EV d ids Y_X3_addClause [.ref r11, .int v1, .int x8] s10 (fun s12 => Q s12)))))))) → P45 v1 t0 σ) → (∀ (t0 : Int32) (σ : St), (((¬ t0 = 2 → P108 t0 9 σ) ∧ (t0 = 2 → P108 t0 8 σ))) → P94 t0 σ) → (∀ (v1 : Int32) (t0 : Nat) (σ : St), (t0 < 10 → EV d ids Y_X5_take [.ref o, .ref ((1010 + t0))] σ (fun s14 => ((dc (gi s14 o 2) = none → EI d ids Y_X5_takeOneOf [.ref o, .ref ((1010 + 6))] s14 (fun x17 s16 => False)) ∧ (∀ r15 : Nat, dc (gi s14 o 2) = some r15 → IO ids r15 3 ∧ EI d ids Y_X5_takeOneOf [.ref o, .ref ((1010 + 6))] s14 (fun x19 s18 => EV d ids Y_X3_addClause [.ref r15, .int v1, .int x19] s18 (fun s20 => Q s20)))))) → P108 v1 t0 σ) → EI d ids Y_X5_isNext [.ref o, .int 98] σ (fun x22 s21 => ((¬ x22 = 0 → P18 s21) ∧ (x22 = 0 → EI d ids Y_X5_isNext [.ref o, .int 115] s21 (fun x25 s24 => ((x25 = 0 → EI d ids Y_X5_isNext [.ref o, .int 108] s24 (fun x28 s27 => ((x28 = 0 → P94 3 s27) ∧ (¬ x28 = 0 → P94 2 s27)))) ∧ (¬ x25 = 0 → P18 s24))))))) : EV (d + 1) ids Y_X5_takeClause [.ref o] σ Q := by
  refine E_mk (by decide) (Nat.le_of_ble_eq_true rfl) (fun X hX => ?_)
  replace hX : Cok X ids 3 cX5_takeClause none (d + 1) RX5 := hX
  show Wg X ids 3 _ 0 [(0, .ref o)] [] σ
  have h := H (fun (σ : St) => (Wg X ids 3 (fun r σ1 => r = none ∧ Q σ1) 18 [(0, .ref o)] [] σ)) (fun (t0 : Int32) (σ : St) => (Wg X ids 3 (fun r σ1 => r = none ∧ Q σ1) 32 [(0, .ref o)] [.int t0] σ)) (fun (v1 : Int32) (t0 : Nat) (σ : St) => (t0 < 10 → Wg X ids 3 (fun r σ1 => r = none ∧ Q σ1) 45 [(0, .ref o), (1, .int v1)] [.ref ((1010 + t0)), .ref o] σ)) (fun (t0 : Int32) (σ : St) => (Wg X ids 3 (fun r σ1 => r = none ∧ Q σ1) 94 [(0, .ref o)] [.int t0] σ)) (fun (v1 : Int32) (t0 : Nat) (σ : St) => (t0 < 10 → Wg X ids 3 (fun r σ1 => r = none ∧ Q σ1) 108 [(0, .ref o), (1, .int v1)] [.ref ((1010 + t0)), .ref o] σ))
  replace h := h (fun σ h => by
    refine q_aload_n 0 hX dX5_takeClause_18 rfl rfl ?_
    refine q_bipush (v := 98) hX dX5_takeClause_19 (by decide) ?_
    refine cl_X5_38 hX h_o dX5_takeClause_21 (Nat.le_of_ble_eq_true rfl) h (fun x2 s1 h => ?_)
    refine q_if_eq 31 hX dX5_takeClause_24 (by decide) (fun c3 => ?_) (fun c3 => ?_)
    · replace h := h.1 c3
      refine q_iconst (v := 1) hX dX5_takeClause_31 (by decide) ?_
      exact Wg.sub [0] rfl (h)
    · replace h := h.2 c3
      refine q_iconst (v := 0) hX dX5_takeClause_27 (by decide) ?_
      refine q_goto 32 hX dX5_takeClause_28 (by decide) ?_
      exact Wg.sub [0] rfl (h)
    )
  replace h := h (fun t0 σ h => by
    refine q_istore_n (L' := [(1, .int t0), (0, .ref o)]) hX dX5_takeClause_32 rfl (by decide) rfl ?_
    refine q_aload_n 1 hX dX5_takeClause_33 rfl rfl ?_
    refine q_iload_n 0 hX dX5_takeClause_34 rfl rfl ?_
    refine q_if_ne 43 hX dX5_takeClause_35 (by decide) (fun c4 => ?_) (fun c4 => ?_)
    · replace h := h.1 c4
      refine q_ldcS (i := 1) hX dX5_takeClause_43 (by decide) rfl ?_
      exact Wg.sub [1, 0] rfl (h ((by decide)))
    · replace h := h.2 c4
      refine q_ldcS (i := 0) hX dX5_takeClause_38 (by decide) rfl ?_
      refine q_goto 45 hX dX5_takeClause_40 (by decide) ?_
      exact Wg.sub [1, 0] rfl (h ((by decide)))
    )
  replace h := h (fun v1 t0 σ h h_t0 => by
    replace h := h h_t0
    refine cl_X5_59 hX h_o dX5_takeClause_45 (Nat.le_of_ble_eq_true rfl) h (fun s5 h => ?_)
    refine q_iconst (v := 1) hX dX5_takeClause_48 (by decide) ?_
    refine q_aload_n 0 hX dX5_takeClause_49 rfl rfl ?_
    refine q_ldcS (i := 2) hX dX5_takeClause_50 (by decide) rfl ?_
    refine cl_X5_65 hX h_o dX5_takeClause_52 (Nat.le_of_ble_eq_true rfl) h (fun x7 s6 h => ?_)
    refine q_iadd hX dX5_takeClause_55 ?_
    refine Wg.nmI (fun x8 ex8 => ?_)
    replace h := h x8 ex8
    refine q_istore_n (L' := [(2, .int x8), (0, .ref o), (1, .int v1)]) hX dX5_takeClause_56 rfl (by decide) rfl ?_
    refine q_aload_n 1 hX dX5_takeClause_57 rfl rfl ?_
    refine q_ldcS (i := 3) hX dX5_takeClause_58 (by decide) rfl ?_
    refine cl_X5_59 hX h_o dX5_takeClause_60 (Nat.le_of_ble_eq_true rfl) h (fun s9 h => ?_)
    refine q_aload_n 1 hX dX5_takeClause_63 rfl rfl ?_
    refine q_iconst (v := 0) hX dX5_takeClause_64 (by decide) ?_
    refine cl_X5_71 hX h_o dX5_takeClause_65 (Nat.le_of_ble_eq_true rfl) h (fun s10 h => ?_)
    refine q_aload_n 1 hX dX5_takeClause_68 rfl rfl ?_
    refine gf_X5_19 hX h_o dX5_takeClause_69 (fun hn => ?_) (fun r11 h_r11 => ?_)
    · replace h := h.1 hn
      refine q_iload_n 2 hX dX5_takeClause_72 rfl rfl ?_
      refine q_iload_n 0 hX dX5_takeClause_73 rfl rfl ?_
      exact h.elim
    · obtain ⟨h_r11, h⟩ := h.2 r11 h_r11
      refine q_iload_n 2 hX dX5_takeClause_72 rfl rfl ?_
      refine q_iload_n 0 hX dX5_takeClause_73 rfl rfl ?_
      refine cl_X5_75 hX h_r11 dX5_takeClause_74 (Nat.le_of_ble_eq_true rfl) h (fun s12 h => ?_)
      refine q_goto 125 hX dX5_takeClause_77 (by decide) ?_
      exact q_vret hX dX5_takeClause_125 ⟨rfl, h⟩
    )
  replace h := h (fun t0 σ h => by
    refine q_istore_n (L' := [(1, .int t0), (0, .ref o)]) hX dX5_takeClause_94 rfl (by decide) rfl ?_
    refine q_aload_n 1 hX dX5_takeClause_95 rfl rfl ?_
    refine q_iload_n 0 hX dX5_takeClause_96 rfl rfl ?_
    refine q_iconst (v := 2) hX dX5_takeClause_97 (by decide) ?_
    refine q_icmp_ne 106 hX dX5_takeClause_98 (by decide) (fun c13 => ?_) (fun c13 => ?_)
    · replace h := h.1 c13
      refine q_ldcS (i := 9) hX dX5_takeClause_106 (by decide) rfl ?_
      exact Wg.sub [1, 0] rfl (h ((by decide)))
    · replace h := h.2 c13
      refine q_ldcS (i := 8) hX dX5_takeClause_101 (by decide) rfl ?_
      refine q_goto 108 hX dX5_takeClause_103 (by decide) ?_
      exact Wg.sub [1, 0] rfl (h ((by decide)))
    )
  replace h := h (fun v1 t0 σ h h_t0 => by
    replace h := h h_t0
    refine cl_X5_59 hX h_o dX5_takeClause_108 (Nat.le_of_ble_eq_true rfl) h (fun s14 h => ?_)
    refine q_aload_n 0 hX dX5_takeClause_111 rfl rfl ?_
    refine gf_X5_19 hX h_o dX5_takeClause_112 (fun hn => ?_) (fun r15 h_r15 => ?_)
    · replace h := h.1 hn
      refine q_iload_n 1 hX dX5_takeClause_115 rfl rfl ?_
      refine q_aload_n 0 hX dX5_takeClause_116 rfl rfl ?_
      refine q_ldcS (i := 6) hX dX5_takeClause_117 (by decide) rfl ?_
      refine cl_X5_65 hX h_o dX5_takeClause_119 (Nat.le_of_ble_eq_true rfl) h (fun x17 s16 h => ?_)
      exact h.elim
    · obtain ⟨h_r15, h⟩ := h.2 r15 h_r15
      refine q_iload_n 1 hX dX5_takeClause_115 rfl rfl ?_
      refine q_aload_n 0 hX dX5_takeClause_116 rfl rfl ?_
      refine q_ldcS (i := 6) hX dX5_takeClause_117 (by decide) rfl ?_
      refine cl_X5_65 hX h_o dX5_takeClause_119 (Nat.le_of_ble_eq_true rfl) h (fun x19 s18 h => ?_)
      refine cl_X5_75 hX h_r15 dX5_takeClause_122 (Nat.le_of_ble_eq_true rfl) h (fun s20 h => ?_)
      exact q_vret hX dX5_takeClause_125 ⟨rfl, h⟩
    )
  refine q_aload_n 0 hX dX5_takeClause_0 rfl rfl ?_
  refine q_bipush (v := 98) hX dX5_takeClause_1 (by decide) ?_
  refine cl_X5_38 hX h_o dX5_takeClause_3 (Nat.le_of_ble_eq_true rfl) h (fun x22 s21 h => ?_)
  refine q_if_ne 18 hX dX5_takeClause_6 (by decide) (fun c23 => ?_) (fun c23 => ?_)
  · replace h := h.1 c23
    exact Wg.sub [0] rfl (h)
  · replace h := h.2 c23
    refine q_aload_n 0 hX dX5_takeClause_9 rfl rfl ?_
    refine q_bipush (v := 115) hX dX5_takeClause_10 (by decide) ?_
    refine cl_X5_38 hX h_o dX5_takeClause_12 (Nat.le_of_ble_eq_true rfl) h (fun x25 s24 h => ?_)
    refine q_if_eq 80 hX dX5_takeClause_15 (by decide) (fun c26 => ?_) (fun c26 => ?_)
    · replace h := h.1 c26
      refine q_aload_n 0 hX dX5_takeClause_80 rfl rfl ?_
      refine q_bipush (v := 108) hX dX5_takeClause_81 (by decide) ?_
      refine cl_X5_38 hX h_o dX5_takeClause_83 (Nat.le_of_ble_eq_true rfl) h (fun x28 s27 h => ?_)
      refine q_if_eq 93 hX dX5_takeClause_86 (by decide) (fun c29 => ?_) (fun c29 => ?_)
      · replace h := h.1 c29
        refine q_iconst (v := 3) hX dX5_takeClause_93 (by decide) ?_
        exact Wg.sub [0] rfl (h)
      · replace h := h.2 c29
        refine q_iconst (v := 2) hX dX5_takeClause_89 (by decide) ?_
        refine q_goto 94 hX dX5_takeClause_90 (by decide) ?_
        exact Wg.sub [0] rfl (h)
    · replace h := h.2 c26
      exact Wg.sub [0] rfl (h)
set_option maxHeartbeats 4000000 in
set_option maxRecDepth 20000 in
theorem fl_X5_takeEither {d : Nat} {ids : List Nat} {o : Nat} {a0 : Int32} {σ : St} {Q : St → Prop} (h_o : IO ids o 5) (H : ∀ (P8 : Int32 → St → Prop), (∀ (v2 : Int32) (σ : St), (((v2 ≤ 0 → Q σ) ∧ (¬ (v2 ≤ 0) → EI d ids Y_X5_isNext [.ref o, .int 124] σ (fun x3 s2 => ((x3 = 0 → Q s2) ∧ (¬ x3 = 0 → ∀ s5 : St, s5 = si s2 o 3 ((gi s2 o 3) + 1) → EV d ids Y_X5_takeBoth [.ref o, .int a0] s5 (fun s6 => ((dc (gi s6 o 2) = none → False) ∧ (∀ r7 : Nat, dc (gi s6 o 2) = some r7 → IO ids r7 3 ∧ EV d ids Y_X3_addStep [.ref r7, .int (-2)] s6 (fun s8 => ∀ x9 : Int32, x9 = v2 + (-1) → P8 x9 s8)))))))))) → P8 v2 σ) → EV d ids Y_X5_takeBoth [.ref o, .int a0] σ (fun s10 => P8 100 s10)) : EV (d + 1) ids Y_X5_takeEither [.ref o, .int a0] σ Q := by
  refine E_mk (by decide) (Nat.le_of_ble_eq_true rfl) (fun X hX => ?_)
  replace hX : Cok X ids 3 cX5_takeEither none (d + 1) RX5 := hX
  show Wg X ids 3 _ 0 [(0, .ref o), (1, .int a0)] [] σ
  have h := H (fun (v2 : Int32) (σ : St) => (Wg X ids 3 (fun r σ1 => r = none ∧ Q σ1) 8 [(0, .ref o), (1, .int a0), (2, .int v2)] [] σ))
  replace h := h (fun v2 σ h => by
    refine q_iload_n 2 hX dX5_takeEither_8 rfl rfl ?_
    refine q_if_le 51 hX dX5_takeEither_9 (by decide) (fun c1 => ?_) (fun c1 => ?_)
    · replace h := h.1 c1
      exact q_vret hX dX5_takeEither_51 ⟨rfl, h⟩
    · replace h := h.2 c1
      refine q_aload_n 0 hX dX5_takeEither_12 rfl rfl ?_
      refine q_bipush (v := 124) hX dX5_takeEither_13 (by decide) ?_
      refine cl_X5_38 hX h_o dX5_takeEither_15 (Nat.le_of_ble_eq_true rfl) h (fun x3 s2 h => ?_)
      refine q_if_eq 51 hX dX5_takeEither_18 (by decide) (fun c4 => ?_) (fun c4 => ?_)
      · replace h := h.1 c4
        exact q_vret hX dX5_takeEither_51 ⟨rfl, h⟩
      · replace h := h.2 c4
        refine q_aload_n 0 hX dX5_takeEither_21 rfl rfl ?_
        refine q_dup hX dX5_takeEither_22 rfl ?_
        refine gf_X5_28 hX h_o dX5_takeEither_23 ?_
        refine q_iconst (v := 1) hX dX5_takeEither_26 (by decide) ?_
        refine q_iadd hX dX5_takeEither_27 ?_
        refine pf_X5_28 hX h_o dX5_takeEither_28 ?_
        refine Wg.nmS (fun s5 es5 => ?_)
        replace h := h s5 es5
        refine q_aload_n 0 hX dX5_takeEither_31 rfl rfl ?_
        refine q_iload_n 1 hX dX5_takeEither_32 rfl rfl ?_
        refine cl_X5_85 hX h_o dX5_takeEither_33 (Nat.le_of_ble_eq_true rfl) h (fun s6 h => ?_)
        refine q_aload_n 0 hX dX5_takeEither_36 rfl rfl ?_
        refine gf_X5_19 hX h_o dX5_takeEither_37 (fun hn => ?_) (fun r7 h_r7 => ?_)
        · replace h := h.1 hn
          refine q_bipush (v := (-2)) hX dX5_takeEither_40 (by decide) ?_
          exact h.elim
        · obtain ⟨h_r7, h⟩ := h.2 r7 h_r7
          refine q_bipush (v := (-2)) hX dX5_takeEither_40 (by decide) ?_
          refine cl_X5_88 hX h_r7 dX5_takeEither_42 (Nat.le_of_ble_eq_true rfl) h (fun s8 h => ?_)
          obtain ⟨x9, ex9⟩ : ∃ z : Int32, z = v2 + (-1) := ⟨_, rfl⟩
          replace h := h x9 ex9
          refine q_iinc (v := x9) (L' := [(2, .int x9), (0, .ref o), (1, .int a0)]) 2 hX dX5_takeEither_45 rfl (by rw [ex9]; rfl) (by decide) rfl ?_
          refine q_goto 8 hX dX5_takeEither_48 (by decide) ?_
          exact Wg.sub [1, 2, 0] rfl (h)
    )
  refine q_aload_n 0 hX dX5_takeEither_0 rfl rfl ?_
  refine q_iload_n 1 hX dX5_takeEither_1 rfl rfl ?_
  refine cl_X5_85 hX h_o dX5_takeEither_2 (Nat.le_of_ble_eq_true rfl) h (fun s10 h => ?_)
  refine q_bipush (v := 100) hX dX5_takeEither_5 (by decide) ?_
  refine q_istore_n (L' := [(2, .int 100), (0, .ref o), (1, .int a0)]) hX dX5_takeEither_7 rfl (by decide) rfl ?_
  exact Wg.sub [1, 2, 0] rfl (h)
set_option maxHeartbeats 4000000 in
set_option maxRecDepth 20000 in
theorem fl_X5_takeBoth {d : Nat} {ids : List Nat} {o : Nat} {a0 : Int32} {σ : St} {Q : St → Prop} (h_o : IO ids o 5) (H : ∀ (P8 : Int32 → St → Prop), (∀ (v2 : Int32) (σ : St), (((v2 ≤ 0 → Q σ) ∧ (¬ (v2 ≤ 0) → EI d ids Y_X5_isNext [.ref o, .int 38] σ (fun x3 s2 => ((x3 = 0 → Q s2) ∧ (¬ x3 = 0 → ∀ s5 : St, s5 = si s2 o 3 ((gi s2 o 3) + 1) → EV d ids Y_X5_takePart [.ref o, .int a0] s5 (fun s6 => ((dc (gi s6 o 2) = none → False) ∧ (∀ r7 : Nat, dc (gi s6 o 2) = some r7 → IO ids r7 3 ∧ EV d ids Y_X3_addStep [.ref r7, .int (-1)] s6 (fun s8 => ∀ x9 : Int32, x9 = v2 + (-1) → P8 x9 s8)))))))))) → P8 v2 σ) → EV d ids Y_X5_takePart [.ref o, .int a0] σ (fun s10 => P8 100 s10)) : EV (d + 1) ids Y_X5_takeBoth [.ref o, .int a0] σ Q := by
  refine E_mk (by decide) (Nat.le_of_ble_eq_true rfl) (fun X hX => ?_)
  replace hX : Cok X ids 3 cX5_takeBoth none (d + 1) RX5 := hX
  show Wg X ids 3 _ 0 [(0, .ref o), (1, .int a0)] [] σ
  have h := H (fun (v2 : Int32) (σ : St) => (Wg X ids 3 (fun r σ1 => r = none ∧ Q σ1) 8 [(0, .ref o), (1, .int a0), (2, .int v2)] [] σ))
  replace h := h (fun v2 σ h => by
    refine q_iload_n 2 hX dX5_takeBoth_8 rfl rfl ?_
    refine q_if_le 50 hX dX5_takeBoth_9 (by decide) (fun c1 => ?_) (fun c1 => ?_)
    · replace h := h.1 c1
      exact q_vret hX dX5_takeBoth_50 ⟨rfl, h⟩
    · replace h := h.2 c1
      refine q_aload_n 0 hX dX5_takeBoth_12 rfl rfl ?_
      refine q_bipush (v := 38) hX dX5_takeBoth_13 (by decide) ?_
      refine cl_X5_38 hX h_o dX5_takeBoth_15 (Nat.le_of_ble_eq_true rfl) h (fun x3 s2 h => ?_)
      refine q_if_eq 50 hX dX5_takeBoth_18 (by decide) (fun c4 => ?_) (fun c4 => ?_)
      · replace h := h.1 c4
        exact q_vret hX dX5_takeBoth_50 ⟨rfl, h⟩
      · replace h := h.2 c4
        refine q_aload_n 0 hX dX5_takeBoth_21 rfl rfl ?_
        refine q_dup hX dX5_takeBoth_22 rfl ?_
        refine gf_X5_28 hX h_o dX5_takeBoth_23 ?_
        refine q_iconst (v := 1) hX dX5_takeBoth_26 (by decide) ?_
        refine q_iadd hX dX5_takeBoth_27 ?_
        refine pf_X5_28 hX h_o dX5_takeBoth_28 ?_
        refine Wg.nmS (fun s5 es5 => ?_)
        replace h := h s5 es5
        refine q_aload_n 0 hX dX5_takeBoth_31 rfl rfl ?_
        refine q_iload_n 1 hX dX5_takeBoth_32 rfl rfl ?_
        refine cl_X5_91 hX h_o dX5_takeBoth_33 (Nat.le_of_ble_eq_true rfl) h (fun s6 h => ?_)
        refine q_aload_n 0 hX dX5_takeBoth_36 rfl rfl ?_
        refine gf_X5_19 hX h_o dX5_takeBoth_37 (fun hn => ?_) (fun r7 h_r7 => ?_)
        · replace h := h.1 hn
          refine q_iconst (v := (-1)) hX dX5_takeBoth_40 (by decide) ?_
          exact h.elim
        · obtain ⟨h_r7, h⟩ := h.2 r7 h_r7
          refine q_iconst (v := (-1)) hX dX5_takeBoth_40 (by decide) ?_
          refine cl_X5_88 hX h_r7 dX5_takeBoth_41 (Nat.le_of_ble_eq_true rfl) h (fun s8 h => ?_)
          obtain ⟨x9, ex9⟩ : ∃ z : Int32, z = v2 + (-1) := ⟨_, rfl⟩
          replace h := h x9 ex9
          refine q_iinc (v := x9) (L' := [(2, .int x9), (0, .ref o), (1, .int a0)]) 2 hX dX5_takeBoth_44 rfl (by rw [ex9]; rfl) (by decide) rfl ?_
          refine q_goto 8 hX dX5_takeBoth_47 (by decide) ?_
          exact Wg.sub [1, 2, 0] rfl (h)
    )
  refine q_aload_n 0 hX dX5_takeBoth_0 rfl rfl ?_
  refine q_iload_n 1 hX dX5_takeBoth_1 rfl rfl ?_
  refine cl_X5_91 hX h_o dX5_takeBoth_2 (Nat.le_of_ble_eq_true rfl) h (fun s10 h => ?_)
  refine q_bipush (v := 100) hX dX5_takeBoth_5 (by decide) ?_
  refine q_istore_n (L' := [(2, .int 100), (0, .ref o), (1, .int a0)]) hX dX5_takeBoth_7 rfl (by decide) rfl ?_
  exact Wg.sub [1, 2, 0] rfl (h)
set_option maxHeartbeats 4000000 in
set_option maxRecDepth 20000 in
theorem fl_X5_takePart {d : Nat} {ids : List Nat} {o : Nat} {a0 : Int32} {σ : St} {Q : St → Prop} (h_o : IO ids o 5) (H : ∀ (P27 : Int32 → St → Prop), (∀ (v2 : Int32) (σ : St), (((a0 < 4 → ((v2 = 0 → ∀ s3 : St, s3 = si σ o 3 ((gi σ o 3) + 1) → EV d ids Y_X5_takeEither [.ref o, .int (a0 + 1)] s3 (fun s4 => EV d ids Y_X5_take [.ref o, .ref ((1010 + 7))] s4 (fun s5 => Q s5))) ∧ (¬ v2 = 0 → ∀ s6 : St, s6 = si σ o 3 ((gi σ o 3) + 1) → EV d ids Y_X5_takePart [.ref o, .int (a0 + 1)] s6 (fun s7 => ((dc (gi s7 o 2) = none → False) ∧ (∀ r8 : Nat, dc (gi s7 o 2) = some r8 → IO ids r8 3 ∧ EV d ids Y_X3_addStep [.ref r8, .int (-3)] s7 (fun s9 => Q s9))))))) ∧ (¬ (a0 < 4) → ∀ s10 : St, s10 = si σ o 4 1 → Q s10))) → P27 v2 σ) → EI d ids Y_X5_isNext [.ref o, .int 33] σ (fun x12 s11 => ((¬ x12 = 0 → P27 x12 s11) ∧ (x12 = 0 → EI d ids Y_X5_isNext [.ref o, .int 40] s11 (fun x15 s14 => ((¬ x15 = 0 → P27 x12 s14) ∧ (x15 = 0 → EV d ids Y_X5_takeTest [.ref o] s14 (fun s17 => Q s17)))))))) : EV (d + 1) ids Y_X5_takePart [.ref o, .int a0] σ Q := by
  refine E_mk (by decide) (Nat.le_of_ble_eq_true rfl) (fun X hX => ?_)
  replace hX : Cok X ids 3 cX5_takePart none (d + 1) RX5 := hX
  show Wg X ids 3 _ 0 [(0, .ref o), (1, .int a0)] [] σ
  have h := H (fun (v2 : Int32) (σ : St) => (Wg X ids 3 (fun r σ1 => r = none ∧ Q σ1) 27 [(0, .ref o), (1, .int a0), (2, .int v2)] [] σ))
  replace h := h (fun v2 σ h => by
    refine q_iload_n 1 hX dX5_takePart_27 rfl rfl ?_
    refine q_iconst (v := 4) hX dX5_takePart_28 (by decide) ?_
    refine q_icmp_lt 40 hX dX5_takePart_29 (by decide) (fun c1 => ?_) (fun c1 => ?_)
    · replace h := h.1 c1
      refine q_iload_n 2 hX dX5_takePart_40 rfl rfl ?_
      refine q_if_eq 73 hX dX5_takePart_41 (by decide) (fun c2 => ?_) (fun c2 => ?_)
      · replace h := h.1 c2
        refine q_aload_n 0 hX dX5_takePart_73 rfl rfl ?_
        refine q_dup hX dX5_takePart_74 rfl ?_
        refine gf_X5_28 hX h_o dX5_takePart_75 ?_
        refine q_iconst (v := 1) hX dX5_takePart_78 (by decide) ?_
        refine q_iadd hX dX5_takePart_79 ?_
        refine pf_X5_28 hX h_o dX5_takePart_80 ?_
        refine Wg.nmS (fun s3 es3 => ?_)
        replace h := h s3 es3
        refine q_aload_n 0 hX dX5_takePart_83 rfl rfl ?_
        refine q_iload_n 1 hX dX5_takePart_84 rfl rfl ?_
        refine q_iconst (v := 1) hX dX5_takePart_85 (by decide) ?_
        refine q_iadd hX dX5_takePart_86 ?_
        refine cl_X5_71 hX h_o dX5_takePart_87 (Nat.le_of_ble_eq_true rfl) h (fun s4 h => ?_)
        refine q_aload_n 0 hX dX5_takePart_90 rfl rfl ?_
        refine q_ldcS (i := 7) hX dX5_takePart_91 (by decide) rfl ?_
        refine cl_X5_59 hX h_o dX5_takePart_93 (Nat.le_of_ble_eq_true rfl) h (fun s5 h => ?_)
        exact q_vret hX dX5_takePart_96 ⟨rfl, h⟩
      · replace h := h.2 c2
        refine q_aload_n 0 hX dX5_takePart_44 rfl rfl ?_
        refine q_dup hX dX5_takePart_45 rfl ?_
        refine gf_X5_28 hX h_o dX5_takePart_46 ?_
        refine q_iconst (v := 1) hX dX5_takePart_49 (by decide) ?_
        refine q_iadd hX dX5_takePart_50 ?_
        refine pf_X5_28 hX h_o dX5_takePart_51 ?_
        refine Wg.nmS (fun s6 es6 => ?_)
        replace h := h s6 es6
        refine q_aload_n 0 hX dX5_takePart_54 rfl rfl ?_
        refine q_iload_n 1 hX dX5_takePart_55 rfl rfl ?_
        refine q_iconst (v := 1) hX dX5_takePart_56 (by decide) ?_
        refine q_iadd hX dX5_takePart_57 ?_
        refine cl_X5_91 hX h_o dX5_takePart_58 (Nat.le_of_ble_eq_true rfl) h (fun s7 h => ?_)
        refine q_aload_n 0 hX dX5_takePart_61 rfl rfl ?_
        refine gf_X5_19 hX h_o dX5_takePart_62 (fun hn => ?_) (fun r8 h_r8 => ?_)
        · replace h := h.1 hn
          refine q_bipush (v := (-3)) hX dX5_takePart_65 (by decide) ?_
          exact h.elim
        · obtain ⟨h_r8, h⟩ := h.2 r8 h_r8
          refine q_bipush (v := (-3)) hX dX5_takePart_65 (by decide) ?_
          refine cl_X5_88 hX h_r8 dX5_takePart_67 (Nat.le_of_ble_eq_true rfl) h (fun s9 h => ?_)
          refine q_goto 96 hX dX5_takePart_70 (by decide) ?_
          exact q_vret hX dX5_takePart_96 ⟨rfl, h⟩
    · replace h := h.2 c1
      refine q_aload_n 0 hX dX5_takePart_32 rfl rfl ?_
      refine q_iconst (v := 1) hX dX5_takePart_33 (by decide) ?_
      refine pf_X5_31 hX h_o dX5_takePart_34 (by decide) ?_
      refine Wg.nmS (fun s10 es10 => ?_)
      replace h := h s10 es10
      refine q_goto 96 hX dX5_takePart_37 (by decide) ?_
      exact q_vret hX dX5_takePart_96 ⟨rfl, h⟩
    )
  refine q_aload_n 0 hX dX5_takePart_0 rfl rfl ?_
  refine q_bipush (v := 33) hX dX5_takePart_1 (by decide) ?_
  refine cl_X5_38 hX h_o dX5_takePart_3 (Nat.le_of_ble_eq_true rfl) h (fun x12 s11 h => ?_)
  refine q_istore_n (L' := [(2, .int x12), (0, .ref o), (1, .int a0)]) hX dX5_takePart_6 rfl (by decide) rfl ?_
  refine q_iload_n 0 hX dX5_takePart_7 rfl rfl ?_
  refine q_if_ne 27 hX dX5_takePart_8 (by decide) (fun c13 => ?_) (fun c13 => ?_)
  · replace h := h.1 c13
    exact Wg.sub [1, 2, 0] rfl (h)
  · replace h := h.2 c13
    refine q_aload_n 1 hX dX5_takePart_11 rfl rfl ?_
    refine q_bipush (v := 40) hX dX5_takePart_12 (by decide) ?_
    refine cl_X5_38 hX h_o dX5_takePart_14 (Nat.le_of_ble_eq_true rfl) h (fun x15 s14 h => ?_)
    refine q_if_ne 27 hX dX5_takePart_17 (by decide) (fun c16 => ?_) (fun c16 => ?_)
    · replace h := h.1 c16
      exact Wg.sub [1, 2, 0] rfl (h)
    · replace h := h.2 c16
      refine q_aload_n 1 hX dX5_takePart_20 rfl rfl ?_
      refine cl_X5_94 hX h_o dX5_takePart_21 (Nat.le_of_ble_eq_true rfl) h (fun s17 h => ?_)
      refine q_goto 96 hX dX5_takePart_24 (by decide) ?_
      exact q_vret hX dX5_takePart_96 ⟨rfl, h⟩
set_option maxHeartbeats 4000000 in
set_option maxRecDepth 20000 in
theorem fl_X5_takeTest {d : Nat} {ids : List Nat} {o : Nat} {σ : St} {Q : St → Prop} (h_o : IO ids o 5) (H : ∀ (P95 : Int32 → Int32 → Int32 → St → Prop), (∀ (v1 : Int32) (v2 : Int32) (v3 : Int32) (σ : St), (((dc (gi σ o 2) = none → False) ∧ (∀ r1 : Nat, dc (gi σ o 2) = some r1 → IO ids r1 3 ∧ EV d ids Y_X3_addTest [.ref r1, .int v1, .int v2, .int v3] σ (fun s2 => Q s2)))) → P95 v1 v2 v3 σ) → EI d ids Y_X5_takeOneOf [.ref o, .ref ((1010 + 4))] σ (fun x4 s3 => EI d ids Y_X5_takeOneOf [.ref o, .ref ((1010 + 5))] s3 (fun x6 s5 => EI d ids Y_X5_takeOneOf [.ref o, .ref ((1010 + 6))] s5 (fun x8 s7 => ((¬ (gi s7 o 4) = 0 → P95 x4 x6 x8 s7) ∧ ((gi s7 o 4) = 0 → (((gi s7 o 1) ≤ (gi s7 o 3) → P95 x4 x6 x8 s7) ∧ (¬ ((gi s7 o 1) ≤ (gi s7 o 3)) → vp_in (gi s7 o 3) 100 ∧ (((gi s7 (rf o 0) (Int32.toNatClampNeg (gi s7 o 3))) < 48 → P95 x4 x6 x8 s7) ∧ (¬ ((gi s7 (rf o 0) (Int32.toNatClampNeg (gi s7 o 3))) < 48) → vp_in (gi s7 o 3) 100 ∧ ((57 < (gi s7 (rf o 0) (Int32.toNatClampNeg (gi s7 o 3))) → P95 x4 x6 x8 s7) ∧ (¬ (57 < (gi s7 (rf o 0) (Int32.toNatClampNeg (gi s7 o 3)))) → vp_in (gi s7 o 3) 100 ∧ ∀ x16 : Int32, x16 = (((10 * x8) + (gi s7 (rf o 0) (Int32.toNatClampNeg (gi s7 o 3)))) - 48) → ∀ s17 : St, s17 = si s7 o 3 ((gi s7 o 3) + 1) → P95 x4 x6 x16 s17)))))))))))) : EV (d + 1) ids Y_X5_takeTest [.ref o] σ Q := by
  refine E_mk (by decide) (Nat.le_of_ble_eq_true rfl) (fun X hX => ?_)
  replace hX : Cok X ids 4 cX5_takeTest none (d + 1) RX5 := hX
  show Wg X ids 4 _ 0 [(0, .ref o)] [] σ
  have h := H (fun (v1 : Int32) (v2 : Int32) (v3 : Int32) (σ : St) => (Wg X ids 4 (fun r σ1 => r = none ∧ Q σ1) 95 [(0, .ref o), (1, .int v1), (2, .int v2), (3, .int v3)] [] σ))
  replace h := h (fun v1 v2 v3 σ h => by
    refine q_aload_n 0 hX dX5_takeTest_95 rfl rfl ?_
    refine gf_X5_19 hX h_o dX5_takeTest_96 (fun hn => ?_) (fun r1 h_r1 => ?_)
    · replace h := h.1 hn
      refine q_iload_n 1 hX dX5_takeTest_99 rfl rfl ?_
      refine q_iload_n 2 hX dX5_takeTest_100 rfl rfl ?_
      refine q_iload_n 3 hX dX5_takeTest_101 rfl rfl ?_
      exact h.elim
    · obtain ⟨h_r1, h⟩ := h.2 r1 h_r1
      refine q_iload_n 1 hX dX5_takeTest_99 rfl rfl ?_
      refine q_iload_n 2 hX dX5_takeTest_100 rfl rfl ?_
      refine q_iload_n 3 hX dX5_takeTest_101 rfl rfl ?_
      refine cl_X5_103 hX h_r1 dX5_takeTest_102 (Nat.le_of_ble_eq_true rfl) h (fun s2 h => ?_)
      exact q_vret hX dX5_takeTest_105 ⟨rfl, h⟩
    )
  refine q_aload_n 0 hX dX5_takeTest_0 rfl rfl ?_
  refine q_ldcS (i := 4) hX dX5_takeTest_1 (by decide) rfl ?_
  refine cl_X5_65 hX h_o dX5_takeTest_3 (Nat.le_of_ble_eq_true rfl) h (fun x4 s3 h => ?_)
  refine q_istore_n (L' := [(1, .int x4), (0, .ref o)]) hX dX5_takeTest_6 rfl (by decide) rfl ?_
  refine q_aload_n 1 hX dX5_takeTest_7 rfl rfl ?_
  refine q_ldcS (i := 5) hX dX5_takeTest_8 (by decide) rfl ?_
  refine cl_X5_65 hX h_o dX5_takeTest_10 (Nat.le_of_ble_eq_true rfl) h (fun x6 s5 h => ?_)
  refine q_istore_n (L' := [(2, .int x6), (1, .int x4), (0, .ref o)]) hX dX5_takeTest_13 rfl (by decide) rfl ?_
  refine q_aload_n 2 hX dX5_takeTest_14 rfl rfl ?_
  refine q_ldcS (i := 6) hX dX5_takeTest_15 (by decide) rfl ?_
  refine cl_X5_65 hX h_o dX5_takeTest_17 (Nat.le_of_ble_eq_true rfl) h (fun x8 s7 h => ?_)
  refine q_istore_n (L' := [(3, .int x8), (2, .int x6), (1, .int x4), (0, .ref o)]) hX dX5_takeTest_20 rfl (by decide) rfl ?_
  refine q_aload_n 3 hX dX5_takeTest_21 rfl rfl ?_
  refine gf_X5_31 hX h_o dX5_takeTest_22 ?_
  refine q_if_ne 95 hX dX5_takeTest_25 (by decide) (fun c9 => ?_) (fun c9 => ?_)
  · replace h := h.1 c9
    exact Wg.sub [3, 2, 1, 0] rfl (h)
  · replace h := h.2 c9
    refine q_aload_n 3 hX dX5_takeTest_28 rfl rfl ?_
    refine gf_X5_28 hX h_o dX5_takeTest_29 ?_
    refine q_aload_n 3 hX dX5_takeTest_32 rfl rfl ?_
    refine gf_X5_15 hX h_o dX5_takeTest_33 ?_
    refine q_icmp_ge 95 hX dX5_takeTest_36 (by decide) (fun c10 => ?_) (fun c10 => ?_)
    · replace h := h.1 c10
      exact Wg.sub [3, 2, 1, 0] rfl (h)
    · replace h := h.2 c10
      refine q_aload_n 3 hX dX5_takeTest_39 rfl rfl ?_
      refine gf_X5_9 hX h_o dX5_takeTest_40 ?_
      refine q_aload_n 3 hX dX5_takeTest_43 rfl rfl ?_
      refine gf_X5_28 hX h_o dX5_takeTest_44 ?_
      obtain ⟨b11, h⟩ := h
      refine q_iald hX dX5_takeTest_47 (rfO_5_0 h_o) b11 ?_
      refine q_bipush (v := 48) hX dX5_takeTest_48 (by decide) ?_
      refine q_icmp_lt 95 hX dX5_takeTest_50 (by decide) (fun c12 => ?_) (fun c12 => ?_)
      · replace h := h.1 c12
        exact Wg.sub [3, 2, 1, 0] rfl (h)
      · replace h := h.2 c12
        refine q_aload_n 3 hX dX5_takeTest_53 rfl rfl ?_
        refine gf_X5_9 hX h_o dX5_takeTest_54 ?_
        refine q_aload_n 3 hX dX5_takeTest_57 rfl rfl ?_
        refine gf_X5_28 hX h_o dX5_takeTest_58 ?_
        obtain ⟨b13, h⟩ := h
        refine q_iald hX dX5_takeTest_61 (rfO_5_0 h_o) b13 ?_
        refine q_bipush (v := 57) hX dX5_takeTest_62 (by decide) ?_
        refine q_icmp_gt 95 hX dX5_takeTest_64 (by decide) (fun c14 => ?_) (fun c14 => ?_)
        · replace h := h.1 c14
          exact Wg.sub [3, 2, 1, 0] rfl (h)
        · replace h := h.2 c14
          refine q_bipush (v := 10) hX dX5_takeTest_67 (by decide) ?_
          refine q_iload_n 0 hX dX5_takeTest_69 rfl rfl ?_
          refine q_imul hX dX5_takeTest_70 ?_
          refine q_aload_n 3 hX dX5_takeTest_71 rfl rfl ?_
          refine gf_X5_9 hX h_o dX5_takeTest_72 ?_
          refine q_aload_n 3 hX dX5_takeTest_75 rfl rfl ?_
          refine gf_X5_28 hX h_o dX5_takeTest_76 ?_
          obtain ⟨b15, h⟩ := h
          refine q_iald hX dX5_takeTest_79 (rfO_5_0 h_o) b15 ?_
          refine q_iadd hX dX5_takeTest_80 ?_
          refine q_bipush (v := 48) hX dX5_takeTest_81 (by decide) ?_
          refine q_isub hX dX5_takeTest_83 ?_
          refine Wg.nmI (fun x16 ex16 => ?_)
          replace h := h x16 ex16
          refine q_istore_n (L' := [(3, .int x16), (2, .int x6), (1, .int x4), (0, .ref o)]) hX dX5_takeTest_84 rfl (by decide) rfl ?_
          refine q_aload_n 3 hX dX5_takeTest_85 rfl rfl ?_
          refine q_dup hX dX5_takeTest_86 rfl ?_
          refine gf_X5_28 hX h_o dX5_takeTest_87 ?_
          refine q_iconst (v := 1) hX dX5_takeTest_90 (by decide) ?_
          refine q_iadd hX dX5_takeTest_91 ?_
          refine pf_X5_28 hX h_o dX5_takeTest_92 ?_
          refine Wg.nmS (fun s17 es17 => ?_)
          replace h := h s17 es17
          exact Wg.sub [3, 2, 1, 0] rfl (h)
