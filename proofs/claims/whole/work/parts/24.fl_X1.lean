/-! formulas of the methods: if the formula holds, the contract does -/
set_option maxHeartbeats 4000000 in
set_option maxRecDepth 20000 in
theorem fl_X1_oughtToHave {d : Nat} {ids : List Nat} {o : Nat} {a0 : Nat} {σ : St} {Q : Int32 → St → Prop} (h_o : IO ids o 1) (h_a0 : IA ids a0 0 5) (H : (((gi σ (rf (rf o 1) (Int32.toNatClampNeg 2)) (Int32.toNatClampNeg 0)) < 5 → Q 0 σ) ∧ (¬ ((gi σ (rf (rf o 1) (Int32.toNatClampNeg 2)) (Int32.toNatClampNeg 0)) < 5) → EI d ids Y_X1_standsUp [.ref o, .ref a0, .int 0] σ (fun x3 s2 => ((x3 = 0 → Q 0 s2) ∧ (¬ x3 = 0 → Q 1 s2)))))) : EI (d + 1) ids Y_X1_oughtToHave [.ref o, .ref a0] σ Q := by
  refine E_mk (by decide) (Nat.le_of_ble_eq_true rfl) (fun X hX => ?_)
  replace hX : Cok X ids 2 cX1_oughtToHave (some .boolean) (d + 1) RX1 := hX
  show Wg X ids 2 _ 0 [(0, .ref o), (1, .ref a0)] [] σ
  have h := H
  refine q_aload_n 0 hX dX1_oughtToHave_0 rfl rfl ?_
  refine gf_X1_11 hX h_o dX1_oughtToHave_1 ?_
  refine q_iconst (v := 2) hX dX1_oughtToHave_4 (by decide) ?_
  refine q_aald (by decide) hX dX1_oughtToHave_5 (rfO_1_1 h_o) (vp_dec (by decide)) ?_
  refine q_iconst (v := 0) hX dX1_oughtToHave_6 (by decide) ?_
  refine q_iald hX dX1_oughtToHave_7 (rfA_6 (rfO_1_1 h_o) (vp_dec (by decide))) (vp_dec (by decide)) ?_
  refine q_iconst (v := 5) hX dX1_oughtToHave_8 (by decide) ?_
  refine q_icmp_lt 25 hX dX1_oughtToHave_9 (by decide) (fun c1 => ?_) (fun c1 => ?_)
  · replace h := h.1 c1
    refine q_iconst (v := 0) hX dX1_oughtToHave_25 (by decide) ?_
    exact q_zret hX dX1_oughtToHave_26 (by decide) ⟨_, rfl, h⟩
  · replace h := h.2 c1
    refine q_aload_n 0 hX dX1_oughtToHave_12 rfl rfl ?_
    refine q_aload_n 1 hX dX1_oughtToHave_13 rfl rfl ?_
    refine q_iconst (v := 0) hX dX1_oughtToHave_14 (by decide) ?_
    refine cl_X1_20 hX h_o dX1_oughtToHave_15 (Nat.le_of_ble_eq_true rfl) h (fun x3 s2 h => ?_)
    refine q_if_eq 25 hX dX1_oughtToHave_18 (by decide) (fun c4 => ?_) (fun c4 => ?_)
    · replace h := h.1 c4
      refine q_iconst (v := 0) hX dX1_oughtToHave_25 (by decide) ?_
      exact q_zret hX dX1_oughtToHave_26 (by decide) ⟨_, rfl, h⟩
    · replace h := h.2 c4
      refine q_iconst (v := 1) hX dX1_oughtToHave_21 (by decide) ?_
      refine q_goto 26 hX dX1_oughtToHave_22 (by decide) ?_
      exact q_zret hX dX1_oughtToHave_26 (by decide) ⟨_, rfl, h⟩
set_option maxHeartbeats 4000000 in
set_option maxRecDepth 20000 in
theorem fl_X1_standsUp {d : Nat} {ids : List Nat} {o : Nat} {a0 : Nat} {a1 : Int32} {σ : St} {Q : Int32 → St → Prop} (h_o : IO ids o 1) (h_a0 : IA ids a0 0 5) (H : EI d ids Y_X1_standsBeside [.ref o, .ref a0, .int a1, .int ((1 : Int32) <<< (a1 &&& 31))] σ (fun x2 s1 => ((x2 = 0 ∨ x2 = 1) ∧ Q x2 s1))) : EI (d + 1) ids Y_X1_standsUp [.ref o, .ref a0, .int a1] σ Q := by
  refine E_mk (by decide) (Nat.le_of_ble_eq_true rfl) (fun X hX => ?_)
  replace hX : Cok X ids 3 cX1_standsUp (some .boolean) (d + 1) RX1 := hX
  show Wg X ids 3 _ 0 [(0, .ref o), (1, .ref a0), (2, .int a1)] [] σ
  have h := H
  refine q_aload_n 0 hX dX1_standsUp_0 rfl rfl ?_
  refine q_aload_n 1 hX dX1_standsUp_1 rfl rfl ?_
  refine q_iload_n 2 hX dX1_standsUp_2 rfl rfl ?_
  refine q_iconst (v := 1) hX dX1_standsUp_3 (by decide) ?_
  refine q_iload_n 2 hX dX1_standsUp_4 rfl rfl ?_
  refine q_ishl hX dX1_standsUp_5 ?_
  refine cl_X1_24 hX h_o dX1_standsUp_6 (Nat.le_of_ble_eq_true rfl) h (fun x2 s1 h => ?_)
  exact q_zret hX dX1_standsUp_9 h.1 ⟨_, rfl, h.2⟩
set_option maxHeartbeats 4000000 in
set_option maxRecDepth 20000 in
theorem fl_X1_standsBeside {d : Nat} {ids : List Nat} {o : Nat} {a0 : Nat} {a1 : Int32} {a2 : Int32} {σ : St} {Q : Int32 → St → Prop} (h_o : IO ids o 1) (h_a0 : IA ids a0 0 5) (H : ∀ (P25 : Int32 → Int32 → St → Prop) (P60 : Int32 → Int32 → St → Prop), (∀ (v4 : Int32) (v5 : Int32) (σ : St), (((5 ≤ v5 → Q 1 σ) ∧ (¬ (5 ≤ v5) → ((¬ ((v4 >>> (v5 &&& 31)) &&& 1) = 1 → P60 v4 v5 σ) ∧ (((v4 >>> (v5 &&& 31)) &&& 1) = 1 → EI d ids Y_X1_standsBeside [.ref o, .ref a0, .int v5, .int (a2 ||| ((1 : Int32) <<< (v5 &&& 31)))] σ (fun x4 s3 => ((x4 = 0 → P60 v4 v5 s3) ∧ (¬ x4 = 0 → Q 0 s3)))))))) → P25 v4 v5 σ) → (∀ (v4 : Int32) (v5 : Int32) (σ : St), (∀ x6 : Int32, x6 = v5 + 1 → P25 v4 x6 σ) → P60 v4 v5 σ) → ((¬ (((gi σ o 0) >>> (a1 &&& 31)) &&& 1) = 0 → vp_in a1 5 ∧ ∀ x9 : Int32, x9 = ((gi σ a0 (Int32.toNatClampNeg a1)) &&& (a2 ^^^ (-1))) → P25 x9 0 σ) ∧ ((((gi σ o 0) >>> (a1 &&& 31)) &&& 1) = 0 → Q 0 σ))) : EI (d + 1) ids Y_X1_standsBeside [.ref o, .ref a0, .int a1, .int a2] σ Q := by
  refine E_mk (by decide) (Nat.le_of_ble_eq_true rfl) (fun X hX => ?_)
  replace hX : Cok X ids 6 cX1_standsBeside (some .boolean) (d + 1) RX1 := hX
  show Wg X ids 6 _ 0 [(0, .ref o), (1, .ref a0), (2, .int a1), (3, .int a2)] [] σ
  have h := H (fun (v4 : Int32) (v5 : Int32) (σ : St) => (Wg X ids 6 (fun r σ1 => ∃ x, r = some (Value.int x) ∧ Q x σ1) 25 [(0, .ref o), (1, .ref a0), (3, .int a2), (4, .int v4), (5, .int v5)] [] σ)) (fun (v4 : Int32) (v5 : Int32) (σ : St) => (Wg X ids 6 (fun r σ1 => ∃ x, r = some (Value.int x) ∧ Q x σ1) 60 [(0, .ref o), (1, .ref a0), (3, .int a2), (4, .int v4), (5, .int v5)] [] σ))
  replace h := h (fun v4 v5 σ h => by
    refine q_iload 4 hX dX1_standsBeside_25 rfl ?_
    refine q_iconst (v := 5) hX dX1_standsBeside_27 (by decide) ?_
    refine q_icmp_ge 66 hX dX1_standsBeside_28 (by decide) (fun c1 => ?_) (fun c1 => ?_)
    · replace h := h.1 c1
      refine q_iconst (v := 1) hX dX1_standsBeside_66 (by decide) ?_
      exact q_zret hX dX1_standsBeside_67 (by decide) ⟨_, rfl, h⟩
    · replace h := h.2 c1
      refine q_iload 3 hX dX1_standsBeside_31 rfl ?_
      refine q_iload 4 hX dX1_standsBeside_33 rfl ?_
      refine q_ishr hX dX1_standsBeside_35 ?_
      refine q_iconst (v := 1) hX dX1_standsBeside_36 (by decide) ?_
      refine q_iand hX dX1_standsBeside_37 ?_
      refine q_iconst (v := 1) hX dX1_standsBeside_38 (by decide) ?_
      refine q_icmp_ne 60 hX dX1_standsBeside_39 (by decide) (fun c2 => ?_) (fun c2 => ?_)
      · replace h := h.1 c2
        exact Wg.sub [0, 1, 2, 3, 4] rfl (h)
      · replace h := h.2 c2
        refine q_aload_n 0 hX dX1_standsBeside_42 rfl rfl ?_
        refine q_aload_n 1 hX dX1_standsBeside_43 rfl rfl ?_
        refine q_iload 4 hX dX1_standsBeside_44 rfl ?_
        refine q_iload_n 2 hX dX1_standsBeside_46 rfl rfl ?_
        refine q_iconst (v := 1) hX dX1_standsBeside_47 (by decide) ?_
        refine q_iload 4 hX dX1_standsBeside_48 rfl ?_
        refine q_ishl hX dX1_standsBeside_50 ?_
        refine q_ior hX dX1_standsBeside_51 ?_
        refine cl_X1_24 hX h_o dX1_standsBeside_52 (Nat.le_of_ble_eq_true rfl) h (fun x4 s3 h => ?_)
        refine q_if_eq 60 hX dX1_standsBeside_55 (by decide) (fun c5 => ?_) (fun c5 => ?_)
        · replace h := h.1 c5
          exact Wg.sub [0, 1, 2, 3, 4] rfl (h)
        · replace h := h.2 c5
          refine q_iconst (v := 0) hX dX1_standsBeside_58 (by decide) ?_
          exact q_zret hX dX1_standsBeside_59 (by decide) ⟨_, rfl, h⟩
    )
  replace h := h (fun v4 v5 σ h => by
    obtain ⟨x6, ex6⟩ : ∃ z : Int32, z = v5 + 1 := ⟨_, rfl⟩
    replace h := h x6 ex6
    refine q_iinc (v := x6) (L' := [(5, .int x6), (0, .ref o), (1, .ref a0), (3, .int a2), (4, .int v4)]) 4 hX dX1_standsBeside_60 rfl (by rw [ex6]; rfl) (by decide) rfl ?_
    refine q_goto 25 hX dX1_standsBeside_63 (by decide) ?_
    exact Wg.sub [1, 2, 3, 4, 0] rfl (h)
    )
  refine q_aload_n 0 hX dX1_standsBeside_0 rfl rfl ?_
  refine gf_X1_16 hX h_o dX1_standsBeside_1 ?_
  refine q_iload_n 2 hX dX1_standsBeside_4 rfl rfl ?_
  refine q_ishr hX dX1_standsBeside_5 ?_
  refine q_iconst (v := 1) hX dX1_standsBeside_6 (by decide) ?_
  refine q_iand hX dX1_standsBeside_7 ?_
  refine q_if_ne 13 hX dX1_standsBeside_8 (by decide) (fun c7 => ?_) (fun c7 => ?_)
  · replace h := h.1 c7
    refine q_aload_n 1 hX dX1_standsBeside_13 rfl rfl ?_
    refine q_iload_n 2 hX dX1_standsBeside_14 rfl rfl ?_
    obtain ⟨b8, h⟩ := h
    refine q_iald hX dX1_standsBeside_15 h_a0 b8 ?_
    refine q_iload_n 3 hX dX1_standsBeside_16 rfl rfl ?_
    refine q_iconst (v := (-1)) hX dX1_standsBeside_17 (by decide) ?_
    refine q_ixor hX dX1_standsBeside_18 ?_
    refine q_iand hX dX1_standsBeside_19 ?_
    refine Wg.nmI (fun x9 ex9 => ?_)
    replace h := h x9 ex9
    refine q_istore (L' := [(4, .int x9), (0, .ref o), (1, .ref a0), (2, .int a1), (3, .int a2)]) hX dX1_standsBeside_20 (by decide) rfl ?_
    refine q_iconst (v := 0) hX dX1_standsBeside_22 (by decide) ?_
    refine q_istore (L' := [(5, .int 0), (4, .int x9), (0, .ref o), (1, .ref a0), (2, .int a1), (3, .int a2)]) hX dX1_standsBeside_23 (by decide) rfl ?_
    exact Wg.sub [2, 3, 5, 1, 0] rfl (h)
  · replace h := h.2 c7
    refine q_iconst (v := 0) hX dX1_standsBeside_11 (by decide) ?_
    exact q_zret hX dX1_standsBeside_12 (by decide) ⟨_, rfl, h⟩
