/-! formulas of the methods: if the formula holds, the contract does -/
set_option maxHeartbeats 4000000 in
set_option maxRecDepth 20000 in
theorem fl_X7_in {d : Nat} {ids : List Nat} {o : Nat} {a0 : Int32} {a1 : Int32} {a2 : Int32} {σ : St} {Q : Int32 → St → Prop} (h_o : IO ids o 7) (H : ((a0 < a1 → Q 0 σ) ∧ (¬ (a0 < a1) → ((a2 < a0 → Q 0 σ) ∧ (¬ (a2 < a0) → Q 1 σ))))) : EI (d + 1) ids Y_X7_in [.ref o, .int a0, .int a1, .int a2] σ Q := by
  refine E_mk (by decide) (Nat.le_of_ble_eq_true rfl) (fun X hX => ?_)
  replace hX : Cok X ids 4 cX7_in (some .boolean) (d + 1) RX7 := hX
  show Wg X ids 4 _ 0 [(0, .ref o), (1, .int a0), (2, .int a1), (3, .int a2)] [] σ
  have h := H
  refine q_iload_n 1 hX dX7_in_0 rfl rfl ?_
  refine q_iload_n 2 hX dX7_in_1 rfl rfl ?_
  refine q_icmp_lt 14 hX dX7_in_2 (by decide) (fun c1 => ?_) (fun c1 => ?_)
  · replace h := h.1 c1
    refine q_iconst (v := 0) hX dX7_in_14 (by decide) ?_
    exact q_zret hX dX7_in_15 (by decide) ⟨_, rfl, h⟩
  · replace h := h.2 c1
    refine q_iload_n 1 hX dX7_in_5 rfl rfl ?_
    refine q_iload_n 3 hX dX7_in_6 rfl rfl ?_
    refine q_icmp_gt 14 hX dX7_in_7 (by decide) (fun c2 => ?_) (fun c2 => ?_)
    · replace h := h.1 c2
      refine q_iconst (v := 0) hX dX7_in_14 (by decide) ?_
      exact q_zret hX dX7_in_15 (by decide) ⟨_, rfl, h⟩
    · replace h := h.2 c2
      refine q_iconst (v := 1) hX dX7_in_10 (by decide) ?_
      refine q_goto 15 hX dX7_in_11 (by decide) ?_
      exact q_zret hX dX7_in_15 (by decide) ⟨_, rfl, h⟩
set_option maxHeartbeats 4000000 in
set_option maxRecDepth 20000 in
theorem fl_X7_has {d : Nat} {ids : List Nat} {o : Nat} {a0 : Int32} {a1 : Int32} {σ : St} {Q : Int32 → St → Prop} (h_o : IO ids o 7) (H : ((¬ ((a0 >>> (a1 &&& 31)) &&& 1) = 1 → Q 0 σ) ∧ (((a0 >>> (a1 &&& 31)) &&& 1) = 1 → Q 1 σ))) : EI (d + 1) ids Y_X7_has [.ref o, .int a0, .int a1] σ Q := by
  refine E_mk (by decide) (Nat.le_of_ble_eq_true rfl) (fun X hX => ?_)
  replace hX : Cok X ids 3 cX7_has (some .boolean) (d + 1) RX7 := hX
  show Wg X ids 3 _ 0 [(0, .ref o), (1, .int a0), (2, .int a1)] [] σ
  have h := H
  refine q_iload_n 1 hX dX7_has_0 rfl rfl ?_
  refine q_iload_n 2 hX dX7_has_1 rfl rfl ?_
  refine q_ishr hX dX7_has_2 ?_
  refine q_iconst (v := 1) hX dX7_has_3 (by decide) ?_
  refine q_iand hX dX7_has_4 ?_
  refine q_iconst (v := 1) hX dX7_has_5 (by decide) ?_
  refine q_icmp_ne 13 hX dX7_has_6 (by decide) (fun c1 => ?_) (fun c1 => ?_)
  · replace h := h.1 c1
    refine q_iconst (v := 0) hX dX7_has_13 (by decide) ?_
    exact q_zret hX dX7_has_14 (by decide) ⟨_, rfl, h⟩
  · replace h := h.2 c1
    refine q_iconst (v := 1) hX dX7_has_9 (by decide) ?_
    refine q_goto 14 hX dX7_has_10 (by decide) ?_
    exact q_zret hX dX7_has_14 (by decide) ⟨_, rfl, h⟩
set_option maxHeartbeats 4000000 in
set_option maxRecDepth 20000 in
theorem fl_X7_ones {d : Nat} {ids : List Nat} {o : Nat} {a0 : Int32} {σ : St} {Q : Int32 → St → Prop} (h_o : IO ids o 7) (H : ∀ (P4 : Int32 → Int32 → St → Prop), (∀ (v2 : Int32) (v3 : Int32) (σ : St), (((v3 = 0 → Q v2 σ) ∧ (¬ v3 = 0 → ∀ x2 : Int32, x2 = v2 + 1 → ∀ x3 : Int32, x3 = (v3 &&& (v3 - 1)) → P4 x2 x3 σ))) → P4 v2 v3 σ) → P4 0 a0 σ) : EI (d + 1) ids Y_X7_ones [.ref o, .int a0] σ Q := by
  refine E_mk (by decide) (Nat.le_of_ble_eq_true rfl) (fun X hX => ?_)
  replace hX : Cok X ids 4 cX7_ones (some .int) (d + 1) RX7 := hX
  show Wg X ids 4 _ 0 [(0, .ref o), (1, .int a0)] [] σ
  have h := H (fun (v2 : Int32) (v3 : Int32) (σ : St) => (Wg X ids 4 (fun r σ1 => ∃ x, r = some (Value.int x) ∧ Q x σ1) 4 [(2, .int v2), (3, .int v3)] [] σ))
  replace h := h (fun v2 v3 σ h => by
    refine q_iload_n 1 hX dX7_ones_4 rfl rfl ?_
    refine q_if_eq 20 hX dX7_ones_5 (by decide) (fun c1 => ?_) (fun c1 => ?_)
    · replace h := h.1 c1
      refine q_iload_n 0 hX dX7_ones_20 rfl rfl ?_
      exact q_ret hX dX7_ones_21 ⟨_, rfl, h⟩
    · replace h := h.2 c1
      obtain ⟨x2, ex2⟩ : ∃ z : Int32, z = v2 + 1 := ⟨_, rfl⟩
      replace h := h x2 ex2
      refine q_iinc (v := x2) (L' := [(2, .int x2), (3, .int v3)]) 0 hX dX7_ones_8 rfl (by rw [ex2]; rfl) (by decide) rfl ?_
      refine q_iload_n 1 hX dX7_ones_11 rfl rfl ?_
      refine q_iload_n 1 hX dX7_ones_12 rfl rfl ?_
      refine q_iconst (v := 1) hX dX7_ones_13 (by decide) ?_
      refine q_isub hX dX7_ones_14 ?_
      refine q_iand hX dX7_ones_15 ?_
      refine Wg.nmI (fun x3 ex3 => ?_)
      replace h := h x3 ex3
      refine q_istore_n (L' := [(3, .int x3), (2, .int x2)]) hX dX7_ones_16 rfl (by decide) rfl ?_
      refine q_goto 4 hX dX7_ones_17 (by decide) ?_
      exact Wg.sub [1, 0] rfl (h)
    )
  refine q_iconst (v := 0) hX dX7_ones_0 (by decide) ?_
  refine q_istore_n (L' := [(2, .int 0), (0, .ref o), (1, .int a0)]) hX dX7_ones_1 rfl (by decide) rfl ?_
  refine q_iload_n 2 hX dX7_ones_2 rfl rfl ?_
  refine q_istore_n (L' := [(3, .int a0), (2, .int 0), (0, .ref o), (1, .int a0)]) hX dX7_ones_3 rfl (by decide) rfl ?_
  exact Wg.sub [1, 0] rfl (h)
set_option maxHeartbeats 4000000 in
set_option maxRecDepth 20000 in
theorem fl_X7_isPoint {d : Nat} {ids : List Nat} {o : Nat} {a0 : Int32} {σ : St} {Q : Int32 → St → Prop} (h_o : IO ids o 7) (H : EI d ids Y_X7_in [.ref o, .int a0, .int 0, .int 4] σ (fun x2 s1 => ((x2 = 0 ∨ x2 = 1) ∧ Q x2 s1))) : EI (d + 1) ids Y_X7_isPoint [.ref o, .int a0] σ Q := by
  refine E_mk (by decide) (Nat.le_of_ble_eq_true rfl) (fun X hX => ?_)
  replace hX : Cok X ids 2 cX7_isPoint (some .boolean) (d + 1) RX7 := hX
  show Wg X ids 2 _ 0 [(0, .ref o), (1, .int a0)] [] σ
  have h := H
  refine q_aload_n 0 hX dX7_isPoint_0 rfl rfl ?_
  refine q_iload_n 1 hX dX7_isPoint_1 rfl rfl ?_
  refine q_iconst (v := 0) hX dX7_isPoint_2 (by decide) ?_
  refine q_iconst (v := 4) hX dX7_isPoint_3 (by decide) ?_
  refine cl_X7_1 hX h_o dX7_isPoint_4 (Nat.le_of_ble_eq_true rfl) h (fun x2 s1 h => ?_)
  exact q_zret hX dX7_isPoint_7 h.1 ⟨_, rfl, h.2⟩
set_option maxHeartbeats 4000000 in
set_option maxRecDepth 20000 in
theorem fl_X7_isCase {d : Nat} {ids : List Nat} {o : Nat} {a0 : Int32} {σ : St} {Q : Int32 → St → Prop} (h_o : IO ids o 7) (H : EI d ids Y_X7_in [.ref o, .int a0, .int 0, .int ((gi σ o 0) - 1)] σ (fun x2 s1 => ((x2 = 0 ∨ x2 = 1) ∧ Q x2 s1))) : EI (d + 1) ids Y_X7_isCase [.ref o, .int a0] σ Q := by
  refine E_mk (by decide) (Nat.le_of_ble_eq_true rfl) (fun X hX => ?_)
  replace hX : Cok X ids 2 cX7_isCase (some .boolean) (d + 1) RX7 := hX
  show Wg X ids 2 _ 0 [(0, .ref o), (1, .int a0)] [] σ
  have h := H
  refine q_aload_n 0 hX dX7_isCase_0 rfl rfl ?_
  refine q_iload_n 1 hX dX7_isCase_1 rfl rfl ?_
  refine q_iconst (v := 0) hX dX7_isCase_2 (by decide) ?_
  refine q_aload_n 0 hX dX7_isCase_3 rfl rfl ?_
  refine gf_X7_7 hX h_o dX7_isCase_4 ?_
  refine q_iconst (v := 1) hX dX7_isCase_7 (by decide) ?_
  refine q_isub hX dX7_isCase_8 ?_
  refine cl_X7_1 hX h_o dX7_isCase_9 (Nat.le_of_ble_eq_true rfl) h (fun x2 s1 h => ?_)
  exact q_zret hX dX7_isCase_12 h.1 ⟨_, rfl, h.2⟩
set_option maxHeartbeats 4000000 in
set_option maxRecDepth 20000 in
theorem fl_X7_link {d : Nat} {ids : List Nat} {o : Nat} {a0 : Int32} {a1 : Int32} {a2 : Int32} {a3 : Int32} {σ : St} {Q : Int32 → St → Prop} (h_o : IO ids o 7) (H : ∀ (P59 : Int32 → St → Prop) (P83 : Int32 → Int32 → St → Prop) (P108 : Int32 → St → Prop), (∀ (t0 : Int32) (σ : St), (((a3 = 0 → P83 t0 (t0 &&& (((1 : Int32) <<< (a2 &&& 31)) ^^^ (-1))) σ) ∧ (¬ a3 = 0 → P83 t0 (t0 ||| ((1 : Int32) <<< (a2 &&& 31))) σ))) → P59 t0 σ) → (∀ (v5 : Int32) (t0 : Int32) (σ : St), (((¬ a0 = 0 → vp_in a1 6 ∧ ∀ s4 : St, s4 = si σ (rf o 2) (Int32.toNatClampNeg a1) t0 → P108 v5 s4) ∧ (a0 = 0 → vp_in a1 6 ∧ ∀ s6 : St, s6 = si σ (rf o 1) (Int32.toNatClampNeg a1) t0 → P108 v5 s6))) → P83 v5 t0 σ) → (∀ (v5 : Int32) (σ : St), (Q ((v5 >>> (a2 &&& 31)) &&& 1) σ) → P108 v5 σ) → EI d ids Y_X7_in [.ref o, .int a0, .int 0, .int 1] σ (fun x8 s7 => ((x8 = 0 → Q (-1) s7) ∧ (¬ x8 = 0 → EI d ids Y_X7_isPoint [.ref o, .int a1] s7 (fun x11 s10 => ((x11 = 0 → Q (-1) s10) ∧ (¬ x11 = 0 → EI d ids Y_X7_isPoint [.ref o, .int a2] s10 (fun x14 s13 => ((¬ x14 = 0 → ((a1 = a2 → Q (-2) s13) ∧ (¬ a1 = a2 → ((¬ a2 = 0 → ((¬ a0 = 0 → vp_in a1 6 ∧ P59 (gi s13 (rf o 2) (Int32.toNatClampNeg a1)) s13) ∧ (a0 = 0 → vp_in a1 6 ∧ P59 (gi s13 (rf o 1) (Int32.toNatClampNeg a1)) s13))) ∧ (a2 = 0 → Q (-2) s13))))) ∧ (x14 = 0 → Q (-1) s13)))))))))) : EI (d + 1) ids Y_X7_link [.ref o, .int a0, .int a1, .int a2, .int a3] σ Q := by
  refine E_mk (by decide) (Nat.le_of_ble_eq_true rfl) (fun X hX => ?_)
  replace hX : Cok X ids 7 cX7_link (some .int) (d + 1) RX7 := hX
  show Wg X ids 7 _ 0 [(0, .ref o), (1, .int a0), (2, .int a1), (3, .int a2), (4, .int a3)] [] σ
  have h := H (fun (t0 : Int32) (σ : St) => (Wg X ids 7 (fun r σ1 => ∃ x, r = some (Value.int x) ∧ Q x σ1) 59 [(0, .ref o), (1, .int a0), (2, .int a1), (3, .int a2), (4, .int a3)] [.int t0] σ)) (fun (v5 : Int32) (t0 : Int32) (σ : St) => (Wg X ids 7 (fun r σ1 => ∃ x, r = some (Value.int x) ∧ Q x σ1) 83 [(0, .ref o), (1, .int a0), (2, .int a1), (3, .int a2), (5, .int v5)] [.int t0] σ)) (fun (v5 : Int32) (σ : St) => (Wg X ids 7 (fun r σ1 => ∃ x, r = some (Value.int x) ∧ Q x σ1) 108 [(3, .int a2), (5, .int v5)] [] σ))
  replace h := h (fun t0 σ h => by
    refine q_istore (L' := [(5, .int t0), (0, .ref o), (1, .int a0), (2, .int a1), (3, .int a2), (4, .int a3)]) hX dX7_link_59 (by decide) rfl ?_
    refine q_iload 5 hX dX7_link_61 rfl ?_
    refine q_if_eq 75 hX dX7_link_63 (by decide) (fun c1 => ?_) (fun c1 => ?_)
    · replace h := h.1 c1
      refine q_iload 0 hX dX7_link_75 rfl ?_
      refine q_iconst (v := 1) hX dX7_link_77 (by decide) ?_
      refine q_iload_n 4 hX dX7_link_78 rfl rfl ?_
      refine q_ishl hX dX7_link_79 ?_
      refine q_iconst (v := (-1)) hX dX7_link_80 (by decide) ?_
      refine q_ixor hX dX7_link_81 ?_
      refine q_iand hX dX7_link_82 ?_
      exact Wg.sub [1, 2, 3, 4, 0] rfl (h)
    · replace h := h.2 c1
      refine q_iload 0 hX dX7_link_66 rfl ?_
      refine q_iconst (v := 1) hX dX7_link_68 (by decide) ?_
      refine q_iload_n 4 hX dX7_link_69 rfl rfl ?_
      refine q_ishl hX dX7_link_70 ?_
      refine q_ior hX dX7_link_71 ?_
      refine q_goto 83 hX dX7_link_72 (by decide) ?_
      exact Wg.sub [1, 2, 3, 4, 0] rfl (h)
    )
  replace h := h (fun v5 t0 σ h => by
    refine q_istore (L' := [(6, .int t0), (0, .ref o), (1, .int a0), (2, .int a1), (3, .int a2), (5, .int v5)]) hX dX7_link_83 (by decide) rfl ?_
    refine q_iload_n 2 hX dX7_link_85 rfl rfl ?_
    refine q_if_ne 100 hX dX7_link_86 (by decide) (fun c2 => ?_) (fun c2 => ?_)
    · replace h := h.1 c2
      refine q_aload_n 1 hX dX7_link_100 rfl rfl ?_
      refine gf_X7_19 hX h_o dX7_link_101 ?_
      refine q_iload_n 3 hX dX7_link_104 rfl rfl ?_
      refine q_iload 0 hX dX7_link_105 rfl ?_
      obtain ⟨b3, h⟩ := h
      refine q_iast hX dX7_link_107 (rfO_7_2 h_o) b3 ?_
      refine Wg.nmS (fun s4 es4 => ?_)
      replace h := h s4 es4
      exact Wg.sub [4, 5] rfl (h)
    · replace h := h.2 c2
      refine q_aload_n 1 hX dX7_link_89 rfl rfl ?_
      refine gf_X7_15 hX h_o dX7_link_90 ?_
      refine q_iload_n 3 hX dX7_link_93 rfl rfl ?_
      refine q_iload 0 hX dX7_link_94 rfl ?_
      obtain ⟨b5, h⟩ := h
      refine q_iast hX dX7_link_96 (rfO_7_1 h_o) b5 ?_
      refine Wg.nmS (fun s6 es6 => ?_)
      replace h := h s6 es6
      refine q_goto 108 hX dX7_link_97 (by decide) ?_
      exact Wg.sub [4, 5] rfl (h)
    )
  replace h := h (fun v5 σ h => by
    refine q_iload 1 hX dX7_link_108 rfl ?_
    refine q_iload_n 0 hX dX7_link_110 rfl rfl ?_
    refine q_ishr hX dX7_link_111 ?_
    refine q_iconst (v := 1) hX dX7_link_112 (by decide) ?_
    refine q_iand hX dX7_link_113 ?_
    exact q_ret hX dX7_link_114 ⟨_, rfl, h⟩
    )
  refine q_aload_n 0 hX dX7_link_0 rfl rfl ?_
  refine q_iload_n 1 hX dX7_link_1 rfl rfl ?_
  refine q_iconst (v := 0) hX dX7_link_2 (by decide) ?_
  refine q_iconst (v := 1) hX dX7_link_3 (by decide) ?_
  refine cl_X7_1 hX h_o dX7_link_4 (Nat.le_of_ble_eq_true rfl) h (fun x8 s7 h => ?_)
  refine q_if_eq 26 hX dX7_link_7 (by decide) (fun c9 => ?_) (fun c9 => ?_)
  · replace h := h.1 c9
    refine q_iconst (v := (-1)) hX dX7_link_26 (by decide) ?_
    exact q_ret hX dX7_link_27 ⟨_, rfl, h⟩
  · replace h := h.2 c9
    refine q_aload_n 0 hX dX7_link_10 rfl rfl ?_
    refine q_iload_n 2 hX dX7_link_11 rfl rfl ?_
    refine cl_X7_11 hX h_o dX7_link_12 (Nat.le_of_ble_eq_true rfl) h (fun x11 s10 h => ?_)
    refine q_if_eq 26 hX dX7_link_15 (by decide) (fun c12 => ?_) (fun c12 => ?_)
    · replace h := h.1 c12
      refine q_iconst (v := (-1)) hX dX7_link_26 (by decide) ?_
      exact q_ret hX dX7_link_27 ⟨_, rfl, h⟩
    · replace h := h.2 c12
      refine q_aload_n 0 hX dX7_link_18 rfl rfl ?_
      refine q_iload_n 3 hX dX7_link_19 rfl rfl ?_
      refine cl_X7_11 hX h_o dX7_link_20 (Nat.le_of_ble_eq_true rfl) h (fun x14 s13 h => ?_)
      refine q_if_ne 28 hX dX7_link_23 (by decide) (fun c15 => ?_) (fun c15 => ?_)
      · replace h := h.1 c15
        refine q_iload_n 2 hX dX7_link_28 rfl rfl ?_
        refine q_iload_n 3 hX dX7_link_29 rfl rfl ?_
        refine q_icmp_eq 37 hX dX7_link_30 (by decide) (fun c16 => ?_) (fun c16 => ?_)
        · replace h := h.1 c16
          refine q_bipush (v := (-2)) hX dX7_link_37 (by decide) ?_
          exact q_ret hX dX7_link_39 ⟨_, rfl, h⟩
        · replace h := h.2 c16
          refine q_iload_n 3 hX dX7_link_33 rfl rfl ?_
          refine q_if_ne 40 hX dX7_link_34 (by decide) (fun c17 => ?_) (fun c17 => ?_)
          · replace h := h.1 c17
            refine q_iload_n 1 hX dX7_link_40 rfl rfl ?_
            refine q_if_ne 53 hX dX7_link_41 (by decide) (fun c18 => ?_) (fun c18 => ?_)
            · replace h := h.1 c18
              refine q_aload_n 0 hX dX7_link_53 rfl rfl ?_
              refine gf_X7_19 hX h_o dX7_link_54 ?_
              refine q_iload_n 2 hX dX7_link_57 rfl rfl ?_
              obtain ⟨b19, h⟩ := h
              refine q_iald hX dX7_link_58 (rfO_7_2 h_o) b19 ?_
              exact Wg.sub [0, 1, 2, 3, 4] rfl (h)
            · replace h := h.2 c18
              refine q_aload_n 0 hX dX7_link_44 rfl rfl ?_
              refine gf_X7_15 hX h_o dX7_link_45 ?_
              refine q_iload_n 2 hX dX7_link_48 rfl rfl ?_
              obtain ⟨b20, h⟩ := h
              refine q_iald hX dX7_link_49 (rfO_7_1 h_o) b20 ?_
              refine q_goto 59 hX dX7_link_50 (by decide) ?_
              exact Wg.sub [0, 1, 2, 3, 4] rfl (h)
          · replace h := h.2 c17
            refine q_bipush (v := (-2)) hX dX7_link_37 (by decide) ?_
            exact q_ret hX dX7_link_39 ⟨_, rfl, h⟩
      · replace h := h.2 c15
        refine q_iconst (v := (-1)) hX dX7_link_26 (by decide) ?_
        exact q_ret hX dX7_link_27 ⟨_, rfl, h⟩
set_option maxHeartbeats 4000000 in
set_option maxRecDepth 20000 in
theorem fl_X7_newCase {d : Nat} {ids : List Nat} {o : Nat} {a0 : Int32} {σ : St} {Q : Int32 → St → Prop} (h_o : IO ids o 7) (H : ∀ (P37 : Int32 → St → Prop), (∀ (v2 : Int32) (σ : St), (((6 ≤ v2 → ∀ s2 : St, s2 = si σ o 0 ((gi σ o 0) + 1) → Q ((gi s2 o 0) - 1) s2) ∧ (¬ (6 ≤ v2) → vp_in ((6 * (gi σ o 0)) + v2) 24 ∧ ∀ s4 : St, s4 = si σ (rf o 4) (Int32.toNatClampNeg ((6 * (gi σ o 0)) + v2)) 5 → vp_in ((6 * (gi s4 o 0)) + v2) 24 ∧ ∀ s6 : St, s6 = si s4 (rf o 5) (Int32.toNatClampNeg ((6 * (gi s4 o 0)) + v2)) 5 → vp_in ((6 * (gi s6 o 0)) + v2) 24 ∧ ∀ s8 : St, s8 = si s6 (rf o 6) (Int32.toNatClampNeg ((6 * (gi s6 o 0)) + v2)) 10 → ∀ x9 : Int32, x9 = v2 + 1 → P37 x9 s8))) → P37 v2 σ) → EI d ids Y_X7_in [.ref o, .int a0, .int 0, .int 31] σ (fun x11 s10 => ((¬ x11 = 0 → ((¬ (gi s10 o 0) = 4 → vp_in (gi s10 o 0) 4 ∧ ∀ s15 : St, s15 = si s10 (rf o 3) (Int32.toNatClampNeg (gi s10 o 0)) a0 → P37 0 s15) ∧ ((gi s10 o 0) = 4 → Q (-4) s10))) ∧ (x11 = 0 → Q (-2) s10)))) : EI (d + 1) ids Y_X7_newCase [.ref o, .int a0] σ Q := by
  refine E_mk (by decide) (Nat.le_of_ble_eq_true rfl) (fun X hX => ?_)
  replace hX : Cok X ids 3 cX7_newCase (some .int) (d + 1) RX7 := hX
  show Wg X ids 3 _ 0 [(0, .ref o), (1, .int a0)] [] σ
  have h := H (fun (v2 : Int32) (σ : St) => (Wg X ids 3 (fun r σ1 => ∃ x, r = some (Value.int x) ∧ Q x σ1) 37 [(0, .ref o), (2, .int v2)] [] σ))
  replace h := h (fun v2 σ h => by
    refine q_iload_n 1 hX dX7_newCase_37 rfl rfl ?_
    refine q_bipush (v := 6) hX dX7_newCase_38 (by decide) ?_
    refine q_icmp_ge 95 hX dX7_newCase_40 (by decide) (fun c1 => ?_) (fun c1 => ?_)
    · replace h := h.1 c1
      refine q_aload_n 0 hX dX7_newCase_95 rfl rfl ?_
      refine q_dup hX dX7_newCase_96 rfl ?_
      refine gf_X7_7 hX h_o dX7_newCase_97 ?_
      refine q_iconst (v := 1) hX dX7_newCase_100 (by decide) ?_
      refine q_iadd hX dX7_newCase_101 ?_
      refine pf_X7_7 hX h_o dX7_newCase_102 ?_
      refine Wg.nmS (fun s2 es2 => ?_)
      replace h := h s2 es2
      refine q_aload_n 0 hX dX7_newCase_105 rfl rfl ?_
      refine gf_X7_7 hX h_o dX7_newCase_106 ?_
      refine q_iconst (v := 1) hX dX7_newCase_109 (by decide) ?_
      refine q_isub hX dX7_newCase_110 ?_
      exact q_ret hX dX7_newCase_111 ⟨_, rfl, h⟩
    · replace h := h.2 c1
      refine q_aload_n 0 hX dX7_newCase_43 rfl rfl ?_
      refine gf_X7_25 hX h_o dX7_newCase_44 ?_
      refine q_bipush (v := 6) hX dX7_newCase_47 (by decide) ?_
      refine q_aload_n 0 hX dX7_newCase_49 rfl rfl ?_
      refine gf_X7_7 hX h_o dX7_newCase_50 ?_
      refine q_imul hX dX7_newCase_53 ?_
      refine q_iload_n 1 hX dX7_newCase_54 rfl rfl ?_
      refine q_iadd hX dX7_newCase_55 ?_
      refine q_iconst (v := 5) hX dX7_newCase_56 (by decide) ?_
      obtain ⟨b3, h⟩ := h
      refine q_iast hX dX7_newCase_57 (rfO_7_4 h_o) b3 ?_
      refine Wg.nmS (fun s4 es4 => ?_)
      replace h := h s4 es4
      refine q_aload_n 0 hX dX7_newCase_58 rfl rfl ?_
      refine gf_X7_28 hX h_o dX7_newCase_59 ?_
      refine q_bipush (v := 6) hX dX7_newCase_62 (by decide) ?_
      refine q_aload_n 0 hX dX7_newCase_64 rfl rfl ?_
      refine gf_X7_7 hX h_o dX7_newCase_65 ?_
      refine q_imul hX dX7_newCase_68 ?_
      refine q_iload_n 1 hX dX7_newCase_69 rfl rfl ?_
      refine q_iadd hX dX7_newCase_70 ?_
      refine q_iconst (v := 5) hX dX7_newCase_71 (by decide) ?_
      obtain ⟨b5, h⟩ := h
      refine q_iast hX dX7_newCase_72 (rfO_7_5 h_o) b5 ?_
      refine Wg.nmS (fun s6 es6 => ?_)
      replace h := h s6 es6
      refine q_aload_n 0 hX dX7_newCase_73 rfl rfl ?_
      refine gf_X7_31 hX h_o dX7_newCase_74 ?_
      refine q_bipush (v := 6) hX dX7_newCase_77 (by decide) ?_
      refine q_aload_n 0 hX dX7_newCase_79 rfl rfl ?_
      refine gf_X7_7 hX h_o dX7_newCase_80 ?_
      refine q_imul hX dX7_newCase_83 ?_
      refine q_iload_n 1 hX dX7_newCase_84 rfl rfl ?_
      refine q_iadd hX dX7_newCase_85 ?_
      refine q_bipush (v := 10) hX dX7_newCase_86 (by decide) ?_
      obtain ⟨b7, h⟩ := h
      refine q_iast hX dX7_newCase_88 (rfO_7_6 h_o) b7 ?_
      refine Wg.nmS (fun s8 es8 => ?_)
      replace h := h s8 es8
      obtain ⟨x9, ex9⟩ : ∃ z : Int32, z = v2 + 1 := ⟨_, rfl⟩
      replace h := h x9 ex9
      refine q_iinc (v := x9) (L' := [(2, .int x9), (0, .ref o)]) 1 hX dX7_newCase_89 rfl (by rw [ex9]; rfl) (by decide) rfl ?_
      refine q_goto 37 hX dX7_newCase_92 (by decide) ?_
      exact Wg.sub [1, 0] rfl (h)
    )
  refine q_aload_n 0 hX dX7_newCase_0 rfl rfl ?_
  refine q_iload_n 1 hX dX7_newCase_1 rfl rfl ?_
  refine q_iconst (v := 0) hX dX7_newCase_2 (by decide) ?_
  refine q_bipush (v := 31) hX dX7_newCase_3 (by decide) ?_
  refine cl_X7_1 hX h_o dX7_newCase_5 (Nat.le_of_ble_eq_true rfl) h (fun x11 s10 h => ?_)
  refine q_if_ne 14 hX dX7_newCase_8 (by decide) (fun c12 => ?_) (fun c12 => ?_)
  · replace h := h.1 c12
    refine q_aload_n 0 hX dX7_newCase_14 rfl rfl ?_
    refine gf_X7_7 hX h_o dX7_newCase_15 ?_
    refine q_iconst (v := 4) hX dX7_newCase_18 (by decide) ?_
    refine q_icmp_ne 25 hX dX7_newCase_19 (by decide) (fun c13 => ?_) (fun c13 => ?_)
    · replace h := h.1 c13
      refine q_aload_n 0 hX dX7_newCase_25 rfl rfl ?_
      refine gf_X7_22 hX h_o dX7_newCase_26 ?_
      refine q_aload_n 0 hX dX7_newCase_29 rfl rfl ?_
      refine gf_X7_7 hX h_o dX7_newCase_30 ?_
      refine q_iload_n 1 hX dX7_newCase_33 rfl rfl ?_
      obtain ⟨b14, h⟩ := h
      refine q_iast hX dX7_newCase_34 (rfO_7_3 h_o) b14 ?_
      refine Wg.nmS (fun s15 es15 => ?_)
      replace h := h s15 es15
      refine q_iconst (v := 0) hX dX7_newCase_35 (by decide) ?_
      refine q_istore_n (L' := [(2, .int 0), (0, .ref o), (1, .int a0)]) hX dX7_newCase_36 rfl (by decide) rfl ?_
      exact Wg.sub [1, 0] rfl (h)
    · replace h := h.2 c13
      refine q_bipush (v := (-4)) hX dX7_newCase_22 (by decide) ?_
      exact q_ret hX dX7_newCase_24 ⟨_, rfl, h⟩
  · replace h := h.2 c12
    refine q_bipush (v := (-2)) hX dX7_newCase_11 (by decide) ?_
    exact q_ret hX dX7_newCase_13 ⟨_, rfl, h⟩
set_option maxHeartbeats 4000000 in
set_option maxRecDepth 20000 in
theorem fl_X7_put {d : Nat} {ids : List Nat} {o : Nat} {a0 : Int32} {a1 : Int32} {a2 : Int32} {a3 : Int32} {σ : St} {Q : Int32 → St → Prop} (h_o : IO ids o 7) (H : ∀ (P87 : Int32 → Int32 → St → Prop) (P102 : Int32 → Int32 → St → Prop) (P116 : Int32 → Int32 → St → Prop), (∀ (v5 : Int32) (t0 : Int32) (σ : St), (((¬ a2 = 0 → P102 v5 t0 σ) ∧ (a2 = 0 → vp_in v5 24 ∧ ∀ s3 : St, s3 = si σ (rf o 4) (Int32.toNatClampNeg v5) a3 → P102 v5 t0 s3))) → P87 v5 t0 σ) → (∀ (v5 : Int32) (v6 : Int32) (σ : St), (((¬ a2 = 1 → P116 v5 v6 σ) ∧ (a2 = 1 → vp_in v5 24 ∧ ∀ s6 : St, s6 = si σ (rf o 5) (Int32.toNatClampNeg v5) a3 → P116 v5 v6 s6))) → P102 v5 v6 σ) → (∀ (v5 : Int32) (v6 : Int32) (σ : St), (((¬ a2 = 2 → Q v6 σ) ∧ (a2 = 2 → vp_in v5 24 ∧ ∀ s9 : St, s9 = si σ (rf o 6) (Int32.toNatClampNeg v5) a3 → Q v6 s9))) → P116 v5 v6 σ) → EI d ids Y_X7_isCase [.ref o, .int a0] σ (fun x11 s10 => ((x11 = 0 → Q (-1) s10) ∧ (¬ x11 = 0 → EI d ids Y_X7_isPoint [.ref o, .int a1] s10 (fun x14 s13 => ((x14 = 0 → Q (-1) s13) ∧ (¬ x14 = 0 → EI d ids Y_X7_in [.ref o, .int a2, .int 0, .int 2] s13 (fun x17 s16 => ((¬ x17 = 0 → EI d ids Y_X7_in [.ref o, .int a3, .int 0, .int 10] s16 (fun x20 s19 => ((¬ x20 = 0 → ∀ x22 : Int32, x22 = ((6 * a0) + a1) → ((¬ a2 = 0 → ((¬ a2 = 1 → vp_in x22 24 ∧ P87 x22 (gi s19 (rf o 6) (Int32.toNatClampNeg x22)) s19) ∧ (a2 = 1 → vp_in x22 24 ∧ P87 x22 (gi s19 (rf o 5) (Int32.toNatClampNeg x22)) s19))) ∧ (a2 = 0 → vp_in x22 24 ∧ P87 x22 (gi s19 (rf o 4) (Int32.toNatClampNeg x22)) s19))) ∧ (x20 = 0 → Q (-2) s19)))) ∧ (x17 = 0 → Q (-1) s16)))))))))) : EI (d + 1) ids Y_X7_put [.ref o, .int a0, .int a1, .int a2, .int a3] σ Q := by
  refine E_mk (by decide) (Nat.le_of_ble_eq_true rfl) (fun X hX => ?_)
  replace hX : Cok X ids 7 cX7_put (some .int) (d + 1) RX7 := hX
  show Wg X ids 7 _ 0 [(0, .ref o), (1, .int a0), (2, .int a1), (3, .int a2), (4, .int a3)] [] σ
  have h := H (fun (v5 : Int32) (t0 : Int32) (σ : St) => (Wg X ids 7 (fun r σ1 => ∃ x, r = some (Value.int x) ∧ Q x σ1) 87 [(0, .ref o), (3, .int a2), (4, .int a3), (5, .int v5)] [.int t0] σ)) (fun (v5 : Int32) (v6 : Int32) (σ : St) => (Wg X ids 7 (fun r σ1 => ∃ x, r = some (Value.int x) ∧ Q x σ1) 102 [(0, .ref o), (3, .int a2), (4, .int a3), (5, .int v5), (6, .int v6)] [] σ)) (fun (v5 : Int32) (v6 : Int32) (σ : St) => (Wg X ids 7 (fun r σ1 => ∃ x, r = some (Value.int x) ∧ Q x σ1) 116 [(0, .ref o), (3, .int a2), (4, .int a3), (5, .int v5), (6, .int v6)] [] σ))
  replace h := h (fun v5 t0 σ h => by
    refine q_istore (L' := [(6, .int t0), (0, .ref o), (3, .int a2), (4, .int a3), (5, .int v5)]) hX dX7_put_87 (by decide) rfl ?_
    refine q_iload_n 2 hX dX7_put_89 rfl rfl ?_
    refine q_if_ne 102 hX dX7_put_90 (by decide) (fun c1 => ?_) (fun c1 => ?_)
    · replace h := h.1 c1
      exact Wg.sub [1, 2, 3, 4, 0] rfl (h)
    · replace h := h.2 c1
      refine q_aload_n 1 hX dX7_put_93 rfl rfl ?_
      refine gf_X7_25 hX h_o dX7_put_94 ?_
      refine q_iload 4 hX dX7_put_97 rfl ?_
      refine q_iload 3 hX dX7_put_99 rfl ?_
      obtain ⟨b2, h⟩ := h
      refine q_iast hX dX7_put_101 (rfO_7_4 h_o) b2 ?_
      refine Wg.nmS (fun s3 es3 => ?_)
      replace h := h s3 es3
      exact Wg.sub [1, 2, 3, 4, 0] rfl (h)
    )
  replace h := h (fun v5 v6 σ h => by
    refine q_iload_n 1 hX dX7_put_102 rfl rfl ?_
    refine q_iconst (v := 1) hX dX7_put_103 (by decide) ?_
    refine q_icmp_ne 116 hX dX7_put_104 (by decide) (fun c4 => ?_) (fun c4 => ?_)
    · replace h := h.1 c4
      exact Wg.sub [0, 1, 2, 3, 4] rfl (h)
    · replace h := h.2 c4
      refine q_aload_n 0 hX dX7_put_107 rfl rfl ?_
      refine gf_X7_28 hX h_o dX7_put_108 ?_
      refine q_iload 3 hX dX7_put_111 rfl ?_
      refine q_iload 2 hX dX7_put_113 rfl ?_
      obtain ⟨b5, h⟩ := h
      refine q_iast hX dX7_put_115 (rfO_7_5 h_o) b5 ?_
      refine Wg.nmS (fun s6 es6 => ?_)
      replace h := h s6 es6
      exact Wg.sub [0, 1, 2, 3, 4] rfl (h)
    )
  replace h := h (fun v5 v6 σ h => by
    refine q_iload_n 1 hX dX7_put_116 rfl rfl ?_
    refine q_iconst (v := 2) hX dX7_put_117 (by decide) ?_
    refine q_icmp_ne 130 hX dX7_put_118 (by decide) (fun c7 => ?_) (fun c7 => ?_)
    · replace h := h.1 c7
      refine q_iload 4 hX dX7_put_130 rfl ?_
      exact q_ret hX dX7_put_132 ⟨_, rfl, h⟩
    · replace h := h.2 c7
      refine q_aload_n 0 hX dX7_put_121 rfl rfl ?_
      refine gf_X7_31 hX h_o dX7_put_122 ?_
      refine q_iload 3 hX dX7_put_125 rfl ?_
      refine q_iload 2 hX dX7_put_127 rfl ?_
      obtain ⟨b8, h⟩ := h
      refine q_iast hX dX7_put_129 (rfO_7_6 h_o) b8 ?_
      refine Wg.nmS (fun s9 es9 => ?_)
      replace h := h s9 es9
      refine q_iload 4 hX dX7_put_130 rfl ?_
      exact q_ret hX dX7_put_132 ⟨_, rfl, h⟩
    )
  refine q_aload_n 0 hX dX7_put_0 rfl rfl ?_
  refine q_iload_n 1 hX dX7_put_1 rfl rfl ?_
  refine cl_X7_34 hX h_o dX7_put_2 (Nat.le_of_ble_eq_true rfl) h (fun x11 s10 h => ?_)
  refine q_if_eq 26 hX dX7_put_5 (by decide) (fun c12 => ?_) (fun c12 => ?_)
  · replace h := h.1 c12
    refine q_iconst (v := (-1)) hX dX7_put_26 (by decide) ?_
    exact q_ret hX dX7_put_27 ⟨_, rfl, h⟩
  · replace h := h.2 c12
    refine q_aload_n 0 hX dX7_put_8 rfl rfl ?_
    refine q_iload_n 2 hX dX7_put_9 rfl rfl ?_
    refine cl_X7_11 hX h_o dX7_put_10 (Nat.le_of_ble_eq_true rfl) h (fun x14 s13 h => ?_)
    refine q_if_eq 26 hX dX7_put_13 (by decide) (fun c15 => ?_) (fun c15 => ?_)
    · replace h := h.1 c15
      refine q_iconst (v := (-1)) hX dX7_put_26 (by decide) ?_
      exact q_ret hX dX7_put_27 ⟨_, rfl, h⟩
    · replace h := h.2 c15
      refine q_aload_n 0 hX dX7_put_16 rfl rfl ?_
      refine q_iload_n 3 hX dX7_put_17 rfl rfl ?_
      refine q_iconst (v := 0) hX dX7_put_18 (by decide) ?_
      refine q_iconst (v := 2) hX dX7_put_19 (by decide) ?_
      refine cl_X7_1 hX h_o dX7_put_20 (Nat.le_of_ble_eq_true rfl) h (fun x17 s16 h => ?_)
      refine q_if_ne 28 hX dX7_put_23 (by decide) (fun c18 => ?_) (fun c18 => ?_)
      · replace h := h.1 c18
        refine q_aload_n 0 hX dX7_put_28 rfl rfl ?_
        refine q_iload 4 hX dX7_put_29 rfl ?_
        refine q_iconst (v := 0) hX dX7_put_31 (by decide) ?_
        refine q_bipush (v := 10) hX dX7_put_32 (by decide) ?_
        refine cl_X7_1 hX h_o dX7_put_34 (Nat.le_of_ble_eq_true rfl) h (fun x20 s19 h => ?_)
        refine q_if_ne 43 hX dX7_put_37 (by decide) (fun c21 => ?_) (fun c21 => ?_)
        · replace h := h.1 c21
          refine q_bipush (v := 6) hX dX7_put_43 (by decide) ?_
          refine q_iload_n 1 hX dX7_put_45 rfl rfl ?_
          refine q_imul hX dX7_put_46 ?_
          refine q_iload_n 2 hX dX7_put_47 rfl rfl ?_
          refine q_iadd hX dX7_put_48 ?_
          refine Wg.nmI (fun x22 ex22 => ?_)
          replace h := h x22 ex22
          refine q_istore (L' := [(5, .int x22), (0, .ref o), (1, .int a0), (2, .int a1), (3, .int a2), (4, .int a3)]) hX dX7_put_49 (by decide) rfl ?_
          refine q_iload_n 4 hX dX7_put_51 rfl rfl ?_
          refine q_if_ne 65 hX dX7_put_52 (by decide) (fun c23 => ?_) (fun c23 => ?_)
          · replace h := h.1 c23
            refine q_iload_n 4 hX dX7_put_65 rfl rfl ?_
            refine q_iconst (v := 1) hX dX7_put_66 (by decide) ?_
            refine q_icmp_ne 80 hX dX7_put_67 (by decide) (fun c24 => ?_) (fun c24 => ?_)
            · replace h := h.1 c24
              refine q_aload_n 1 hX dX7_put_80 rfl rfl ?_
              refine gf_X7_31 hX h_o dX7_put_81 ?_
              refine q_iload 0 hX dX7_put_84 rfl ?_
              obtain ⟨b25, h⟩ := h
              refine q_iald hX dX7_put_86 (rfO_7_6 h_o) b25 ?_
              exact Wg.sub [1, 4, 5, 0] rfl (h)
            · replace h := h.2 c24
              refine q_aload_n 1 hX dX7_put_70 rfl rfl ?_
              refine gf_X7_28 hX h_o dX7_put_71 ?_
              refine q_iload 0 hX dX7_put_74 rfl ?_
              obtain ⟨b26, h⟩ := h
              refine q_iald hX dX7_put_76 (rfO_7_5 h_o) b26 ?_
              refine q_goto 87 hX dX7_put_77 (by decide) ?_
              exact Wg.sub [1, 4, 5, 0] rfl (h)
          · replace h := h.2 c23
            refine q_aload_n 1 hX dX7_put_55 rfl rfl ?_
            refine gf_X7_25 hX h_o dX7_put_56 ?_
            refine q_iload 0 hX dX7_put_59 rfl ?_
            obtain ⟨b27, h⟩ := h
            refine q_iald hX dX7_put_61 (rfO_7_4 h_o) b27 ?_
            refine q_goto 87 hX dX7_put_62 (by decide) ?_
            exact Wg.sub [1, 4, 5, 0] rfl (h)
        · replace h := h.2 c21
          refine q_bipush (v := (-2)) hX dX7_put_40 (by decide) ?_
          exact q_ret hX dX7_put_42 ⟨_, rfl, h⟩
      · replace h := h.2 c18
        refine q_iconst (v := (-1)) hX dX7_put_26 (by decide) ?_
        exact q_ret hX dX7_put_27 ⟨_, rfl, h⟩
set_option maxHeartbeats 4000000 in
set_option maxRecDepth 20000 in
theorem fl_X7_findUp {d : Nat} {ids : List Nat} {o : Nat} {a0 : Int32} {σ : St} {Q : St → Prop} (h_o : IO ids o 7) (H : ∀ (P3 : Int32 → St → Prop) (P9 : Int32 → Int32 → St → Prop) (P41 : Int32 → Int32 → St → Prop) (P42 : Int32 → Int32 → Int32 → St → Prop) (P47 : Int32 → Int32 → Int32 → Int32 → St → Prop) (P103 : Int32 → Int32 → Int32 → St → Prop) (P107 : Int32 → Int32 → Int32 → St → Prop) (P108 : Int32 → Int32 → Int32 → Int32 → St → Prop), (∀ (v2 : Int32) (σ : St), (((v2 ≤ 0 → Q σ) ∧ (¬ (v2 ≤ 0) → P9 v2 0 σ))) → P3 v2 σ) → (∀ (v2 : Int32) (v3 : Int32) (σ : St), (((5 ≤ v3 → ∀ x3 : Int32, x3 = v2 + (-1) → P3 x3 σ) ∧ (¬ (5 ≤ v3) → EI d ids Y_X7_has [.ref o, .int v2, .int v3] σ (fun x5 s4 => ((x5 = 0 → P41 v2 v3 s4) ∧ (¬ x5 = 0 → vp_in a0 4 ∧ EI d ids Y_X7_has [.ref o, .int (gi s4 (rf o 3) (Int32.toNatClampNeg a0)), .int v3] s4 (fun x9 s8 => ((x9 = 0 → P41 v2 v3 s8) ∧ (¬ x9 = 0 → P42 v2 v3 1 s8))))))))) → P9 v2 v3 σ) → (∀ (v2 : Int32) (v3 : Int32) (σ : St), (P42 v2 v3 0 σ) → P41 v2 v3 σ) → (∀ (v2 : Int32) (v3 : Int32) (t0 : Int32) (σ : St), (P47 v2 v3 t0 0 σ) → P42 v2 v3 t0 σ) → (∀ (v2 : Int32) (v3 : Int32) (v4 : Int32) (v5 : Int32) (σ : St), (((5 ≤ v5 → vp_in ((6 * v2) + v3) 384 ∧ ∀ s13 : St, s13 = si σ (rf o 7) (Int32.toNatClampNeg ((6 * v2) + v3)) (vp_nar .boolean v4) → ∀ x14 : Int32, x14 = v3 + 1 → P9 v2 x14 s13) ∧ (¬ (5 ≤ v5) → ((v4 = 0 → P107 v2 v3 v5 σ) ∧ (¬ v4 = 0 → vp_in v3 6 ∧ EI d ids Y_X7_has [.ref o, .int (gi σ (rf o 1) (Int32.toNatClampNeg v3)), .int v5] σ (fun x18 s17 => ((x18 = 0 → P103 v2 v3 v5 s17) ∧ (¬ x18 = 0 → EI d ids Y_X7_has [.ref o, .int v2, .int v5] s17 (fun x21 s20 => ((¬ x21 = 0 → P103 v2 v3 v5 s20) ∧ (x21 = 0 → vp_in ((6 * (v2 ||| ((1 : Int32) <<< (v5 &&& 31)))) + v5) 384 ∧ ((¬ (gi s20 (rf o 7) (Int32.toNatClampNeg ((6 * (v2 ||| ((1 : Int32) <<< (v5 &&& 31)))) + v5))) = 0 → P107 v2 v3 v5 s20) ∧ ((gi s20 (rf o 7) (Int32.toNatClampNeg ((6 * (v2 ||| ((1 : Int32) <<< (v5 &&& 31)))) + v5))) = 0 → P103 v2 v3 v5 s20))))))))))))) → P47 v2 v3 v4 v5 σ) → (∀ (v2 : Int32) (v3 : Int32) (v5 : Int32) (σ : St), (P108 v2 v3 v5 1 σ) → P103 v2 v3 v5 σ) → (∀ (v2 : Int32) (v3 : Int32) (v5 : Int32) (σ : St), (P108 v2 v3 v5 0 σ) → P107 v2 v3 v5 σ) → (∀ (v2 : Int32) (v3 : Int32) (v5 : Int32) (t0 : Int32) (σ : St), (∀ x25 : Int32, x25 = v5 + 1 → P47 v2 v3 t0 x25 σ) → P108 v2 v3 v5 t0 σ) → P3 31 σ) : EV (d + 1) ids Y_X7_findUp [.ref o, .int a0] σ Q := by
  refine E_mk (by decide) (Nat.le_of_ble_eq_true rfl) (fun X hX => ?_)
  replace hX : Cok X ids 6 cX7_findUp none (d + 1) RX7 := hX
  show Wg X ids 6 _ 0 [(0, .ref o), (1, .int a0)] [] σ
  have h := H (fun (v2 : Int32) (σ : St) => (Wg X ids 6 (fun r σ1 => r = none ∧ Q σ1) 3 [(0, .ref o), (1, .int a0), (2, .int v2)] [] σ)) (fun (v2 : Int32) (v3 : Int32) (σ : St) => (Wg X ids 6 (fun r σ1 => r = none ∧ Q σ1) 9 [(0, .ref o), (1, .int a0), (2, .int v2), (3, .int v3)] [] σ)) (fun (v2 : Int32) (v3 : Int32) (σ : St) => (Wg X ids 6 (fun r σ1 => r = none ∧ Q σ1) 41 [(0, .ref o), (1, .int a0), (2, .int v2), (3, .int v3)] [] σ)) (fun (v2 : Int32) (v3 : Int32) (t0 : Int32) (σ : St) => (Wg X ids 6 (fun r σ1 => r = none ∧ Q σ1) 42 [(0, .ref o), (1, .int a0), (2, .int v2), (3, .int v3)] [.int t0] σ)) (fun (v2 : Int32) (v3 : Int32) (v4 : Int32) (v5 : Int32) (σ : St) => (Wg X ids 6 (fun r σ1 => r = none ∧ Q σ1) 47 [(0, .ref o), (1, .int a0), (2, .int v2), (3, .int v3), (4, .int v4), (5, .int v5)] [] σ)) (fun (v2 : Int32) (v3 : Int32) (v5 : Int32) (σ : St) => (Wg X ids 6 (fun r σ1 => r = none ∧ Q σ1) 103 [(0, .ref o), (1, .int a0), (2, .int v2), (3, .int v3), (5, .int v5)] [] σ)) (fun (v2 : Int32) (v3 : Int32) (v5 : Int32) (σ : St) => (Wg X ids 6 (fun r σ1 => r = none ∧ Q σ1) 107 [(0, .ref o), (1, .int a0), (2, .int v2), (3, .int v3), (5, .int v5)] [] σ)) (fun (v2 : Int32) (v3 : Int32) (v5 : Int32) (t0 : Int32) (σ : St) => (Wg X ids 6 (fun r σ1 => r = none ∧ Q σ1) 108 [(0, .ref o), (1, .int a0), (2, .int v2), (3, .int v3), (5, .int v5)] [.int t0] σ))
  replace h := h (fun v2 σ h => by
    refine q_iload_n 2 hX dX7_findUp_3 rfl rfl ?_
    refine q_if_le 141 hX dX7_findUp_4 (by decide) (fun c1 => ?_) (fun c1 => ?_)
    · replace h := h.1 c1
      exact q_vret hX dX7_findUp_141 ⟨rfl, h⟩
    · replace h := h.2 c1
      refine q_iconst (v := 0) hX dX7_findUp_7 (by decide) ?_
      refine q_istore_n (L' := [(3, .int 0), (0, .ref o), (1, .int a0), (2, .int v2)]) hX dX7_findUp_8 rfl (by decide) rfl ?_
      exact Wg.sub [1, 2, 3, 0] rfl (h)
    )
  replace h := h (fun v2 v3 σ h => by
    refine q_iload_n 3 hX dX7_findUp_9 rfl rfl ?_
    refine q_iconst (v := 5) hX dX7_findUp_10 (by decide) ?_
    refine q_icmp_ge 135 hX dX7_findUp_11 (by decide) (fun c2 => ?_) (fun c2 => ?_)
    · replace h := h.1 c2
      obtain ⟨x3, ex3⟩ : ∃ z : Int32, z = v2 + (-1) := ⟨_, rfl⟩
      replace h := h x3 ex3
      refine q_iinc (v := x3) (L' := [(2, .int x3), (0, .ref o), (1, .int a0), (3, .int v3)]) 2 hX dX7_findUp_135 rfl (by rw [ex3]; rfl) (by decide) rfl ?_
      refine q_goto 3 hX dX7_findUp_138 (by decide) ?_
      exact Wg.sub [1, 2, 0] rfl (h)
    · replace h := h.2 c2
      refine q_aload_n 0 hX dX7_findUp_14 rfl rfl ?_
      refine q_iload_n 2 hX dX7_findUp_15 rfl rfl ?_
      refine q_iload_n 3 hX dX7_findUp_16 rfl rfl ?_
      refine cl_X7_37 hX h_o dX7_findUp_17 (Nat.le_of_ble_eq_true rfl) h (fun x5 s4 h => ?_)
      refine q_if_eq 41 hX dX7_findUp_20 (by decide) (fun c6 => ?_) (fun c6 => ?_)
      · replace h := h.1 c6
        exact Wg.sub [0, 1, 2, 3] rfl (h)
      · replace h := h.2 c6
        refine q_aload_n 0 hX dX7_findUp_23 rfl rfl ?_
        refine q_aload_n 0 hX dX7_findUp_24 rfl rfl ?_
        refine gf_X7_22 hX h_o dX7_findUp_25 ?_
        refine q_iload_n 1 hX dX7_findUp_28 rfl rfl ?_
        obtain ⟨b7, h⟩ := h
        refine q_iald hX dX7_findUp_29 (rfO_7_3 h_o) b7 ?_
        refine q_iload_n 3 hX dX7_findUp_30 rfl rfl ?_
        refine cl_X7_37 hX h_o dX7_findUp_31 (Nat.le_of_ble_eq_true rfl) h (fun x9 s8 h => ?_)
        refine q_if_eq 41 hX dX7_findUp_34 (by decide) (fun c10 => ?_) (fun c10 => ?_)
        · replace h := h.1 c10
          exact Wg.sub [0, 1, 2, 3] rfl (h)
        · replace h := h.2 c10
          refine q_iconst (v := 1) hX dX7_findUp_37 (by decide) ?_
          refine q_goto 42 hX dX7_findUp_38 (by decide) ?_
          exact Wg.sub [0, 1, 2, 3] rfl (h)
    )
  replace h := h (fun v2 v3 σ h => by
    refine q_iconst (v := 0) hX dX7_findUp_41 (by decide) ?_
    exact Wg.sub [0, 1, 2, 3] rfl (h)
    )
  replace h := h (fun v2 v3 t0 σ h => by
    refine q_istore (L' := [(4, .int t0), (0, .ref o), (1, .int a0), (2, .int v2), (3, .int v3)]) hX dX7_findUp_42 (by decide) rfl ?_
    refine q_iconst (v := 0) hX dX7_findUp_44 (by decide) ?_
    refine q_istore (L' := [(5, .int 0), (4, .int t0), (0, .ref o), (1, .int a0), (2, .int v2), (3, .int v3)]) hX dX7_findUp_45 (by decide) rfl ?_
    exact Wg.sub [2, 3, 4, 5, 1, 0] rfl (h)
    )
  replace h := h (fun v2 v3 v4 v5 σ h => by
    refine q_iload 5 hX dX7_findUp_47 rfl ?_
    refine q_iconst (v := 5) hX dX7_findUp_49 (by decide) ?_
    refine q_icmp_ge 116 hX dX7_findUp_50 (by decide) (fun c11 => ?_) (fun c11 => ?_)
    · replace h := h.1 c11
      refine q_aload_n 0 hX dX7_findUp_116 rfl rfl ?_
      refine gf_X7_41 hX h_o dX7_findUp_117 ?_
      refine q_bipush (v := 6) hX dX7_findUp_120 (by decide) ?_
      refine q_iload_n 2 hX dX7_findUp_122 rfl rfl ?_
      refine q_imul hX dX7_findUp_123 ?_
      refine q_iload_n 3 hX dX7_findUp_124 rfl rfl ?_
      refine q_iadd hX dX7_findUp_125 ?_
      refine q_iload 4 hX dX7_findUp_126 rfl ?_
      obtain ⟨b12, h⟩ := h
      refine q_zast hX dX7_findUp_128 (rfO_7_7 h_o) b12 ?_
      refine Wg.nmS (fun s13 es13 => ?_)
      replace h := h s13 es13
      obtain ⟨x14, ex14⟩ : ∃ z : Int32, z = v3 + 1 := ⟨_, rfl⟩
      replace h := h x14 ex14
      refine q_iinc (v := x14) (L' := [(3, .int x14), (0, .ref o), (1, .int a0), (2, .int v2), (4, .int v4), (5, .int v5)]) 3 hX dX7_findUp_129 rfl (by rw [ex14]; rfl) (by decide) rfl ?_
      refine q_goto 9 hX dX7_findUp_132 (by decide) ?_
      exact Wg.sub [1, 2, 3, 0] rfl (h)
    · replace h := h.2 c11
      refine q_iload 4 hX dX7_findUp_53 rfl ?_
      refine q_if_eq 107 hX dX7_findUp_55 (by decide) (fun c15 => ?_) (fun c15 => ?_)
      · replace h := h.1 c15
        exact Wg.sub [0, 1, 2, 3, 5] rfl (h)
      · replace h := h.2 c15
        refine q_aload_n 0 hX dX7_findUp_58 rfl rfl ?_
        refine q_aload_n 0 hX dX7_findUp_59 rfl rfl ?_
        refine gf_X7_15 hX h_o dX7_findUp_60 ?_
        refine q_iload_n 3 hX dX7_findUp_63 rfl rfl ?_
        obtain ⟨b16, h⟩ := h
        refine q_iald hX dX7_findUp_64 (rfO_7_1 h_o) b16 ?_
        refine q_iload 5 hX dX7_findUp_65 rfl ?_
        refine cl_X7_37 hX h_o dX7_findUp_67 (Nat.le_of_ble_eq_true rfl) h (fun x18 s17 h => ?_)
        refine q_if_eq 103 hX dX7_findUp_70 (by decide) (fun c19 => ?_) (fun c19 => ?_)
        · replace h := h.1 c19
          exact Wg.sub [0, 1, 2, 3, 5] rfl (h)
        · replace h := h.2 c19
          refine q_aload_n 0 hX dX7_findUp_73 rfl rfl ?_
          refine q_iload_n 2 hX dX7_findUp_74 rfl rfl ?_
          refine q_iload 5 hX dX7_findUp_75 rfl ?_
          refine cl_X7_37 hX h_o dX7_findUp_77 (Nat.le_of_ble_eq_true rfl) h (fun x21 s20 h => ?_)
          refine q_if_ne 103 hX dX7_findUp_80 (by decide) (fun c22 => ?_) (fun c22 => ?_)
          · replace h := h.1 c22
            exact Wg.sub [0, 1, 2, 3, 5] rfl (h)
          · replace h := h.2 c22
            refine q_aload_n 0 hX dX7_findUp_83 rfl rfl ?_
            refine gf_X7_41 hX h_o dX7_findUp_84 ?_
            refine q_bipush (v := 6) hX dX7_findUp_87 (by decide) ?_
            refine q_iload_n 2 hX dX7_findUp_89 rfl rfl ?_
            refine q_iconst (v := 1) hX dX7_findUp_90 (by decide) ?_
            refine q_iload 5 hX dX7_findUp_91 rfl ?_
            refine q_ishl hX dX7_findUp_93 ?_
            refine q_ior hX dX7_findUp_94 ?_
            refine q_imul hX dX7_findUp_95 ?_
            refine q_iload 5 hX dX7_findUp_96 rfl ?_
            refine q_iadd hX dX7_findUp_98 ?_
            obtain ⟨b23, h⟩ := h
            refine q_zald hX dX7_findUp_99 (rfO_7_7 h_o) b23 ?_
            refine q_if_ne 107 hX dX7_findUp_100 (by decide) (fun c24 => ?_) (fun c24 => ?_)
            · replace h := h.1 c24
              exact Wg.sub [0, 1, 2, 3, 5] rfl (h)
            · replace h := h.2 c24
              exact Wg.sub [0, 1, 2, 3, 5] rfl (h)
    )
  replace h := h (fun v2 v3 v5 σ h => by
    refine q_iconst (v := 1) hX dX7_findUp_103 (by decide) ?_
    refine q_goto 108 hX dX7_findUp_104 (by decide) ?_
    exact Wg.sub [0, 1, 2, 3, 4] rfl (h)
    )
  replace h := h (fun v2 v3 v5 σ h => by
    refine q_iconst (v := 0) hX dX7_findUp_107 (by decide) ?_
    exact Wg.sub [0, 1, 2, 3, 4] rfl (h)
    )
  replace h := h (fun v2 v3 v5 t0 σ h => by
    refine q_istore (L' := [(4, .int t0), (0, .ref o), (1, .int a0), (2, .int v2), (3, .int v3), (5, .int v5)]) hX dX7_findUp_108 (by decide) rfl ?_
    obtain ⟨x25, ex25⟩ : ∃ z : Int32, z = v5 + 1 := ⟨_, rfl⟩
    replace h := h x25 ex25
    refine q_iinc (v := x25) (L' := [(5, .int x25), (4, .int t0), (0, .ref o), (1, .int a0), (2, .int v2), (3, .int v3)]) 5 hX dX7_findUp_110 rfl (by rw [ex25]; rfl) (by decide) rfl ?_
    refine q_goto 47 hX dX7_findUp_113 (by decide) ?_
    exact Wg.sub [2, 3, 4, 5, 1, 0] rfl (h)
    )
  refine q_bipush (v := 31) hX dX7_findUp_0 (by decide) ?_
  refine q_istore_n (L' := [(2, .int 31), (0, .ref o), (1, .int a0)]) hX dX7_findUp_2 rfl (by decide) rfl ?_
  exact Wg.sub [1, 2, 0] rfl (h)
set_option maxHeartbeats 4000000 in
set_option maxRecDepth 20000 in
theorem fl_X7_of {d : Nat} {ids : List Nat} {o : Nat} {a0 : Int32} {a1 : Int32} {a2 : Int32} {σ : St} {Q : Int32 → St → Prop} (h_o : IO ids o 7) (H : ∀ (P46 : Int32 → St → Prop), (∀ (v4 : Int32) (σ : St), (((a2 = 0 → vp_in v4 24 ∧ Q (gi σ (rf o 4) (Int32.toNatClampNeg v4)) σ) ∧ (a2 = 1 → vp_in v4 24 ∧ Q (gi σ (rf o 5) (Int32.toNatClampNeg v4)) σ) ∧ (a2 = 2 → vp_in v4 24 ∧ Q (gi σ (rf o 6) (Int32.toNatClampNeg v4)) σ) ∧ (a2 = 3 → vp_in a0 4 ∧ Q (((gi σ (rf o 3) (Int32.toNatClampNeg a0)) >>> (a1 &&& 31)) &&& 1) σ) ∧ (¬ a2 = 0 → ¬ a2 = 1 → ¬ a2 = 2 → ¬ a2 = 3 → vp_in ((6 * ((1 : Int32) <<< (a1 &&& 31))) + a1) 384 ∧ (((gi σ (rf o 7) (Int32.toNatClampNeg ((6 * ((1 : Int32) <<< (a1 &&& 31))) + a1))) = 0 → Q 0 σ) ∧ (¬ (gi σ (rf o 7) (Int32.toNatClampNeg ((6 * ((1 : Int32) <<< (a1 &&& 31))) + a1))) = 0 → Q 1 σ))))) → P46 v4 σ) → EI d ids Y_X7_isCase [.ref o, .int a0] σ (fun x9 s8 => ((x9 = 0 → Q (-1) s8) ∧ (¬ x9 = 0 → EI d ids Y_X7_isPoint [.ref o, .int a1] s8 (fun x12 s11 => ((x12 = 0 → Q (-1) s11) ∧ (¬ x12 = 0 → EI d ids Y_X7_in [.ref o, .int a2, .int 0, .int 4] s11 (fun x15 s14 => ((¬ x15 = 0 → ∀ x17 : Int32, x17 = ((6 * a0) + a1) → ((¬ a2 = 4 → P46 x17 s14) ∧ (a2 = 4 → EV d ids Y_X7_findUp [.ref o, .int a0] s14 (fun s19 => P46 x17 s19)))) ∧ (x15 = 0 → Q (-1) s14)))))))))) : EI (d + 1) ids Y_X7_of [.ref o, .int a0, .int a1, .int a2] σ Q := by
  refine E_mk (by decide) (Nat.le_of_ble_eq_true rfl) (fun X hX => ?_)
  replace hX : Cok X ids 5 cX7_of (some .int) (d + 1) RX7 := hX
  show Wg X ids 5 _ 0 [(0, .ref o), (1, .int a0), (2, .int a1), (3, .int a2)] [] σ
  have h := H (fun (v4 : Int32) (σ : St) => (Wg X ids 5 (fun r σ1 => ∃ x, r = some (Value.int x) ∧ Q x σ1) 46 [(0, .ref o), (1, .int a0), (2, .int a1), (3, .int a2), (4, .int v4)] [] σ))
  replace h := h (fun v4 σ h => by
    refine q_iload_n 3 hX dX7_of_46 rfl rfl ?_
    by_cases c1_0 : a2 = 0
    · refine q_tableIn (off := 29) 76 hX dX7_of_47 (by rw [c1_0]; decide) (by rw [c1_0]; decide) (by first | (rw [c1_0]; done) | (rw [c1_0]; rfl)) (by decide) ?_
      replace h := h.1 c1_0
      refine q_aload_n 0 hX dX7_of_76 rfl rfl ?_
      refine gf_X7_25 hX h_o dX7_of_77 ?_
      refine q_iload 4 hX dX7_of_80 rfl ?_
      obtain ⟨b2, h⟩ := h
      refine q_iald hX dX7_of_82 (rfO_7_4 h_o) b2 ?_
      exact q_ret hX dX7_of_83 ⟨_, rfl, h⟩
    by_cases c1_1 : a2 = 1
    · refine q_tableIn (off := 37) 84 hX dX7_of_47 (by rw [c1_1]; decide) (by rw [c1_1]; decide) (by first | (rw [c1_1]; done) | (rw [c1_1]; rfl)) (by decide) ?_
      replace h := h.2.1 c1_1
      refine q_aload_n 0 hX dX7_of_84 rfl rfl ?_
      refine gf_X7_28 hX h_o dX7_of_85 ?_
      refine q_iload 4 hX dX7_of_88 rfl ?_
      obtain ⟨b3, h⟩ := h
      refine q_iald hX dX7_of_90 (rfO_7_5 h_o) b3 ?_
      exact q_ret hX dX7_of_91 ⟨_, rfl, h⟩
    by_cases c1_2 : a2 = 2
    · refine q_tableIn (off := 45) 92 hX dX7_of_47 (by rw [c1_2]; decide) (by rw [c1_2]; decide) (by first | (rw [c1_2]; done) | (rw [c1_2]; rfl)) (by decide) ?_
      replace h := h.2.2.1 c1_2
      refine q_aload_n 0 hX dX7_of_92 rfl rfl ?_
      refine gf_X7_31 hX h_o dX7_of_93 ?_
      refine q_iload 4 hX dX7_of_96 rfl ?_
      obtain ⟨b4, h⟩ := h
      refine q_iald hX dX7_of_98 (rfO_7_6 h_o) b4 ?_
      exact q_ret hX dX7_of_99 ⟨_, rfl, h⟩
    by_cases c1_3 : a2 = 3
    · refine q_tableIn (off := 53) 100 hX dX7_of_47 (by rw [c1_3]; decide) (by rw [c1_3]; decide) (by first | (rw [c1_3]; done) | (rw [c1_3]; rfl)) (by decide) ?_
      replace h := h.2.2.2.1 c1_3
      refine q_aload_n 0 hX dX7_of_100 rfl rfl ?_
      refine gf_X7_22 hX h_o dX7_of_101 ?_
      refine q_iload_n 1 hX dX7_of_104 rfl rfl ?_
      obtain ⟨b5, h⟩ := h
      refine q_iald hX dX7_of_105 (rfO_7_3 h_o) b5 ?_
      refine q_iload_n 2 hX dX7_of_106 rfl rfl ?_
      refine q_ishr hX dX7_of_107 ?_
      refine q_iconst (v := 1) hX dX7_of_108 (by decide) ?_
      refine q_iand hX dX7_of_109 ?_
      exact q_ret hX dX7_of_110 ⟨_, rfl, h⟩
    refine q_tableOut 111 hX dX7_of_47 (by have e0 := ne_toInt (k := 0) c1_0 (by decide); have e1 := ne_toInt (k := 1) c1_1 (by decide); have e2 := ne_toInt (k := 2) c1_2 (by decide); have e3 := ne_toInt (k := 3) c1_3 (by decide); omega) (by decide) ?_
    replace h := h.2.2.2.2 c1_0 c1_1 c1_2 c1_3
    refine q_aload_n 0 hX dX7_of_111 rfl rfl ?_
    refine gf_X7_41 hX h_o dX7_of_112 ?_
    refine q_bipush (v := 6) hX dX7_of_115 (by decide) ?_
    refine q_iconst (v := 1) hX dX7_of_117 (by decide) ?_
    refine q_iload_n 2 hX dX7_of_118 rfl rfl ?_
    refine q_ishl hX dX7_of_119 ?_
    refine q_imul hX dX7_of_120 ?_
    refine q_iload_n 2 hX dX7_of_121 rfl rfl ?_
    refine q_iadd hX dX7_of_122 ?_
    obtain ⟨b6, h⟩ := h
    refine q_zald hX dX7_of_123 (rfO_7_7 h_o) b6 ?_
    refine q_if_eq 131 hX dX7_of_124 (by decide) (fun c7 => ?_) (fun c7 => ?_)
    · replace h := h.1 c7
      refine q_iconst (v := 0) hX dX7_of_131 (by decide) ?_
      exact q_ret hX dX7_of_132 ⟨_, rfl, h⟩
    · replace h := h.2 c7
      refine q_iconst (v := 1) hX dX7_of_127 (by decide) ?_
      refine q_goto 132 hX dX7_of_128 (by decide) ?_
      exact q_ret hX dX7_of_132 ⟨_, rfl, h⟩
    )
  refine q_aload_n 0 hX dX7_of_0 rfl rfl ?_
  refine q_iload_n 1 hX dX7_of_1 rfl rfl ?_
  refine cl_X7_34 hX h_o dX7_of_2 (Nat.le_of_ble_eq_true rfl) h (fun x9 s8 h => ?_)
  refine q_if_eq 26 hX dX7_of_5 (by decide) (fun c10 => ?_) (fun c10 => ?_)
  · replace h := h.1 c10
    refine q_iconst (v := (-1)) hX dX7_of_26 (by decide) ?_
    exact q_ret hX dX7_of_27 ⟨_, rfl, h⟩
  · replace h := h.2 c10
    refine q_aload_n 0 hX dX7_of_8 rfl rfl ?_
    refine q_iload_n 2 hX dX7_of_9 rfl rfl ?_
    refine cl_X7_11 hX h_o dX7_of_10 (Nat.le_of_ble_eq_true rfl) h (fun x12 s11 h => ?_)
    refine q_if_eq 26 hX dX7_of_13 (by decide) (fun c13 => ?_) (fun c13 => ?_)
    · replace h := h.1 c13
      refine q_iconst (v := (-1)) hX dX7_of_26 (by decide) ?_
      exact q_ret hX dX7_of_27 ⟨_, rfl, h⟩
    · replace h := h.2 c13
      refine q_aload_n 0 hX dX7_of_16 rfl rfl ?_
      refine q_iload_n 3 hX dX7_of_17 rfl rfl ?_
      refine q_iconst (v := 0) hX dX7_of_18 (by decide) ?_
      refine q_iconst (v := 4) hX dX7_of_19 (by decide) ?_
      refine cl_X7_1 hX h_o dX7_of_20 (Nat.le_of_ble_eq_true rfl) h (fun x15 s14 h => ?_)
      refine q_if_ne 28 hX dX7_of_23 (by decide) (fun c16 => ?_) (fun c16 => ?_)
      · replace h := h.1 c16
        refine q_bipush (v := 6) hX dX7_of_28 (by decide) ?_
        refine q_iload_n 1 hX dX7_of_30 rfl rfl ?_
        refine q_imul hX dX7_of_31 ?_
        refine q_iload_n 2 hX dX7_of_32 rfl rfl ?_
        refine q_iadd hX dX7_of_33 ?_
        refine Wg.nmI (fun x17 ex17 => ?_)
        replace h := h x17 ex17
        refine q_istore (L' := [(4, .int x17), (0, .ref o), (1, .int a0), (2, .int a1), (3, .int a2)]) hX dX7_of_34 (by decide) rfl ?_
        refine q_iload_n 4 hX dX7_of_36 rfl rfl ?_
        refine q_iconst (v := 4) hX dX7_of_37 (by decide) ?_
        refine q_icmp_ne 46 hX dX7_of_38 (by decide) (fun c18 => ?_) (fun c18 => ?_)
        · replace h := h.1 c18
          exact Wg.sub [1, 2, 3, 4, 0] rfl (h)
        · replace h := h.2 c18
          refine q_aload_n 1 hX dX7_of_41 rfl rfl ?_
          refine q_iload_n 2 hX dX7_of_42 rfl rfl ?_
          refine cl_X7_45 hX h_o dX7_of_43 (Nat.le_of_ble_eq_true rfl) h (fun s19 h => ?_)
          exact Wg.sub [1, 2, 3, 4, 0] rfl (h)
      · replace h := h.2 c16
        refine q_iconst (v := (-1)) hX dX7_of_26 (by decide) ?_
        exact q_ret hX dX7_of_27 ⟨_, rfl, h⟩
set_option maxHeartbeats 4000000 in
set_option maxRecDepth 20000 in
theorem fl_X7_isOught {d : Nat} {ids : List Nat} {o : Nat} {a0 : Int32} {σ : St} {Q : Int32 → St → Prop} (h_o : IO ids o 7) (H : EV d ids Y_X7_findUp [.ref o, .int a0] σ (fun s1 => (((gi s1 (rf o 7) (Int32.toNatClampNeg 6)) = 0 → Q 0 s1) ∧ (¬ (gi s1 (rf o 7) (Int32.toNatClampNeg 6)) = 0 → vp_in (6 * a0) 24 ∧ (((gi s1 (rf o 6) (Int32.toNatClampNeg (6 * a0))) < 5 → Q 0 s1) ∧ (¬ ((gi s1 (rf o 6) (Int32.toNatClampNeg (6 * a0))) < 5) → Q 1 s1)))))) : EI (d + 1) ids Y_X7_isOught [.ref o, .int a0] σ Q := by
  refine E_mk (by decide) (Nat.le_of_ble_eq_true rfl) (fun X hX => ?_)
  replace hX : Cok X ids 2 cX7_isOught (some .boolean) (d + 1) RX7 := hX
  show Wg X ids 2 _ 0 [(0, .ref o), (1, .int a0)] [] σ
  have h := H
  refine q_aload_n 0 hX dX7_isOught_0 rfl rfl ?_
  refine q_iload_n 1 hX dX7_isOught_1 rfl rfl ?_
  refine cl_X7_45 hX h_o dX7_isOught_2 (Nat.le_of_ble_eq_true rfl) h (fun s1 h => ?_)
  refine q_aload_n 0 hX dX7_isOught_5 rfl rfl ?_
  refine gf_X7_41 hX h_o dX7_isOught_6 ?_
  refine q_bipush (v := 6) hX dX7_isOught_9 (by decide) ?_
  refine q_zald hX dX7_isOught_11 (rfO_7_7 h_o) (vp_dec (by decide)) ?_
  refine q_if_eq 32 hX dX7_isOught_12 (by decide) (fun c2 => ?_) (fun c2 => ?_)
  · replace h := h.1 c2
    refine q_iconst (v := 0) hX dX7_isOught_32 (by decide) ?_
    exact q_zret hX dX7_isOught_33 (by decide) ⟨_, rfl, h⟩
  · replace h := h.2 c2
    refine q_aload_n 0 hX dX7_isOught_15 rfl rfl ?_
    refine gf_X7_31 hX h_o dX7_isOught_16 ?_
    refine q_bipush (v := 6) hX dX7_isOught_19 (by decide) ?_
    refine q_iload_n 1 hX dX7_isOught_21 rfl rfl ?_
    refine q_imul hX dX7_isOught_22 ?_
    obtain ⟨b3, h⟩ := h
    refine q_iald hX dX7_isOught_23 (rfO_7_6 h_o) b3 ?_
    refine q_iconst (v := 5) hX dX7_isOught_24 (by decide) ?_
    refine q_icmp_lt 32 hX dX7_isOught_25 (by decide) (fun c4 => ?_) (fun c4 => ?_)
    · replace h := h.1 c4
      refine q_iconst (v := 0) hX dX7_isOught_32 (by decide) ?_
      exact q_zret hX dX7_isOught_33 (by decide) ⟨_, rfl, h⟩
    · replace h := h.2 c4
      refine q_iconst (v := 1) hX dX7_isOught_28 (by decide) ?_
      refine q_goto 33 hX dX7_isOught_29 (by decide) ?_
      exact q_zret hX dX7_isOught_33 (by decide) ⟨_, rfl, h⟩
set_option maxHeartbeats 4000000 in
set_option maxRecDepth 20000 in
theorem fl_X7_ought {d : Nat} {ids : List Nat} {o : Nat} {a0 : Int32} {σ : St} {Q : Int32 → St → Prop} (h_o : IO ids o 7) (H : EI d ids Y_X7_isCase [.ref o, .int a0] σ (fun x2 s1 => ((¬ x2 = 0 → EI d ids Y_X7_isOught [.ref o, .int a0] s1 (fun x5 s4 => ((x5 = 0 → Q 0 s4) ∧ (¬ x5 = 0 → Q 1 s4)))) ∧ (x2 = 0 → Q (-1) s1)))) : EI (d + 1) ids Y_X7_ought [.ref o, .int a0] σ Q := by
  refine E_mk (by decide) (Nat.le_of_ble_eq_true rfl) (fun X hX => ?_)
  replace hX : Cok X ids 2 cX7_ought (some .int) (d + 1) RX7 := hX
  show Wg X ids 2 _ 0 [(0, .ref o), (1, .int a0)] [] σ
  have h := H
  refine q_aload_n 0 hX dX7_ought_0 rfl rfl ?_
  refine q_iload_n 1 hX dX7_ought_1 rfl rfl ?_
  refine cl_X7_34 hX h_o dX7_ought_2 (Nat.le_of_ble_eq_true rfl) h (fun x2 s1 h => ?_)
  refine q_if_ne 12 hX dX7_ought_5 (by decide) (fun c3 => ?_) (fun c3 => ?_)
  · replace h := h.1 c3
    refine q_aload_n 0 hX dX7_ought_12 rfl rfl ?_
    refine q_iload_n 1 hX dX7_ought_13 rfl rfl ?_
    refine cl_X7_49 hX h_o dX7_ought_14 (Nat.le_of_ble_eq_true rfl) h (fun x5 s4 h => ?_)
    refine q_if_eq 24 hX dX7_ought_17 (by decide) (fun c6 => ?_) (fun c6 => ?_)
    · replace h := h.1 c6
      refine q_iconst (v := 0) hX dX7_ought_24 (by decide) ?_
      exact q_ret hX dX7_ought_25 ⟨_, rfl, h⟩
    · replace h := h.2 c6
      refine q_iconst (v := 1) hX dX7_ought_20 (by decide) ?_
      refine q_goto 25 hX dX7_ought_21 (by decide) ?_
      exact q_ret hX dX7_ought_25 ⟨_, rfl, h⟩
  · replace h := h.2 c3
    refine q_iconst (v := (-1)) hX dX7_ought_8 (by decide) ?_
    refine q_goto 25 hX dX7_ought_9 (by decide) ?_
    exact q_ret hX dX7_ought_25 ⟨_, rfl, h⟩
set_option maxHeartbeats 4000000 in
set_option maxRecDepth 20000 in
theorem fl_X7_isRules {d : Nat} {ids : List Nat} {o : Nat} {a0 : Int32} {σ : St} {Q : Int32 → St → Prop} (h_o : IO ids o 7) (H : EI d ids Y_X7_in [.ref o, .int a0, .int 0, .int ((gi σ o 8) - 1)] σ (fun x2 s1 => ((x2 = 0 ∨ x2 = 1) ∧ Q x2 s1))) : EI (d + 1) ids Y_X7_isRules [.ref o, .int a0] σ Q := by
  refine E_mk (by decide) (Nat.le_of_ble_eq_true rfl) (fun X hX => ?_)
  replace hX : Cok X ids 2 cX7_isRules (some .boolean) (d + 1) RX7 := hX
  show Wg X ids 2 _ 0 [(0, .ref o), (1, .int a0)] [] σ
  have h := H
  refine q_aload_n 0 hX dX7_isRules_0 rfl rfl ?_
  refine q_iload_n 1 hX dX7_isRules_1 rfl rfl ?_
  refine q_iconst (v := 0) hX dX7_isRules_2 (by decide) ?_
  refine q_aload_n 0 hX dX7_isRules_3 rfl rfl ?_
  refine gf_X7_52 hX h_o dX7_isRules_4 ?_
  refine q_iconst (v := 1) hX dX7_isRules_7 (by decide) ?_
  refine q_isub hX dX7_isRules_8 ?_
  refine cl_X7_1 hX h_o dX7_isRules_9 (Nat.le_of_ble_eq_true rfl) h (fun x2 s1 h => ?_)
  exact q_zret hX dX7_isRules_12 h.1 ⟨_, rfl, h.2⟩
set_option maxHeartbeats 4000000 in
set_option maxRecDepth 20000 in
theorem fl_X7_feed {d : Nat} {ids : List Nat} {o : Nat} {a0 : Int32} {a1 : Int32} {σ : St} {Q : Int32 → St → Prop} (h_o : IO ids o 7) (H : ∀ (P31 : Int32 → St → Prop), (∀ (v3 : Int32) (σ : St), (((v3 < 0 → Q (gi σ o 9) σ) ∧ (¬ (v3 < 0) → vp_in (gi σ o 9) 100 ∧ ∀ s3 : St, s3 = si σ (rf o 12) (Int32.toNatClampNeg (gi σ o 9)) (Int8.toInt32 (Int32.toInt8 (a0 >>> ((8 * v3) &&& 31)))) → ∀ s4 : St, s4 = si s3 o 9 ((gi s3 o 9) + 1) → ∀ x5 : Int32, x5 = v3 + (-1) → P31 x5 s4))) → P31 v3 σ) → EI d ids Y_X7_in [.ref o, .int a1, .int 0, .int 4] σ (fun x7 s6 => ((¬ x7 = 0 → ((((gi s6 o 9) + a1) ≤ 100 → ∀ x10 : Int32, x10 = (a1 - 1) → P31 x10 s6) ∧ (¬ (((gi s6 o 9) + a1) ≤ 100) → Q (-4) s6))) ∧ (x7 = 0 → Q (-2) s6)))) : EI (d + 1) ids Y_X7_feed [.ref o, .int a0, .int a1] σ Q := by
  refine E_mk (by decide) (Nat.le_of_ble_eq_true rfl) (fun X hX => ?_)
  replace hX : Cok X ids 4 cX7_feed (some .int) (d + 1) RX7 := hX
  show Wg X ids 4 _ 0 [(0, .ref o), (1, .int a0), (2, .int a1)] [] σ
  have h := H (fun (v3 : Int32) (σ : St) => (Wg X ids 4 (fun r σ1 => ∃ x, r = some (Value.int x) ∧ Q x σ1) 31 [(0, .ref o), (1, .int a0), (3, .int v3)] [] σ))
  replace h := h (fun v3 σ h => by
    refine q_iload_n 2 hX dX7_feed_31 rfl rfl ?_
    refine q_if_lt 67 hX dX7_feed_32 (by decide) (fun c1 => ?_) (fun c1 => ?_)
    · replace h := h.1 c1
      refine q_aload_n 0 hX dX7_feed_67 rfl rfl ?_
      refine gf_X7_55 hX h_o dX7_feed_68 ?_
      exact q_ret hX dX7_feed_71 ⟨_, rfl, h⟩
    · replace h := h.2 c1
      refine q_aload_n 0 hX dX7_feed_35 rfl rfl ?_
      refine gf_X7_58 hX h_o dX7_feed_36 ?_
      refine q_aload_n 0 hX dX7_feed_39 rfl rfl ?_
      refine gf_X7_55 hX h_o dX7_feed_40 ?_
      refine q_iload_n 1 hX dX7_feed_43 rfl rfl ?_
      refine q_bipush (v := 8) hX dX7_feed_44 (by decide) ?_
      refine q_iload_n 2 hX dX7_feed_46 rfl rfl ?_
      refine q_imul hX dX7_feed_47 ?_
      refine q_ishr hX dX7_feed_48 ?_
      refine q_i2b hX dX7_feed_49 ?_
      obtain ⟨b2, h⟩ := h
      refine q_iast hX dX7_feed_50 (rfO_7_12 h_o) b2 ?_
      refine Wg.nmS (fun s3 es3 => ?_)
      replace h := h s3 es3
      refine q_aload_n 0 hX dX7_feed_51 rfl rfl ?_
      refine q_dup hX dX7_feed_52 rfl ?_
      refine gf_X7_55 hX h_o dX7_feed_53 ?_
      refine q_iconst (v := 1) hX dX7_feed_56 (by decide) ?_
      refine q_iadd hX dX7_feed_57 ?_
      refine pf_X7_55 hX h_o dX7_feed_58 ?_
      refine Wg.nmS (fun s4 es4 => ?_)
      replace h := h s4 es4
      obtain ⟨x5, ex5⟩ : ∃ z : Int32, z = v3 + (-1) := ⟨_, rfl⟩
      replace h := h x5 ex5
      refine q_iinc (v := x5) (L' := [(3, .int x5), (0, .ref o), (1, .int a0)]) 2 hX dX7_feed_61 rfl (by rw [ex5]; rfl) (by decide) rfl ?_
      refine q_goto 31 hX dX7_feed_64 (by decide) ?_
      exact Wg.sub [1, 2, 0] rfl (h)
    )
  refine q_aload_n 0 hX dX7_feed_0 rfl rfl ?_
  refine q_iload_n 2 hX dX7_feed_1 rfl rfl ?_
  refine q_iconst (v := 0) hX dX7_feed_2 (by decide) ?_
  refine q_iconst (v := 4) hX dX7_feed_3 (by decide) ?_
  refine cl_X7_1 hX h_o dX7_feed_4 (Nat.le_of_ble_eq_true rfl) h (fun x7 s6 h => ?_)
  refine q_if_ne 13 hX dX7_feed_7 (by decide) (fun c8 => ?_) (fun c8 => ?_)
  · replace h := h.1 c8
    refine q_aload_n 0 hX dX7_feed_13 rfl rfl ?_
    refine gf_X7_55 hX h_o dX7_feed_14 ?_
    refine q_iload_n 2 hX dX7_feed_17 rfl rfl ?_
    refine q_iadd hX dX7_feed_18 ?_
    refine q_bipush (v := 100) hX dX7_feed_19 (by decide) ?_
    refine q_icmp_le 27 hX dX7_feed_21 (by decide) (fun c9 => ?_) (fun c9 => ?_)
    · replace h := h.1 c9
      refine q_iload_n 2 hX dX7_feed_27 rfl rfl ?_
      refine q_iconst (v := 1) hX dX7_feed_28 (by decide) ?_
      refine q_isub hX dX7_feed_29 ?_
      refine Wg.nmI (fun x10 ex10 => ?_)
      replace h := h x10 ex10
      refine q_istore_n (L' := [(3, .int x10), (0, .ref o), (1, .int a0), (2, .int a1)]) hX dX7_feed_30 rfl (by decide) rfl ?_
      exact Wg.sub [1, 2, 0] rfl (h)
    · replace h := h.2 c9
      refine q_bipush (v := (-4)) hX dX7_feed_24 (by decide) ?_
      exact q_ret hX dX7_feed_26 ⟨_, rfl, h⟩
  · replace h := h.2 c8
    refine q_bipush (v := (-2)) hX dX7_feed_10 (by decide) ?_
    exact q_ret hX dX7_feed_12 ⟨_, rfl, h⟩
set_option maxHeartbeats 4000000 in
set_option maxRecDepth 20000 in
theorem fl_X7_next {d : Nat} {ids : List Nat} {o : Nat} {σ : St} {Q : Int32 → St → Prop} (h_o : IO ids o 7) (H : (((gi σ o 9) ≤ (gi σ o 10) → Q (-1) σ) ∧ (¬ ((gi σ o 9) ≤ (gi σ o 10)) → vp_in (gi σ o 10) 100 ∧ Q (gi σ (rf o 12) (Int32.toNatClampNeg (gi σ o 10))) σ))) : EI (d + 1) ids Y_X7_next [.ref o] σ Q := by
  refine E_mk (by decide) (Nat.le_of_ble_eq_true rfl) (fun X hX => ?_)
  replace hX : Cok X ids 1 cX7_next (some .int) (d + 1) RX7 := hX
  show Wg X ids 1 _ 0 [(0, .ref o)] [] σ
  have h := H
  refine q_aload_n 0 hX dX7_next_0 rfl rfl ?_
  refine gf_X7_61 hX h_o dX7_next_1 ?_
  refine q_aload_n 0 hX dX7_next_4 rfl rfl ?_
  refine gf_X7_55 hX h_o dX7_next_5 ?_
  refine q_icmp_ge 23 hX dX7_next_8 (by decide) (fun c1 => ?_) (fun c1 => ?_)
  · replace h := h.1 c1
    refine q_iconst (v := (-1)) hX dX7_next_23 (by decide) ?_
    exact q_ret hX dX7_next_24 ⟨_, rfl, h⟩
  · replace h := h.2 c1
    refine q_aload_n 0 hX dX7_next_11 rfl rfl ?_
    refine gf_X7_58 hX h_o dX7_next_12 ?_
    refine q_aload_n 0 hX dX7_next_15 rfl rfl ?_
    refine gf_X7_61 hX h_o dX7_next_16 ?_
    obtain ⟨b2, h⟩ := h
    refine q_iald hX dX7_next_19 (rfO_7_12 h_o) b2 ?_
    refine q_goto 24 hX dX7_next_20 (by decide) ?_
    exact q_ret hX dX7_next_24 ⟨_, rfl, h⟩
set_option maxHeartbeats 4000000 in
set_option maxRecDepth 20000 in
theorem fl_X7_takes {d : Nat} {ids : List Nat} {o : Nat} {a0 : Int32} {σ : St} {Q : Int32 → St → Prop} (h_o : IO ids o 7) (H : EI d ids Y_X7_next [.ref o] σ (fun x2 s1 => ((x2 = a0 → ∀ s4 : St, s4 = si s1 o 10 ((gi s1 o 10) + 1) → Q 1 s4) ∧ (¬ x2 = a0 → Q 0 s1)))) : EI (d + 1) ids Y_X7_takes [.ref o, .int a0] σ Q := by
  refine E_mk (by decide) (Nat.le_of_ble_eq_true rfl) (fun X hX => ?_)
  replace hX : Cok X ids 2 cX7_takes (some .boolean) (d + 1) RX7 := hX
  show Wg X ids 2 _ 0 [(0, .ref o), (1, .int a0)] [] σ
  have h := H
  refine q_aload_n 0 hX dX7_takes_0 rfl rfl ?_
  refine cl_X7_64 hX h_o dX7_takes_1 (Nat.le_of_ble_eq_true rfl) h (fun x2 s1 h => ?_)
  refine q_iload_n 1 hX dX7_takes_4 rfl rfl ?_
  refine q_icmp_eq 10 hX dX7_takes_5 (by decide) (fun c3 => ?_) (fun c3 => ?_)
  · replace h := h.1 c3
    refine q_aload_n 0 hX dX7_takes_10 rfl rfl ?_
    refine q_dup hX dX7_takes_11 rfl ?_
    refine gf_X7_61 hX h_o dX7_takes_12 ?_
    refine q_iconst (v := 1) hX dX7_takes_15 (by decide) ?_
    refine q_iadd hX dX7_takes_16 ?_
    refine pf_X7_61 hX h_o dX7_takes_17 ?_
    refine Wg.nmS (fun s4 es4 => ?_)
    replace h := h s4 es4
    refine q_iconst (v := 1) hX dX7_takes_20 (by decide) ?_
    exact q_zret hX dX7_takes_21 (by decide) ⟨_, rfl, h⟩
  · replace h := h.2 c3
    refine q_iconst (v := 0) hX dX7_takes_8 (by decide) ?_
    exact q_zret hX dX7_takes_9 (by decide) ⟨_, rfl, h⟩
set_option maxHeartbeats 4000000 in
set_option maxRecDepth 20000 in
theorem fl_X7_takesWord {d : Nat} {ids : List Nat} {o : Nat} {a0 : Int32} {a1 : Int32} {σ : St} {Q : Int32 → St → Prop} (h_o : IO ids o 7) (H : ∀ (P4 : Int32 → St → Prop), (∀ (v3 : Int32) (σ : St), (((v3 < 0 → EI d ids Y_X7_takes [.ref o, .int 32] σ (fun x3 s2 => ((x3 = 0 ∨ x3 = 1) ∧ Q x3 s2))) ∧ (¬ (v3 < 0) → EI d ids Y_X7_takes [.ref o, .int (96 + ((a0 >>> ((5 * v3) &&& 31)) &&& 31))] σ (fun x5 s4 => ((¬ x5 = 0 → ∀ x7 : Int32, x7 = v3 + (-1) → P4 x7 s4) ∧ (x5 = 0 → Q 0 s4)))))) → P4 v3 σ) → ∀ x8 : Int32, x8 = (a1 - 1) → P4 x8 σ) : EI (d + 1) ids Y_X7_takesWord [.ref o, .int a0, .int a1] σ Q := by
  refine E_mk (by decide) (Nat.le_of_ble_eq_true rfl) (fun X hX => ?_)
  replace hX : Cok X ids 4 cX7_takesWord (some .boolean) (d + 1) RX7 := hX
  show Wg X ids 4 _ 0 [(0, .ref o), (1, .int a0), (2, .int a1)] [] σ
  have h := H (fun (v3 : Int32) (σ : St) => (Wg X ids 4 (fun r σ1 => ∃ x, r = some (Value.int x) ∧ Q x σ1) 4 [(0, .ref o), (1, .int a0), (3, .int v3)] [] σ))
  replace h := h (fun v3 σ h => by
    refine q_iload_n 2 hX dX7_takesWord_4 rfl rfl ?_
    refine q_if_lt 34 hX dX7_takesWord_5 (by decide) (fun c1 => ?_) (fun c1 => ?_)
    · replace h := h.1 c1
      refine q_aload_n 0 hX dX7_takesWord_34 rfl rfl ?_
      refine q_bipush (v := 32) hX dX7_takesWord_35 (by decide) ?_
      refine cl_X7_68 hX h_o dX7_takesWord_37 (Nat.le_of_ble_eq_true rfl) h (fun x3 s2 h => ?_)
      exact q_zret hX dX7_takesWord_40 h.1 ⟨_, rfl, h.2⟩
    · replace h := h.2 c1
      refine q_aload_n 0 hX dX7_takesWord_8 rfl rfl ?_
      refine q_bipush (v := 96) hX dX7_takesWord_9 (by decide) ?_
      refine q_iload_n 1 hX dX7_takesWord_11 rfl rfl ?_
      refine q_iconst (v := 5) hX dX7_takesWord_12 (by decide) ?_
      refine q_iload_n 2 hX dX7_takesWord_13 rfl rfl ?_
      refine q_imul hX dX7_takesWord_14 ?_
      refine q_ishr hX dX7_takesWord_15 ?_
      refine q_bipush (v := 31) hX dX7_takesWord_16 (by decide) ?_
      refine q_iand hX dX7_takesWord_18 ?_
      refine q_iadd hX dX7_takesWord_19 ?_
      refine cl_X7_68 hX h_o dX7_takesWord_20 (Nat.le_of_ble_eq_true rfl) h (fun x5 s4 h => ?_)
      refine q_if_ne 28 hX dX7_takesWord_23 (by decide) (fun c6 => ?_) (fun c6 => ?_)
      · replace h := h.1 c6
        obtain ⟨x7, ex7⟩ : ∃ z : Int32, z = v3 + (-1) := ⟨_, rfl⟩
        replace h := h x7 ex7
        refine q_iinc (v := x7) (L' := [(3, .int x7), (0, .ref o), (1, .int a0)]) 2 hX dX7_takesWord_28 rfl (by rw [ex7]; rfl) (by decide) rfl ?_
        refine q_goto 4 hX dX7_takesWord_31 (by decide) ?_
        exact Wg.sub [1, 2, 0] rfl (h)
      · replace h := h.2 c6
        refine q_iconst (v := 0) hX dX7_takesWord_26 (by decide) ?_
        exact q_zret hX dX7_takesWord_27 (by decide) ⟨_, rfl, h⟩
    )
  refine q_iload_n 2 hX dX7_takesWord_0 rfl rfl ?_
  refine q_iconst (v := 1) hX dX7_takesWord_1 (by decide) ?_
  refine q_isub hX dX7_takesWord_2 ?_
  refine Wg.nmI (fun x8 ex8 => ?_)
  replace h := h x8 ex8
  refine q_istore_n (L' := [(3, .int x8), (0, .ref o), (1, .int a0), (2, .int a1)]) hX dX7_takesWord_3 rfl (by decide) rfl ?_
  exact Wg.sub [1, 2, 0] rfl (h)
set_option maxHeartbeats 4000000 in
set_option maxRecDepth 20000 in
theorem fl_X7_isDigit {d : Nat} {ids : List Nat} {o : Nat} {σ : St} {Q : Int32 → St → Prop} (h_o : IO ids o 7) (H : EI d ids Y_X7_next [.ref o] σ (fun x2 s1 => EI d ids Y_X7_in [.ref o, .int x2, .int 48, .int 57] s1 (fun x4 s3 => ((x4 = 0 ∨ x4 = 1) ∧ Q x4 s3)))) : EI (d + 1) ids Y_X7_isDigit [.ref o] σ Q := by
  refine E_mk (by decide) (Nat.le_of_ble_eq_true rfl) (fun X hX => ?_)
  replace hX : Cok X ids 1 cX7_isDigit (some .boolean) (d + 1) RX7 := hX
  show Wg X ids 1 _ 0 [(0, .ref o)] [] σ
  have h := H
  refine q_aload_n 0 hX dX7_isDigit_0 rfl rfl ?_
  refine q_aload_n 0 hX dX7_isDigit_1 rfl rfl ?_
  refine cl_X7_64 hX h_o dX7_isDigit_2 (Nat.le_of_ble_eq_true rfl) h (fun x2 s1 h => ?_)
  refine q_bipush (v := 48) hX dX7_isDigit_5 (by decide) ?_
  refine q_bipush (v := 57) hX dX7_isDigit_7 (by decide) ?_
  refine cl_X7_1 hX h_o dX7_isDigit_9 (Nat.le_of_ble_eq_true rfl) h (fun x4 s3 h => ?_)
  exact q_zret hX dX7_isDigit_12 h.1 ⟨_, rfl, h.2⟩
set_option maxHeartbeats 4000000 in
set_option maxRecDepth 20000 in
theorem fl_X7_takesNumber {d : Nat} {ids : List Nat} {o : Nat} {a0 : Int32} {σ : St} {Q : Int32 → St → Prop} (h_o : IO ids o 7) (H : ∀ (P16 : Int32 → St → Prop), (∀ (v2 : Int32) (σ : St), (((a0 ≤ v2 → Q 1 σ) ∧ (¬ (a0 ≤ v2) → EI d ids Y_X7_isDigit [.ref o] σ (fun x3 s2 => ((x3 = 0 → Q 1 s2) ∧ (¬ x3 = 0 → EI d ids Y_X7_next [.ref o] s2 (fun x6 s5 => ∀ s7 : St, s7 = si s5 o 11 (((10 * (gi s2 o 11)) + x6) - 48) → ∀ s8 : St, s8 = si s7 o 10 ((gi s7 o 10) + 1) → ∀ x9 : Int32, x9 = v2 + 1 → P16 x9 s8))))))) → P16 v2 σ) → EI d ids Y_X7_isDigit [.ref o] σ (fun x11 s10 => ((¬ x11 = 0 → ∀ s13 : St, s13 = si s10 o 11 0 → P16 0 s13) ∧ (x11 = 0 → Q 0 s10)))) : EI (d + 1) ids Y_X7_takesNumber [.ref o, .int a0] σ Q := by
  refine E_mk (by decide) (Nat.le_of_ble_eq_true rfl) (fun X hX => ?_)
  replace hX : Cok X ids 3 cX7_takesNumber (some .boolean) (d + 1) RX7 := hX
  show Wg X ids 3 _ 0 [(0, .ref o), (1, .int a0)] [] σ
  have h := H (fun (v2 : Int32) (σ : St) => (Wg X ids 3 (fun r σ1 => ∃ x, r = some (Value.int x) ∧ Q x σ1) 16 [(0, .ref o), (1, .int a0), (2, .int v2)] [] σ))
  replace h := h (fun v2 σ h => by
    refine q_iload_n 2 hX dX7_takesNumber_16 rfl rfl ?_
    refine q_iload_n 1 hX dX7_takesNumber_17 rfl rfl ?_
    refine q_icmp_ge 63 hX dX7_takesNumber_18 (by decide) (fun c1 => ?_) (fun c1 => ?_)
    · replace h := h.1 c1
      refine q_iconst (v := 1) hX dX7_takesNumber_63 (by decide) ?_
      exact q_zret hX dX7_takesNumber_64 (by decide) ⟨_, rfl, h⟩
    · replace h := h.2 c1
      refine q_aload_n 0 hX dX7_takesNumber_21 rfl rfl ?_
      refine cl_X7_71 hX h_o dX7_takesNumber_22 (Nat.le_of_ble_eq_true rfl) h (fun x3 s2 h => ?_)
      refine q_if_eq 63 hX dX7_takesNumber_25 (by decide) (fun c4 => ?_) (fun c4 => ?_)
      · replace h := h.1 c4
        refine q_iconst (v := 1) hX dX7_takesNumber_63 (by decide) ?_
        exact q_zret hX dX7_takesNumber_64 (by decide) ⟨_, rfl, h⟩
      · replace h := h.2 c4
        refine q_aload_n 0 hX dX7_takesNumber_28 rfl rfl ?_
        refine q_bipush (v := 10) hX dX7_takesNumber_29 (by decide) ?_
        refine q_aload_n 0 hX dX7_takesNumber_31 rfl rfl ?_
        refine gf_X7_75 hX h_o dX7_takesNumber_32 ?_
        refine q_imul hX dX7_takesNumber_35 ?_
        refine q_aload_n 0 hX dX7_takesNumber_36 rfl rfl ?_
        refine cl_X7_64 hX h_o dX7_takesNumber_37 (Nat.le_of_ble_eq_true rfl) h (fun x6 s5 h => ?_)
        refine q_iadd hX dX7_takesNumber_40 ?_
        refine q_bipush (v := 48) hX dX7_takesNumber_41 (by decide) ?_
        refine q_isub hX dX7_takesNumber_43 ?_
        refine pf_X7_75 hX h_o dX7_takesNumber_44 ?_
        refine Wg.nmS (fun s7 es7 => ?_)
        replace h := h s7 es7
        refine q_aload_n 0 hX dX7_takesNumber_47 rfl rfl ?_
        refine q_dup hX dX7_takesNumber_48 rfl ?_
        refine gf_X7_61 hX h_o dX7_takesNumber_49 ?_
        refine q_iconst (v := 1) hX dX7_takesNumber_52 (by decide) ?_
        refine q_iadd hX dX7_takesNumber_53 ?_
        refine pf_X7_61 hX h_o dX7_takesNumber_54 ?_
        refine Wg.nmS (fun s8 es8 => ?_)
        replace h := h s8 es8
        obtain ⟨x9, ex9⟩ : ∃ z : Int32, z = v2 + 1 := ⟨_, rfl⟩
        replace h := h x9 ex9
        refine q_iinc (v := x9) (L' := [(2, .int x9), (0, .ref o), (1, .int a0)]) 2 hX dX7_takesNumber_57 rfl (by rw [ex9]; rfl) (by decide) rfl ?_
        refine q_goto 16 hX dX7_takesNumber_60 (by decide) ?_
        exact Wg.sub [1, 2, 0] rfl (h)
    )
  refine q_aload_n 0 hX dX7_takesNumber_0 rfl rfl ?_
  refine cl_X7_71 hX h_o dX7_takesNumber_1 (Nat.le_of_ble_eq_true rfl) h (fun x11 s10 h => ?_)
  refine q_if_ne 9 hX dX7_takesNumber_4 (by decide) (fun c12 => ?_) (fun c12 => ?_)
  · replace h := h.1 c12
    refine q_aload_n 0 hX dX7_takesNumber_9 rfl rfl ?_
    refine q_iconst (v := 0) hX dX7_takesNumber_10 (by decide) ?_
    refine pf_X7_75 hX h_o dX7_takesNumber_11 ?_
    refine Wg.nmS (fun s13 es13 => ?_)
    replace h := h s13 es13
    refine q_iconst (v := 0) hX dX7_takesNumber_14 (by decide) ?_
    refine q_istore_n (L' := [(2, .int 0), (0, .ref o), (1, .int a0)]) hX dX7_takesNumber_15 rfl (by decide) rfl ?_
    exact Wg.sub [1, 2, 0] rfl (h)
  · replace h := h.2 c12
    refine q_iconst (v := 0) hX dX7_takesNumber_7 (by decide) ?_
    exact q_zret hX dX7_takesNumber_8 (by decide) ⟨_, rfl, h⟩
set_option maxHeartbeats 4000000 in
set_option maxRecDepth 20000 in
theorem fl_X7_put_ {d : Nat} {ids : List Nat} {o : Nat} {a0 : Int32} {σ : St} {Q : St → Prop} (h_o : IO ids o 7) (H : vp_in (gi σ o 21) 500 ∧ ∀ s2 : St, s2 = si σ (rf o 19) (Int32.toNatClampNeg (gi σ o 21)) a0 → ∀ s3 : St, s3 = si s2 o 21 ((gi s2 o 21) + 1) → Q s3) : EV (d + 1) ids Y_X7_put_ [.ref o, .int a0] σ Q := by
  refine E_mk (by decide) (Nat.le_of_ble_eq_true rfl) (fun X hX => ?_)
  replace hX : Cok X ids 2 cX7_put_ none (d + 1) RX7 := hX
  show Wg X ids 2 _ 0 [(0, .ref o), (1, .int a0)] [] σ
  have h := H
  refine q_aload_n 0 hX dX7_put__0 rfl rfl ?_
  refine gf_X7_78 hX h_o dX7_put__1 ?_
  refine q_aload_n 0 hX dX7_put__4 rfl rfl ?_
  refine gf_X7_81 hX h_o dX7_put__5 ?_
  refine q_iload_n 1 hX dX7_put__8 rfl rfl ?_
  obtain ⟨b1, h⟩ := h
  refine q_iast hX dX7_put__9 (rfO_7_19 h_o) b1 ?_
  refine Wg.nmS (fun s2 es2 => ?_)
  replace h := h s2 es2
  refine q_aload_n 0 hX dX7_put__10 rfl rfl ?_
  refine q_dup hX dX7_put__11 rfl ?_
  refine gf_X7_81 hX h_o dX7_put__12 ?_
  refine q_iconst (v := 1) hX dX7_put__15 (by decide) ?_
  refine q_iadd hX dX7_put__16 ?_
  refine pf_X7_81 hX h_o dX7_put__17 ?_
  refine Wg.nmS (fun s3 es3 => ?_)
  replace h := h s3 es3
  exact q_vret hX dX7_put__20 ⟨rfl, h⟩
set_option maxHeartbeats 4000000 in
set_option maxRecDepth 20000 in
theorem fl_X7_whole {d : Nat} {ids : List Nat} {o : Nat} {σ : St} {Q : St → Prop} (h_o : IO ids o 7) (H : ∀ (P0 : St → Prop), (∀ (σ : St), ((((gi σ o 22) ≤ 0 → Q σ) ∧ (¬ ((gi σ o 22) ≤ 0) → vp_in ((gi σ o 22) - 1) 101 ∧ ((¬ (gi σ (rf o 20) (Int32.toNatClampNeg ((gi σ o 22) - 1))) = 33 → Q σ) ∧ ((gi σ (rf o 20) (Int32.toNatClampNeg ((gi σ o 22) - 1))) = 33 → EV d ids Y_X7_put_ [.ref o, .int (-33)] σ (fun s4 => ∀ s5 : St, s5 = si s4 o 22 ((gi s4 o 22) - 1) → ∀ s6 : St, s6 = si s5 o 23 ((gi s5 o 23) - 1) → P0 s6)))))) → P0 σ) → P0 σ) : EV (d + 1) ids Y_X7_whole [.ref o] σ Q := by
  refine E_mk (by decide) (Nat.le_of_ble_eq_true rfl) (fun X hX => ?_)
  replace hX : Cok X ids 1 cX7_whole none (d + 1) RX7 := hX
  show Wg X ids 1 _ 0 [(0, .ref o)] [] σ
  have h := H (fun (σ : St) => (Wg X ids 1 (fun r σ1 => r = none ∧ Q σ1) 0 [(0, .ref o)] [] σ))
  replace h := h (fun σ h => by
    refine q_aload_n 0 hX dX7_whole_0 rfl rfl ?_
    refine gf_X7_84 hX h_o dX7_whole_1 ?_
    refine q_if_le 52 hX dX7_whole_4 (by decide) (fun c1 => ?_) (fun c1 => ?_)
    · replace h := h.1 c1
      exact q_vret hX dX7_whole_52 ⟨rfl, h⟩
    · replace h := h.2 c1
      refine q_aload_n 0 hX dX7_whole_7 rfl rfl ?_
      refine gf_X7_87 hX h_o dX7_whole_8 ?_
      refine q_aload_n 0 hX dX7_whole_11 rfl rfl ?_
      refine gf_X7_84 hX h_o dX7_whole_12 ?_
      refine q_iconst (v := 1) hX dX7_whole_15 (by decide) ?_
      refine q_isub hX dX7_whole_16 ?_
      obtain ⟨b2, h⟩ := h
      refine q_iald hX dX7_whole_17 (rfO_7_20 h_o) b2 ?_
      refine q_bipush (v := 33) hX dX7_whole_18 (by decide) ?_
      refine q_icmp_ne 52 hX dX7_whole_20 (by decide) (fun c3 => ?_) (fun c3 => ?_)
      · replace h := h.1 c3
        exact q_vret hX dX7_whole_52 ⟨rfl, h⟩
      · replace h := h.2 c3
        refine q_aload_n 0 hX dX7_whole_23 rfl rfl ?_
        refine q_bipush (v := (-33)) hX dX7_whole_24 (by decide) ?_
        refine cl_X7_90 hX h_o dX7_whole_26 (Nat.le_of_ble_eq_true rfl) h (fun s4 h => ?_)
        refine q_aload_n 0 hX dX7_whole_29 rfl rfl ?_
        refine q_dup hX dX7_whole_30 rfl ?_
        refine gf_X7_84 hX h_o dX7_whole_31 ?_
        refine q_iconst (v := 1) hX dX7_whole_34 (by decide) ?_
        refine q_isub hX dX7_whole_35 ?_
        refine pf_X7_84 hX h_o dX7_whole_36 ?_
        refine Wg.nmS (fun s5 es5 => ?_)
        replace h := h s5 es5
        refine q_aload_n 0 hX dX7_whole_39 rfl rfl ?_
        refine q_dup hX dX7_whole_40 rfl ?_
        refine gf_X7_93 hX h_o dX7_whole_41 ?_
        refine q_iconst (v := 1) hX dX7_whole_44 (by decide) ?_
        refine q_isub hX dX7_whole_45 ?_
        refine pf_X7_93 hX h_o dX7_whole_46 ?_
        refine Wg.nmS (fun s6 es6 => ?_)
        replace h := h s6 es6
        refine q_goto 0 hX dX7_whole_49 (by decide) ?_
        exact Wg.sub [0] rfl (h)
    )
  exact Wg.sub [0] rfl (h)
set_option maxHeartbeats 4000000 in
set_option maxRecDepth 20000 in
theorem fl_X7_settle {d : Nat} {ids : List Nat} {o : Nat} {a0 : Int32} {σ : St} {Q : St → Prop} (h_o : IO ids o 7) (H : ∀ (P0 : St → Prop) (P45 : St → Prop), (∀ (σ : St), ((((gi σ o 22) ≤ 0 → Q σ) ∧ (¬ ((gi σ o 22) ≤ 0) → vp_in ((gi σ o 22) - 1) 101 ∧ (((gi σ (rf o 20) (Int32.toNatClampNeg ((gi σ o 22) - 1))) = 38 → P45 σ) ∧ (¬ (gi σ (rf o 20) (Int32.toNatClampNeg ((gi σ o 22) - 1))) = 38 → vp_in ((gi σ o 22) - 1) 101 ∧ ((¬ (gi σ (rf o 20) (Int32.toNatClampNeg ((gi σ o 22) - 1))) = 124 → Q σ) ∧ ((gi σ (rf o 20) (Int32.toNatClampNeg ((gi σ o 22) - 1))) = 124 → ((a0 = 38 → Q σ) ∧ (¬ a0 = 38 → P45 σ))))))))) → P0 σ) → (∀ (σ : St), (∀ s7 : St, s7 = si σ o 22 ((gi σ o 22) - 1) → vp_in (gi s7 o 22) 101 ∧ EV d ids Y_X7_put_ [.ref o, .int (-(gi s7 (rf o 20) (Int32.toNatClampNeg (gi s7 o 22))))] s7 (fun s9 => P0 s9)) → P45 σ) → P0 σ) : EV (d + 1) ids Y_X7_settle [.ref o, .int a0] σ Q := by
  refine E_mk (by decide) (Nat.le_of_ble_eq_true rfl) (fun X hX => ?_)
  replace hX : Cok X ids 2 cX7_settle none (d + 1) RX7 := hX
  show Wg X ids 2 _ 0 [(0, .ref o), (1, .int a0)] [] σ
  have h := H (fun (σ : St) => (Wg X ids 2 (fun r σ1 => r = none ∧ Q σ1) 0 [(0, .ref o), (1, .int a0)] [] σ)) (fun (σ : St) => (Wg X ids 2 (fun r σ1 => r = none ∧ Q σ1) 45 [(0, .ref o), (1, .int a0)] [] σ))
  replace h := h (fun σ h => by
    refine q_aload_n 0 hX dX7_settle_0 rfl rfl ?_
    refine gf_X7_84 hX h_o dX7_settle_1 ?_
    refine q_if_le 72 hX dX7_settle_4 (by decide) (fun c1 => ?_) (fun c1 => ?_)
    · replace h := h.1 c1
      exact q_vret hX dX7_settle_72 ⟨rfl, h⟩
    · replace h := h.2 c1
      refine q_aload_n 0 hX dX7_settle_7 rfl rfl ?_
      refine gf_X7_87 hX h_o dX7_settle_8 ?_
      refine q_aload_n 0 hX dX7_settle_11 rfl rfl ?_
      refine gf_X7_84 hX h_o dX7_settle_12 ?_
      refine q_iconst (v := 1) hX dX7_settle_15 (by decide) ?_
      refine q_isub hX dX7_settle_16 ?_
      obtain ⟨b2, h⟩ := h
      refine q_iald hX dX7_settle_17 (rfO_7_20 h_o) b2 ?_
      refine q_bipush (v := 38) hX dX7_settle_18 (by decide) ?_
      refine q_icmp_eq 45 hX dX7_settle_20 (by decide) (fun c3 => ?_) (fun c3 => ?_)
      · replace h := h.1 c3
        exact Wg.sub [0, 1] rfl (h)
      · replace h := h.2 c3
        refine q_aload_n 0 hX dX7_settle_23 rfl rfl ?_
        refine gf_X7_87 hX h_o dX7_settle_24 ?_
        refine q_aload_n 0 hX dX7_settle_27 rfl rfl ?_
        refine gf_X7_84 hX h_o dX7_settle_28 ?_
        refine q_iconst (v := 1) hX dX7_settle_31 (by decide) ?_
        refine q_isub hX dX7_settle_32 ?_
        obtain ⟨b4, h⟩ := h
        refine q_iald hX dX7_settle_33 (rfO_7_20 h_o) b4 ?_
        refine q_bipush (v := 124) hX dX7_settle_34 (by decide) ?_
        refine q_icmp_ne 72 hX dX7_settle_36 (by decide) (fun c5 => ?_) (fun c5 => ?_)
        · replace h := h.1 c5
          exact q_vret hX dX7_settle_72 ⟨rfl, h⟩
        · replace h := h.2 c5
          refine q_iload_n 1 hX dX7_settle_39 rfl rfl ?_
          refine q_bipush (v := 38) hX dX7_settle_40 (by decide) ?_
          refine q_icmp_eq 72 hX dX7_settle_42 (by decide) (fun c6 => ?_) (fun c6 => ?_)
          · replace h := h.1 c6
            exact q_vret hX dX7_settle_72 ⟨rfl, h⟩
          · replace h := h.2 c6
            exact Wg.sub [0, 1] rfl (h)
    )
  replace h := h (fun σ h => by
    refine q_aload_n 0 hX dX7_settle_45 rfl rfl ?_
    refine q_dup hX dX7_settle_46 rfl ?_
    refine gf_X7_84 hX h_o dX7_settle_47 ?_
    refine q_iconst (v := 1) hX dX7_settle_50 (by decide) ?_
    refine q_isub hX dX7_settle_51 ?_
    refine pf_X7_84 hX h_o dX7_settle_52 ?_
    refine Wg.nmS (fun s7 es7 => ?_)
    replace h := h s7 es7
    refine q_aload_n 0 hX dX7_settle_55 rfl rfl ?_
    refine q_aload_n 0 hX dX7_settle_56 rfl rfl ?_
    refine gf_X7_87 hX h_o dX7_settle_57 ?_
    refine q_aload_n 0 hX dX7_settle_60 rfl rfl ?_
    refine gf_X7_84 hX h_o dX7_settle_61 ?_
    obtain ⟨b8, h⟩ := h
    refine q_iald hX dX7_settle_64 (rfO_7_20 h_o) b8 ?_
    refine q_ineg hX dX7_settle_65 ?_
    refine cl_X7_90 hX h_o dX7_settle_66 (Nat.le_of_ble_eq_true rfl) h (fun s9 h => ?_)
    refine q_goto 0 hX dX7_settle_69 (by decide) ?_
    exact Wg.sub [0, 1] rfl (h)
    )
  exact Wg.sub [0, 1] rfl (h)
set_option maxHeartbeats 4000000 in
set_option maxRecDepth 20000 in
theorem fl_X7_place {d : Nat} {ids : List Nat} {o : Nat} {a0 : Int32} {σ : St} {Q : Int32 → St → Prop} (h_o : IO ids o 7) (H : ((a0 = 97 → Q 3 σ) ∧ (a0 = 107 → Q 4 σ) ∧ (a0 = 110 → Q 0 σ) ∧ (a0 = 112 → Q 1 σ) ∧ (a0 = 119 → Q 2 σ) ∧ (¬ a0 = 97 → ¬ a0 = 107 → ¬ a0 = 110 → ¬ a0 = 112 → ¬ a0 = 119 → Q (-1) σ))) : EI (d + 1) ids Y_X7_place [.ref o, .int a0] σ Q := by
  refine E_mk (by decide) (Nat.le_of_ble_eq_true rfl) (fun X hX => ?_)
  replace hX : Cok X ids 2 cX7_place (some .int) (d + 1) RX7 := hX
  show Wg X ids 2 _ 0 [(0, .ref o), (1, .int a0)] [] σ
  have h := H
  refine q_iload_n 1 hX dX7_place_0 rfl rfl ?_
  by_cases c1_0 : a0 = 97
  · refine q_lookup (off := 57) 58 hX dX7_place_1 (by decide) (by first | (rw [c1_0]; done) | (rw [c1_0]; rfl)) (by decide) ?_
    replace h := h.1 c1_0
    refine q_iconst (v := 3) hX dX7_place_58 (by decide) ?_
    exact q_ret hX dX7_place_59 ⟨_, rfl, h⟩
  by_cases c1_1 : a0 = 107
  · refine q_lookup (off := 59) 60 hX dX7_place_1 (by decide) (by first | (rw [c1_1]; done) | (rw [c1_1]; rfl)) (by decide) ?_
    replace h := h.2.1 c1_1
    refine q_iconst (v := 4) hX dX7_place_60 (by decide) ?_
    exact q_ret hX dX7_place_61 ⟨_, rfl, h⟩
  by_cases c1_2 : a0 = 110
  · refine q_lookup (off := 51) 52 hX dX7_place_1 (by decide) (by first | (rw [c1_2]; done) | (rw [c1_2]; rfl)) (by decide) ?_
    replace h := h.2.2.1 c1_2
    refine q_iconst (v := 0) hX dX7_place_52 (by decide) ?_
    exact q_ret hX dX7_place_53 ⟨_, rfl, h⟩
  by_cases c1_3 : a0 = 112
  · refine q_lookup (off := 53) 54 hX dX7_place_1 (by decide) (by first | (rw [c1_3]; done) | (rw [c1_3]; rfl)) (by decide) ?_
    replace h := h.2.2.2.1 c1_3
    refine q_iconst (v := 1) hX dX7_place_54 (by decide) ?_
    exact q_ret hX dX7_place_55 ⟨_, rfl, h⟩
  by_cases c1_4 : a0 = 119
  · refine q_lookup (off := 55) 56 hX dX7_place_1 (by decide) (by first | (rw [c1_4]; done) | (rw [c1_4]; rfl)) (by decide) ?_
    replace h := h.2.2.2.2.1 c1_4
    refine q_iconst (v := 2) hX dX7_place_56 (by decide) ?_
    exact q_ret hX dX7_place_57 ⟨_, rfl, h⟩
  refine q_lookup (off := 61) 62 hX dX7_place_1 (by decide) (by have e0 := ne_toInt (k := 97) c1_0 (by decide); have e1 := ne_toInt (k := 107) c1_1 (by decide); have e2 := ne_toInt (k := 110) c1_2 (by decide); have e3 := ne_toInt (k := 112) c1_3 (by decide); have e4 := ne_toInt (k := 119) c1_4 (by decide); simp [Op.lookupswitch.offset, e0, e1, e2, e3, e4, e0.symm, e1.symm, e2.symm, e3.symm, e4.symm]) (by decide) ?_
  replace h := h.2.2.2.2.2 c1_0 c1_1 c1_2 c1_3 c1_4
  refine q_iconst (v := (-1)) hX dX7_place_62 (by decide) ?_
  exact q_ret hX dX7_place_63 ⟨_, rfl, h⟩
set_option maxHeartbeats 4000000 in
set_option maxRecDepth 20000 in
theorem fl_X7_takesTest {d : Nat} {ids : List Nat} {o : Nat} {σ : St} {Q : Int32 → St → Prop} (h_o : IO ids o 7) (H : EI d ids Y_X7_next [.ref o] σ (fun x2 s1 => EI d ids Y_X7_place [.ref o, .int x2] s1 (fun x4 s3 => ((0 ≤ x4 → ∀ s6 : St, s6 = si s3 o 10 ((gi s3 o 10) + 1) → EI d ids Y_X7_next [.ref o] s6 (fun x8 s7 => EI d ids Y_X7_in [.ref o, .int x8, .int 60, .int 62] s7 (fun x10 s9 => ((¬ x10 = 0 → ∀ s12 : St, s12 = si s9 o 10 ((gi s9 o 10) + 1) → EI d ids Y_X7_takesNumber [.ref o, .int 2] s12 (fun x14 s13 => ((¬ x14 = 0 → EV d ids Y_X7_put_ [.ref o, .int (((1000 * x4) + (100 * (x8 - 60))) + (gi s13 o 11))] s13 (fun s16 => EV d ids Y_X7_whole [.ref o] s16 (fun s17 => Q 1 s17))) ∧ (x14 = 0 → Q 0 s13)))) ∧ (x10 = 0 → Q 0 s9))))) ∧ (¬ (0 ≤ x4) → Q 0 s3))))) : EI (d + 1) ids Y_X7_takesTest [.ref o] σ Q := by
  refine E_mk (by decide) (Nat.le_of_ble_eq_true rfl) (fun X hX => ?_)
  replace hX : Cok X ids 3 cX7_takesTest (some .boolean) (d + 1) RX7 := hX
  show Wg X ids 3 _ 0 [(0, .ref o)] [] σ
  have h := H
  refine q_aload_n 0 hX dX7_takesTest_0 rfl rfl ?_
  refine q_aload_n 0 hX dX7_takesTest_1 rfl rfl ?_
  refine cl_X7_64 hX h_o dX7_takesTest_2 (Nat.le_of_ble_eq_true rfl) h (fun x2 s1 h => ?_)
  refine cl_X7_96 hX h_o dX7_takesTest_5 (Nat.le_of_ble_eq_true rfl) h (fun x4 s3 h => ?_)
  refine q_istore_n (L' := [(1, .int x4), (0, .ref o)]) hX dX7_takesTest_8 rfl (by decide) rfl ?_
  refine q_iload_n 0 hX dX7_takesTest_9 rfl rfl ?_
  refine q_if_ge 15 hX dX7_takesTest_10 (by decide) (fun c5 => ?_) (fun c5 => ?_)
  · replace h := h.1 c5
    refine q_aload_n 1 hX dX7_takesTest_15 rfl rfl ?_
    refine q_dup hX dX7_takesTest_16 rfl ?_
    refine gf_X7_61 hX h_o dX7_takesTest_17 ?_
    refine q_iconst (v := 1) hX dX7_takesTest_20 (by decide) ?_
    refine q_iadd hX dX7_takesTest_21 ?_
    refine pf_X7_61 hX h_o dX7_takesTest_22 ?_
    refine Wg.nmS (fun s6 es6 => ?_)
    replace h := h s6 es6
    refine q_aload_n 1 hX dX7_takesTest_25 rfl rfl ?_
    refine cl_X7_64 hX h_o dX7_takesTest_26 (Nat.le_of_ble_eq_true rfl) h (fun x8 s7 h => ?_)
    refine q_istore_n (L' := [(2, .int x8), (1, .int x4), (0, .ref o)]) hX dX7_takesTest_29 rfl (by decide) rfl ?_
    refine q_aload_n 2 hX dX7_takesTest_30 rfl rfl ?_
    refine q_iload_n 0 hX dX7_takesTest_31 rfl rfl ?_
    refine q_bipush (v := 60) hX dX7_takesTest_32 (by decide) ?_
    refine q_bipush (v := 62) hX dX7_takesTest_34 (by decide) ?_
    refine cl_X7_1 hX h_o dX7_takesTest_36 (Nat.le_of_ble_eq_true rfl) h (fun x10 s9 h => ?_)
    refine q_if_ne 44 hX dX7_takesTest_39 (by decide) (fun c11 => ?_) (fun c11 => ?_)
    · replace h := h.1 c11
      refine q_aload_n 2 hX dX7_takesTest_44 rfl rfl ?_
      refine q_dup hX dX7_takesTest_45 rfl ?_
      refine gf_X7_61 hX h_o dX7_takesTest_46 ?_
      refine q_iconst (v := 1) hX dX7_takesTest_49 (by decide) ?_
      refine q_iadd hX dX7_takesTest_50 ?_
      refine pf_X7_61 hX h_o dX7_takesTest_51 ?_
      refine Wg.nmS (fun s12 es12 => ?_)
      replace h := h s12 es12
      refine q_aload_n 2 hX dX7_takesTest_54 rfl rfl ?_
      refine q_iconst (v := 2) hX dX7_takesTest_55 (by decide) ?_
      refine cl_X7_100 hX h_o dX7_takesTest_56 (Nat.le_of_ble_eq_true rfl) h (fun x14 s13 h => ?_)
      refine q_if_ne 64 hX dX7_takesTest_59 (by decide) (fun c15 => ?_) (fun c15 => ?_)
      · replace h := h.1 c15
        refine q_aload_n 2 hX dX7_takesTest_64 rfl rfl ?_
        refine q_sipush (v := 1000) hX dX7_takesTest_65 (by decide) ?_
        refine q_iload_n 1 hX dX7_takesTest_68 rfl rfl ?_
        refine q_imul hX dX7_takesTest_69 ?_
        refine q_bipush (v := 100) hX dX7_takesTest_70 (by decide) ?_
        refine q_iload_n 0 hX dX7_takesTest_72 rfl rfl ?_
        refine q_bipush (v := 60) hX dX7_takesTest_73 (by decide) ?_
        refine q_isub hX dX7_takesTest_75 ?_
        refine q_imul hX dX7_takesTest_76 ?_
        refine q_iadd hX dX7_takesTest_77 ?_
        refine q_aload_n 2 hX dX7_takesTest_78 rfl rfl ?_
        refine gf_X7_75 hX h_o dX7_takesTest_79 ?_
        refine q_iadd hX dX7_takesTest_82 ?_
        refine cl_X7_90 hX h_o dX7_takesTest_83 (Nat.le_of_ble_eq_true rfl) h (fun s16 h => ?_)
        refine q_aload_n 2 hX dX7_takesTest_86 rfl rfl ?_
        refine cl_X7_103 hX h_o dX7_takesTest_87 (Nat.le_of_ble_eq_true rfl) h (fun s17 h => ?_)
        refine q_iconst (v := 1) hX dX7_takesTest_90 (by decide) ?_
        exact q_zret hX dX7_takesTest_91 (by decide) ⟨_, rfl, h⟩
      · replace h := h.2 c15
        refine q_iconst (v := 0) hX dX7_takesTest_62 (by decide) ?_
        exact q_zret hX dX7_takesTest_63 (by decide) ⟨_, rfl, h⟩
    · replace h := h.2 c11
      refine q_iconst (v := 0) hX dX7_takesTest_42 (by decide) ?_
      exact q_zret hX dX7_takesTest_43 (by decide) ⟨_, rfl, h⟩
  · replace h := h.2 c5
    refine q_iconst (v := 0) hX dX7_takesTest_13 (by decide) ?_
    exact q_zret hX dX7_takesTest_14 (by decide) ⟨_, rfl, h⟩
set_option maxHeartbeats 4000000 in
set_option maxRecDepth 20000 in
theorem fl_X7_takesE {d : Nat} {ids : List Nat} {o : Nat} {a0 : Int32} {σ : St} {Q : Int32 → St → Prop} (h_o : IO ids o 7) (H : ∀ (P22 : Int32 → St → Prop) (P43 : Int32 → Int32 → St → Prop) (P122 : Int32 → St → Prop), (∀ (v2 : Int32) (σ : St), (EI d ids Y_X7_next [.ref o] σ (fun x2 s1 => ((v2 = 0 → ((x2 = 38 → P122 x2 s1) ∧ (¬ x2 = 38 → ((¬ x2 = 124 → EV d ids Y_X7_settle [.ref o, .int 124] s1 (fun s6 => vp_in a0 30 ∧ ∀ s8 : St, s8 = si s6 (rf o 18) (Int32.toNatClampNeg a0) (gi s6 o 21) → ((¬ (gi s8 o 22) = 0 → ((x2 = 41 → ∀ s11 : St, s11 = si s8 o 22 ((gi s8 o 22) - 1) → ∀ s12 : St, s12 = si s11 o 23 ((gi s11 o 23) - 1) → ∀ s13 : St, s13 = si s12 o 10 ((gi s12 o 10) + 1) → EV d ids Y_X7_whole [.ref o] s13 (fun s14 => P22 v2 s14)) ∧ (¬ x2 = 41 → Q 0 s8))) ∧ ((gi s8 o 22) = 0 → Q 1 s8)))) ∧ (x2 = 124 → P122 x2 s1))))) ∧ (¬ v2 = 0 → ((x2 = 33 → P43 v2 x2 s1) ∧ (¬ x2 = 33 → ((¬ x2 = 40 → EI d ids Y_X7_takesTest [.ref o] s1 (fun x18 s17 => ((x18 = 0 → Q 0 s17) ∧ (¬ x18 = 0 → P22 0 s17)))) ∧ (x2 = 40 → P43 v2 x2 s1)))))))) → P22 v2 σ) → (∀ (v2 : Int32) (v3 : Int32) (σ : St), (((¬ (gi σ o 23) = 4 → ∀ s21 : St, s21 = si σ o 23 ((gi σ o 23) + 1) → vp_in (gi s21 o 22) 101 ∧ ∀ s23 : St, s23 = si s21 (rf o 20) (Int32.toNatClampNeg (gi s21 o 22)) v3 → ∀ s24 : St, s24 = si s23 o 22 ((gi s23 o 22) + 1) → ∀ s25 : St, s25 = si s24 o 10 ((gi s24 o 10) + 1) → P22 v2 s25) ∧ ((gi σ o 23) = 4 → Q 0 σ))) → P43 v2 v3 σ) → (∀ (v3 : Int32) (σ : St), (EV d ids Y_X7_settle [.ref o, .int v3] σ (fun s26 => vp_in (gi s26 o 22) 101 ∧ ∀ s28 : St, s28 = si s26 (rf o 20) (Int32.toNatClampNeg (gi s26 o 22)) v3 → ∀ s29 : St, s29 = si s28 o 22 ((gi s28 o 22) + 1) → ∀ s30 : St, s30 = si s29 o 10 ((gi s29 o 10) + 1) → P22 1 s30)) → P122 v3 σ) → ∀ s31 : St, s31 = si σ o 22 0 → ∀ s32 : St, s32 = si s31 o 23 0 → vp_in a0 30 ∧ ∀ s34 : St, s34 = si s32 (rf o 17) (Int32.toNatClampNeg a0) (gi s32 o 21) → P22 1 s34) : EI (d + 1) ids Y_X7_takesE [.ref o, .int a0] σ Q := by
  refine E_mk (by decide) (Nat.le_of_ble_eq_true rfl) (fun X hX => ?_)
  replace hX : Cok X ids 4 cX7_takesE (some .boolean) (d + 1) RX7 := hX
  show Wg X ids 4 _ 0 [(0, .ref o), (1, .int a0)] [] σ
  have h := H (fun (v2 : Int32) (σ : St) => (Wg X ids 4 (fun r σ1 => ∃ x, r = some (Value.int x) ∧ Q x σ1) 22 [(0, .ref o), (1, .int a0), (2, .int v2)] [] σ)) (fun (v2 : Int32) (v3 : Int32) (σ : St) => (Wg X ids 4 (fun r σ1 => ∃ x, r = some (Value.int x) ∧ Q x σ1) 43 [(0, .ref o), (1, .int a0), (2, .int v2), (3, .int v3)] [] σ)) (fun (v3 : Int32) (σ : St) => (Wg X ids 4 (fun r σ1 => ∃ x, r = some (Value.int x) ∧ Q x σ1) 122 [(0, .ref o), (1, .int a0), (3, .int v3)] [] σ))
  replace h := h (fun v2 σ h => by
    refine q_aload_n 0 hX dX7_takesE_22 rfl rfl ?_
    refine cl_X7_64 hX h_o dX7_takesE_23 (Nat.le_of_ble_eq_true rfl) h (fun x2 s1 h => ?_)
    refine q_istore_n (L' := [(3, .int x2), (0, .ref o), (1, .int a0), (2, .int v2)]) hX dX7_takesE_26 rfl (by decide) rfl ?_
    refine q_iload_n 3 hX dX7_takesE_27 rfl rfl ?_
    refine q_if_eq 110 hX dX7_takesE_28 (by decide) (fun c3 => ?_) (fun c3 => ?_)
    · replace h := h.1 c3
      refine q_iload_n 0 hX dX7_takesE_110 rfl rfl ?_
      refine q_bipush (v := 38) hX dX7_takesE_111 (by decide) ?_
      refine q_icmp_eq 122 hX dX7_takesE_113 (by decide) (fun c4 => ?_) (fun c4 => ?_)
      · replace h := h.1 c4
        exact Wg.sub [1, 2, 0] rfl (h)
      · replace h := h.2 c4
        refine q_iload_n 0 hX dX7_takesE_116 rfl rfl ?_
        refine q_bipush (v := 124) hX dX7_takesE_117 (by decide) ?_
        refine q_icmp_ne 162 hX dX7_takesE_119 (by decide) (fun c5 => ?_) (fun c5 => ?_)
        · replace h := h.1 c5
          refine q_aload_n 1 hX dX7_takesE_162 rfl rfl ?_
          refine q_bipush (v := 124) hX dX7_takesE_163 (by decide) ?_
          refine cl_X7_113 hX h_o dX7_takesE_165 (Nat.le_of_ble_eq_true rfl) h (fun s6 h => ?_)
          refine q_aload_n 1 hX dX7_takesE_168 rfl rfl ?_
          refine gf_X7_116 hX h_o dX7_takesE_169 ?_
          refine q_iload_n 2 hX dX7_takesE_172 rfl rfl ?_
          refine q_aload_n 1 hX dX7_takesE_173 rfl rfl ?_
          refine gf_X7_81 hX h_o dX7_takesE_174 ?_
          obtain ⟨b7, h⟩ := h
          refine q_iast hX dX7_takesE_177 (rfO_7_18 h_o) b7 ?_
          refine Wg.nmS (fun s8 es8 => ?_)
          replace h := h s8 es8
          refine q_aload_n 1 hX dX7_takesE_178 rfl rfl ?_
          refine gf_X7_84 hX h_o dX7_takesE_179 ?_
          refine q_if_ne 187 hX dX7_takesE_182 (by decide) (fun c9 => ?_) (fun c9 => ?_)
          · replace h := h.1 c9
            refine q_iload_n 0 hX dX7_takesE_187 rfl rfl ?_
            refine q_bipush (v := 41) hX dX7_takesE_188 (by decide) ?_
            refine q_icmp_eq 195 hX dX7_takesE_190 (by decide) (fun c10 => ?_) (fun c10 => ?_)
            · replace h := h.1 c10
              refine q_aload_n 1 hX dX7_takesE_195 rfl rfl ?_
              refine q_dup hX dX7_takesE_196 rfl ?_
              refine gf_X7_84 hX h_o dX7_takesE_197 ?_
              refine q_iconst (v := 1) hX dX7_takesE_200 (by decide) ?_
              refine q_isub hX dX7_takesE_201 ?_
              refine pf_X7_84 hX h_o dX7_takesE_202 ?_
              refine Wg.nmS (fun s11 es11 => ?_)
              replace h := h s11 es11
              refine q_aload_n 1 hX dX7_takesE_205 rfl rfl ?_
              refine q_dup hX dX7_takesE_206 rfl ?_
              refine gf_X7_93 hX h_o dX7_takesE_207 ?_
              refine q_iconst (v := 1) hX dX7_takesE_210 (by decide) ?_
              refine q_isub hX dX7_takesE_211 ?_
              refine pf_X7_93 hX h_o dX7_takesE_212 ?_
              refine Wg.nmS (fun s12 es12 => ?_)
              replace h := h s12 es12
              refine q_aload_n 1 hX dX7_takesE_215 rfl rfl ?_
              refine q_dup hX dX7_takesE_216 rfl ?_
              refine gf_X7_61 hX h_o dX7_takesE_217 ?_
              refine q_iconst (v := 1) hX dX7_takesE_220 (by decide) ?_
              refine q_iadd hX dX7_takesE_221 ?_
              refine pf_X7_61 hX h_o dX7_takesE_222 ?_
              refine Wg.nmS (fun s13 es13 => ?_)
              replace h := h s13 es13
              refine q_aload_n 1 hX dX7_takesE_225 rfl rfl ?_
              refine cl_X7_103 hX h_o dX7_takesE_226 (Nat.le_of_ble_eq_true rfl) h (fun s14 h => ?_)
              refine q_goto 22 hX dX7_takesE_229 (by decide) ?_
              exact Wg.sub [1, 2, 3] rfl (h)
            · replace h := h.2 c10
              refine q_iconst (v := 0) hX dX7_takesE_193 (by decide) ?_
              exact q_zret hX dX7_takesE_194 (by decide) ⟨_, rfl, h⟩
          · replace h := h.2 c9
            refine q_iconst (v := 1) hX dX7_takesE_185 (by decide) ?_
            exact q_zret hX dX7_takesE_186 (by decide) ⟨_, rfl, h⟩
        · replace h := h.2 c5
          exact Wg.sub [1, 2, 0] rfl (h)
    · replace h := h.2 c3
      refine q_iload_n 0 hX dX7_takesE_31 rfl rfl ?_
      refine q_bipush (v := 33) hX dX7_takesE_32 (by decide) ?_
      refine q_icmp_eq 43 hX dX7_takesE_34 (by decide) (fun c15 => ?_) (fun c15 => ?_)
      · replace h := h.1 c15
        exact Wg.sub [1, 2, 3, 0] rfl (h)
      · replace h := h.2 c15
        refine q_iload_n 0 hX dX7_takesE_37 rfl rfl ?_
        refine q_bipush (v := 40) hX dX7_takesE_38 (by decide) ?_
        refine q_icmp_ne 96 hX dX7_takesE_40 (by decide) (fun c16 => ?_) (fun c16 => ?_)
        · replace h := h.1 c16
          refine q_aload_n 1 hX dX7_takesE_96 rfl rfl ?_
          refine cl_X7_110 hX h_o dX7_takesE_97 (Nat.le_of_ble_eq_true rfl) h (fun x18 s17 h => ?_)
          refine q_if_eq 108 hX dX7_takesE_100 (by decide) (fun c19 => ?_) (fun c19 => ?_)
          · replace h := h.1 c19
            refine q_iconst (v := 0) hX dX7_takesE_108 (by decide) ?_
            exact q_zret hX dX7_takesE_109 (by decide) ⟨_, rfl, h⟩
          · replace h := h.2 c19
            refine q_iconst (v := 0) hX dX7_takesE_103 (by decide) ?_
            refine q_istore_n (L' := [(2, .int 0), (3, .int x2), (0, .ref o), (1, .int a0)]) hX dX7_takesE_104 rfl (by decide) rfl ?_
            refine q_goto 22 hX dX7_takesE_105 (by decide) ?_
            exact Wg.sub [2, 3, 0] rfl (h)
        · replace h := h.2 c16
          exact Wg.sub [1, 2, 3, 0] rfl (h)
    )
  replace h := h (fun v2 v3 σ h => by
    refine q_aload_n 0 hX dX7_takesE_43 rfl rfl ?_
    refine gf_X7_93 hX h_o dX7_takesE_44 ?_
    refine q_iconst (v := 4) hX dX7_takesE_47 (by decide) ?_
    refine q_icmp_ne 53 hX dX7_takesE_48 (by decide) (fun c20 => ?_) (fun c20 => ?_)
    · replace h := h.1 c20
      refine q_aload_n 0 hX dX7_takesE_53 rfl rfl ?_
      refine q_dup hX dX7_takesE_54 rfl ?_
      refine gf_X7_93 hX h_o dX7_takesE_55 ?_
      refine q_iconst (v := 1) hX dX7_takesE_58 (by decide) ?_
      refine q_iadd hX dX7_takesE_59 ?_
      refine pf_X7_93 hX h_o dX7_takesE_60 ?_
      refine Wg.nmS (fun s21 es21 => ?_)
      replace h := h s21 es21
      refine q_aload_n 0 hX dX7_takesE_63 rfl rfl ?_
      refine gf_X7_87 hX h_o dX7_takesE_64 ?_
      refine q_aload_n 0 hX dX7_takesE_67 rfl rfl ?_
      refine gf_X7_84 hX h_o dX7_takesE_68 ?_
      refine q_iload_n 3 hX dX7_takesE_71 rfl rfl ?_
      obtain ⟨b22, h⟩ := h
      refine q_iast hX dX7_takesE_72 (rfO_7_20 h_o) b22 ?_
      refine Wg.nmS (fun s23 es23 => ?_)
      replace h := h s23 es23
      refine q_aload_n 0 hX dX7_takesE_73 rfl rfl ?_
      refine q_dup hX dX7_takesE_74 rfl ?_
      refine gf_X7_84 hX h_o dX7_takesE_75 ?_
      refine q_iconst (v := 1) hX dX7_takesE_78 (by decide) ?_
      refine q_iadd hX dX7_takesE_79 ?_
      refine pf_X7_84 hX h_o dX7_takesE_80 ?_
      refine Wg.nmS (fun s24 es24 => ?_)
      replace h := h s24 es24
      refine q_aload_n 0 hX dX7_takesE_83 rfl rfl ?_
      refine q_dup hX dX7_takesE_84 rfl ?_
      refine gf_X7_61 hX h_o dX7_takesE_85 ?_
      refine q_iconst (v := 1) hX dX7_takesE_88 (by decide) ?_
      refine q_iadd hX dX7_takesE_89 ?_
      refine pf_X7_61 hX h_o dX7_takesE_90 ?_
      refine Wg.nmS (fun s25 es25 => ?_)
      replace h := h s25 es25
      refine q_goto 22 hX dX7_takesE_93 (by decide) ?_
      exact Wg.sub [0, 1, 2] rfl (h)
    · replace h := h.2 c20
      refine q_iconst (v := 0) hX dX7_takesE_51 (by decide) ?_
      exact q_zret hX dX7_takesE_52 (by decide) ⟨_, rfl, h⟩
    )
  replace h := h (fun v3 σ h => by
    refine q_aload_n 0 hX dX7_takesE_122 rfl rfl ?_
    refine q_iload_n 2 hX dX7_takesE_123 rfl rfl ?_
    refine cl_X7_113 hX h_o dX7_takesE_124 (Nat.le_of_ble_eq_true rfl) h (fun s26 h => ?_)
    refine q_aload_n 0 hX dX7_takesE_127 rfl rfl ?_
    refine gf_X7_87 hX h_o dX7_takesE_128 ?_
    refine q_aload_n 0 hX dX7_takesE_131 rfl rfl ?_
    refine gf_X7_84 hX h_o dX7_takesE_132 ?_
    refine q_iload_n 2 hX dX7_takesE_135 rfl rfl ?_
    obtain ⟨b27, h⟩ := h
    refine q_iast hX dX7_takesE_136 (rfO_7_20 h_o) b27 ?_
    refine Wg.nmS (fun s28 es28 => ?_)
    replace h := h s28 es28
    refine q_aload_n 0 hX dX7_takesE_137 rfl rfl ?_
    refine q_dup hX dX7_takesE_138 rfl ?_
    refine gf_X7_84 hX h_o dX7_takesE_139 ?_
    refine q_iconst (v := 1) hX dX7_takesE_142 (by decide) ?_
    refine q_iadd hX dX7_takesE_143 ?_
    refine pf_X7_84 hX h_o dX7_takesE_144 ?_
    refine Wg.nmS (fun s29 es29 => ?_)
    replace h := h s29 es29
    refine q_iconst (v := 1) hX dX7_takesE_147 (by decide) ?_
    refine q_istore_n (L' := [(2, .int 1), (0, .ref o), (1, .int a0), (3, .int v3)]) hX dX7_takesE_148 rfl (by decide) rfl ?_
    refine q_aload_n 1 hX dX7_takesE_149 rfl rfl ?_
    refine q_dup hX dX7_takesE_150 rfl ?_
    refine gf_X7_61 hX h_o dX7_takesE_151 ?_
    refine q_iconst (v := 1) hX dX7_takesE_154 (by decide) ?_
    refine q_iadd hX dX7_takesE_155 ?_
    refine pf_X7_61 hX h_o dX7_takesE_156 ?_
    refine Wg.nmS (fun s30 es30 => ?_)
    replace h := h s30 es30
    refine q_goto 22 hX dX7_takesE_159 (by decide) ?_
    exact Wg.sub [1, 2, 0] rfl (h)
    )
  refine q_aload_n 0 hX dX7_takesE_0 rfl rfl ?_
  refine q_iconst (v := 0) hX dX7_takesE_1 (by decide) ?_
  refine pf_X7_84 hX h_o dX7_takesE_2 ?_
  refine Wg.nmS (fun s31 es31 => ?_)
  replace h := h s31 es31
  refine q_aload_n 0 hX dX7_takesE_5 rfl rfl ?_
  refine q_iconst (v := 0) hX dX7_takesE_6 (by decide) ?_
  refine pf_X7_93 hX h_o dX7_takesE_7 ?_
  refine Wg.nmS (fun s32 es32 => ?_)
  replace h := h s32 es32
  refine q_aload_n 0 hX dX7_takesE_10 rfl rfl ?_
  refine gf_X7_107 hX h_o dX7_takesE_11 ?_
  refine q_iload_n 1 hX dX7_takesE_14 rfl rfl ?_
  refine q_aload_n 0 hX dX7_takesE_15 rfl rfl ?_
  refine gf_X7_81 hX h_o dX7_takesE_16 ?_
  obtain ⟨b33, h⟩ := h
  refine q_iast hX dX7_takesE_19 (rfO_7_17 h_o) b33 ?_
  refine Wg.nmS (fun s34 es34 => ?_)
  replace h := h s34 es34
  refine q_iconst (v := 1) hX dX7_takesE_20 (by decide) ?_
  refine q_istore_n (L' := [(2, .int 1), (0, .ref o), (1, .int a0)]) hX dX7_takesE_21 rfl (by decide) rfl ?_
  exact Wg.sub [1, 2, 0] rfl (h)
set_option maxHeartbeats 4000000 in
set_option maxRecDepth 20000 in
theorem fl_X7_takesKind {d : Nat} {ids : List Nat} {o : Nat} {a0 : Int32} {σ : St} {Q : Int32 → St → Prop} (h_o : IO ids o 7) (H : ∀ (P72 : Int32 → Int32 → Nat → St → Prop), (∀ (t0 : Int32) (t1 : Int32) (t2 : Nat) (σ : St), (IA ids t2 0 30 → vp_in t1 30 ∧ ∀ s2 : St, s2 = si σ t2 (Int32.toNatClampNeg t1) t0 → vp_in a0 30 ∧ ((¬ (gi s2 (rf o 15) (Int32.toNatClampNeg a0)) = 0 → ∀ s5 : St, s5 = si s2 o 10 ((gi s2 o 10) + 1) → EI d ids Y_X7_takes [.ref o, .int 32] s5 (fun x7 s6 => ((x7 = 0 → Q 0 s6) ∧ (¬ x7 = 0 → EI d ids Y_X7_takesE [.ref o, .int a0] s6 (fun x10 s9 => ((x10 = 0 → Q 0 s9) ∧ (¬ x10 = 0 → Q 1 s9))))))) ∧ ((gi s2 (rf o 15) (Int32.toNatClampNeg a0)) = 0 → Q 0 s2))) → P72 t0 t1 t2 σ) → EI d ids Y_X7_next [.ref o] σ (fun x13 s12 => ((¬ x13 = 100 → ((¬ x13 = 120 → ((¬ x13 = 108 → ((¬ x13 = 102 → ((¬ x13 = 110 → ((¬ x13 = 116 → P72 0 a0 (rf o 15) s12) ∧ (x13 = 116 → P72 6 a0 (rf o 15) s12))) ∧ (x13 = 110 → P72 5 a0 (rf o 15) s12))) ∧ (x13 = 102 → P72 4 a0 (rf o 15) s12))) ∧ (x13 = 108 → P72 3 a0 (rf o 15) s12))) ∧ (x13 = 120 → P72 2 a0 (rf o 15) s12))) ∧ (x13 = 100 → P72 1 a0 (rf o 15) s12)))) : EI (d + 1) ids Y_X7_takesKind [.ref o, .int a0] σ Q := by
  refine E_mk (by decide) (Nat.le_of_ble_eq_true rfl) (fun X hX => ?_)
  replace hX : Cok X ids 3 cX7_takesKind (some .boolean) (d + 1) RX7 := hX
  show Wg X ids 3 _ 0 [(0, .ref o), (1, .int a0)] [] σ
  have h := H (fun (t0 : Int32) (t1 : Int32) (t2 : Nat) (σ : St) => (IA ids t2 0 30 → Wg X ids 3 (fun r σ1 => ∃ x, r = some (Value.int x) ∧ Q x σ1) 72 [(0, .ref o), (1, .int a0)] [.int t0, .int t1, .ref t2] σ))
  replace h := h (fun t0 t1 t2 σ h h_t2 => by
    replace h := h h_t2
    obtain ⟨b1, h⟩ := h
    refine q_iast hX dX7_takesKind_72 h_t2 b1 ?_
    refine Wg.nmS (fun s2 es2 => ?_)
    replace h := h s2 es2
    refine q_aload_n 0 hX dX7_takesKind_73 rfl rfl ?_
    refine gf_X7_119 hX h_o dX7_takesKind_74 ?_
    refine q_iload_n 1 hX dX7_takesKind_77 rfl rfl ?_
    obtain ⟨b3, h⟩ := h
    refine q_iald hX dX7_takesKind_78 (rfO_7_15 h_o) b3 ?_
    refine q_if_ne 84 hX dX7_takesKind_79 (by decide) (fun c4 => ?_) (fun c4 => ?_)
    · replace h := h.1 c4
      refine q_aload_n 0 hX dX7_takesKind_84 rfl rfl ?_
      refine q_dup hX dX7_takesKind_85 rfl ?_
      refine gf_X7_61 hX h_o dX7_takesKind_86 ?_
      refine q_iconst (v := 1) hX dX7_takesKind_89 (by decide) ?_
      refine q_iadd hX dX7_takesKind_90 ?_
      refine pf_X7_61 hX h_o dX7_takesKind_91 ?_
      refine Wg.nmS (fun s5 es5 => ?_)
      replace h := h s5 es5
      refine q_aload_n 0 hX dX7_takesKind_94 rfl rfl ?_
      refine q_bipush (v := 32) hX dX7_takesKind_95 (by decide) ?_
      refine cl_X7_68 hX h_o dX7_takesKind_97 (Nat.le_of_ble_eq_true rfl) h (fun x7 s6 h => ?_)
      refine q_if_eq 115 hX dX7_takesKind_100 (by decide) (fun c8 => ?_) (fun c8 => ?_)
      · replace h := h.1 c8
        refine q_iconst (v := 0) hX dX7_takesKind_115 (by decide) ?_
        exact q_zret hX dX7_takesKind_116 (by decide) ⟨_, rfl, h⟩
      · replace h := h.2 c8
        refine q_aload_n 0 hX dX7_takesKind_103 rfl rfl ?_
        refine q_iload_n 1 hX dX7_takesKind_104 rfl rfl ?_
        refine cl_X7_122 hX h_o dX7_takesKind_105 (Nat.le_of_ble_eq_true rfl) h (fun x10 s9 h => ?_)
        refine q_if_eq 115 hX dX7_takesKind_108 (by decide) (fun c11 => ?_) (fun c11 => ?_)
        · replace h := h.1 c11
          refine q_iconst (v := 0) hX dX7_takesKind_115 (by decide) ?_
          exact q_zret hX dX7_takesKind_116 (by decide) ⟨_, rfl, h⟩
        · replace h := h.2 c11
          refine q_iconst (v := 1) hX dX7_takesKind_111 (by decide) ?_
          refine q_goto 116 hX dX7_takesKind_112 (by decide) ?_
          exact q_zret hX dX7_takesKind_116 (by decide) ⟨_, rfl, h⟩
    · replace h := h.2 c4
      refine q_iconst (v := 0) hX dX7_takesKind_82 (by decide) ?_
      exact q_zret hX dX7_takesKind_83 (by decide) ⟨_, rfl, h⟩
    )
  refine q_aload_n 0 hX dX7_takesKind_0 rfl rfl ?_
  refine cl_X7_64 hX h_o dX7_takesKind_1 (Nat.le_of_ble_eq_true rfl) h (fun x13 s12 h => ?_)
  refine q_istore_n (L' := [(2, .int x13), (0, .ref o), (1, .int a0)]) hX dX7_takesKind_4 rfl (by decide) rfl ?_
  refine q_aload_n 1 hX dX7_takesKind_5 rfl rfl ?_
  refine gf_X7_119 hX h_o dX7_takesKind_6 ?_
  refine q_iload_n 2 hX dX7_takesKind_9 rfl rfl ?_
  refine q_iload_n 0 hX dX7_takesKind_10 rfl rfl ?_
  refine q_bipush (v := 100) hX dX7_takesKind_11 (by decide) ?_
  refine q_icmp_ne 20 hX dX7_takesKind_13 (by decide) (fun c14 => ?_) (fun c14 => ?_)
  · replace h := h.1 c14
    refine q_iload_n 0 hX dX7_takesKind_20 rfl rfl ?_
    refine q_bipush (v := 120) hX dX7_takesKind_21 (by decide) ?_
    refine q_icmp_ne 30 hX dX7_takesKind_23 (by decide) (fun c15 => ?_) (fun c15 => ?_)
    · replace h := h.1 c15
      refine q_iload_n 0 hX dX7_takesKind_30 rfl rfl ?_
      refine q_bipush (v := 108) hX dX7_takesKind_31 (by decide) ?_
      refine q_icmp_ne 40 hX dX7_takesKind_33 (by decide) (fun c16 => ?_) (fun c16 => ?_)
      · replace h := h.1 c16
        refine q_iload_n 0 hX dX7_takesKind_40 rfl rfl ?_
        refine q_bipush (v := 102) hX dX7_takesKind_41 (by decide) ?_
        refine q_icmp_ne 50 hX dX7_takesKind_43 (by decide) (fun c17 => ?_) (fun c17 => ?_)
        · replace h := h.1 c17
          refine q_iload_n 0 hX dX7_takesKind_50 rfl rfl ?_
          refine q_bipush (v := 110) hX dX7_takesKind_51 (by decide) ?_
          refine q_icmp_ne 60 hX dX7_takesKind_53 (by decide) (fun c18 => ?_) (fun c18 => ?_)
          · replace h := h.1 c18
            refine q_iload_n 0 hX dX7_takesKind_60 rfl rfl ?_
            refine q_bipush (v := 116) hX dX7_takesKind_61 (by decide) ?_
            refine q_icmp_ne 71 hX dX7_takesKind_63 (by decide) (fun c19 => ?_) (fun c19 => ?_)
            · replace h := h.1 c19
              refine q_iconst (v := 0) hX dX7_takesKind_71 (by decide) ?_
              exact Wg.sub [1, 2] rfl (h ((rfO_7_15 h_o)))
            · replace h := h.2 c19
              refine q_bipush (v := 6) hX dX7_takesKind_66 (by decide) ?_
              refine q_goto 72 hX dX7_takesKind_68 (by decide) ?_
              exact Wg.sub [1, 2] rfl (h ((rfO_7_15 h_o)))
          · replace h := h.2 c18
            refine q_iconst (v := 5) hX dX7_takesKind_56 (by decide) ?_
            refine q_goto 72 hX dX7_takesKind_57 (by decide) ?_
            exact Wg.sub [1, 2] rfl (h ((rfO_7_15 h_o)))
        · replace h := h.2 c17
          refine q_iconst (v := 4) hX dX7_takesKind_46 (by decide) ?_
          refine q_goto 72 hX dX7_takesKind_47 (by decide) ?_
          exact Wg.sub [1, 2] rfl (h ((rfO_7_15 h_o)))
      · replace h := h.2 c16
        refine q_iconst (v := 3) hX dX7_takesKind_36 (by decide) ?_
        refine q_goto 72 hX dX7_takesKind_37 (by decide) ?_
        exact Wg.sub [1, 2] rfl (h ((rfO_7_15 h_o)))
    · replace h := h.2 c15
      refine q_iconst (v := 2) hX dX7_takesKind_26 (by decide) ?_
      refine q_goto 72 hX dX7_takesKind_27 (by decide) ?_
      exact Wg.sub [1, 2] rfl (h ((rfO_7_15 h_o)))
  · replace h := h.2 c14
    refine q_iconst (v := 1) hX dX7_takesKind_16 (by decide) ?_
    refine q_goto 72 hX dX7_takesKind_17 (by decide) ?_
    exact Wg.sub [1, 2] rfl (h ((rfO_7_15 h_o)))
set_option maxHeartbeats 4000000 in
set_option maxRecDepth 20000 in
theorem fl_X7_takesClause {d : Nat} {ids : List Nat} {o : Nat} {a0 : Int32} {σ : St} {Q : Int32 → St → Prop} (h_o : IO ids o 7) (H : ∀ (P157 : St → Prop), (∀ (σ : St), (vp_in a0 30 ∧ ∀ s2 : St, s2 = si σ (rf o 16) (Int32.toNatClampNeg a0) (gi σ o 11) → Q 1 s2) → P157 σ) → EI d ids Y_X7_next [.ref o] σ (fun x4 s3 => ((x4 = 98 → vp_in a0 30 ∧ ∀ s7 : St, s7 = si s3 (rf o 14) (Int32.toNatClampNeg a0) 0 → EI d ids Y_X7_takesWord [.ref o, .int 2098, .int 3] s7 (fun x9 s8 => ((x9 = 0 → Q 0 s8) ∧ (¬ x9 = 0 → EI d ids Y_X7_takesKind [.ref o, .int a0] s8 (fun x12 s11 => ((x12 = 0 → Q 0 s11) ∧ (¬ x12 = 0 → Q 1 s11))))))) ∧ (x4 = 108 → vp_in a0 30 ∧ ∀ s15 : St, s15 = si s3 (rf o 14) (Int32.toNatClampNeg a0) 2 → EI d ids Y_X7_takesWord [.ref o, .int 394868, .int 4] s15 (fun x17 s16 => ((x17 = 0 → Q 0 s16) ∧ (¬ x17 = 0 → EI d ids Y_X7_takesNumber [.ref o, .int 1] s16 (fun x20 s19 => ((¬ x20 = 0 → P157 s19) ∧ (x20 = 0 → Q 0 s19))))))) ∧ (x4 = 115 → vp_in a0 30 ∧ ∀ s23 : St, s23 = si s3 (rf o 14) (Int32.toNatClampNeg a0) 1 → EI d ids Y_X7_takesWord [.ref o, .int 635184, .int 4] s23 (fun x25 s24 => ((x25 = 0 → Q 0 s24) ∧ (¬ x25 = 0 → EI d ids Y_X7_takesKind [.ref o, .int a0] s24 (fun x28 s27 => ((x28 = 0 → Q 0 s27) ∧ (¬ x28 = 0 → Q 1 s27))))))) ∧ (¬ x4 = 98 → ¬ x4 = 108 → ¬ x4 = 115 → vp_in a0 30 ∧ ∀ s31 : St, s31 = si s3 (rf o 14) (Int32.toNatClampNeg a0) 3 → EI d ids Y_X7_takesWord [.ref o, .int 132915, .int 4] s31 (fun x33 s32 => ((x33 = 0 → Q 0 s32) ∧ (¬ x33 = 0 → EI d ids Y_X7_takesNumber [.ref o, .int 1] s32 (fun x36 s35 => ((¬ x36 = 0 → P157 s35) ∧ (x36 = 0 → Q 0 s35)))))))))) : EI (d + 1) ids Y_X7_takesClause [.ref o, .int a0] σ Q := by
  refine E_mk (by decide) (Nat.le_of_ble_eq_true rfl) (fun X hX => ?_)
  replace hX : Cok X ids 2 cX7_takesClause (some .boolean) (d + 1) RX7 := hX
  show Wg X ids 2 _ 0 [(0, .ref o), (1, .int a0)] [] σ
  have h := H (fun (σ : St) => (Wg X ids 2 (fun r σ1 => ∃ x, r = some (Value.int x) ∧ Q x σ1) 157 [(0, .ref o), (1, .int a0)] [] σ))
  replace h := h (fun σ h => by
    refine q_aload_n 0 hX dX7_takesClause_157 rfl rfl ?_
    refine gf_X7_137 hX h_o dX7_takesClause_158 ?_
    refine q_iload_n 1 hX dX7_takesClause_161 rfl rfl ?_
    refine q_aload_n 0 hX dX7_takesClause_162 rfl rfl ?_
    refine gf_X7_75 hX h_o dX7_takesClause_163 ?_
    obtain ⟨b1, h⟩ := h
    refine q_iast hX dX7_takesClause_166 (rfO_7_16 h_o) b1 ?_
    refine Wg.nmS (fun s2 es2 => ?_)
    replace h := h s2 es2
    refine q_iconst (v := 1) hX dX7_takesClause_167 (by decide) ?_
    exact q_zret hX dX7_takesClause_168 (by decide) ⟨_, rfl, h⟩
    )
  refine q_aload_n 0 hX dX7_takesClause_0 rfl rfl ?_
  refine cl_X7_64 hX h_o dX7_takesClause_1 (Nat.le_of_ble_eq_true rfl) h (fun x4 s3 h => ?_)
  by_cases c5_0 : x4 = 98
  · refine q_lookup (off := 36) 40 hX dX7_takesClause_4 (by decide) (by first | (rw [c5_0]; done) | (rw [c5_0]; rfl)) (by decide) ?_
    replace h := h.1 c5_0
    refine q_aload_n 0 hX dX7_takesClause_40 rfl rfl ?_
    refine gf_X7_125 hX h_o dX7_takesClause_41 ?_
    refine q_iload_n 1 hX dX7_takesClause_44 rfl rfl ?_
    refine q_iconst (v := 0) hX dX7_takesClause_45 (by decide) ?_
    obtain ⟨b6, h⟩ := h
    refine q_iast hX dX7_takesClause_46 (rfO_7_14 h_o) b6 ?_
    refine Wg.nmS (fun s7 es7 => ?_)
    replace h := h s7 es7
    refine q_aload_n 0 hX dX7_takesClause_47 rfl rfl ?_
    refine q_sipush (v := 2098) hX dX7_takesClause_48 (by decide) ?_
    refine q_iconst (v := 3) hX dX7_takesClause_51 (by decide) ?_
    refine cl_X7_128 hX h_o dX7_takesClause_52 (Nat.le_of_ble_eq_true rfl) h (fun x9 s8 h => ?_)
    refine q_if_eq 70 hX dX7_takesClause_55 (by decide) (fun c10 => ?_) (fun c10 => ?_)
    · replace h := h.1 c10
      refine q_iconst (v := 0) hX dX7_takesClause_70 (by decide) ?_
      exact q_zret hX dX7_takesClause_71 (by decide) ⟨_, rfl, h⟩
    · replace h := h.2 c10
      refine q_aload_n 0 hX dX7_takesClause_58 rfl rfl ?_
      refine q_iload_n 1 hX dX7_takesClause_59 rfl rfl ?_
      refine cl_X7_131 hX h_o dX7_takesClause_60 (Nat.le_of_ble_eq_true rfl) h (fun x12 s11 h => ?_)
      refine q_if_eq 70 hX dX7_takesClause_63 (by decide) (fun c13 => ?_) (fun c13 => ?_)
      · replace h := h.1 c13
        refine q_iconst (v := 0) hX dX7_takesClause_70 (by decide) ?_
        exact q_zret hX dX7_takesClause_71 (by decide) ⟨_, rfl, h⟩
      · replace h := h.2 c13
        refine q_iconst (v := 1) hX dX7_takesClause_66 (by decide) ?_
        refine q_goto 71 hX dX7_takesClause_67 (by decide) ?_
        exact q_zret hX dX7_takesClause_71 (by decide) ⟨_, rfl, h⟩
  by_cases c5_1 : x4 = 108
  · refine q_lookup (off := 99) 103 hX dX7_takesClause_4 (by decide) (by first | (rw [c5_1]; done) | (rw [c5_1]; rfl)) (by decide) ?_
    replace h := h.2.1 c5_1
    refine q_aload_n 0 hX dX7_takesClause_103 rfl rfl ?_
    refine gf_X7_125 hX h_o dX7_takesClause_104 ?_
    refine q_iload_n 1 hX dX7_takesClause_107 rfl rfl ?_
    refine q_iconst (v := 2) hX dX7_takesClause_108 (by decide) ?_
    obtain ⟨b14, h⟩ := h
    refine q_iast hX dX7_takesClause_109 (rfO_7_14 h_o) b14 ?_
    refine Wg.nmS (fun s15 es15 => ?_)
    replace h := h s15 es15
    refine q_aload_n 0 hX dX7_takesClause_110 rfl rfl ?_
    refine q_ldc (v := 394868) hX dX7_takesClause_111 tb_908 ?_
    refine q_iconst (v := 4) hX dX7_takesClause_113 (by decide) ?_
    refine cl_X7_128 hX h_o dX7_takesClause_114 (Nat.le_of_ble_eq_true rfl) h (fun x17 s16 h => ?_)
    refine q_if_eq 128 hX dX7_takesClause_117 (by decide) (fun c18 => ?_) (fun c18 => ?_)
    · replace h := h.1 c18
      refine q_iconst (v := 0) hX dX7_takesClause_128 (by decide) ?_
      exact q_zret hX dX7_takesClause_129 (by decide) ⟨_, rfl, h⟩
    · replace h := h.2 c18
      refine q_aload_n 0 hX dX7_takesClause_120 rfl rfl ?_
      refine q_iconst (v := 1) hX dX7_takesClause_121 (by decide) ?_
      refine cl_X7_100 hX h_o dX7_takesClause_122 (Nat.le_of_ble_eq_true rfl) h (fun x20 s19 h => ?_)
      refine q_if_ne 157 hX dX7_takesClause_125 (by decide) (fun c21 => ?_) (fun c21 => ?_)
      · replace h := h.1 c21
        exact Wg.sub [0, 1] rfl (h)
      · replace h := h.2 c21
        refine q_iconst (v := 0) hX dX7_takesClause_128 (by decide) ?_
        exact q_zret hX dX7_takesClause_129 (by decide) ⟨_, rfl, h⟩
  by_cases c5_2 : x4 = 115
  · refine q_lookup (off := 68) 72 hX dX7_takesClause_4 (by decide) (by first | (rw [c5_2]; done) | (rw [c5_2]; rfl)) (by decide) ?_
    replace h := h.2.2.1 c5_2
    refine q_aload_n 0 hX dX7_takesClause_72 rfl rfl ?_
    refine gf_X7_125 hX h_o dX7_takesClause_73 ?_
    refine q_iload_n 1 hX dX7_takesClause_76 rfl rfl ?_
    refine q_iconst (v := 1) hX dX7_takesClause_77 (by decide) ?_
    obtain ⟨b22, h⟩ := h
    refine q_iast hX dX7_takesClause_78 (rfO_7_14 h_o) b22 ?_
    refine Wg.nmS (fun s23 es23 => ?_)
    replace h := h s23 es23
    refine q_aload_n 0 hX dX7_takesClause_79 rfl rfl ?_
    refine q_ldc (v := 635184) hX dX7_takesClause_80 tb_907 ?_
    refine q_iconst (v := 4) hX dX7_takesClause_82 (by decide) ?_
    refine cl_X7_128 hX h_o dX7_takesClause_83 (Nat.le_of_ble_eq_true rfl) h (fun x25 s24 h => ?_)
    refine q_if_eq 101 hX dX7_takesClause_86 (by decide) (fun c26 => ?_) (fun c26 => ?_)
    · replace h := h.1 c26
      refine q_iconst (v := 0) hX dX7_takesClause_101 (by decide) ?_
      exact q_zret hX dX7_takesClause_102 (by decide) ⟨_, rfl, h⟩
    · replace h := h.2 c26
      refine q_aload_n 0 hX dX7_takesClause_89 rfl rfl ?_
      refine q_iload_n 1 hX dX7_takesClause_90 rfl rfl ?_
      refine cl_X7_131 hX h_o dX7_takesClause_91 (Nat.le_of_ble_eq_true rfl) h (fun x28 s27 h => ?_)
      refine q_if_eq 101 hX dX7_takesClause_94 (by decide) (fun c29 => ?_) (fun c29 => ?_)
      · replace h := h.1 c29
        refine q_iconst (v := 0) hX dX7_takesClause_101 (by decide) ?_
        exact q_zret hX dX7_takesClause_102 (by decide) ⟨_, rfl, h⟩
      · replace h := h.2 c29
        refine q_iconst (v := 1) hX dX7_takesClause_97 (by decide) ?_
        refine q_goto 102 hX dX7_takesClause_98 (by decide) ?_
        exact q_zret hX dX7_takesClause_102 (by decide) ⟨_, rfl, h⟩
  refine q_lookup (off := 126) 130 hX dX7_takesClause_4 (by decide) (by have e0 := ne_toInt (k := 98) c5_0 (by decide); have e1 := ne_toInt (k := 108) c5_1 (by decide); have e2 := ne_toInt (k := 115) c5_2 (by decide); simp [Op.lookupswitch.offset, e0, e1, e2, e0.symm, e1.symm, e2.symm]) (by decide) ?_
  replace h := h.2.2.2 c5_0 c5_1 c5_2
  refine q_aload_n 0 hX dX7_takesClause_130 rfl rfl ?_
  refine gf_X7_125 hX h_o dX7_takesClause_131 ?_
  refine q_iload_n 1 hX dX7_takesClause_134 rfl rfl ?_
  refine q_iconst (v := 3) hX dX7_takesClause_135 (by decide) ?_
  obtain ⟨b30, h⟩ := h
  refine q_iast hX dX7_takesClause_136 (rfO_7_14 h_o) b30 ?_
  refine Wg.nmS (fun s31 es31 => ?_)
  replace h := h s31 es31
  refine q_aload_n 0 hX dX7_takesClause_137 rfl rfl ?_
  refine q_ldc (v := 132915) hX dX7_takesClause_138 tb_909 ?_
  refine q_iconst (v := 4) hX dX7_takesClause_140 (by decide) ?_
  refine cl_X7_128 hX h_o dX7_takesClause_141 (Nat.le_of_ble_eq_true rfl) h (fun x33 s32 h => ?_)
  refine q_if_eq 155 hX dX7_takesClause_144 (by decide) (fun c34 => ?_) (fun c34 => ?_)
  · replace h := h.1 c34
    refine q_iconst (v := 0) hX dX7_takesClause_155 (by decide) ?_
    exact q_zret hX dX7_takesClause_156 (by decide) ⟨_, rfl, h⟩
  · replace h := h.2 c34
    refine q_aload_n 0 hX dX7_takesClause_147 rfl rfl ?_
    refine q_iconst (v := 1) hX dX7_takesClause_148 (by decide) ?_
    refine cl_X7_100 hX h_o dX7_takesClause_149 (Nat.le_of_ble_eq_true rfl) h (fun x36 s35 h => ?_)
    refine q_if_ne 157 hX dX7_takesClause_152 (by decide) (fun c37 => ?_) (fun c37 => ?_)
    · replace h := h.1 c37
      exact Wg.sub [0, 1] rfl (h)
    · replace h := h.2 c37
      refine q_iconst (v := 0) hX dX7_takesClause_155 (by decide) ?_
      exact q_zret hX dX7_takesClause_156 (by decide) ⟨_, rfl, h⟩
set_option maxHeartbeats 4000000 in
set_option maxRecDepth 20000 in
theorem fl_X7_goes {d : Nat} {ids : List Nat} {o : Nat} {a0 : Int32} {σ : St} {Q : Int32 → St → Prop} (h_o : IO ids o 7) (H : ∀ (P15 : Int32 → St → Prop), (∀ (v2 : Int32) (σ : St), (EI d ids Y_X7_takesClause [.ref o, .int ((6 * a0) + v2)] σ (fun x2 s1 => ((¬ x2 = 0 → ∀ x4 : Int32, x4 = v2 + 1 → vp_in a0 5 ∧ ∀ s6 : St, s6 = si s1 (rf o 13) (Int32.toNatClampNeg a0) x4 → ((¬ (gi s6 o 10) = (gi s6 o 9) → ((x4 = 6 → Q 0 s6) ∧ (¬ x4 = 6 → EI d ids Y_X7_takes [.ref o, .int 59] s6 (fun x10 s9 => ((¬ x10 = 0 → P15 x4 s9) ∧ (x10 = 0 → Q 0 s9)))))) ∧ ((gi s6 o 10) = (gi s6 o 9) → Q 1 s6))) ∧ (x2 = 0 → Q 0 s1)))) → P15 v2 σ) → ∀ s12 : St, s12 = si σ o 10 0 → ∀ s13 : St, s13 = si s12 o 21 (100 * a0) → P15 0 s13) : EI (d + 1) ids Y_X7_goes [.ref o, .int a0] σ Q := by
  refine E_mk (by decide) (Nat.le_of_ble_eq_true rfl) (fun X hX => ?_)
  replace hX : Cok X ids 3 cX7_goes (some .boolean) (d + 1) RX7 := hX
  show Wg X ids 3 _ 0 [(0, .ref o), (1, .int a0)] [] σ
  have h := H (fun (v2 : Int32) (σ : St) => (Wg X ids 3 (fun r σ1 => ∃ x, r = some (Value.int x) ∧ Q x σ1) 15 [(0, .ref o), (1, .int a0), (2, .int v2)] [] σ))
  replace h := h (fun v2 σ h => by
    refine q_aload_n 0 hX dX7_goes_15 rfl rfl ?_
    refine q_bipush (v := 6) hX dX7_goes_16 (by decide) ?_
    refine q_iload_n 1 hX dX7_goes_18 rfl rfl ?_
    refine q_imul hX dX7_goes_19 ?_
    refine q_iload_n 2 hX dX7_goes_20 rfl rfl ?_
    refine q_iadd hX dX7_goes_21 ?_
    refine cl_X7_140 hX h_o dX7_goes_22 (Nat.le_of_ble_eq_true rfl) h (fun x2 s1 h => ?_)
    refine q_if_ne 30 hX dX7_goes_25 (by decide) (fun c3 => ?_) (fun c3 => ?_)
    · replace h := h.1 c3
      obtain ⟨x4, ex4⟩ : ∃ z : Int32, z = v2 + 1 := ⟨_, rfl⟩
      replace h := h x4 ex4
      refine q_iinc (v := x4) (L' := [(2, .int x4), (0, .ref o), (1, .int a0)]) 2 hX dX7_goes_30 rfl (by rw [ex4]; rfl) (by decide) rfl ?_
      refine q_aload_n 1 hX dX7_goes_33 rfl rfl ?_
      refine gf_X7_143 hX h_o dX7_goes_34 ?_
      refine q_iload_n 2 hX dX7_goes_37 rfl rfl ?_
      refine q_iload_n 0 hX dX7_goes_38 rfl rfl ?_
      obtain ⟨b5, h⟩ := h
      refine q_iast hX dX7_goes_39 (rfO_7_13 h_o) b5 ?_
      refine Wg.nmS (fun s6 es6 => ?_)
      replace h := h s6 es6
      refine q_aload_n 1 hX dX7_goes_40 rfl rfl ?_
      refine gf_X7_61 hX h_o dX7_goes_41 ?_
      refine q_aload_n 1 hX dX7_goes_44 rfl rfl ?_
      refine gf_X7_55 hX h_o dX7_goes_45 ?_
      refine q_icmp_ne 53 hX dX7_goes_48 (by decide) (fun c7 => ?_) (fun c7 => ?_)
      · replace h := h.1 c7
        refine q_iload_n 0 hX dX7_goes_53 rfl rfl ?_
        refine q_bipush (v := 6) hX dX7_goes_54 (by decide) ?_
        refine q_icmp_eq 68 hX dX7_goes_56 (by decide) (fun c8 => ?_) (fun c8 => ?_)
        · replace h := h.1 c8
          refine q_iconst (v := 0) hX dX7_goes_68 (by decide) ?_
          exact q_zret hX dX7_goes_69 (by decide) ⟨_, rfl, h⟩
        · replace h := h.2 c8
          refine q_aload_n 1 hX dX7_goes_59 rfl rfl ?_
          refine q_bipush (v := 59) hX dX7_goes_60 (by decide) ?_
          refine cl_X7_68 hX h_o dX7_goes_62 (Nat.le_of_ble_eq_true rfl) h (fun x10 s9 h => ?_)
          refine q_if_ne 15 hX dX7_goes_65 (by decide) (fun c11 => ?_) (fun c11 => ?_)
          · replace h := h.1 c11
            exact Wg.sub [1, 2, 0] rfl (h)
          · replace h := h.2 c11
            refine q_iconst (v := 0) hX dX7_goes_68 (by decide) ?_
            exact q_zret hX dX7_goes_69 (by decide) ⟨_, rfl, h⟩
      · replace h := h.2 c7
        refine q_iconst (v := 1) hX dX7_goes_51 (by decide) ?_
        exact q_zret hX dX7_goes_52 (by decide) ⟨_, rfl, h⟩
    · replace h := h.2 c3
      refine q_iconst (v := 0) hX dX7_goes_28 (by decide) ?_
      exact q_zret hX dX7_goes_29 (by decide) ⟨_, rfl, h⟩
    )
  refine q_aload_n 0 hX dX7_goes_0 rfl rfl ?_
  refine q_iconst (v := 0) hX dX7_goes_1 (by decide) ?_
  refine pf_X7_61 hX h_o dX7_goes_2 ?_
  refine Wg.nmS (fun s12 es12 => ?_)
  replace h := h s12 es12
  refine q_aload_n 0 hX dX7_goes_5 rfl rfl ?_
  refine q_bipush (v := 100) hX dX7_goes_6 (by decide) ?_
  refine q_iload_n 1 hX dX7_goes_8 rfl rfl ?_
  refine q_imul hX dX7_goes_9 ?_
  refine pf_X7_81 hX h_o dX7_goes_10 ?_
  refine Wg.nmS (fun s13 es13 => ?_)
  replace h := h s13 es13
  refine q_iconst (v := 0) hX dX7_goes_13 (by decide) ?_
  refine q_istore_n (L' := [(2, .int 0), (0, .ref o), (1, .int a0)]) hX dX7_goes_14 rfl (by decide) rfl ?_
  exact Wg.sub [1, 2, 0] rfl (h)
set_option maxHeartbeats 4000000 in
set_option maxRecDepth 20000 in
theorem fl_X7_rules {d : Nat} {ids : List Nat} {o : Nat} {σ : St} {Q : Int32 → St → Prop} (h_o : IO ids o 7) (H : ((¬ (gi σ o 8) = 5 → EI d ids Y_X7_goes [.ref o, .int (gi σ o 8)] σ (fun x3 s2 => ∀ s4 : St, s4 = si s2 o 9 0 → ((¬ x3 = 0 → ∀ s6 : St, s6 = si s4 o 8 ((gi s4 o 8) + 1) → Q ((gi s6 o 8) - 1) s6) ∧ (x3 = 0 → Q ((-10) - (gi s4 o 10)) s4)))) ∧ ((gi σ o 8) = 5 → Q (-4) σ))) : EI (d + 1) ids Y_X7_rules [.ref o] σ Q := by
  refine E_mk (by decide) (Nat.le_of_ble_eq_true rfl) (fun X hX => ?_)
  replace hX : Cok X ids 2 cX7_rules (some .int) (d + 1) RX7 := hX
  show Wg X ids 2 _ 0 [(0, .ref o)] [] σ
  have h := H
  refine q_aload_n 0 hX dX7_rules_0 rfl rfl ?_
  refine gf_X7_52 hX h_o dX7_rules_1 ?_
  refine q_iconst (v := 5) hX dX7_rules_4 (by decide) ?_
  refine q_icmp_ne 11 hX dX7_rules_5 (by decide) (fun c1 => ?_) (fun c1 => ?_)
  · replace h := h.1 c1
    refine q_aload_n 0 hX dX7_rules_11 rfl rfl ?_
    refine q_aload_n 0 hX dX7_rules_12 rfl rfl ?_
    refine gf_X7_52 hX h_o dX7_rules_13 ?_
    refine cl_X7_146 hX h_o dX7_rules_16 (Nat.le_of_ble_eq_true rfl) h (fun x3 s2 h => ?_)
    refine q_istore_n (L' := [(1, .int x3), (0, .ref o)]) hX dX7_rules_19 rfl (by decide) rfl ?_
    refine q_aload_n 1 hX dX7_rules_20 rfl rfl ?_
    refine q_iconst (v := 0) hX dX7_rules_21 (by decide) ?_
    refine pf_X7_55 hX h_o dX7_rules_22 ?_
    refine Wg.nmS (fun s4 es4 => ?_)
    replace h := h s4 es4
    refine q_iload_n 0 hX dX7_rules_25 rfl rfl ?_
    refine q_if_ne 37 hX dX7_rules_26 (by decide) (fun c5 => ?_) (fun c5 => ?_)
    · replace h := h.1 c5
      refine q_aload_n 1 hX dX7_rules_37 rfl rfl ?_
      refine q_dup hX dX7_rules_38 rfl ?_
      refine gf_X7_52 hX h_o dX7_rules_39 ?_
      refine q_iconst (v := 1) hX dX7_rules_42 (by decide) ?_
      refine q_iadd hX dX7_rules_43 ?_
      refine pf_X7_52 hX h_o dX7_rules_44 ?_
      refine Wg.nmS (fun s6 es6 => ?_)
      replace h := h s6 es6
      refine q_aload_n 1 hX dX7_rules_47 rfl rfl ?_
      refine gf_X7_52 hX h_o dX7_rules_48 ?_
      refine q_iconst (v := 1) hX dX7_rules_51 (by decide) ?_
      refine q_isub hX dX7_rules_52 ?_
      exact q_ret hX dX7_rules_53 ⟨_, rfl, h⟩
    · replace h := h.2 c5
      refine q_bipush (v := (-10)) hX dX7_rules_29 (by decide) ?_
      refine q_aload_n 1 hX dX7_rules_31 rfl rfl ?_
      refine gf_X7_61 hX h_o dX7_rules_32 ?_
      refine q_isub hX dX7_rules_35 ?_
      exact q_ret hX dX7_rules_36 ⟨_, rfl, h⟩
  · replace h := h.2 c1
    refine q_bipush (v := (-4)) hX dX7_rules_8 (by decide) ?_
    exact q_ret hX dX7_rules_10 ⟨_, rfl, h⟩
set_option maxHeartbeats 4000000 in
set_option maxRecDepth 20000 in
theorem fl_X7_empty {d : Nat} {ids : List Nat} {o : Nat} {σ : St} {Q : St → Prop} (h_o : IO ids o 7) (H : ∀ s1 : St, s1 = si σ o 26 0 → ∀ s2 : St, s2 = si s1 (rf o 28) (Int32.toNatClampNeg 0) 1 → ∀ s3 : St, s3 = si s2 (rf o 29) (Int32.toNatClampNeg 0) 0 → ∀ s4 : St, s4 = si s3 (rf o 30) (Int32.toNatClampNeg 0) 1 → ∀ s5 : St, s5 = si s4 (rf o 31) (Int32.toNatClampNeg 0) 0 → ∀ s6 : St, s6 = si s5 (rf o 32) (Int32.toNatClampNeg 0) 0 → ∀ s7 : St, s7 = si s6 (rf o 33) (Int32.toNatClampNeg 0) 0 → ∀ s8 : St, s8 = si s7 (rf o 34) (Int32.toNatClampNeg 0) 0 → ∀ s9 : St, s9 = si s8 (rf o 35) (Int32.toNatClampNeg 0) 0 → ∀ s10 : St, s10 = si s9 (rf o 36) (Int32.toNatClampNeg 0) (vp_nar .boolean 0) → Q s10) : EV (d + 1) ids Y_X7_empty [.ref o] σ Q := by
  refine E_mk (by decide) (Nat.le_of_ble_eq_true rfl) (fun X hX => ?_)
  replace hX : Cok X ids 1 cX7_empty none (d + 1) RX7 := hX
  show Wg X ids 1 _ 0 [(0, .ref o)] [] σ
  have h := H
  refine q_aload_n 0 hX dX7_empty_0 rfl rfl ?_
  refine q_iconst (v := 0) hX dX7_empty_1 (by decide) ?_
  refine pf_X7_160 hX h_o dX7_empty_2 ?_
  refine Wg.nmS (fun s1 es1 => ?_)
  replace h := h s1 es1
  refine q_aload_n 0 hX dX7_empty_5 rfl rfl ?_
  refine gf_X7_166 hX h_o dX7_empty_6 ?_
  refine q_iconst (v := 0) hX dX7_empty_9 (by decide) ?_
  refine q_iconst (v := 1) hX dX7_empty_10 (by decide) ?_
  refine q_iast hX dX7_empty_11 (rfO_7_28 h_o) (vp_dec (by decide)) ?_
  refine Wg.nmS (fun s2 es2 => ?_)
  replace h := h s2 es2
  refine q_aload_n 0 hX dX7_empty_12 rfl rfl ?_
  refine gf_X7_169 hX h_o dX7_empty_13 ?_
  refine q_iconst (v := 0) hX dX7_empty_16 (by decide) ?_
  refine q_iconst (v := 0) hX dX7_empty_17 (by decide) ?_
  refine q_iast hX dX7_empty_18 (rfO_7_29 h_o) (vp_dec (by decide)) ?_
  refine Wg.nmS (fun s3 es3 => ?_)
  replace h := h s3 es3
  refine q_aload_n 0 hX dX7_empty_19 rfl rfl ?_
  refine gf_X7_172 hX h_o dX7_empty_20 ?_
  refine q_iconst (v := 0) hX dX7_empty_23 (by decide) ?_
  refine q_iconst (v := 1) hX dX7_empty_24 (by decide) ?_
  refine q_iast hX dX7_empty_25 (rfO_7_30 h_o) (vp_dec (by decide)) ?_
  refine Wg.nmS (fun s4 es4 => ?_)
  replace h := h s4 es4
  refine q_aload_n 0 hX dX7_empty_26 rfl rfl ?_
  refine gf_X7_175 hX h_o dX7_empty_27 ?_
  refine q_iconst (v := 0) hX dX7_empty_30 (by decide) ?_
  refine q_iconst (v := 0) hX dX7_empty_31 (by decide) ?_
  refine q_iast hX dX7_empty_32 (rfO_7_31 h_o) (vp_dec (by decide)) ?_
  refine Wg.nmS (fun s5 es5 => ?_)
  replace h := h s5 es5
  refine q_aload_n 0 hX dX7_empty_33 rfl rfl ?_
  refine gf_X7_178 hX h_o dX7_empty_34 ?_
  refine q_iconst (v := 0) hX dX7_empty_37 (by decide) ?_
  refine q_iconst (v := 0) hX dX7_empty_38 (by decide) ?_
  refine q_iast hX dX7_empty_39 (rfO_7_32 h_o) (vp_dec (by decide)) ?_
  refine Wg.nmS (fun s6 es6 => ?_)
  replace h := h s6 es6
  refine q_aload_n 0 hX dX7_empty_40 rfl rfl ?_
  refine gf_X7_181 hX h_o dX7_empty_41 ?_
  refine q_iconst (v := 0) hX dX7_empty_44 (by decide) ?_
  refine q_iconst (v := 0) hX dX7_empty_45 (by decide) ?_
  refine q_iast hX dX7_empty_46 (rfO_7_33 h_o) (vp_dec (by decide)) ?_
  refine Wg.nmS (fun s7 es7 => ?_)
  replace h := h s7 es7
  refine q_aload_n 0 hX dX7_empty_47 rfl rfl ?_
  refine gf_X7_184 hX h_o dX7_empty_48 ?_
  refine q_iconst (v := 0) hX dX7_empty_51 (by decide) ?_
  refine q_iconst (v := 0) hX dX7_empty_52 (by decide) ?_
  refine q_iast hX dX7_empty_53 (rfO_7_34 h_o) (vp_dec (by decide)) ?_
  refine Wg.nmS (fun s8 es8 => ?_)
  replace h := h s8 es8
  refine q_aload_n 0 hX dX7_empty_54 rfl rfl ?_
  refine gf_X7_187 hX h_o dX7_empty_55 ?_
  refine q_iconst (v := 0) hX dX7_empty_58 (by decide) ?_
  refine q_iconst (v := 0) hX dX7_empty_59 (by decide) ?_
  refine q_iast hX dX7_empty_60 (rfO_7_35 h_o) (vp_dec (by decide)) ?_
  refine Wg.nmS (fun s9 es9 => ?_)
  replace h := h s9 es9
  refine q_aload_n 0 hX dX7_empty_61 rfl rfl ?_
  refine gf_X7_190 hX h_o dX7_empty_62 ?_
  refine q_iconst (v := 0) hX dX7_empty_65 (by decide) ?_
  refine q_iconst (v := 0) hX dX7_empty_66 (by decide) ?_
  refine q_zast hX dX7_empty_67 (rfO_7_36 h_o) (vp_dec (by decide)) ?_
  refine Wg.nmS (fun s10 es10 => ?_)
  replace h := h s10 es10
  exact q_vret hX dX7_empty_68 ⟨rfl, h⟩
set_option maxHeartbeats 4000000 in
set_option maxRecDepth 20000 in
theorem fl_X7_factOf {d : Nat} {ids : List Nat} {o : Nat} {a0 : Int32} {σ : St} {Q : Int32 → St → Prop} (h_o : IO ids o 7) (H : ((a0 = 0 → Q (gi σ o 26) σ) ∧ (a0 = 1 → vp_in (gi σ o 26) 8 ∧ Q (gi σ (rf o 29) (Int32.toNatClampNeg (gi σ o 26))) σ) ∧ (a0 = 2 → vp_in (gi σ o 26) 8 ∧ Q (gi σ (rf o 30) (Int32.toNatClampNeg (gi σ o 26))) σ) ∧ (a0 = 3 → vp_in (gi σ o 26) 8 ∧ EI d ids Y_X7_ones [.ref o, .int (gi σ (rf o 31) (Int32.toNatClampNeg (gi σ o 26)))] σ (fun x6 s5 => Q x6 s5)) ∧ (¬ a0 = 0 → ¬ a0 = 1 → ¬ a0 = 2 → ¬ a0 = 3 → vp_in (gi σ o 26) 8 ∧ Q (gi σ (rf o 32) (Int32.toNatClampNeg (gi σ o 26))) σ))) : EI (d + 1) ids Y_X7_factOf [.ref o, .int a0] σ Q := by
  refine E_mk (by decide) (Nat.le_of_ble_eq_true rfl) (fun X hX => ?_)
  replace hX : Cok X ids 2 cX7_factOf (some .int) (d + 1) RX7 := hX
  show Wg X ids 2 _ 0 [(0, .ref o), (1, .int a0)] [] σ
  have h := H
  refine q_iload_n 1 hX dX7_factOf_0 rfl rfl ?_
  by_cases c1_0 : a0 = 0
  · refine q_tableIn (off := 31) 32 hX dX7_factOf_1 (by rw [c1_0]; decide) (by rw [c1_0]; decide) (by first | (rw [c1_0]; done) | (rw [c1_0]; rfl)) (by decide) ?_
    replace h := h.1 c1_0
    refine q_aload_n 0 hX dX7_factOf_32 rfl rfl ?_
    refine gf_X7_160 hX h_o dX7_factOf_33 ?_
    exact q_ret hX dX7_factOf_36 ⟨_, rfl, h⟩
  by_cases c1_1 : a0 = 1
  · refine q_tableIn (off := 36) 37 hX dX7_factOf_1 (by rw [c1_1]; decide) (by rw [c1_1]; decide) (by first | (rw [c1_1]; done) | (rw [c1_1]; rfl)) (by decide) ?_
    replace h := h.2.1 c1_1
    refine q_aload_n 0 hX dX7_factOf_37 rfl rfl ?_
    refine gf_X7_169 hX h_o dX7_factOf_38 ?_
    refine q_aload_n 0 hX dX7_factOf_41 rfl rfl ?_
    refine gf_X7_160 hX h_o dX7_factOf_42 ?_
    obtain ⟨b2, h⟩ := h
    refine q_iald hX dX7_factOf_45 (rfO_7_29 h_o) b2 ?_
    exact q_ret hX dX7_factOf_46 ⟨_, rfl, h⟩
  by_cases c1_2 : a0 = 2
  · refine q_tableIn (off := 46) 47 hX dX7_factOf_1 (by rw [c1_2]; decide) (by rw [c1_2]; decide) (by first | (rw [c1_2]; done) | (rw [c1_2]; rfl)) (by decide) ?_
    replace h := h.2.2.1 c1_2
    refine q_aload_n 0 hX dX7_factOf_47 rfl rfl ?_
    refine gf_X7_172 hX h_o dX7_factOf_48 ?_
    refine q_aload_n 0 hX dX7_factOf_51 rfl rfl ?_
    refine gf_X7_160 hX h_o dX7_factOf_52 ?_
    obtain ⟨b3, h⟩ := h
    refine q_iald hX dX7_factOf_55 (rfO_7_30 h_o) b3 ?_
    exact q_ret hX dX7_factOf_56 ⟨_, rfl, h⟩
  by_cases c1_3 : a0 = 3
  · refine q_tableIn (off := 56) 57 hX dX7_factOf_1 (by rw [c1_3]; decide) (by rw [c1_3]; decide) (by first | (rw [c1_3]; done) | (rw [c1_3]; rfl)) (by decide) ?_
    replace h := h.2.2.2.1 c1_3
    refine q_aload_n 0 hX dX7_factOf_57 rfl rfl ?_
    refine q_aload_n 0 hX dX7_factOf_58 rfl rfl ?_
    refine gf_X7_175 hX h_o dX7_factOf_59 ?_
    refine q_aload_n 0 hX dX7_factOf_62 rfl rfl ?_
    refine gf_X7_160 hX h_o dX7_factOf_63 ?_
    obtain ⟨b4, h⟩ := h
    refine q_iald hX dX7_factOf_66 (rfO_7_31 h_o) b4 ?_
    refine cl_X7_239 hX h_o dX7_factOf_67 (Nat.le_of_ble_eq_true rfl) h (fun x6 s5 h => ?_)
    exact q_ret hX dX7_factOf_70 ⟨_, rfl, h⟩
  refine q_tableOut 71 hX dX7_factOf_1 (by have e0 := ne_toInt (k := 0) c1_0 (by decide); have e1 := ne_toInt (k := 1) c1_1 (by decide); have e2 := ne_toInt (k := 2) c1_2 (by decide); have e3 := ne_toInt (k := 3) c1_3 (by decide); omega) (by decide) ?_
  replace h := h.2.2.2.2 c1_0 c1_1 c1_2 c1_3
  refine q_aload_n 0 hX dX7_factOf_71 rfl rfl ?_
  refine gf_X7_178 hX h_o dX7_factOf_72 ?_
  refine q_aload_n 0 hX dX7_factOf_75 rfl rfl ?_
  refine gf_X7_160 hX h_o dX7_factOf_76 ?_
  obtain ⟨b7, h⟩ := h
  refine q_iald hX dX7_factOf_79 (rfO_7_32 h_o) b7 ?_
  exact q_ret hX dX7_factOf_80 ⟨_, rfl, h⟩
set_option maxHeartbeats 4000000 in
set_option maxRecDepth 20000 in
theorem fl_X7_holds {d : Nat} {ids : List Nat} {o : Nat} {a0 : Int32} {σ : St} {Q : Int32 → St → Prop} (h_o : IO ids o 7) (H : ∀ (P9 : Int32 → Int32 → St → Prop) (P57 : Int32 → Int32 → Int32 → Int32 → Nat → St → Prop) (P107 : Int32 → Int32 → Int32 → Nat → St → Prop) (P131 : Int32 → Int32 → Int32 → Nat → St → Prop) (P136 : Int32 → Int32 → Int32 → Int32 → Nat → St → Prop) (P229 : Int32 → Int32 → Int32 → Int32 → Nat → St → Prop) (P233 : Int32 → Int32 → St → Prop), (∀ (v2 : Int32) (v3 : Int32) (σ : St), (vp_in a0 30 ∧ (((gi σ (rf o 18) (Int32.toNatClampNeg a0)) ≤ v3 → (((gi σ (rf o 37) (Int32.toNatClampNeg 0)) = 0 ∨ (gi σ (rf o 37) (Int32.toNatClampNeg 0)) = 1) ∧ Q (gi σ (rf o 37) (Int32.toNatClampNeg 0)) σ)) ∧ (¬ ((gi σ (rf o 18) (Int32.toNatClampNeg a0)) ≤ v3) → vp_in v3 500 ∧ ∀ x4 : Int32, x4 = (gi σ (rf o 19) (Int32.toNatClampNeg v3)) → ((¬ x4 = (-33) → ((0 ≤ x4 → EI d ids Y_X7_factOf [.ref o, .int (x4 / 1000)] σ (fun x8 s7 => ∀ x9 : Int32, x9 = ((x4 / 100) - (x4 / 100) / 10 * 10) → ((¬ x9 = 0 → ((¬ x9 = 1 → ((x8 ≤ (x4 - x4 / 100 * 100) → P229 v2 v3 0 v2 (rf o 37) s7) ∧ (¬ (x8 ≤ (x4 - x4 / 100 * 100)) → P229 v2 v3 1 v2 (rf o 37) s7))) ∧ (x9 = 1 → ((¬ x8 = (x4 - x4 / 100 * 100) → P229 v2 v3 0 v2 (rf o 37) s7) ∧ (x8 = (x4 - x4 / 100 * 100) → P229 v2 v3 1 v2 (rf o 37) s7))))) ∧ (x9 = 0 → (((x4 - x4 / 100 * 100) ≤ x8 → P229 v2 v3 0 v2 (rf o 37) s7) ∧ (¬ ((x4 - x4 / 100 * 100) ≤ x8) → P229 v2 v3 1 v2 (rf o 37) s7)))))) ∧ (¬ (0 ≤ x4) → ∀ x15 : Int32, x15 = v2 + (-1) → ((¬ x4 = (-38) → vp_in (x15 - 1) 100 ∧ ((¬ (gi σ (rf o 37) (Int32.toNatClampNeg (x15 - 1))) = 0 → P131 x15 v3 (x15 - 1) (rf o 37) σ) ∧ ((gi σ (rf o 37) (Int32.toNatClampNeg (x15 - 1))) = 0 → vp_in x15 100 ∧ (((gi σ (rf o 37) (Int32.toNatClampNeg x15)) = 0 → P136 x15 v3 0 (x15 - 1) (rf o 37) σ) ∧ (¬ (gi σ (rf o 37) (Int32.toNatClampNeg x15)) = 0 → P131 x15 v3 (x15 - 1) (rf o 37) σ))))) ∧ (x4 = (-38) → vp_in (x15 - 1) 100 ∧ (((gi σ (rf o 37) (Int32.toNatClampNeg (x15 - 1))) = 0 → P107 x15 v3 (x15 - 1) (rf o 37) σ) ∧ (¬ (gi σ (rf o 37) (Int32.toNatClampNeg (x15 - 1))) = 0 → vp_in x15 100 ∧ (((gi σ (rf o 37) (Int32.toNatClampNeg x15)) = 0 → P107 x15 v3 (x15 - 1) (rf o 37) σ) ∧ (¬ (gi σ (rf o 37) (Int32.toNatClampNeg x15)) = 0 → P136 x15 v3 1 (x15 - 1) (rf o 37) σ))))))))) ∧ (x4 = (-33) → vp_in (v2 - 1) 100 ∧ ((¬ (gi σ (rf o 37) (Int32.toNatClampNeg (v2 - 1))) = 0 → P57 v2 v3 0 (v2 - 1) (rf o 37) σ) ∧ ((gi σ (rf o 37) (Int32.toNatClampNeg (v2 - 1))) = 0 → P57 v2 v3 1 (v2 - 1) (rf o 37) σ))))))) → P9 v2 v3 σ) → (∀ (v2 : Int32) (v3 : Int32) (t0 : Int32) (t1 : Int32) (t2 : Nat) (σ : St), (IA ids t2 2 100 → vp_in t1 100 ∧ ∀ s28 : St, s28 = si σ t2 (Int32.toNatClampNeg t1) (vp_nar .boolean t0) → P233 v2 v3 s28) → P57 v2 v3 t0 t1 t2 σ) → (∀ (v2 : Int32) (v3 : Int32) (t0 : Int32) (t1 : Nat) (σ : St), (IA ids t1 2 100 → P136 v2 v3 0 t0 t1 σ) → P107 v2 v3 t0 t1 σ) → (∀ (v2 : Int32) (v3 : Int32) (t0 : Int32) (t1 : Nat) (σ : St), (IA ids t1 2 100 → P136 v2 v3 1 t0 t1 σ) → P131 v2 v3 t0 t1 σ) → (∀ (v2 : Int32) (v3 : Int32) (t0 : Int32) (t1 : Int32) (t2 : Nat) (σ : St), (IA ids t2 2 100 → vp_in t1 100 ∧ ∀ s30 : St, s30 = si σ t2 (Int32.toNatClampNeg t1) (vp_nar .boolean t0) → P233 v2 v3 s30) → P136 v2 v3 t0 t1 t2 σ) → (∀ (v2 : Int32) (v3 : Int32) (t0 : Int32) (t1 : Int32) (t2 : Nat) (σ : St), (IA ids t2 2 100 → vp_in t1 100 ∧ ∀ s32 : St, s32 = si σ t2 (Int32.toNatClampNeg t1) (vp_nar .boolean t0) → ∀ x33 : Int32, x33 = v2 + 1 → P233 x33 v3 s32) → P229 v2 v3 t0 t1 t2 σ) → (∀ (v2 : Int32) (v3 : Int32) (σ : St), (∀ x34 : Int32, x34 = v3 + 1 → P9 v2 x34 σ) → P233 v2 v3 σ) → vp_in a0 30 ∧ ∀ x36 : Int32, x36 = (gi σ (rf o 17) (Int32.toNatClampNeg a0)) → P9 0 x36 σ) : EI (d + 1) ids Y_X7_holds [.ref o, .int a0] σ Q := by
  refine E_mk (by decide) (Nat.le_of_ble_eq_true rfl) (fun X hX => ?_)
  replace hX : Cok X ids 7 cX7_holds (some .boolean) (d + 1) RX7 := hX
  show Wg X ids 7 _ 0 [(0, .ref o), (1, .int a0)] [] σ
  have h := H (fun (v2 : Int32) (v3 : Int32) (σ : St) => (Wg X ids 7 (fun r σ1 => ∃ x, r = some (Value.int x) ∧ Q x σ1) 9 [(0, .ref o), (1, .int a0), (2, .int v2), (3, .int v3)] [] σ)) (fun (v2 : Int32) (v3 : Int32) (t0 : Int32) (t1 : Int32) (t2 : Nat) (σ : St) => (IA ids t2 2 100 → Wg X ids 7 (fun r σ1 => ∃ x, r = some (Value.int x) ∧ Q x σ1) 57 [(0, .ref o), (1, .int a0), (2, .int v2), (3, .int v3)] [.int t0, .int t1, .ref t2] σ)) (fun (v2 : Int32) (v3 : Int32) (t0 : Int32) (t1 : Nat) (σ : St) => (IA ids t1 2 100 → Wg X ids 7 (fun r σ1 => ∃ x, r = some (Value.int x) ∧ Q x σ1) 107 [(0, .ref o), (1, .int a0), (2, .int v2), (3, .int v3)] [.int t0, .ref t1] σ)) (fun (v2 : Int32) (v3 : Int32) (t0 : Int32) (t1 : Nat) (σ : St) => (IA ids t1 2 100 → Wg X ids 7 (fun r σ1 => ∃ x, r = some (Value.int x) ∧ Q x σ1) 131 [(0, .ref o), (1, .int a0), (2, .int v2), (3, .int v3)] [.int t0, .ref t1] σ)) (fun (v2 : Int32) (v3 : Int32) (t0 : Int32) (t1 : Int32) (t2 : Nat) (σ : St) => (IA ids t2 2 100 → Wg X ids 7 (fun r σ1 => ∃ x, r = some (Value.int x) ∧ Q x σ1) 136 [(0, .ref o), (1, .int a0), (2, .int v2), (3, .int v3)] [.int t0, .int t1, .ref t2] σ)) (fun (v2 : Int32) (v3 : Int32) (t0 : Int32) (t1 : Int32) (t2 : Nat) (σ : St) => (IA ids t2 2 100 → Wg X ids 7 (fun r σ1 => ∃ x, r = some (Value.int x) ∧ Q x σ1) 229 [(0, .ref o), (1, .int a0), (2, .int v2), (3, .int v3)] [.int t0, .int t1, .ref t2] σ)) (fun (v2 : Int32) (v3 : Int32) (σ : St) => (Wg X ids 7 (fun r σ1 => ∃ x, r = some (Value.int x) ∧ Q x σ1) 233 [(0, .ref o), (1, .int a0), (2, .int v2), (3, .int v3)] [] σ))
  replace h := h (fun v2 v3 σ h => by
    refine q_iload_n 3 hX dX7_holds_9 rfl rfl ?_
    refine q_aload_n 0 hX dX7_holds_10 rfl rfl ?_
    refine gf_X7_116 hX h_o dX7_holds_11 ?_
    refine q_iload_n 1 hX dX7_holds_14 rfl rfl ?_
    obtain ⟨b1, h⟩ := h
    refine q_iald hX dX7_holds_15 (rfO_7_18 h_o) b1 ?_
    refine q_icmp_ge 239 hX dX7_holds_16 (by decide) (fun c2 => ?_) (fun c2 => ?_)
    · replace h := h.1 c2
      refine q_aload_n 0 hX dX7_holds_239 rfl rfl ?_
      refine gf_X7_193 hX h_o dX7_holds_240 ?_
      refine q_iconst (v := 0) hX dX7_holds_243 (by decide) ?_
      refine q_zald hX dX7_holds_244 (rfO_7_37 h_o) (vp_dec (by decide)) ?_
      exact q_zret hX dX7_holds_245 h.1 ⟨_, rfl, h.2⟩
    · replace h := h.2 c2
      refine q_aload_n 0 hX dX7_holds_19 rfl rfl ?_
      refine gf_X7_78 hX h_o dX7_holds_20 ?_
      refine q_iload_n 3 hX dX7_holds_23 rfl rfl ?_
      obtain ⟨b3, h⟩ := h
      refine q_iald hX dX7_holds_24 (rfO_7_19 h_o) b3 ?_
      refine Wg.nmI (fun x4 ex4 => ?_)
      replace h := h x4 ex4
      refine q_istore (L' := [(4, .int x4), (0, .ref o), (1, .int a0), (2, .int v2), (3, .int v3)]) hX dX7_holds_25 (by decide) rfl ?_
      refine q_iload 0 hX dX7_holds_27 rfl ?_
      refine q_bipush (v := (-33)) hX dX7_holds_29 (by decide) ?_
      refine q_icmp_ne 61 hX dX7_holds_31 (by decide) (fun c5 => ?_) (fun c5 => ?_)
      · replace h := h.1 c5
        refine q_iload 0 hX dX7_holds_61 rfl ?_
        refine q_if_ge 140 hX dX7_holds_63 (by decide) (fun c6 => ?_) (fun c6 => ?_)
        · replace h := h.1 c6
          refine q_aload_n 1 hX dX7_holds_140 rfl rfl ?_
          refine q_iload 0 hX dX7_holds_141 rfl ?_
          refine q_sipush (v := 1000) hX dX7_holds_143 (by decide) ?_
          refine q_idiv hX dX7_holds_146 (by decide) ?_
          refine cl_X7_242 hX h_o dX7_holds_147 (Nat.le_of_ble_eq_true rfl) h (fun x8 s7 h => ?_)
          refine q_istore (L' := [(5, .int x8), (4, .int x4), (0, .ref o), (1, .int a0), (2, .int v2), (3, .int v3)]) hX dX7_holds_150 (by decide) rfl ?_
          refine q_iload 1 hX dX7_holds_152 rfl ?_
          refine q_bipush (v := 100) hX dX7_holds_154 (by decide) ?_
          refine q_idiv hX dX7_holds_156 (by decide) ?_
          refine q_bipush (v := 10) hX dX7_holds_157 (by decide) ?_
          refine q_irem hX dX7_holds_159 (by decide) ?_
          refine Wg.nmI (fun x9 ex9 => ?_)
          replace h := h x9 ex9
          refine q_istore (L' := [(6, .int x9), (5, .int x8), (4, .int x4), (0, .ref o), (1, .int a0), (2, .int v2), (3, .int v3)]) hX dX7_holds_160 (by decide) rfl ?_
          refine q_aload_n 3 hX dX7_holds_162 rfl rfl ?_
          refine gf_X7_193 hX h_o dX7_holds_163 ?_
          refine q_iload_n 5 hX dX7_holds_166 rfl rfl ?_
          refine q_iload 0 hX dX7_holds_167 rfl ?_
          refine q_if_ne 190 hX dX7_holds_169 (by decide) (fun c10 => ?_) (fun c10 => ?_)
          · replace h := h.1 c10
            refine q_iload 0 hX dX7_holds_190 rfl ?_
            refine q_iconst (v := 1) hX dX7_holds_192 (by decide) ?_
            refine q_icmp_ne 214 hX dX7_holds_193 (by decide) (fun c11 => ?_) (fun c11 => ?_)
            · replace h := h.1 c11
              refine q_iload 1 hX dX7_holds_214 rfl ?_
              refine q_iload 2 hX dX7_holds_216 rfl ?_
              refine q_bipush (v := 100) hX dX7_holds_218 (by decide) ?_
              refine q_irem hX dX7_holds_220 (by decide) ?_
              refine q_icmp_le 228 hX dX7_holds_221 (by decide) (fun c12 => ?_) (fun c12 => ?_)
              · replace h := h.1 c12
                refine q_iconst (v := 0) hX dX7_holds_228 (by decide) ?_
                exact Wg.sub [3, 4, 5, 6] rfl (h ((rfO_7_37 h_o)))
              · replace h := h.2 c12
                refine q_iconst (v := 1) hX dX7_holds_224 (by decide) ?_
                refine q_goto 229 hX dX7_holds_225 (by decide) ?_
                exact Wg.sub [3, 4, 5, 6] rfl (h ((rfO_7_37 h_o)))
            · replace h := h.2 c11
              refine q_iload 1 hX dX7_holds_196 rfl ?_
              refine q_iload 2 hX dX7_holds_198 rfl ?_
              refine q_bipush (v := 100) hX dX7_holds_200 (by decide) ?_
              refine q_irem hX dX7_holds_202 (by decide) ?_
              refine q_icmp_ne 210 hX dX7_holds_203 (by decide) (fun c13 => ?_) (fun c13 => ?_)
              · replace h := h.1 c13
                refine q_iconst (v := 0) hX dX7_holds_210 (by decide) ?_
                refine q_goto 229 hX dX7_holds_211 (by decide) ?_
                exact Wg.sub [3, 4, 5, 6] rfl (h ((rfO_7_37 h_o)))
              · replace h := h.2 c13
                refine q_iconst (v := 1) hX dX7_holds_206 (by decide) ?_
                refine q_goto 229 hX dX7_holds_207 (by decide) ?_
                exact Wg.sub [3, 4, 5, 6] rfl (h ((rfO_7_37 h_o)))
          · replace h := h.2 c10
            refine q_iload 1 hX dX7_holds_172 rfl ?_
            refine q_iload 2 hX dX7_holds_174 rfl ?_
            refine q_bipush (v := 100) hX dX7_holds_176 (by decide) ?_
            refine q_irem hX dX7_holds_178 (by decide) ?_
            refine q_icmp_ge 186 hX dX7_holds_179 (by decide) (fun c14 => ?_) (fun c14 => ?_)
            · replace h := h.1 c14
              refine q_iconst (v := 0) hX dX7_holds_186 (by decide) ?_
              refine q_goto 229 hX dX7_holds_187 (by decide) ?_
              exact Wg.sub [3, 4, 5, 6] rfl (h ((rfO_7_37 h_o)))
            · replace h := h.2 c14
              refine q_iconst (v := 1) hX dX7_holds_182 (by decide) ?_
              refine q_goto 229 hX dX7_holds_183 (by decide) ?_
              exact Wg.sub [3, 4, 5, 6] rfl (h ((rfO_7_37 h_o)))
        · replace h := h.2 c6
          obtain ⟨x15, ex15⟩ : ∃ z : Int32, z = v2 + (-1) := ⟨_, rfl⟩
          replace h := h x15 ex15
          refine q_iinc (v := x15) (L' := [(2, .int x15), (4, .int x4), (0, .ref o), (1, .int a0), (3, .int v3)]) 3 hX dX7_holds_66 rfl (by rw [ex15]; rfl) (by decide) rfl ?_
          refine q_aload_n 2 hX dX7_holds_69 rfl rfl ?_
          refine gf_X7_193 hX h_o dX7_holds_70 ?_
          refine q_iload_n 0 hX dX7_holds_73 rfl rfl ?_
          refine q_iconst (v := 1) hX dX7_holds_74 (by decide) ?_
          refine q_isub hX dX7_holds_75 ?_
          refine q_iload 1 hX dX7_holds_76 rfl ?_
          refine q_bipush (v := (-38)) hX dX7_holds_78 (by decide) ?_
          refine q_icmp_ne 111 hX dX7_holds_80 (by decide) (fun c16 => ?_) (fun c16 => ?_)
          · replace h := h.1 c16
            refine q_aload_n 2 hX dX7_holds_111 rfl rfl ?_
            refine gf_X7_193 hX h_o dX7_holds_112 ?_
            refine q_iload_n 0 hX dX7_holds_115 rfl rfl ?_
            refine q_iconst (v := 1) hX dX7_holds_116 (by decide) ?_
            refine q_isub hX dX7_holds_117 ?_
            obtain ⟨b17, h⟩ := h
            refine q_zald hX dX7_holds_118 (rfO_7_37 h_o) b17 ?_
            refine q_if_ne 131 hX dX7_holds_119 (by decide) (fun c18 => ?_) (fun c18 => ?_)
            · replace h := h.1 c18
              exact Wg.sub [2, 3, 0, 4] rfl (h ((rfO_7_37 h_o)))
            · replace h := h.2 c18
              refine q_aload_n 2 hX dX7_holds_122 rfl rfl ?_
              refine gf_X7_193 hX h_o dX7_holds_123 ?_
              refine q_iload_n 0 hX dX7_holds_126 rfl rfl ?_
              obtain ⟨b19, h⟩ := h
              refine q_zald hX dX7_holds_127 (rfO_7_37 h_o) b19 ?_
              refine q_if_eq 135 hX dX7_holds_128 (by decide) (fun c20 => ?_) (fun c20 => ?_)
              · replace h := h.1 c20
                refine q_iconst (v := 0) hX dX7_holds_135 (by decide) ?_
                exact Wg.sub [2, 3, 0, 4] rfl (h ((rfO_7_37 h_o)))
              · replace h := h.2 c20
                exact Wg.sub [2, 3, 0, 4] rfl (h ((rfO_7_37 h_o)))
          · replace h := h.2 c16
            refine q_aload_n 2 hX dX7_holds_83 rfl rfl ?_
            refine gf_X7_193 hX h_o dX7_holds_84 ?_
            refine q_iload_n 0 hX dX7_holds_87 rfl rfl ?_
            refine q_iconst (v := 1) hX dX7_holds_88 (by decide) ?_
            refine q_isub hX dX7_holds_89 ?_
            obtain ⟨b21, h⟩ := h
            refine q_zald hX dX7_holds_90 (rfO_7_37 h_o) b21 ?_
            refine q_if_eq 107 hX dX7_holds_91 (by decide) (fun c22 => ?_) (fun c22 => ?_)
            · replace h := h.1 c22
              exact Wg.sub [2, 3, 0, 4] rfl (h ((rfO_7_37 h_o)))
            · replace h := h.2 c22
              refine q_aload_n 2 hX dX7_holds_94 rfl rfl ?_
              refine gf_X7_193 hX h_o dX7_holds_95 ?_
              refine q_iload_n 0 hX dX7_holds_98 rfl rfl ?_
              obtain ⟨b23, h⟩ := h
              refine q_zald hX dX7_holds_99 (rfO_7_37 h_o) b23 ?_
              refine q_if_eq 107 hX dX7_holds_100 (by decide) (fun c24 => ?_) (fun c24 => ?_)
              · replace h := h.1 c24
                exact Wg.sub [2, 3, 0, 4] rfl (h ((rfO_7_37 h_o)))
              · replace h := h.2 c24
                refine q_iconst (v := 1) hX dX7_holds_103 (by decide) ?_
                refine q_goto 136 hX dX7_holds_104 (by decide) ?_
                exact Wg.sub [2, 3, 0, 4] rfl (h ((rfO_7_37 h_o)))
      · replace h := h.2 c5
        refine q_aload_n 1 hX dX7_holds_34 rfl rfl ?_
        refine gf_X7_193 hX h_o dX7_holds_35 ?_
        refine q_iload_n 3 hX dX7_holds_38 rfl rfl ?_
        refine q_iconst (v := 1) hX dX7_holds_39 (by decide) ?_
        refine q_isub hX dX7_holds_40 ?_
        refine q_aload_n 1 hX dX7_holds_41 rfl rfl ?_
        refine gf_X7_193 hX h_o dX7_holds_42 ?_
        refine q_iload_n 3 hX dX7_holds_45 rfl rfl ?_
        refine q_iconst (v := 1) hX dX7_holds_46 (by decide) ?_
        refine q_isub hX dX7_holds_47 ?_
        obtain ⟨b25, h⟩ := h
        refine q_zald hX dX7_holds_48 (rfO_7_37 h_o) b25 ?_
        refine q_if_ne 56 hX dX7_holds_49 (by decide) (fun c26 => ?_) (fun c26 => ?_)
        · replace h := h.1 c26
          refine q_iconst (v := 0) hX dX7_holds_56 (by decide) ?_
          exact Wg.sub [1, 2, 3, 4] rfl (h ((rfO_7_37 h_o)))
        · replace h := h.2 c26
          refine q_iconst (v := 1) hX dX7_holds_52 (by decide) ?_
          refine q_goto 57 hX dX7_holds_53 (by decide) ?_
          exact Wg.sub [1, 2, 3, 4] rfl (h ((rfO_7_37 h_o)))
    )
  replace h := h (fun v2 v3 t0 t1 t2 σ h h_t2 => by
    replace h := h h_t2
    obtain ⟨b27, h⟩ := h
    refine q_zast hX dX7_holds_57 h_t2 b27 ?_
    refine Wg.nmS (fun s28 es28 => ?_)
    replace h := h s28 es28
    refine q_goto 233 hX dX7_holds_58 (by decide) ?_
    exact Wg.sub [0, 1, 2, 3] rfl (h)
    )
  replace h := h (fun v2 v3 t0 t1 σ h h_t1 => by
    replace h := h h_t1
    refine q_iconst (v := 0) hX dX7_holds_107 (by decide) ?_
    refine q_goto 136 hX dX7_holds_108 (by decide) ?_
    exact Wg.sub [0, 1, 2, 3] rfl (h h_t1)
    )
  replace h := h (fun v2 v3 t0 t1 σ h h_t1 => by
    replace h := h h_t1
    refine q_iconst (v := 1) hX dX7_holds_131 (by decide) ?_
    refine q_goto 136 hX dX7_holds_132 (by decide) ?_
    exact Wg.sub [0, 1, 2, 3] rfl (h h_t1)
    )
  replace h := h (fun v2 v3 t0 t1 t2 σ h h_t2 => by
    replace h := h h_t2
    obtain ⟨b29, h⟩ := h
    refine q_zast hX dX7_holds_136 h_t2 b29 ?_
    refine Wg.nmS (fun s30 es30 => ?_)
    replace h := h s30 es30
    refine q_goto 233 hX dX7_holds_137 (by decide) ?_
    exact Wg.sub [0, 1, 2, 3] rfl (h)
    )
  replace h := h (fun v2 v3 t0 t1 t2 σ h h_t2 => by
    replace h := h h_t2
    obtain ⟨b31, h⟩ := h
    refine q_zast hX dX7_holds_229 h_t2 b31 ?_
    refine Wg.nmS (fun s32 es32 => ?_)
    replace h := h s32 es32
    obtain ⟨x33, ex33⟩ : ∃ z : Int32, z = v2 + 1 := ⟨_, rfl⟩
    replace h := h x33 ex33
    refine q_iinc (v := x33) (L' := [(2, .int x33), (0, .ref o), (1, .int a0), (3, .int v3)]) 2 hX dX7_holds_230 rfl (by rw [ex33]; rfl) (by decide) rfl ?_
    exact Wg.sub [1, 2, 0, 3] rfl (h)
    )
  replace h := h (fun v2 v3 σ h => by
    obtain ⟨x34, ex34⟩ : ∃ z : Int32, z = v3 + 1 := ⟨_, rfl⟩
    replace h := h x34 ex34
    refine q_iinc (v := x34) (L' := [(3, .int x34), (0, .ref o), (1, .int a0), (2, .int v2)]) 3 hX dX7_holds_233 rfl (by rw [ex34]; rfl) (by decide) rfl ?_
    refine q_goto 9 hX dX7_holds_236 (by decide) ?_
    exact Wg.sub [1, 2, 3, 0] rfl (h)
    )
  refine q_iconst (v := 0) hX dX7_holds_0 (by decide) ?_
  refine q_istore_n (L' := [(2, .int 0), (0, .ref o), (1, .int a0)]) hX dX7_holds_1 rfl (by decide) rfl ?_
  refine q_aload_n 1 hX dX7_holds_2 rfl rfl ?_
  refine gf_X7_107 hX h_o dX7_holds_3 ?_
  refine q_iload_n 2 hX dX7_holds_6 rfl rfl ?_
  obtain ⟨b35, h⟩ := h
  refine q_iald hX dX7_holds_7 (rfO_7_17 h_o) b35 ?_
  refine Wg.nmI (fun x36 ex36 => ?_)
  replace h := h x36 ex36
  refine q_istore_n (L' := [(3, .int x36), (2, .int 0), (0, .ref o), (1, .int a0)]) hX dX7_holds_8 rfl (by decide) rfl ?_
  exact Wg.sub [2, 3, 1, 0] rfl (h)
set_option maxHeartbeats 4000000 in
set_option maxRecDepth 20000 in
theorem fl_X7_some {d : Nat} {ids : List Nat} {o : Nat} {a0 : Int32} {a1 : Int32} {σ : St} {Q : Int32 → St → Prop} (h_o : IO ids o 7) (H : ∀ (P8 : Int32 → St → Prop) (P67 : Int32 → St → Prop), (∀ (v3 : Int32) (σ : St), (vp_in (gi σ o 24) 5 ∧ ((((6 * (gi σ o 24)) + (gi σ (rf o 13) (Int32.toNatClampNeg (gi σ o 24)))) ≤ v3 → Q 0 σ) ∧ (¬ (((6 * (gi σ o 24)) + (gi σ (rf o 13) (Int32.toNatClampNeg (gi σ o 24)))) ≤ v3) → ((v3 = (gi σ o 25) → P67 v3 σ) ∧ (¬ v3 = (gi σ o 25) → vp_in v3 30 ∧ ((¬ (gi σ (rf o 14) (Int32.toNatClampNeg v3)) = a0 → P67 v3 σ) ∧ ((gi σ (rf o 14) (Int32.toNatClampNeg v3)) = a0 → vp_in v3 30 ∧ ((¬ (gi σ (rf o 15) (Int32.toNatClampNeg v3)) = a1 → P67 v3 σ) ∧ ((gi σ (rf o 15) (Int32.toNatClampNeg v3)) = a1 → EI d ids Y_X7_holds [.ref o, .int v3] σ (fun x9 s8 => ((x9 = 0 → P67 v3 s8) ∧ (¬ x9 = 0 → Q 1 s8)))))))))))) → P8 v3 σ) → (∀ (v3 : Int32) (σ : St), (∀ x11 : Int32, x11 = v3 + 1 → P8 x11 σ) → P67 v3 σ) → ∀ x12 : Int32, x12 = (6 * (gi σ o 24)) → P8 x12 σ) : EI (d + 1) ids Y_X7_some [.ref o, .int a0, .int a1] σ Q := by
  refine E_mk (by decide) (Nat.le_of_ble_eq_true rfl) (fun X hX => ?_)
  replace hX : Cok X ids 4 cX7_some (some .boolean) (d + 1) RX7 := hX
  show Wg X ids 4 _ 0 [(0, .ref o), (1, .int a0), (2, .int a1)] [] σ
  have h := H (fun (v3 : Int32) (σ : St) => (Wg X ids 4 (fun r σ1 => ∃ x, r = some (Value.int x) ∧ Q x σ1) 8 [(0, .ref o), (1, .int a0), (2, .int a1), (3, .int v3)] [] σ)) (fun (v3 : Int32) (σ : St) => (Wg X ids 4 (fun r σ1 => ∃ x, r = some (Value.int x) ∧ Q x σ1) 67 [(0, .ref o), (1, .int a0), (2, .int a1), (3, .int v3)] [] σ))
  replace h := h (fun v3 σ h => by
    refine q_iload_n 3 hX dX7_some_8 rfl rfl ?_
    refine q_bipush (v := 6) hX dX7_some_9 (by decide) ?_
    refine q_aload_n 0 hX dX7_some_11 rfl rfl ?_
    refine gf_X7_154 hX h_o dX7_some_12 ?_
    refine q_imul hX dX7_some_15 ?_
    refine q_aload_n 0 hX dX7_some_16 rfl rfl ?_
    refine gf_X7_143 hX h_o dX7_some_17 ?_
    refine q_aload_n 0 hX dX7_some_20 rfl rfl ?_
    refine gf_X7_154 hX h_o dX7_some_21 ?_
    obtain ⟨b1, h⟩ := h
    refine q_iald hX dX7_some_24 (rfO_7_13 h_o) b1 ?_
    refine q_iadd hX dX7_some_25 ?_
    refine q_icmp_ge 73 hX dX7_some_26 (by decide) (fun c2 => ?_) (fun c2 => ?_)
    · replace h := h.1 c2
      refine q_iconst (v := 0) hX dX7_some_73 (by decide) ?_
      exact q_zret hX dX7_some_74 (by decide) ⟨_, rfl, h⟩
    · replace h := h.2 c2
      refine q_iload_n 3 hX dX7_some_29 rfl rfl ?_
      refine q_aload_n 0 hX dX7_some_30 rfl rfl ?_
      refine gf_X7_157 hX h_o dX7_some_31 ?_
      refine q_icmp_eq 67 hX dX7_some_34 (by decide) (fun c3 => ?_) (fun c3 => ?_)
      · replace h := h.1 c3
        exact Wg.sub [0, 1, 2, 3] rfl (h)
      · replace h := h.2 c3
        refine q_aload_n 0 hX dX7_some_37 rfl rfl ?_
        refine gf_X7_125 hX h_o dX7_some_38 ?_
        refine q_iload_n 3 hX dX7_some_41 rfl rfl ?_
        obtain ⟨b4, h⟩ := h
        refine q_iald hX dX7_some_42 (rfO_7_14 h_o) b4 ?_
        refine q_iload_n 1 hX dX7_some_43 rfl rfl ?_
        refine q_icmp_ne 67 hX dX7_some_44 (by decide) (fun c5 => ?_) (fun c5 => ?_)
        · replace h := h.1 c5
          exact Wg.sub [0, 1, 2, 3] rfl (h)
        · replace h := h.2 c5
          refine q_aload_n 0 hX dX7_some_47 rfl rfl ?_
          refine gf_X7_119 hX h_o dX7_some_48 ?_
          refine q_iload_n 3 hX dX7_some_51 rfl rfl ?_
          obtain ⟨b6, h⟩ := h
          refine q_iald hX dX7_some_52 (rfO_7_15 h_o) b6 ?_
          refine q_iload_n 2 hX dX7_some_53 rfl rfl ?_
          refine q_icmp_ne 67 hX dX7_some_54 (by decide) (fun c7 => ?_) (fun c7 => ?_)
          · replace h := h.1 c7
            exact Wg.sub [0, 1, 2, 3] rfl (h)
          · replace h := h.2 c7
            refine q_aload_n 0 hX dX7_some_57 rfl rfl ?_
            refine q_iload_n 3 hX dX7_some_58 rfl rfl ?_
            refine cl_X7_245 hX h_o dX7_some_59 (Nat.le_of_ble_eq_true rfl) h (fun x9 s8 h => ?_)
            refine q_if_eq 67 hX dX7_some_62 (by decide) (fun c10 => ?_) (fun c10 => ?_)
            · replace h := h.1 c10
              exact Wg.sub [0, 1, 2, 3] rfl (h)
            · replace h := h.2 c10
              refine q_iconst (v := 1) hX dX7_some_65 (by decide) ?_
              exact q_zret hX dX7_some_66 (by decide) ⟨_, rfl, h⟩
    )
  replace h := h (fun v3 σ h => by
    obtain ⟨x11, ex11⟩ : ∃ z : Int32, z = v3 + 1 := ⟨_, rfl⟩
    replace h := h x11 ex11
    refine q_iinc (v := x11) (L' := [(3, .int x11), (0, .ref o), (1, .int a0), (2, .int a1)]) 3 hX dX7_some_67 rfl (by rw [ex11]; rfl) (by decide) rfl ?_
    refine q_goto 8 hX dX7_some_70 (by decide) ?_
    exact Wg.sub [1, 2, 3, 0] rfl (h)
    )
  refine q_bipush (v := 6) hX dX7_some_0 (by decide) ?_
  refine q_aload_n 0 hX dX7_some_2 rfl rfl ?_
  refine gf_X7_154 hX h_o dX7_some_3 ?_
  refine q_imul hX dX7_some_6 ?_
  refine Wg.nmI (fun x12 ex12 => ?_)
  replace h := h x12 ex12
  refine q_istore_n (L' := [(3, .int x12), (0, .ref o), (1, .int a0), (2, .int a1)]) hX dX7_some_7 rfl (by decide) rfl ?_
  exact Wg.sub [1, 2, 3, 0] rfl (h)
set_option maxHeartbeats 4000000 in
set_option maxRecDepth 20000 in
theorem fl_X7_figureOf {d : Nat} {ids : List Nat} {o : Nat} {a0 : Int32} {a1 : Int32} {a2 : Int32} {σ : St} {Q : Int32 → St → Prop} (h_o : IO ids o 7) (H : ∀ (P12 : Int32 → Int32 → St → Prop) (P76 : Int32 → Int32 → St → Prop) (P78 : Int32 → Int32 → St → Prop), (∀ (v4 : Int32) (v5 : Int32) (σ : St), (vp_in (gi σ o 24) 5 ∧ ((((6 * (gi σ o 24)) + (gi σ (rf o 13) (Int32.toNatClampNeg (gi σ o 24)))) ≤ v5 → Q v4 σ) ∧ (¬ (((6 * (gi σ o 24)) + (gi σ (rf o 13) (Int32.toNatClampNeg (gi σ o 24)))) ≤ v5) → ((v5 = (gi σ o 25) → P78 v4 v5 σ) ∧ (¬ v5 = (gi σ o 25) → vp_in v5 30 ∧ ((¬ (gi σ (rf o 14) (Int32.toNatClampNeg v5)) = a0 → P78 v4 v5 σ) ∧ ((gi σ (rf o 14) (Int32.toNatClampNeg v5)) = a0 → vp_in v5 30 ∧ ((a1 ≤ (gi σ (rf o 16) (Int32.toNatClampNeg v5)) → P76 v5 a1 σ) ∧ (¬ (a1 ≤ (gi σ (rf o 16) (Int32.toNatClampNeg v5))) → vp_in v5 30 ∧ P76 v5 (gi σ (rf o 16) (Int32.toNatClampNeg v5)) σ))))))))) → P12 v4 v5 σ) → (∀ (v5 : Int32) (t0 : Int32) (σ : St), (P78 t0 v5 σ) → P76 v5 t0 σ) → (∀ (v4 : Int32) (v5 : Int32) (σ : St), (∀ x9 : Int32, x9 = v5 + 1 → P12 v4 x9 σ) → P78 v4 v5 σ) → ∀ x10 : Int32, x10 = (6 * (gi σ o 24)) → P12 a2 x10 σ) : EI (d + 1) ids Y_X7_figureOf [.ref o, .int a0, .int a1, .int a2] σ Q := by
  refine E_mk (by decide) (Nat.le_of_ble_eq_true rfl) (fun X hX => ?_)
  replace hX : Cok X ids 6 cX7_figureOf (some .int) (d + 1) RX7 := hX
  show Wg X ids 6 _ 0 [(0, .ref o), (1, .int a0), (2, .int a1), (3, .int a2)] [] σ
  have h := H (fun (v4 : Int32) (v5 : Int32) (σ : St) => (Wg X ids 6 (fun r σ1 => ∃ x, r = some (Value.int x) ∧ Q x σ1) 12 [(0, .ref o), (1, .int a0), (2, .int a1), (4, .int v4), (5, .int v5)] [] σ)) (fun (v5 : Int32) (t0 : Int32) (σ : St) => (Wg X ids 6 (fun r σ1 => ∃ x, r = some (Value.int x) ∧ Q x σ1) 76 [(0, .ref o), (1, .int a0), (2, .int a1), (5, .int v5)] [.int t0] σ)) (fun (v4 : Int32) (v5 : Int32) (σ : St) => (Wg X ids 6 (fun r σ1 => ∃ x, r = some (Value.int x) ∧ Q x σ1) 78 [(0, .ref o), (1, .int a0), (2, .int a1), (4, .int v4), (5, .int v5)] [] σ))
  replace h := h (fun v4 v5 σ h => by
    refine q_iload 4 hX dX7_figureOf_12 rfl ?_
    refine q_bipush (v := 6) hX dX7_figureOf_14 (by decide) ?_
    refine q_aload_n 0 hX dX7_figureOf_16 rfl rfl ?_
    refine gf_X7_154 hX h_o dX7_figureOf_17 ?_
    refine q_imul hX dX7_figureOf_20 ?_
    refine q_aload_n 0 hX dX7_figureOf_21 rfl rfl ?_
    refine gf_X7_143 hX h_o dX7_figureOf_22 ?_
    refine q_aload_n 0 hX dX7_figureOf_25 rfl rfl ?_
    refine gf_X7_154 hX h_o dX7_figureOf_26 ?_
    obtain ⟨b1, h⟩ := h
    refine q_iald hX dX7_figureOf_29 (rfO_7_13 h_o) b1 ?_
    refine q_iadd hX dX7_figureOf_30 ?_
    refine q_icmp_ge 84 hX dX7_figureOf_31 (by decide) (fun c2 => ?_) (fun c2 => ?_)
    · replace h := h.1 c2
      refine q_iload 3 hX dX7_figureOf_84 rfl ?_
      exact q_ret hX dX7_figureOf_86 ⟨_, rfl, h⟩
    · replace h := h.2 c2
      refine q_iload 4 hX dX7_figureOf_34 rfl ?_
      refine q_aload_n 0 hX dX7_figureOf_36 rfl rfl ?_
      refine gf_X7_157 hX h_o dX7_figureOf_37 ?_
      refine q_icmp_eq 78 hX dX7_figureOf_40 (by decide) (fun c3 => ?_) (fun c3 => ?_)
      · replace h := h.1 c3
        exact Wg.sub [0, 1, 2, 3, 4] rfl (h)
      · replace h := h.2 c3
        refine q_aload_n 0 hX dX7_figureOf_43 rfl rfl ?_
        refine gf_X7_125 hX h_o dX7_figureOf_44 ?_
        refine q_iload 4 hX dX7_figureOf_47 rfl ?_
        obtain ⟨b4, h⟩ := h
        refine q_iald hX dX7_figureOf_49 (rfO_7_14 h_o) b4 ?_
        refine q_iload_n 1 hX dX7_figureOf_50 rfl rfl ?_
        refine q_icmp_ne 78 hX dX7_figureOf_51 (by decide) (fun c5 => ?_) (fun c5 => ?_)
        · replace h := h.1 c5
          exact Wg.sub [0, 1, 2, 3, 4] rfl (h)
        · replace h := h.2 c5
          refine q_aload_n 0 hX dX7_figureOf_54 rfl rfl ?_
          refine gf_X7_137 hX h_o dX7_figureOf_55 ?_
          refine q_iload 4 hX dX7_figureOf_58 rfl ?_
          obtain ⟨b6, h⟩ := h
          refine q_iald hX dX7_figureOf_60 (rfO_7_16 h_o) b6 ?_
          refine q_iload_n 2 hX dX7_figureOf_61 rfl rfl ?_
          refine q_icmp_ge 75 hX dX7_figureOf_62 (by decide) (fun c7 => ?_) (fun c7 => ?_)
          · replace h := h.1 c7
            refine q_iload_n 2 hX dX7_figureOf_75 rfl rfl ?_
            exact Wg.sub [0, 1, 2, 4] rfl (h)
          · replace h := h.2 c7
            refine q_aload_n 0 hX dX7_figureOf_65 rfl rfl ?_
            refine gf_X7_137 hX h_o dX7_figureOf_66 ?_
            refine q_iload 4 hX dX7_figureOf_69 rfl ?_
            obtain ⟨b8, h⟩ := h
            refine q_iald hX dX7_figureOf_71 (rfO_7_16 h_o) b8 ?_
            refine q_goto 76 hX dX7_figureOf_72 (by decide) ?_
            exact Wg.sub [0, 1, 2, 4] rfl (h)
    )
  replace h := h (fun v5 t0 σ h => by
    refine q_istore (L' := [(4, .int t0), (0, .ref o), (1, .int a0), (2, .int a1), (5, .int v5)]) hX dX7_figureOf_76 (by decide) rfl ?_
    exact Wg.sub [1, 2, 3, 0, 4] rfl (h)
    )
  replace h := h (fun v4 v5 σ h => by
    obtain ⟨x9, ex9⟩ : ∃ z : Int32, z = v5 + 1 := ⟨_, rfl⟩
    replace h := h x9 ex9
    refine q_iinc (v := x9) (L' := [(5, .int x9), (0, .ref o), (1, .int a0), (2, .int a1), (4, .int v4)]) 4 hX dX7_figureOf_78 rfl (by rw [ex9]; rfl) (by decide) rfl ?_
    refine q_goto 12 hX dX7_figureOf_81 (by decide) ?_
    exact Wg.sub [1, 2, 3, 4, 0] rfl (h)
    )
  refine q_iload_n 3 hX dX7_figureOf_0 rfl rfl ?_
  refine q_istore (L' := [(4, .int a2), (0, .ref o), (1, .int a0), (2, .int a1), (3, .int a2)]) hX dX7_figureOf_1 (by decide) rfl ?_
  refine q_bipush (v := 6) hX dX7_figureOf_3 (by decide) ?_
  refine q_aload_n 1 hX dX7_figureOf_5 rfl rfl ?_
  refine gf_X7_154 hX h_o dX7_figureOf_6 ?_
  refine q_imul hX dX7_figureOf_9 ?_
  refine Wg.nmI (fun x10 ex10 => ?_)
  replace h := h x10 ex10
  refine q_istore (L' := [(5, .int x10), (4, .int a2), (0, .ref o), (1, .int a0), (2, .int a1), (3, .int a2)]) hX dX7_figureOf_10 (by decide) rfl ?_
  exact Wg.sub [2, 3, 4, 1, 0] rfl (h)
set_option maxHeartbeats 4000000 in
set_option maxRecDepth 20000 in
theorem fl_X7_isPlea {d : Nat} {ids : List Nat} {o : Nat} {a0 : Int32} {σ : St} {Q : Int32 → St → Prop} (h_o : IO ids o 7) (H : ∀ (P48 : St → Prop), (∀ (σ : St), (Q 1 σ) → P48 σ) → ((a0 = 10 → P48 σ) ∧ (¬ a0 = 10 → EI d ids Y_X7_in [.ref o, .int a0, .int 20, .int 24] σ (fun x3 s2 => ((¬ x3 = 0 → P48 s2) ∧ (x3 = 0 → ((a0 = 30 → P48 s2) ∧ (¬ a0 = 30 → ((a0 = 40 → P48 s2) ∧ (¬ a0 = 40 → EI d ids Y_X7_in [.ref o, .int a0, .int 50, .int 54] s2 (fun x8 s7 => ((¬ x8 = 0 → P48 s7) ∧ (x8 = 0 → ((¬ a0 = 60 → Q 0 s7) ∧ (a0 = 60 → P48 s7))))))))))))))) : EI (d + 1) ids Y_X7_isPlea [.ref o, .int a0] σ Q := by
  refine E_mk (by decide) (Nat.le_of_ble_eq_true rfl) (fun X hX => ?_)
  replace hX : Cok X ids 2 cX7_isPlea (some .boolean) (d + 1) RX7 := hX
  show Wg X ids 2 _ 0 [(0, .ref o), (1, .int a0)] [] σ
  have h := H (fun (σ : St) => (Wg X ids 2 (fun r σ1 => ∃ x, r = some (Value.int x) ∧ Q x σ1) 48 [] [] σ))
  replace h := h (fun σ h => by
    refine q_iconst (v := 1) hX dX7_isPlea_48 (by decide) ?_
    refine q_goto 53 hX dX7_isPlea_49 (by decide) ?_
    exact q_zret hX dX7_isPlea_53 (by decide) ⟨_, rfl, h⟩
    )
  refine q_iload_n 1 hX dX7_isPlea_0 rfl rfl ?_
  refine q_bipush (v := 10) hX dX7_isPlea_1 (by decide) ?_
  refine q_icmp_eq 48 hX dX7_isPlea_3 (by decide) (fun c1 => ?_) (fun c1 => ?_)
  · replace h := h.1 c1
    exact Wg.sub [] rfl (h)
  · replace h := h.2 c1
    refine q_aload_n 0 hX dX7_isPlea_6 rfl rfl ?_
    refine q_iload_n 1 hX dX7_isPlea_7 rfl rfl ?_
    refine q_bipush (v := 20) hX dX7_isPlea_8 (by decide) ?_
    refine q_bipush (v := 24) hX dX7_isPlea_10 (by decide) ?_
    refine cl_X7_1 hX h_o dX7_isPlea_12 (Nat.le_of_ble_eq_true rfl) h (fun x3 s2 h => ?_)
    refine q_if_ne 48 hX dX7_isPlea_15 (by decide) (fun c4 => ?_) (fun c4 => ?_)
    · replace h := h.1 c4
      exact Wg.sub [] rfl (h)
    · replace h := h.2 c4
      refine q_iload_n 1 hX dX7_isPlea_18 rfl rfl ?_
      refine q_bipush (v := 30) hX dX7_isPlea_19 (by decide) ?_
      refine q_icmp_eq 48 hX dX7_isPlea_21 (by decide) (fun c5 => ?_) (fun c5 => ?_)
      · replace h := h.1 c5
        exact Wg.sub [] rfl (h)
      · replace h := h.2 c5
        refine q_iload_n 1 hX dX7_isPlea_24 rfl rfl ?_
        refine q_bipush (v := 40) hX dX7_isPlea_25 (by decide) ?_
        refine q_icmp_eq 48 hX dX7_isPlea_27 (by decide) (fun c6 => ?_) (fun c6 => ?_)
        · replace h := h.1 c6
          exact Wg.sub [] rfl (h)
        · replace h := h.2 c6
          refine q_aload_n 0 hX dX7_isPlea_30 rfl rfl ?_
          refine q_iload_n 1 hX dX7_isPlea_31 rfl rfl ?_
          refine q_bipush (v := 50) hX dX7_isPlea_32 (by decide) ?_
          refine q_bipush (v := 54) hX dX7_isPlea_34 (by decide) ?_
          refine cl_X7_1 hX h_o dX7_isPlea_36 (Nat.le_of_ble_eq_true rfl) h (fun x8 s7 h => ?_)
          refine q_if_ne 48 hX dX7_isPlea_39 (by decide) (fun c9 => ?_) (fun c9 => ?_)
          · replace h := h.1 c9
            exact Wg.sub [] rfl (h)
          · replace h := h.2 c9
            refine q_iload_n 1 hX dX7_isPlea_42 rfl rfl ?_
            refine q_bipush (v := 60) hX dX7_isPlea_43 (by decide) ?_
            refine q_icmp_ne 52 hX dX7_isPlea_45 (by decide) (fun c10 => ?_) (fun c10 => ?_)
            · replace h := h.1 c10
              refine q_iconst (v := 0) hX dX7_isPlea_52 (by decide) ?_
              exact q_zret hX dX7_isPlea_53 (by decide) ⟨_, rfl, h⟩
            · replace h := h.2 c10
              exact Wg.sub [] rfl (h)
set_option maxHeartbeats 4000000 in
set_option maxRecDepth 20000 in
theorem fl_X7_can {d : Nat} {ids : List Nat} {o : Nat} {a0 : Int32} {σ : St} {Q : Int32 → St → Prop} (h_o : IO ids o 7) (H : ∀ (P211 : Int32 → St → Prop), (∀ (t0 : Int32) (σ : St), (EI d ids Y_X7_figureOf [.ref o, .int 3, .int 2, .int 1] σ (fun x2 s1 => ((x2 ≤ t0 → Q 0 s1) ∧ (¬ (x2 ≤ t0) → Q 1 s1)))) → P211 t0 σ) → ∀ x4 : Int32, x4 = (gi σ o 26) → (((gi σ o 8) = 0 → Q 0 σ) ∧ (¬ (gi σ o 8) = 0 → vp_in x4 8 ∧ ((¬ (gi σ (rf o 33) (Int32.toNatClampNeg x4)) = 0 → Q 0 σ) ∧ ((gi σ (rf o 33) (Int32.toNatClampNeg x4)) = 0 → EI d ids Y_X7_figureOf [.ref o, .int 2, .int 5, .int 5] σ (fun x9 s8 => ((x9 ≤ x4 → Q 0 s8) ∧ (¬ (x9 ≤ x4) → EI d ids Y_X7_some [.ref o, .int 0, .int (a0 / 10)] s8 (fun x12 s11 => ((x12 = 0 → ∀ x14 : Int32, x14 = (a0 - a0 / 10 * 10) → ∀ x15 : Int32, x15 = (a0 / 10) → ((x15 = 2 → vp_in x4 8 ∧ vp_in (gi s11 (rf o 29) (Int32.toNatClampNeg x4)) 6 ∧ EI d ids Y_X7_has [.ref o, .int (gi s11 (rf o 1) (Int32.toNatClampNeg (gi s11 (rf o 29) (Int32.toNatClampNeg x4)))), .int x14] s11 (fun x20 s19 => ((x20 = 0 → Q 0 s19) ∧ (¬ x20 = 0 → vp_in x4 8 ∧ EI d ids Y_X7_has [.ref o, .int (gi s19 (rf o 28) (Int32.toNatClampNeg x4)), .int x14] s19 (fun x24 s23 => ((¬ x24 = 0 → Q 0 s23) ∧ (x24 = 0 → Q 1 s23))))))) ∧ (x15 = 3 → Q 1 s11) ∧ (x15 = 4 → ((x4 ≤ 0 → Q 0 s11) ∧ (¬ (x4 ≤ 0) → vp_in x4 8 ∧ (((gi s11 (rf o 32) (Int32.toNatClampNeg x4)) = 6 → Q 0 s11) ∧ (¬ (gi s11 (rf o 32) (Int32.toNatClampNeg x4)) = 6 → Q 1 s11))))) ∧ (x15 = 5 → vp_in x4 8 ∧ vp_in (gi s11 (rf o 29) (Int32.toNatClampNeg x4)) 6 ∧ EI d ids Y_X7_has [.ref o, .int (gi s11 (rf o 2) (Int32.toNatClampNeg (gi s11 (rf o 29) (Int32.toNatClampNeg x4)))), .int x14] s11 (fun x32 s31 => ((x32 = 0 → Q 0 s31) ∧ (¬ x32 = 0 → vp_in x4 8 ∧ EI d ids Y_X7_has [.ref o, .int (gi s31 (rf o 28) (Int32.toNatClampNeg x4)), .int x14] s31 (fun x36 s35 => ((¬ x36 = 0 → Q 0 s35) ∧ (x36 = 0 → Q 1 s35))))))) ∧ (x15 = 6 → vp_in x4 8 ∧ ((¬ (gi s11 (rf o 30) (Int32.toNatClampNeg x4)) = 0 → vp_in x4 8 ∧ P211 (gi s11 (rf o 35) (Int32.toNatClampNeg x4)) s11) ∧ ((gi s11 (rf o 30) (Int32.toNatClampNeg x4)) = 0 → vp_in x4 8 ∧ P211 (gi s11 (rf o 34) (Int32.toNatClampNeg x4)) s11))) ∧ (¬ x15 = 2 → ¬ x15 = 3 → ¬ x15 = 4 → ¬ x15 = 5 → ¬ x15 = 6 → Q 1 s11))) ∧ (¬ x12 = 0 → Q 0 s11))))))))))) : EI (d + 1) ids Y_X7_can [.ref o, .int a0] σ Q := by
  refine E_mk (by decide) (Nat.le_of_ble_eq_true rfl) (fun X hX => ?_)
  replace hX : Cok X ids 4 cX7_can (some .boolean) (d + 1) RX7 := hX
  show Wg X ids 4 _ 0 [(0, .ref o), (1, .int a0)] [] σ
  have h := H (fun (t0 : Int32) (σ : St) => (Wg X ids 4 (fun r σ1 => ∃ x, r = some (Value.int x) ∧ Q x σ1) 211 [(0, .ref o)] [.int t0] σ))
  replace h := h (fun t0 σ h => by
    refine q_aload_n 0 hX dX7_can_211 rfl rfl ?_
    refine q_iconst (v := 3) hX dX7_can_212 (by decide) ?_
    refine q_iconst (v := 2) hX dX7_can_213 (by decide) ?_
    refine q_iconst (v := 1) hX dX7_can_214 (by decide) ?_
    refine cl_X7_248 hX h_o dX7_can_215 (Nat.le_of_ble_eq_true rfl) h (fun x2 s1 h => ?_)
    refine q_icmp_ge 225 hX dX7_can_218 (by decide) (fun c3 => ?_) (fun c3 => ?_)
    · replace h := h.1 c3
      refine q_iconst (v := 0) hX dX7_can_225 (by decide) ?_
      exact q_zret hX dX7_can_226 (by decide) ⟨_, rfl, h⟩
    · replace h := h.2 c3
      refine q_iconst (v := 1) hX dX7_can_221 (by decide) ?_
      refine q_goto 226 hX dX7_can_222 (by decide) ?_
      exact q_zret hX dX7_can_226 (by decide) ⟨_, rfl, h⟩
    )
  refine q_aload_n 0 hX dX7_can_0 rfl rfl ?_
  refine gf_X7_160 hX h_o dX7_can_1 ?_
  refine Wg.nmI (fun x4 ex4 => ?_)
  replace h := h x4 ex4
  refine q_istore_n (L' := [(2, .int x4), (0, .ref o), (1, .int a0)]) hX dX7_can_4 rfl (by decide) rfl ?_
  refine q_aload_n 1 hX dX7_can_5 rfl rfl ?_
  refine gf_X7_52 hX h_o dX7_can_6 ?_
  refine q_if_eq 44 hX dX7_can_9 (by decide) (fun c5 => ?_) (fun c5 => ?_)
  · replace h := h.1 c5
    refine q_iconst (v := 0) hX dX7_can_44 (by decide) ?_
    exact q_zret hX dX7_can_45 (by decide) ⟨_, rfl, h⟩
  · replace h := h.2 c5
    refine q_aload_n 1 hX dX7_can_12 rfl rfl ?_
    refine gf_X7_181 hX h_o dX7_can_13 ?_
    refine q_iload_n 0 hX dX7_can_16 rfl rfl ?_
    obtain ⟨b6, h⟩ := h
    refine q_iald hX dX7_can_17 (rfO_7_33 h_o) b6 ?_
    refine q_if_ne 44 hX dX7_can_18 (by decide) (fun c7 => ?_) (fun c7 => ?_)
    · replace h := h.1 c7
      refine q_iconst (v := 0) hX dX7_can_44 (by decide) ?_
      exact q_zret hX dX7_can_45 (by decide) ⟨_, rfl, h⟩
    · replace h := h.2 c7
      refine q_iload_n 0 hX dX7_can_21 rfl rfl ?_
      refine q_aload_n 1 hX dX7_can_22 rfl rfl ?_
      refine q_iconst (v := 2) hX dX7_can_23 (by decide) ?_
      refine q_iconst (v := 5) hX dX7_can_24 (by decide) ?_
      refine q_iconst (v := 5) hX dX7_can_25 (by decide) ?_
      refine cl_X7_248 hX h_o dX7_can_26 (Nat.le_of_ble_eq_true rfl) h (fun x9 s8 h => ?_)
      refine q_icmp_ge 44 hX dX7_can_29 (by decide) (fun c10 => ?_) (fun c10 => ?_)
      · replace h := h.1 c10
        refine q_iconst (v := 0) hX dX7_can_44 (by decide) ?_
        exact q_zret hX dX7_can_45 (by decide) ⟨_, rfl, h⟩
      · replace h := h.2 c10
        refine q_aload_n 1 hX dX7_can_32 rfl rfl ?_
        refine q_iconst (v := 0) hX dX7_can_33 (by decide) ?_
        refine q_iload_n 2 hX dX7_can_34 rfl rfl ?_
        refine q_bipush (v := 10) hX dX7_can_35 (by decide) ?_
        refine q_idiv hX dX7_can_37 (by decide) ?_
        refine cl_X7_252 hX h_o dX7_can_38 (Nat.le_of_ble_eq_true rfl) h (fun x12 s11 h => ?_)
        refine q_if_eq 46 hX dX7_can_41 (by decide) (fun c13 => ?_) (fun c13 => ?_)
        · replace h := h.1 c13
          refine q_iload_n 2 hX dX7_can_46 rfl rfl ?_
          refine q_bipush (v := 10) hX dX7_can_47 (by decide) ?_
          refine q_irem hX dX7_can_49 (by decide) ?_
          refine Wg.nmI (fun x14 ex14 => ?_)
          replace h := h x14 ex14
          refine q_istore_n (L' := [(3, .int x14), (2, .int x4), (0, .ref o), (1, .int a0)]) hX dX7_can_50 rfl (by decide) rfl ?_
          refine q_iload_n 3 hX dX7_can_51 rfl rfl ?_
          refine q_bipush (v := 10) hX dX7_can_52 (by decide) ?_
          refine q_idiv hX dX7_can_54 (by decide) ?_
          refine Wg.nmI (fun x15 ex15 => ?_)
          replace h := h x15 ex15
          by_cases c16_0 : x15 = 2
          · refine q_tableIn (off := 33) 88 hX dX7_can_55 (by rw [c16_0]; decide) (by rw [c16_0]; decide) (by first | (rw [c16_0]; done) | (rw [c16_0]; rfl)) (by decide) ?_
            replace h := h.1 c16_0
            refine q_aload_n 2 hX dX7_can_88 rfl rfl ?_
            refine q_aload_n 2 hX dX7_can_89 rfl rfl ?_
            refine gf_X7_15 hX h_o dX7_can_90 ?_
            refine q_aload_n 2 hX dX7_can_93 rfl rfl ?_
            refine gf_X7_169 hX h_o dX7_can_94 ?_
            refine q_iload_n 1 hX dX7_can_97 rfl rfl ?_
            obtain ⟨b17, h⟩ := h
            refine q_iald hX dX7_can_98 (rfO_7_29 h_o) b17 ?_
            obtain ⟨b18, h⟩ := h
            refine q_iald hX dX7_can_99 (rfO_7_1 h_o) b18 ?_
            refine q_iload_n 0 hX dX7_can_100 rfl rfl ?_
            refine cl_X7_37 hX h_o dX7_can_101 (Nat.le_of_ble_eq_true rfl) h (fun x20 s19 h => ?_)
            refine q_if_eq 125 hX dX7_can_104 (by decide) (fun c21 => ?_) (fun c21 => ?_)
            · replace h := h.1 c21
              refine q_iconst (v := 0) hX dX7_can_125 (by decide) ?_
              exact q_zret hX dX7_can_126 (by decide) ⟨_, rfl, h⟩
            · replace h := h.2 c21
              refine q_aload_n 2 hX dX7_can_107 rfl rfl ?_
              refine q_aload_n 2 hX dX7_can_108 rfl rfl ?_
              refine gf_X7_166 hX h_o dX7_can_109 ?_
              refine q_iload_n 1 hX dX7_can_112 rfl rfl ?_
              obtain ⟨b22, h⟩ := h
              refine q_iald hX dX7_can_113 (rfO_7_28 h_o) b22 ?_
              refine q_iload_n 0 hX dX7_can_114 rfl rfl ?_
              refine cl_X7_37 hX h_o dX7_can_115 (Nat.le_of_ble_eq_true rfl) h (fun x24 s23 h => ?_)
              refine q_if_ne 125 hX dX7_can_118 (by decide) (fun c25 => ?_) (fun c25 => ?_)
              · replace h := h.1 c25
                refine q_iconst (v := 0) hX dX7_can_125 (by decide) ?_
                exact q_zret hX dX7_can_126 (by decide) ⟨_, rfl, h⟩
              · replace h := h.2 c25
                refine q_iconst (v := 1) hX dX7_can_121 (by decide) ?_
                refine q_goto 126 hX dX7_can_122 (by decide) ?_
                exact q_zret hX dX7_can_126 (by decide) ⟨_, rfl, h⟩
          by_cases c16_1 : x15 = 3
          · refine q_tableIn (off := 172) 227 hX dX7_can_55 (by rw [c16_1]; decide) (by rw [c16_1]; decide) (by first | (rw [c16_1]; done) | (rw [c16_1]; rfl)) (by decide) ?_
            replace h := h.2.1 c16_1
            refine q_iconst (v := 1) hX dX7_can_227 (by decide) ?_
            exact q_zret hX dX7_can_228 (by decide) ⟨_, rfl, h⟩
          by_cases c16_2 : x15 = 4
          · refine q_tableIn (off := 111) 166 hX dX7_can_55 (by rw [c16_2]; decide) (by rw [c16_2]; decide) (by first | (rw [c16_2]; done) | (rw [c16_2]; rfl)) (by decide) ?_
            replace h := h.2.2.1 c16_2
            refine q_iload_n 1 hX dX7_can_166 rfl rfl ?_
            refine q_if_le 185 hX dX7_can_167 (by decide) (fun c26 => ?_) (fun c26 => ?_)
            · replace h := h.1 c26
              refine q_iconst (v := 0) hX dX7_can_185 (by decide) ?_
              exact q_zret hX dX7_can_186 (by decide) ⟨_, rfl, h⟩
            · replace h := h.2 c26
              refine q_aload_n 2 hX dX7_can_170 rfl rfl ?_
              refine gf_X7_178 hX h_o dX7_can_171 ?_
              refine q_iload_n 1 hX dX7_can_174 rfl rfl ?_
              obtain ⟨b27, h⟩ := h
              refine q_iald hX dX7_can_175 (rfO_7_32 h_o) b27 ?_
              refine q_bipush (v := 6) hX dX7_can_176 (by decide) ?_
              refine q_icmp_eq 185 hX dX7_can_178 (by decide) (fun c28 => ?_) (fun c28 => ?_)
              · replace h := h.1 c28
                refine q_iconst (v := 0) hX dX7_can_185 (by decide) ?_
                exact q_zret hX dX7_can_186 (by decide) ⟨_, rfl, h⟩
              · replace h := h.2 c28
                refine q_iconst (v := 1) hX dX7_can_181 (by decide) ?_
                refine q_goto 186 hX dX7_can_182 (by decide) ?_
                exact q_zret hX dX7_can_186 (by decide) ⟨_, rfl, h⟩
          by_cases c16_3 : x15 = 5
          · refine q_tableIn (off := 72) 127 hX dX7_can_55 (by rw [c16_3]; decide) (by rw [c16_3]; decide) (by first | (rw [c16_3]; done) | (rw [c16_3]; rfl)) (by decide) ?_
            replace h := h.2.2.2.1 c16_3
            refine q_aload_n 2 hX dX7_can_127 rfl rfl ?_
            refine q_aload_n 2 hX dX7_can_128 rfl rfl ?_
            refine gf_X7_19 hX h_o dX7_can_129 ?_
            refine q_aload_n 2 hX dX7_can_132 rfl rfl ?_
            refine gf_X7_169 hX h_o dX7_can_133 ?_
            refine q_iload_n 1 hX dX7_can_136 rfl rfl ?_
            obtain ⟨b29, h⟩ := h
            refine q_iald hX dX7_can_137 (rfO_7_29 h_o) b29 ?_
            obtain ⟨b30, h⟩ := h
            refine q_iald hX dX7_can_138 (rfO_7_2 h_o) b30 ?_
            refine q_iload_n 0 hX dX7_can_139 rfl rfl ?_
            refine cl_X7_37 hX h_o dX7_can_140 (Nat.le_of_ble_eq_true rfl) h (fun x32 s31 h => ?_)
            refine q_if_eq 164 hX dX7_can_143 (by decide) (fun c33 => ?_) (fun c33 => ?_)
            · replace h := h.1 c33
              refine q_iconst (v := 0) hX dX7_can_164 (by decide) ?_
              exact q_zret hX dX7_can_165 (by decide) ⟨_, rfl, h⟩
            · replace h := h.2 c33
              refine q_aload_n 2 hX dX7_can_146 rfl rfl ?_
              refine q_aload_n 2 hX dX7_can_147 rfl rfl ?_
              refine gf_X7_166 hX h_o dX7_can_148 ?_
              refine q_iload_n 1 hX dX7_can_151 rfl rfl ?_
              obtain ⟨b34, h⟩ := h
              refine q_iald hX dX7_can_152 (rfO_7_28 h_o) b34 ?_
              refine q_iload_n 0 hX dX7_can_153 rfl rfl ?_
              refine cl_X7_37 hX h_o dX7_can_154 (Nat.le_of_ble_eq_true rfl) h (fun x36 s35 h => ?_)
              refine q_if_ne 164 hX dX7_can_157 (by decide) (fun c37 => ?_) (fun c37 => ?_)
              · replace h := h.1 c37
                refine q_iconst (v := 0) hX dX7_can_164 (by decide) ?_
                exact q_zret hX dX7_can_165 (by decide) ⟨_, rfl, h⟩
              · replace h := h.2 c37
                refine q_iconst (v := 1) hX dX7_can_160 (by decide) ?_
                refine q_goto 165 hX dX7_can_161 (by decide) ?_
                exact q_zret hX dX7_can_165 (by decide) ⟨_, rfl, h⟩
          by_cases c16_4 : x15 = 6
          · refine q_tableIn (off := 132) 187 hX dX7_can_55 (by rw [c16_4]; decide) (by rw [c16_4]; decide) (by first | (rw [c16_4]; done) | (rw [c16_4]; rfl)) (by decide) ?_
            replace h := h.2.2.2.2.1 c16_4
            refine q_aload_n 2 hX dX7_can_187 rfl rfl ?_
            refine gf_X7_172 hX h_o dX7_can_188 ?_
            refine q_iload_n 1 hX dX7_can_191 rfl rfl ?_
            obtain ⟨b38, h⟩ := h
            refine q_iald hX dX7_can_192 (rfO_7_30 h_o) b38 ?_
            refine q_if_ne 205 hX dX7_can_193 (by decide) (fun c39 => ?_) (fun c39 => ?_)
            · replace h := h.1 c39
              refine q_aload_n 2 hX dX7_can_205 rfl rfl ?_
              refine gf_X7_187 hX h_o dX7_can_206 ?_
              refine q_iload_n 1 hX dX7_can_209 rfl rfl ?_
              obtain ⟨b40, h⟩ := h
              refine q_iald hX dX7_can_210 (rfO_7_35 h_o) b40 ?_
              exact Wg.sub [2] rfl (h)
            · replace h := h.2 c39
              refine q_aload_n 2 hX dX7_can_196 rfl rfl ?_
              refine gf_X7_184 hX h_o dX7_can_197 ?_
              refine q_iload_n 1 hX dX7_can_200 rfl rfl ?_
              obtain ⟨b41, h⟩ := h
              refine q_iald hX dX7_can_201 (rfO_7_34 h_o) b41 ?_
              refine q_goto 211 hX dX7_can_202 (by decide) ?_
              exact Wg.sub [2] rfl (h)
          refine q_tableOut 227 hX dX7_can_55 (by have e0 := ne_toInt (k := 2) c16_0 (by decide); have e1 := ne_toInt (k := 3) c16_1 (by decide); have e2 := ne_toInt (k := 4) c16_2 (by decide); have e3 := ne_toInt (k := 5) c16_3 (by decide); have e4 := ne_toInt (k := 6) c16_4 (by decide); omega) (by decide) ?_
          replace h := h.2.2.2.2.2 c16_0 c16_1 c16_2 c16_3 c16_4
          refine q_iconst (v := 1) hX dX7_can_227 (by decide) ?_
          exact q_zret hX dX7_can_228 (by decide) ⟨_, rfl, h⟩
        · replace h := h.2 c13
          refine q_iconst (v := 0) hX dX7_can_44 (by decide) ?_
          exact q_zret hX dX7_can_45 (by decide) ⟨_, rfl, h⟩
set_option maxHeartbeats 4000000 in
set_option maxRecDepth 20000 in
theorem fl_X7_make {d : Nat} {ids : List Nat} {o : Nat} {a0 : Int32} {σ : St} {Q : St → Prop} (h_o : IO ids o 7) (H : ∀ (P28 : Int32 → Int32 → Int32 → St → Prop) (P33 : Int32 → Int32 → Int32 → Int32 → St → Prop) (P76 : Int32 → Int32 → Int32 → Int32 → Int32 → Int32 → Nat → St → Prop) (P102 : Int32 → Int32 → Int32 → Int32 → Int32 → Int32 → Nat → St → Prop) (P132 : Int32 → Int32 → Int32 → Int32 → Int32 → Int32 → Nat → St → Prop) (P150 : Int32 → Int32 → Int32 → Int32 → Int32 → Nat → St → Prop) (P174 : Int32 → Int32 → Int32 → Int32 → Int32 → Int32 → Nat → St → Prop) (P202 : Int32 → Int32 → Int32 → Int32 → Nat → St → Prop) (P207 : Int32 → Int32 → Int32 → Int32 → Int32 → Nat → St → Prop) (P240 : Int32 → Int32 → Int32 → Int32 → Int32 → Nat → St → Prop) (P241 : Int32 → Int32 → Int32 → Int32 → Int32 → Int32 → Nat → St → Prop) (P276 : Int32 → Int32 → Int32 → Int32 → Nat → St → Prop) (P277 : Int32 → Int32 → Int32 → Int32 → Int32 → Nat → St → Prop), (∀ (v2 : Int32) (v3 : Int32) (v4 : Int32) (σ : St), (P33 v2 v3 v4 1 σ) → P28 v2 v3 v4 σ) → (∀ (v2 : Int32) (v3 : Int32) (v4 : Int32) (t0 : Int32) (σ : St), (vp_in v2 8 ∧ ∀ s2 : St, s2 = si σ (rf o 27) (Int32.toNatClampNeg v2) a0 → ((t0 = 0 → vp_in v2 8 ∧ P76 v2 v3 v4 t0 (gi s2 (rf o 28) (Int32.toNatClampNeg v2)) (v2 + 1) (rf o 28) s2) ∧ (¬ t0 = 0 → vp_in v2 8 ∧ P76 v2 v3 v4 t0 ((gi s2 (rf o 28) (Int32.toNatClampNeg v2)) ||| ((1 : Int32) <<< ((a0 - a0 / 10 * 10) &&& 31))) (v2 + 1) (rf o 28) s2))) → P33 v2 v3 v4 t0 σ) → (∀ (v2 : Int32) (v3 : Int32) (v4 : Int32) (v5 : Int32) (t0 : Int32) (t1 : Int32) (t2 : Nat) (σ : St), (IA ids t2 0 8 → vp_in t1 8 ∧ ∀ s7 : St, s7 = si σ t2 (Int32.toNatClampNeg t1) t0 → ((v5 = 0 → vp_in v2 8 ∧ P102 v2 v3 v4 v5 (gi s7 (rf o 29) (Int32.toNatClampNeg v2)) (v2 + 1) (rf o 29) s7) ∧ (¬ v5 = 0 → P102 v2 v3 v4 v5 (a0 - a0 / 10 * 10) (v2 + 1) (rf o 29) s7))) → P76 v2 v3 v4 v5 t0 t1 t2 σ) → (∀ (v2 : Int32) (v3 : Int32) (v4 : Int32) (v5 : Int32) (t0 : Int32) (t1 : Int32) (t2 : Nat) (σ : St), (IA ids t2 0 8 → vp_in t1 8 ∧ ∀ s11 : St, s11 = si σ t2 (Int32.toNatClampNeg t1) t0 → ((v5 = 0 → vp_in v2 8 ∧ P132 v2 v3 v4 v5 (gi s11 (rf o 30) (Int32.toNatClampNeg v2)) (v2 + 1) (rf o 30) s11) ∧ (¬ v5 = 0 → vp_in v2 8 ∧ P132 v2 v3 v4 v5 (1 - (gi s11 (rf o 30) (Int32.toNatClampNeg v2))) (v2 + 1) (rf o 30) s11))) → P102 v2 v3 v4 v5 t0 t1 t2 σ) → (∀ (v2 : Int32) (v3 : Int32) (v4 : Int32) (v5 : Int32) (t0 : Int32) (t1 : Int32) (t2 : Nat) (σ : St), (IA ids t2 0 8 → vp_in t1 8 ∧ ∀ s16 : St, s16 = si σ t2 (Int32.toNatClampNeg t1) t0 → ((v3 = 2 → P150 v2 v3 v4 v5 (v2 + 1) (rf o 31) s16) ∧ (¬ v3 = 2 → ((¬ v3 = 3 → vp_in v2 8 ∧ P174 v2 v3 v4 v5 (gi s16 (rf o 31) (Int32.toNatClampNeg v2)) (v2 + 1) (rf o 31) s16) ∧ (v3 = 3 → P150 v2 v3 v4 v5 (v2 + 1) (rf o 31) s16))))) → P132 v2 v3 v4 v5 t0 t1 t2 σ) → (∀ (v2 : Int32) (v3 : Int32) (v4 : Int32) (v5 : Int32) (t0 : Int32) (t1 : Nat) (σ : St), (IA ids t1 0 8 → vp_in v2 8 ∧ vp_in v2 8 ∧ P174 v2 v3 v4 v5 ((gi σ (rf o 31) (Int32.toNatClampNeg v2)) ||| ((1 : Int32) <<< ((gi σ (rf o 29) (Int32.toNatClampNeg v2)) &&& 31))) t0 t1 σ) → P150 v2 v3 v4 v5 t0 t1 σ) → (∀ (v2 : Int32) (v3 : Int32) (v4 : Int32) (v5 : Int32) (t0 : Int32) (t1 : Int32) (t2 : Nat) (σ : St), (IA ids t2 0 8 → vp_in t1 8 ∧ ∀ s23 : St, s23 = si σ t2 (Int32.toNatClampNeg t1) t0 → vp_in (v2 + 1) 8 ∧ ∀ s25 : St, s25 = si s23 (rf o 32) (Int32.toNatClampNeg (v2 + 1)) v3 → ((¬ v5 = 0 → P202 v2 v3 v4 (v2 + 1) (rf o 33) s25) ∧ (v5 = 0 → ((¬ v3 = 6 → P207 v2 v3 v4 v3 (v2 + 1) (rf o 33) s25) ∧ (v3 = 6 → P202 v2 v3 v4 (v2 + 1) (rf o 33) s25))))) → P174 v2 v3 v4 v5 t0 t1 t2 σ) → (∀ (v2 : Int32) (v3 : Int32) (v4 : Int32) (t0 : Int32) (t1 : Nat) (σ : St), (IA ids t1 0 8 → P207 v2 v3 v4 0 t0 t1 σ) → P202 v2 v3 v4 t0 t1 σ) → (∀ (v2 : Int32) (v3 : Int32) (v4 : Int32) (t0 : Int32) (t1 : Int32) (t2 : Nat) (σ : St), (IA ids t2 0 8 → vp_in t1 8 ∧ ∀ s29 : St, s29 = si σ t2 (Int32.toNatClampNeg t1) t0 → vp_in v2 8 ∧ ((¬ v3 = 6 → P240 v2 v3 v4 (gi s29 (rf o 34) (Int32.toNatClampNeg v2)) (v2 + 1) (rf o 34) s29) ∧ (v3 = 6 → vp_in v2 8 ∧ ((¬ (gi s29 (rf o 30) (Int32.toNatClampNeg v2)) = 0 → P240 v2 v3 v4 (gi s29 (rf o 34) (Int32.toNatClampNeg v2)) (v2 + 1) (rf o 34) s29) ∧ ((gi s29 (rf o 30) (Int32.toNatClampNeg v2)) = 0 → P241 v2 v3 v4 1 (gi s29 (rf o 34) (Int32.toNatClampNeg v2)) (v2 + 1) (rf o 34) s29))))) → P207 v2 v3 v4 t0 t1 t2 σ) → (∀ (v2 : Int32) (v3 : Int32) (v4 : Int32) (t0 : Int32) (t1 : Int32) (t2 : Nat) (σ : St), (IA ids t2 0 8 → P241 v2 v3 v4 0 t0 t1 t2 σ) → P240 v2 v3 v4 t0 t1 t2 σ) → (∀ (v2 : Int32) (v3 : Int32) (v4 : Int32) (t0 : Int32) (t1 : Int32) (t2 : Int32) (t3 : Nat) (σ : St), (IA ids t3 0 8 → vp_in t2 8 ∧ ∀ s35 : St, s35 = si σ t3 (Int32.toNatClampNeg t2) (t1 + t0) → vp_in v2 8 ∧ ((¬ v3 = 6 → P276 v2 v4 (gi s35 (rf o 35) (Int32.toNatClampNeg v2)) (v2 + 1) (rf o 35) s35) ∧ (v3 = 6 → vp_in v2 8 ∧ ((¬ (gi s35 (rf o 30) (Int32.toNatClampNeg v2)) = 1 → P276 v2 v4 (gi s35 (rf o 35) (Int32.toNatClampNeg v2)) (v2 + 1) (rf o 35) s35) ∧ ((gi s35 (rf o 30) (Int32.toNatClampNeg v2)) = 1 → P277 v2 v4 1 (gi s35 (rf o 35) (Int32.toNatClampNeg v2)) (v2 + 1) (rf o 35) s35))))) → P241 v2 v3 v4 t0 t1 t2 t3 σ) → (∀ (v2 : Int32) (v4 : Int32) (t0 : Int32) (t1 : Int32) (t2 : Nat) (σ : St), (IA ids t2 0 8 → P277 v2 v4 0 t0 t1 t2 σ) → P276 v2 v4 t0 t1 t2 σ) → (∀ (v2 : Int32) (v4 : Int32) (t0 : Int32) (t1 : Int32) (t2 : Int32) (t3 : Nat) (σ : St), (IA ids t3 0 8 → vp_in t2 8 ∧ ∀ s41 : St, s41 = si σ t3 (Int32.toNatClampNeg t2) (t1 + t0) → vp_in (v2 + 1) 8 ∧ ∀ s43 : St, s43 = si s41 (rf o 36) (Int32.toNatClampNeg (v2 + 1)) (vp_nar .boolean v4) → ∀ s44 : St, s44 = si s43 o 26 ((gi s43 o 26) + 1) → Q s44) → P277 v2 v4 t0 t1 t2 t3 σ) → ∀ x45 : Int32, x45 = (gi σ o 26) → ∀ x46 : Int32, x46 = (a0 / 10) → EI d ids Y_X7_some [.ref o, .int 1, .int x46] σ (fun x48 s47 => ((x46 = 2 → P28 x45 x46 x48 s47) ∧ (¬ x46 = 2 → ((¬ x46 = 5 → P33 x45 x46 x48 0 s47) ∧ (x46 = 5 → P28 x45 x46 x48 s47)))))) : EV (d + 1) ids Y_X7_make [.ref o, .int a0] σ Q := by
  refine E_mk (by decide) (Nat.le_of_ble_eq_true rfl) (fun X hX => ?_)
  replace hX : Cok X ids 6 cX7_make none (d + 1) RX7 := hX
  show Wg X ids 6 _ 0 [(0, .ref o), (1, .int a0)] [] σ
  have h := H (fun (v2 : Int32) (v3 : Int32) (v4 : Int32) (σ : St) => (Wg X ids 6 (fun r σ1 => r = none ∧ Q σ1) 28 [(0, .ref o), (1, .int a0), (2, .int v2), (3, .int v3), (4, .int v4)] [] σ)) (fun (v2 : Int32) (v3 : Int32) (v4 : Int32) (t0 : Int32) (σ : St) => (Wg X ids 6 (fun r σ1 => r = none ∧ Q σ1) 33 [(0, .ref o), (1, .int a0), (2, .int v2), (3, .int v3), (4, .int v4)] [.int t0] σ)) (fun (v2 : Int32) (v3 : Int32) (v4 : Int32) (v5 : Int32) (t0 : Int32) (t1 : Int32) (t2 : Nat) (σ : St) => (IA ids t2 0 8 → Wg X ids 6 (fun r σ1 => r = none ∧ Q σ1) 76 [(0, .ref o), (1, .int a0), (2, .int v2), (3, .int v3), (4, .int v4), (5, .int v5)] [.int t0, .int t1, .ref t2] σ)) (fun (v2 : Int32) (v3 : Int32) (v4 : Int32) (v5 : Int32) (t0 : Int32) (t1 : Int32) (t2 : Nat) (σ : St) => (IA ids t2 0 8 → Wg X ids 6 (fun r σ1 => r = none ∧ Q σ1) 102 [(0, .ref o), (2, .int v2), (3, .int v3), (4, .int v4), (5, .int v5)] [.int t0, .int t1, .ref t2] σ)) (fun (v2 : Int32) (v3 : Int32) (v4 : Int32) (v5 : Int32) (t0 : Int32) (t1 : Int32) (t2 : Nat) (σ : St) => (IA ids t2 0 8 → Wg X ids 6 (fun r σ1 => r = none ∧ Q σ1) 132 [(0, .ref o), (2, .int v2), (3, .int v3), (4, .int v4), (5, .int v5)] [.int t0, .int t1, .ref t2] σ)) (fun (v2 : Int32) (v3 : Int32) (v4 : Int32) (v5 : Int32) (t0 : Int32) (t1 : Nat) (σ : St) => (IA ids t1 0 8 → Wg X ids 6 (fun r σ1 => r = none ∧ Q σ1) 150 [(0, .ref o), (2, .int v2), (3, .int v3), (4, .int v4), (5, .int v5)] [.int t0, .ref t1] σ)) (fun (v2 : Int32) (v3 : Int32) (v4 : Int32) (v5 : Int32) (t0 : Int32) (t1 : Int32) (t2 : Nat) (σ : St) => (IA ids t2 0 8 → Wg X ids 6 (fun r σ1 => r = none ∧ Q σ1) 174 [(0, .ref o), (2, .int v2), (3, .int v3), (4, .int v4), (5, .int v5)] [.int t0, .int t1, .ref t2] σ)) (fun (v2 : Int32) (v3 : Int32) (v4 : Int32) (t0 : Int32) (t1 : Nat) (σ : St) => (IA ids t1 0 8 → Wg X ids 6 (fun r σ1 => r = none ∧ Q σ1) 202 [(0, .ref o), (2, .int v2), (3, .int v3), (4, .int v4)] [.int t0, .ref t1] σ)) (fun (v2 : Int32) (v3 : Int32) (v4 : Int32) (t0 : Int32) (t1 : Int32) (t2 : Nat) (σ : St) => (IA ids t2 0 8 → Wg X ids 6 (fun r σ1 => r = none ∧ Q σ1) 207 [(0, .ref o), (2, .int v2), (3, .int v3), (4, .int v4)] [.int t0, .int t1, .ref t2] σ)) (fun (v2 : Int32) (v3 : Int32) (v4 : Int32) (t0 : Int32) (t1 : Int32) (t2 : Nat) (σ : St) => (IA ids t2 0 8 → Wg X ids 6 (fun r σ1 => r = none ∧ Q σ1) 240 [(0, .ref o), (2, .int v2), (3, .int v3), (4, .int v4)] [.int t0, .int t1, .ref t2] σ)) (fun (v2 : Int32) (v3 : Int32) (v4 : Int32) (t0 : Int32) (t1 : Int32) (t2 : Int32) (t3 : Nat) (σ : St) => (IA ids t3 0 8 → Wg X ids 6 (fun r σ1 => r = none ∧ Q σ1) 241 [(0, .ref o), (2, .int v2), (3, .int v3), (4, .int v4)] [.int t0, .int t1, .int t2, .ref t3] σ)) (fun (v2 : Int32) (v4 : Int32) (t0 : Int32) (t1 : Int32) (t2 : Nat) (σ : St) => (IA ids t2 0 8 → Wg X ids 6 (fun r σ1 => r = none ∧ Q σ1) 276 [(0, .ref o), (2, .int v2), (4, .int v4)] [.int t0, .int t1, .ref t2] σ)) (fun (v2 : Int32) (v4 : Int32) (t0 : Int32) (t1 : Int32) (t2 : Int32) (t3 : Nat) (σ : St) => (IA ids t3 0 8 → Wg X ids 6 (fun r σ1 => r = none ∧ Q σ1) 277 [(0, .ref o), (2, .int v2), (4, .int v4)] [.int t0, .int t1, .int t2, .ref t3] σ))
  replace h := h (fun v2 v3 v4 σ h => by
    refine q_iconst (v := 1) hX dX7_make_28 (by decide) ?_
    refine q_goto 33 hX dX7_make_29 (by decide) ?_
    exact Wg.sub [0, 1, 2, 3, 4] rfl (h)
    )
  replace h := h (fun v2 v3 v4 t0 σ h => by
    refine q_istore (L' := [(5, .int t0), (0, .ref o), (1, .int a0), (2, .int v2), (3, .int v3), (4, .int v4)]) hX dX7_make_33 (by decide) rfl ?_
    refine q_aload_n 1 hX dX7_make_35 rfl rfl ?_
    refine gf_X7_163 hX h_o dX7_make_36 ?_
    refine q_iload_n 3 hX dX7_make_39 rfl rfl ?_
    refine q_iload_n 2 hX dX7_make_40 rfl rfl ?_
    obtain ⟨b1, h⟩ := h
    refine q_iast hX dX7_make_41 (rfO_7_27 h_o) b1 ?_
    refine Wg.nmS (fun s2 es2 => ?_)
    replace h := h s2 es2
    refine q_aload_n 1 hX dX7_make_42 rfl rfl ?_
    refine gf_X7_166 hX h_o dX7_make_43 ?_
    refine q_iload_n 3 hX dX7_make_46 rfl rfl ?_
    refine q_iconst (v := 1) hX dX7_make_47 (by decide) ?_
    refine q_iadd hX dX7_make_48 ?_
    refine q_iload 0 hX dX7_make_49 rfl ?_
    refine q_if_eq 70 hX dX7_make_51 (by decide) (fun c3 => ?_) (fun c3 => ?_)
    · replace h := h.1 c3
      refine q_aload_n 1 hX dX7_make_70 rfl rfl ?_
      refine gf_X7_166 hX h_o dX7_make_71 ?_
      refine q_iload_n 3 hX dX7_make_74 rfl rfl ?_
      obtain ⟨b4, h⟩ := h
      refine q_iald hX dX7_make_75 (rfO_7_28 h_o) b4 ?_
      exact Wg.sub [1, 2, 3, 4, 5, 0] rfl (h ((rfO_7_28 h_o)))
    · replace h := h.2 c3
      refine q_aload_n 1 hX dX7_make_54 rfl rfl ?_
      refine gf_X7_166 hX h_o dX7_make_55 ?_
      refine q_iload_n 3 hX dX7_make_58 rfl rfl ?_
      obtain ⟨b5, h⟩ := h
      refine q_iald hX dX7_make_59 (rfO_7_28 h_o) b5 ?_
      refine q_iconst (v := 1) hX dX7_make_60 (by decide) ?_
      refine q_iload_n 2 hX dX7_make_61 rfl rfl ?_
      refine q_bipush (v := 10) hX dX7_make_62 (by decide) ?_
      refine q_irem hX dX7_make_64 (by decide) ?_
      refine q_ishl hX dX7_make_65 ?_
      refine q_ior hX dX7_make_66 ?_
      refine q_goto 76 hX dX7_make_67 (by decide) ?_
      exact Wg.sub [1, 2, 3, 4, 5, 0] rfl (h ((rfO_7_28 h_o)))
    )
  replace h := h (fun v2 v3 v4 v5 t0 t1 t2 σ h h_t2 => by
    replace h := h h_t2
    obtain ⟨b6, h⟩ := h
    refine q_iast hX dX7_make_76 h_t2 b6 ?_
    refine Wg.nmS (fun s7 es7 => ?_)
    replace h := h s7 es7
    refine q_aload_n 0 hX dX7_make_77 rfl rfl ?_
    refine gf_X7_169 hX h_o dX7_make_78 ?_
    refine q_iload_n 2 hX dX7_make_81 rfl rfl ?_
    refine q_iconst (v := 1) hX dX7_make_82 (by decide) ?_
    refine q_iadd hX dX7_make_83 ?_
    refine q_iload 5 hX dX7_make_84 rfl ?_
    refine q_if_eq 96 hX dX7_make_86 (by decide) (fun c8 => ?_) (fun c8 => ?_)
    · replace h := h.1 c8
      refine q_aload_n 0 hX dX7_make_96 rfl rfl ?_
      refine gf_X7_169 hX h_o dX7_make_97 ?_
      refine q_iload_n 2 hX dX7_make_100 rfl rfl ?_
      obtain ⟨b9, h⟩ := h
      refine q_iald hX dX7_make_101 (rfO_7_29 h_o) b9 ?_
      exact Wg.sub [0, 2, 3, 4, 5] rfl (h ((rfO_7_29 h_o)))
    · replace h := h.2 c8
      refine q_iload_n 1 hX dX7_make_89 rfl rfl ?_
      refine q_bipush (v := 10) hX dX7_make_90 (by decide) ?_
      refine q_irem hX dX7_make_92 (by decide) ?_
      refine q_goto 102 hX dX7_make_93 (by decide) ?_
      exact Wg.sub [0, 2, 3, 4, 5] rfl (h ((rfO_7_29 h_o)))
    )
  replace h := h (fun v2 v3 v4 v5 t0 t1 t2 σ h h_t2 => by
    replace h := h h_t2
    obtain ⟨b10, h⟩ := h
    refine q_iast hX dX7_make_102 h_t2 b10 ?_
    refine Wg.nmS (fun s11 es11 => ?_)
    replace h := h s11 es11
    refine q_aload_n 0 hX dX7_make_103 rfl rfl ?_
    refine gf_X7_172 hX h_o dX7_make_104 ?_
    refine q_iload_n 1 hX dX7_make_107 rfl rfl ?_
    refine q_iconst (v := 1) hX dX7_make_108 (by decide) ?_
    refine q_iadd hX dX7_make_109 ?_
    refine q_iload 4 hX dX7_make_110 rfl ?_
    refine q_if_eq 126 hX dX7_make_112 (by decide) (fun c12 => ?_) (fun c12 => ?_)
    · replace h := h.1 c12
      refine q_aload_n 0 hX dX7_make_126 rfl rfl ?_
      refine gf_X7_172 hX h_o dX7_make_127 ?_
      refine q_iload_n 1 hX dX7_make_130 rfl rfl ?_
      obtain ⟨b13, h⟩ := h
      refine q_iald hX dX7_make_131 (rfO_7_30 h_o) b13 ?_
      exact Wg.sub [0, 1, 2, 3, 4] rfl (h ((rfO_7_30 h_o)))
    · replace h := h.2 c12
      refine q_iconst (v := 1) hX dX7_make_115 (by decide) ?_
      refine q_aload_n 0 hX dX7_make_116 rfl rfl ?_
      refine gf_X7_172 hX h_o dX7_make_117 ?_
      refine q_iload_n 1 hX dX7_make_120 rfl rfl ?_
      obtain ⟨b14, h⟩ := h
      refine q_iald hX dX7_make_121 (rfO_7_30 h_o) b14 ?_
      refine q_isub hX dX7_make_122 ?_
      refine q_goto 132 hX dX7_make_123 (by decide) ?_
      exact Wg.sub [0, 1, 2, 3, 4] rfl (h ((rfO_7_30 h_o)))
    )
  replace h := h (fun v2 v3 v4 v5 t0 t1 t2 σ h h_t2 => by
    replace h := h h_t2
    obtain ⟨b15, h⟩ := h
    refine q_iast hX dX7_make_132 h_t2 b15 ?_
    refine Wg.nmS (fun s16 es16 => ?_)
    replace h := h s16 es16
    refine q_aload_n 0 hX dX7_make_133 rfl rfl ?_
    refine gf_X7_175 hX h_o dX7_make_134 ?_
    refine q_iload_n 1 hX dX7_make_137 rfl rfl ?_
    refine q_iconst (v := 1) hX dX7_make_138 (by decide) ?_
    refine q_iadd hX dX7_make_139 ?_
    refine q_iload_n 2 hX dX7_make_140 rfl rfl ?_
    refine q_iconst (v := 2) hX dX7_make_141 (by decide) ?_
    refine q_icmp_eq 150 hX dX7_make_142 (by decide) (fun c17 => ?_) (fun c17 => ?_)
    · replace h := h.1 c17
      exact Wg.sub [0, 1, 2, 3, 4] rfl (h ((rfO_7_31 h_o)))
    · replace h := h.2 c17
      refine q_iload_n 2 hX dX7_make_145 rfl rfl ?_
      refine q_iconst (v := 3) hX dX7_make_146 (by decide) ?_
      refine q_icmp_ne 168 hX dX7_make_147 (by decide) (fun c18 => ?_) (fun c18 => ?_)
      · replace h := h.1 c18
        refine q_aload_n 0 hX dX7_make_168 rfl rfl ?_
        refine gf_X7_175 hX h_o dX7_make_169 ?_
        refine q_iload_n 1 hX dX7_make_172 rfl rfl ?_
        obtain ⟨b19, h⟩ := h
        refine q_iald hX dX7_make_173 (rfO_7_31 h_o) b19 ?_
        exact Wg.sub [0, 1, 2, 3, 4] rfl (h ((rfO_7_31 h_o)))
      · replace h := h.2 c18
        exact Wg.sub [0, 1, 2, 3, 4] rfl (h ((rfO_7_31 h_o)))
    )
  replace h := h (fun v2 v3 v4 v5 t0 t1 σ h h_t1 => by
    replace h := h h_t1
    refine q_aload_n 0 hX dX7_make_150 rfl rfl ?_
    refine gf_X7_175 hX h_o dX7_make_151 ?_
    refine q_iload_n 1 hX dX7_make_154 rfl rfl ?_
    obtain ⟨b20, h⟩ := h
    refine q_iald hX dX7_make_155 (rfO_7_31 h_o) b20 ?_
    refine q_iconst (v := 1) hX dX7_make_156 (by decide) ?_
    refine q_aload_n 0 hX dX7_make_157 rfl rfl ?_
    refine gf_X7_169 hX h_o dX7_make_158 ?_
    refine q_iload_n 1 hX dX7_make_161 rfl rfl ?_
    obtain ⟨b21, h⟩ := h
    refine q_iald hX dX7_make_162 (rfO_7_29 h_o) b21 ?_
    refine q_ishl hX dX7_make_163 ?_
    refine q_ior hX dX7_make_164 ?_
    refine q_goto 174 hX dX7_make_165 (by decide) ?_
    exact Wg.sub [0, 1, 2, 3, 4] rfl (h h_t1)
    )
  replace h := h (fun v2 v3 v4 v5 t0 t1 t2 σ h h_t2 => by
    replace h := h h_t2
    obtain ⟨b22, h⟩ := h
    refine q_iast hX dX7_make_174 h_t2 b22 ?_
    refine Wg.nmS (fun s23 es23 => ?_)
    replace h := h s23 es23
    refine q_aload_n 0 hX dX7_make_175 rfl rfl ?_
    refine gf_X7_178 hX h_o dX7_make_176 ?_
    refine q_iload_n 1 hX dX7_make_179 rfl rfl ?_
    refine q_iconst (v := 1) hX dX7_make_180 (by decide) ?_
    refine q_iadd hX dX7_make_181 ?_
    refine q_iload_n 2 hX dX7_make_182 rfl rfl ?_
    obtain ⟨b24, h⟩ := h
    refine q_iast hX dX7_make_183 (rfO_7_32 h_o) b24 ?_
    refine Wg.nmS (fun s25 es25 => ?_)
    replace h := h s25 es25
    refine q_aload_n 0 hX dX7_make_184 rfl rfl ?_
    refine gf_X7_181 hX h_o dX7_make_185 ?_
    refine q_iload_n 1 hX dX7_make_188 rfl rfl ?_
    refine q_iconst (v := 1) hX dX7_make_189 (by decide) ?_
    refine q_iadd hX dX7_make_190 ?_
    refine q_iload 4 hX dX7_make_191 rfl ?_
    refine q_if_ne 202 hX dX7_make_193 (by decide) (fun c26 => ?_) (fun c26 => ?_)
    · replace h := h.1 c26
      exact Wg.sub [0, 1, 2, 3] rfl (h ((rfO_7_33 h_o)))
    · replace h := h.2 c26
      refine q_iload_n 2 hX dX7_make_196 rfl rfl ?_
      refine q_bipush (v := 6) hX dX7_make_197 (by decide) ?_
      refine q_icmp_ne 206 hX dX7_make_199 (by decide) (fun c27 => ?_) (fun c27 => ?_)
      · replace h := h.1 c27
        refine q_iload_n 2 hX dX7_make_206 rfl rfl ?_
        exact Wg.sub [0, 1, 2, 3] rfl (h ((rfO_7_33 h_o)))
      · replace h := h.2 c27
        exact Wg.sub [0, 1, 2, 3] rfl (h ((rfO_7_33 h_o)))
    )
  replace h := h (fun v2 v3 v4 t0 t1 σ h h_t1 => by
    replace h := h h_t1
    refine q_iconst (v := 0) hX dX7_make_202 (by decide) ?_
    refine q_goto 207 hX dX7_make_203 (by decide) ?_
    exact Wg.sub [0, 1, 2, 3] rfl (h h_t1)
    )
  replace h := h (fun v2 v3 v4 t0 t1 t2 σ h h_t2 => by
    replace h := h h_t2
    obtain ⟨b28, h⟩ := h
    refine q_iast hX dX7_make_207 h_t2 b28 ?_
    refine Wg.nmS (fun s29 es29 => ?_)
    replace h := h s29 es29
    refine q_aload_n 0 hX dX7_make_208 rfl rfl ?_
    refine gf_X7_184 hX h_o dX7_make_209 ?_
    refine q_iload_n 1 hX dX7_make_212 rfl rfl ?_
    refine q_iconst (v := 1) hX dX7_make_213 (by decide) ?_
    refine q_iadd hX dX7_make_214 ?_
    refine q_aload_n 0 hX dX7_make_215 rfl rfl ?_
    refine gf_X7_184 hX h_o dX7_make_216 ?_
    refine q_iload_n 1 hX dX7_make_219 rfl rfl ?_
    obtain ⟨b30, h⟩ := h
    refine q_iald hX dX7_make_220 (rfO_7_34 h_o) b30 ?_
    refine q_iload_n 2 hX dX7_make_221 rfl rfl ?_
    refine q_bipush (v := 6) hX dX7_make_222 (by decide) ?_
    refine q_icmp_ne 240 hX dX7_make_224 (by decide) (fun c31 => ?_) (fun c31 => ?_)
    · replace h := h.1 c31
      exact Wg.sub [0, 1, 2, 3] rfl (h ((rfO_7_34 h_o)))
    · replace h := h.2 c31
      refine q_aload_n 0 hX dX7_make_227 rfl rfl ?_
      refine gf_X7_172 hX h_o dX7_make_228 ?_
      refine q_iload_n 1 hX dX7_make_231 rfl rfl ?_
      obtain ⟨b32, h⟩ := h
      refine q_iald hX dX7_make_232 (rfO_7_30 h_o) b32 ?_
      refine q_if_ne 240 hX dX7_make_233 (by decide) (fun c33 => ?_) (fun c33 => ?_)
      · replace h := h.1 c33
        exact Wg.sub [0, 1, 2, 3] rfl (h ((rfO_7_34 h_o)))
      · replace h := h.2 c33
        refine q_iconst (v := 1) hX dX7_make_236 (by decide) ?_
        refine q_goto 241 hX dX7_make_237 (by decide) ?_
        exact Wg.sub [0, 1, 2, 3] rfl (h ((rfO_7_34 h_o)))
    )
  replace h := h (fun v2 v3 v4 t0 t1 t2 σ h h_t2 => by
    replace h := h h_t2
    refine q_iconst (v := 0) hX dX7_make_240 (by decide) ?_
    exact Wg.sub [0, 1, 2, 3] rfl (h h_t2)
    )
  replace h := h (fun v2 v3 v4 t0 t1 t2 t3 σ h h_t3 => by
    replace h := h h_t3
    refine q_iadd hX dX7_make_241 ?_
    obtain ⟨b34, h⟩ := h
    refine q_iast hX dX7_make_242 h_t3 b34 ?_
    refine Wg.nmS (fun s35 es35 => ?_)
    replace h := h s35 es35
    refine q_aload_n 0 hX dX7_make_243 rfl rfl ?_
    refine gf_X7_187 hX h_o dX7_make_244 ?_
    refine q_iload_n 1 hX dX7_make_247 rfl rfl ?_
    refine q_iconst (v := 1) hX dX7_make_248 (by decide) ?_
    refine q_iadd hX dX7_make_249 ?_
    refine q_aload_n 0 hX dX7_make_250 rfl rfl ?_
    refine gf_X7_187 hX h_o dX7_make_251 ?_
    refine q_iload_n 1 hX dX7_make_254 rfl rfl ?_
    obtain ⟨b36, h⟩ := h
    refine q_iald hX dX7_make_255 (rfO_7_35 h_o) b36 ?_
    refine q_iload_n 2 hX dX7_make_256 rfl rfl ?_
    refine q_bipush (v := 6) hX dX7_make_257 (by decide) ?_
    refine q_icmp_ne 276 hX dX7_make_259 (by decide) (fun c37 => ?_) (fun c37 => ?_)
    · replace h := h.1 c37
      exact Wg.sub [0, 1, 3] rfl (h ((rfO_7_35 h_o)))
    · replace h := h.2 c37
      refine q_aload_n 0 hX dX7_make_262 rfl rfl ?_
      refine gf_X7_172 hX h_o dX7_make_263 ?_
      refine q_iload_n 1 hX dX7_make_266 rfl rfl ?_
      obtain ⟨b38, h⟩ := h
      refine q_iald hX dX7_make_267 (rfO_7_30 h_o) b38 ?_
      refine q_iconst (v := 1) hX dX7_make_268 (by decide) ?_
      refine q_icmp_ne 276 hX dX7_make_269 (by decide) (fun c39 => ?_) (fun c39 => ?_)
      · replace h := h.1 c39
        exact Wg.sub [0, 1, 3] rfl (h ((rfO_7_35 h_o)))
      · replace h := h.2 c39
        refine q_iconst (v := 1) hX dX7_make_272 (by decide) ?_
        refine q_goto 277 hX dX7_make_273 (by decide) ?_
        exact Wg.sub [0, 1, 3] rfl (h ((rfO_7_35 h_o)))
    )
  replace h := h (fun v2 v4 t0 t1 t2 σ h h_t2 => by
    replace h := h h_t2
    refine q_iconst (v := 0) hX dX7_make_276 (by decide) ?_
    exact Wg.sub [0, 1, 2] rfl (h h_t2)
    )
  replace h := h (fun v2 v4 t0 t1 t2 t3 σ h h_t3 => by
    replace h := h h_t3
    refine q_iadd hX dX7_make_277 ?_
    obtain ⟨b40, h⟩ := h
    refine q_iast hX dX7_make_278 h_t3 b40 ?_
    refine Wg.nmS (fun s41 es41 => ?_)
    replace h := h s41 es41
    refine q_aload_n 0 hX dX7_make_279 rfl rfl ?_
    refine gf_X7_190 hX h_o dX7_make_280 ?_
    refine q_iload_n 1 hX dX7_make_283 rfl rfl ?_
    refine q_iconst (v := 1) hX dX7_make_284 (by decide) ?_
    refine q_iadd hX dX7_make_285 ?_
    refine q_iload 2 hX dX7_make_286 rfl ?_
    obtain ⟨b42, h⟩ := h
    refine q_zast hX dX7_make_288 (rfO_7_36 h_o) b42 ?_
    refine Wg.nmS (fun s43 es43 => ?_)
    replace h := h s43 es43
    refine q_aload_n 0 hX dX7_make_289 rfl rfl ?_
    refine q_dup hX dX7_make_290 rfl ?_
    refine gf_X7_160 hX h_o dX7_make_291 ?_
    refine q_iconst (v := 1) hX dX7_make_294 (by decide) ?_
    refine q_iadd hX dX7_make_295 ?_
    refine pf_X7_160 hX h_o dX7_make_296 ?_
    refine Wg.nmS (fun s44 es44 => ?_)
    replace h := h s44 es44
    exact q_vret hX dX7_make_299 ⟨rfl, h⟩
    )
  refine q_aload_n 0 hX dX7_make_0 rfl rfl ?_
  refine gf_X7_160 hX h_o dX7_make_1 ?_
  refine Wg.nmI (fun x45 ex45 => ?_)
  replace h := h x45 ex45
  refine q_istore_n (L' := [(2, .int x45), (0, .ref o), (1, .int a0)]) hX dX7_make_4 rfl (by decide) rfl ?_
  refine q_iload_n 2 hX dX7_make_5 rfl rfl ?_
  refine q_bipush (v := 10) hX dX7_make_6 (by decide) ?_
  refine q_idiv hX dX7_make_8 (by decide) ?_
  refine Wg.nmI (fun x46 ex46 => ?_)
  replace h := h x46 ex46
  refine q_istore_n (L' := [(3, .int x46), (2, .int x45), (0, .ref o), (1, .int a0)]) hX dX7_make_9 rfl (by decide) rfl ?_
  refine q_aload_n 2 hX dX7_make_10 rfl rfl ?_
  refine q_iconst (v := 1) hX dX7_make_11 (by decide) ?_
  refine q_iload_n 0 hX dX7_make_12 rfl rfl ?_
  refine cl_X7_252 hX h_o dX7_make_13 (Nat.le_of_ble_eq_true rfl) h (fun x48 s47 h => ?_)
  refine q_istore (L' := [(4, .int x48), (3, .int x46), (2, .int x45), (0, .ref o), (1, .int a0)]) hX dX7_make_16 (by decide) rfl ?_
  refine q_iload_n 1 hX dX7_make_18 rfl rfl ?_
  refine q_iconst (v := 2) hX dX7_make_19 (by decide) ?_
  refine q_icmp_eq 28 hX dX7_make_20 (by decide) (fun c49 => ?_) (fun c49 => ?_)
  · replace h := h.1 c49
    exact Wg.sub [3, 4, 2, 1, 0] rfl (h)
  · replace h := h.2 c49
    refine q_iload_n 1 hX dX7_make_23 rfl rfl ?_
    refine q_iconst (v := 5) hX dX7_make_24 (by decide) ?_
    refine q_icmp_ne 32 hX dX7_make_25 (by decide) (fun c50 => ?_) (fun c50 => ?_)
    · replace h := h.1 c50
      refine q_iconst (v := 0) hX dX7_make_32 (by decide) ?_
      exact Wg.sub [3, 4, 2, 1, 0] rfl (h)
    · replace h := h.2 c50
      exact Wg.sub [3, 4, 2, 1, 0] rfl (h)
set_option maxHeartbeats 4000000 in
set_option maxRecDepth 20000 in
theorem fl_X7_nextMay {d : Nat} {ids : List Nat} {o : Nat} {a0 : Int32} {σ : St} {Q : Int32 → St → Prop} (h_o : IO ids o 7) (H : ∀ (P2 : Int32 → St → Prop), (∀ (v2 : Int32) (σ : St), (((14 ≤ v2 → Q v2 σ) ∧ (¬ (14 ≤ v2) → vp_in v2 14 ∧ EI d ids Y_X7_can [.ref o, .int (gi σ (rf o 38) (Int32.toNatClampNeg v2))] σ (fun x4 s3 => ((¬ x4 = 0 → Q v2 s3) ∧ (x4 = 0 → ∀ x6 : Int32, x6 = v2 + 1 → P2 x6 s3)))))) → P2 v2 σ) → P2 a0 σ) : EI (d + 1) ids Y_X7_nextMay [.ref o, .int a0] σ Q := by
  refine E_mk (by decide) (Nat.le_of_ble_eq_true rfl) (fun X hX => ?_)
  replace hX : Cok X ids 3 cX7_nextMay (some .int) (d + 1) RX7 := hX
  show Wg X ids 3 _ 0 [(0, .ref o), (1, .int a0)] [] σ
  have h := H (fun (v2 : Int32) (σ : St) => (Wg X ids 3 (fun r σ1 => ∃ x, r = some (Value.int x) ∧ Q x σ1) 2 [(0, .ref o), (2, .int v2)] [] σ))
  replace h := h (fun v2 σ h => by
    refine q_iload_n 1 hX dX7_nextMay_2 rfl rfl ?_
    refine q_bipush (v := 14) hX dX7_nextMay_3 (by decide) ?_
    refine q_icmp_ge 27 hX dX7_nextMay_5 (by decide) (fun c1 => ?_) (fun c1 => ?_)
    · replace h := h.1 c1
      refine q_iload_n 1 hX dX7_nextMay_27 rfl rfl ?_
      exact q_ret hX dX7_nextMay_28 ⟨_, rfl, h⟩
    · replace h := h.2 c1
      refine q_aload_n 0 hX dX7_nextMay_8 rfl rfl ?_
      refine q_aload_n 0 hX dX7_nextMay_9 rfl rfl ?_
      refine gf_X7_196 hX h_o dX7_nextMay_10 ?_
      refine q_iload_n 1 hX dX7_nextMay_13 rfl rfl ?_
      obtain ⟨b2, h⟩ := h
      refine q_iald hX dX7_nextMay_14 (rfO_7_38 h_o) b2 ?_
      refine cl_X7_255 hX h_o dX7_nextMay_15 (Nat.le_of_ble_eq_true rfl) h (fun x4 s3 h => ?_)
      refine q_if_ne 27 hX dX7_nextMay_18 (by decide) (fun c5 => ?_) (fun c5 => ?_)
      · replace h := h.1 c5
        refine q_iload_n 1 hX dX7_nextMay_27 rfl rfl ?_
        exact q_ret hX dX7_nextMay_28 ⟨_, rfl, h⟩
      · replace h := h.2 c5
        obtain ⟨x6, ex6⟩ : ∃ z : Int32, z = v2 + 1 := ⟨_, rfl⟩
        replace h := h x6 ex6
        refine q_iinc (v := x6) (L' := [(2, .int x6), (0, .ref o)]) 1 hX dX7_nextMay_21 rfl (by rw [ex6]; rfl) (by decide) rfl ?_
        refine q_goto 2 hX dX7_nextMay_24 (by decide) ?_
        exact Wg.sub [1, 0] rfl (h)
    )
  refine q_iload_n 1 hX dX7_nextMay_0 rfl rfl ?_
  refine q_istore_n (L' := [(2, .int a0), (0, .ref o), (1, .int a0)]) hX dX7_nextMay_1 rfl (by decide) rfl ?_
  exact Wg.sub [1, 0] rfl (h)
set_option maxHeartbeats 4000000 in
set_option maxRecDepth 20000 in
theorem fl_X7_endSort {d : Nat} {ids : List Nat} {o : Nat} {σ : St} {Q : Int32 → St → Prop} (h_o : IO ids o 7) (H : vp_in (gi σ o 26) 8 ∧ (((gi σ (rf o 33) (Int32.toNatClampNeg (gi σ o 26))) = 0 → EI d ids Y_X7_nextMay [.ref o, .int 0] σ (fun x4 s3 => ((¬ x4 = 14 → Q 0 s3) ∧ (x4 = 14 → Q 7 s3)))) ∧ (¬ (gi σ (rf o 33) (Int32.toNatClampNeg (gi σ o 26))) = 0 → vp_in (gi σ o 26) 8 ∧ Q (gi σ (rf o 33) (Int32.toNatClampNeg (gi σ o 26))) σ))) : EI (d + 1) ids Y_X7_endSort [.ref o] σ Q := by
  refine E_mk (by decide) (Nat.le_of_ble_eq_true rfl) (fun X hX => ?_)
  replace hX : Cok X ids 1 cX7_endSort (some .int) (d + 1) RX7 := hX
  show Wg X ids 1 _ 0 [(0, .ref o)] [] σ
  have h := H
  refine q_aload_n 0 hX dX7_endSort_0 rfl rfl ?_
  refine gf_X7_181 hX h_o dX7_endSort_1 ?_
  refine q_aload_n 0 hX dX7_endSort_4 rfl rfl ?_
  refine gf_X7_160 hX h_o dX7_endSort_5 ?_
  obtain ⟨b1, h⟩ := h
  refine q_iald hX dX7_endSort_8 (rfO_7_33 h_o) b1 ?_
  refine q_if_eq 24 hX dX7_endSort_9 (by decide) (fun c2 => ?_) (fun c2 => ?_)
  · replace h := h.1 c2
    refine q_aload_n 0 hX dX7_endSort_24 rfl rfl ?_
    refine q_iconst (v := 0) hX dX7_endSort_25 (by decide) ?_
    refine cl_X7_258 hX h_o dX7_endSort_26 (Nat.le_of_ble_eq_true rfl) h (fun x4 s3 h => ?_)
    refine q_bipush (v := 14) hX dX7_endSort_29 (by decide) ?_
    refine q_icmp_ne 39 hX dX7_endSort_31 (by decide) (fun c5 => ?_) (fun c5 => ?_)
    · replace h := h.1 c5
      refine q_iconst (v := 0) hX dX7_endSort_39 (by decide) ?_
      exact q_ret hX dX7_endSort_40 ⟨_, rfl, h⟩
    · replace h := h.2 c5
      refine q_bipush (v := 7) hX dX7_endSort_34 (by decide) ?_
      refine q_goto 40 hX dX7_endSort_36 (by decide) ?_
      exact q_ret hX dX7_endSort_40 ⟨_, rfl, h⟩
  · replace h := h.2 c2
    refine q_aload_n 0 hX dX7_endSort_12 rfl rfl ?_
    refine gf_X7_181 hX h_o dX7_endSort_13 ?_
    refine q_aload_n 0 hX dX7_endSort_16 rfl rfl ?_
    refine gf_X7_160 hX h_o dX7_endSort_17 ?_
    obtain ⟨b6, h⟩ := h
    refine q_iald hX dX7_endSort_20 (rfO_7_33 h_o) b6 ?_
    refine q_goto 40 hX dX7_endSort_21 (by decide) ?_
    exact q_ret hX dX7_endSort_40 ⟨_, rfl, h⟩
set_option maxHeartbeats 4000000 in
set_option maxRecDepth 20000 in
theorem fl_X7_keepRoll {d : Nat} {ids : List Nat} {o : Nat} {σ : St} {Q : St → Prop} (h_o : IO ids o 7) (H : ∀ (P18 : Int32 → St → Prop), (∀ (v1 : Int32) (σ : St), ((((gi σ o 26) ≤ v1 → Q σ) ∧ (¬ ((gi σ o 26) ≤ v1) → vp_in v1 8 ∧ vp_in v1 8 ∧ ∀ s4 : St, s4 = si σ (rf o 39) (Int32.toNatClampNeg v1) (gi σ (rf o 27) (Int32.toNatClampNeg v1)) → ∀ x5 : Int32, x5 = v1 + 1 → P18 x5 s4))) → P18 v1 σ) → ∀ s6 : St, s6 = si σ o 40 (gi σ o 26) → ∀ s7 : St, s7 = si s6 o 41 (gi s6 o 24) → P18 0 s7) : EV (d + 1) ids Y_X7_keepRoll [.ref o] σ Q := by
  refine E_mk (by decide) (Nat.le_of_ble_eq_true rfl) (fun X hX => ?_)
  replace hX : Cok X ids 2 cX7_keepRoll none (d + 1) RX7 := hX
  show Wg X ids 2 _ 0 [(0, .ref o)] [] σ
  have h := H (fun (v1 : Int32) (σ : St) => (Wg X ids 2 (fun r σ1 => r = none ∧ Q σ1) 18 [(0, .ref o), (1, .int v1)] [] σ))
  replace h := h (fun v1 σ h => by
    refine q_iload_n 1 hX dX7_keepRoll_18 rfl rfl ?_
    refine q_aload_n 0 hX dX7_keepRoll_19 rfl rfl ?_
    refine gf_X7_160 hX h_o dX7_keepRoll_20 ?_
    refine q_icmp_ge 44 hX dX7_keepRoll_23 (by decide) (fun c1 => ?_) (fun c1 => ?_)
    · replace h := h.1 c1
      exact q_vret hX dX7_keepRoll_44 ⟨rfl, h⟩
    · replace h := h.2 c1
      refine q_aload_n 0 hX dX7_keepRoll_26 rfl rfl ?_
      refine gf_X7_199 hX h_o dX7_keepRoll_27 ?_
      refine q_iload_n 1 hX dX7_keepRoll_30 rfl rfl ?_
      refine q_aload_n 0 hX dX7_keepRoll_31 rfl rfl ?_
      refine gf_X7_163 hX h_o dX7_keepRoll_32 ?_
      refine q_iload_n 1 hX dX7_keepRoll_35 rfl rfl ?_
      obtain ⟨b2, h⟩ := h
      refine q_iald hX dX7_keepRoll_36 (rfO_7_27 h_o) b2 ?_
      obtain ⟨b3, h⟩ := h
      refine q_iast hX dX7_keepRoll_37 (rfO_7_39 h_o) b3 ?_
      refine Wg.nmS (fun s4 es4 => ?_)
      replace h := h s4 es4
      obtain ⟨x5, ex5⟩ : ∃ z : Int32, z = v1 + 1 := ⟨_, rfl⟩
      replace h := h x5 ex5
      refine q_iinc (v := x5) (L' := [(1, .int x5), (0, .ref o)]) 1 hX dX7_keepRoll_38 rfl (by rw [ex5]; rfl) (by decide) rfl ?_
      refine q_goto 18 hX dX7_keepRoll_41 (by decide) ?_
      exact Wg.sub [1, 0] rfl (h)
    )
  refine q_aload_n 0 hX dX7_keepRoll_0 rfl rfl ?_
  refine q_aload_n 0 hX dX7_keepRoll_1 rfl rfl ?_
  refine gf_X7_160 hX h_o dX7_keepRoll_2 ?_
  refine pf_X7_202 hX h_o dX7_keepRoll_5 ?_
  refine Wg.nmS (fun s6 es6 => ?_)
  replace h := h s6 es6
  refine q_aload_n 0 hX dX7_keepRoll_8 rfl rfl ?_
  refine q_aload_n 0 hX dX7_keepRoll_9 rfl rfl ?_
  refine gf_X7_154 hX h_o dX7_keepRoll_10 ?_
  refine pf_X7_205 hX h_o dX7_keepRoll_13 ?_
  refine Wg.nmS (fun s7 es7 => ?_)
  replace h := h s7 es7
  refine q_iconst (v := 0) hX dX7_keepRoll_16 (by decide) ?_
  refine q_istore_n (L' := [(1, .int 0), (0, .ref o)]) hX dX7_keepRoll_17 rfl (by decide) rfl ?_
  exact Wg.sub [1, 0] rfl (h)
set_option maxHeartbeats 4000000 in
set_option maxRecDepth 20000 in
theorem fl_X7_beginBy {d : Nat} {ids : List Nat} {o : Nat} {a0 : Int32} {σ : St} {Q : St → Prop} (h_o : IO ids o 7) (H : ∀ s1 : St, s1 = si σ o 24 a0 → EV d ids Y_X7_empty [.ref o] s1 (fun s2 => Q s2)) : EV (d + 1) ids Y_X7_beginBy [.ref o, .int a0] σ Q := by
  refine E_mk (by decide) (Nat.le_of_ble_eq_true rfl) (fun X hX => ?_)
  replace hX : Cok X ids 2 cX7_beginBy none (d + 1) RX7 := hX
  show Wg X ids 2 _ 0 [(0, .ref o), (1, .int a0)] [] σ
  have h := H
  refine q_aload_n 0 hX dX7_beginBy_0 rfl rfl ?_
  refine q_iload_n 1 hX dX7_beginBy_1 rfl rfl ?_
  refine pf_X7_154 hX h_o dX7_beginBy_2 ?_
  refine Wg.nmS (fun s1 es1 => ?_)
  replace h := h s1 es1
  refine q_aload_n 0 hX dX7_beginBy_5 rfl rfl ?_
  refine cl_X7_236 hX h_o dX7_beginBy_6 (Nat.le_of_ble_eq_true rfl) h (fun s2 h => ?_)
  exact q_vret hX dX7_beginBy_9 ⟨rfl, h⟩
set_option maxHeartbeats 4000000 in
set_option maxRecDepth 20000 in
theorem fl_X7_putBack {d : Nat} {ids : List Nat} {o : Nat} {σ : St} {Q : St → Prop} (h_o : IO ids o 7) (H : ∀ (P15 : Int32 → St → Prop), (∀ (v1 : Int32) (σ : St), ((((gi σ o 40) ≤ v1 → Q σ) ∧ (¬ ((gi σ o 40) ≤ v1) → vp_in v1 8 ∧ EV d ids Y_X7_make [.ref o, .int (gi σ (rf o 39) (Int32.toNatClampNeg v1))] σ (fun s3 => ∀ x4 : Int32, x4 = v1 + 1 → P15 x4 s3)))) → P15 v1 σ) → ∀ s5 : St, s5 = si σ o 25 (-1) → EV d ids Y_X7_beginBy [.ref o, .int (gi s5 o 41)] s5 (fun s6 => P15 0 s6)) : EV (d + 1) ids Y_X7_putBack [.ref o] σ Q := by
  refine E_mk (by decide) (Nat.le_of_ble_eq_true rfl) (fun X hX => ?_)
  replace hX : Cok X ids 2 cX7_putBack none (d + 1) RX7 := hX
  show Wg X ids 2 _ 0 [(0, .ref o)] [] σ
  have h := H (fun (v1 : Int32) (σ : St) => (Wg X ids 2 (fun r σ1 => r = none ∧ Q σ1) 15 [(0, .ref o), (1, .int v1)] [] σ))
  replace h := h (fun v1 σ h => by
    refine q_iload_n 1 hX dX7_putBack_15 rfl rfl ?_
    refine q_aload_n 0 hX dX7_putBack_16 rfl rfl ?_
    refine gf_X7_202 hX h_o dX7_putBack_17 ?_
    refine q_icmp_ge 39 hX dX7_putBack_20 (by decide) (fun c1 => ?_) (fun c1 => ?_)
    · replace h := h.1 c1
      exact q_vret hX dX7_putBack_39 ⟨rfl, h⟩
    · replace h := h.2 c1
      refine q_aload_n 0 hX dX7_putBack_23 rfl rfl ?_
      refine q_aload_n 0 hX dX7_putBack_24 rfl rfl ?_
      refine gf_X7_199 hX h_o dX7_putBack_25 ?_
      refine q_iload_n 1 hX dX7_putBack_28 rfl rfl ?_
      obtain ⟨b2, h⟩ := h
      refine q_iald hX dX7_putBack_29 (rfO_7_39 h_o) b2 ?_
      refine cl_X7_264 hX h_o dX7_putBack_30 (Nat.le_of_ble_eq_true rfl) h (fun s3 h => ?_)
      obtain ⟨x4, ex4⟩ : ∃ z : Int32, z = v1 + 1 := ⟨_, rfl⟩
      replace h := h x4 ex4
      refine q_iinc (v := x4) (L' := [(1, .int x4), (0, .ref o)]) 1 hX dX7_putBack_33 rfl (by rw [ex4]; rfl) (by decide) rfl ?_
      refine q_goto 15 hX dX7_putBack_36 (by decide) ?_
      exact Wg.sub [1, 0] rfl (h)
    )
  refine q_aload_n 0 hX dX7_putBack_0 rfl rfl ?_
  refine q_iconst (v := (-1)) hX dX7_putBack_1 (by decide) ?_
  refine pf_X7_157 hX h_o dX7_putBack_2 ?_
  refine Wg.nmS (fun s5 es5 => ?_)
  replace h := h s5 es5
  refine q_aload_n 0 hX dX7_putBack_5 rfl rfl ?_
  refine q_aload_n 0 hX dX7_putBack_6 rfl rfl ?_
  refine gf_X7_205 hX h_o dX7_putBack_7 ?_
  refine cl_X7_261 hX h_o dX7_putBack_10 (Nat.le_of_ble_eq_true rfl) h (fun s6 h => ?_)
  refine q_iconst (v := 0) hX dX7_putBack_13 (by decide) ?_
  refine q_istore_n (L' := [(1, .int 0), (0, .ref o)]) hX dX7_putBack_14 rfl (by decide) rfl ?_
  exact Wg.sub [1, 0] rfl (h)
set_option maxHeartbeats 4000000 in
set_option maxRecDepth 20000 in
theorem fl_X7_begin {d : Nat} {ids : List Nat} {o : Nat} {a0 : Int32} {σ : St} {Q : Int32 → St → Prop} (h_o : IO ids o 7) (H : EI d ids Y_X7_isRules [.ref o, .int a0] σ (fun x2 s1 => ((¬ x2 = 0 → EV d ids Y_X7_beginBy [.ref o, .int a0] s1 (fun s4 => Q 1 s4)) ∧ (x2 = 0 → Q (-1) s1)))) : EI (d + 1) ids Y_X7_begin [.ref o, .int a0] σ Q := by
  refine E_mk (by decide) (Nat.le_of_ble_eq_true rfl) (fun X hX => ?_)
  replace hX : Cok X ids 2 cX7_begin (some .int) (d + 1) RX7 := hX
  show Wg X ids 2 _ 0 [(0, .ref o), (1, .int a0)] [] σ
  have h := H
  refine q_aload_n 0 hX dX7_begin_0 rfl rfl ?_
  refine q_iload_n 1 hX dX7_begin_1 rfl rfl ?_
  refine cl_X7_267 hX h_o dX7_begin_2 (Nat.le_of_ble_eq_true rfl) h (fun x2 s1 h => ?_)
  refine q_if_ne 10 hX dX7_begin_5 (by decide) (fun c3 => ?_) (fun c3 => ?_)
  · replace h := h.1 c3
    refine q_aload_n 0 hX dX7_begin_10 rfl rfl ?_
    refine q_iload_n 1 hX dX7_begin_11 rfl rfl ?_
    refine cl_X7_261 hX h_o dX7_begin_12 (Nat.le_of_ble_eq_true rfl) h (fun s4 h => ?_)
    refine q_iconst (v := 1) hX dX7_begin_15 (by decide) ?_
    exact q_ret hX dX7_begin_16 ⟨_, rfl, h⟩
  · replace h := h.2 c3
    refine q_iconst (v := (-1)) hX dX7_begin_8 (by decide) ?_
    exact q_ret hX dX7_begin_9 ⟨_, rfl, h⟩
set_option maxHeartbeats 4000000 in
set_option maxRecDepth 20000 in
theorem fl_X7_may {d : Nat} {ids : List Nat} {o : Nat} {a0 : Int32} {σ : St} {Q : Int32 → St → Prop} (h_o : IO ids o 7) (H : EI d ids Y_X7_isPlea [.ref o, .int a0] σ (fun x2 s1 => ((¬ x2 = 0 → EI d ids Y_X7_can [.ref o, .int a0] s1 (fun x5 s4 => ((x5 = 0 → Q 0 s4) ∧ (¬ x5 = 0 → Q 1 s4)))) ∧ (x2 = 0 → Q (-2) s1)))) : EI (d + 1) ids Y_X7_may [.ref o, .int a0] σ Q := by
  refine E_mk (by decide) (Nat.le_of_ble_eq_true rfl) (fun X hX => ?_)
  replace hX : Cok X ids 2 cX7_may (some .int) (d + 1) RX7 := hX
  show Wg X ids 2 _ 0 [(0, .ref o), (1, .int a0)] [] σ
  have h := H
  refine q_aload_n 0 hX dX7_may_0 rfl rfl ?_
  refine q_iload_n 1 hX dX7_may_1 rfl rfl ?_
  refine cl_X7_270 hX h_o dX7_may_2 (Nat.le_of_ble_eq_true rfl) h (fun x2 s1 h => ?_)
  refine q_if_ne 13 hX dX7_may_5 (by decide) (fun c3 => ?_) (fun c3 => ?_)
  · replace h := h.1 c3
    refine q_aload_n 0 hX dX7_may_13 rfl rfl ?_
    refine q_iload_n 1 hX dX7_may_14 rfl rfl ?_
    refine cl_X7_255 hX h_o dX7_may_15 (Nat.le_of_ble_eq_true rfl) h (fun x5 s4 h => ?_)
    refine q_if_eq 25 hX dX7_may_18 (by decide) (fun c6 => ?_) (fun c6 => ?_)
    · replace h := h.1 c6
      refine q_iconst (v := 0) hX dX7_may_25 (by decide) ?_
      exact q_ret hX dX7_may_26 ⟨_, rfl, h⟩
    · replace h := h.2 c6
      refine q_iconst (v := 1) hX dX7_may_21 (by decide) ?_
      refine q_goto 26 hX dX7_may_22 (by decide) ?_
      exact q_ret hX dX7_may_26 ⟨_, rfl, h⟩
  · replace h := h.2 c3
    refine q_bipush (v := (-2)) hX dX7_may_8 (by decide) ?_
    refine q_goto 26 hX dX7_may_10 (by decide) ?_
    exact q_ret hX dX7_may_26 ⟨_, rfl, h⟩
set_option maxHeartbeats 4000000 in
set_option maxRecDepth 20000 in
theorem fl_X7_plead {d : Nat} {ids : List Nat} {o : Nat} {a0 : Int32} {σ : St} {Q : Int32 → St → Prop} (h_o : IO ids o 7) (H : EI d ids Y_X7_isPlea [.ref o, .int a0] σ (fun x2 s1 => ((¬ x2 = 0 → EI d ids Y_X7_can [.ref o, .int a0] s1 (fun x5 s4 => ((¬ x5 = 0 → EV d ids Y_X7_make [.ref o, .int a0] s4 (fun s7 => Q (gi s7 o 26) s7)) ∧ (x5 = 0 → Q (-3) s4)))) ∧ (x2 = 0 → Q (-2) s1)))) : EI (d + 1) ids Y_X7_plead [.ref o, .int a0] σ Q := by
  refine E_mk (by decide) (Nat.le_of_ble_eq_true rfl) (fun X hX => ?_)
  replace hX : Cok X ids 2 cX7_plead (some .int) (d + 1) RX7 := hX
  show Wg X ids 2 _ 0 [(0, .ref o), (1, .int a0)] [] σ
  have h := H
  refine q_aload_n 0 hX dX7_plead_0 rfl rfl ?_
  refine q_iload_n 1 hX dX7_plead_1 rfl rfl ?_
  refine cl_X7_270 hX h_o dX7_plead_2 (Nat.le_of_ble_eq_true rfl) h (fun x2 s1 h => ?_)
  refine q_if_ne 11 hX dX7_plead_5 (by decide) (fun c3 => ?_) (fun c3 => ?_)
  · replace h := h.1 c3
    refine q_aload_n 0 hX dX7_plead_11 rfl rfl ?_
    refine q_iload_n 1 hX dX7_plead_12 rfl rfl ?_
    refine cl_X7_255 hX h_o dX7_plead_13 (Nat.le_of_ble_eq_true rfl) h (fun x5 s4 h => ?_)
    refine q_if_ne 22 hX dX7_plead_16 (by decide) (fun c6 => ?_) (fun c6 => ?_)
    · replace h := h.1 c6
      refine q_aload_n 0 hX dX7_plead_22 rfl rfl ?_
      refine q_iload_n 1 hX dX7_plead_23 rfl rfl ?_
      refine cl_X7_264 hX h_o dX7_plead_24 (Nat.le_of_ble_eq_true rfl) h (fun s7 h => ?_)
      refine q_aload_n 0 hX dX7_plead_27 rfl rfl ?_
      refine gf_X7_160 hX h_o dX7_plead_28 ?_
      exact q_ret hX dX7_plead_31 ⟨_, rfl, h⟩
    · replace h := h.2 c6
      refine q_bipush (v := (-3)) hX dX7_plead_19 (by decide) ?_
      exact q_ret hX dX7_plead_21 ⟨_, rfl, h⟩
  · replace h := h.2 c3
    refine q_bipush (v := (-2)) hX dX7_plead_8 (by decide) ?_
    exact q_ret hX dX7_plead_10 ⟨_, rfl, h⟩
set_option maxHeartbeats 4000000 in
set_option maxRecDepth 20000 in
theorem fl_X7_back {d : Nat} {ids : List Nat} {o : Nat} {σ : St} {Q : Int32 → St → Prop} (h_o : IO ids o 7) (H : ((¬ (gi σ o 26) = 0 → ∀ s2 : St, s2 = si σ o 26 ((gi σ o 26) - 1) → Q (gi s2 o 26) s2) ∧ ((gi σ o 26) = 0 → Q (-3) σ))) : EI (d + 1) ids Y_X7_back [.ref o] σ Q := by
  refine E_mk (by decide) (Nat.le_of_ble_eq_true rfl) (fun X hX => ?_)
  replace hX : Cok X ids 1 cX7_back (some .int) (d + 1) RX7 := hX
  show Wg X ids 1 _ 0 [(0, .ref o)] [] σ
  have h := H
  refine q_aload_n 0 hX dX7_back_0 rfl rfl ?_
  refine gf_X7_160 hX h_o dX7_back_1 ?_
  refine q_if_ne 10 hX dX7_back_4 (by decide) (fun c1 => ?_) (fun c1 => ?_)
  · replace h := h.1 c1
    refine q_aload_n 0 hX dX7_back_10 rfl rfl ?_
    refine q_dup hX dX7_back_11 rfl ?_
    refine gf_X7_160 hX h_o dX7_back_12 ?_
    refine q_iconst (v := 1) hX dX7_back_15 (by decide) ?_
    refine q_isub hX dX7_back_16 ?_
    refine pf_X7_160 hX h_o dX7_back_17 ?_
    refine Wg.nmS (fun s2 es2 => ?_)
    replace h := h s2 es2
    refine q_aload_n 0 hX dX7_back_20 rfl rfl ?_
    refine gf_X7_160 hX h_o dX7_back_21 ?_
    exact q_ret hX dX7_back_24 ⟨_, rfl, h⟩
  · replace h := h.2 c1
    refine q_bipush (v := (-3)) hX dX7_back_7 (by decide) ?_
    exact q_ret hX dX7_back_9 ⟨_, rfl, h⟩
set_option maxHeartbeats 4000000 in
set_option maxRecDepth 20000 in
theorem fl_X7_stands {d : Nat} {ids : List Nat} {o : Nat} {a0 : Int32} {σ : St} {Q : Int32 → St → Prop} (h_o : IO ids o 7) (H : EI d ids Y_X7_in [.ref o, .int a0, .int 10, .int (9 + (gi σ o 26))] σ (fun x2 s1 => ((x2 = 0 → ((a0 = 0 → vp_in (gi s1 o 26) 8 ∧ Q (gi s1 (rf o 29) (Int32.toNatClampNeg (gi s1 o 26))) s1) ∧ (a0 = 1 → vp_in (gi s1 o 26) 8 ∧ Q (gi s1 (rf o 30) (Int32.toNatClampNeg (gi s1 o 26))) s1) ∧ (a0 = 2 → vp_in (gi s1 o 26) 8 ∧ Q (gi s1 (rf o 31) (Int32.toNatClampNeg (gi s1 o 26))) s1) ∧ (a0 = 3 → vp_in (gi s1 o 26) 8 ∧ (((gi s1 (rf o 36) (Int32.toNatClampNeg (gi s1 o 26))) = 0 → Q 0 s1) ∧ (¬ (gi s1 (rf o 36) (Int32.toNatClampNeg (gi s1 o 26))) = 0 → Q 1 s1))) ∧ (a0 = 4 → EI d ids Y_X7_endSort [.ref o] s1 (fun x11 s10 => Q x11 s10)) ∧ (¬ a0 = 0 → ¬ a0 = 1 → ¬ a0 = 2 → ¬ a0 = 3 → ¬ a0 = 4 → Q (-1) s1))) ∧ (¬ x2 = 0 → vp_in (a0 - 10) 8 ∧ Q (gi s1 (rf o 27) (Int32.toNatClampNeg (a0 - 10))) s1)))) : EI (d + 1) ids Y_X7_stands [.ref o, .int a0] σ Q := by
  refine E_mk (by decide) (Nat.le_of_ble_eq_true rfl) (fun X hX => ?_)
  replace hX : Cok X ids 2 cX7_stands (some .int) (d + 1) RX7 := hX
  show Wg X ids 2 _ 0 [(0, .ref o), (1, .int a0)] [] σ
  have h := H
  refine q_aload_n 0 hX dX7_stands_0 rfl rfl ?_
  refine q_iload_n 1 hX dX7_stands_1 rfl rfl ?_
  refine q_bipush (v := 10) hX dX7_stands_2 (by decide) ?_
  refine q_bipush (v := 9) hX dX7_stands_4 (by decide) ?_
  refine q_aload_n 0 hX dX7_stands_6 rfl rfl ?_
  refine gf_X7_160 hX h_o dX7_stands_7 ?_
  refine q_iadd hX dX7_stands_10 ?_
  refine cl_X7_1 hX h_o dX7_stands_11 (Nat.le_of_ble_eq_true rfl) h (fun x2 s1 h => ?_)
  refine q_if_eq 27 hX dX7_stands_14 (by decide) (fun c3 => ?_) (fun c3 => ?_)
  · replace h := h.1 c3
    refine q_iload_n 1 hX dX7_stands_27 rfl rfl ?_
    by_cases c4_0 : a0 = 0
    · refine q_tableIn (off := 36) 64 hX dX7_stands_28 (by rw [c4_0]; decide) (by rw [c4_0]; decide) (by first | (rw [c4_0]; done) | (rw [c4_0]; rfl)) (by decide) ?_
      replace h := h.1 c4_0
      refine q_aload_n 0 hX dX7_stands_64 rfl rfl ?_
      refine gf_X7_169 hX h_o dX7_stands_65 ?_
      refine q_aload_n 0 hX dX7_stands_68 rfl rfl ?_
      refine gf_X7_160 hX h_o dX7_stands_69 ?_
      obtain ⟨b5, h⟩ := h
      refine q_iald hX dX7_stands_72 (rfO_7_29 h_o) b5 ?_
      exact q_ret hX dX7_stands_73 ⟨_, rfl, h⟩
    by_cases c4_1 : a0 = 1
    · refine q_tableIn (off := 46) 74 hX dX7_stands_28 (by rw [c4_1]; decide) (by rw [c4_1]; decide) (by first | (rw [c4_1]; done) | (rw [c4_1]; rfl)) (by decide) ?_
      replace h := h.2.1 c4_1
      refine q_aload_n 0 hX dX7_stands_74 rfl rfl ?_
      refine gf_X7_172 hX h_o dX7_stands_75 ?_
      refine q_aload_n 0 hX dX7_stands_78 rfl rfl ?_
      refine gf_X7_160 hX h_o dX7_stands_79 ?_
      obtain ⟨b6, h⟩ := h
      refine q_iald hX dX7_stands_82 (rfO_7_30 h_o) b6 ?_
      exact q_ret hX dX7_stands_83 ⟨_, rfl, h⟩
    by_cases c4_2 : a0 = 2
    · refine q_tableIn (off := 56) 84 hX dX7_stands_28 (by rw [c4_2]; decide) (by rw [c4_2]; decide) (by first | (rw [c4_2]; done) | (rw [c4_2]; rfl)) (by decide) ?_
      replace h := h.2.2.1 c4_2
      refine q_aload_n 0 hX dX7_stands_84 rfl rfl ?_
      refine gf_X7_175 hX h_o dX7_stands_85 ?_
      refine q_aload_n 0 hX dX7_stands_88 rfl rfl ?_
      refine gf_X7_160 hX h_o dX7_stands_89 ?_
      obtain ⟨b7, h⟩ := h
      refine q_iald hX dX7_stands_92 (rfO_7_31 h_o) b7 ?_
      exact q_ret hX dX7_stands_93 ⟨_, rfl, h⟩
    by_cases c4_3 : a0 = 3
    · refine q_tableIn (off := 66) 94 hX dX7_stands_28 (by rw [c4_3]; decide) (by rw [c4_3]; decide) (by first | (rw [c4_3]; done) | (rw [c4_3]; rfl)) (by decide) ?_
      replace h := h.2.2.2.1 c4_3
      refine q_aload_n 0 hX dX7_stands_94 rfl rfl ?_
      refine gf_X7_190 hX h_o dX7_stands_95 ?_
      refine q_aload_n 0 hX dX7_stands_98 rfl rfl ?_
      refine gf_X7_160 hX h_o dX7_stands_99 ?_
      obtain ⟨b8, h⟩ := h
      refine q_zald hX dX7_stands_102 (rfO_7_36 h_o) b8 ?_
      refine q_if_eq 110 hX dX7_stands_103 (by decide) (fun c9 => ?_) (fun c9 => ?_)
      · replace h := h.1 c9
        refine q_iconst (v := 0) hX dX7_stands_110 (by decide) ?_
        exact q_ret hX dX7_stands_111 ⟨_, rfl, h⟩
      · replace h := h.2 c9
        refine q_iconst (v := 1) hX dX7_stands_106 (by decide) ?_
        refine q_goto 111 hX dX7_stands_107 (by decide) ?_
        exact q_ret hX dX7_stands_111 ⟨_, rfl, h⟩
    by_cases c4_4 : a0 = 4
    · refine q_tableIn (off := 84) 112 hX dX7_stands_28 (by rw [c4_4]; decide) (by rw [c4_4]; decide) (by first | (rw [c4_4]; done) | (rw [c4_4]; rfl)) (by decide) ?_
      replace h := h.2.2.2.2.1 c4_4
      refine q_aload_n 0 hX dX7_stands_112 rfl rfl ?_
      refine cl_X7_273 hX h_o dX7_stands_113 (Nat.le_of_ble_eq_true rfl) h (fun x11 s10 h => ?_)
      exact q_ret hX dX7_stands_116 ⟨_, rfl, h⟩
    refine q_tableOut 117 hX dX7_stands_28 (by have e0 := ne_toInt (k := 0) c4_0 (by decide); have e1 := ne_toInt (k := 1) c4_1 (by decide); have e2 := ne_toInt (k := 2) c4_2 (by decide); have e3 := ne_toInt (k := 3) c4_3 (by decide); have e4 := ne_toInt (k := 4) c4_4 (by decide); omega) (by decide) ?_
    replace h := h.2.2.2.2.2 c4_0 c4_1 c4_2 c4_3 c4_4
    refine q_iconst (v := (-1)) hX dX7_stands_117 (by decide) ?_
    exact q_ret hX dX7_stands_118 ⟨_, rfl, h⟩
  · replace h := h.2 c3
    refine q_aload_n 0 hX dX7_stands_17 rfl rfl ?_
    refine gf_X7_163 hX h_o dX7_stands_18 ?_
    refine q_iload_n 1 hX dX7_stands_21 rfl rfl ?_
    refine q_bipush (v := 10) hX dX7_stands_22 (by decide) ?_
    refine q_isub hX dX7_stands_24 ?_
    obtain ⟨b12, h⟩ := h
    refine q_iald hX dX7_stands_25 (rfO_7_27 h_o) b12 ?_
    exact q_ret hX dX7_stands_26 ⟨_, rfl, h⟩
set_option maxHeartbeats 4000000 in
set_option maxRecDepth 20000 in
theorem fl_X7_nextEnd {d : Nat} {ids : List Nat} {o : Nat} {a0 : Int32} {a1 : Int32} {σ : St} {Q : Int32 → St → Prop} (h_o : IO ids o 7) (H : ∀ (P13 : Int32 → St → Prop) (P27 : Int32 → St → Prop) (P41 : Int32 → St → Prop), (∀ (v3 : Int32) (σ : St), (((¬ a1 = 0 → P27 v3 σ) ∧ (a1 = 0 → ((¬ (gi σ o 26) = a0 → P27 v3 σ) ∧ ((gi σ o 26) = a0 → Q 0 σ))))) → P13 v3 σ) → (∀ (v3 : Int32) (σ : St), (((¬ a1 = 0 → P41 v3 σ) ∧ (a1 = 0 → ∀ s4 : St, s4 = si σ o 26 ((gi σ o 26) - 1) → P41 v3 s4))) → P27 v3 σ) → (∀ (v3 : Int32) (σ : St), (vp_in (gi σ o 26) 8 ∧ EI d ids Y_X7_nextMay [.ref o, .int (gi σ (rf o 42) (Int32.toNatClampNeg (gi σ o 26)))] σ (fun x7 s6 => ((14 ≤ x7 → ((v3 = 0 → ((¬ (gi s6 o 26) = a0 → ∀ s11 : St, s11 = si s6 o 26 ((gi s6 o 26) - 1) → P41 v3 s11) ∧ ((gi s6 o 26) = a0 → Q 0 s6))) ∧ (¬ v3 = 0 → Q 1 s6))) ∧ (¬ (14 ≤ x7) → vp_in (gi s6 o 26) 8 ∧ ∀ s13 : St, s13 = si s6 (rf o 42) (Int32.toNatClampNeg (gi s6 o 26)) (x7 + 1) → vp_in x7 14 ∧ EV d ids Y_X7_make [.ref o, .int (gi s13 (rf o 38) (Int32.toNatClampNeg x7))] s13 (fun s15 => vp_in (gi s15 o 26) 8 ∧ ∀ s17 : St, s17 = si s15 (rf o 42) (Int32.toNatClampNeg (gi s15 o 26)) 0 → P41 1 s17))))) → P41 v3 σ) → ((a1 = 0 → P13 a1 σ) ∧ (¬ a1 = 0 → vp_in a0 8 ∧ ∀ s20 : St, s20 = si σ (rf o 42) (Int32.toNatClampNeg a0) 0 → P13 a1 s20))) : EI (d + 1) ids Y_X7_nextEnd [.ref o, .int a0, .int a1] σ Q := by
  refine E_mk (by decide) (Nat.le_of_ble_eq_true rfl) (fun X hX => ?_)
  replace hX : Cok X ids 5 cX7_nextEnd (some .boolean) (d + 1) RX7 := hX
  show Wg X ids 5 _ 0 [(0, .ref o), (1, .int a0), (2, .int a1)] [] σ
  have h := H (fun (v3 : Int32) (σ : St) => (Wg X ids 5 (fun r σ1 => ∃ x, r = some (Value.int x) ∧ Q x σ1) 13 [(0, .ref o), (1, .int a0), (2, .int a1), (3, .int v3)] [] σ)) (fun (v3 : Int32) (σ : St) => (Wg X ids 5 (fun r σ1 => ∃ x, r = some (Value.int x) ∧ Q x σ1) 27 [(0, .ref o), (1, .int a0), (2, .int a1), (3, .int v3)] [] σ)) (fun (v3 : Int32) (σ : St) => (Wg X ids 5 (fun r σ1 => ∃ x, r = some (Value.int x) ∧ Q x σ1) 41 [(0, .ref o), (1, .int a0), (3, .int v3)] [] σ))
  replace h := h (fun v3 σ h => by
    refine q_iload_n 2 hX dX7_nextEnd_13 rfl rfl ?_
    refine q_if_ne 27 hX dX7_nextEnd_14 (by decide) (fun c1 => ?_) (fun c1 => ?_)
    · replace h := h.1 c1
      exact Wg.sub [0, 1, 2, 3] rfl (h)
    · replace h := h.2 c1
      refine q_aload_n 0 hX dX7_nextEnd_17 rfl rfl ?_
      refine gf_X7_160 hX h_o dX7_nextEnd_18 ?_
      refine q_iload_n 1 hX dX7_nextEnd_21 rfl rfl ?_
      refine q_icmp_ne 27 hX dX7_nextEnd_22 (by decide) (fun c2 => ?_) (fun c2 => ?_)
      · replace h := h.1 c2
        exact Wg.sub [0, 1, 2, 3] rfl (h)
      · replace h := h.2 c2
        refine q_iconst (v := 0) hX dX7_nextEnd_25 (by decide) ?_
        exact q_zret hX dX7_nextEnd_26 (by decide) ⟨_, rfl, h⟩
    )
  replace h := h (fun v3 σ h => by
    refine q_iload_n 2 hX dX7_nextEnd_27 rfl rfl ?_
    refine q_if_ne 41 hX dX7_nextEnd_28 (by decide) (fun c3 => ?_) (fun c3 => ?_)
    · replace h := h.1 c3
      exact Wg.sub [0, 1, 3] rfl (h)
    · replace h := h.2 c3
      refine q_aload_n 0 hX dX7_nextEnd_31 rfl rfl ?_
      refine q_dup hX dX7_nextEnd_32 rfl ?_
      refine gf_X7_160 hX h_o dX7_nextEnd_33 ?_
      refine q_iconst (v := 1) hX dX7_nextEnd_36 (by decide) ?_
      refine q_isub hX dX7_nextEnd_37 ?_
      refine pf_X7_160 hX h_o dX7_nextEnd_38 ?_
      refine Wg.nmS (fun s4 es4 => ?_)
      replace h := h s4 es4
      exact Wg.sub [0, 1, 3] rfl (h)
    )
  replace h := h (fun v3 σ h => by
    refine q_aload_n 0 hX dX7_nextEnd_41 rfl rfl ?_
    refine q_aload_n 0 hX dX7_nextEnd_42 rfl rfl ?_
    refine gf_X7_208 hX h_o dX7_nextEnd_43 ?_
    refine q_aload_n 0 hX dX7_nextEnd_46 rfl rfl ?_
    refine gf_X7_160 hX h_o dX7_nextEnd_47 ?_
    obtain ⟨b5, h⟩ := h
    refine q_iald hX dX7_nextEnd_50 (rfO_7_42 h_o) b5 ?_
    refine cl_X7_258 hX h_o dX7_nextEnd_51 (Nat.le_of_ble_eq_true rfl) h (fun x7 s6 h => ?_)
    refine q_istore (L' := [(4, .int x7), (0, .ref o), (1, .int a0), (3, .int v3)]) hX dX7_nextEnd_54 (by decide) rfl ?_
    refine q_iload 0 hX dX7_nextEnd_56 rfl ?_
    refine q_bipush (v := 14) hX dX7_nextEnd_58 (by decide) ?_
    refine q_icmp_ge 102 hX dX7_nextEnd_60 (by decide) (fun c8 => ?_) (fun c8 => ?_)
    · replace h := h.1 c8
      refine q_iload_n 3 hX dX7_nextEnd_102 rfl rfl ?_
      refine q_if_eq 108 hX dX7_nextEnd_103 (by decide) (fun c9 => ?_) (fun c9 => ?_)
      · replace h := h.1 c9
        refine q_aload_n 1 hX dX7_nextEnd_108 rfl rfl ?_
        refine gf_X7_160 hX h_o dX7_nextEnd_109 ?_
        refine q_iload_n 2 hX dX7_nextEnd_112 rfl rfl ?_
        refine q_icmp_ne 118 hX dX7_nextEnd_113 (by decide) (fun c10 => ?_) (fun c10 => ?_)
        · replace h := h.1 c10
          refine q_aload_n 1 hX dX7_nextEnd_118 rfl rfl ?_
          refine q_dup hX dX7_nextEnd_119 rfl ?_
          refine gf_X7_160 hX h_o dX7_nextEnd_120 ?_
          refine q_iconst (v := 1) hX dX7_nextEnd_123 (by decide) ?_
          refine q_isub hX dX7_nextEnd_124 ?_
          refine pf_X7_160 hX h_o dX7_nextEnd_125 ?_
          refine Wg.nmS (fun s11 es11 => ?_)
          replace h := h s11 es11
          refine q_goto 41 hX dX7_nextEnd_128 (by decide) ?_
          exact Wg.sub [1, 2, 3] rfl (h)
        · replace h := h.2 c10
          refine q_iconst (v := 0) hX dX7_nextEnd_116 (by decide) ?_
          exact q_zret hX dX7_nextEnd_117 (by decide) ⟨_, rfl, h⟩
      · replace h := h.2 c9
        refine q_iconst (v := 1) hX dX7_nextEnd_106 (by decide) ?_
        exact q_zret hX dX7_nextEnd_107 (by decide) ⟨_, rfl, h⟩
    · replace h := h.2 c8
      refine q_aload_n 1 hX dX7_nextEnd_63 rfl rfl ?_
      refine gf_X7_208 hX h_o dX7_nextEnd_64 ?_
      refine q_aload_n 1 hX dX7_nextEnd_67 rfl rfl ?_
      refine gf_X7_160 hX h_o dX7_nextEnd_68 ?_
      refine q_iload 0 hX dX7_nextEnd_71 rfl ?_
      refine q_iconst (v := 1) hX dX7_nextEnd_73 (by decide) ?_
      refine q_iadd hX dX7_nextEnd_74 ?_
      obtain ⟨b12, h⟩ := h
      refine q_iast hX dX7_nextEnd_75 (rfO_7_42 h_o) b12 ?_
      refine Wg.nmS (fun s13 es13 => ?_)
      replace h := h s13 es13
      refine q_aload_n 1 hX dX7_nextEnd_76 rfl rfl ?_
      refine q_aload_n 1 hX dX7_nextEnd_77 rfl rfl ?_
      refine gf_X7_196 hX h_o dX7_nextEnd_78 ?_
      refine q_iload 0 hX dX7_nextEnd_81 rfl ?_
      obtain ⟨b14, h⟩ := h
      refine q_iald hX dX7_nextEnd_83 (rfO_7_38 h_o) b14 ?_
      refine cl_X7_264 hX h_o dX7_nextEnd_84 (Nat.le_of_ble_eq_true rfl) h (fun s15 h => ?_)
      refine q_aload_n 1 hX dX7_nextEnd_87 rfl rfl ?_
      refine gf_X7_208 hX h_o dX7_nextEnd_88 ?_
      refine q_aload_n 1 hX dX7_nextEnd_91 rfl rfl ?_
      refine gf_X7_160 hX h_o dX7_nextEnd_92 ?_
      refine q_iconst (v := 0) hX dX7_nextEnd_95 (by decide) ?_
      obtain ⟨b16, h⟩ := h
      refine q_iast hX dX7_nextEnd_96 (rfO_7_42 h_o) b16 ?_
      refine Wg.nmS (fun s17 es17 => ?_)
      replace h := h s17 es17
      refine q_iconst (v := 1) hX dX7_nextEnd_97 (by decide) ?_
      refine q_istore_n (L' := [(3, .int 1), (4, .int x7), (0, .ref o), (1, .int a0)]) hX dX7_nextEnd_98 rfl (by decide) rfl ?_
      refine q_goto 41 hX dX7_nextEnd_99 (by decide) ?_
      exact Wg.sub [2, 3, 0] rfl (h)
    )
  refine q_iload_n 2 hX dX7_nextEnd_0 rfl rfl ?_
  refine q_istore_n (L' := [(3, .int a1), (0, .ref o), (1, .int a0), (2, .int a1)]) hX dX7_nextEnd_1 rfl (by decide) rfl ?_
  refine q_iload_n 3 hX dX7_nextEnd_2 rfl rfl ?_
  refine q_if_eq 13 hX dX7_nextEnd_3 (by decide) (fun c18 => ?_) (fun c18 => ?_)
  · replace h := h.1 c18
    exact Wg.sub [1, 2, 3, 0] rfl (h)
  · replace h := h.2 c18
    refine q_aload_n 1 hX dX7_nextEnd_6 rfl rfl ?_
    refine gf_X7_208 hX h_o dX7_nextEnd_7 ?_
    refine q_iload_n 2 hX dX7_nextEnd_10 rfl rfl ?_
    refine q_iconst (v := 0) hX dX7_nextEnd_11 (by decide) ?_
    obtain ⟨b19, h⟩ := h
    refine q_iast hX dX7_nextEnd_12 (rfO_7_42 h_o) b19 ?_
    refine Wg.nmS (fun s20 es20 => ?_)
    replace h := h s20 es20
    exact Wg.sub [1, 2, 3, 0] rfl (h)
set_option maxHeartbeats 4000000 in
set_option maxRecDepth 20000 in
theorem fl_X7_ends {d : Nat} {ids : List Nat} {o : Nat} {a0 : Int32} {σ : St} {Q : Int32 → St → Prop} (h_o : IO ids o 7) (H : ∀ (P28 : St → Prop) (P43 : Int32 → Int32 → Int32 → St → Prop) (P61 : Int32 → Int32 → St → Prop) (P66 : Int32 → Int32 → Int32 → St → Prop), (∀ (σ : St), (∀ x1 : Int32, x1 = (gi σ o 26) → EI d ids Y_X7_nextEnd [.ref o, .int x1, .int 1] σ (fun x3 s2 => P43 x1 0 x3 s2)) → P28 σ) → (∀ (v2 : Int32) (v3 : Int32) (v4 : Int32) (σ : St), (((v4 = 0 → Q v3 σ) ∧ (¬ v4 = 0 → ((a0 = 0 → P61 v2 v3 σ) ∧ (¬ a0 = 0 → EI d ids Y_X7_endSort [.ref o] σ (fun x7 s6 => ((¬ x7 = a0 → P66 v2 0 v3 s6) ∧ (x7 = a0 → P61 v2 v3 s6)))))))) → P43 v2 v3 v4 σ) → (∀ (v2 : Int32) (t0 : Int32) (σ : St), (P66 v2 1 t0 σ) → P61 v2 t0 σ) → (∀ (v2 : Int32) (t0 : Int32) (t1 : Int32) (σ : St), (∀ x9 : Int32, x9 = (t1 + t0) → EI d ids Y_X7_nextEnd [.ref o, .int v2, .int 0] σ (fun x11 s10 => P43 v2 x9 x11 s10)) → P66 v2 t0 t1 σ) → EI d ids Y_X7_in [.ref o, .int a0, .int 0, .int 1] σ (fun x13 s12 => ((¬ x13 = 0 → P28 s12) ∧ (x13 = 0 → ((a0 = 3 → P28 s12) ∧ (¬ a0 = 3 → ((a0 = 4 → P28 s12) ∧ (¬ a0 = 4 → ((a0 = 7 → P28 s12) ∧ (¬ a0 = 7 → Q (-1) s12)))))))))) : EI (d + 1) ids Y_X7_ends [.ref o, .int a0] σ Q := by
  refine E_mk (by decide) (Nat.le_of_ble_eq_true rfl) (fun X hX => ?_)
  replace hX : Cok X ids 5 cX7_ends (some .int) (d + 1) RX7 := hX
  show Wg X ids 5 _ 0 [(0, .ref o), (1, .int a0)] [] σ
  have h := H (fun (σ : St) => (Wg X ids 5 (fun r σ1 => ∃ x, r = some (Value.int x) ∧ Q x σ1) 28 [(0, .ref o), (1, .int a0)] [] σ)) (fun (v2 : Int32) (v3 : Int32) (v4 : Int32) (σ : St) => (Wg X ids 5 (fun r σ1 => ∃ x, r = some (Value.int x) ∧ Q x σ1) 43 [(0, .ref o), (1, .int a0), (2, .int v2), (3, .int v3), (4, .int v4)] [] σ)) (fun (v2 : Int32) (t0 : Int32) (σ : St) => (Wg X ids 5 (fun r σ1 => ∃ x, r = some (Value.int x) ∧ Q x σ1) 61 [(0, .ref o), (1, .int a0), (2, .int v2)] [.int t0] σ)) (fun (v2 : Int32) (t0 : Int32) (t1 : Int32) (σ : St) => (Wg X ids 5 (fun r σ1 => ∃ x, r = some (Value.int x) ∧ Q x σ1) 66 [(0, .ref o), (1, .int a0), (2, .int v2)] [.int t0, .int t1] σ))
  replace h := h (fun σ h => by
    refine q_aload_n 0 hX dX7_ends_28 rfl rfl ?_
    refine gf_X7_160 hX h_o dX7_ends_29 ?_
    refine Wg.nmI (fun x1 ex1 => ?_)
    replace h := h x1 ex1
    refine q_istore_n (L' := [(2, .int x1), (0, .ref o), (1, .int a0)]) hX dX7_ends_32 rfl (by decide) rfl ?_
    refine q_iconst (v := 0) hX dX7_ends_33 (by decide) ?_
    refine q_istore_n (L' := [(3, .int 0), (2, .int x1), (0, .ref o), (1, .int a0)]) hX dX7_ends_34 rfl (by decide) rfl ?_
    refine q_aload_n 2 hX dX7_ends_35 rfl rfl ?_
    refine q_iload_n 1 hX dX7_ends_36 rfl rfl ?_
    refine q_iconst (v := 1) hX dX7_ends_37 (by decide) ?_
    refine cl_X7_276 hX h_o dX7_ends_38 (Nat.le_of_ble_eq_true rfl) h (fun x3 s2 h => ?_)
    refine q_istore (L' := [(4, .int x3), (3, .int 0), (2, .int x1), (0, .ref o), (1, .int a0)]) hX dX7_ends_41 (by decide) rfl ?_
    exact Wg.sub [3, 4, 2, 1, 0] rfl (h)
    )
  replace h := h (fun v2 v3 v4 σ h => by
    refine q_iload 4 hX dX7_ends_43 rfl ?_
    refine q_if_eq 79 hX dX7_ends_45 (by decide) (fun c4 => ?_) (fun c4 => ?_)
    · replace h := h.1 c4
      refine q_iload_n 3 hX dX7_ends_79 rfl rfl ?_
      exact q_ret hX dX7_ends_80 ⟨_, rfl, h⟩
    · replace h := h.2 c4
      refine q_iload_n 3 hX dX7_ends_48 rfl rfl ?_
      refine q_iload_n 1 hX dX7_ends_49 rfl rfl ?_
      refine q_if_eq 61 hX dX7_ends_50 (by decide) (fun c5 => ?_) (fun c5 => ?_)
      · replace h := h.1 c5
        exact Wg.sub [0, 1, 2] rfl (h)
      · replace h := h.2 c5
        refine q_aload_n 0 hX dX7_ends_53 rfl rfl ?_
        refine cl_X7_273 hX h_o dX7_ends_54 (Nat.le_of_ble_eq_true rfl) h (fun x7 s6 h => ?_)
        refine q_iload_n 1 hX dX7_ends_57 rfl rfl ?_
        refine q_icmp_ne 65 hX dX7_ends_58 (by decide) (fun c8 => ?_) (fun c8 => ?_)
        · replace h := h.1 c8
          refine q_iconst (v := 0) hX dX7_ends_65 (by decide) ?_
          exact Wg.sub [0, 1, 2] rfl (h)
        · replace h := h.2 c8
          exact Wg.sub [0, 1, 2] rfl (h)
    )
  replace h := h (fun v2 t0 σ h => by
    refine q_iconst (v := 1) hX dX7_ends_61 (by decide) ?_
    refine q_goto 66 hX dX7_ends_62 (by decide) ?_
    exact Wg.sub [0, 1, 2] rfl (h)
    )
  replace h := h (fun v2 t0 t1 σ h => by
    refine q_iadd hX dX7_ends_66 ?_
    refine Wg.nmI (fun x9 ex9 => ?_)
    replace h := h x9 ex9
    refine q_istore_n (L' := [(3, .int x9), (0, .ref o), (1, .int a0), (2, .int v2)]) hX dX7_ends_67 rfl (by decide) rfl ?_
    refine q_aload_n 1 hX dX7_ends_68 rfl rfl ?_
    refine q_iload_n 3 hX dX7_ends_69 rfl rfl ?_
    refine q_iconst (v := 0) hX dX7_ends_70 (by decide) ?_
    refine cl_X7_276 hX h_o dX7_ends_71 (Nat.le_of_ble_eq_true rfl) h (fun x11 s10 h => ?_)
    refine q_istore (L' := [(4, .int x11), (3, .int x9), (0, .ref o), (1, .int a0), (2, .int v2)]) hX dX7_ends_74 (by decide) rfl ?_
    refine q_goto 43 hX dX7_ends_76 (by decide) ?_
    exact Wg.sub [2, 3, 4, 1, 0] rfl (h)
    )
  refine q_aload_n 0 hX dX7_ends_0 rfl rfl ?_
  refine q_iload_n 1 hX dX7_ends_1 rfl rfl ?_
  refine q_iconst (v := 0) hX dX7_ends_2 (by decide) ?_
  refine q_iconst (v := 1) hX dX7_ends_3 (by decide) ?_
  refine cl_X7_1 hX h_o dX7_ends_4 (Nat.le_of_ble_eq_true rfl) h (fun x13 s12 h => ?_)
  refine q_if_ne 28 hX dX7_ends_7 (by decide) (fun c14 => ?_) (fun c14 => ?_)
  · replace h := h.1 c14
    exact Wg.sub [0, 1] rfl (h)
  · replace h := h.2 c14
    refine q_iload_n 1 hX dX7_ends_10 rfl rfl ?_
    refine q_iconst (v := 3) hX dX7_ends_11 (by decide) ?_
    refine q_icmp_eq 28 hX dX7_ends_12 (by decide) (fun c15 => ?_) (fun c15 => ?_)
    · replace h := h.1 c15
      exact Wg.sub [0, 1] rfl (h)
    · replace h := h.2 c15
      refine q_iload_n 1 hX dX7_ends_15 rfl rfl ?_
      refine q_iconst (v := 4) hX dX7_ends_16 (by decide) ?_
      refine q_icmp_eq 28 hX dX7_ends_17 (by decide) (fun c16 => ?_) (fun c16 => ?_)
      · replace h := h.1 c16
        exact Wg.sub [0, 1] rfl (h)
      · replace h := h.2 c16
        refine q_iload_n 1 hX dX7_ends_20 rfl rfl ?_
        refine q_bipush (v := 7) hX dX7_ends_21 (by decide) ?_
        refine q_icmp_eq 28 hX dX7_ends_23 (by decide) (fun c17 => ?_) (fun c17 => ?_)
        · replace h := h.1 c17
          exact Wg.sub [0, 1] rfl (h)
        · replace h := h.2 c17
          refine q_iconst (v := (-1)) hX dX7_ends_26 (by decide) ?_
          exact q_ret hX dX7_ends_27 ⟨_, rfl, h⟩
set_option maxHeartbeats 4000000 in
set_option maxRecDepth 20000 in
theorem fl_X7_row {d : Nat} {ids : List Nat} {o : Nat} {a0 : Int32} {a1 : Int32} {σ : St} {Q : Int32 → St → Prop} (h_o : IO ids o 7) (H : ∀ (P19 : Int32 → Int32 → Int32 → Int32 → St → Prop) (P69 : Int32 → Int32 → St → Prop) (P70 : Int32 → Int32 → Int32 → St → Prop) (P72 : Int32 → Int32 → Int32 → St → Prop), (∀ (v3 : Int32) (v4 : Int32) (v5 : Int32) (v6 : Int32) (σ : St), (((v6 = 0 → Q v5 σ) ∧ (¬ v6 = 0 → ((¬ v4 = a0 → P72 v3 v4 v5 σ) ∧ (v4 = a0 → ((¬ a1 = (-1) → ((a1 < 0 → P69 v3 v4 σ) ∧ (¬ (a1 < 0) → ((((gi σ o 26) - v3) ≤ a1 → P69 v3 v4 σ) ∧ (¬ (((gi σ o 26) - v3) ≤ a1) → vp_in (v3 + a1) 8 ∧ P70 v3 v4 (gi σ (rf o 27) (Int32.toNatClampNeg (v3 + a1))) σ))))) ∧ (a1 = (-1) → P70 v3 v4 ((gi σ o 26) - v3) σ))))))) → P19 v3 v4 v5 v6 σ) → (∀ (v3 : Int32) (v4 : Int32) (σ : St), (P70 v3 v4 (-1) σ) → P69 v3 v4 σ) → (∀ (v3 : Int32) (v4 : Int32) (t0 : Int32) (σ : St), (P72 v3 v4 t0 σ) → P70 v3 v4 t0 σ) → (∀ (v3 : Int32) (v4 : Int32) (v5 : Int32) (σ : St), (∀ x7 : Int32, x7 = v4 + 1 → EI d ids Y_X7_nextEnd [.ref o, .int v3, .int 0] σ (fun x9 s8 => P19 v3 x7 v5 x9 s8)) → P72 v3 v4 v5 σ) → ∀ x10 : Int32, x10 = (gi σ o 26) → EI d ids Y_X7_nextEnd [.ref o, .int x10, .int 1] σ (fun x12 s11 => P19 x10 0 (-1) x12 s11)) : EI (d + 1) ids Y_X7_row [.ref o, .int a0, .int a1] σ Q := by
  refine E_mk (by decide) (Nat.le_of_ble_eq_true rfl) (fun X hX => ?_)
  replace hX : Cok X ids 7 cX7_row (some .int) (d + 1) RX7 := hX
  show Wg X ids 7 _ 0 [(0, .ref o), (1, .int a0), (2, .int a1)] [] σ
  have h := H (fun (v3 : Int32) (v4 : Int32) (v5 : Int32) (v6 : Int32) (σ : St) => (Wg X ids 7 (fun r σ1 => ∃ x, r = some (Value.int x) ∧ Q x σ1) 19 [(0, .ref o), (1, .int a0), (2, .int a1), (3, .int v3), (4, .int v4), (5, .int v5), (6, .int v6)] [] σ)) (fun (v3 : Int32) (v4 : Int32) (σ : St) => (Wg X ids 7 (fun r σ1 => ∃ x, r = some (Value.int x) ∧ Q x σ1) 69 [(0, .ref o), (1, .int a0), (2, .int a1), (3, .int v3), (4, .int v4)] [] σ)) (fun (v3 : Int32) (v4 : Int32) (t0 : Int32) (σ : St) => (Wg X ids 7 (fun r σ1 => ∃ x, r = some (Value.int x) ∧ Q x σ1) 70 [(0, .ref o), (1, .int a0), (2, .int a1), (3, .int v3), (4, .int v4)] [.int t0] σ)) (fun (v3 : Int32) (v4 : Int32) (v5 : Int32) (σ : St) => (Wg X ids 7 (fun r σ1 => ∃ x, r = some (Value.int x) ∧ Q x σ1) 72 [(0, .ref o), (1, .int a0), (2, .int a1), (3, .int v3), (4, .int v4), (5, .int v5)] [] σ))
  replace h := h (fun v3 v4 v5 v6 σ h => by
    refine q_iload 6 hX dX7_row_19 rfl ?_
    refine q_if_eq 86 hX dX7_row_21 (by decide) (fun c1 => ?_) (fun c1 => ?_)
    · replace h := h.1 c1
      refine q_iload 5 hX dX7_row_86 rfl ?_
      exact q_ret hX dX7_row_88 ⟨_, rfl, h⟩
    · replace h := h.2 c1
      refine q_iload 4 hX dX7_row_24 rfl ?_
      refine q_iload_n 1 hX dX7_row_26 rfl rfl ?_
      refine q_icmp_ne 72 hX dX7_row_27 (by decide) (fun c2 => ?_) (fun c2 => ?_)
      · replace h := h.1 c2
        exact Wg.sub [0, 1, 2, 3, 4, 5] rfl (h)
      · replace h := h.2 c2
        refine q_iload_n 2 hX dX7_row_30 rfl rfl ?_
        refine q_iconst (v := (-1)) hX dX7_row_31 (by decide) ?_
        refine q_icmp_ne 44 hX dX7_row_32 (by decide) (fun c3 => ?_) (fun c3 => ?_)
        · replace h := h.1 c3
          refine q_iload_n 2 hX dX7_row_44 rfl rfl ?_
          refine q_if_lt 69 hX dX7_row_45 (by decide) (fun c4 => ?_) (fun c4 => ?_)
          · replace h := h.1 c4
            exact Wg.sub [0, 1, 2, 3, 4] rfl (h)
          · replace h := h.2 c4
            refine q_iload_n 2 hX dX7_row_48 rfl rfl ?_
            refine q_aload_n 0 hX dX7_row_49 rfl rfl ?_
            refine gf_X7_160 hX h_o dX7_row_50 ?_
            refine q_iload_n 3 hX dX7_row_53 rfl rfl ?_
            refine q_isub hX dX7_row_54 ?_
            refine q_icmp_ge 69 hX dX7_row_55 (by decide) (fun c5 => ?_) (fun c5 => ?_)
            · replace h := h.1 c5
              exact Wg.sub [0, 1, 2, 3, 4] rfl (h)
            · replace h := h.2 c5
              refine q_aload_n 0 hX dX7_row_58 rfl rfl ?_
              refine gf_X7_163 hX h_o dX7_row_59 ?_
              refine q_iload_n 3 hX dX7_row_62 rfl rfl ?_
              refine q_iload_n 2 hX dX7_row_63 rfl rfl ?_
              refine q_iadd hX dX7_row_64 ?_
              obtain ⟨b6, h⟩ := h
              refine q_iald hX dX7_row_65 (rfO_7_27 h_o) b6 ?_
              refine q_goto 70 hX dX7_row_66 (by decide) ?_
              exact Wg.sub [0, 1, 2, 3, 4] rfl (h)
        · replace h := h.2 c3
          refine q_aload_n 0 hX dX7_row_35 rfl rfl ?_
          refine gf_X7_160 hX h_o dX7_row_36 ?_
          refine q_iload_n 3 hX dX7_row_39 rfl rfl ?_
          refine q_isub hX dX7_row_40 ?_
          refine q_goto 70 hX dX7_row_41 (by decide) ?_
          exact Wg.sub [0, 1, 2, 3, 4] rfl (h)
    )
  replace h := h (fun v3 v4 σ h => by
    refine q_iconst (v := (-1)) hX dX7_row_69 (by decide) ?_
    exact Wg.sub [0, 1, 2, 3, 4] rfl (h)
    )
  replace h := h (fun v3 v4 t0 σ h => by
    refine q_istore (L' := [(5, .int t0), (0, .ref o), (1, .int a0), (2, .int a1), (3, .int v3), (4, .int v4)]) hX dX7_row_70 (by decide) rfl ?_
    exact Wg.sub [1, 2, 3, 4, 5, 0] rfl (h)
    )
  replace h := h (fun v3 v4 v5 σ h => by
    obtain ⟨x7, ex7⟩ : ∃ z : Int32, z = v4 + 1 := ⟨_, rfl⟩
    replace h := h x7 ex7
    refine q_iinc (v := x7) (L' := [(4, .int x7), (0, .ref o), (1, .int a0), (2, .int a1), (3, .int v3), (5, .int v5)]) 4 hX dX7_row_72 rfl (by rw [ex7]; rfl) (by decide) rfl ?_
    refine q_aload_n 1 hX dX7_row_75 rfl rfl ?_
    refine q_iload_n 4 hX dX7_row_76 rfl rfl ?_
    refine q_iconst (v := 0) hX dX7_row_77 (by decide) ?_
    refine cl_X7_276 hX h_o dX7_row_78 (Nat.le_of_ble_eq_true rfl) h (fun x9 s8 h => ?_)
    refine q_istore (L' := [(6, .int x9), (4, .int x7), (0, .ref o), (1, .int a0), (2, .int a1), (3, .int v3), (5, .int v5)]) hX dX7_row_81 (by decide) rfl ?_
    refine q_goto 19 hX dX7_row_83 (by decide) ?_
    exact Wg.sub [2, 3, 4, 5, 1, 6, 0] rfl (h)
    )
  refine q_aload_n 0 hX dX7_row_0 rfl rfl ?_
  refine gf_X7_160 hX h_o dX7_row_1 ?_
  refine Wg.nmI (fun x10 ex10 => ?_)
  replace h := h x10 ex10
  refine q_istore_n (L' := [(3, .int x10), (0, .ref o), (1, .int a0), (2, .int a1)]) hX dX7_row_4 rfl (by decide) rfl ?_
  refine q_iconst (v := 0) hX dX7_row_5 (by decide) ?_
  refine q_istore (L' := [(4, .int 0), (3, .int x10), (0, .ref o), (1, .int a0), (2, .int a1)]) hX dX7_row_6 (by decide) rfl ?_
  refine q_iconst (v := (-1)) hX dX7_row_8 (by decide) ?_
  refine q_istore (L' := [(5, .int (-1)), (4, .int 0), (3, .int x10), (0, .ref o), (1, .int a0), (2, .int a1)]) hX dX7_row_9 (by decide) rfl ?_
  refine q_aload_n 3 hX dX7_row_11 rfl rfl ?_
  refine q_iload_n 2 hX dX7_row_12 rfl rfl ?_
  refine q_iconst (v := 1) hX dX7_row_13 (by decide) ?_
  refine cl_X7_276 hX h_o dX7_row_14 (Nat.le_of_ble_eq_true rfl) h (fun x12 s11 h => ?_)
  refine q_istore (L' := [(6, .int x12), (5, .int (-1)), (4, .int 0), (3, .int x10), (0, .ref o), (1, .int a0), (2, .int a1)]) hX dX7_row_17 (by decide) rfl ?_
  exact Wg.sub [4, 5, 6, 3, 2, 1, 0] rfl (h)
set_option maxHeartbeats 4000000 in
set_option maxRecDepth 20000 in
theorem fl_X7_worthOf {d : Nat} {ids : List Nat} {o : Nat} {a0 : Int32} {σ : St} {Q : Int32 → St → Prop} (h_o : IO ids o 7) (H : ∀ (P67 : Int32 → Int32 → Int32 → Int32 → St → Prop) (P162 : Int32 → Int32 → St → Prop) (P180 : Int32 → St → Prop), (∀ (v2 : Int32) (v3 : Int32) (v4 : Int32) (t0 : Int32) (σ : St), (vp_in v2 8 ∧ ∀ x2 : Int32, x2 = (gi σ (rf o 33) (Int32.toNatClampNeg v2)) → ((x2 = 1 → ((¬ v4 = 0 → Q (20 - t0) σ) ∧ (v4 = 0 → Q t0 σ))) ∧ (x2 = 2 → P180 v2 σ) ∧ (x2 = 3 → ((¬ v4 = 0 → vp_in v3 24 ∧ Q (20 - (2 * (gi σ (rf o 6) (Int32.toNatClampNeg v3)))) σ) ∧ (v4 = 0 → vp_in v3 24 ∧ Q (2 * (gi σ (rf o 6) (Int32.toNatClampNeg v3))) σ))) ∧ (x2 = 4 → vp_in v2 8 ∧ ((¬ (gi σ (rf o 30) (Int32.toNatClampNeg v2)) = 0 → P162 v2 0 σ) ∧ ((gi σ (rf o 30) (Int32.toNatClampNeg v2)) = 0 → P162 v2 1 σ))) ∧ (¬ x2 = 1 → ¬ x2 = 2 → ¬ x2 = 3 → ¬ x2 = 4 → P180 v2 σ))) → P67 v2 v3 v4 t0 σ) → (∀ (v2 : Int32) (t0 : Int32) (σ : St), (vp_in (v2 - 1) 8 ∧ ((¬ t0 = (gi σ (rf o 36) (Int32.toNatClampNeg (v2 - 1))) → Q 0 σ) ∧ (t0 = (gi σ (rf o 36) (Int32.toNatClampNeg (v2 - 1))) → Q 20 σ))) → P162 v2 t0 σ) → (∀ (v2 : Int32) (σ : St), (vp_in v2 8 ∧ ((¬ (gi σ (rf o 30) (Int32.toNatClampNeg v2)) = 0 → Q 20 σ) ∧ ((gi σ (rf o 30) (Int32.toNatClampNeg v2)) = 0 → Q 0 σ))) → P180 v2 σ) → ∀ x14 : Int32, x14 = (gi σ o 26) → vp_in x14 8 ∧ ∀ x16 : Int32, x16 = ((6 * a0) + (gi σ (rf o 29) (Int32.toNatClampNeg x14))) → vp_in x14 8 ∧ ∀ x18 : Int32, x18 = (1 - (gi σ (rf o 30) (Int32.toNatClampNeg x14))) → ((¬ x18 = 0 → vp_in x16 24 ∧ vp_in x16 24 ∧ P67 x14 x16 x18 (((gi σ (rf o 5) (Int32.toNatClampNeg x16)) + 10) - (gi σ (rf o 4) (Int32.toNatClampNeg x16))) σ) ∧ (x18 = 0 → vp_in x16 24 ∧ vp_in x16 24 ∧ P67 x14 x16 x18 (((gi σ (rf o 4) (Int32.toNatClampNeg x16)) + 10) - (gi σ (rf o 5) (Int32.toNatClampNeg x16))) σ))) : EI (d + 1) ids Y_X7_worthOf [.ref o, .int a0] σ Q := by
  refine E_mk (by decide) (Nat.le_of_ble_eq_true rfl) (fun X hX => ?_)
  replace hX : Cok X ids 6 cX7_worthOf (some .int) (d + 1) RX7 := hX
  show Wg X ids 6 _ 0 [(0, .ref o), (1, .int a0)] [] σ
  have h := H (fun (v2 : Int32) (v3 : Int32) (v4 : Int32) (t0 : Int32) (σ : St) => (Wg X ids 6 (fun r σ1 => ∃ x, r = some (Value.int x) ∧ Q x σ1) 67 [(0, .ref o), (2, .int v2), (3, .int v3), (4, .int v4)] [.int t0] σ)) (fun (v2 : Int32) (t0 : Int32) (σ : St) => (Wg X ids 6 (fun r σ1 => ∃ x, r = some (Value.int x) ∧ Q x σ1) 162 [(0, .ref o), (2, .int v2)] [.int t0] σ)) (fun (v2 : Int32) (σ : St) => (Wg X ids 6 (fun r σ1 => ∃ x, r = some (Value.int x) ∧ Q x σ1) 180 [(0, .ref o), (2, .int v2)] [] σ))
  replace h := h (fun v2 v3 v4 t0 σ h => by
    refine q_istore (L' := [(5, .int t0), (0, .ref o), (2, .int v2), (3, .int v3), (4, .int v4)]) hX dX7_worthOf_67 (by decide) rfl ?_
    refine q_aload_n 1 hX dX7_worthOf_69 rfl rfl ?_
    refine gf_X7_181 hX h_o dX7_worthOf_70 ?_
    refine q_iload_n 2 hX dX7_worthOf_73 rfl rfl ?_
    obtain ⟨b1, h⟩ := h
    refine q_iald hX dX7_worthOf_74 (rfO_7_33 h_o) b1 ?_
    refine Wg.nmI (fun x2 ex2 => ?_)
    replace h := h x2 ex2
    by_cases c3_0 : x2 = 1
    · refine q_tableIn (off := 29) 104 hX dX7_worthOf_75 (by rw [c3_0]; decide) (by rw [c3_0]; decide) (by first | (rw [c3_0]; done) | (rw [c3_0]; rfl)) (by decide) ?_
      replace h := h.1 c3_0
      refine q_iload 4 hX dX7_worthOf_104 rfl ?_
      refine q_if_ne 114 hX dX7_worthOf_106 (by decide) (fun c4 => ?_) (fun c4 => ?_)
      · replace h := h.1 c4
        refine q_bipush (v := 20) hX dX7_worthOf_114 (by decide) ?_
        refine q_iload 0 hX dX7_worthOf_116 rfl ?_
        refine q_isub hX dX7_worthOf_118 ?_
        exact q_ret hX dX7_worthOf_119 ⟨_, rfl, h⟩
      · replace h := h.2 c4
        refine q_iload 0 hX dX7_worthOf_109 rfl ?_
        refine q_goto 119 hX dX7_worthOf_111 (by decide) ?_
        exact q_ret hX dX7_worthOf_119 ⟨_, rfl, h⟩
    by_cases c3_1 : x2 = 2
    · refine q_tableIn (off := 105) 180 hX dX7_worthOf_75 (by rw [c3_1]; decide) (by rw [c3_1]; decide) (by first | (rw [c3_1]; done) | (rw [c3_1]; rfl)) (by decide) ?_
      replace h := h.2.1 c3_1
      exact Wg.sub [1, 2] rfl (h)
    by_cases c3_2 : x2 = 3
    · refine q_tableIn (off := 45) 120 hX dX7_worthOf_75 (by rw [c3_2]; decide) (by rw [c3_2]; decide) (by first | (rw [c3_2]; done) | (rw [c3_2]; rfl)) (by decide) ?_
      replace h := h.2.2.1 c3_2
      refine q_iload 4 hX dX7_worthOf_120 rfl ?_
      refine q_if_ne 136 hX dX7_worthOf_122 (by decide) (fun c5 => ?_) (fun c5 => ?_)
      · replace h := h.1 c5
        refine q_bipush (v := 20) hX dX7_worthOf_136 (by decide) ?_
        refine q_iconst (v := 2) hX dX7_worthOf_138 (by decide) ?_
        refine q_aload_n 1 hX dX7_worthOf_139 rfl rfl ?_
        refine gf_X7_31 hX h_o dX7_worthOf_140 ?_
        refine q_iload_n 3 hX dX7_worthOf_143 rfl rfl ?_
        obtain ⟨b6, h⟩ := h
        refine q_iald hX dX7_worthOf_144 (rfO_7_6 h_o) b6 ?_
        refine q_imul hX dX7_worthOf_145 ?_
        refine q_isub hX dX7_worthOf_146 ?_
        exact q_ret hX dX7_worthOf_147 ⟨_, rfl, h⟩
      · replace h := h.2 c5
        refine q_iconst (v := 2) hX dX7_worthOf_125 (by decide) ?_
        refine q_aload_n 1 hX dX7_worthOf_126 rfl rfl ?_
        refine gf_X7_31 hX h_o dX7_worthOf_127 ?_
        refine q_iload_n 3 hX dX7_worthOf_130 rfl rfl ?_
        obtain ⟨b7, h⟩ := h
        refine q_iald hX dX7_worthOf_131 (rfO_7_6 h_o) b7 ?_
        refine q_imul hX dX7_worthOf_132 ?_
        refine q_goto 147 hX dX7_worthOf_133 (by decide) ?_
        exact q_ret hX dX7_worthOf_147 ⟨_, rfl, h⟩
    by_cases c3_3 : x2 = 4
    · refine q_tableIn (off := 73) 148 hX dX7_worthOf_75 (by rw [c3_3]; decide) (by rw [c3_3]; decide) (by first | (rw [c3_3]; done) | (rw [c3_3]; rfl)) (by decide) ?_
      replace h := h.2.2.2.1 c3_3
      refine q_aload_n 1 hX dX7_worthOf_148 rfl rfl ?_
      refine gf_X7_172 hX h_o dX7_worthOf_149 ?_
      refine q_iload_n 2 hX dX7_worthOf_152 rfl rfl ?_
      obtain ⟨b8, h⟩ := h
      refine q_iald hX dX7_worthOf_153 (rfO_7_30 h_o) b8 ?_
      refine q_if_ne 161 hX dX7_worthOf_154 (by decide) (fun c9 => ?_) (fun c9 => ?_)
      · replace h := h.1 c9
        refine q_iconst (v := 0) hX dX7_worthOf_161 (by decide) ?_
        exact Wg.sub [1, 2] rfl (h)
      · replace h := h.2 c9
        refine q_iconst (v := 1) hX dX7_worthOf_157 (by decide) ?_
        refine q_goto 162 hX dX7_worthOf_158 (by decide) ?_
        exact Wg.sub [1, 2] rfl (h)
    refine q_tableOut 180 hX dX7_worthOf_75 (by have e0 := ne_toInt (k := 1) c3_0 (by decide); have e1 := ne_toInt (k := 2) c3_1 (by decide); have e2 := ne_toInt (k := 3) c3_2 (by decide); have e3 := ne_toInt (k := 4) c3_3 (by decide); omega) (by decide) ?_
    replace h := h.2.2.2.2 c3_0 c3_1 c3_2 c3_3
    exact Wg.sub [1, 2] rfl (h)
    )
  replace h := h (fun v2 t0 σ h => by
    refine q_aload_n 0 hX dX7_worthOf_162 rfl rfl ?_
    refine gf_X7_190 hX h_o dX7_worthOf_163 ?_
    refine q_iload_n 1 hX dX7_worthOf_166 rfl rfl ?_
    refine q_iconst (v := 1) hX dX7_worthOf_167 (by decide) ?_
    refine q_isub hX dX7_worthOf_168 ?_
    obtain ⟨b10, h⟩ := h
    refine q_zald hX dX7_worthOf_169 (rfO_7_36 h_o) b10 ?_
    refine q_icmp_ne 178 hX dX7_worthOf_170 (by decide) (fun c11 => ?_) (fun c11 => ?_)
    · replace h := h.1 c11
      refine q_iconst (v := 0) hX dX7_worthOf_178 (by decide) ?_
      exact q_ret hX dX7_worthOf_179 ⟨_, rfl, h⟩
    · replace h := h.2 c11
      refine q_bipush (v := 20) hX dX7_worthOf_173 (by decide) ?_
      refine q_goto 179 hX dX7_worthOf_175 (by decide) ?_
      exact q_ret hX dX7_worthOf_179 ⟨_, rfl, h⟩
    )
  replace h := h (fun v2 σ h => by
    refine q_aload_n 0 hX dX7_worthOf_180 rfl rfl ?_
    refine gf_X7_172 hX h_o dX7_worthOf_181 ?_
    refine q_iload_n 1 hX dX7_worthOf_184 rfl rfl ?_
    obtain ⟨b12, h⟩ := h
    refine q_iald hX dX7_worthOf_185 (rfO_7_30 h_o) b12 ?_
    refine q_if_ne 193 hX dX7_worthOf_186 (by decide) (fun c13 => ?_) (fun c13 => ?_)
    · replace h := h.1 c13
      refine q_bipush (v := 20) hX dX7_worthOf_193 (by decide) ?_
      exact q_ret hX dX7_worthOf_195 ⟨_, rfl, h⟩
    · replace h := h.2 c13
      refine q_iconst (v := 0) hX dX7_worthOf_189 (by decide) ?_
      refine q_goto 195 hX dX7_worthOf_190 (by decide) ?_
      exact q_ret hX dX7_worthOf_195 ⟨_, rfl, h⟩
    )
  refine q_aload_n 0 hX dX7_worthOf_0 rfl rfl ?_
  refine gf_X7_160 hX h_o dX7_worthOf_1 ?_
  refine Wg.nmI (fun x14 ex14 => ?_)
  replace h := h x14 ex14
  refine q_istore_n (L' := [(2, .int x14), (0, .ref o), (1, .int a0)]) hX dX7_worthOf_4 rfl (by decide) rfl ?_
  refine q_bipush (v := 6) hX dX7_worthOf_5 (by decide) ?_
  refine q_iload_n 2 hX dX7_worthOf_7 rfl rfl ?_
  refine q_imul hX dX7_worthOf_8 ?_
  refine q_aload_n 1 hX dX7_worthOf_9 rfl rfl ?_
  refine gf_X7_169 hX h_o dX7_worthOf_10 ?_
  refine q_iload_n 0 hX dX7_worthOf_13 rfl rfl ?_
  obtain ⟨b15, h⟩ := h
  refine q_iald hX dX7_worthOf_14 (rfO_7_29 h_o) b15 ?_
  refine q_iadd hX dX7_worthOf_15 ?_
  refine Wg.nmI (fun x16 ex16 => ?_)
  replace h := h x16 ex16
  refine q_istore_n (L' := [(3, .int x16), (2, .int x14), (0, .ref o), (1, .int a0)]) hX dX7_worthOf_16 rfl (by decide) rfl ?_
  refine q_iconst (v := 1) hX dX7_worthOf_17 (by decide) ?_
  refine q_aload_n 2 hX dX7_worthOf_18 rfl rfl ?_
  refine gf_X7_172 hX h_o dX7_worthOf_19 ?_
  refine q_iload_n 1 hX dX7_worthOf_22 rfl rfl ?_
  obtain ⟨b17, h⟩ := h
  refine q_iald hX dX7_worthOf_23 (rfO_7_30 h_o) b17 ?_
  refine q_isub hX dX7_worthOf_24 ?_
  refine Wg.nmI (fun x18 ex18 => ?_)
  replace h := h x18 ex18
  refine q_istore (L' := [(4, .int x18), (3, .int x16), (2, .int x14), (0, .ref o), (1, .int a0)]) hX dX7_worthOf_25 (by decide) rfl ?_
  refine q_iload 0 hX dX7_worthOf_27 rfl ?_
  refine q_if_ne 51 hX dX7_worthOf_29 (by decide) (fun c19 => ?_) (fun c19 => ?_)
  · replace h := h.1 c19
    refine q_aload_n 3 hX dX7_worthOf_51 rfl rfl ?_
    refine gf_X7_28 hX h_o dX7_worthOf_52 ?_
    refine q_iload_n 1 hX dX7_worthOf_55 rfl rfl ?_
    obtain ⟨b20, h⟩ := h
    refine q_iald hX dX7_worthOf_56 (rfO_7_5 h_o) b20 ?_
    refine q_bipush (v := 10) hX dX7_worthOf_57 (by decide) ?_
    refine q_iadd hX dX7_worthOf_59 ?_
    refine q_aload_n 3 hX dX7_worthOf_60 rfl rfl ?_
    refine gf_X7_25 hX h_o dX7_worthOf_61 ?_
    refine q_iload_n 1 hX dX7_worthOf_64 rfl rfl ?_
    obtain ⟨b21, h⟩ := h
    refine q_iald hX dX7_worthOf_65 (rfO_7_4 h_o) b21 ?_
    refine q_isub hX dX7_worthOf_66 ?_
    exact Wg.sub [3, 2, 1, 0] rfl (h)
  · replace h := h.2 c19
    refine q_aload_n 3 hX dX7_worthOf_32 rfl rfl ?_
    refine gf_X7_25 hX h_o dX7_worthOf_33 ?_
    refine q_iload_n 1 hX dX7_worthOf_36 rfl rfl ?_
    obtain ⟨b22, h⟩ := h
    refine q_iald hX dX7_worthOf_37 (rfO_7_4 h_o) b22 ?_
    refine q_bipush (v := 10) hX dX7_worthOf_38 (by decide) ?_
    refine q_iadd hX dX7_worthOf_40 ?_
    refine q_aload_n 3 hX dX7_worthOf_41 rfl rfl ?_
    refine gf_X7_28 hX h_o dX7_worthOf_42 ?_
    refine q_iload_n 1 hX dX7_worthOf_45 rfl rfl ?_
    obtain ⟨b23, h⟩ := h
    refine q_iald hX dX7_worthOf_46 (rfO_7_5 h_o) b23 ?_
    refine q_isub hX dX7_worthOf_47 ?_
    refine q_goto 67 hX dX7_worthOf_48 (by decide) ?_
    exact Wg.sub [3, 2, 1, 0] rfl (h)
set_option maxHeartbeats 4000000 in
set_option maxRecDepth 20000 in
theorem fl_X7_worth {d : Nat} {ids : List Nat} {o : Nat} {a0 : Int32} {σ : St} {Q : Int32 → St → Prop} (h_o : IO ids o 7) (H : EI d ids Y_X7_isCase [.ref o, .int a0] σ (fun x2 s1 => ((¬ x2 = 0 → EI d ids Y_X7_endSort [.ref o] s1 (fun x5 s4 => ((¬ x5 = 0 → EI d ids Y_X7_worthOf [.ref o, .int a0] s4 (fun x8 s7 => Q x8 s7)) ∧ (x5 = 0 → Q (-3) s4)))) ∧ (x2 = 0 → Q (-1) s1)))) : EI (d + 1) ids Y_X7_worth [.ref o, .int a0] σ Q := by
  refine E_mk (by decide) (Nat.le_of_ble_eq_true rfl) (fun X hX => ?_)
  replace hX : Cok X ids 2 cX7_worth (some .int) (d + 1) RX7 := hX
  show Wg X ids 2 _ 0 [(0, .ref o), (1, .int a0)] [] σ
  have h := H
  refine q_aload_n 0 hX dX7_worth_0 rfl rfl ?_
  refine q_iload_n 1 hX dX7_worth_1 rfl rfl ?_
  refine cl_X7_34 hX h_o dX7_worth_2 (Nat.le_of_ble_eq_true rfl) h (fun x2 s1 h => ?_)
  refine q_if_ne 10 hX dX7_worth_5 (by decide) (fun c3 => ?_) (fun c3 => ?_)
  · replace h := h.1 c3
    refine q_aload_n 0 hX dX7_worth_10 rfl rfl ?_
    refine cl_X7_273 hX h_o dX7_worth_11 (Nat.le_of_ble_eq_true rfl) h (fun x5 s4 h => ?_)
    refine q_if_ne 22 hX dX7_worth_14 (by decide) (fun c6 => ?_) (fun c6 => ?_)
    · replace h := h.1 c6
      refine q_aload_n 0 hX dX7_worth_22 rfl rfl ?_
      refine q_iload_n 1 hX dX7_worth_23 rfl rfl ?_
      refine cl_X7_280 hX h_o dX7_worth_24 (Nat.le_of_ble_eq_true rfl) h (fun x8 s7 h => ?_)
      exact q_ret hX dX7_worth_27 ⟨_, rfl, h⟩
    · replace h := h.2 c6
      refine q_bipush (v := (-3)) hX dX7_worth_17 (by decide) ?_
      refine q_goto 27 hX dX7_worth_19 (by decide) ?_
      exact q_ret hX dX7_worth_27 ⟨_, rfl, h⟩
  · replace h := h.2 c3
    refine q_iconst (v := (-1)) hX dX7_worth_8 (by decide) ?_
    exact q_ret hX dX7_worth_9 ⟨_, rfl, h⟩
set_option maxHeartbeats 4000000 in
set_option maxRecDepth 20000 in
theorem fl_X7_comesUp {d : Nat} {ids : List Nat} {o : Nat} {a0 : Int32} {a1 : Int32} {σ : St} {Q : St → Prop} (h_o : IO ids o 7) (H : ∀ (P46 : Int32 → St → Prop) (P50 : Int32 → St → Prop) (P51 : Int32 → Int32 → St → Prop), (∀ (v3 : Int32) (σ : St), (P51 v3 1 σ) → P46 v3 σ) → (∀ (v3 : Int32) (σ : St), (P51 v3 0 σ) → P50 v3 σ) → (∀ (v3 : Int32) (t0 : Int32) (σ : St), (((¬ t0 = 0 → vp_in v3 8 ∧ ∀ s3 : St, s3 = si σ (rf o 43) (Int32.toNatClampNeg v3) a0 → vp_in v3 8 ∧ ∀ s5 : St, s5 = si s3 (rf o 44) (Int32.toNatClampNeg v3) a1 → Q s5) ∧ (t0 = 0 → Q σ))) → P51 v3 t0 σ) → ∀ x6 : Int32, x6 = (gi σ o 26) → vp_in x6 8 ∧ (((gi σ (rf o 44) (Int32.toNatClampNeg x6)) = 0 → P46 x6 σ) ∧ (¬ (gi σ (rf o 44) (Int32.toNatClampNeg x6)) = 0 → vp_in x6 8 ∧ ((¬ (gi σ (rf o 30) (Int32.toNatClampNeg x6)) = 0 → vp_in x6 8 ∧ (((gi σ (rf o 43) (Int32.toNatClampNeg x6)) ≤ a0 → P50 x6 σ) ∧ (¬ ((gi σ (rf o 43) (Int32.toNatClampNeg x6)) ≤ a0) → P46 x6 σ))) ∧ ((gi σ (rf o 30) (Int32.toNatClampNeg x6)) = 0 → vp_in x6 8 ∧ ((a0 ≤ (gi σ (rf o 43) (Int32.toNatClampNeg x6)) → P50 x6 σ) ∧ (¬ (a0 ≤ (gi σ (rf o 43) (Int32.toNatClampNeg x6))) → P46 x6 σ))))))) : EV (d + 1) ids Y_X7_comesUp [.ref o, .int a0, .int a1] σ Q := by
  refine E_mk (by decide) (Nat.le_of_ble_eq_true rfl) (fun X hX => ?_)
  replace hX : Cok X ids 5 cX7_comesUp none (d + 1) RX7 := hX
  show Wg X ids 5 _ 0 [(0, .ref o), (1, .int a0), (2, .int a1)] [] σ
  have h := H (fun (v3 : Int32) (σ : St) => (Wg X ids 5 (fun r σ1 => r = none ∧ Q σ1) 46 [(0, .ref o), (1, .int a0), (2, .int a1), (3, .int v3)] [] σ)) (fun (v3 : Int32) (σ : St) => (Wg X ids 5 (fun r σ1 => r = none ∧ Q σ1) 50 [(0, .ref o), (1, .int a0), (2, .int a1), (3, .int v3)] [] σ)) (fun (v3 : Int32) (t0 : Int32) (σ : St) => (Wg X ids 5 (fun r σ1 => r = none ∧ Q σ1) 51 [(0, .ref o), (1, .int a0), (2, .int a1), (3, .int v3)] [.int t0] σ))
  replace h := h (fun v3 σ h => by
    refine q_iconst (v := 1) hX dX7_comesUp_46 (by decide) ?_
    refine q_goto 51 hX dX7_comesUp_47 (by decide) ?_
    exact Wg.sub [0, 1, 2, 3] rfl (h)
    )
  replace h := h (fun v3 σ h => by
    refine q_iconst (v := 0) hX dX7_comesUp_50 (by decide) ?_
    exact Wg.sub [0, 1, 2, 3] rfl (h)
    )
  replace h := h (fun v3 t0 σ h => by
    refine q_istore (L' := [(4, .int t0), (0, .ref o), (1, .int a0), (2, .int a1), (3, .int v3)]) hX dX7_comesUp_51 (by decide) rfl ?_
    refine q_iload 0 hX dX7_comesUp_53 rfl ?_
    refine q_if_ne 59 hX dX7_comesUp_55 (by decide) (fun c1 => ?_) (fun c1 => ?_)
    · replace h := h.1 c1
      refine q_aload_n 1 hX dX7_comesUp_59 rfl rfl ?_
      refine gf_X7_211 hX h_o dX7_comesUp_60 ?_
      refine q_iload_n 4 hX dX7_comesUp_63 rfl rfl ?_
      refine q_iload_n 2 hX dX7_comesUp_64 rfl rfl ?_
      obtain ⟨b2, h⟩ := h
      refine q_iast hX dX7_comesUp_65 (rfO_7_43 h_o) b2 ?_
      refine Wg.nmS (fun s3 es3 => ?_)
      replace h := h s3 es3
      refine q_aload_n 1 hX dX7_comesUp_66 rfl rfl ?_
      refine gf_X7_214 hX h_o dX7_comesUp_67 ?_
      refine q_iload_n 4 hX dX7_comesUp_70 rfl rfl ?_
      refine q_iload_n 3 hX dX7_comesUp_71 rfl rfl ?_
      obtain ⟨b4, h⟩ := h
      refine q_iast hX dX7_comesUp_72 (rfO_7_44 h_o) b4 ?_
      refine Wg.nmS (fun s5 es5 => ?_)
      replace h := h s5 es5
      exact q_vret hX dX7_comesUp_73 ⟨rfl, h⟩
    · replace h := h.2 c1
      exact q_vret hX dX7_comesUp_58 ⟨rfl, h⟩
    )
  refine q_aload_n 0 hX dX7_comesUp_0 rfl rfl ?_
  refine gf_X7_160 hX h_o dX7_comesUp_1 ?_
  refine Wg.nmI (fun x6 ex6 => ?_)
  replace h := h x6 ex6
  refine q_istore_n (L' := [(3, .int x6), (0, .ref o), (1, .int a0), (2, .int a1)]) hX dX7_comesUp_4 rfl (by decide) rfl ?_
  refine q_aload_n 1 hX dX7_comesUp_5 rfl rfl ?_
  refine gf_X7_214 hX h_o dX7_comesUp_6 ?_
  refine q_iload_n 0 hX dX7_comesUp_9 rfl rfl ?_
  obtain ⟨b7, h⟩ := h
  refine q_iald hX dX7_comesUp_10 (rfO_7_44 h_o) b7 ?_
  refine q_if_eq 46 hX dX7_comesUp_11 (by decide) (fun c8 => ?_) (fun c8 => ?_)
  · replace h := h.1 c8
    exact Wg.sub [1, 2, 3, 0] rfl (h)
  · replace h := h.2 c8
    refine q_aload_n 1 hX dX7_comesUp_14 rfl rfl ?_
    refine gf_X7_172 hX h_o dX7_comesUp_15 ?_
    refine q_iload_n 0 hX dX7_comesUp_18 rfl rfl ?_
    obtain ⟨b9, h⟩ := h
    refine q_iald hX dX7_comesUp_19 (rfO_7_30 h_o) b9 ?_
    refine q_if_ne 36 hX dX7_comesUp_20 (by decide) (fun c10 => ?_) (fun c10 => ?_)
    · replace h := h.1 c10
      refine q_iload_n 2 hX dX7_comesUp_36 rfl rfl ?_
      refine q_aload_n 1 hX dX7_comesUp_37 rfl rfl ?_
      refine gf_X7_211 hX h_o dX7_comesUp_38 ?_
      refine q_iload_n 0 hX dX7_comesUp_41 rfl rfl ?_
      obtain ⟨b11, h⟩ := h
      refine q_iald hX dX7_comesUp_42 (rfO_7_43 h_o) b11 ?_
      refine q_icmp_ge 50 hX dX7_comesUp_43 (by decide) (fun c12 => ?_) (fun c12 => ?_)
      · replace h := h.1 c12
        exact Wg.sub [1, 2, 3, 0] rfl (h)
      · replace h := h.2 c12
        exact Wg.sub [1, 2, 3, 0] rfl (h)
    · replace h := h.2 c10
      refine q_iload_n 2 hX dX7_comesUp_23 rfl rfl ?_
      refine q_aload_n 1 hX dX7_comesUp_24 rfl rfl ?_
      refine gf_X7_211 hX h_o dX7_comesUp_25 ?_
      refine q_iload_n 0 hX dX7_comesUp_28 rfl rfl ?_
      obtain ⟨b13, h⟩ := h
      refine q_iald hX dX7_comesUp_29 (rfO_7_43 h_o) b13 ?_
      refine q_icmp_le 50 hX dX7_comesUp_30 (by decide) (fun c14 => ?_) (fun c14 => ?_)
      · replace h := h.1 c14
        exact Wg.sub [1, 2, 3, 0] rfl (h)
      · replace h := h.2 c14
        refine q_goto 46 hX dX7_comesUp_33 (by decide) ?_
        exact Wg.sub [1, 2, 3, 0] rfl (h)
set_option maxHeartbeats 4000000 in
set_option maxRecDepth 20000 in
theorem fl_X7_valueOf {d : Nat} {ids : List Nat} {o : Nat} {a0 : Int32} {σ : St} {Q : Int32 → St → Prop} (h_o : IO ids o 7) (H : ∀ (P19 : Int32 → St → Prop) (P113 : Int32 → Int32 → St → Prop), (∀ (v2 : Int32) (σ : St), (vp_in (gi σ o 26) 8 ∧ EI d ids Y_X7_nextMay [.ref o, .int (gi σ (rf o 42) (Int32.toNatClampNeg (gi σ o 26)))] σ (fun x3 s2 => ((14 ≤ x3 → vp_in (gi s2 o 26) 8 ∧ ((¬ (gi s2 (rf o 44) (Int32.toNatClampNeg (gi s2 o 26))) = 0 → vp_in (gi s2 o 26) 8 ∧ P113 v2 (gi s2 (rf o 43) (Int32.toNatClampNeg (gi s2 o 26))) s2) ∧ ((gi s2 (rf o 44) (Int32.toNatClampNeg (gi s2 o 26))) = 0 → EI d ids Y_X7_worthOf [.ref o, .int a0] s2 (fun x9 s8 => P113 v2 x9 s8)))) ∧ (¬ (14 ≤ x3) → vp_in (gi s2 o 26) 8 ∧ ∀ s11 : St, s11 = si s2 (rf o 42) (Int32.toNatClampNeg (gi s2 o 26)) (x3 + 1) → vp_in x3 14 ∧ EV d ids Y_X7_make [.ref o, .int (gi s11 (rf o 38) (Int32.toNatClampNeg x3))] s11 (fun s13 => vp_in (gi s13 o 26) 8 ∧ ∀ s15 : St, s15 = si s13 (rf o 42) (Int32.toNatClampNeg (gi s13 o 26)) 0 → vp_in (gi s15 o 26) 8 ∧ ∀ s17 : St, s17 = si s15 (rf o 44) (Int32.toNatClampNeg (gi s15 o 26)) 0 → P19 v2 s17))))) → P19 v2 σ) → (∀ (v2 : Int32) (t0 : Int32) (σ : St), (((¬ (gi σ o 26) = v2 → ∀ s19 : St, s19 = si σ o 26 ((gi σ o 26) - 1) → vp_in (gi s19 o 26) 8 ∧ EV d ids Y_X7_comesUp [.ref o, .int t0, .int (gi s19 (rf o 27) (Int32.toNatClampNeg (gi s19 o 26)))] s19 (fun s21 => P19 v2 s21)) ∧ ((gi σ o 26) = v2 → Q t0 σ))) → P113 v2 t0 σ) → ∀ x22 : Int32, x22 = (gi σ o 26) → vp_in x22 8 ∧ ∀ s24 : St, s24 = si σ (rf o 42) (Int32.toNatClampNeg x22) 0 → vp_in x22 8 ∧ ∀ s26 : St, s26 = si s24 (rf o 44) (Int32.toNatClampNeg x22) 0 → P19 x22 s26) : EI (d + 1) ids Y_X7_valueOf [.ref o, .int a0] σ Q := by
  refine E_mk (by decide) (Nat.le_of_ble_eq_true rfl) (fun X hX => ?_)
  replace hX : Cok X ids 5 cX7_valueOf (some .int) (d + 1) RX7 := hX
  show Wg X ids 5 _ 0 [(0, .ref o), (1, .int a0)] [] σ
  have h := H (fun (v2 : Int32) (σ : St) => (Wg X ids 5 (fun r σ1 => ∃ x, r = some (Value.int x) ∧ Q x σ1) 19 [(0, .ref o), (1, .int a0), (2, .int v2)] [] σ)) (fun (v2 : Int32) (t0 : Int32) (σ : St) => (Wg X ids 5 (fun r σ1 => ∃ x, r = some (Value.int x) ∧ Q x σ1) 113 [(0, .ref o), (1, .int a0), (2, .int v2)] [.int t0] σ))
  replace h := h (fun v2 σ h => by
    refine q_aload_n 0 hX dX7_valueOf_19 rfl rfl ?_
    refine q_aload_n 0 hX dX7_valueOf_20 rfl rfl ?_
    refine gf_X7_208 hX h_o dX7_valueOf_21 ?_
    refine q_aload_n 0 hX dX7_valueOf_24 rfl rfl ?_
    refine gf_X7_160 hX h_o dX7_valueOf_25 ?_
    obtain ⟨b1, h⟩ := h
    refine q_iald hX dX7_valueOf_28 (rfO_7_42 h_o) b1 ?_
    refine cl_X7_258 hX h_o dX7_valueOf_29 (Nat.le_of_ble_eq_true rfl) h (fun x3 s2 h => ?_)
    refine q_istore_n (L' := [(3, .int x3), (0, .ref o), (1, .int a0), (2, .int v2)]) hX dX7_valueOf_32 rfl (by decide) rfl ?_
    refine q_iload_n 0 hX dX7_valueOf_33 rfl rfl ?_
    refine q_bipush (v := 14) hX dX7_valueOf_34 (by decide) ?_
    refine q_icmp_ge 84 hX dX7_valueOf_36 (by decide) (fun c4 => ?_) (fun c4 => ?_)
    · replace h := h.1 c4
      refine q_aload_n 1 hX dX7_valueOf_84 rfl rfl ?_
      refine gf_X7_214 hX h_o dX7_valueOf_85 ?_
      refine q_aload_n 1 hX dX7_valueOf_88 rfl rfl ?_
      refine gf_X7_160 hX h_o dX7_valueOf_89 ?_
      obtain ⟨b5, h⟩ := h
      refine q_iald hX dX7_valueOf_92 (rfO_7_44 h_o) b5 ?_
      refine q_if_ne 104 hX dX7_valueOf_93 (by decide) (fun c6 => ?_) (fun c6 => ?_)
      · replace h := h.1 c6
        refine q_aload_n 1 hX dX7_valueOf_104 rfl rfl ?_
        refine gf_X7_211 hX h_o dX7_valueOf_105 ?_
        refine q_aload_n 1 hX dX7_valueOf_108 rfl rfl ?_
        refine gf_X7_160 hX h_o dX7_valueOf_109 ?_
        obtain ⟨b7, h⟩ := h
        refine q_iald hX dX7_valueOf_112 (rfO_7_43 h_o) b7 ?_
        exact Wg.sub [1, 2, 3] rfl (h)
      · replace h := h.2 c6
        refine q_aload_n 1 hX dX7_valueOf_96 rfl rfl ?_
        refine q_iload_n 2 hX dX7_valueOf_97 rfl rfl ?_
        refine cl_X7_280 hX h_o dX7_valueOf_98 (Nat.le_of_ble_eq_true rfl) h (fun x9 s8 h => ?_)
        refine q_goto 113 hX dX7_valueOf_101 (by decide) ?_
        exact Wg.sub [1, 2, 3] rfl (h)
    · replace h := h.2 c4
      refine q_aload_n 1 hX dX7_valueOf_39 rfl rfl ?_
      refine gf_X7_208 hX h_o dX7_valueOf_40 ?_
      refine q_aload_n 1 hX dX7_valueOf_43 rfl rfl ?_
      refine gf_X7_160 hX h_o dX7_valueOf_44 ?_
      refine q_iload_n 0 hX dX7_valueOf_47 rfl rfl ?_
      refine q_iconst (v := 1) hX dX7_valueOf_48 (by decide) ?_
      refine q_iadd hX dX7_valueOf_49 ?_
      obtain ⟨b10, h⟩ := h
      refine q_iast hX dX7_valueOf_50 (rfO_7_42 h_o) b10 ?_
      refine Wg.nmS (fun s11 es11 => ?_)
      replace h := h s11 es11
      refine q_aload_n 1 hX dX7_valueOf_51 rfl rfl ?_
      refine q_aload_n 1 hX dX7_valueOf_52 rfl rfl ?_
      refine gf_X7_196 hX h_o dX7_valueOf_53 ?_
      refine q_iload_n 0 hX dX7_valueOf_56 rfl rfl ?_
      obtain ⟨b12, h⟩ := h
      refine q_iald hX dX7_valueOf_57 (rfO_7_38 h_o) b12 ?_
      refine cl_X7_264 hX h_o dX7_valueOf_58 (Nat.le_of_ble_eq_true rfl) h (fun s13 h => ?_)
      refine q_aload_n 1 hX dX7_valueOf_61 rfl rfl ?_
      refine gf_X7_208 hX h_o dX7_valueOf_62 ?_
      refine q_aload_n 1 hX dX7_valueOf_65 rfl rfl ?_
      refine gf_X7_160 hX h_o dX7_valueOf_66 ?_
      refine q_iconst (v := 0) hX dX7_valueOf_69 (by decide) ?_
      obtain ⟨b14, h⟩ := h
      refine q_iast hX dX7_valueOf_70 (rfO_7_42 h_o) b14 ?_
      refine Wg.nmS (fun s15 es15 => ?_)
      replace h := h s15 es15
      refine q_aload_n 1 hX dX7_valueOf_71 rfl rfl ?_
      refine gf_X7_214 hX h_o dX7_valueOf_72 ?_
      refine q_aload_n 1 hX dX7_valueOf_75 rfl rfl ?_
      refine gf_X7_160 hX h_o dX7_valueOf_76 ?_
      refine q_iconst (v := 0) hX dX7_valueOf_79 (by decide) ?_
      obtain ⟨b16, h⟩ := h
      refine q_iast hX dX7_valueOf_80 (rfO_7_44 h_o) b16 ?_
      refine Wg.nmS (fun s17 es17 => ?_)
      replace h := h s17 es17
      refine q_goto 19 hX dX7_valueOf_81 (by decide) ?_
      exact Wg.sub [1, 2, 3] rfl (h)
    )
  replace h := h (fun v2 t0 σ h => by
    refine q_istore (L' := [(4, .int t0), (0, .ref o), (1, .int a0), (2, .int v2)]) hX dX7_valueOf_113 (by decide) rfl ?_
    refine q_aload_n 1 hX dX7_valueOf_115 rfl rfl ?_
    refine gf_X7_160 hX h_o dX7_valueOf_116 ?_
    refine q_iload_n 3 hX dX7_valueOf_119 rfl rfl ?_
    refine q_icmp_ne 126 hX dX7_valueOf_120 (by decide) (fun c18 => ?_) (fun c18 => ?_)
    · replace h := h.1 c18
      refine q_aload_n 1 hX dX7_valueOf_126 rfl rfl ?_
      refine q_dup hX dX7_valueOf_127 rfl ?_
      refine gf_X7_160 hX h_o dX7_valueOf_128 ?_
      refine q_iconst (v := 1) hX dX7_valueOf_131 (by decide) ?_
      refine q_isub hX dX7_valueOf_132 ?_
      refine pf_X7_160 hX h_o dX7_valueOf_133 ?_
      refine Wg.nmS (fun s19 es19 => ?_)
      replace h := h s19 es19
      refine q_aload_n 1 hX dX7_valueOf_136 rfl rfl ?_
      refine q_iload 0 hX dX7_valueOf_137 rfl ?_
      refine q_aload_n 1 hX dX7_valueOf_139 rfl rfl ?_
      refine gf_X7_163 hX h_o dX7_valueOf_140 ?_
      refine q_aload_n 1 hX dX7_valueOf_143 rfl rfl ?_
      refine gf_X7_160 hX h_o dX7_valueOf_144 ?_
      obtain ⟨b20, h⟩ := h
      refine q_iald hX dX7_valueOf_147 (rfO_7_27 h_o) b20 ?_
      refine cl_X7_283 hX h_o dX7_valueOf_148 (Nat.le_of_ble_eq_true rfl) h (fun s21 h => ?_)
      refine q_goto 19 hX dX7_valueOf_151 (by decide) ?_
      exact Wg.sub [1, 2, 3] rfl (h)
    · replace h := h.2 c18
      refine q_iload 0 hX dX7_valueOf_123 rfl ?_
      exact q_ret hX dX7_valueOf_125 ⟨_, rfl, h⟩
    )
  refine q_aload_n 0 hX dX7_valueOf_0 rfl rfl ?_
  refine gf_X7_160 hX h_o dX7_valueOf_1 ?_
  refine Wg.nmI (fun x22 ex22 => ?_)
  replace h := h x22 ex22
  refine q_istore_n (L' := [(2, .int x22), (0, .ref o), (1, .int a0)]) hX dX7_valueOf_4 rfl (by decide) rfl ?_
  refine q_aload_n 1 hX dX7_valueOf_5 rfl rfl ?_
  refine gf_X7_208 hX h_o dX7_valueOf_6 ?_
  refine q_iload_n 0 hX dX7_valueOf_9 rfl rfl ?_
  refine q_iconst (v := 0) hX dX7_valueOf_10 (by decide) ?_
  obtain ⟨b23, h⟩ := h
  refine q_iast hX dX7_valueOf_11 (rfO_7_42 h_o) b23 ?_
  refine Wg.nmS (fun s24 es24 => ?_)
  replace h := h s24 es24
  refine q_aload_n 1 hX dX7_valueOf_12 rfl rfl ?_
  refine gf_X7_214 hX h_o dX7_valueOf_13 ?_
  refine q_iload_n 0 hX dX7_valueOf_16 rfl rfl ?_
  refine q_iconst (v := 0) hX dX7_valueOf_17 (by decide) ?_
  obtain ⟨b25, h⟩ := h
  refine q_iast hX dX7_valueOf_18 (rfO_7_44 h_o) b25 ?_
  refine Wg.nmS (fun s26 es26 => ?_)
  replace h := h s26 es26
  exact Wg.sub [1, 2, 0] rfl (h)
set_option maxHeartbeats 4000000 in
set_option maxRecDepth 20000 in
theorem fl_X7_best {d : Nat} {ids : List Nat} {o : Nat} {a0 : Int32} {a1 : Int32} {σ : St} {Q : Int32 → St → Prop} (h_o : IO ids o 7) (H : ∀ (P41 : Int32 → Int32 → Int32 → Int32 → St → Prop) (P76 : Int32 → Int32 → Int32 → St → Prop) (P101 : Int32 → Int32 → Int32 → St → Prop), (∀ (v3 : Int32) (v4 : Int32) (v5 : Int32) (v6 : Int32) (σ : St), (((a1 < v6 → P101 v3 v4 v5 σ) ∧ (¬ (a1 < v6) → vp_in (gi σ o 26) 8 ∧ (((gi σ (rf o 44) (Int32.toNatClampNeg (gi σ o 26))) = 0 → P101 v3 v4 v5 σ) ∧ (¬ (gi σ (rf o 44) (Int32.toNatClampNeg (gi σ o 26))) = 0 → ((¬ v6 = a1 → P76 v4 v5 v6 σ) ∧ (v6 = a1 → vp_in (gi σ o 26) 8 ∧ ∀ x6 : Int32, x6 = (gi σ (rf o 44) (Int32.toNatClampNeg (gi σ o 26))) → P76 v4 x6 v6 σ))))))) → P41 v3 v4 v5 v6 σ) → (∀ (v4 : Int32) (v5 : Int32) (v6 : Int32) (σ : St), (vp_in (gi σ o 26) 8 ∧ EV d ids Y_X7_make [.ref o, .int (gi σ (rf o 44) (Int32.toNatClampNeg (gi σ o 26)))] σ (fun s8 => EI d ids Y_X7_valueOf [.ref o, .int a0] s8 (fun x10 s9 => ∀ x11 : Int32, x11 = v6 + 1 → P41 x10 v4 v5 x11 s9))) → P76 v4 v5 v6 σ) → (∀ (v3 : Int32) (v4 : Int32) (v5 : Int32) (σ : St), (∀ s12 : St, s12 = si σ o 26 v4 → ((0 ≤ v3 → Q v5 s12) ∧ (¬ (0 ≤ v3) → Q (-1) s12))) → P101 v3 v4 v5 σ) → EI d ids Y_X7_isCase [.ref o, .int a0] σ (fun x15 s14 => ((x15 = 0 → Q (-1) s14) ∧ (¬ x15 = 0 → (((-1) ≤ a1 → EI d ids Y_X7_valueOf [.ref o, .int a0] s14 (fun x19 s18 => ((¬ a1 = (-1) → ∀ x21 : Int32, x21 = (gi s18 o 26) → P41 x19 x21 (-5) 0 s18) ∧ (a1 = (-1) → Q x19 s18)))) ∧ (¬ ((-1) ≤ a1) → Q (-1) s14)))))) : EI (d + 1) ids Y_X7_best [.ref o, .int a0, .int a1] σ Q := by
  refine E_mk (by decide) (Nat.le_of_ble_eq_true rfl) (fun X hX => ?_)
  replace hX : Cok X ids 7 cX7_best (some .int) (d + 1) RX7 := hX
  show Wg X ids 7 _ 0 [(0, .ref o), (1, .int a0), (2, .int a1)] [] σ
  have h := H (fun (v3 : Int32) (v4 : Int32) (v5 : Int32) (v6 : Int32) (σ : St) => (Wg X ids 7 (fun r σ1 => ∃ x, r = some (Value.int x) ∧ Q x σ1) 41 [(0, .ref o), (1, .int a0), (2, .int a1), (3, .int v3), (4, .int v4), (5, .int v5), (6, .int v6)] [] σ)) (fun (v4 : Int32) (v5 : Int32) (v6 : Int32) (σ : St) => (Wg X ids 7 (fun r σ1 => ∃ x, r = some (Value.int x) ∧ Q x σ1) 76 [(0, .ref o), (1, .int a0), (2, .int a1), (4, .int v4), (5, .int v5), (6, .int v6)] [] σ)) (fun (v3 : Int32) (v4 : Int32) (v5 : Int32) (σ : St) => (Wg X ids 7 (fun r σ1 => ∃ x, r = some (Value.int x) ∧ Q x σ1) 101 [(0, .ref o), (3, .int v3), (4, .int v4), (5, .int v5)] [] σ))
  replace h := h (fun v3 v4 v5 v6 σ h => by
    refine q_iload 6 hX dX7_best_41 rfl ?_
    refine q_iload_n 2 hX dX7_best_43 rfl rfl ?_
    refine q_icmp_gt 101 hX dX7_best_44 (by decide) (fun c1 => ?_) (fun c1 => ?_)
    · replace h := h.1 c1
      exact Wg.sub [0, 3, 4, 5] rfl (h)
    · replace h := h.2 c1
      refine q_aload_n 0 hX dX7_best_47 rfl rfl ?_
      refine gf_X7_214 hX h_o dX7_best_48 ?_
      refine q_aload_n 0 hX dX7_best_51 rfl rfl ?_
      refine gf_X7_160 hX h_o dX7_best_52 ?_
      obtain ⟨b2, h⟩ := h
      refine q_iald hX dX7_best_55 (rfO_7_44 h_o) b2 ?_
      refine q_if_eq 101 hX dX7_best_56 (by decide) (fun c3 => ?_) (fun c3 => ?_)
      · replace h := h.1 c3
        exact Wg.sub [0, 3, 4, 5] rfl (h)
      · replace h := h.2 c3
        refine q_iload 6 hX dX7_best_59 rfl ?_
        refine q_iload_n 2 hX dX7_best_61 rfl rfl ?_
        refine q_icmp_ne 76 hX dX7_best_62 (by decide) (fun c4 => ?_) (fun c4 => ?_)
        · replace h := h.1 c4
          exact Wg.sub [0, 1, 2, 4, 5, 6] rfl (h)
        · replace h := h.2 c4
          refine q_aload_n 0 hX dX7_best_65 rfl rfl ?_
          refine gf_X7_214 hX h_o dX7_best_66 ?_
          refine q_aload_n 0 hX dX7_best_69 rfl rfl ?_
          refine gf_X7_160 hX h_o dX7_best_70 ?_
          obtain ⟨b5, h⟩ := h
          refine q_iald hX dX7_best_73 (rfO_7_44 h_o) b5 ?_
          refine Wg.nmI (fun x6 ex6 => ?_)
          replace h := h x6 ex6
          refine q_istore (L' := [(5, .int x6), (0, .ref o), (1, .int a0), (2, .int a1), (3, .int v3), (4, .int v4), (6, .int v6)]) hX dX7_best_74 (by decide) rfl ?_
          exact Wg.sub [1, 2, 3, 5, 0, 6] rfl (h)
    )
  replace h := h (fun v4 v5 v6 σ h => by
    refine q_aload_n 0 hX dX7_best_76 rfl rfl ?_
    refine q_aload_n 0 hX dX7_best_77 rfl rfl ?_
    refine gf_X7_214 hX h_o dX7_best_78 ?_
    refine q_aload_n 0 hX dX7_best_81 rfl rfl ?_
    refine gf_X7_160 hX h_o dX7_best_82 ?_
    obtain ⟨b7, h⟩ := h
    refine q_iald hX dX7_best_85 (rfO_7_44 h_o) b7 ?_
    refine cl_X7_264 hX h_o dX7_best_86 (Nat.le_of_ble_eq_true rfl) h (fun s8 h => ?_)
    refine q_aload_n 0 hX dX7_best_89 rfl rfl ?_
    refine q_iload_n 1 hX dX7_best_90 rfl rfl ?_
    refine cl_X7_287 hX h_o dX7_best_91 (Nat.le_of_ble_eq_true rfl) h (fun x10 s9 h => ?_)
    refine q_istore_n (L' := [(3, .int x10), (0, .ref o), (1, .int a0), (2, .int a1), (4, .int v4), (5, .int v5), (6, .int v6)]) hX dX7_best_94 rfl (by decide) rfl ?_
    obtain ⟨x11, ex11⟩ : ∃ z : Int32, z = v6 + 1 := ⟨_, rfl⟩
    replace h := h x11 ex11
    refine q_iinc (v := x11) (L' := [(6, .int x11), (3, .int x10), (0, .ref o), (1, .int a0), (2, .int a1), (4, .int v4), (5, .int v5)]) 6 hX dX7_best_95 rfl (by rw [ex11]; rfl) (by decide) rfl ?_
    refine q_goto 41 hX dX7_best_98 (by decide) ?_
    exact Wg.sub [2, 3, 4, 1, 5, 6, 0] rfl (h)
    )
  replace h := h (fun v3 v4 v5 σ h => by
    refine q_aload_n 0 hX dX7_best_101 rfl rfl ?_
    refine q_iload 2 hX dX7_best_102 rfl ?_
    refine pf_X7_160 hX h_o dX7_best_104 ?_
    refine Wg.nmS (fun s12 es12 => ?_)
    replace h := h s12 es12
    refine q_iload_n 1 hX dX7_best_107 rfl rfl ?_
    refine q_if_ge 115 hX dX7_best_108 (by decide) (fun c13 => ?_) (fun c13 => ?_)
    · replace h := h.1 c13
      refine q_iload 3 hX dX7_best_115 rfl ?_
      exact q_ret hX dX7_best_117 ⟨_, rfl, h⟩
    · replace h := h.2 c13
      refine q_iconst (v := (-1)) hX dX7_best_111 (by decide) ?_
      refine q_goto 117 hX dX7_best_112 (by decide) ?_
      exact q_ret hX dX7_best_117 ⟨_, rfl, h⟩
    )
  refine q_aload_n 0 hX dX7_best_0 rfl rfl ?_
  refine q_iload_n 1 hX dX7_best_1 rfl rfl ?_
  refine cl_X7_34 hX h_o dX7_best_2 (Nat.le_of_ble_eq_true rfl) h (fun x15 s14 h => ?_)
  refine q_if_eq 13 hX dX7_best_5 (by decide) (fun c16 => ?_) (fun c16 => ?_)
  · replace h := h.1 c16
    refine q_iconst (v := (-1)) hX dX7_best_13 (by decide) ?_
    exact q_ret hX dX7_best_14 ⟨_, rfl, h⟩
  · replace h := h.2 c16
    refine q_iload_n 2 hX dX7_best_8 rfl rfl ?_
    refine q_iconst (v := (-1)) hX dX7_best_9 (by decide) ?_
    refine q_icmp_ge 15 hX dX7_best_10 (by decide) (fun c17 => ?_) (fun c17 => ?_)
    · replace h := h.1 c17
      refine q_aload_n 0 hX dX7_best_15 rfl rfl ?_
      refine q_iload_n 1 hX dX7_best_16 rfl rfl ?_
      refine cl_X7_287 hX h_o dX7_best_17 (Nat.le_of_ble_eq_true rfl) h (fun x19 s18 h => ?_)
      refine q_istore_n (L' := [(3, .int x19), (0, .ref o), (1, .int a0), (2, .int a1)]) hX dX7_best_20 rfl (by decide) rfl ?_
      refine q_iload_n 3 hX dX7_best_21 rfl rfl ?_
      refine q_iconst (v := (-1)) hX dX7_best_22 (by decide) ?_
      refine q_icmp_ne 28 hX dX7_best_23 (by decide) (fun c20 => ?_) (fun c20 => ?_)
      · replace h := h.1 c20
        refine q_aload_n 1 hX dX7_best_28 rfl rfl ?_
        refine gf_X7_160 hX h_o dX7_best_29 ?_
        refine Wg.nmI (fun x21 ex21 => ?_)
        replace h := h x21 ex21
        refine q_istore (L' := [(4, .int x21), (3, .int x19), (0, .ref o), (1, .int a0), (2, .int a1)]) hX dX7_best_32 (by decide) rfl ?_
        refine q_bipush (v := (-5)) hX dX7_best_34 (by decide) ?_
        refine q_istore (L' := [(5, .int (-5)), (4, .int x21), (3, .int x19), (0, .ref o), (1, .int a0), (2, .int a1)]) hX dX7_best_36 (by decide) rfl ?_
        refine q_iconst (v := 0) hX dX7_best_38 (by decide) ?_
        refine q_istore (L' := [(6, .int 0), (5, .int (-5)), (4, .int x21), (3, .int x19), (0, .ref o), (1, .int a0), (2, .int a1)]) hX dX7_best_39 (by decide) rfl ?_
        exact Wg.sub [4, 5, 6, 3, 2, 1, 0] rfl (h)
      · replace h := h.2 c20
        refine q_iload_n 0 hX dX7_best_26 rfl rfl ?_
        exact q_ret hX dX7_best_27 ⟨_, rfl, h⟩
    · replace h := h.2 c17
      refine q_iconst (v := (-1)) hX dX7_best_13 (by decide) ?_
      exact q_ret hX dX7_best_14 ⟨_, rfl, h⟩
set_option maxHeartbeats 4000000 in
set_option maxRecDepth 20000 in
theorem fl_X7_traps {d : Nat} {ids : List Nat} {o : Nat} {a0 : Int32} {a1 : Int32} {a2 : Int32} {σ : St} {Q : Int32 → St → Prop} (h_o : IO ids o 7) (H : ∀ (P51 : Int32 → Int32 → Int32 → Int32 → St → Prop) (P111 : Int32 → Int32 → Int32 → Int32 → Int32 → St → Prop) (P133 : Int32 → Int32 → Int32 → Int32 → St → Prop) (P136 : Int32 → Int32 → Int32 → Int32 → St → Prop), (∀ (v4 : Int32) (v5 : Int32) (v6 : Int32) (v7 : Int32) (σ : St), (((14 ≤ v7 → ((¬ a2 = (-1) → Q v6 σ) ∧ (a2 = (-1) → Q v5 σ))) ∧ (¬ (14 ≤ v7) → vp_in v7 14 ∧ EV d ids Y_X7_make [.ref o, .int (gi σ (rf o 38) (Int32.toNatClampNeg v7))] σ (fun s4 => EI d ids Y_X7_valueOf [.ref o, .int a0] s4 (fun x6 s5 => ∀ s7 : St, s7 = si s5 o 26 ((gi s5 o 26) - 1) → vp_in (gi s7 o 26) 8 ∧ ((¬ (gi s7 (rf o 30) (Int32.toNatClampNeg (gi s7 o 26))) = 0 → P111 v4 v5 v6 v7 (x6 - v4) s7) ∧ ((gi s7 (rf o 30) (Int32.toNatClampNeg (gi s7 o 26))) = 0 → P111 v4 v5 v6 v7 (v4 - x6) s7))))))) → P51 v4 v5 v6 v7 σ) → (∀ (v4 : Int32) (v5 : Int32) (v6 : Int32) (v7 : Int32) (t0 : Int32) (σ : St), (((a1 ≤ t0 → ((¬ v5 = a2 → P133 v4 v5 v6 v7 σ) ∧ (v5 = a2 → vp_in v7 14 ∧ ∀ x13 : Int32, x13 = (gi σ (rf o 38) (Int32.toNatClampNeg v7)) → P133 v4 v5 x13 v7 σ))) ∧ (¬ (a1 ≤ t0) → P136 v4 v5 v6 v7 σ))) → P111 v4 v5 v6 v7 t0 σ) → (∀ (v4 : Int32) (v5 : Int32) (v6 : Int32) (v7 : Int32) (σ : St), (∀ x14 : Int32, x14 = v5 + 1 → P136 v4 x14 v6 v7 σ) → P133 v4 v5 v6 v7 σ) → (∀ (v4 : Int32) (v5 : Int32) (v6 : Int32) (v7 : Int32) (σ : St), (EI d ids Y_X7_nextMay [.ref o, .int (v7 + 1)] σ (fun x16 s15 => P51 v4 v5 v6 x16 s15)) → P136 v4 v5 v6 v7 σ) → EI d ids Y_X7_isCase [.ref o, .int a0] σ (fun x18 s17 => ((¬ x18 = 0 → EI d ids Y_X7_in [.ref o, .int a1, .int 1, .int 20] s17 (fun x21 s20 => ((¬ x21 = 0 → (((-1) ≤ a2 → EI d ids Y_X7_valueOf [.ref o, .int a0] s20 (fun x25 s24 => EI d ids Y_X7_nextMay [.ref o, .int 0] s24 (fun x27 s26 => P51 x25 0 (-1) x27 s26))) ∧ (¬ ((-1) ≤ a2) → Q (-1) s20))) ∧ (x21 = 0 → Q (-2) s20)))) ∧ (x18 = 0 → Q (-1) s17)))) : EI (d + 1) ids Y_X7_traps [.ref o, .int a0, .int a1, .int a2] σ Q := by
  refine E_mk (by decide) (Nat.le_of_ble_eq_true rfl) (fun X hX => ?_)
  replace hX : Cok X ids 9 cX7_traps (some .int) (d + 1) RX7 := hX
  show Wg X ids 9 _ 0 [(0, .ref o), (1, .int a0), (2, .int a1), (3, .int a2)] [] σ
  have h := H (fun (v4 : Int32) (v5 : Int32) (v6 : Int32) (v7 : Int32) (σ : St) => (Wg X ids 9 (fun r σ1 => ∃ x, r = some (Value.int x) ∧ Q x σ1) 51 [(0, .ref o), (1, .int a0), (2, .int a1), (3, .int a2), (4, .int v4), (5, .int v5), (6, .int v6), (7, .int v7)] [] σ)) (fun (v4 : Int32) (v5 : Int32) (v6 : Int32) (v7 : Int32) (t0 : Int32) (σ : St) => (Wg X ids 9 (fun r σ1 => ∃ x, r = some (Value.int x) ∧ Q x σ1) 111 [(0, .ref o), (1, .int a0), (2, .int a1), (3, .int a2), (4, .int v4), (5, .int v5), (6, .int v6), (7, .int v7)] [.int t0] σ)) (fun (v4 : Int32) (v5 : Int32) (v6 : Int32) (v7 : Int32) (σ : St) => (Wg X ids 9 (fun r σ1 => ∃ x, r = some (Value.int x) ∧ Q x σ1) 133 [(0, .ref o), (1, .int a0), (2, .int a1), (3, .int a2), (4, .int v4), (5, .int v5), (6, .int v6), (7, .int v7)] [] σ)) (fun (v4 : Int32) (v5 : Int32) (v6 : Int32) (v7 : Int32) (σ : St) => (Wg X ids 9 (fun r σ1 => ∃ x, r = some (Value.int x) ∧ Q x σ1) 136 [(0, .ref o), (1, .int a0), (2, .int a1), (3, .int a2), (4, .int v4), (5, .int v5), (6, .int v6), (7, .int v7)] [] σ))
  replace h := h (fun v4 v5 v6 v7 σ h => by
    refine q_iload 7 hX dX7_traps_51 rfl ?_
    refine q_bipush (v := 14) hX dX7_traps_53 (by decide) ?_
    refine q_icmp_ge 149 hX dX7_traps_55 (by decide) (fun c1 => ?_) (fun c1 => ?_)
    · replace h := h.1 c1
      refine q_iload_n 3 hX dX7_traps_149 rfl rfl ?_
      refine q_iconst (v := (-1)) hX dX7_traps_150 (by decide) ?_
      refine q_icmp_ne 159 hX dX7_traps_151 (by decide) (fun c2 => ?_) (fun c2 => ?_)
      · replace h := h.1 c2
        refine q_iload 6 hX dX7_traps_159 rfl ?_
        exact q_ret hX dX7_traps_161 ⟨_, rfl, h⟩
      · replace h := h.2 c2
        refine q_iload 5 hX dX7_traps_154 rfl ?_
        refine q_goto 161 hX dX7_traps_156 (by decide) ?_
        exact q_ret hX dX7_traps_161 ⟨_, rfl, h⟩
    · replace h := h.2 c1
      refine q_aload_n 0 hX dX7_traps_58 rfl rfl ?_
      refine q_aload_n 0 hX dX7_traps_59 rfl rfl ?_
      refine gf_X7_196 hX h_o dX7_traps_60 ?_
      refine q_iload 7 hX dX7_traps_63 rfl ?_
      obtain ⟨b3, h⟩ := h
      refine q_iald hX dX7_traps_65 (rfO_7_38 h_o) b3 ?_
      refine cl_X7_264 hX h_o dX7_traps_66 (Nat.le_of_ble_eq_true rfl) h (fun s4 h => ?_)
      refine q_aload_n 0 hX dX7_traps_69 rfl rfl ?_
      refine q_iload_n 1 hX dX7_traps_70 rfl rfl ?_
      refine cl_X7_287 hX h_o dX7_traps_71 (Nat.le_of_ble_eq_true rfl) h (fun x6 s5 h => ?_)
      refine q_istore (L' := [(8, .int x6), (0, .ref o), (1, .int a0), (2, .int a1), (3, .int a2), (4, .int v4), (5, .int v5), (6, .int v6), (7, .int v7)]) hX dX7_traps_74 (by decide) rfl ?_
      refine q_aload_n 1 hX dX7_traps_76 rfl rfl ?_
      refine q_dup hX dX7_traps_77 rfl ?_
      refine gf_X7_160 hX h_o dX7_traps_78 ?_
      refine q_iconst (v := 1) hX dX7_traps_81 (by decide) ?_
      refine q_isub hX dX7_traps_82 ?_
      refine pf_X7_160 hX h_o dX7_traps_83 ?_
      refine Wg.nmS (fun s7 es7 => ?_)
      replace h := h s7 es7
      refine q_aload_n 1 hX dX7_traps_86 rfl rfl ?_
      refine gf_X7_172 hX h_o dX7_traps_87 ?_
      refine q_aload_n 1 hX dX7_traps_90 rfl rfl ?_
      refine gf_X7_160 hX h_o dX7_traps_91 ?_
      obtain ⟨b8, h⟩ := h
      refine q_iald hX dX7_traps_94 (rfO_7_30 h_o) b8 ?_
      refine q_if_ne 106 hX dX7_traps_95 (by decide) (fun c9 => ?_) (fun c9 => ?_)
      · replace h := h.1 c9
        refine q_iload 0 hX dX7_traps_106 rfl ?_
        refine q_iload 5 hX dX7_traps_108 rfl ?_
        refine q_isub hX dX7_traps_110 ?_
        exact Wg.sub [1, 2, 3, 4, 5, 6, 7, 8] rfl (h)
      · replace h := h.2 c9
        refine q_iload 5 hX dX7_traps_98 rfl ?_
        refine q_iload 0 hX dX7_traps_100 rfl ?_
        refine q_isub hX dX7_traps_102 ?_
        refine q_goto 111 hX dX7_traps_103 (by decide) ?_
        exact Wg.sub [1, 2, 3, 4, 5, 6, 7, 8] rfl (h)
    )
  replace h := h (fun v4 v5 v6 v7 t0 σ h => by
    refine q_iload_n 2 hX dX7_traps_111 rfl rfl ?_
    refine q_icmp_ge 118 hX dX7_traps_112 (by decide) (fun c10 => ?_) (fun c10 => ?_)
    · replace h := h.1 c10
      refine q_iload 5 hX dX7_traps_118 rfl ?_
      refine q_iload_n 3 hX dX7_traps_120 rfl rfl ?_
      refine q_icmp_ne 133 hX dX7_traps_121 (by decide) (fun c11 => ?_) (fun c11 => ?_)
      · replace h := h.1 c11
        exact Wg.sub [0, 1, 2, 3, 4, 5, 6, 7] rfl (h)
      · replace h := h.2 c11
        refine q_aload_n 0 hX dX7_traps_124 rfl rfl ?_
        refine gf_X7_196 hX h_o dX7_traps_125 ?_
        refine q_iload 7 hX dX7_traps_128 rfl ?_
        obtain ⟨b12, h⟩ := h
        refine q_iald hX dX7_traps_130 (rfO_7_38 h_o) b12 ?_
        refine Wg.nmI (fun x13 ex13 => ?_)
        replace h := h x13 ex13
        refine q_istore (L' := [(6, .int x13), (0, .ref o), (1, .int a0), (2, .int a1), (3, .int a2), (4, .int v4), (5, .int v5), (7, .int v7)]) hX dX7_traps_131 (by decide) rfl ?_
        exact Wg.sub [1, 2, 3, 4, 5, 6, 0, 7] rfl (h)
    · replace h := h.2 c10
      refine q_goto 136 hX dX7_traps_115 (by decide) ?_
      exact Wg.sub [0, 1, 2, 3, 4, 5, 6, 7] rfl (h)
    )
  replace h := h (fun v4 v5 v6 v7 σ h => by
    obtain ⟨x14, ex14⟩ : ∃ z : Int32, z = v5 + 1 := ⟨_, rfl⟩
    replace h := h x14 ex14
    refine q_iinc (v := x14) (L' := [(5, .int x14), (0, .ref o), (1, .int a0), (2, .int a1), (3, .int a2), (4, .int v4), (6, .int v6), (7, .int v7)]) 5 hX dX7_traps_133 rfl (by rw [ex14]; rfl) (by decide) rfl ?_
    exact Wg.sub [1, 2, 3, 4, 5, 0, 6, 7] rfl (h)
    )
  replace h := h (fun v4 v5 v6 v7 σ h => by
    refine q_aload_n 0 hX dX7_traps_136 rfl rfl ?_
    refine q_iload 7 hX dX7_traps_137 rfl ?_
    refine q_iconst (v := 1) hX dX7_traps_139 (by decide) ?_
    refine q_iadd hX dX7_traps_140 ?_
    refine cl_X7_258 hX h_o dX7_traps_141 (Nat.le_of_ble_eq_true rfl) h (fun x16 s15 h => ?_)
    refine q_istore (L' := [(7, .int x16), (0, .ref o), (1, .int a0), (2, .int a1), (3, .int a2), (4, .int v4), (5, .int v5), (6, .int v6)]) hX dX7_traps_144 (by decide) rfl ?_
    refine q_goto 51 hX dX7_traps_146 (by decide) ?_
    exact Wg.sub [1, 2, 3, 4, 5, 6, 7, 0] rfl (h)
    )
  refine q_aload_n 0 hX dX7_traps_0 rfl rfl ?_
  refine q_iload_n 1 hX dX7_traps_1 rfl rfl ?_
  refine cl_X7_34 hX h_o dX7_traps_2 (Nat.le_of_ble_eq_true rfl) h (fun x18 s17 h => ?_)
  refine q_if_ne 10 hX dX7_traps_5 (by decide) (fun c19 => ?_) (fun c19 => ?_)
  · replace h := h.1 c19
    refine q_aload_n 0 hX dX7_traps_10 rfl rfl ?_
    refine q_iload_n 2 hX dX7_traps_11 rfl rfl ?_
    refine q_iconst (v := 1) hX dX7_traps_12 (by decide) ?_
    refine q_bipush (v := 20) hX dX7_traps_13 (by decide) ?_
    refine cl_X7_1 hX h_o dX7_traps_15 (Nat.le_of_ble_eq_true rfl) h (fun x21 s20 h => ?_)
    refine q_if_ne 24 hX dX7_traps_18 (by decide) (fun c22 => ?_) (fun c22 => ?_)
    · replace h := h.1 c22
      refine q_iload_n 3 hX dX7_traps_24 rfl rfl ?_
      refine q_iconst (v := (-1)) hX dX7_traps_25 (by decide) ?_
      refine q_icmp_ge 31 hX dX7_traps_26 (by decide) (fun c23 => ?_) (fun c23 => ?_)
      · replace h := h.1 c23
        refine q_aload_n 0 hX dX7_traps_31 rfl rfl ?_
        refine q_iload_n 1 hX dX7_traps_32 rfl rfl ?_
        refine cl_X7_287 hX h_o dX7_traps_33 (Nat.le_of_ble_eq_true rfl) h (fun x25 s24 h => ?_)
        refine q_istore (L' := [(4, .int x25), (0, .ref o), (1, .int a0), (2, .int a1), (3, .int a2)]) hX dX7_traps_36 (by decide) rfl ?_
        refine q_iconst (v := 0) hX dX7_traps_38 (by decide) ?_
        refine q_istore (L' := [(5, .int 0), (4, .int x25), (0, .ref o), (1, .int a0), (2, .int a1), (3, .int a2)]) hX dX7_traps_39 (by decide) rfl ?_
        refine q_iconst (v := (-1)) hX dX7_traps_41 (by decide) ?_
        refine q_istore (L' := [(6, .int (-1)), (5, .int 0), (4, .int x25), (0, .ref o), (1, .int a0), (2, .int a1), (3, .int a2)]) hX dX7_traps_42 (by decide) rfl ?_
        refine q_aload_n 3 hX dX7_traps_44 rfl rfl ?_
        refine q_iconst (v := 0) hX dX7_traps_45 (by decide) ?_
        refine cl_X7_258 hX h_o dX7_traps_46 (Nat.le_of_ble_eq_true rfl) h (fun x27 s26 h => ?_)
        refine q_istore (L' := [(7, .int x27), (6, .int (-1)), (5, .int 0), (4, .int x25), (0, .ref o), (1, .int a0), (2, .int a1), (3, .int a2)]) hX dX7_traps_49 (by decide) rfl ?_
        exact Wg.sub [4, 5, 6, 7, 3, 2, 1, 0] rfl (h)
      · replace h := h.2 c23
        refine q_iconst (v := (-1)) hX dX7_traps_29 (by decide) ?_
        exact q_ret hX dX7_traps_30 ⟨_, rfl, h⟩
    · replace h := h.2 c22
      refine q_bipush (v := (-2)) hX dX7_traps_21 (by decide) ?_
      exact q_ret hX dX7_traps_23 ⟨_, rfl, h⟩
  · replace h := h.2 c19
    refine q_iconst (v := (-1)) hX dX7_traps_8 (by decide) ?_
    exact q_ret hX dX7_traps_9 ⟨_, rfl, h⟩
set_option maxHeartbeats 4000000 in
set_option maxRecDepth 20000 in
theorem fl_X7_rightNow {d : Nat} {ids : List Nat} {o : Nat} {σ : St} {Q : Int32 → St → Prop} (h_o : IO ids o 7) (H : ∀ (P4 : Int32 → Int32 → St → Prop) (P28 : Int32 → Int32 → Int32 → St → Prop) (P43 : Int32 → Int32 → Int32 → St → Prop), (∀ (v1 : Int32) (v2 : Int32) (σ : St), ((((gi σ o 0) ≤ v2 → Q v1 σ) ∧ (¬ ((gi σ o 0) ≤ v2) → EI d ids Y_X7_valueOf [.ref o, .int v2] σ (fun x3 s2 => ((x3 < 10 → P28 v2 0 v1 s2) ∧ (¬ (x3 < 10) → P28 v2 1 v1 s2)))))) → P4 v1 v2 σ) → (∀ (v2 : Int32) (t0 : Int32) (t1 : Int32) (σ : St), (EI d ids Y_X7_isOught [.ref o, .int v2] σ (fun x6 s5 => ((¬ t0 = x6 → P43 v2 0 t1 s5) ∧ (t0 = x6 → P43 v2 ((1 : Int32) <<< (v2 &&& 31)) t1 s5)))) → P28 v2 t0 t1 σ) → (∀ (v2 : Int32) (t0 : Int32) (t1 : Int32) (σ : St), (∀ x8 : Int32, x8 = (t1 ||| t0) → ∀ x9 : Int32, x9 = v2 + 1 → P4 x8 x9 σ) → P43 v2 t0 t1 σ) → P4 0 0 σ) : EI (d + 1) ids Y_X7_rightNow [.ref o] σ Q := by
  refine E_mk (by decide) (Nat.le_of_ble_eq_true rfl) (fun X hX => ?_)
  replace hX : Cok X ids 3 cX7_rightNow (some .int) (d + 1) RX7 := hX
  show Wg X ids 3 _ 0 [(0, .ref o)] [] σ
  have h := H (fun (v1 : Int32) (v2 : Int32) (σ : St) => (Wg X ids 3 (fun r σ1 => ∃ x, r = some (Value.int x) ∧ Q x σ1) 4 [(0, .ref o), (1, .int v1), (2, .int v2)] [] σ)) (fun (v2 : Int32) (t0 : Int32) (t1 : Int32) (σ : St) => (Wg X ids 3 (fun r σ1 => ∃ x, r = some (Value.int x) ∧ Q x σ1) 28 [(0, .ref o), (2, .int v2)] [.int t0, .int t1] σ)) (fun (v2 : Int32) (t0 : Int32) (t1 : Int32) (σ : St) => (Wg X ids 3 (fun r σ1 => ∃ x, r = some (Value.int x) ∧ Q x σ1) 43 [(0, .ref o), (2, .int v2)] [.int t0, .int t1] σ))
  replace h := h (fun v1 v2 σ h => by
    refine q_iload_n 2 hX dX7_rightNow_4 rfl rfl ?_
    refine q_aload_n 0 hX dX7_rightNow_5 rfl rfl ?_
    refine gf_X7_7 hX h_o dX7_rightNow_6 ?_
    refine q_icmp_ge 51 hX dX7_rightNow_9 (by decide) (fun c1 => ?_) (fun c1 => ?_)
    · replace h := h.1 c1
      refine q_iload_n 1 hX dX7_rightNow_51 rfl rfl ?_
      exact q_ret hX dX7_rightNow_52 ⟨_, rfl, h⟩
    · replace h := h.2 c1
      refine q_iload_n 1 hX dX7_rightNow_12 rfl rfl ?_
      refine q_aload_n 0 hX dX7_rightNow_13 rfl rfl ?_
      refine q_iload_n 2 hX dX7_rightNow_14 rfl rfl ?_
      refine cl_X7_287 hX h_o dX7_rightNow_15 (Nat.le_of_ble_eq_true rfl) h (fun x3 s2 h => ?_)
      refine q_bipush (v := 10) hX dX7_rightNow_18 (by decide) ?_
      refine q_icmp_lt 27 hX dX7_rightNow_20 (by decide) (fun c4 => ?_) (fun c4 => ?_)
      · replace h := h.1 c4
        refine q_iconst (v := 0) hX dX7_rightNow_27 (by decide) ?_
        exact Wg.sub [0, 2] rfl (h)
      · replace h := h.2 c4
        refine q_iconst (v := 1) hX dX7_rightNow_23 (by decide) ?_
        refine q_goto 28 hX dX7_rightNow_24 (by decide) ?_
        exact Wg.sub [0, 2] rfl (h)
    )
  replace h := h (fun v2 t0 t1 σ h => by
    refine q_aload_n 0 hX dX7_rightNow_28 rfl rfl ?_
    refine q_iload_n 1 hX dX7_rightNow_29 rfl rfl ?_
    refine cl_X7_49 hX h_o dX7_rightNow_30 (Nat.le_of_ble_eq_true rfl) h (fun x6 s5 h => ?_)
    refine q_icmp_ne 42 hX dX7_rightNow_33 (by decide) (fun c7 => ?_) (fun c7 => ?_)
    · replace h := h.1 c7
      refine q_iconst (v := 0) hX dX7_rightNow_42 (by decide) ?_
      exact Wg.sub [0, 1] rfl (h)
    · replace h := h.2 c7
      refine q_iconst (v := 1) hX dX7_rightNow_36 (by decide) ?_
      refine q_iload_n 1 hX dX7_rightNow_37 rfl rfl ?_
      refine q_ishl hX dX7_rightNow_38 ?_
      refine q_goto 43 hX dX7_rightNow_39 (by decide) ?_
      exact Wg.sub [0, 1] rfl (h)
    )
  replace h := h (fun v2 t0 t1 σ h => by
    refine q_ior hX dX7_rightNow_43 ?_
    refine Wg.nmI (fun x8 ex8 => ?_)
    replace h := h x8 ex8
    refine q_istore_n (L' := [(1, .int x8), (0, .ref o), (2, .int v2)]) hX dX7_rightNow_44 rfl (by decide) rfl ?_
    obtain ⟨x9, ex9⟩ : ∃ z : Int32, z = v2 + 1 := ⟨_, rfl⟩
    replace h := h x9 ex9
    refine q_iinc (v := x9) (L' := [(2, .int x9), (1, .int x8), (0, .ref o)]) 2 hX dX7_rightNow_45 rfl (by rw [ex9]; rfl) (by decide) rfl ?_
    refine q_goto 4 hX dX7_rightNow_48 (by decide) ?_
    exact Wg.sub [2, 1, 0] rfl (h)
    )
  refine q_iconst (v := 0) hX dX7_rightNow_0 (by decide) ?_
  refine q_istore_n (L' := [(1, .int 0), (0, .ref o)]) hX dX7_rightNow_1 rfl (by decide) rfl ?_
  refine q_iconst (v := 0) hX dX7_rightNow_2 (by decide) ?_
  refine q_istore_n (L' := [(2, .int 0), (1, .int 0), (0, .ref o)]) hX dX7_rightNow_3 rfl (by decide) rfl ?_
  exact Wg.sub [2, 1, 0] rfl (h)
set_option maxHeartbeats 4000000 in
set_option maxRecDepth 20000 in
theorem fl_X7_right {d : Nat} {ids : List Nat} {o : Nat} {a0 : Int32} {σ : St} {Q : Int32 → St → Prop} (h_o : IO ids o 7) (H : EI d ids Y_X7_isRules [.ref o, .int a0] σ (fun x2 s1 => ((¬ x2 = 0 → EV d ids Y_X7_keepRoll [.ref o] s1 (fun s4 => EV d ids Y_X7_beginBy [.ref o, .int a0] s4 (fun s5 => EI d ids Y_X7_rightNow [.ref o] s5 (fun x7 s6 => EV d ids Y_X7_putBack [.ref o] s6 (fun s8 => Q x7 s8))))) ∧ (x2 = 0 → Q (-1) s1)))) : EI (d + 1) ids Y_X7_right [.ref o, .int a0] σ Q := by
  refine E_mk (by decide) (Nat.le_of_ble_eq_true rfl) (fun X hX => ?_)
  replace hX : Cok X ids 3 cX7_right (some .int) (d + 1) RX7 := hX
  show Wg X ids 3 _ 0 [(0, .ref o), (1, .int a0)] [] σ
  have h := H
  refine q_aload_n 0 hX dX7_right_0 rfl rfl ?_
  refine q_iload_n 1 hX dX7_right_1 rfl rfl ?_
  refine cl_X7_267 hX h_o dX7_right_2 (Nat.le_of_ble_eq_true rfl) h (fun x2 s1 h => ?_)
  refine q_if_ne 10 hX dX7_right_5 (by decide) (fun c3 => ?_) (fun c3 => ?_)
  · replace h := h.1 c3
    refine q_aload_n 0 hX dX7_right_10 rfl rfl ?_
    refine cl_X7_290 hX h_o dX7_right_11 (Nat.le_of_ble_eq_true rfl) h (fun s4 h => ?_)
    refine q_aload_n 0 hX dX7_right_14 rfl rfl ?_
    refine q_iload_n 1 hX dX7_right_15 rfl rfl ?_
    refine cl_X7_261 hX h_o dX7_right_16 (Nat.le_of_ble_eq_true rfl) h (fun s5 h => ?_)
    refine q_aload_n 0 hX dX7_right_19 rfl rfl ?_
    refine cl_X7_293 hX h_o dX7_right_20 (Nat.le_of_ble_eq_true rfl) h (fun x7 s6 h => ?_)
    refine q_istore_n (L' := [(2, .int x7), (0, .ref o), (1, .int a0)]) hX dX7_right_23 rfl (by decide) rfl ?_
    refine q_aload_n 1 hX dX7_right_24 rfl rfl ?_
    refine cl_X7_296 hX h_o dX7_right_25 (Nat.le_of_ble_eq_true rfl) h (fun s8 h => ?_)
    refine q_iload_n 0 hX dX7_right_28 rfl rfl ?_
    exact q_ret hX dX7_right_29 ⟨_, rfl, h⟩
  · replace h := h.2 c3
    refine q_iconst (v := (-1)) hX dX7_right_8 (by decide) ?_
    exact q_ret hX dX7_right_9 ⟨_, rfl, h⟩
set_option maxHeartbeats 4000000 in
set_option maxRecDepth 20000 in
theorem fl_X7_edge {d : Nat} {ids : List Nat} {o : Nat} {a0 : Int32} {σ : St} {Q : Int32 → St → Prop} (h_o : IO ids o 7) (H : ∀ (P52 : Int32 → Int32 → Int32 → Int32 → St → Prop) (P91 : Int32 → Int32 → Int32 → Int32 → St → Prop), (∀ (v2 : Int32) (v3 : Int32) (v4 : Int32) (v5 : Int32) (σ : St), (((v5 < 0 → vp_in v2 24 ∧ ∀ s3 : St, s3 = si σ (rf o 6) (Int32.toNatClampNeg v2) v3 → Q v4 s3) ∧ (¬ (v5 < 0) → vp_in v2 24 ∧ ∀ s5 : St, s5 = si σ (rf o 6) (Int32.toNatClampNeg v2) v5 → EI d ids Y_X7_valueOf [.ref o, .int a0] s5 (fun x7 s6 => ((x7 < 0 → P91 v2 v3 v4 v5 s6) ∧ (¬ (x7 < 0) → vp_in (gi s6 o 26) 8 ∧ (((gi s6 (rf o 44) (Int32.toNatClampNeg (gi s6 o 26))) = 30 → P91 v2 v3 v4 v5 s6) ∧ (¬ (gi s6 (rf o 44) (Int32.toNatClampNeg (gi s6 o 26))) = 30 → P91 v2 v3 v5 v5 s6)))))))) → P52 v2 v3 v4 v5 σ) → (∀ (v2 : Int32) (v3 : Int32) (v4 : Int32) (v5 : Int32) (σ : St), (∀ x11 : Int32, x11 = v5 + (-1) → P52 v2 v3 v4 x11 σ) → P91 v2 v3 v4 v5 σ) → EI d ids Y_X7_isCase [.ref o, .int a0] σ (fun x13 s12 => ((¬ x13 = 0 → EI d ids Y_X7_can [.ref o, .int 30] s12 (fun x16 s15 => ((¬ x16 = 0 → vp_in (gi s15 o 26) 8 ∧ ∀ x19 : Int32, x19 = ((6 * a0) + (gi s15 (rf o 29) (Int32.toNatClampNeg (gi s15 o 26)))) → vp_in x19 24 ∧ ∀ x21 : Int32, x21 = (gi s15 (rf o 6) (Int32.toNatClampNeg x19)) → P52 x19 x21 11 10 s15) ∧ (x16 = 0 → Q (-3) s15)))) ∧ (x13 = 0 → Q (-1) s12)))) : EI (d + 1) ids Y_X7_edge [.ref o, .int a0] σ Q := by
  refine E_mk (by decide) (Nat.le_of_ble_eq_true rfl) (fun X hX => ?_)
  replace hX : Cok X ids 6 cX7_edge (some .int) (d + 1) RX7 := hX
  show Wg X ids 6 _ 0 [(0, .ref o), (1, .int a0)] [] σ
  have h := H (fun (v2 : Int32) (v3 : Int32) (v4 : Int32) (v5 : Int32) (σ : St) => (Wg X ids 6 (fun r σ1 => ∃ x, r = some (Value.int x) ∧ Q x σ1) 52 [(0, .ref o), (1, .int a0), (2, .int v2), (3, .int v3), (4, .int v4), (5, .int v5)] [] σ)) (fun (v2 : Int32) (v3 : Int32) (v4 : Int32) (v5 : Int32) (σ : St) => (Wg X ids 6 (fun r σ1 => ∃ x, r = some (Value.int x) ∧ Q x σ1) 91 [(0, .ref o), (1, .int a0), (2, .int v2), (3, .int v3), (4, .int v4), (5, .int v5)] [] σ))
  replace h := h (fun v2 v3 v4 v5 σ h => by
    refine q_iload 5 hX dX7_edge_52 rfl ?_
    refine q_if_lt 97 hX dX7_edge_54 (by decide) (fun c1 => ?_) (fun c1 => ?_)
    · replace h := h.1 c1
      refine q_aload_n 0 hX dX7_edge_97 rfl rfl ?_
      refine gf_X7_31 hX h_o dX7_edge_98 ?_
      refine q_iload_n 2 hX dX7_edge_101 rfl rfl ?_
      refine q_iload_n 3 hX dX7_edge_102 rfl rfl ?_
      obtain ⟨b2, h⟩ := h
      refine q_iast hX dX7_edge_103 (rfO_7_6 h_o) b2 ?_
      refine Wg.nmS (fun s3 es3 => ?_)
      replace h := h s3 es3
      refine q_iload 4 hX dX7_edge_104 rfl ?_
      exact q_ret hX dX7_edge_106 ⟨_, rfl, h⟩
    · replace h := h.2 c1
      refine q_aload_n 0 hX dX7_edge_57 rfl rfl ?_
      refine gf_X7_31 hX h_o dX7_edge_58 ?_
      refine q_iload_n 2 hX dX7_edge_61 rfl rfl ?_
      refine q_iload 5 hX dX7_edge_62 rfl ?_
      obtain ⟨b4, h⟩ := h
      refine q_iast hX dX7_edge_64 (rfO_7_6 h_o) b4 ?_
      refine Wg.nmS (fun s5 es5 => ?_)
      replace h := h s5 es5
      refine q_aload_n 0 hX dX7_edge_65 rfl rfl ?_
      refine q_iload_n 1 hX dX7_edge_66 rfl rfl ?_
      refine cl_X7_287 hX h_o dX7_edge_67 (Nat.le_of_ble_eq_true rfl) h (fun x7 s6 h => ?_)
      refine q_if_lt 91 hX dX7_edge_70 (by decide) (fun c8 => ?_) (fun c8 => ?_)
      · replace h := h.1 c8
        exact Wg.sub [0, 1, 2, 3, 4, 5] rfl (h)
      · replace h := h.2 c8
        refine q_aload_n 0 hX dX7_edge_73 rfl rfl ?_
        refine gf_X7_214 hX h_o dX7_edge_74 ?_
        refine q_aload_n 0 hX dX7_edge_77 rfl rfl ?_
        refine gf_X7_160 hX h_o dX7_edge_78 ?_
        obtain ⟨b9, h⟩ := h
        refine q_iald hX dX7_edge_81 (rfO_7_44 h_o) b9 ?_
        refine q_bipush (v := 30) hX dX7_edge_82 (by decide) ?_
        refine q_icmp_eq 91 hX dX7_edge_84 (by decide) (fun c10 => ?_) (fun c10 => ?_)
        · replace h := h.1 c10
          exact Wg.sub [0, 1, 2, 3, 4, 5] rfl (h)
        · replace h := h.2 c10
          refine q_iload 5 hX dX7_edge_87 rfl ?_
          refine q_istore (L' := [(4, .int v5), (0, .ref o), (1, .int a0), (2, .int v2), (3, .int v3), (5, .int v5)]) hX dX7_edge_89 (by decide) rfl ?_
          exact Wg.sub [1, 2, 3, 4, 0, 5] rfl (h)
    )
  replace h := h (fun v2 v3 v4 v5 σ h => by
    obtain ⟨x11, ex11⟩ : ∃ z : Int32, z = v5 + (-1) := ⟨_, rfl⟩
    replace h := h x11 ex11
    refine q_iinc (v := x11) (L' := [(5, .int x11), (0, .ref o), (1, .int a0), (2, .int v2), (3, .int v3), (4, .int v4)]) 5 hX dX7_edge_91 rfl (by rw [ex11]; rfl) (by decide) rfl ?_
    refine q_goto 52 hX dX7_edge_94 (by decide) ?_
    exact Wg.sub [1, 2, 3, 4, 5, 0] rfl (h)
    )
  refine q_aload_n 0 hX dX7_edge_0 rfl rfl ?_
  refine q_iload_n 1 hX dX7_edge_1 rfl rfl ?_
  refine cl_X7_34 hX h_o dX7_edge_2 (Nat.le_of_ble_eq_true rfl) h (fun x13 s12 h => ?_)
  refine q_if_ne 10 hX dX7_edge_5 (by decide) (fun c14 => ?_) (fun c14 => ?_)
  · replace h := h.1 c14
    refine q_aload_n 0 hX dX7_edge_10 rfl rfl ?_
    refine q_bipush (v := 30) hX dX7_edge_11 (by decide) ?_
    refine cl_X7_255 hX h_o dX7_edge_13 (Nat.le_of_ble_eq_true rfl) h (fun x16 s15 h => ?_)
    refine q_if_ne 22 hX dX7_edge_16 (by decide) (fun c17 => ?_) (fun c17 => ?_)
    · replace h := h.1 c17
      refine q_bipush (v := 6) hX dX7_edge_22 (by decide) ?_
      refine q_iload_n 1 hX dX7_edge_24 rfl rfl ?_
      refine q_imul hX dX7_edge_25 ?_
      refine q_aload_n 0 hX dX7_edge_26 rfl rfl ?_
      refine gf_X7_169 hX h_o dX7_edge_27 ?_
      refine q_aload_n 0 hX dX7_edge_30 rfl rfl ?_
      refine gf_X7_160 hX h_o dX7_edge_31 ?_
      obtain ⟨b18, h⟩ := h
      refine q_iald hX dX7_edge_34 (rfO_7_29 h_o) b18 ?_
      refine q_iadd hX dX7_edge_35 ?_
      refine Wg.nmI (fun x19 ex19 => ?_)
      replace h := h x19 ex19
      refine q_istore_n (L' := [(2, .int x19), (0, .ref o), (1, .int a0)]) hX dX7_edge_36 rfl (by decide) rfl ?_
      refine q_aload_n 1 hX dX7_edge_37 rfl rfl ?_
      refine gf_X7_31 hX h_o dX7_edge_38 ?_
      refine q_iload_n 0 hX dX7_edge_41 rfl rfl ?_
      obtain ⟨b20, h⟩ := h
      refine q_iald hX dX7_edge_42 (rfO_7_6 h_o) b20 ?_
      refine Wg.nmI (fun x21 ex21 => ?_)
      replace h := h x21 ex21
      refine q_istore_n (L' := [(3, .int x21), (2, .int x19), (0, .ref o), (1, .int a0)]) hX dX7_edge_43 rfl (by decide) rfl ?_
      refine q_bipush (v := 11) hX dX7_edge_44 (by decide) ?_
      refine q_istore (L' := [(4, .int 11), (3, .int x21), (2, .int x19), (0, .ref o), (1, .int a0)]) hX dX7_edge_46 (by decide) rfl ?_
      refine q_bipush (v := 10) hX dX7_edge_48 (by decide) ?_
      refine q_istore (L' := [(5, .int 10), (4, .int 11), (3, .int x21), (2, .int x19), (0, .ref o), (1, .int a0)]) hX dX7_edge_50 (by decide) rfl ?_
      exact Wg.sub [4, 5, 3, 2, 1, 0] rfl (h)
    · replace h := h.2 c17
      refine q_bipush (v := (-3)) hX dX7_edge_19 (by decide) ?_
      exact q_ret hX dX7_edge_21 ⟨_, rfl, h⟩
  · replace h := h.2 c14
    refine q_iconst (v := (-1)) hX dX7_edge_8 (by decide) ?_
    exact q_ret hX dX7_edge_9 ⟨_, rfl, h⟩
set_option maxHeartbeats 4000000 in
set_option maxRecDepth 20000 in
theorem fl_X7_reform {d : Nat} {ids : List Nat} {o : Nat} {a0 : Int32} {σ : St} {Q : Int32 → St → Prop} (h_o : IO ids o 7) (H : ∀ (P34 : Int32 → Int32 → Int32 → St → Prop) (P81 : Int32 → Int32 → Int32 → St → Prop), (∀ (v2 : Int32) (v3 : Int32) (v4 : Int32) (σ : St), (vp_in a0 5 ∧ (((gi σ (rf o 13) (Int32.toNatClampNeg a0)) ≤ v4 → EV d ids Y_X7_putBack [.ref o] σ (fun s3 => Q v3 s3)) ∧ (¬ ((gi σ (rf o 13) (Int32.toNatClampNeg a0)) ≤ v4) → ∀ s4 : St, s4 = si σ o 25 ((6 * a0) + v4) → EI d ids Y_X7_rightNow [.ref o] s4 (fun x6 s5 => EI d ids Y_X7_ones [.ref o, .int x6] s5 (fun x8 s7 => ((v2 < x8 → P81 x8 v4 v4 s7) ∧ (¬ (v2 < x8) → P81 v2 v3 v4 s7))))))) → P34 v2 v3 v4 σ) → (∀ (v2 : Int32) (v3 : Int32) (v4 : Int32) (σ : St), (∀ x10 : Int32, x10 = v4 + 1 → P34 v2 v3 x10 σ) → P81 v2 v3 v4 σ) → EI d ids Y_X7_isRules [.ref o, .int a0] σ (fun x12 s11 => ((¬ x12 = 0 → EV d ids Y_X7_keepRoll [.ref o] s11 (fun s14 => EV d ids Y_X7_beginBy [.ref o, .int a0] s14 (fun s15 => EI d ids Y_X7_rightNow [.ref o] s15 (fun x17 s16 => EI d ids Y_X7_ones [.ref o, .int x17] s16 (fun x19 s18 => P34 x19 (-5) 0 s18))))) ∧ (x12 = 0 → Q (-1) s11)))) : EI (d + 1) ids Y_X7_reform [.ref o, .int a0] σ Q := by
  refine E_mk (by decide) (Nat.le_of_ble_eq_true rfl) (fun X hX => ?_)
  replace hX : Cok X ids 6 cX7_reform (some .int) (d + 1) RX7 := hX
  show Wg X ids 6 _ 0 [(0, .ref o), (1, .int a0)] [] σ
  have h := H (fun (v2 : Int32) (v3 : Int32) (v4 : Int32) (σ : St) => (Wg X ids 6 (fun r σ1 => ∃ x, r = some (Value.int x) ∧ Q x σ1) 34 [(0, .ref o), (1, .int a0), (2, .int v2), (3, .int v3), (4, .int v4)] [] σ)) (fun (v2 : Int32) (v3 : Int32) (v4 : Int32) (σ : St) => (Wg X ids 6 (fun r σ1 => ∃ x, r = some (Value.int x) ∧ Q x σ1) 81 [(0, .ref o), (1, .int a0), (2, .int v2), (3, .int v3), (4, .int v4)] [] σ))
  replace h := h (fun v2 v3 v4 σ h => by
    refine q_iload 4 hX dX7_reform_34 rfl ?_
    refine q_aload_n 0 hX dX7_reform_36 rfl rfl ?_
    refine gf_X7_143 hX h_o dX7_reform_37 ?_
    refine q_iload_n 1 hX dX7_reform_40 rfl rfl ?_
    obtain ⟨b1, h⟩ := h
    refine q_iald hX dX7_reform_41 (rfO_7_13 h_o) b1 ?_
    refine q_icmp_ge 87 hX dX7_reform_42 (by decide) (fun c2 => ?_) (fun c2 => ?_)
    · replace h := h.1 c2
      refine q_aload_n 0 hX dX7_reform_87 rfl rfl ?_
      refine cl_X7_296 hX h_o dX7_reform_88 (Nat.le_of_ble_eq_true rfl) h (fun s3 h => ?_)
      refine q_iload_n 3 hX dX7_reform_91 rfl rfl ?_
      exact q_ret hX dX7_reform_92 ⟨_, rfl, h⟩
    · replace h := h.2 c2
      refine q_aload_n 0 hX dX7_reform_45 rfl rfl ?_
      refine q_bipush (v := 6) hX dX7_reform_46 (by decide) ?_
      refine q_iload_n 1 hX dX7_reform_48 rfl rfl ?_
      refine q_imul hX dX7_reform_49 ?_
      refine q_iload 4 hX dX7_reform_50 rfl ?_
      refine q_iadd hX dX7_reform_52 ?_
      refine pf_X7_157 hX h_o dX7_reform_53 ?_
      refine Wg.nmS (fun s4 es4 => ?_)
      replace h := h s4 es4
      refine q_aload_n 0 hX dX7_reform_56 rfl rfl ?_
      refine q_aload_n 0 hX dX7_reform_57 rfl rfl ?_
      refine cl_X7_293 hX h_o dX7_reform_58 (Nat.le_of_ble_eq_true rfl) h (fun x6 s5 h => ?_)
      refine cl_X7_239 hX h_o dX7_reform_61 (Nat.le_of_ble_eq_true rfl) h (fun x8 s7 h => ?_)
      refine q_istore (L' := [(5, .int x8), (0, .ref o), (1, .int a0), (2, .int v2), (3, .int v3), (4, .int v4)]) hX dX7_reform_64 (by decide) rfl ?_
      refine q_iload 0 hX dX7_reform_66 rfl ?_
      refine q_iload_n 3 hX dX7_reform_68 rfl rfl ?_
      refine q_icmp_gt 75 hX dX7_reform_69 (by decide) (fun c9 => ?_) (fun c9 => ?_)
      · replace h := h.1 c9
        refine q_iload 0 hX dX7_reform_75 rfl ?_
        refine q_istore_n (L' := [(2, .int x8), (5, .int x8), (0, .ref o), (1, .int a0), (3, .int v3), (4, .int v4)]) hX dX7_reform_77 rfl (by decide) rfl ?_
        refine q_iload 5 hX dX7_reform_78 rfl ?_
        refine q_istore_n (L' := [(3, .int v4), (2, .int x8), (5, .int x8), (0, .ref o), (1, .int a0), (4, .int v4)]) hX dX7_reform_80 rfl (by decide) rfl ?_
        exact Wg.sub [3, 4, 1, 0, 5] rfl (h)
      · replace h := h.2 c9
        refine q_goto 81 hX dX7_reform_72 (by decide) ?_
        exact Wg.sub [1, 2, 3, 4, 5] rfl (h)
    )
  replace h := h (fun v2 v3 v4 σ h => by
    obtain ⟨x10, ex10⟩ : ∃ z : Int32, z = v4 + 1 := ⟨_, rfl⟩
    replace h := h x10 ex10
    refine q_iinc (v := x10) (L' := [(4, .int x10), (0, .ref o), (1, .int a0), (2, .int v2), (3, .int v3)]) 4 hX dX7_reform_81 rfl (by rw [ex10]; rfl) (by decide) rfl ?_
    refine q_goto 34 hX dX7_reform_84 (by decide) ?_
    exact Wg.sub [1, 2, 3, 4, 0] rfl (h)
    )
  refine q_aload_n 0 hX dX7_reform_0 rfl rfl ?_
  refine q_iload_n 1 hX dX7_reform_1 rfl rfl ?_
  refine cl_X7_267 hX h_o dX7_reform_2 (Nat.le_of_ble_eq_true rfl) h (fun x12 s11 h => ?_)
  refine q_if_ne 10 hX dX7_reform_5 (by decide) (fun c13 => ?_) (fun c13 => ?_)
  · replace h := h.1 c13
    refine q_aload_n 0 hX dX7_reform_10 rfl rfl ?_
    refine cl_X7_290 hX h_o dX7_reform_11 (Nat.le_of_ble_eq_true rfl) h (fun s14 h => ?_)
    refine q_aload_n 0 hX dX7_reform_14 rfl rfl ?_
    refine q_iload_n 1 hX dX7_reform_15 rfl rfl ?_
    refine cl_X7_261 hX h_o dX7_reform_16 (Nat.le_of_ble_eq_true rfl) h (fun s15 h => ?_)
    refine q_aload_n 0 hX dX7_reform_19 rfl rfl ?_
    refine q_aload_n 0 hX dX7_reform_20 rfl rfl ?_
    refine cl_X7_293 hX h_o dX7_reform_21 (Nat.le_of_ble_eq_true rfl) h (fun x17 s16 h => ?_)
    refine cl_X7_239 hX h_o dX7_reform_24 (Nat.le_of_ble_eq_true rfl) h (fun x19 s18 h => ?_)
    refine q_istore_n (L' := [(2, .int x19), (0, .ref o), (1, .int a0)]) hX dX7_reform_27 rfl (by decide) rfl ?_
    refine q_bipush (v := (-5)) hX dX7_reform_28 (by decide) ?_
    refine q_istore_n (L' := [(3, .int (-5)), (2, .int x19), (0, .ref o), (1, .int a0)]) hX dX7_reform_30 rfl (by decide) rfl ?_
    refine q_iconst (v := 0) hX dX7_reform_31 (by decide) ?_
    refine q_istore (L' := [(4, .int 0), (3, .int (-5)), (2, .int x19), (0, .ref o), (1, .int a0)]) hX dX7_reform_32 (by decide) rfl ?_
    exact Wg.sub [3, 4, 2, 1, 0] rfl (h)
  · replace h := h.2 c13
    refine q_iconst (v := (-1)) hX dX7_reform_8 (by decide) ?_
    exact q_ret hX dX7_reform_9 ⟨_, rfl, h⟩
set_option maxHeartbeats 4000000 in
set_option maxRecDepth 20000 in
theorem fl_X7_told {d : Nat} {ids : List Nat} {o : Nat} {a0 : Int32} {a1 : Int32} {a2 : Int32} {a3 : Int32} {σ : St} {Q : Int32 → St → Prop} (h_o : IO ids o 7) (H : ∀ (P62 : Int32 → Int32 → St → Prop) (P103 : Int32 → St → Prop) (P157 : Int32 → St → Prop) (P161 : Int32 → Int32 → St → Prop) (P167 : Int32 → St → Prop), (∀ (v5 : Int32) (v6 : Int32) (σ : St), (((a2 ≤ v6 → P167 v5 σ) ∧ (¬ (a2 ≤ v6) → ((¬ v5 = (-5) → P167 v5 σ) ∧ (v5 = (-5) → vp_in a0 6 ∧ (((gi σ (rf o 47) (Int32.toNatClampNeg a0)) < 0 → P103 v6 σ) ∧ (¬ ((gi σ (rf o 47) (Int32.toNatClampNeg a0)) < 0) → ((a1 < 0 → P103 v6 σ) ∧ (¬ (a1 < 0) → vp_in a0 6 ∧ ((a1 ≤ (((gi σ (rf o 48) (Int32.toNatClampNeg a0)) - v6) - 1) → vp_in (((60 * a0) + a1) + v6) 360 ∧ ∀ x9 : Int32, x9 = (Int64.toInt32 (gl σ (rf o 49) (Int32.toNatClampNeg (((60 * a0) + a1) + v6)))) → EI d ids Y_X7_isPlea [.ref o, .int x9] σ (fun x11 s10 => ((x11 = 0 → P157 v6 s10) ∧ (¬ x11 = 0 → EI d ids Y_X7_can [.ref o, .int x9] s10 (fun x14 s13 => ((x14 = 0 → P157 v6 s13) ∧ (¬ x14 = 0 → EV d ids Y_X7_make [.ref o, .int x9] s13 (fun s16 => P161 v5 v6 s16)))))))) ∧ (¬ (a1 ≤ (((gi σ (rf o 48) (Int32.toNatClampNeg a0)) - v6) - 1)) → P103 v6 σ))))))))))) → P62 v5 v6 σ) → (∀ (v6 : Int32) (σ : St), (∀ x17 : Int32, x17 = (100 + v6) → P161 x17 v6 σ) → P103 v6 σ) → (∀ (v6 : Int32) (σ : St), (P161 v6 v6 σ) → P157 v6 σ) → (∀ (v5 : Int32) (v6 : Int32) (σ : St), (∀ x18 : Int32, x18 = v6 + 1 → P62 v5 x18 σ) → P161 v5 v6 σ) → (∀ (v5 : Int32) (σ : St), (EV d ids Y_X7_putBack [.ref o] σ (fun s19 => Q v5 s19)) → P167 v5 σ) → EI d ids Y_X7_isTape [.ref o, .int a0] σ (fun x21 s20 => ((x21 = 0 → Q (-1) s20) ∧ (¬ x21 = 0 → EI d ids Y_X7_isRules [.ref o, .int a3] s20 (fun x24 s23 => ((¬ x24 = 0 → EI d ids Y_X7_in [.ref o, .int a2, .int 0, .int 20] s23 (fun x27 s26 => ((¬ x27 = 0 → vp_in a0 6 ∧ (((gi s26 (rf o 47) (Int32.toNatClampNeg a0)) ≤ 0 → EV d ids Y_X7_keepRoll [.ref o] s26 (fun s31 => EV d ids Y_X7_beginBy [.ref o, .int a3] s31 (fun s32 => P62 (-5) 0 s32))) ∧ (¬ ((gi s26 (rf o 47) (Int32.toNatClampNeg a0)) ≤ 0) → Q (-12) s26))) ∧ (x27 = 0 → Q (-2) s26)))) ∧ (x24 = 0 → Q (-1) s23))))))) : EI (d + 1) ids Y_X7_told [.ref o, .int a0, .int a1, .int a2, .int a3] σ Q := by
  refine E_mk (by decide) (Nat.le_of_ble_eq_true rfl) (fun X hX => ?_)
  replace hX : Cok X ids 8 cX7_told (some .int) (d + 1) RX7 := hX
  show Wg X ids 8 _ 0 [(0, .ref o), (1, .int a0), (2, .int a1), (3, .int a2), (4, .int a3)] [] σ
  have h := H (fun (v5 : Int32) (v6 : Int32) (σ : St) => (Wg X ids 8 (fun r σ1 => ∃ x, r = some (Value.int x) ∧ Q x σ1) 62 [(0, .ref o), (1, .int a0), (2, .int a1), (3, .int a2), (5, .int v5), (6, .int v6)] [] σ)) (fun (v6 : Int32) (σ : St) => (Wg X ids 8 (fun r σ1 => ∃ x, r = some (Value.int x) ∧ Q x σ1) 103 [(0, .ref o), (1, .int a0), (2, .int a1), (3, .int a2), (6, .int v6)] [] σ)) (fun (v6 : Int32) (σ : St) => (Wg X ids 8 (fun r σ1 => ∃ x, r = some (Value.int x) ∧ Q x σ1) 157 [(0, .ref o), (1, .int a0), (2, .int a1), (3, .int a2), (6, .int v6)] [] σ)) (fun (v5 : Int32) (v6 : Int32) (σ : St) => (Wg X ids 8 (fun r σ1 => ∃ x, r = some (Value.int x) ∧ Q x σ1) 161 [(0, .ref o), (1, .int a0), (2, .int a1), (3, .int a2), (5, .int v5), (6, .int v6)] [] σ)) (fun (v5 : Int32) (σ : St) => (Wg X ids 8 (fun r σ1 => ∃ x, r = some (Value.int x) ∧ Q x σ1) 167 [(0, .ref o), (5, .int v5)] [] σ))
  replace h := h (fun v5 v6 σ h => by
    refine q_iload 5 hX dX7_told_62 rfl ?_
    refine q_iload_n 3 hX dX7_told_64 rfl rfl ?_
    refine q_icmp_ge 167 hX dX7_told_65 (by decide) (fun c1 => ?_) (fun c1 => ?_)
    · replace h := h.1 c1
      exact Wg.sub [0, 4] rfl (h)
    · replace h := h.2 c1
      refine q_iload 4 hX dX7_told_68 rfl ?_
      refine q_bipush (v := (-5)) hX dX7_told_70 (by decide) ?_
      refine q_icmp_ne 167 hX dX7_told_72 (by decide) (fun c2 => ?_) (fun c2 => ?_)
      · replace h := h.1 c2
        exact Wg.sub [0, 4] rfl (h)
      · replace h := h.2 c2
        refine q_aload_n 0 hX dX7_told_75 rfl rfl ?_
        refine gf_X7_223 hX h_o dX7_told_76 ?_
        refine q_iload_n 1 hX dX7_told_79 rfl rfl ?_
        obtain ⟨b3, h⟩ := h
        refine q_iald hX dX7_told_80 (rfO_7_47 h_o) b3 ?_
        refine q_if_lt 103 hX dX7_told_81 (by decide) (fun c4 => ?_) (fun c4 => ?_)
        · replace h := h.1 c4
          exact Wg.sub [0, 1, 2, 3, 5] rfl (h)
        · replace h := h.2 c4
          refine q_iload_n 2 hX dX7_told_84 rfl rfl ?_
          refine q_if_lt 103 hX dX7_told_85 (by decide) (fun c5 => ?_) (fun c5 => ?_)
          · replace h := h.1 c5
            exact Wg.sub [0, 1, 2, 3, 5] rfl (h)
          · replace h := h.2 c5
            refine q_iload_n 2 hX dX7_told_88 rfl rfl ?_
            refine q_aload_n 0 hX dX7_told_89 rfl rfl ?_
            refine gf_X7_226 hX h_o dX7_told_90 ?_
            refine q_iload_n 1 hX dX7_told_93 rfl rfl ?_
            obtain ⟨b6, h⟩ := h
            refine q_iald hX dX7_told_94 (rfO_7_48 h_o) b6 ?_
            refine q_iload 5 hX dX7_told_95 rfl ?_
            refine q_isub hX dX7_told_97 ?_
            refine q_iconst (v := 1) hX dX7_told_98 (by decide) ?_
            refine q_isub hX dX7_told_99 ?_
            refine q_icmp_le 113 hX dX7_told_100 (by decide) (fun c7 => ?_) (fun c7 => ?_)
            · replace h := h.1 c7
              refine q_aload_n 0 hX dX7_told_113 rfl rfl ?_
              refine gf_X7_229 hX h_o dX7_told_114 ?_
              refine q_bipush (v := 60) hX dX7_told_117 (by decide) ?_
              refine q_iload_n 1 hX dX7_told_119 rfl rfl ?_
              refine q_imul hX dX7_told_120 ?_
              refine q_iload_n 2 hX dX7_told_121 rfl rfl ?_
              refine q_iadd hX dX7_told_122 ?_
              refine q_iload 5 hX dX7_told_123 rfl ?_
              refine q_iadd hX dX7_told_125 ?_
              obtain ⟨b8, h⟩ := h
              refine q_lald hX dX7_told_126 (rfO_7_49 h_o) b8 ?_
              refine q_l2i hX dX7_told_127 ?_
              refine Wg.nmI (fun x9 ex9 => ?_)
              replace h := h x9 ex9
              refine q_istore (L' := [(7, .int x9), (0, .ref o), (1, .int a0), (2, .int a1), (3, .int a2), (5, .int v5), (6, .int v6)]) hX dX7_told_128 (by decide) rfl ?_
              refine q_aload_n 1 hX dX7_told_130 rfl rfl ?_
              refine q_iload 0 hX dX7_told_131 rfl ?_
              refine cl_X7_270 hX h_o dX7_told_133 (Nat.le_of_ble_eq_true rfl) h (fun x11 s10 h => ?_)
              refine q_if_eq 157 hX dX7_told_136 (by decide) (fun c12 => ?_) (fun c12 => ?_)
              · replace h := h.1 c12
                exact Wg.sub [1, 2, 3, 4, 6] rfl (h)
              · replace h := h.2 c12
                refine q_aload_n 1 hX dX7_told_139 rfl rfl ?_
                refine q_iload 0 hX dX7_told_140 rfl ?_
                refine cl_X7_255 hX h_o dX7_told_142 (Nat.le_of_ble_eq_true rfl) h (fun x14 s13 h => ?_)
                refine q_if_eq 157 hX dX7_told_145 (by decide) (fun c15 => ?_) (fun c15 => ?_)
                · replace h := h.1 c15
                  exact Wg.sub [1, 2, 3, 4, 6] rfl (h)
                · replace h := h.2 c15
                  refine q_aload_n 1 hX dX7_told_148 rfl rfl ?_
                  refine q_iload 0 hX dX7_told_149 rfl ?_
                  refine cl_X7_264 hX h_o dX7_told_151 (Nat.le_of_ble_eq_true rfl) h (fun s16 h => ?_)
                  refine q_goto 161 hX dX7_told_154 (by decide) ?_
                  exact Wg.sub [1, 2, 3, 4, 5, 6] rfl (h)
            · replace h := h.2 c7
              exact Wg.sub [0, 1, 2, 3, 5] rfl (h)
    )
  replace h := h (fun v6 σ h => by
    refine q_bipush (v := 100) hX dX7_told_103 (by decide) ?_
    refine q_iload 4 hX dX7_told_105 rfl ?_
    refine q_iadd hX dX7_told_107 ?_
    refine Wg.nmI (fun x17 ex17 => ?_)
    replace h := h x17 ex17
    refine q_istore (L' := [(5, .int x17), (0, .ref o), (1, .int a0), (2, .int a1), (3, .int a2), (6, .int v6)]) hX dX7_told_108 (by decide) rfl ?_
    refine q_goto 161 hX dX7_told_110 (by decide) ?_
    exact Wg.sub [1, 2, 3, 4, 0, 5] rfl (h)
    )
  replace h := h (fun v6 σ h => by
    refine q_iload 4 hX dX7_told_157 rfl ?_
    refine q_istore (L' := [(5, .int v6), (0, .ref o), (1, .int a0), (2, .int a1), (3, .int a2), (6, .int v6)]) hX dX7_told_159 (by decide) rfl ?_
    exact Wg.sub [1, 2, 3, 4, 0, 5] rfl (h)
    )
  replace h := h (fun v5 v6 σ h => by
    obtain ⟨x18, ex18⟩ : ∃ z : Int32, z = v6 + 1 := ⟨_, rfl⟩
    replace h := h x18 ex18
    refine q_iinc (v := x18) (L' := [(6, .int x18), (0, .ref o), (1, .int a0), (2, .int a1), (3, .int a2), (5, .int v5)]) 5 hX dX7_told_161 rfl (by rw [ex18]; rfl) (by decide) rfl ?_
    refine q_goto 62 hX dX7_told_164 (by decide) ?_
    exact Wg.sub [1, 2, 3, 4, 5, 0] rfl (h)
    )
  replace h := h (fun v5 σ h => by
    refine q_aload_n 0 hX dX7_told_167 rfl rfl ?_
    refine cl_X7_296 hX h_o dX7_told_168 (Nat.le_of_ble_eq_true rfl) h (fun s19 h => ?_)
    refine q_iload 1 hX dX7_told_171 rfl ?_
    exact q_ret hX dX7_told_173 ⟨_, rfl, h⟩
    )
  refine q_aload_n 0 hX dX7_told_0 rfl rfl ?_
  refine q_iload_n 1 hX dX7_told_1 rfl rfl ?_
  refine cl_X7_299 hX h_o dX7_told_2 (Nat.le_of_ble_eq_true rfl) h (fun x21 s20 h => ?_)
  refine q_if_eq 17 hX dX7_told_5 (by decide) (fun c22 => ?_) (fun c22 => ?_)
  · replace h := h.1 c22
    refine q_iconst (v := (-1)) hX dX7_told_17 (by decide) ?_
    exact q_ret hX dX7_told_18 ⟨_, rfl, h⟩
  · replace h := h.2 c22
    refine q_aload_n 0 hX dX7_told_8 rfl rfl ?_
    refine q_iload 4 hX dX7_told_9 rfl ?_
    refine cl_X7_267 hX h_o dX7_told_11 (Nat.le_of_ble_eq_true rfl) h (fun x24 s23 h => ?_)
    refine q_if_ne 19 hX dX7_told_14 (by decide) (fun c25 => ?_) (fun c25 => ?_)
    · replace h := h.1 c25
      refine q_aload_n 0 hX dX7_told_19 rfl rfl ?_
      refine q_iload_n 3 hX dX7_told_20 rfl rfl ?_
      refine q_iconst (v := 0) hX dX7_told_21 (by decide) ?_
      refine q_bipush (v := 20) hX dX7_told_22 (by decide) ?_
      refine cl_X7_1 hX h_o dX7_told_24 (Nat.le_of_ble_eq_true rfl) h (fun x27 s26 h => ?_)
      refine q_if_ne 33 hX dX7_told_27 (by decide) (fun c28 => ?_) (fun c28 => ?_)
      · replace h := h.1 c28
        refine q_aload_n 0 hX dX7_told_33 rfl rfl ?_
        refine gf_X7_223 hX h_o dX7_told_34 ?_
        refine q_iload_n 1 hX dX7_told_37 rfl rfl ?_
        obtain ⟨b29, h⟩ := h
        refine q_iald hX dX7_told_38 (rfO_7_47 h_o) b29 ?_
        refine q_if_le 45 hX dX7_told_39 (by decide) (fun c30 => ?_) (fun c30 => ?_)
        · replace h := h.1 c30
          refine q_aload_n 0 hX dX7_told_45 rfl rfl ?_
          refine cl_X7_290 hX h_o dX7_told_46 (Nat.le_of_ble_eq_true rfl) h (fun s31 h => ?_)
          refine q_aload_n 0 hX dX7_told_49 rfl rfl ?_
          refine q_iload 4 hX dX7_told_50 rfl ?_
          refine cl_X7_261 hX h_o dX7_told_52 (Nat.le_of_ble_eq_true rfl) h (fun s32 h => ?_)
          refine q_bipush (v := (-5)) hX dX7_told_55 (by decide) ?_
          refine q_istore (L' := [(5, .int (-5)), (0, .ref o), (1, .int a0), (2, .int a1), (3, .int a2), (4, .int a3)]) hX dX7_told_57 (by decide) rfl ?_
          refine q_iconst (v := 0) hX dX7_told_59 (by decide) ?_
          refine q_istore (L' := [(6, .int 0), (5, .int (-5)), (0, .ref o), (1, .int a0), (2, .int a1), (3, .int a2), (4, .int a3)]) hX dX7_told_60 (by decide) rfl ?_
          exact Wg.sub [2, 3, 4, 5, 1, 0] rfl (h)
        · replace h := h.2 c30
          refine q_bipush (v := (-12)) hX dX7_told_42 (by decide) ?_
          exact q_ret hX dX7_told_44 ⟨_, rfl, h⟩
      · replace h := h.2 c28
        refine q_bipush (v := (-2)) hX dX7_told_30 (by decide) ?_
        exact q_ret hX dX7_told_32 ⟨_, rfl, h⟩
    · replace h := h.2 c25
      refine q_iconst (v := (-1)) hX dX7_told_17 (by decide) ?_
      exact q_ret hX dX7_told_18 ⟨_, rfl, h⟩
set_option maxHeartbeats 4000000 in
set_option maxRecDepth 20000 in
theorem fl_X7_body {d : Nat} {ids : List Nat} {o : Nat} {a0 : Int32} {σ : St} {Q : St → Prop} (h_o : IO ids o 7) (H : ∀ (P19 : St → Prop), (∀ (σ : St), (∀ s1 : St, s1 = si σ o 45 ((gi σ o 45) + 1) → Q s1) → P19 σ) → ((20 ≤ (gi σ o 45) → P19 σ) ∧ (¬ (20 ≤ (gi σ o 45)) → vp_in (gi σ o 45) 20 ∧ ∀ s4 : St, s4 = si σ (rf o 46) (Int32.toNatClampNeg (gi σ o 45)) a0 → P19 s4))) : EV (d + 1) ids Y_X7_body [.ref o, .int a0] σ Q := by
  refine E_mk (by decide) (Nat.le_of_ble_eq_true rfl) (fun X hX => ?_)
  replace hX : Cok X ids 2 cX7_body none (d + 1) RX7 := hX
  show Wg X ids 2 _ 0 [(0, .ref o), (1, .int a0)] [] σ
  have h := H (fun (σ : St) => (Wg X ids 2 (fun r σ1 => r = none ∧ Q σ1) 19 [(0, .ref o)] [] σ))
  replace h := h (fun σ h => by
    refine q_aload_n 0 hX dX7_body_19 rfl rfl ?_
    refine q_dup hX dX7_body_20 rfl ?_
    refine gf_X7_217 hX h_o dX7_body_21 ?_
    refine q_iconst (v := 1) hX dX7_body_24 (by decide) ?_
    refine q_iadd hX dX7_body_25 ?_
    refine pf_X7_217 hX h_o dX7_body_26 ?_
    refine Wg.nmS (fun s1 es1 => ?_)
    replace h := h s1 es1
    exact q_vret hX dX7_body_29 ⟨rfl, h⟩
    )
  refine q_aload_n 0 hX dX7_body_0 rfl rfl ?_
  refine gf_X7_217 hX h_o dX7_body_1 ?_
  refine q_bipush (v := 20) hX dX7_body_4 (by decide) ?_
  refine q_icmp_ge 19 hX dX7_body_6 (by decide) (fun c2 => ?_) (fun c2 => ?_)
  · replace h := h.1 c2
    exact Wg.sub [0] rfl (h)
  · replace h := h.2 c2
    refine q_aload_n 0 hX dX7_body_9 rfl rfl ?_
    refine gf_X7_220 hX h_o dX7_body_10 ?_
    refine q_aload_n 0 hX dX7_body_13 rfl rfl ?_
    refine gf_X7_217 hX h_o dX7_body_14 ?_
    refine q_iload_n 1 hX dX7_body_17 rfl rfl ?_
    obtain ⟨b3, h⟩ := h
    refine q_iast hX dX7_body_18 (rfO_7_46 h_o) b3 ?_
    refine Wg.nmS (fun s4 es4 => ?_)
    replace h := h s4 es4
    exact Wg.sub [0] rfl (h)
set_option maxHeartbeats 4000000 in
set_option maxRecDepth 20000 in
theorem fl_X7_plainPleads {d : Nat} {ids : List Nat} {o : Nat} {a0 : Int32} {σ : St} {Q : Int32 → St → Prop} (h_o : IO ids o 7) (H : EV d ids Y_X7_body [.ref o, .int 10] σ (fun s1 => Q (a0 + (gi s1 o 0)) s1)) : EI (d + 1) ids Y_X7_plainPleads [.ref o, .int a0] σ Q := by
  refine E_mk (by decide) (Nat.le_of_ble_eq_true rfl) (fun X hX => ?_)
  replace hX : Cok X ids 2 cX7_plainPleads (some .int) (d + 1) RX7 := hX
  show Wg X ids 2 _ 0 [(0, .ref o), (1, .int a0)] [] σ
  have h := H
  refine q_aload_n 0 hX dX7_plainPleads_0 rfl rfl ?_
  refine q_bipush (v := 10) hX dX7_plainPleads_1 (by decide) ?_
  refine cl_X7_302 hX h_o dX7_plainPleads_3 (Nat.le_of_ble_eq_true rfl) h (fun s1 h => ?_)
  refine q_iload_n 1 hX dX7_plainPleads_6 rfl rfl ?_
  refine q_aload_n 0 hX dX7_plainPleads_7 rfl rfl ?_
  refine gf_X7_7 hX h_o dX7_plainPleads_8 ?_
  refine q_iadd hX dX7_plainPleads_11 ?_
  exact q_ret hX dX7_plainPleads_12 ⟨_, rfl, h⟩
set_option maxHeartbeats 4000000 in
set_option maxRecDepth 20000 in
theorem fl_X7_excusePleads {d : Nat} {ids : List Nat} {o : Nat} {a0 : Int32} {σ : St} {Q : Int32 → St → Prop} (h_o : IO ids o 7) (H : EV d ids Y_X7_body [.ref o, .int 30] σ (fun s1 => EI d ids Y_X7_plainPleads [.ref o, .int (a0 * 3)] s1 (fun x3 s2 => Q x3 s2))) : EI (d + 1) ids Y_X7_excusePleads [.ref o, .int a0] σ Q := by
  refine E_mk (by decide) (Nat.le_of_ble_eq_true rfl) (fun X hX => ?_)
  replace hX : Cok X ids 2 cX7_excusePleads (some .int) (d + 1) RX7 := hX
  show Wg X ids 2 _ 0 [(0, .ref o), (1, .int a0)] [] σ
  have h := H
  refine q_aload_n 0 hX dX7_excusePleads_0 rfl rfl ?_
  refine q_bipush (v := 30) hX dX7_excusePleads_1 (by decide) ?_
  refine cl_X7_302 hX h_o dX7_excusePleads_3 (Nat.le_of_ble_eq_true rfl) h (fun s1 h => ?_)
  refine q_aload_n 0 hX dX7_excusePleads_6 rfl rfl ?_
  refine q_iload_n 1 hX dX7_excusePleads_7 rfl rfl ?_
  refine q_iconst (v := 3) hX dX7_excusePleads_8 (by decide) ?_
  refine q_imul hX dX7_excusePleads_9 ?_
  refine cl_X7_305 hX h_o dX7_excusePleads_10 (Nat.le_of_ble_eq_true rfl) h (fun x3 s2 h => ?_)
  exact q_ret hX dX7_excusePleads_13 ⟨_, rfl, h⟩
set_option maxHeartbeats 4000000 in
set_option maxRecDepth 20000 in
theorem fl_X7_pleads {d : Nat} {ids : List Nat} {o : Nat} {a0 : Int32} {a1 : Int32} {σ : St} {Q : Int32 → St → Prop} (h_o : IO ids o 7) (H : ∀ (P68 : St → Prop), (∀ (σ : St), (EI d ids Y_X7_plainPleads [.ref o, .int a1] σ (fun x2 s1 => Q x2 s1)) → P68 σ) → ((a0 = 2 → EI d ids Y_X7_excusePleads [.ref o, .int a1] σ (fun x5 s4 => Q x5 s4)) ∧ (a0 = 3 → EV d ids Y_X7_body [.ref o, .int 40] σ (fun s6 => EI d ids Y_X7_plainPleads [.ref o, .int a1] s6 (fun x8 s7 => Q (-x8) s7))) ∧ (a0 = 4 → P68 σ) ∧ (a0 = 5 → EV d ids Y_X7_body [.ref o, .int 60] σ (fun s9 => EI d ids Y_X7_excusePleads [.ref o, .int a1] s9 (fun x11 s10 => Q (x11 ^^^ (gi s10 o 8)) s10))) ∧ (¬ a0 = 2 → ¬ a0 = 3 → ¬ a0 = 4 → ¬ a0 = 5 → P68 σ))) : EI (d + 1) ids Y_X7_pleads [.ref o, .int a0, .int a1] σ Q := by
  refine E_mk (by decide) (Nat.le_of_ble_eq_true rfl) (fun X hX => ?_)
  replace hX : Cok X ids 3 cX7_pleads (some .int) (d + 1) RX7 := hX
  show Wg X ids 3 _ 0 [(0, .ref o), (1, .int a0), (2, .int a1)] [] σ
  have h := H (fun (σ : St) => (Wg X ids 3 (fun r σ1 => ∃ x, r = some (Value.int x) ∧ Q x σ1) 68 [(0, .ref o), (2, .int a1)] [] σ))
  replace h := h (fun σ h => by
    refine q_aload_n 0 hX dX7_pleads_68 rfl rfl ?_
    refine q_iload_n 1 hX dX7_pleads_69 rfl rfl ?_
    refine cl_X7_305 hX h_o dX7_pleads_70 (Nat.le_of_ble_eq_true rfl) h (fun x2 s1 h => ?_)
    exact q_ret hX dX7_pleads_73 ⟨_, rfl, h⟩
    )
  refine q_iload_n 1 hX dX7_pleads_0 rfl rfl ?_
  by_cases c3_0 : a0 = 2
  · refine q_tableIn (off := 31) 32 hX dX7_pleads_1 (by rw [c3_0]; decide) (by rw [c3_0]; decide) (by first | (rw [c3_0]; done) | (rw [c3_0]; rfl)) (by decide) ?_
    replace h := h.1 c3_0
    refine q_aload_n 0 hX dX7_pleads_32 rfl rfl ?_
    refine q_iload_n 2 hX dX7_pleads_33 rfl rfl ?_
    refine cl_X7_308 hX h_o dX7_pleads_34 (Nat.le_of_ble_eq_true rfl) h (fun x5 s4 h => ?_)
    exact q_ret hX dX7_pleads_37 ⟨_, rfl, h⟩
  by_cases c3_1 : a0 = 3
  · refine q_tableIn (off := 37) 38 hX dX7_pleads_1 (by rw [c3_1]; decide) (by rw [c3_1]; decide) (by first | (rw [c3_1]; done) | (rw [c3_1]; rfl)) (by decide) ?_
    replace h := h.2.1 c3_1
    refine q_aload_n 0 hX dX7_pleads_38 rfl rfl ?_
    refine q_bipush (v := 40) hX dX7_pleads_39 (by decide) ?_
    refine cl_X7_302 hX h_o dX7_pleads_41 (Nat.le_of_ble_eq_true rfl) h (fun s6 h => ?_)
    refine q_aload_n 0 hX dX7_pleads_44 rfl rfl ?_
    refine q_iload_n 2 hX dX7_pleads_45 rfl rfl ?_
    refine cl_X7_305 hX h_o dX7_pleads_46 (Nat.le_of_ble_eq_true rfl) h (fun x8 s7 h => ?_)
    refine q_ineg hX dX7_pleads_49 ?_
    exact q_ret hX dX7_pleads_50 ⟨_, rfl, h⟩
  by_cases c3_2 : a0 = 4
  · refine q_tableIn (off := 67) 68 hX dX7_pleads_1 (by rw [c3_2]; decide) (by rw [c3_2]; decide) (by first | (rw [c3_2]; done) | (rw [c3_2]; rfl)) (by decide) ?_
    replace h := h.2.2.1 c3_2
    exact Wg.sub [0, 2] rfl (h)
  by_cases c3_3 : a0 = 5
  · refine q_tableIn (off := 50) 51 hX dX7_pleads_1 (by rw [c3_3]; decide) (by rw [c3_3]; decide) (by first | (rw [c3_3]; done) | (rw [c3_3]; rfl)) (by decide) ?_
    replace h := h.2.2.2.1 c3_3
    refine q_aload_n 0 hX dX7_pleads_51 rfl rfl ?_
    refine q_bipush (v := 60) hX dX7_pleads_52 (by decide) ?_
    refine cl_X7_302 hX h_o dX7_pleads_54 (Nat.le_of_ble_eq_true rfl) h (fun s9 h => ?_)
    refine q_aload_n 0 hX dX7_pleads_57 rfl rfl ?_
    refine q_iload_n 2 hX dX7_pleads_58 rfl rfl ?_
    refine cl_X7_308 hX h_o dX7_pleads_59 (Nat.le_of_ble_eq_true rfl) h (fun x11 s10 h => ?_)
    refine q_aload_n 0 hX dX7_pleads_62 rfl rfl ?_
    refine gf_X7_52 hX h_o dX7_pleads_63 ?_
    refine q_ixor hX dX7_pleads_66 ?_
    exact q_ret hX dX7_pleads_67 ⟨_, rfl, h⟩
  refine q_tableOut 68 hX dX7_pleads_1 (by have e0 := ne_toInt (k := 2) c3_0 (by decide); have e1 := ne_toInt (k := 3) c3_1 (by decide); have e2 := ne_toInt (k := 4) c3_2 (by decide); have e3 := ne_toInt (k := 5) c3_3 (by decide); omega) (by decide) ?_
  replace h := h.2.2.2.2 c3_0 c3_1 c3_2 c3_3
  exact Wg.sub [0, 2] rfl (h)
set_option maxHeartbeats 4000000 in
set_option maxRecDepth 20000 in
theorem fl_X7_plainAdmits {d : Nat} {ids : List Nat} {o : Nat} {a0 : Int32} {a1 : Int32} {σ : St} {Q : Int32 → St → Prop} (h_o : IO ids o 7) (H : EV d ids Y_X7_body [.ref o, .int 11] σ (fun s1 => EI d ids Y_X7_pleads [.ref o, .int a0, .int a1] s1 (fun x3 s2 => Q (x3 - (gi s2 o 8)) s2))) : EI (d + 1) ids Y_X7_plainAdmits [.ref o, .int a0, .int a1] σ Q := by
  refine E_mk (by decide) (Nat.le_of_ble_eq_true rfl) (fun X hX => ?_)
  replace hX : Cok X ids 3 cX7_plainAdmits (some .int) (d + 1) RX7 := hX
  show Wg X ids 3 _ 0 [(0, .ref o), (1, .int a0), (2, .int a1)] [] σ
  have h := H
  refine q_aload_n 0 hX dX7_plainAdmits_0 rfl rfl ?_
  refine q_bipush (v := 11) hX dX7_plainAdmits_1 (by decide) ?_
  refine cl_X7_302 hX h_o dX7_plainAdmits_3 (Nat.le_of_ble_eq_true rfl) h (fun s1 h => ?_)
  refine q_aload_n 0 hX dX7_plainAdmits_6 rfl rfl ?_
  refine q_iload_n 1 hX dX7_plainAdmits_7 rfl rfl ?_
  refine q_iload_n 2 hX dX7_plainAdmits_8 rfl rfl ?_
  refine cl_X7_311 hX h_o dX7_plainAdmits_9 (Nat.le_of_ble_eq_true rfl) h (fun x3 s2 h => ?_)
  refine q_aload_n 0 hX dX7_plainAdmits_12 rfl rfl ?_
  refine gf_X7_52 hX h_o dX7_plainAdmits_13 ?_
  refine q_isub hX dX7_plainAdmits_16 ?_
  exact q_ret hX dX7_plainAdmits_17 ⟨_, rfl, h⟩
set_option maxHeartbeats 4000000 in
set_option maxRecDepth 20000 in
theorem fl_X7_admits {d : Nat} {ids : List Nat} {o : Nat} {a0 : Int32} {a1 : Int32} {σ : St} {Q : Int32 → St → Prop} (h_o : IO ids o 7) (H : ((a0 = 1 → EV d ids Y_X7_body [.ref o, .int 20] σ (fun s2 => EI d ids Y_X7_plainAdmits [.ref o, .int a0, .int a1] s2 (fun x4 s3 => Q (x4 ^^^ 5) s3))) ∧ (a0 = 5 → EV d ids Y_X7_body [.ref o, .int 61] σ (fun s5 => EI d ids Y_X7_plainAdmits [.ref o, .int a0, .int a1] s5 (fun x7 s6 => EI d ids Y_X7_excusePleads [.ref o, .int 2] s6 (fun x9 s8 => Q (x7 + x9) s8)))) ∧ (¬ a0 = 1 → ¬ a0 = 5 → EI d ids Y_X7_plainAdmits [.ref o, .int a0, .int a1] σ (fun x11 s10 => Q x11 s10)))) : EI (d + 1) ids Y_X7_admits [.ref o, .int a0, .int a1] σ Q := by
  refine E_mk (by decide) (Nat.le_of_ble_eq_true rfl) (fun X hX => ?_)
  replace hX : Cok X ids 4 cX7_admits (some .int) (d + 1) RX7 := hX
  show Wg X ids 4 _ 0 [(0, .ref o), (1, .int a0), (2, .int a1)] [] σ
  have h := H
  refine q_iload_n 1 hX dX7_admits_0 rfl rfl ?_
  by_cases c1_0 : a0 = 1
  · refine q_lookup (off := 27) 28 hX dX7_admits_1 (by decide) (by first | (rw [c1_0]; done) | (rw [c1_0]; rfl)) (by decide) ?_
    replace h := h.1 c1_0
    refine q_aload_n 0 hX dX7_admits_28 rfl rfl ?_
    refine q_bipush (v := 20) hX dX7_admits_29 (by decide) ?_
    refine cl_X7_302 hX h_o dX7_admits_31 (Nat.le_of_ble_eq_true rfl) h (fun s2 h => ?_)
    refine q_aload_n 0 hX dX7_admits_34 rfl rfl ?_
    refine q_iload_n 1 hX dX7_admits_35 rfl rfl ?_
    refine q_iload_n 2 hX dX7_admits_36 rfl rfl ?_
    refine cl_X7_315 hX h_o dX7_admits_37 (Nat.le_of_ble_eq_true rfl) h (fun x4 s3 h => ?_)
    refine q_iconst (v := 5) hX dX7_admits_40 (by decide) ?_
    refine q_ixor hX dX7_admits_41 ?_
    exact q_ret hX dX7_admits_42 ⟨_, rfl, h⟩
  by_cases c1_1 : a0 = 5
  · refine q_lookup (off := 42) 43 hX dX7_admits_1 (by decide) (by first | (rw [c1_1]; done) | (rw [c1_1]; rfl)) (by decide) ?_
    replace h := h.2.1 c1_1
    refine q_aload_n 0 hX dX7_admits_43 rfl rfl ?_
    refine q_bipush (v := 61) hX dX7_admits_44 (by decide) ?_
    refine cl_X7_302 hX h_o dX7_admits_46 (Nat.le_of_ble_eq_true rfl) h (fun s5 h => ?_)
    refine q_aload_n 0 hX dX7_admits_49 rfl rfl ?_
    refine q_iload_n 1 hX dX7_admits_50 rfl rfl ?_
    refine q_iload_n 2 hX dX7_admits_51 rfl rfl ?_
    refine cl_X7_315 hX h_o dX7_admits_52 (Nat.le_of_ble_eq_true rfl) h (fun x7 s6 h => ?_)
    refine q_istore_n (L' := [(3, .int x7), (0, .ref o), (1, .int a0), (2, .int a1)]) hX dX7_admits_55 rfl (by decide) rfl ?_
    refine q_iload_n 0 hX dX7_admits_56 rfl rfl ?_
    refine q_aload_n 1 hX dX7_admits_57 rfl rfl ?_
    refine q_iconst (v := 2) hX dX7_admits_58 (by decide) ?_
    refine cl_X7_308 hX h_o dX7_admits_59 (Nat.le_of_ble_eq_true rfl) h (fun x9 s8 h => ?_)
    refine q_iadd hX dX7_admits_62 ?_
    exact q_ret hX dX7_admits_63 ⟨_, rfl, h⟩
  refine q_lookup (off := 63) 64 hX dX7_admits_1 (by decide) (by have e0 := ne_toInt (k := 1) c1_0 (by decide); have e1 := ne_toInt (k := 5) c1_1 (by decide); simp [Op.lookupswitch.offset, e0, e1, e0.symm, e1.symm]) (by decide) ?_
  replace h := h.2.2 c1_0 c1_1
  refine q_aload_n 0 hX dX7_admits_64 rfl rfl ?_
  refine q_iload_n 1 hX dX7_admits_65 rfl rfl ?_
  refine q_iload_n 2 hX dX7_admits_66 rfl rfl ?_
  refine cl_X7_315 hX h_o dX7_admits_67 (Nat.le_of_ble_eq_true rfl) h (fun x11 s10 h => ?_)
  exact q_ret hX dX7_admits_70 ⟨_, rfl, h⟩
set_option maxHeartbeats 4000000 in
set_option maxRecDepth 20000 in
theorem fl_X7_plainTells {d : Nat} {ids : List Nat} {o : Nat} {a0 : Int32} {a1 : Int32} {σ : St} {Q : Int32 → St → Prop} (h_o : IO ids o 7) (H : EV d ids Y_X7_body [.ref o, .int 12] σ (fun s1 => EI d ids Y_X7_admits [.ref o, .int a0, .int a1] s1 (fun x3 s2 => Q (x3 * 2) s2))) : EI (d + 1) ids Y_X7_plainTells [.ref o, .int a0, .int a1] σ Q := by
  refine E_mk (by decide) (Nat.le_of_ble_eq_true rfl) (fun X hX => ?_)
  replace hX : Cok X ids 3 cX7_plainTells (some .int) (d + 1) RX7 := hX
  show Wg X ids 3 _ 0 [(0, .ref o), (1, .int a0), (2, .int a1)] [] σ
  have h := H
  refine q_aload_n 0 hX dX7_plainTells_0 rfl rfl ?_
  refine q_bipush (v := 12) hX dX7_plainTells_1 (by decide) ?_
  refine cl_X7_302 hX h_o dX7_plainTells_3 (Nat.le_of_ble_eq_true rfl) h (fun s1 h => ?_)
  refine q_aload_n 0 hX dX7_plainTells_6 rfl rfl ?_
  refine q_iload_n 1 hX dX7_plainTells_7 rfl rfl ?_
  refine q_iload_n 2 hX dX7_plainTells_8 rfl rfl ?_
  refine cl_X7_318 hX h_o dX7_plainTells_9 (Nat.le_of_ble_eq_true rfl) h (fun x3 s2 h => ?_)
  refine q_iconst (v := 2) hX dX7_plainTells_12 (by decide) ?_
  refine q_imul hX dX7_plainTells_13 ?_
  exact q_ret hX dX7_plainTells_14 ⟨_, rfl, h⟩
set_option maxHeartbeats 4000000 in
set_option maxRecDepth 20000 in
theorem fl_X7_tells {d : Nat} {ids : List Nat} {o : Nat} {a0 : Int32} {a1 : Int32} {σ : St} {Q : Int32 → St → Prop} (h_o : IO ids o 7) (H : ∀ (P36 : St → Prop) (P100 : St → Prop), (∀ (σ : St), (EV d ids Y_X7_body [.ref o, .int 31] σ (fun s1 => EI d ids Y_X7_plainTells [.ref o, .int a0, .int a1] s1 (fun x3 s2 => EI d ids Y_X7_admits [.ref o, .int a0, .int 1] s2 (fun x5 s4 => Q (x3 + x5) s4)))) → P36 σ) → (∀ (σ : St), (EI d ids Y_X7_plainTells [.ref o, .int a0, .int a1] σ (fun x7 s6 => Q x7 s6)) → P100 σ) → ((a0 = 2 → P36 σ) ∧ (a0 = 3 → P100 σ) ∧ (a0 = 4 → EV d ids Y_X7_body [.ref o, .int 50] σ (fun s9 => EI d ids Y_X7_plainTells [.ref o, .int a0, .int (a1 - (gi s9 o 0))] s9 (fun x11 s10 => Q x11 s10))) ∧ (a0 = 5 → P36 σ) ∧ (a0 = 6 → EV d ids Y_X7_body [.ref o, .int 70] σ (fun s12 => EI d ids Y_X7_admits [.ref o, .int a0, .int a1] s12 (fun x14 s13 => EI d ids Y_X7_plainTells [.ref o, .int a0, .int a1] s13 (fun x16 s15 => Q (x14 - x16) s15)))) ∧ (¬ a0 = 2 → ¬ a0 = 3 → ¬ a0 = 4 → ¬ a0 = 5 → ¬ a0 = 6 → P100 σ))) : EI (d + 1) ids Y_X7_tells [.ref o, .int a0, .int a1] σ Q := by
  refine E_mk (by decide) (Nat.le_of_ble_eq_true rfl) (fun X hX => ?_)
  replace hX : Cok X ids 5 cX7_tells (some .int) (d + 1) RX7 := hX
  show Wg X ids 5 _ 0 [(0, .ref o), (1, .int a0), (2, .int a1)] [] σ
  have h := H (fun (σ : St) => (Wg X ids 5 (fun r σ1 => ∃ x, r = some (Value.int x) ∧ Q x σ1) 36 [(0, .ref o), (1, .int a0), (2, .int a1)] [] σ)) (fun (σ : St) => (Wg X ids 5 (fun r σ1 => ∃ x, r = some (Value.int x) ∧ Q x σ1) 100 [(0, .ref o), (1, .int a0), (2, .int a1)] [] σ))
  replace h := h (fun σ h => by
    refine q_aload_n 0 hX dX7_tells_36 rfl rfl ?_
    refine q_bipush (v := 31) hX dX7_tells_37 (by decide) ?_
    refine cl_X7_302 hX h_o dX7_tells_39 (Nat.le_of_ble_eq_true rfl) h (fun s1 h => ?_)
    refine q_aload_n 0 hX dX7_tells_42 rfl rfl ?_
    refine q_iload_n 1 hX dX7_tells_43 rfl rfl ?_
    refine q_iload_n 2 hX dX7_tells_44 rfl rfl ?_
    refine cl_X7_321 hX h_o dX7_tells_45 (Nat.le_of_ble_eq_true rfl) h (fun x3 s2 h => ?_)
    refine q_istore_n (L' := [(3, .int x3), (0, .ref o), (1, .int a0), (2, .int a1)]) hX dX7_tells_48 rfl (by decide) rfl ?_
    refine q_iload_n 0 hX dX7_tells_49 rfl rfl ?_
    refine q_aload_n 1 hX dX7_tells_50 rfl rfl ?_
    refine q_iload_n 2 hX dX7_tells_51 rfl rfl ?_
    refine q_iconst (v := 1) hX dX7_tells_52 (by decide) ?_
    refine cl_X7_318 hX h_o dX7_tells_53 (Nat.le_of_ble_eq_true rfl) h (fun x5 s4 h => ?_)
    refine q_iadd hX dX7_tells_56 ?_
    exact q_ret hX dX7_tells_57 ⟨_, rfl, h⟩
    )
  replace h := h (fun σ h => by
    refine q_aload_n 0 hX dX7_tells_100 rfl rfl ?_
    refine q_iload_n 1 hX dX7_tells_101 rfl rfl ?_
    refine q_iload_n 2 hX dX7_tells_102 rfl rfl ?_
    refine cl_X7_321 hX h_o dX7_tells_103 (Nat.le_of_ble_eq_true rfl) h (fun x7 s6 h => ?_)
    exact q_ret hX dX7_tells_106 ⟨_, rfl, h⟩
    )
  refine q_iload_n 1 hX dX7_tells_0 rfl rfl ?_
  by_cases c8_0 : a0 = 2
  · refine q_tableIn (off := 35) 36 hX dX7_tells_1 (by rw [c8_0]; decide) (by rw [c8_0]; decide) (by first | (rw [c8_0]; done) | (rw [c8_0]; rfl)) (by decide) ?_
    replace h := h.1 c8_0
    exact Wg.sub [0, 1, 2] rfl (h)
  by_cases c8_1 : a0 = 3
  · refine q_tableIn (off := 99) 100 hX dX7_tells_1 (by rw [c8_1]; decide) (by rw [c8_1]; decide) (by first | (rw [c8_1]; done) | (rw [c8_1]; rfl)) (by decide) ?_
    replace h := h.2.1 c8_1
    exact Wg.sub [0, 1, 2] rfl (h)
  by_cases c8_2 : a0 = 4
  · refine q_tableIn (off := 57) 58 hX dX7_tells_1 (by rw [c8_2]; decide) (by rw [c8_2]; decide) (by first | (rw [c8_2]; done) | (rw [c8_2]; rfl)) (by decide) ?_
    replace h := h.2.2.1 c8_2
    refine q_aload_n 0 hX dX7_tells_58 rfl rfl ?_
    refine q_bipush (v := 50) hX dX7_tells_59 (by decide) ?_
    refine cl_X7_302 hX h_o dX7_tells_61 (Nat.le_of_ble_eq_true rfl) h (fun s9 h => ?_)
    refine q_aload_n 0 hX dX7_tells_64 rfl rfl ?_
    refine q_iload_n 1 hX dX7_tells_65 rfl rfl ?_
    refine q_iload_n 2 hX dX7_tells_66 rfl rfl ?_
    refine q_aload_n 0 hX dX7_tells_67 rfl rfl ?_
    refine gf_X7_7 hX h_o dX7_tells_68 ?_
    refine q_isub hX dX7_tells_71 ?_
    refine cl_X7_321 hX h_o dX7_tells_72 (Nat.le_of_ble_eq_true rfl) h (fun x11 s10 h => ?_)
    exact q_ret hX dX7_tells_75 ⟨_, rfl, h⟩
  by_cases c8_3 : a0 = 5
  · refine q_tableIn (off := 35) 36 hX dX7_tells_1 (by rw [c8_3]; decide) (by rw [c8_3]; decide) (by first | (rw [c8_3]; done) | (rw [c8_3]; rfl)) (by decide) ?_
    replace h := h.2.2.2.1 c8_3
    exact Wg.sub [0, 1, 2] rfl (h)
  by_cases c8_4 : a0 = 6
  · refine q_tableIn (off := 75) 76 hX dX7_tells_1 (by rw [c8_4]; decide) (by rw [c8_4]; decide) (by first | (rw [c8_4]; done) | (rw [c8_4]; rfl)) (by decide) ?_
    replace h := h.2.2.2.2.1 c8_4
    refine q_aload_n 0 hX dX7_tells_76 rfl rfl ?_
    refine q_bipush (v := 70) hX dX7_tells_77 (by decide) ?_
    refine cl_X7_302 hX h_o dX7_tells_79 (Nat.le_of_ble_eq_true rfl) h (fun s12 h => ?_)
    refine q_aload_n 0 hX dX7_tells_82 rfl rfl ?_
    refine q_iload_n 1 hX dX7_tells_83 rfl rfl ?_
    refine q_iload_n 2 hX dX7_tells_84 rfl rfl ?_
    refine cl_X7_318 hX h_o dX7_tells_85 (Nat.le_of_ble_eq_true rfl) h (fun x14 s13 h => ?_)
    refine q_istore (L' := [(4, .int x14), (0, .ref o), (1, .int a0), (2, .int a1)]) hX dX7_tells_88 (by decide) rfl ?_
    refine q_iload 0 hX dX7_tells_90 rfl ?_
    refine q_aload_n 1 hX dX7_tells_92 rfl rfl ?_
    refine q_iload_n 2 hX dX7_tells_93 rfl rfl ?_
    refine q_iload_n 3 hX dX7_tells_94 rfl rfl ?_
    refine cl_X7_321 hX h_o dX7_tells_95 (Nat.le_of_ble_eq_true rfl) h (fun x16 s15 h => ?_)
    refine q_isub hX dX7_tells_98 ?_
    exact q_ret hX dX7_tells_99 ⟨_, rfl, h⟩
  refine q_tableOut 100 hX dX7_tells_1 (by have e0 := ne_toInt (k := 2) c8_0 (by decide); have e1 := ne_toInt (k := 3) c8_1 (by decide); have e2 := ne_toInt (k := 4) c8_2 (by decide); have e3 := ne_toInt (k := 5) c8_3 (by decide); have e4 := ne_toInt (k := 6) c8_4 (by decide); omega) (by decide) ?_
  replace h := h.2.2.2.2.2 c8_0 c8_1 c8_2 c8_3 c8_4
  exact Wg.sub [0, 1, 2] rfl (h)
set_option maxHeartbeats 4000000 in
set_option maxRecDepth 20000 in
theorem fl_X7_act {d : Nat} {ids : List Nat} {o : Nat} {a0 : Int32} {a1 : Int32} {a2 : Int32} {σ : St} {Q : Int32 → St → Prop} (h_o : IO ids o 7) (H : ∀ s1 : St, s1 = si σ o 45 0 → EI d ids Y_X7_in [.ref o, .int a0, .int 0, .int 6] s1 (fun x3 s2 => ((x3 = 0 → Q 0 s2) ∧ (¬ x3 = 0 → EI d ids Y_X7_in [.ref o, .int a1, .int 0, .int 2] s2 (fun x6 s5 => ((¬ x6 = 0 → ((¬ a1 = 0 → ((¬ a1 = 1 → EI d ids Y_X7_tells [.ref o, .int a0, .int a2] s5 (fun x11 s10 => Q x11 s10)) ∧ (a1 = 1 → EI d ids Y_X7_admits [.ref o, .int a0, .int a2] s5 (fun x13 s12 => Q x13 s12)))) ∧ (a1 = 0 → EI d ids Y_X7_pleads [.ref o, .int a0, .int a2] s5 (fun x15 s14 => Q x15 s14)))) ∧ (x6 = 0 → Q 0 s5))))))) : EI (d + 1) ids Y_X7_act [.ref o, .int a0, .int a1, .int a2] σ Q := by
  refine E_mk (by decide) (Nat.le_of_ble_eq_true rfl) (fun X hX => ?_)
  replace hX : Cok X ids 4 cX7_act (some .int) (d + 1) RX7 := hX
  show Wg X ids 4 _ 0 [(0, .ref o), (1, .int a0), (2, .int a1), (3, .int a2)] [] σ
  have h := H
  refine q_aload_n 0 hX dX7_act_0 rfl rfl ?_
  refine q_iconst (v := 0) hX dX7_act_1 (by decide) ?_
  refine pf_X7_217 hX h_o dX7_act_2 ?_
  refine Wg.nmS (fun s1 es1 => ?_)
  replace h := h s1 es1
  refine q_aload_n 0 hX dX7_act_5 rfl rfl ?_
  refine q_iload_n 1 hX dX7_act_6 rfl rfl ?_
  refine q_iconst (v := 0) hX dX7_act_7 (by decide) ?_
  refine q_bipush (v := 6) hX dX7_act_8 (by decide) ?_
  refine cl_X7_1 hX h_o dX7_act_10 (Nat.le_of_ble_eq_true rfl) h (fun x3 s2 h => ?_)
  refine q_if_eq 26 hX dX7_act_13 (by decide) (fun c4 => ?_) (fun c4 => ?_)
  · replace h := h.1 c4
    refine q_iconst (v := 0) hX dX7_act_26 (by decide) ?_
    exact q_ret hX dX7_act_27 ⟨_, rfl, h⟩
  · replace h := h.2 c4
    refine q_aload_n 0 hX dX7_act_16 rfl rfl ?_
    refine q_iload_n 2 hX dX7_act_17 rfl rfl ?_
    refine q_iconst (v := 0) hX dX7_act_18 (by decide) ?_
    refine q_iconst (v := 2) hX dX7_act_19 (by decide) ?_
    refine cl_X7_1 hX h_o dX7_act_20 (Nat.le_of_ble_eq_true rfl) h (fun x6 s5 h => ?_)
    refine q_if_ne 28 hX dX7_act_23 (by decide) (fun c7 => ?_) (fun c7 => ?_)
    · replace h := h.1 c7
      refine q_iload_n 2 hX dX7_act_28 rfl rfl ?_
      refine q_if_ne 41 hX dX7_act_29 (by decide) (fun c8 => ?_) (fun c8 => ?_)
      · replace h := h.1 c8
        refine q_iload_n 2 hX dX7_act_41 rfl rfl ?_
        refine q_iconst (v := 1) hX dX7_act_42 (by decide) ?_
        refine q_icmp_ne 55 hX dX7_act_43 (by decide) (fun c9 => ?_) (fun c9 => ?_)
        · replace h := h.1 c9
          refine q_aload_n 0 hX dX7_act_55 rfl rfl ?_
          refine q_iload_n 1 hX dX7_act_56 rfl rfl ?_
          refine q_iload_n 3 hX dX7_act_57 rfl rfl ?_
          refine cl_X7_324 hX h_o dX7_act_58 (Nat.le_of_ble_eq_true rfl) h (fun x11 s10 h => ?_)
          exact q_ret hX dX7_act_61 ⟨_, rfl, h⟩
        · replace h := h.2 c9
          refine q_aload_n 0 hX dX7_act_46 rfl rfl ?_
          refine q_iload_n 1 hX dX7_act_47 rfl rfl ?_
          refine q_iload_n 3 hX dX7_act_48 rfl rfl ?_
          refine cl_X7_318 hX h_o dX7_act_49 (Nat.le_of_ble_eq_true rfl) h (fun x13 s12 h => ?_)
          refine q_goto 61 hX dX7_act_52 (by decide) ?_
          exact q_ret hX dX7_act_61 ⟨_, rfl, h⟩
      · replace h := h.2 c8
        refine q_aload_n 0 hX dX7_act_32 rfl rfl ?_
        refine q_iload_n 1 hX dX7_act_33 rfl rfl ?_
        refine q_iload_n 3 hX dX7_act_34 rfl rfl ?_
        refine cl_X7_311 hX h_o dX7_act_35 (Nat.le_of_ble_eq_true rfl) h (fun x15 s14 h => ?_)
        refine q_goto 61 hX dX7_act_38 (by decide) ?_
        exact q_ret hX dX7_act_61 ⟨_, rfl, h⟩
    · replace h := h.2 c7
      refine q_iconst (v := 0) hX dX7_act_26 (by decide) ?_
      exact q_ret hX dX7_act_27 ⟨_, rfl, h⟩
set_option maxHeartbeats 4000000 in
set_option maxRecDepth 20000 in
theorem fl_X7_trace {d : Nat} {ids : List Nat} {o : Nat} {a0 : Int32} {σ : St} {Q : Int32 → St → Prop} (h_o : IO ids o 7) (H : EI d ids Y_X7_in [.ref o, .int a0, .int 0, .int 19] σ (fun x2 s1 => ((x2 = 0 → Q (-1) s1) ∧ (¬ x2 = 0 → (((gi s1 o 45) ≤ a0 → Q (-1) s1) ∧ (¬ ((gi s1 o 45) ≤ a0) → vp_in a0 20 ∧ Q (gi s1 (rf o 46) (Int32.toNatClampNeg a0)) s1)))))) : EI (d + 1) ids Y_X7_trace [.ref o, .int a0] σ Q := by
  refine E_mk (by decide) (Nat.le_of_ble_eq_true rfl) (fun X hX => ?_)
  replace hX : Cok X ids 2 cX7_trace (some .int) (d + 1) RX7 := hX
  show Wg X ids 2 _ 0 [(0, .ref o), (1, .int a0)] [] σ
  have h := H
  refine q_aload_n 0 hX dX7_trace_0 rfl rfl ?_
  refine q_iload_n 1 hX dX7_trace_1 rfl rfl ?_
  refine q_iconst (v := 0) hX dX7_trace_2 (by decide) ?_
  refine q_bipush (v := 19) hX dX7_trace_3 (by decide) ?_
  refine cl_X7_1 hX h_o dX7_trace_5 (Nat.le_of_ble_eq_true rfl) h (fun x2 s1 h => ?_)
  refine q_if_eq 28 hX dX7_trace_8 (by decide) (fun c3 => ?_) (fun c3 => ?_)
  · replace h := h.1 c3
    refine q_iconst (v := (-1)) hX dX7_trace_28 (by decide) ?_
    exact q_ret hX dX7_trace_29 ⟨_, rfl, h⟩
  · replace h := h.2 c3
    refine q_iload_n 1 hX dX7_trace_11 rfl rfl ?_
    refine q_aload_n 0 hX dX7_trace_12 rfl rfl ?_
    refine gf_X7_217 hX h_o dX7_trace_13 ?_
    refine q_icmp_ge 28 hX dX7_trace_16 (by decide) (fun c4 => ?_) (fun c4 => ?_)
    · replace h := h.1 c4
      refine q_iconst (v := (-1)) hX dX7_trace_28 (by decide) ?_
      exact q_ret hX dX7_trace_29 ⟨_, rfl, h⟩
    · replace h := h.2 c4
      refine q_aload_n 0 hX dX7_trace_19 rfl rfl ?_
      refine gf_X7_220 hX h_o dX7_trace_20 ?_
      refine q_iload_n 1 hX dX7_trace_23 rfl rfl ?_
      obtain ⟨b5, h⟩ := h
      refine q_iald hX dX7_trace_24 (rfO_7_46 h_o) b5 ?_
      refine q_goto 29 hX dX7_trace_25 (by decide) ?_
      exact q_ret hX dX7_trace_29 ⟨_, rfl, h⟩
set_option maxHeartbeats 4000000 in
set_option maxRecDepth 20000 in
theorem fl_X7_taken {d : Nat} {ids : List Nat} {o : Nat} {a0 : Int32} {a1 : Int32} {σ : St} {Q : Int32 → St → Prop} (h_o : IO ids o 7) (H : ∀ (P47 : St → Prop), (∀ (σ : St), (Q a0 σ) → P47 σ) → EI d ids Y_X7_in [.ref o, .int a1, .int 0, .int 6] σ (fun x2 s1 => ((¬ x2 = 0 → EI d ids Y_X7_in [.ref o, .int a0, .int 0, .int 6] s1 (fun x5 s4 => ((¬ x5 = 0 → ((a1 = 0 → P47 s4) ∧ (¬ a1 = 0 → ((a0 = a1 → P47 s4) ∧ (¬ a0 = a1 → ((¬ a1 = 2 → Q (-12) s4) ∧ (a1 = 2 → ((¬ a0 = 5 → Q (-12) s4) ∧ (a0 = 5 → P47 s4))))))))) ∧ (x5 = 0 → Q (-11) s4)))) ∧ (x2 = 0 → Q (-2) s1)))) : EI (d + 1) ids Y_X7_taken [.ref o, .int a0, .int a1] σ Q := by
  refine E_mk (by decide) (Nat.le_of_ble_eq_true rfl) (fun X hX => ?_)
  replace hX : Cok X ids 3 cX7_taken (some .int) (d + 1) RX7 := hX
  show Wg X ids 3 _ 0 [(0, .ref o), (1, .int a0), (2, .int a1)] [] σ
  have h := H (fun (σ : St) => (Wg X ids 3 (fun r σ1 => ∃ x, r = some (Value.int x) ∧ Q x σ1) 47 [(1, .int a0)] [] σ))
  replace h := h (fun σ h => by
    refine q_iload_n 0 hX dX7_taken_47 rfl rfl ?_
    refine q_goto 53 hX dX7_taken_48 (by decide) ?_
    exact q_ret hX dX7_taken_53 ⟨_, rfl, h⟩
    )
  refine q_aload_n 0 hX dX7_taken_0 rfl rfl ?_
  refine q_iload_n 2 hX dX7_taken_1 rfl rfl ?_
  refine q_iconst (v := 0) hX dX7_taken_2 (by decide) ?_
  refine q_bipush (v := 6) hX dX7_taken_3 (by decide) ?_
  refine cl_X7_1 hX h_o dX7_taken_5 (Nat.le_of_ble_eq_true rfl) h (fun x2 s1 h => ?_)
  refine q_if_ne 14 hX dX7_taken_8 (by decide) (fun c3 => ?_) (fun c3 => ?_)
  · replace h := h.1 c3
    refine q_aload_n 0 hX dX7_taken_14 rfl rfl ?_
    refine q_iload_n 1 hX dX7_taken_15 rfl rfl ?_
    refine q_iconst (v := 0) hX dX7_taken_16 (by decide) ?_
    refine q_bipush (v := 6) hX dX7_taken_17 (by decide) ?_
    refine cl_X7_1 hX h_o dX7_taken_19 (Nat.le_of_ble_eq_true rfl) h (fun x5 s4 h => ?_)
    refine q_if_ne 28 hX dX7_taken_22 (by decide) (fun c6 => ?_) (fun c6 => ?_)
    · replace h := h.1 c6
      refine q_iload_n 2 hX dX7_taken_28 rfl rfl ?_
      refine q_if_eq 47 hX dX7_taken_29 (by decide) (fun c7 => ?_) (fun c7 => ?_)
      · replace h := h.1 c7
        exact Wg.sub [1] rfl (h)
      · replace h := h.2 c7
        refine q_iload_n 1 hX dX7_taken_32 rfl rfl ?_
        refine q_iload_n 2 hX dX7_taken_33 rfl rfl ?_
        refine q_icmp_eq 47 hX dX7_taken_34 (by decide) (fun c8 => ?_) (fun c8 => ?_)
        · replace h := h.1 c8
          exact Wg.sub [1] rfl (h)
        · replace h := h.2 c8
          refine q_iload_n 2 hX dX7_taken_37 rfl rfl ?_
          refine q_iconst (v := 2) hX dX7_taken_38 (by decide) ?_
          refine q_icmp_ne 51 hX dX7_taken_39 (by decide) (fun c9 => ?_) (fun c9 => ?_)
          · replace h := h.1 c9
            refine q_bipush (v := (-12)) hX dX7_taken_51 (by decide) ?_
            exact q_ret hX dX7_taken_53 ⟨_, rfl, h⟩
          · replace h := h.2 c9
            refine q_iload_n 1 hX dX7_taken_42 rfl rfl ?_
            refine q_iconst (v := 5) hX dX7_taken_43 (by decide) ?_
            refine q_icmp_ne 51 hX dX7_taken_44 (by decide) (fun c10 => ?_) (fun c10 => ?_)
            · replace h := h.1 c10
              refine q_bipush (v := (-12)) hX dX7_taken_51 (by decide) ?_
              exact q_ret hX dX7_taken_53 ⟨_, rfl, h⟩
            · replace h := h.2 c10
              exact Wg.sub [1] rfl (h)
    · replace h := h.2 c6
      refine q_bipush (v := (-11)) hX dX7_taken_25 (by decide) ?_
      exact q_ret hX dX7_taken_27 ⟨_, rfl, h⟩
  · replace h := h.2 c3
    refine q_bipush (v := (-2)) hX dX7_taken_11 (by decide) ?_
    exact q_ret hX dX7_taken_13 ⟨_, rfl, h⟩
set_option maxHeartbeats 4000000 in
set_option maxRecDepth 20000 in
theorem fl_X7_count {d : Nat} {ids : List Nat} {o : Nat} {a0 : Int32} {σ : St} {Q : Int32 → St → Prop} (h_o : IO ids o 7) (H : ((a0 = 0 → Q (gi σ o 0) σ) ∧ (a0 = 1 → Q (gi σ o 8) σ) ∧ (a0 = 2 → Q (gi σ o 9) σ) ∧ (a0 = 3 → Q (gi σ o 26) σ) ∧ (a0 = 4 → Q (gi σ o 45) σ) ∧ (¬ a0 = 0 → ¬ a0 = 1 → ¬ a0 = 2 → ¬ a0 = 3 → ¬ a0 = 4 → Q (-2) σ))) : EI (d + 1) ids Y_X7_count [.ref o, .int a0] σ Q := by
  refine E_mk (by decide) (Nat.le_of_ble_eq_true rfl) (fun X hX => ?_)
  replace hX : Cok X ids 2 cX7_count (some .int) (d + 1) RX7 := hX
  show Wg X ids 2 _ 0 [(0, .ref o), (1, .int a0)] [] σ
  have h := H
  refine q_iload_n 1 hX dX7_count_0 rfl rfl ?_
  by_cases c1_0 : a0 = 0
  · refine q_tableIn (off := 35) 36 hX dX7_count_1 (by rw [c1_0]; decide) (by rw [c1_0]; decide) (by first | (rw [c1_0]; done) | (rw [c1_0]; rfl)) (by decide) ?_
    replace h := h.1 c1_0
    refine q_aload_n 0 hX dX7_count_36 rfl rfl ?_
    refine gf_X7_7 hX h_o dX7_count_37 ?_
    exact q_ret hX dX7_count_40 ⟨_, rfl, h⟩
  by_cases c1_1 : a0 = 1
  · refine q_tableIn (off := 40) 41 hX dX7_count_1 (by rw [c1_1]; decide) (by rw [c1_1]; decide) (by first | (rw [c1_1]; done) | (rw [c1_1]; rfl)) (by decide) ?_
    replace h := h.2.1 c1_1
    refine q_aload_n 0 hX dX7_count_41 rfl rfl ?_
    refine gf_X7_52 hX h_o dX7_count_42 ?_
    exact q_ret hX dX7_count_45 ⟨_, rfl, h⟩
  by_cases c1_2 : a0 = 2
  · refine q_tableIn (off := 45) 46 hX dX7_count_1 (by rw [c1_2]; decide) (by rw [c1_2]; decide) (by first | (rw [c1_2]; done) | (rw [c1_2]; rfl)) (by decide) ?_
    replace h := h.2.2.1 c1_2
    refine q_aload_n 0 hX dX7_count_46 rfl rfl ?_
    refine gf_X7_55 hX h_o dX7_count_47 ?_
    exact q_ret hX dX7_count_50 ⟨_, rfl, h⟩
  by_cases c1_3 : a0 = 3
  · refine q_tableIn (off := 50) 51 hX dX7_count_1 (by rw [c1_3]; decide) (by rw [c1_3]; decide) (by first | (rw [c1_3]; done) | (rw [c1_3]; rfl)) (by decide) ?_
    replace h := h.2.2.2.1 c1_3
    refine q_aload_n 0 hX dX7_count_51 rfl rfl ?_
    refine gf_X7_160 hX h_o dX7_count_52 ?_
    exact q_ret hX dX7_count_55 ⟨_, rfl, h⟩
  by_cases c1_4 : a0 = 4
  · refine q_tableIn (off := 55) 56 hX dX7_count_1 (by rw [c1_4]; decide) (by rw [c1_4]; decide) (by first | (rw [c1_4]; done) | (rw [c1_4]; rfl)) (by decide) ?_
    replace h := h.2.2.2.2.1 c1_4
    refine q_aload_n 0 hX dX7_count_56 rfl rfl ?_
    refine gf_X7_217 hX h_o dX7_count_57 ?_
    exact q_ret hX dX7_count_60 ⟨_, rfl, h⟩
  refine q_tableOut 61 hX dX7_count_1 (by have e0 := ne_toInt (k := 0) c1_0 (by decide); have e1 := ne_toInt (k := 1) c1_1 (by decide); have e2 := ne_toInt (k := 2) c1_2 (by decide); have e3 := ne_toInt (k := 3) c1_3 (by decide); have e4 := ne_toInt (k := 4) c1_4 (by decide); omega) (by decide) ?_
  replace h := h.2.2.2.2.2 c1_0 c1_1 c1_2 c1_3 c1_4
  refine q_bipush (v := (-2)) hX dX7_count_61 (by decide) ?_
  exact q_ret hX dX7_count_63 ⟨_, rfl, h⟩
set_option maxHeartbeats 4000000 in
set_option maxRecDepth 20000 in
theorem fl_X7_isTape {d : Nat} {ids : List Nat} {o : Nat} {a0 : Int32} {σ : St} {Q : Int32 → St → Prop} (h_o : IO ids o 7) (H : EI d ids Y_X7_in [.ref o, .int a0, .int 0, .int 5] σ (fun x2 s1 => ((x2 = 0 ∨ x2 = 1) ∧ Q x2 s1))) : EI (d + 1) ids Y_X7_isTape [.ref o, .int a0] σ Q := by
  refine E_mk (by decide) (Nat.le_of_ble_eq_true rfl) (fun X hX => ?_)
  replace hX : Cok X ids 2 cX7_isTape (some .boolean) (d + 1) RX7 := hX
  show Wg X ids 2 _ 0 [(0, .ref o), (1, .int a0)] [] σ
  have h := H
  refine q_aload_n 0 hX dX7_isTape_0 rfl rfl ?_
  refine q_iload_n 1 hX dX7_isTape_1 rfl rfl ?_
  refine q_iconst (v := 0) hX dX7_isTape_2 (by decide) ?_
  refine q_iconst (v := 5) hX dX7_isTape_3 (by decide) ?_
  refine cl_X7_1 hX h_o dX7_isTape_4 (Nat.le_of_ble_eq_true rfl) h (fun x2 s1 h => ?_)
  exact q_zret hX dX7_isTape_7 h.1 ⟨_, rfl, h.2⟩
set_option maxHeartbeats 4000000 in
set_option maxRecDepth 20000 in
theorem fl_X7_tape {d : Nat} {ids : List Nat} {o : Nat} {a0 : Int32} {a1 : Int32} {a2 : Int32} {σ : St} {Q : Int32 → St → Prop} (h_o : IO ids o 7) (H : ∀ (P33 : St → Prop) (P44 : St → Prop) (P65 : Int32 → Int32 → Nat → St → Prop) (P69 : Int32 → St → Prop), (∀ (σ : St), (((a1 < 0 → P44 σ) ∧ (¬ (a1 < 0) → ((0 ≤ a2 → P44 σ) ∧ (¬ (0 ≤ a2) → Q (-14) σ))))) → P33 σ) → (∀ (σ : St), (vp_in a0 6 ∧ ∀ s4 : St, s4 = si σ (rf o 47) (Int32.toNatClampNeg a0) a1 → ((0 ≤ a1 → P65 a2 a0 (rf o 48) s4) ∧ (¬ (0 ≤ a1) → P65 0 a0 (rf o 48) s4))) → P44 σ) → (∀ (t0 : Int32) (t1 : Int32) (t2 : Nat) (σ : St), (IA ids t2 0 6 → vp_in t1 6 ∧ ∀ s7 : St, s7 = si σ t2 (Int32.toNatClampNeg t1) t0 → P69 0 s7) → P65 t0 t1 t2 σ) → (∀ (v4 : Int32) (σ : St), (((60 ≤ v4 → Q 1 σ) ∧ (¬ (60 ≤ v4) → vp_in ((60 * a0) + v4) 360 ∧ ∀ s10 : St, s10 = sl σ (rf o 49) (Int32.toNatClampNeg ((60 * a0) + v4)) 0 → ∀ x11 : Int32, x11 = v4 + 1 → P69 x11 s10))) → P69 v4 σ) → EI d ids Y_X7_isTape [.ref o, .int a0] σ (fun x13 s12 => ((¬ x13 = 0 → EI d ids Y_X7_in [.ref o, .int a1, .int (-1), .int 4] s12 (fun x16 s15 => ((x16 = 0 → Q (-2) s15) ∧ (¬ x16 = 0 → ((a1 < 0 → P33 s15) ∧ (¬ (a1 < 0) → ((a2 ≤ 60 → P33 s15) ∧ (¬ (a2 ≤ 60) → Q (-2) s15)))))))) ∧ (x13 = 0 → Q (-1) s12)))) : EI (d + 1) ids Y_X7_tape [.ref o, .int a0, .int a1, .int a2] σ Q := by
  refine E_mk (by decide) (Nat.le_of_ble_eq_true rfl) (fun X hX => ?_)
  replace hX : Cok X ids 5 cX7_tape (some .int) (d + 1) RX7 := hX
  show Wg X ids 5 _ 0 [(0, .ref o), (1, .int a0), (2, .int a1), (3, .int a2)] [] σ
  have h := H (fun (σ : St) => (Wg X ids 5 (fun r σ1 => ∃ x, r = some (Value.int x) ∧ Q x σ1) 33 [(0, .ref o), (1, .int a0), (2, .int a1), (3, .int a2)] [] σ)) (fun (σ : St) => (Wg X ids 5 (fun r σ1 => ∃ x, r = some (Value.int x) ∧ Q x σ1) 44 [(0, .ref o), (1, .int a0), (2, .int a1), (3, .int a2)] [] σ)) (fun (t0 : Int32) (t1 : Int32) (t2 : Nat) (σ : St) => (IA ids t2 0 6 → Wg X ids 5 (fun r σ1 => ∃ x, r = some (Value.int x) ∧ Q x σ1) 65 [(0, .ref o), (1, .int a0)] [.int t0, .int t1, .ref t2] σ)) (fun (v4 : Int32) (σ : St) => (Wg X ids 5 (fun r σ1 => ∃ x, r = some (Value.int x) ∧ Q x σ1) 69 [(0, .ref o), (1, .int a0), (4, .int v4)] [] σ))
  replace h := h (fun σ h => by
    refine q_iload_n 2 hX dX7_tape_33 rfl rfl ?_
    refine q_if_lt 44 hX dX7_tape_34 (by decide) (fun c1 => ?_) (fun c1 => ?_)
    · replace h := h.1 c1
      exact Wg.sub [0, 1, 2, 3] rfl (h)
    · replace h := h.2 c1
      refine q_iload_n 3 hX dX7_tape_37 rfl rfl ?_
      refine q_if_ge 44 hX dX7_tape_38 (by decide) (fun c2 => ?_) (fun c2 => ?_)
      · replace h := h.1 c2
        exact Wg.sub [0, 1, 2, 3] rfl (h)
      · replace h := h.2 c2
        refine q_bipush (v := (-14)) hX dX7_tape_41 (by decide) ?_
        exact q_ret hX dX7_tape_43 ⟨_, rfl, h⟩
    )
  replace h := h (fun σ h => by
    refine q_aload_n 0 hX dX7_tape_44 rfl rfl ?_
    refine gf_X7_223 hX h_o dX7_tape_45 ?_
    refine q_iload_n 1 hX dX7_tape_48 rfl rfl ?_
    refine q_iload_n 2 hX dX7_tape_49 rfl rfl ?_
    obtain ⟨b3, h⟩ := h
    refine q_iast hX dX7_tape_50 (rfO_7_47 h_o) b3 ?_
    refine Wg.nmS (fun s4 es4 => ?_)
    replace h := h s4 es4
    refine q_aload_n 0 hX dX7_tape_51 rfl rfl ?_
    refine gf_X7_226 hX h_o dX7_tape_52 ?_
    refine q_iload_n 1 hX dX7_tape_55 rfl rfl ?_
    refine q_iload_n 2 hX dX7_tape_56 rfl rfl ?_
    refine q_if_ge 64 hX dX7_tape_57 (by decide) (fun c5 => ?_) (fun c5 => ?_)
    · replace h := h.1 c5
      refine q_iload_n 3 hX dX7_tape_64 rfl rfl ?_
      exact Wg.sub [0, 1] rfl (h ((rfO_7_48 h_o)))
    · replace h := h.2 c5
      refine q_iconst (v := 0) hX dX7_tape_60 (by decide) ?_
      refine q_goto 65 hX dX7_tape_61 (by decide) ?_
      exact Wg.sub [0, 1] rfl (h ((rfO_7_48 h_o)))
    )
  replace h := h (fun t0 t1 t2 σ h h_t2 => by
    replace h := h h_t2
    obtain ⟨b6, h⟩ := h
    refine q_iast hX dX7_tape_65 h_t2 b6 ?_
    refine Wg.nmS (fun s7 es7 => ?_)
    replace h := h s7 es7
    refine q_iconst (v := 0) hX dX7_tape_66 (by decide) ?_
    refine q_istore (L' := [(4, .int 0), (0, .ref o), (1, .int a0)]) hX dX7_tape_67 (by decide) rfl ?_
    exact Wg.sub [1, 2, 0] rfl (h)
    )
  replace h := h (fun v4 σ h => by
    refine q_iload 2 hX dX7_tape_69 rfl ?_
    refine q_bipush (v := 60) hX dX7_tape_71 (by decide) ?_
    refine q_icmp_ge 95 hX dX7_tape_73 (by decide) (fun c8 => ?_) (fun c8 => ?_)
    · replace h := h.1 c8
      refine q_iconst (v := 1) hX dX7_tape_95 (by decide) ?_
      exact q_ret hX dX7_tape_96 ⟨_, rfl, h⟩
    · replace h := h.2 c8
      refine q_aload_n 0 hX dX7_tape_76 rfl rfl ?_
      refine gf_X7_229 hX h_o dX7_tape_77 ?_
      refine q_bipush (v := 60) hX dX7_tape_80 (by decide) ?_
      refine q_iload_n 1 hX dX7_tape_82 rfl rfl ?_
      refine q_imul hX dX7_tape_83 ?_
      refine q_iload 2 hX dX7_tape_84 rfl ?_
      refine q_iadd hX dX7_tape_86 ?_
      refine q_lconst (v := 0) hX dX7_tape_87 (by decide) ?_
      obtain ⟨b9, h⟩ := h
      refine q_last hX dX7_tape_88 (rfO_7_49 h_o) b9 ?_
      refine Wg.nmS (fun s10 es10 => ?_)
      replace h := h s10 es10
      obtain ⟨x11, ex11⟩ : ∃ z : Int32, z = v4 + 1 := ⟨_, rfl⟩
      replace h := h x11 ex11
      refine q_iinc (v := x11) (L' := [(4, .int x11), (0, .ref o), (1, .int a0)]) 2 hX dX7_tape_89 rfl (by rw [ex11]; rfl) (by decide) rfl ?_
      refine q_goto 69 hX dX7_tape_92 (by decide) ?_
      exact Wg.sub [1, 2, 0] rfl (h)
    )
  refine q_aload_n 0 hX dX7_tape_0 rfl rfl ?_
  refine q_iload_n 1 hX dX7_tape_1 rfl rfl ?_
  refine cl_X7_299 hX h_o dX7_tape_2 (Nat.le_of_ble_eq_true rfl) h (fun x13 s12 h => ?_)
  refine q_if_ne 10 hX dX7_tape_5 (by decide) (fun c14 => ?_) (fun c14 => ?_)
  · replace h := h.1 c14
    refine q_aload_n 0 hX dX7_tape_10 rfl rfl ?_
    refine q_iload_n 2 hX dX7_tape_11 rfl rfl ?_
    refine q_iconst (v := (-1)) hX dX7_tape_12 (by decide) ?_
    refine q_iconst (v := 4) hX dX7_tape_13 (by decide) ?_
    refine cl_X7_1 hX h_o dX7_tape_14 (Nat.le_of_ble_eq_true rfl) h (fun x16 s15 h => ?_)
    refine q_if_eq 30 hX dX7_tape_17 (by decide) (fun c17 => ?_) (fun c17 => ?_)
    · replace h := h.1 c17
      refine q_bipush (v := (-2)) hX dX7_tape_30 (by decide) ?_
      exact q_ret hX dX7_tape_32 ⟨_, rfl, h⟩
    · replace h := h.2 c17
      refine q_iload_n 2 hX dX7_tape_20 rfl rfl ?_
      refine q_if_lt 33 hX dX7_tape_21 (by decide) (fun c18 => ?_) (fun c18 => ?_)
      · replace h := h.1 c18
        exact Wg.sub [0, 1, 2, 3] rfl (h)
      · replace h := h.2 c18
        refine q_iload_n 3 hX dX7_tape_24 rfl rfl ?_
        refine q_bipush (v := 60) hX dX7_tape_25 (by decide) ?_
        refine q_icmp_le 33 hX dX7_tape_27 (by decide) (fun c19 => ?_) (fun c19 => ?_)
        · replace h := h.1 c19
          exact Wg.sub [0, 1, 2, 3] rfl (h)
        · replace h := h.2 c19
          refine q_bipush (v := (-2)) hX dX7_tape_30 (by decide) ?_
          exact q_ret hX dX7_tape_32 ⟨_, rfl, h⟩
  · replace h := h.2 c14
    refine q_iconst (v := (-1)) hX dX7_tape_8 (by decide) ?_
    exact q_ret hX dX7_tape_9 ⟨_, rfl, h⟩
set_option maxHeartbeats 4000000 in
set_option maxRecDepth 20000 in
theorem fl_X7_narrow {d : Nat} {ids : List Nat} {o : Nat} {a0 : Int32} {a1 : Int64} {σ : St} {Q : Int64 → St → Prop} (h_o : IO ids o 7) (H : ((¬ a0 = 0 → ((¬ a0 = 1 → ((¬ a0 = 2 → ((¬ a0 = 4 → Q a1 σ) ∧ (a0 = 4 → (((lg_cmp a1 0) = 0 → Q 0 σ) ∧ (¬ (lg_cmp a1 0) = 0 → Q 1 σ))))) ∧ (a0 = 2 → Q (Int32.toInt64 (Int64.toInt32 a1)) σ))) ∧ (a0 = 1 → Q (Int32.toInt64 (Int16.toInt32 (Int32.toInt16 (Int64.toInt32 a1)))) σ))) ∧ (a0 = 0 → Q (Int32.toInt64 (Int8.toInt32 (Int32.toInt8 (Int64.toInt32 a1)))) σ))) : EL (d + 1) ids Y_X7_narrow [.ref o, .int a0, .long a1] σ Q := by
  refine E_mk (by decide) (Nat.le_of_ble_eq_true rfl) (fun X hX => ?_)
  replace hX : Cok X ids 4 cX7_narrow (some .long) (d + 1) RX7 := hX
  show Wg X ids 4 _ 0 [(0, .ref o), (1, .int a0), (2, .long a1)] [] σ
  have h := H
  refine q_iload_n 1 hX dX7_narrow_0 rfl rfl ?_
  refine q_if_ne 11 hX dX7_narrow_1 (by decide) (fun c1 => ?_) (fun c1 => ?_)
  · replace h := h.1 c1
    refine q_iload_n 1 hX dX7_narrow_11 rfl rfl ?_
    refine q_iconst (v := 1) hX dX7_narrow_12 (by decide) ?_
    refine q_icmp_ne 23 hX dX7_narrow_13 (by decide) (fun c2 => ?_) (fun c2 => ?_)
    · replace h := h.1 c2
      refine q_iload_n 1 hX dX7_narrow_23 rfl rfl ?_
      refine q_iconst (v := 2) hX dX7_narrow_24 (by decide) ?_
      refine q_icmp_ne 34 hX dX7_narrow_25 (by decide) (fun c3 => ?_) (fun c3 => ?_)
      · replace h := h.1 c3
        refine q_iload_n 1 hX dX7_narrow_34 rfl rfl ?_
        refine q_iconst (v := 4) hX dX7_narrow_35 (by decide) ?_
        refine q_icmp_ne 53 hX dX7_narrow_36 (by decide) (fun c4 => ?_) (fun c4 => ?_)
        · replace h := h.1 c4
          refine q_lload_n 2 hX dX7_narrow_53 rfl rfl ?_
          exact q_lret hX dX7_narrow_54 ⟨_, rfl, h⟩
        · replace h := h.2 c4
          refine q_lload_n 2 hX dX7_narrow_39 rfl rfl ?_
          refine q_lconst (v := 0) hX dX7_narrow_40 (by decide) ?_
          refine q_lcmp hX dX7_narrow_41 ?_
          refine q_if_eq 49 hX dX7_narrow_42 (by decide) (fun c5 => ?_) (fun c5 => ?_)
          · replace h := h.1 c5
            refine q_lconst (v := 0) hX dX7_narrow_49 (by decide) ?_
            refine q_goto 54 hX dX7_narrow_50 (by decide) ?_
            exact q_lret hX dX7_narrow_54 ⟨_, rfl, h⟩
          · replace h := h.2 c5
            refine q_lconst (v := 1) hX dX7_narrow_45 (by decide) ?_
            refine q_goto 54 hX dX7_narrow_46 (by decide) ?_
            exact q_lret hX dX7_narrow_54 ⟨_, rfl, h⟩
      · replace h := h.2 c3
        refine q_lload_n 2 hX dX7_narrow_28 rfl rfl ?_
        refine q_l2i hX dX7_narrow_29 ?_
        refine q_i2l hX dX7_narrow_30 ?_
        refine q_goto 54 hX dX7_narrow_31 (by decide) ?_
        exact q_lret hX dX7_narrow_54 ⟨_, rfl, h⟩
    · replace h := h.2 c2
      refine q_lload_n 2 hX dX7_narrow_16 rfl rfl ?_
      refine q_l2i hX dX7_narrow_17 ?_
      refine q_i2s hX dX7_narrow_18 ?_
      refine q_i2l hX dX7_narrow_19 ?_
      refine q_goto 54 hX dX7_narrow_20 (by decide) ?_
      exact q_lret hX dX7_narrow_54 ⟨_, rfl, h⟩
  · replace h := h.2 c1
    refine q_lload_n 2 hX dX7_narrow_4 rfl rfl ?_
    refine q_l2i hX dX7_narrow_5 ?_
    refine q_i2b hX dX7_narrow_6 ?_
    refine q_i2l hX dX7_narrow_7 ?_
    refine q_goto 54 hX dX7_narrow_8 (by decide) ?_
    exact q_lret hX dX7_narrow_54 ⟨_, rfl, h⟩
set_option maxHeartbeats 4000000 in
set_option maxRecDepth 20000 in
theorem fl_X7_item {d : Nat} {ids : List Nat} {o : Nat} {a0 : Int32} {a1 : Int32} {a2 : Int64} {σ : St} {Q : Int32 → St → Prop} (h_o : IO ids o 7) (H : EI d ids Y_X7_isTape [.ref o, .int a0] σ (fun x2 s1 => ((¬ x2 = 0 → vp_in a0 6 ∧ ((0 ≤ (gi s1 (rf o 47) (Int32.toNatClampNeg a0)) → vp_in a0 6 ∧ EI d ids Y_X7_in [.ref o, .int a1, .int 0, .int ((gi s1 (rf o 48) (Int32.toNatClampNeg a0)) - 1)] s1 (fun x8 s7 => ((¬ x8 = 0 → vp_in a0 6 ∧ EL d ids Y_X7_narrow [.ref o, .int (gi s7 (rf o 47) (Int32.toNatClampNeg a0)), .long a2] s7 (fun x12 s11 => vp_in ((60 * a0) + a1) 360 ∧ ∀ s14 : St, s14 = sl s11 (rf o 49) (Int32.toNatClampNeg ((60 * a0) + a1)) x12 → Q 1 s14)) ∧ (x8 = 0 → Q (-13) s7)))) ∧ (¬ (0 ≤ (gi s1 (rf o 47) (Int32.toNatClampNeg a0))) → Q (-11) s1))) ∧ (x2 = 0 → Q (-1) s1)))) : EI (d + 1) ids Y_X7_item [.ref o, .int a0, .int a1, .long a2] σ Q := by
  refine E_mk (by decide) (Nat.le_of_ble_eq_true rfl) (fun X hX => ?_)
  replace hX : Cok X ids 5 cX7_item (some .int) (d + 1) RX7 := hX
  show Wg X ids 5 _ 0 [(0, .ref o), (1, .int a0), (2, .int a1), (3, .long a2)] [] σ
  have h := H
  refine q_aload_n 0 hX dX7_item_0 rfl rfl ?_
  refine q_iload_n 1 hX dX7_item_1 rfl rfl ?_
  refine cl_X7_299 hX h_o dX7_item_2 (Nat.le_of_ble_eq_true rfl) h (fun x2 s1 h => ?_)
  refine q_if_ne 10 hX dX7_item_5 (by decide) (fun c3 => ?_) (fun c3 => ?_)
  · replace h := h.1 c3
    refine q_aload_n 0 hX dX7_item_10 rfl rfl ?_
    refine gf_X7_223 hX h_o dX7_item_11 ?_
    refine q_iload_n 1 hX dX7_item_14 rfl rfl ?_
    obtain ⟨b4, h⟩ := h
    refine q_iald hX dX7_item_15 (rfO_7_47 h_o) b4 ?_
    refine q_if_ge 22 hX dX7_item_16 (by decide) (fun c5 => ?_) (fun c5 => ?_)
    · replace h := h.1 c5
      refine q_aload_n 0 hX dX7_item_22 rfl rfl ?_
      refine q_iload_n 2 hX dX7_item_23 rfl rfl ?_
      refine q_iconst (v := 0) hX dX7_item_24 (by decide) ?_
      refine q_aload_n 0 hX dX7_item_25 rfl rfl ?_
      refine gf_X7_226 hX h_o dX7_item_26 ?_
      refine q_iload_n 1 hX dX7_item_29 rfl rfl ?_
      obtain ⟨b6, h⟩ := h
      refine q_iald hX dX7_item_30 (rfO_7_48 h_o) b6 ?_
      refine q_iconst (v := 1) hX dX7_item_31 (by decide) ?_
      refine q_isub hX dX7_item_32 ?_
      refine cl_X7_1 hX h_o dX7_item_33 (Nat.le_of_ble_eq_true rfl) h (fun x8 s7 h => ?_)
      refine q_if_ne 42 hX dX7_item_36 (by decide) (fun c9 => ?_) (fun c9 => ?_)
      · replace h := h.1 c9
        refine q_aload_n 0 hX dX7_item_42 rfl rfl ?_
        refine gf_X7_229 hX h_o dX7_item_43 ?_
        refine q_bipush (v := 60) hX dX7_item_46 (by decide) ?_
        refine q_iload_n 1 hX dX7_item_48 rfl rfl ?_
        refine q_imul hX dX7_item_49 ?_
        refine q_iload_n 2 hX dX7_item_50 rfl rfl ?_
        refine q_iadd hX dX7_item_51 ?_
        refine q_aload_n 0 hX dX7_item_52 rfl rfl ?_
        refine q_aload_n 0 hX dX7_item_53 rfl rfl ?_
        refine gf_X7_223 hX h_o dX7_item_54 ?_
        refine q_iload_n 1 hX dX7_item_57 rfl rfl ?_
        obtain ⟨b10, h⟩ := h
        refine q_iald hX dX7_item_58 (rfO_7_47 h_o) b10 ?_
        refine q_lload_n 3 hX dX7_item_59 rfl rfl ?_
        refine cl_X7_327 hX h_o dX7_item_60 (Nat.le_of_ble_eq_true rfl) h (fun x12 s11 h => ?_)
        obtain ⟨b13, h⟩ := h
        refine q_last hX dX7_item_63 (rfO_7_49 h_o) b13 ?_
        refine Wg.nmS (fun s14 es14 => ?_)
        replace h := h s14 es14
        refine q_iconst (v := 1) hX dX7_item_64 (by decide) ?_
        exact q_ret hX dX7_item_65 ⟨_, rfl, h⟩
      · replace h := h.2 c9
        refine q_bipush (v := (-13)) hX dX7_item_39 (by decide) ?_
        exact q_ret hX dX7_item_41 ⟨_, rfl, h⟩
    · replace h := h.2 c5
      refine q_bipush (v := (-11)) hX dX7_item_19 (by decide) ?_
      exact q_ret hX dX7_item_21 ⟨_, rfl, h⟩
  · replace h := h.2 c3
    refine q_iconst (v := (-1)) hX dX7_item_8 (by decide) ?_
    exact q_ret hX dX7_item_9 ⟨_, rfl, h⟩
set_option maxHeartbeats 4000000 in
set_option maxRecDepth 20000 in
theorem fl_X7_read {d : Nat} {ids : List Nat} {o : Nat} {a0 : Int32} {a1 : Int32} {σ : St} {Q : Int64 → St → Prop} (h_o : IO ids o 7) (H : ∀ (P34 : St → Prop), (∀ (σ : St), (Q (-9223372036854775808) σ) → P34 σ) → EI d ids Y_X7_isTape [.ref o, .int a0] σ (fun x2 s1 => ((x2 = 0 → P34 s1) ∧ (¬ x2 = 0 → vp_in a0 6 ∧ (((gi s1 (rf o 47) (Int32.toNatClampNeg a0)) < 0 → P34 s1) ∧ (¬ ((gi s1 (rf o 47) (Int32.toNatClampNeg a0)) < 0) → vp_in a0 6 ∧ EI d ids Y_X7_in [.ref o, .int a1, .int 0, .int ((gi s1 (rf o 48) (Int32.toNatClampNeg a0)) - 1)] s1 (fun x8 s7 => ((¬ x8 = 0 → vp_in ((60 * a0) + a1) 360 ∧ Q (gl s7 (rf o 49) (Int32.toNatClampNeg ((60 * a0) + a1))) s7) ∧ (x8 = 0 → P34 s7))))))))) : EL (d + 1) ids Y_X7_read [.ref o, .int a0, .int a1] σ Q := by
  refine E_mk (by decide) (Nat.le_of_ble_eq_true rfl) (fun X hX => ?_)
  replace hX : Cok X ids 3 cX7_read (some .long) (d + 1) RX7 := hX
  show Wg X ids 3 _ 0 [(0, .ref o), (1, .int a0), (2, .int a1)] [] σ
  have h := H (fun (σ : St) => (Wg X ids 3 (fun r σ1 => ∃ x, r = some (Value.long x) ∧ Q x σ1) 34 [] [] σ))
  replace h := h (fun σ h => by
    refine q_ldc2 (v := (-9223372036854775808)) hX dX7_read_34 tb_1274 ?_
    refine q_goto 51 hX dX7_read_37 (by decide) ?_
    exact q_lret hX dX7_read_51 ⟨_, rfl, h⟩
    )
  refine q_aload_n 0 hX dX7_read_0 rfl rfl ?_
  refine q_iload_n 1 hX dX7_read_1 rfl rfl ?_
  refine cl_X7_299 hX h_o dX7_read_2 (Nat.le_of_ble_eq_true rfl) h (fun x2 s1 h => ?_)
  refine q_if_eq 34 hX dX7_read_5 (by decide) (fun c3 => ?_) (fun c3 => ?_)
  · replace h := h.1 c3
    exact Wg.sub [] rfl (h)
  · replace h := h.2 c3
    refine q_aload_n 0 hX dX7_read_8 rfl rfl ?_
    refine gf_X7_223 hX h_o dX7_read_9 ?_
    refine q_iload_n 1 hX dX7_read_12 rfl rfl ?_
    obtain ⟨b4, h⟩ := h
    refine q_iald hX dX7_read_13 (rfO_7_47 h_o) b4 ?_
    refine q_if_lt 34 hX dX7_read_14 (by decide) (fun c5 => ?_) (fun c5 => ?_)
    · replace h := h.1 c5
      exact Wg.sub [] rfl (h)
    · replace h := h.2 c5
      refine q_aload_n 0 hX dX7_read_17 rfl rfl ?_
      refine q_iload_n 2 hX dX7_read_18 rfl rfl ?_
      refine q_iconst (v := 0) hX dX7_read_19 (by decide) ?_
      refine q_aload_n 0 hX dX7_read_20 rfl rfl ?_
      refine gf_X7_226 hX h_o dX7_read_21 ?_
      refine q_iload_n 1 hX dX7_read_24 rfl rfl ?_
      obtain ⟨b6, h⟩ := h
      refine q_iald hX dX7_read_25 (rfO_7_48 h_o) b6 ?_
      refine q_iconst (v := 1) hX dX7_read_26 (by decide) ?_
      refine q_isub hX dX7_read_27 ?_
      refine cl_X7_1 hX h_o dX7_read_28 (Nat.le_of_ble_eq_true rfl) h (fun x8 s7 h => ?_)
      refine q_if_ne 40 hX dX7_read_31 (by decide) (fun c9 => ?_) (fun c9 => ?_)
      · replace h := h.1 c9
        refine q_aload_n 0 hX dX7_read_40 rfl rfl ?_
        refine gf_X7_229 hX h_o dX7_read_41 ?_
        refine q_bipush (v := 60) hX dX7_read_44 (by decide) ?_
        refine q_iload_n 1 hX dX7_read_46 rfl rfl ?_
        refine q_imul hX dX7_read_47 ?_
        refine q_iload_n 2 hX dX7_read_48 rfl rfl ?_
        refine q_iadd hX dX7_read_49 ?_
        obtain ⟨b10, h⟩ := h
        refine q_lald hX dX7_read_50 (rfO_7_49 h_o) b10 ?_
        exact q_lret hX dX7_read_51 ⟨_, rfl, h⟩
      · replace h := h.2 c9
        exact Wg.sub [] rfl (h)
set_option maxHeartbeats 4000000 in
set_option maxRecDepth 20000 in
theorem fl_X7_shift {d : Nat} {ids : List Nat} {o : Nat} {a0 : Int32} {a1 : Int32} {a2 : Int32} {a3 : Int32} {a4 : Int32} {σ : St} {Q : Int32 → St → Prop} (h_o : IO ids o 7) (H : ∀ (P104 : Int32 → St → Prop) (P141 : Int32 → St → Prop), (∀ (v6 : Int32) (σ : St), (((a4 ≤ v6 → P141 0 σ) ∧ (¬ (a4 ≤ v6) → vp_in (((60 * a0) + a1) + v6) 360 ∧ vp_in v6 60 ∧ ∀ s4 : St, s4 = sl σ (rf o 50) (Int32.toNatClampNeg v6) (gl σ (rf o 49) (Int32.toNatClampNeg (((60 * a0) + a1) + v6))) → ∀ x5 : Int32, x5 = v6 + 1 → P104 x5 s4))) → P104 v6 σ) → (∀ (v6 : Int32) (σ : St), (((a4 ≤ v6 → Q a4 σ) ∧ (¬ (a4 ≤ v6) → vp_in v6 60 ∧ vp_in (((60 * a2) + a3) + v6) 360 ∧ ∀ s9 : St, s9 = sl σ (rf o 49) (Int32.toNatClampNeg (((60 * a2) + a3) + v6)) (gl σ (rf o 50) (Int32.toNatClampNeg v6)) → ∀ x10 : Int32, x10 = v6 + 1 → P141 x10 s9))) → P141 v6 σ) → EI d ids Y_X7_isTape [.ref o, .int a0] σ (fun x12 s11 => ((x12 = 0 → Q (-1) s11) ∧ (¬ x12 = 0 → EI d ids Y_X7_isTape [.ref o, .int a2] s11 (fun x15 s14 => ((¬ x15 = 0 → vp_in a0 6 ∧ (((gi s14 (rf o 47) (Int32.toNatClampNeg a0)) < 0 → Q (-11) s14) ∧ (¬ ((gi s14 (rf o 47) (Int32.toNatClampNeg a0)) < 0) → vp_in a2 6 ∧ ((0 ≤ (gi s14 (rf o 47) (Int32.toNatClampNeg a2)) → vp_in a0 6 ∧ vp_in a2 6 ∧ (((gi s14 (rf o 47) (Int32.toNatClampNeg a0)) = (gi s14 (rf o 47) (Int32.toNatClampNeg a2)) → ((a4 < 0 → Q (-13) s14) ∧ (¬ (a4 < 0) → ((a1 < 0 → Q (-13) s14) ∧ (¬ (a1 < 0) → ((a3 < 0 → Q (-13) s14) ∧ (¬ (a3 < 0) → vp_in a0 6 ∧ ((((gi s14 (rf o 48) (Int32.toNatClampNeg a0)) - a4) < a1 → Q (-13) s14) ∧ (¬ (((gi s14 (rf o 48) (Int32.toNatClampNeg a0)) - a4) < a1) → vp_in a2 6 ∧ ((a3 ≤ ((gi s14 (rf o 48) (Int32.toNatClampNeg a2)) - a4) → P104 0 s14) ∧ (¬ (a3 ≤ ((gi s14 (rf o 48) (Int32.toNatClampNeg a2)) - a4)) → Q (-13) s14))))))))))) ∧ (¬ (gi s14 (rf o 47) (Int32.toNatClampNeg a0)) = (gi s14 (rf o 47) (Int32.toNatClampNeg a2)) → Q (-12) s14))) ∧ (¬ (0 ≤ (gi s14 (rf o 47) (Int32.toNatClampNeg a2))) → Q (-11) s14))))) ∧ (x15 = 0 → Q (-1) s14))))))) : EI (d + 1) ids Y_X7_shift [.ref o, .int a0, .int a1, .int a2, .int a3, .int a4] σ Q := by
  refine E_mk (by decide) (Nat.le_of_ble_eq_true rfl) (fun X hX => ?_)
  replace hX : Cok X ids 7 cX7_shift (some .int) (d + 1) RX7 := hX
  show Wg X ids 7 _ 0 [(0, .ref o), (1, .int a0), (2, .int a1), (3, .int a2), (4, .int a3), (5, .int a4)] [] σ
  have h := H (fun (v6 : Int32) (σ : St) => (Wg X ids 7 (fun r σ1 => ∃ x, r = some (Value.int x) ∧ Q x σ1) 104 [(0, .ref o), (1, .int a0), (2, .int a1), (3, .int a2), (4, .int a3), (5, .int a4), (6, .int v6)] [] σ)) (fun (v6 : Int32) (σ : St) => (Wg X ids 7 (fun r σ1 => ∃ x, r = some (Value.int x) ∧ Q x σ1) 141 [(0, .ref o), (3, .int a2), (4, .int a3), (5, .int a4), (6, .int v6)] [] σ))
  replace h := h (fun v6 σ h => by
    refine q_iload 6 hX dX7_shift_104 rfl ?_
    refine q_iload 5 hX dX7_shift_106 rfl ?_
    refine q_icmp_ge 138 hX dX7_shift_108 (by decide) (fun c1 => ?_) (fun c1 => ?_)
    · replace h := h.1 c1
      refine q_iconst (v := 0) hX dX7_shift_138 (by decide) ?_
      refine q_istore (L' := [(6, .int 0), (0, .ref o), (1, .int a0), (2, .int a1), (3, .int a2), (4, .int a3), (5, .int a4)]) hX dX7_shift_139 (by decide) rfl ?_
      exact Wg.sub [1, 4, 5, 6, 0] rfl (h)
    · replace h := h.2 c1
      refine q_aload_n 0 hX dX7_shift_111 rfl rfl ?_
      refine gf_X7_233 hX h_o dX7_shift_112 ?_
      refine q_iload 6 hX dX7_shift_115 rfl ?_
      refine q_aload_n 0 hX dX7_shift_117 rfl rfl ?_
      refine gf_X7_229 hX h_o dX7_shift_118 ?_
      refine q_bipush (v := 60) hX dX7_shift_121 (by decide) ?_
      refine q_iload_n 1 hX dX7_shift_123 rfl rfl ?_
      refine q_imul hX dX7_shift_124 ?_
      refine q_iload_n 2 hX dX7_shift_125 rfl rfl ?_
      refine q_iadd hX dX7_shift_126 ?_
      refine q_iload 6 hX dX7_shift_127 rfl ?_
      refine q_iadd hX dX7_shift_129 ?_
      obtain ⟨b2, h⟩ := h
      refine q_lald hX dX7_shift_130 (rfO_7_49 h_o) b2 ?_
      obtain ⟨b3, h⟩ := h
      refine q_last hX dX7_shift_131 (rfO_7_50 h_o) b3 ?_
      refine Wg.nmS (fun s4 es4 => ?_)
      replace h := h s4 es4
      obtain ⟨x5, ex5⟩ : ∃ z : Int32, z = v6 + 1 := ⟨_, rfl⟩
      replace h := h x5 ex5
      refine q_iinc (v := x5) (L' := [(6, .int x5), (0, .ref o), (1, .int a0), (2, .int a1), (3, .int a2), (4, .int a3), (5, .int a4)]) 6 hX dX7_shift_132 rfl (by rw [ex5]; rfl) (by decide) rfl ?_
      refine q_goto 104 hX dX7_shift_135 (by decide) ?_
      exact Wg.sub [1, 2, 3, 4, 5, 6, 0] rfl (h)
    )
  replace h := h (fun v6 σ h => by
    refine q_iload 4 hX dX7_shift_141 rfl ?_
    refine q_iload 3 hX dX7_shift_143 rfl ?_
    refine q_icmp_ge 176 hX dX7_shift_145 (by decide) (fun c6 => ?_) (fun c6 => ?_)
    · replace h := h.1 c6
      refine q_iload 3 hX dX7_shift_176 rfl ?_
      exact q_ret hX dX7_shift_178 ⟨_, rfl, h⟩
    · replace h := h.2 c6
      refine q_aload_n 0 hX dX7_shift_148 rfl rfl ?_
      refine gf_X7_229 hX h_o dX7_shift_149 ?_
      refine q_bipush (v := 60) hX dX7_shift_152 (by decide) ?_
      refine q_iload_n 1 hX dX7_shift_154 rfl rfl ?_
      refine q_imul hX dX7_shift_155 ?_
      refine q_iload 2 hX dX7_shift_156 rfl ?_
      refine q_iadd hX dX7_shift_158 ?_
      refine q_iload 4 hX dX7_shift_159 rfl ?_
      refine q_iadd hX dX7_shift_161 ?_
      refine q_aload_n 0 hX dX7_shift_162 rfl rfl ?_
      refine gf_X7_233 hX h_o dX7_shift_163 ?_
      refine q_iload 4 hX dX7_shift_166 rfl ?_
      obtain ⟨b7, h⟩ := h
      refine q_lald hX dX7_shift_168 (rfO_7_50 h_o) b7 ?_
      obtain ⟨b8, h⟩ := h
      refine q_last hX dX7_shift_169 (rfO_7_49 h_o) b8 ?_
      refine Wg.nmS (fun s9 es9 => ?_)
      replace h := h s9 es9
      obtain ⟨x10, ex10⟩ : ∃ z : Int32, z = v6 + 1 := ⟨_, rfl⟩
      replace h := h x10 ex10
      refine q_iinc (v := x10) (L' := [(6, .int x10), (0, .ref o), (3, .int a2), (4, .int a3), (5, .int a4)]) 4 hX dX7_shift_170 rfl (by rw [ex10]; rfl) (by decide) rfl ?_
      refine q_goto 141 hX dX7_shift_173 (by decide) ?_
      exact Wg.sub [1, 2, 3, 4, 0] rfl (h)
    )
  refine q_aload_n 0 hX dX7_shift_0 rfl rfl ?_
  refine q_iload_n 1 hX dX7_shift_1 rfl rfl ?_
  refine cl_X7_299 hX h_o dX7_shift_2 (Nat.le_of_ble_eq_true rfl) h (fun x12 s11 h => ?_)
  refine q_if_eq 16 hX dX7_shift_5 (by decide) (fun c13 => ?_) (fun c13 => ?_)
  · replace h := h.1 c13
    refine q_iconst (v := (-1)) hX dX7_shift_16 (by decide) ?_
    exact q_ret hX dX7_shift_17 ⟨_, rfl, h⟩
  · replace h := h.2 c13
    refine q_aload_n 0 hX dX7_shift_8 rfl rfl ?_
    refine q_iload_n 3 hX dX7_shift_9 rfl rfl ?_
    refine cl_X7_299 hX h_o dX7_shift_10 (Nat.le_of_ble_eq_true rfl) h (fun x15 s14 h => ?_)
    refine q_if_ne 18 hX dX7_shift_13 (by decide) (fun c16 => ?_) (fun c16 => ?_)
    · replace h := h.1 c16
      refine q_aload_n 0 hX dX7_shift_18 rfl rfl ?_
      refine gf_X7_223 hX h_o dX7_shift_19 ?_
      refine q_iload_n 1 hX dX7_shift_22 rfl rfl ?_
      obtain ⟨b17, h⟩ := h
      refine q_iald hX dX7_shift_23 (rfO_7_47 h_o) b17 ?_
      refine q_if_lt 36 hX dX7_shift_24 (by decide) (fun c18 => ?_) (fun c18 => ?_)
      · replace h := h.1 c18
        refine q_bipush (v := (-11)) hX dX7_shift_36 (by decide) ?_
        exact q_ret hX dX7_shift_38 ⟨_, rfl, h⟩
      · replace h := h.2 c18
        refine q_aload_n 0 hX dX7_shift_27 rfl rfl ?_
        refine gf_X7_223 hX h_o dX7_shift_28 ?_
        refine q_iload_n 3 hX dX7_shift_31 rfl rfl ?_
        obtain ⟨b19, h⟩ := h
        refine q_iald hX dX7_shift_32 (rfO_7_47 h_o) b19 ?_
        refine q_if_ge 39 hX dX7_shift_33 (by decide) (fun c20 => ?_) (fun c20 => ?_)
        · replace h := h.1 c20
          refine q_aload_n 0 hX dX7_shift_39 rfl rfl ?_
          refine gf_X7_223 hX h_o dX7_shift_40 ?_
          refine q_iload_n 1 hX dX7_shift_43 rfl rfl ?_
          obtain ⟨b21, h⟩ := h
          refine q_iald hX dX7_shift_44 (rfO_7_47 h_o) b21 ?_
          refine q_aload_n 0 hX dX7_shift_45 rfl rfl ?_
          refine gf_X7_223 hX h_o dX7_shift_46 ?_
          refine q_iload_n 3 hX dX7_shift_49 rfl rfl ?_
          obtain ⟨b22, h⟩ := h
          refine q_iald hX dX7_shift_50 (rfO_7_47 h_o) b22 ?_
          refine q_icmp_eq 57 hX dX7_shift_51 (by decide) (fun c23 => ?_) (fun c23 => ?_)
          · replace h := h.1 c23
            refine q_iload 5 hX dX7_shift_57 rfl ?_
            refine q_if_lt 98 hX dX7_shift_59 (by decide) (fun c24 => ?_) (fun c24 => ?_)
            · replace h := h.1 c24
              refine q_bipush (v := (-13)) hX dX7_shift_98 (by decide) ?_
              exact q_ret hX dX7_shift_100 ⟨_, rfl, h⟩
            · replace h := h.2 c24
              refine q_iload_n 2 hX dX7_shift_62 rfl rfl ?_
              refine q_if_lt 98 hX dX7_shift_63 (by decide) (fun c25 => ?_) (fun c25 => ?_)
              · replace h := h.1 c25
                refine q_bipush (v := (-13)) hX dX7_shift_98 (by decide) ?_
                exact q_ret hX dX7_shift_100 ⟨_, rfl, h⟩
              · replace h := h.2 c25
                refine q_iload 4 hX dX7_shift_66 rfl ?_
                refine q_if_lt 98 hX dX7_shift_68 (by decide) (fun c26 => ?_) (fun c26 => ?_)
                · replace h := h.1 c26
                  refine q_bipush (v := (-13)) hX dX7_shift_98 (by decide) ?_
                  exact q_ret hX dX7_shift_100 ⟨_, rfl, h⟩
                · replace h := h.2 c26
                  refine q_iload_n 2 hX dX7_shift_71 rfl rfl ?_
                  refine q_aload_n 0 hX dX7_shift_72 rfl rfl ?_
                  refine gf_X7_226 hX h_o dX7_shift_73 ?_
                  refine q_iload_n 1 hX dX7_shift_76 rfl rfl ?_
                  obtain ⟨b27, h⟩ := h
                  refine q_iald hX dX7_shift_77 (rfO_7_48 h_o) b27 ?_
                  refine q_iload 5 hX dX7_shift_78 rfl ?_
                  refine q_isub hX dX7_shift_80 ?_
                  refine q_icmp_gt 98 hX dX7_shift_81 (by decide) (fun c28 => ?_) (fun c28 => ?_)
                  · replace h := h.1 c28
                    refine q_bipush (v := (-13)) hX dX7_shift_98 (by decide) ?_
                    exact q_ret hX dX7_shift_100 ⟨_, rfl, h⟩
                  · replace h := h.2 c28
                    refine q_iload 4 hX dX7_shift_84 rfl ?_
                    refine q_aload_n 0 hX dX7_shift_86 rfl rfl ?_
                    refine gf_X7_226 hX h_o dX7_shift_87 ?_
                    refine q_iload_n 3 hX dX7_shift_90 rfl rfl ?_
                    obtain ⟨b29, h⟩ := h
                    refine q_iald hX dX7_shift_91 (rfO_7_48 h_o) b29 ?_
                    refine q_iload 5 hX dX7_shift_92 rfl ?_
                    refine q_isub hX dX7_shift_94 ?_
                    refine q_icmp_le 101 hX dX7_shift_95 (by decide) (fun c30 => ?_) (fun c30 => ?_)
                    · replace h := h.1 c30
                      refine q_iconst (v := 0) hX dX7_shift_101 (by decide) ?_
                      refine q_istore (L' := [(6, .int 0), (0, .ref o), (1, .int a0), (2, .int a1), (3, .int a2), (4, .int a3), (5, .int a4)]) hX dX7_shift_102 (by decide) rfl ?_
                      exact Wg.sub [1, 2, 3, 4, 5, 6, 0] rfl (h)
                    · replace h := h.2 c30
                      refine q_bipush (v := (-13)) hX dX7_shift_98 (by decide) ?_
                      exact q_ret hX dX7_shift_100 ⟨_, rfl, h⟩
          · replace h := h.2 c23
            refine q_bipush (v := (-12)) hX dX7_shift_54 (by decide) ?_
            exact q_ret hX dX7_shift_56 ⟨_, rfl, h⟩
        · replace h := h.2 c20
          refine q_bipush (v := (-11)) hX dX7_shift_36 (by decide) ?_
          exact q_ret hX dX7_shift_38 ⟨_, rfl, h⟩
    · replace h := h.2 c16
      refine q_iconst (v := (-1)) hX dX7_shift_16 (by decide) ?_
      exact q_ret hX dX7_shift_17 ⟨_, rfl, h⟩
