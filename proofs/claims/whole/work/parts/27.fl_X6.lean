/-! formulas of the methods: if the formula holds, the contract does -/
set_option maxHeartbeats 4000000 in
set_option maxRecDepth 20000 in
theorem fl_X6_link {d : Nat} {ids : List Nat} {o : Nat} {a0 : Int32} {a1 : Int32} {a2 : Int32} {a3 : Int32} {σ : St} {Q : Int32 → St → Prop} (h_o : IO ids o 6) (H : ∀ (P52 : Nat → St → Prop) (P93 : Int32 → Int32 → Int32 → Nat → St → Prop), (∀ (t0 : Nat) (σ : St), (IA ids t0 0 5 → vp_in a1 5 ∧ ∀ x2 : Int32, x2 = (((gi σ t0 (Int32.toNatClampNeg a1)) >>> (a2 &&& 31)) &&& 1) → ((a3 = 0 → vp_in a1 5 ∧ P93 x2 ((gi σ t0 (Int32.toNatClampNeg a1)) &&& (((1 : Int32) <<< (a2 &&& 31)) ^^^ (-1))) a1 t0 σ) ∧ (¬ a3 = 0 → vp_in a1 5 ∧ P93 x2 ((gi σ t0 (Int32.toNatClampNeg a1)) ||| ((1 : Int32) <<< (a2 &&& 31))) a1 t0 σ))) → P52 t0 σ) → (∀ (v6 : Int32) (t0 : Int32) (t1 : Int32) (t2 : Nat) (σ : St), (IA ids t2 0 5 → vp_in t1 5 ∧ ∀ s7 : St, s7 = si σ t2 (Int32.toNatClampNeg t1) t0 → Q v6 s7) → P93 v6 t0 t1 t2 σ) → ((a0 < 0 → Q (-1) σ) ∧ (¬ (a0 < 0) → ((1 < a0 → Q (-1) σ) ∧ (¬ (1 < a0) → EI d ids Y_X6_isPoint [.int a1] σ (fun x11 s10 => ((x11 = 0 → Q (-1) s10) ∧ (¬ x11 = 0 → EI d ids Y_X6_isPoint [.int a2] s10 (fun x14 s13 => ((¬ x14 = 0 → ((a1 = a2 → Q (-2) s13) ∧ (¬ a1 = a2 → ((¬ a2 = 0 → ((¬ a0 = 0 → P52 (rf o 1) s13) ∧ (a0 = 0 → P52 (rf o 0) s13))) ∧ (a2 = 0 → Q (-2) s13))))) ∧ (x14 = 0 → Q (-1) s13))))))))))) : EI (d + 1) ids Y_X6_link [.ref o, .int a0, .int a1, .int a2, .int a3] σ Q := by
  refine E_mk (by decide) (Nat.le_of_ble_eq_true rfl) (fun X hX => ?_)
  replace hX : Cok X ids 7 cX6_link (some .int) (d + 1) RX6 := hX
  show Wg X ids 7 _ 0 [(0, .ref o), (1, .int a0), (2, .int a1), (3, .int a2), (4, .int a3)] [] σ
  have h := H (fun (t0 : Nat) (σ : St) => (IA ids t0 0 5 → Wg X ids 7 (fun r σ1 => ∃ x, r = some (Value.int x) ∧ Q x σ1) 52 [(2, .int a1), (3, .int a2), (4, .int a3)] [.ref t0] σ)) (fun (v6 : Int32) (t0 : Int32) (t1 : Int32) (t2 : Nat) (σ : St) => (IA ids t2 0 5 → Wg X ids 7 (fun r σ1 => ∃ x, r = some (Value.int x) ∧ Q x σ1) 93 [(6, .int v6)] [.int t0, .int t1, .ref t2] σ))
  replace h := h (fun t0 σ h h_t0 => by
    replace h := h h_t0
    refine q_astore (L' := [(5, .ref t0), (2, .int a1), (3, .int a2), (4, .int a3)]) hX dX6_link_52 (by decide) rfl ?_
    refine q_aload 0 hX dX6_link_54 rfl ?_
    refine q_iload_n 1 hX dX6_link_56 rfl rfl ?_
    obtain ⟨b1, h⟩ := h
    refine q_iald hX dX6_link_57 h_t0 b1 ?_
    refine q_iload_n 2 hX dX6_link_58 rfl rfl ?_
    refine q_ishr hX dX6_link_59 ?_
    refine q_iconst (v := 1) hX dX6_link_60 (by decide) ?_
    refine q_iand hX dX6_link_61 ?_
    refine Wg.nmI (fun x2 ex2 => ?_)
    replace h := h x2 ex2
    refine q_istore (L' := [(6, .int x2), (5, .ref t0), (2, .int a1), (3, .int a2), (4, .int a3)]) hX dX6_link_62 (by decide) rfl ?_
    refine q_aload 1 hX dX6_link_64 rfl ?_
    refine q_iload_n 2 hX dX6_link_66 rfl rfl ?_
    refine q_iload 4 hX dX6_link_67 rfl ?_
    refine q_if_eq 83 hX dX6_link_69 (by decide) (fun c3 => ?_) (fun c3 => ?_)
    · replace h := h.1 c3
      refine q_aload 1 hX dX6_link_83 rfl ?_
      refine q_iload_n 2 hX dX6_link_85 rfl rfl ?_
      obtain ⟨b4, h⟩ := h
      refine q_iald hX dX6_link_86 h_t0 b4 ?_
      refine q_iconst (v := 1) hX dX6_link_87 (by decide) ?_
      refine q_iload_n 3 hX dX6_link_88 rfl rfl ?_
      refine q_ishl hX dX6_link_89 ?_
      refine q_iconst (v := (-1)) hX dX6_link_90 (by decide) ?_
      refine q_ixor hX dX6_link_91 ?_
      refine q_iand hX dX6_link_92 ?_
      exact Wg.sub [0] rfl (h h_t0)
    · replace h := h.2 c3
      refine q_aload 1 hX dX6_link_72 rfl ?_
      refine q_iload_n 2 hX dX6_link_74 rfl rfl ?_
      obtain ⟨b5, h⟩ := h
      refine q_iald hX dX6_link_75 h_t0 b5 ?_
      refine q_iconst (v := 1) hX dX6_link_76 (by decide) ?_
      refine q_iload_n 3 hX dX6_link_77 rfl rfl ?_
      refine q_ishl hX dX6_link_78 ?_
      refine q_ior hX dX6_link_79 ?_
      refine q_goto 93 hX dX6_link_80 (by decide) ?_
      exact Wg.sub [0] rfl (h h_t0)
    )
  replace h := h (fun v6 t0 t1 t2 σ h h_t2 => by
    replace h := h h_t2
    obtain ⟨b6, h⟩ := h
    refine q_iast hX dX6_link_93 h_t2 b6 ?_
    refine Wg.nmS (fun s7 es7 => ?_)
    replace h := h s7 es7
    refine q_iload 0 hX dX6_link_94 rfl ?_
    exact q_ret hX dX6_link_96 ⟨_, rfl, h⟩
    )
  refine q_iload_n 1 hX dX6_link_0 rfl rfl ?_
  refine q_if_lt 23 hX dX6_link_1 (by decide) (fun c8 => ?_) (fun c8 => ?_)
  · replace h := h.1 c8
    refine q_iconst (v := (-1)) hX dX6_link_23 (by decide) ?_
    exact q_ret hX dX6_link_24 ⟨_, rfl, h⟩
  · replace h := h.2 c8
    refine q_iload_n 1 hX dX6_link_4 rfl rfl ?_
    refine q_iconst (v := 1) hX dX6_link_5 (by decide) ?_
    refine q_icmp_gt 23 hX dX6_link_6 (by decide) (fun c9 => ?_) (fun c9 => ?_)
    · replace h := h.1 c9
      refine q_iconst (v := (-1)) hX dX6_link_23 (by decide) ?_
      exact q_ret hX dX6_link_24 ⟨_, rfl, h⟩
    · replace h := h.2 c9
      refine q_iload_n 2 hX dX6_link_9 rfl rfl ?_
      refine cl_X6_68 hX dX6_link_10 (Nat.le_of_ble_eq_true rfl) h (fun x11 s10 h => ?_)
      refine q_if_eq 23 hX dX6_link_13 (by decide) (fun c12 => ?_) (fun c12 => ?_)
      · replace h := h.1 c12
        refine q_iconst (v := (-1)) hX dX6_link_23 (by decide) ?_
        exact q_ret hX dX6_link_24 ⟨_, rfl, h⟩
      · replace h := h.2 c12
        refine q_iload_n 3 hX dX6_link_16 rfl rfl ?_
        refine cl_X6_68 hX dX6_link_17 (Nat.le_of_ble_eq_true rfl) h (fun x14 s13 h => ?_)
        refine q_if_ne 25 hX dX6_link_20 (by decide) (fun c15 => ?_) (fun c15 => ?_)
        · replace h := h.1 c15
          refine q_iload_n 2 hX dX6_link_25 rfl rfl ?_
          refine q_iload_n 3 hX dX6_link_26 rfl rfl ?_
          refine q_icmp_eq 34 hX dX6_link_27 (by decide) (fun c16 => ?_) (fun c16 => ?_)
          · replace h := h.1 c16
            refine q_bipush (v := (-2)) hX dX6_link_34 (by decide) ?_
            exact q_ret hX dX6_link_36 ⟨_, rfl, h⟩
          · replace h := h.2 c16
            refine q_iload_n 3 hX dX6_link_30 rfl rfl ?_
            refine q_if_ne 37 hX dX6_link_31 (by decide) (fun c17 => ?_) (fun c17 => ?_)
            · replace h := h.1 c17
              refine q_iload_n 1 hX dX6_link_37 rfl rfl ?_
              refine q_if_ne 48 hX dX6_link_38 (by decide) (fun c18 => ?_) (fun c18 => ?_)
              · replace h := h.1 c18
                refine q_aload_n 0 hX dX6_link_48 rfl rfl ?_
                refine gf_X6_15 hX h_o dX6_link_49 ?_
                exact Wg.sub [2, 3, 4] rfl (h ((rfO_6_1 h_o)))
              · replace h := h.2 c18
                refine q_aload_n 0 hX dX6_link_41 rfl rfl ?_
                refine gf_X6_11 hX h_o dX6_link_42 ?_
                refine q_goto 52 hX dX6_link_45 (by decide) ?_
                exact Wg.sub [2, 3, 4] rfl (h ((rfO_6_0 h_o)))
            · replace h := h.2 c17
              refine q_bipush (v := (-2)) hX dX6_link_34 (by decide) ?_
              exact q_ret hX dX6_link_36 ⟨_, rfl, h⟩
        · replace h := h.2 c15
          refine q_iconst (v := (-1)) hX dX6_link_23 (by decide) ?_
          exact q_ret hX dX6_link_24 ⟨_, rfl, h⟩
set_option maxHeartbeats 4000000 in
set_option maxRecDepth 20000 in
theorem fl_X6_put {d : Nat} {ids : List Nat} {o : Nat} {a0 : Int32} {a1 : Int32} {a2 : Int32} {a3 : Int32} {σ : St} {Q : Int32 → St → Prop} (h_o : IO ids o 6) (H : EO d ids Y_X6_caseAt [.ref o, .int a0] σ (fun o16 s1 => (o16 = none → Q (-1) s1) ∧ (∀ r2 : Nat, o16 = some r2 → IO ids r2 1 ∧ EI d ids Y_X6_isPoint [.int a1] s1 (fun x4 s3 => ((x4 = 0 → Q (-1) s3) ∧ (¬ x4 = 0 → ((a2 < 0 → Q (-1) s3) ∧ (¬ (a2 < 0) → ((a2 ≤ 2 → ((a3 < 0 → Q (-2) s3) ∧ (¬ (a3 < 0) → ((a3 ≤ 10 → vp_in a2 3 ∧ vp_in a1 5 ∧ ∀ x12 : Int32, x12 = (gi s3 (rf (rf r2 1) (Int32.toNatClampNeg a2)) (Int32.toNatClampNeg a1)) → vp_in a2 3 ∧ vp_in a1 5 ∧ ∀ s15 : St, s15 = si s3 (rf (rf r2 1) (Int32.toNatClampNeg a2)) (Int32.toNatClampNeg a1) a3 → Q x12 s15) ∧ (¬ (a3 ≤ 10) → Q (-2) s3))))) ∧ (¬ (a2 ≤ 2) → Q (-1) s3)))))))))) : EI (d + 1) ids Y_X6_put [.ref o, .int a0, .int a1, .int a2, .int a3] σ Q := by
  refine E_mk (by decide) (Nat.le_of_ble_eq_true rfl) (fun X hX => ?_)
  replace hX : Cok X ids 7 cX6_put (some .int) (d + 1) RX6 := hX
  show Wg X ids 7 _ 0 [(0, .ref o), (1, .int a0), (2, .int a1), (3, .int a2), (4, .int a3)] [] σ
  have h := H
  refine q_aload_n 0 hX dX6_put_0 rfl rfl ?_
  refine q_iload_n 1 hX dX6_put_1 rfl rfl ?_
  refine cl_X6_79 hX h_o dX6_put_2 (Nat.le_of_ble_eq_true rfl) h (fun s1 h => ?_) (fun r2 s1 h => ?_)
  · replace h := h.1 rfl
    refine q_astoreN (L' := [(5, .null), (0, .ref o), (1, .int a0), (2, .int a1), (3, .int a2), (4, .int a3)]) hX dX6_put_5 (by decide) rfl ?_
    refine q_aloadN 0 hX dX6_put_7 rfl ?_
    refine q_ifnullN 28 hX dX6_put_9 (by decide) ?_
    refine q_iconst (v := (-1)) hX dX6_put_28 (by decide) ?_
    exact q_ret hX dX6_put_29 ⟨_, rfl, h⟩
  · obtain ⟨h_r2, h⟩ := h.2 r2 rfl
    refine q_astore (L' := [(5, .ref r2), (0, .ref o), (1, .int a0), (2, .int a1), (3, .int a2), (4, .int a3)]) hX dX6_put_5 (by decide) rfl ?_
    refine q_aload 0 hX dX6_put_7 rfl ?_
    refine q_ifnull hX dX6_put_9 ?_
    refine q_iload_n 3 hX dX6_put_12 rfl rfl ?_
    refine cl_X6_68 hX dX6_put_13 (Nat.le_of_ble_eq_true rfl) h (fun x4 s3 h => ?_)
    refine q_if_eq 28 hX dX6_put_16 (by decide) (fun c5 => ?_) (fun c5 => ?_)
    · replace h := h.1 c5
      refine q_iconst (v := (-1)) hX dX6_put_28 (by decide) ?_
      exact q_ret hX dX6_put_29 ⟨_, rfl, h⟩
    · replace h := h.2 c5
      refine q_iload_n 4 hX dX6_put_19 rfl rfl ?_
      refine q_if_lt 28 hX dX6_put_20 (by decide) (fun c6 => ?_) (fun c6 => ?_)
      · replace h := h.1 c6
        refine q_iconst (v := (-1)) hX dX6_put_28 (by decide) ?_
        exact q_ret hX dX6_put_29 ⟨_, rfl, h⟩
      · replace h := h.2 c6
        refine q_iload_n 4 hX dX6_put_23 rfl rfl ?_
        refine q_iconst (v := 2) hX dX6_put_24 (by decide) ?_
        refine q_icmp_le 30 hX dX6_put_25 (by decide) (fun c7 => ?_) (fun c7 => ?_)
        · replace h := h.1 c7
          refine q_iload 5 hX dX6_put_30 rfl ?_
          refine q_if_lt 42 hX dX6_put_32 (by decide) (fun c8 => ?_) (fun c8 => ?_)
          · replace h := h.1 c8
            refine q_bipush (v := (-2)) hX dX6_put_42 (by decide) ?_
            exact q_ret hX dX6_put_44 ⟨_, rfl, h⟩
          · replace h := h.2 c8
            refine q_iload 5 hX dX6_put_35 rfl ?_
            refine q_bipush (v := 10) hX dX6_put_37 (by decide) ?_
            refine q_icmp_le 45 hX dX6_put_39 (by decide) (fun c9 => ?_) (fun c9 => ?_)
            · replace h := h.1 c9
              refine q_aload 0 hX dX6_put_45 rfl ?_
              refine gf_X6_83 hX h_r2 dX6_put_47 ?_
              refine q_iload_n 4 hX dX6_put_50 rfl rfl ?_
              obtain ⟨b10, h⟩ := h
              refine q_aald (by decide) hX dX6_put_51 (rfO_1_1 h_r2) b10 ?_
              refine q_iload_n 3 hX dX6_put_52 rfl rfl ?_
              obtain ⟨b11, h⟩ := h
              refine q_iald hX dX6_put_53 (rfA_6 (rfO_1_1 h_r2) b10) b11 ?_
              refine Wg.nmI (fun x12 ex12 => ?_)
              replace h := h x12 ex12
              refine q_istore (L' := [(6, .int x12), (5, .ref r2), (0, .ref o), (1, .int a0), (2, .int a1), (3, .int a2), (4, .int a3)]) hX dX6_put_54 (by decide) rfl ?_
              refine q_aload 1 hX dX6_put_56 rfl ?_
              refine gf_X6_83 hX h_r2 dX6_put_58 ?_
              refine q_iload_n 5 hX dX6_put_61 rfl rfl ?_
              obtain ⟨b13, h⟩ := h
              refine q_aald (by decide) hX dX6_put_62 (rfO_1_1 h_r2) b13 ?_
              refine q_iload_n 4 hX dX6_put_63 rfl rfl ?_
              refine q_iload 6 hX dX6_put_64 rfl ?_
              obtain ⟨b14, h⟩ := h
              refine q_iast hX dX6_put_66 (rfA_6 (rfO_1_1 h_r2) b13) b14 ?_
              refine Wg.nmS (fun s15 es15 => ?_)
              replace h := h s15 es15
              refine q_iload 0 hX dX6_put_67 rfl ?_
              exact q_ret hX dX6_put_69 ⟨_, rfl, h⟩
            · replace h := h.2 c9
              refine q_bipush (v := (-2)) hX dX6_put_42 (by decide) ?_
              exact q_ret hX dX6_put_44 ⟨_, rfl, h⟩
        · replace h := h.2 c7
          refine q_iconst (v := (-1)) hX dX6_put_28 (by decide) ?_
          exact q_ret hX dX6_put_29 ⟨_, rfl, h⟩
set_option maxHeartbeats 4000000 in
set_option maxRecDepth 20000 in
theorem fl_X6_of {d : Nat} {ids : List Nat} {o : Nat} {a0 : Int32} {a1 : Int32} {a2 : Int32} {σ : St} {Q : Int32 → St → Prop} (h_o : IO ids o 6) (H : EO d ids Y_X6_caseAt [.ref o, .int a0] σ (fun o16 s1 => (o16 = none → Q (-1) s1) ∧ (∀ r2 : Nat, o16 = some r2 → IO ids r2 1 ∧ EI d ids Y_X6_isPoint [.int a1] s1 (fun x4 s3 => ((x4 = 0 → Q (-1) s3) ∧ (¬ x4 = 0 → ((a2 < 0 → Q (-1) s3) ∧ (¬ (a2 < 0) → ((a2 ≤ 4 → ((2 < a2 → ((¬ a2 = 3 → EI d ids Y_X1_standsUp [.ref r2, .ref (rf o 0), .int a1] s3 (fun x11 s10 => EI d ids Y_X6_asNumber [.int x11] s10 (fun x13 s12 => Q x13 s12))) ∧ (a2 = 3 → Q (((gi s3 r2 0) >>> (a1 &&& 31)) &&& 1) s3))) ∧ (¬ (2 < a2) → vp_in a2 3 ∧ vp_in a1 5 ∧ Q (gi s3 (rf (rf r2 1) (Int32.toNatClampNeg a2)) (Int32.toNatClampNeg a1)) s3))) ∧ (¬ (a2 ≤ 4) → Q (-1) s3)))))))))) : EI (d + 1) ids Y_X6_of [.ref o, .int a0, .int a1, .int a2] σ Q := by
  refine E_mk (by decide) (Nat.le_of_ble_eq_true rfl) (fun X hX => ?_)
  replace hX : Cok X ids 5 cX6_of (some .int) (d + 1) RX6 := hX
  show Wg X ids 5 _ 0 [(0, .ref o), (1, .int a0), (2, .int a1), (3, .int a2)] [] σ
  have h := H
  refine q_aload_n 0 hX dX6_of_0 rfl rfl ?_
  refine q_iload_n 1 hX dX6_of_1 rfl rfl ?_
  refine cl_X6_79 hX h_o dX6_of_2 (Nat.le_of_ble_eq_true rfl) h (fun s1 h => ?_) (fun r2 s1 h => ?_)
  · replace h := h.1 rfl
    refine q_astoreN (L' := [(4, .null), (0, .ref o), (1, .int a0), (2, .int a1), (3, .int a2)]) hX dX6_of_5 (by decide) rfl ?_
    refine q_aloadN 0 hX dX6_of_7 rfl ?_
    refine q_ifnullN 28 hX dX6_of_9 (by decide) ?_
    refine q_iconst (v := (-1)) hX dX6_of_28 (by decide) ?_
    exact q_ret hX dX6_of_29 ⟨_, rfl, h⟩
  · obtain ⟨h_r2, h⟩ := h.2 r2 rfl
    refine q_astore (L' := [(4, .ref r2), (0, .ref o), (1, .int a0), (2, .int a1), (3, .int a2)]) hX dX6_of_5 (by decide) rfl ?_
    refine q_aload 0 hX dX6_of_7 rfl ?_
    refine q_ifnull hX dX6_of_9 ?_
    refine q_iload_n 3 hX dX6_of_12 rfl rfl ?_
    refine cl_X6_68 hX dX6_of_13 (Nat.le_of_ble_eq_true rfl) h (fun x4 s3 h => ?_)
    refine q_if_eq 28 hX dX6_of_16 (by decide) (fun c5 => ?_) (fun c5 => ?_)
    · replace h := h.1 c5
      refine q_iconst (v := (-1)) hX dX6_of_28 (by decide) ?_
      exact q_ret hX dX6_of_29 ⟨_, rfl, h⟩
    · replace h := h.2 c5
      refine q_iload_n 4 hX dX6_of_19 rfl rfl ?_
      refine q_if_lt 28 hX dX6_of_20 (by decide) (fun c6 => ?_) (fun c6 => ?_)
      · replace h := h.1 c6
        refine q_iconst (v := (-1)) hX dX6_of_28 (by decide) ?_
        exact q_ret hX dX6_of_29 ⟨_, rfl, h⟩
      · replace h := h.2 c6
        refine q_iload_n 4 hX dX6_of_23 rfl rfl ?_
        refine q_iconst (v := 4) hX dX6_of_24 (by decide) ?_
        refine q_icmp_le 30 hX dX6_of_25 (by decide) (fun c7 => ?_) (fun c7 => ?_)
        · replace h := h.1 c7
          refine q_iload_n 4 hX dX6_of_30 rfl rfl ?_
          refine q_iconst (v := 2) hX dX6_of_31 (by decide) ?_
          refine q_icmp_gt 45 hX dX6_of_32 (by decide) (fun c8 => ?_) (fun c8 => ?_)
          · replace h := h.1 c8
            refine q_iload_n 4 hX dX6_of_45 rfl rfl ?_
            refine q_iconst (v := 3) hX dX6_of_46 (by decide) ?_
            refine q_icmp_ne 62 hX dX6_of_47 (by decide) (fun c9 => ?_) (fun c9 => ?_)
            · replace h := h.1 c9
              refine q_aload 0 hX dX6_of_62 rfl ?_
              refine q_aload_n 1 hX dX6_of_64 rfl rfl ?_
              refine gf_X6_11 hX h_o dX6_of_65 ?_
              refine q_iload_n 3 hX dX6_of_68 rfl rfl ?_
              refine cl_X6_90 hX h_r2 dX6_of_69 (Nat.le_of_ble_eq_true rfl) h (fun x11 s10 h => ?_)
              refine cl_X6_94 hX dX6_of_72 (Nat.le_of_ble_eq_true rfl) h (fun x13 s12 h => ?_)
              exact q_ret hX dX6_of_75 ⟨_, rfl, h⟩
            · replace h := h.2 c9
              refine q_aload 0 hX dX6_of_50 rfl ?_
              refine gf_X6_87 hX h_r2 dX6_of_52 ?_
              refine q_iload_n 3 hX dX6_of_55 rfl rfl ?_
              refine q_ishr hX dX6_of_56 ?_
              refine q_iconst (v := 1) hX dX6_of_57 (by decide) ?_
              refine q_iand hX dX6_of_58 ?_
              refine q_goto 75 hX dX6_of_59 (by decide) ?_
              exact q_ret hX dX6_of_75 ⟨_, rfl, h⟩
          · replace h := h.2 c8
            refine q_aload 0 hX dX6_of_35 rfl ?_
            refine gf_X6_83 hX h_r2 dX6_of_37 ?_
            refine q_iload_n 4 hX dX6_of_40 rfl rfl ?_
            obtain ⟨b14, h⟩ := h
            refine q_aald (by decide) hX dX6_of_41 (rfO_1_1 h_r2) b14 ?_
            refine q_iload_n 3 hX dX6_of_42 rfl rfl ?_
            obtain ⟨b15, h⟩ := h
            refine q_iald hX dX6_of_43 (rfA_6 (rfO_1_1 h_r2) b14) b15 ?_
            exact q_ret hX dX6_of_44 ⟨_, rfl, h⟩
        · replace h := h.2 c7
          refine q_iconst (v := (-1)) hX dX6_of_28 (by decide) ?_
          exact q_ret hX dX6_of_29 ⟨_, rfl, h⟩
set_option maxHeartbeats 4000000 in
set_option maxRecDepth 20000 in
theorem fl_X6_feed {d : Nat} {ids : List Nat} {o : Nat} {a0 : Int32} {a1 : Int32} {σ : St} {Q : Int32 → St → Prop} (h_o : IO ids o 6) (H : ∀ (P33 : Int32 → St → Prop), (∀ (v3 : Int32) (σ : St), (((v3 < 0 → Q (gi σ (rf o 4) 1) σ) ∧ (¬ (v3 < 0) → EV d ids Y_X5_add [.ref (rf o 4), .int ((UInt32.toInt32 ((Int32.toUInt32 a0) >>> ((Int32.toUInt32 (8 * v3)) &&& Int32.toUInt32 31))) &&& 255)] σ (fun s2 => ∀ x3 : Int32, x3 = v3 + (-1) → P33 x3 s2)))) → P33 v3 σ) → ((a1 < 0 → Q (-2) σ) ∧ (¬ (a1 < 0) → ((a1 ≤ 4 → ((((gi σ (rf o 4) 1) + a1) ≤ 100 → ∀ x7 : Int32, x7 = (a1 - 1) → P33 x7 σ) ∧ (¬ (((gi σ (rf o 4) 1) + a1) ≤ 100) → Q (-4) σ))) ∧ (¬ (a1 ≤ 4) → Q (-2) σ))))) : EI (d + 1) ids Y_X6_feed [.ref o, .int a0, .int a1] σ Q := by
  refine E_mk (by decide) (Nat.le_of_ble_eq_true rfl) (fun X hX => ?_)
  replace hX : Cok X ids 4 cX6_feed (some .int) (d + 1) RX6 := hX
  show Wg X ids 4 _ 0 [(0, .ref o), (1, .int a0), (2, .int a1)] [] σ
  have h := H (fun (v3 : Int32) (σ : St) => (Wg X ids 4 (fun r σ1 => ∃ x, r = some (Value.int x) ∧ Q x σ1) 33 [(0, .ref o), (1, .int a0), (3, .int v3)] [] σ))
  replace h := h (fun v3 σ h => by
    refine q_iload_n 2 hX dX6_feed_33 rfl rfl ?_
    refine q_if_lt 60 hX dX6_feed_34 (by decide) (fun c1 => ?_) (fun c1 => ?_)
    · replace h := h.1 c1
      refine q_aload_n 0 hX dX6_feed_60 rfl rfl ?_
      refine gf_X6_27 hX h_o dX6_feed_61 ?_
      refine gf_X6_98 hX (rfO_6_4 h_o) dX6_feed_64 ?_
      exact q_ret hX dX6_feed_67 ⟨_, rfl, h⟩
    · replace h := h.2 c1
      refine q_aload_n 0 hX dX6_feed_37 rfl rfl ?_
      refine gf_X6_27 hX h_o dX6_feed_38 ?_
      refine q_iload_n 1 hX dX6_feed_41 rfl rfl ?_
      refine q_bipush (v := 8) hX dX6_feed_42 (by decide) ?_
      refine q_iload_n 2 hX dX6_feed_44 rfl rfl ?_
      refine q_imul hX dX6_feed_45 ?_
      refine q_iushr hX dX6_feed_46 ?_
      refine q_sipush (v := 255) hX dX6_feed_47 (by decide) ?_
      refine q_iand hX dX6_feed_50 ?_
      refine cl_X6_101 hX (rfO_6_4 h_o) dX6_feed_51 (Nat.le_of_ble_eq_true rfl) h (fun s2 h => ?_)
      obtain ⟨x3, ex3⟩ : ∃ z : Int32, z = v3 + (-1) := ⟨_, rfl⟩
      replace h := h x3 ex3
      refine q_iinc (v := x3) (L' := [(3, .int x3), (0, .ref o), (1, .int a0)]) 2 hX dX6_feed_54 rfl (by rw [ex3]; rfl) (by decide) rfl ?_
      refine q_goto 33 hX dX6_feed_57 (by decide) ?_
      exact Wg.sub [1, 2, 0] rfl (h)
    )
  refine q_iload_n 2 hX dX6_feed_0 rfl rfl ?_
  refine q_if_lt 9 hX dX6_feed_1 (by decide) (fun c4 => ?_) (fun c4 => ?_)
  · replace h := h.1 c4
    refine q_bipush (v := (-2)) hX dX6_feed_9 (by decide) ?_
    exact q_ret hX dX6_feed_11 ⟨_, rfl, h⟩
  · replace h := h.2 c4
    refine q_iload_n 2 hX dX6_feed_4 rfl rfl ?_
    refine q_iconst (v := 4) hX dX6_feed_5 (by decide) ?_
    refine q_icmp_le 12 hX dX6_feed_6 (by decide) (fun c5 => ?_) (fun c5 => ?_)
    · replace h := h.1 c5
      refine q_aload_n 0 hX dX6_feed_12 rfl rfl ?_
      refine gf_X6_27 hX h_o dX6_feed_13 ?_
      refine gf_X6_98 hX (rfO_6_4 h_o) dX6_feed_16 ?_
      refine q_iload_n 2 hX dX6_feed_19 rfl rfl ?_
      refine q_iadd hX dX6_feed_20 ?_
      refine q_bipush (v := 100) hX dX6_feed_21 (by decide) ?_
      refine q_icmp_le 29 hX dX6_feed_23 (by decide) (fun c6 => ?_) (fun c6 => ?_)
      · replace h := h.1 c6
        refine q_iload_n 2 hX dX6_feed_29 rfl rfl ?_
        refine q_iconst (v := 1) hX dX6_feed_30 (by decide) ?_
        refine q_isub hX dX6_feed_31 ?_
        refine Wg.nmI (fun x7 ex7 => ?_)
        replace h := h x7 ex7
        refine q_istore_n (L' := [(3, .int x7), (0, .ref o), (1, .int a0), (2, .int a1)]) hX dX6_feed_32 rfl (by decide) rfl ?_
        exact Wg.sub [1, 2, 0] rfl (h)
      · replace h := h.2 c6
        refine q_bipush (v := (-4)) hX dX6_feed_26 (by decide) ?_
        exact q_ret hX dX6_feed_28 ⟨_, rfl, h⟩
    · replace h := h.2 c5
      refine q_bipush (v := (-2)) hX dX6_feed_9 (by decide) ?_
      exact q_ret hX dX6_feed_11 ⟨_, rfl, h⟩
set_option maxHeartbeats 4000000 in
set_option maxRecDepth 20000 in
theorem fl_X6_rules {d : Nat} {ids : List Nat} {o : Nat} {σ : St} {Q : Int32 → St → Prop} (h_o : IO ids o 6) (H : ∀ (P75 : St → Prop), (∀ (σ : St), (Q ((gi σ o 6) - 1) σ) → P75 σ) → (((gi σ o 6) < 5 → vp_in (gi σ o 6) 5 ∧ EI d ids Y_X5_faultOf [.ref (rf o 4), .ref (rf (rf o 5) (Int32.toNatClampNeg (gi σ o 6)))] σ (fun x4 s3 => ∀ s5 : St, s5 = si s3 (rf o 4) 1 0 → ((x4 = (-1) → ∀ s7 : St, s7 = si s5 o 6 ((gi s5 o 6) + 1) → ((¬ (gi s7 o 6) = 1 → P75 s7) ∧ ((gi s7 o 6) = 1 → EV d ids Y_X2_restart [.ref (rf o 7), .ref (rf (rf o 5) (Int32.toNatClampNeg (gi σ o 6))), .int (-1)] s7 (fun s9 => P75 s9)))) ∧ (¬ x4 = (-1) → Q ((-10) - x4) s5)))) ∧ (¬ ((gi σ o 6) < 5) → Q (-4) σ))) : EI (d + 1) ids Y_X6_rules [.ref o] σ Q := by
  refine E_mk (by decide) (Nat.le_of_ble_eq_true rfl) (fun X hX => ?_)
  replace hX : Cok X ids 3 cX6_rules (some .int) (d + 1) RX6 := hX
  show Wg X ids 3 _ 0 [(0, .ref o)] [] σ
  have h := H (fun (σ : St) => (Wg X ids 3 (fun r σ1 => ∃ x, r = some (Value.int x) ∧ Q x σ1) 75 [(0, .ref o)] [] σ))
  replace h := h (fun σ h => by
    refine q_aload_n 0 hX dX6_rules_75 rfl rfl ?_
    refine gf_X6_104 hX h_o dX6_rules_76 ?_
    refine q_iconst (v := 1) hX dX6_rules_79 (by decide) ?_
    refine q_isub hX dX6_rules_80 ?_
    exact q_ret hX dX6_rules_81 ⟨_, rfl, h⟩
    )
  refine q_aload_n 0 hX dX6_rules_0 rfl rfl ?_
  refine gf_X6_104 hX h_o dX6_rules_1 ?_
  refine q_iconst (v := 5) hX dX6_rules_4 (by decide) ?_
  refine q_icmp_lt 11 hX dX6_rules_5 (by decide) (fun c1 => ?_) (fun c1 => ?_)
  · replace h := h.1 c1
    refine q_aload_n 0 hX dX6_rules_11 rfl rfl ?_
    refine gf_X6_33 hX h_o dX6_rules_12 ?_
    refine q_aload_n 0 hX dX6_rules_15 rfl rfl ?_
    refine gf_X6_104 hX h_o dX6_rules_16 ?_
    obtain ⟨b2, h⟩ := h
    refine q_aald (by decide) hX dX6_rules_19 (rfO_6_5 h_o) b2 ?_
    refine q_astore_n (L' := [(1, .ref (rf (rf o 5) (Int32.toNatClampNeg (gi σ o 6)))), (0, .ref o)]) hX dX6_rules_20 rfl (by decide) rfl ?_
    refine q_aload_n 1 hX dX6_rules_21 rfl rfl ?_
    refine gf_X6_27 hX h_o dX6_rules_22 ?_
    refine q_aload_n 0 hX dX6_rules_25 rfl rfl ?_
    refine cl_X6_107 hX (rfO_6_4 h_o) dX6_rules_26 (Nat.le_of_ble_eq_true rfl) h (fun x4 s3 h => ?_)
    refine q_istore_n (L' := [(2, .int x4), (1, .ref (rf (rf o 5) (Int32.toNatClampNeg (gi σ o 6)))), (0, .ref o)]) hX dX6_rules_29 rfl (by decide) rfl ?_
    refine q_aload_n 2 hX dX6_rules_30 rfl rfl ?_
    refine gf_X6_27 hX h_o dX6_rules_31 ?_
    refine q_iconst (v := 0) hX dX6_rules_34 (by decide) ?_
    refine pf_X6_98 hX (rfO_6_4 h_o) dX6_rules_35 ?_
    refine Wg.nmS (fun s5 es5 => ?_)
    replace h := h s5 es5
    refine q_iload_n 0 hX dX6_rules_38 rfl rfl ?_
    refine q_iconst (v := (-1)) hX dX6_rules_39 (by decide) ?_
    refine q_icmp_eq 48 hX dX6_rules_40 (by decide) (fun c6 => ?_) (fun c6 => ?_)
    · replace h := h.1 c6
      refine q_aload_n 2 hX dX6_rules_48 rfl rfl ?_
      refine q_dup hX dX6_rules_49 rfl ?_
      refine gf_X6_104 hX h_o dX6_rules_50 ?_
      refine q_iconst (v := 1) hX dX6_rules_53 (by decide) ?_
      refine q_iadd hX dX6_rules_54 ?_
      refine pf_X6_104 hX h_o dX6_rules_55 ?_
      refine Wg.nmS (fun s7 es7 => ?_)
      replace h := h s7 es7
      refine q_aload_n 2 hX dX6_rules_58 rfl rfl ?_
      refine gf_X6_104 hX h_o dX6_rules_59 ?_
      refine q_iconst (v := 1) hX dX6_rules_62 (by decide) ?_
      refine q_icmp_ne 75 hX dX6_rules_63 (by decide) (fun c8 => ?_) (fun c8 => ?_)
      · replace h := h.1 c8
        exact Wg.sub [2] rfl (h)
      · replace h := h.2 c8
        refine q_aload_n 2 hX dX6_rules_66 rfl rfl ?_
        refine gf_X6_42 hX h_o dX6_rules_67 ?_
        refine q_aload_n 1 hX dX6_rules_70 rfl rfl ?_
        refine q_iconst (v := (-1)) hX dX6_rules_71 (by decide) ?_
        refine cl_X6_111 hX (rfO_6_7 h_o) dX6_rules_72 (Nat.le_of_ble_eq_true rfl) h (fun s9 h => ?_)
        exact Wg.sub [2] rfl (h)
    · replace h := h.2 c6
      refine q_bipush (v := (-10)) hX dX6_rules_43 (by decide) ?_
      refine q_iload_n 0 hX dX6_rules_45 rfl rfl ?_
      refine q_isub hX dX6_rules_46 ?_
      exact q_ret hX dX6_rules_47 ⟨_, rfl, h⟩
  · replace h := h.2 c1
    refine q_bipush (v := (-4)) hX dX6_rules_8 (by decide) ?_
    exact q_ret hX dX6_rules_10 ⟨_, rfl, h⟩
set_option maxHeartbeats 4000000 in
set_option maxRecDepth 20000 in
theorem fl_X6_begin {d : Nat} {ids : List Nat} {o : Nat} {a0 : Int32} {σ : St} {Q : Int32 → St → Prop} (h_o : IO ids o 6) (H : EO d ids Y_X6_rulesAt [.ref o, .int a0] σ (fun o4 s1 => (o4 = none → Q (-1) s1) ∧ (∀ r2 : Nat, o4 = some r2 → IO ids r2 3 ∧ EV d ids Y_X2_restart [.ref (rf o 7), .ref r2, .int (-1)] s1 (fun s3 => Q 1 s3)))) : EI (d + 1) ids Y_X6_begin [.ref o, .int a0] σ Q := by
  refine E_mk (by decide) (Nat.le_of_ble_eq_true rfl) (fun X hX => ?_)
  replace hX : Cok X ids 3 cX6_begin (some .int) (d + 1) RX6 := hX
  show Wg X ids 3 _ 0 [(0, .ref o), (1, .int a0)] [] σ
  have h := H
  refine q_aload_n 0 hX dX6_begin_0 rfl rfl ?_
  refine q_iload_n 1 hX dX6_begin_1 rfl rfl ?_
  refine cl_X6_115 hX h_o dX6_begin_2 (Nat.le_of_ble_eq_true rfl) h (fun s1 h => ?_) (fun r2 s1 h => ?_)
  · replace h := h.1 rfl
    refine q_astore_nN (L' := [(2, .null), (0, .ref o), (1, .int a0)]) hX dX6_begin_5 rfl (by decide) rfl ?_
    refine q_aload_nN 0 hX dX6_begin_6 rfl rfl ?_
    refine q_ifnonnullN hX dX6_begin_7 ?_
    refine q_iconst (v := (-1)) hX dX6_begin_10 (by decide) ?_
    exact q_ret hX dX6_begin_11 ⟨_, rfl, h⟩
  · obtain ⟨h_r2, h⟩ := h.2 r2 rfl
    refine q_astore_n (L' := [(2, .ref r2), (0, .ref o), (1, .int a0)]) hX dX6_begin_5 rfl (by decide) rfl ?_
    refine q_aload_n 0 hX dX6_begin_6 rfl rfl ?_
    refine q_ifnonnull 12 hX dX6_begin_7 (by decide) ?_
    refine q_aload_n 1 hX dX6_begin_12 rfl rfl ?_
    refine gf_X6_42 hX h_o dX6_begin_13 ?_
    refine q_aload_n 0 hX dX6_begin_16 rfl rfl ?_
    refine q_iconst (v := (-1)) hX dX6_begin_17 (by decide) ?_
    refine cl_X6_111 hX (rfO_6_7 h_o) dX6_begin_18 (Nat.le_of_ble_eq_true rfl) h (fun s3 h => ?_)
    refine q_iconst (v := 1) hX dX6_begin_21 (by decide) ?_
    exact q_ret hX dX6_begin_22 ⟨_, rfl, h⟩
set_option maxHeartbeats 4000000 in
set_option maxRecDepth 20000 in
theorem fl_X6_may {d : Nat} {ids : List Nat} {o : Nat} {a0 : Int32} {σ : St} {Q : Int32 → St → Prop} (h_o : IO ids o 6) (H : EI d ids Y_X6_placeOf [.int a0] σ (fun x2 s1 => ((¬ x2 = (-1) → EI d ids Y_X2_open [.ref (rf o 7)] s1 (fun x5 s4 => Q ((x5 >>> (x2 &&& 31)) &&& 1) s4)) ∧ (x2 = (-1) → Q (-2) s1)))) : EI (d + 1) ids Y_X6_may [.ref o, .int a0] σ Q := by
  refine E_mk (by decide) (Nat.le_of_ble_eq_true rfl) (fun X hX => ?_)
  replace hX : Cok X ids 3 cX6_may (some .int) (d + 1) RX6 := hX
  show Wg X ids 3 _ 0 [(0, .ref o), (1, .int a0)] [] σ
  have h := H
  refine q_iload_n 1 hX dX6_may_0 rfl rfl ?_
  refine cl_X6_119 hX dX6_may_1 (Nat.le_of_ble_eq_true rfl) h (fun x2 s1 h => ?_)
  refine q_istore_n (L' := [(2, .int x2), (0, .ref o), (1, .int a0)]) hX dX6_may_4 rfl (by decide) rfl ?_
  refine q_iload_n 0 hX dX6_may_5 rfl rfl ?_
  refine q_iconst (v := (-1)) hX dX6_may_6 (by decide) ?_
  refine q_icmp_ne 15 hX dX6_may_7 (by decide) (fun c3 => ?_) (fun c3 => ?_)
  · replace h := h.1 c3
    refine q_aload_n 1 hX dX6_may_15 rfl rfl ?_
    refine gf_X6_42 hX h_o dX6_may_16 ?_
    refine cl_X6_123 hX (rfO_6_7 h_o) dX6_may_19 (Nat.le_of_ble_eq_true rfl) h (fun x5 s4 h => ?_)
    refine q_iload_n 0 hX dX6_may_22 rfl rfl ?_
    refine q_ishr hX dX6_may_23 ?_
    refine q_iconst (v := 1) hX dX6_may_24 (by decide) ?_
    refine q_iand hX dX6_may_25 ?_
    exact q_ret hX dX6_may_26 ⟨_, rfl, h⟩
  · replace h := h.2 c3
    refine q_bipush (v := (-2)) hX dX6_may_10 (by decide) ?_
    refine q_goto 26 hX dX6_may_12 (by decide) ?_
    exact q_ret hX dX6_may_26 ⟨_, rfl, h⟩
set_option maxHeartbeats 4000000 in
set_option maxRecDepth 20000 in
theorem fl_X6_plead {d : Nat} {ids : List Nat} {o : Nat} {a0 : Int32} {σ : St} {Q : Int32 → St → Prop} (h_o : IO ids o 6) (H : EI d ids Y_X6_placeOf [.int a0] σ (fun x2 s1 => ((¬ x2 = (-1) → EI d ids Y_X2_open [.ref (rf o 7)] s1 (fun x5 s4 => ((¬ ((x5 >>> (x2 &&& 31)) &&& 1) = 0 → EV d ids Y_X2_make [.ref (rf o 7), .int a0] s4 (fun s7 => Q (gi s7 (rf o 7) 10) s7)) ∧ (((x5 >>> (x2 &&& 31)) &&& 1) = 0 → Q (-3) s4)))) ∧ (x2 = (-1) → Q (-2) s1)))) : EI (d + 1) ids Y_X6_plead [.ref o, .int a0] σ Q := by
  refine E_mk (by decide) (Nat.le_of_ble_eq_true rfl) (fun X hX => ?_)
  replace hX : Cok X ids 3 cX6_plead (some .int) (d + 1) RX6 := hX
  show Wg X ids 3 _ 0 [(0, .ref o), (1, .int a0)] [] σ
  have h := H
  refine q_iload_n 1 hX dX6_plead_0 rfl rfl ?_
  refine cl_X6_119 hX dX6_plead_1 (Nat.le_of_ble_eq_true rfl) h (fun x2 s1 h => ?_)
  refine q_istore_n (L' := [(2, .int x2), (0, .ref o), (1, .int a0)]) hX dX6_plead_4 rfl (by decide) rfl ?_
  refine q_iload_n 0 hX dX6_plead_5 rfl rfl ?_
  refine q_iconst (v := (-1)) hX dX6_plead_6 (by decide) ?_
  refine q_icmp_ne 13 hX dX6_plead_7 (by decide) (fun c3 => ?_) (fun c3 => ?_)
  · replace h := h.1 c3
    refine q_aload_n 1 hX dX6_plead_13 rfl rfl ?_
    refine gf_X6_42 hX h_o dX6_plead_14 ?_
    refine cl_X6_123 hX (rfO_6_7 h_o) dX6_plead_17 (Nat.le_of_ble_eq_true rfl) h (fun x5 s4 h => ?_)
    refine q_iload_n 0 hX dX6_plead_20 rfl rfl ?_
    refine q_ishr hX dX6_plead_21 ?_
    refine q_iconst (v := 1) hX dX6_plead_22 (by decide) ?_
    refine q_iand hX dX6_plead_23 ?_
    refine q_if_ne 30 hX dX6_plead_24 (by decide) (fun c6 => ?_) (fun c6 => ?_)
    · replace h := h.1 c6
      refine q_aload_n 1 hX dX6_plead_30 rfl rfl ?_
      refine gf_X6_42 hX h_o dX6_plead_31 ?_
      refine q_iload_n 2 hX dX6_plead_34 rfl rfl ?_
      refine cl_X6_127 hX (rfO_6_7 h_o) dX6_plead_35 (Nat.le_of_ble_eq_true rfl) h (fun s7 h => ?_)
      refine q_aload_n 1 hX dX6_plead_38 rfl rfl ?_
      refine gf_X6_42 hX h_o dX6_plead_39 ?_
      refine gf_X6_130 hX (rfO_6_7 h_o) dX6_plead_42 ?_
      exact q_ret hX dX6_plead_45 ⟨_, rfl, h⟩
    · replace h := h.2 c6
      refine q_bipush (v := (-3)) hX dX6_plead_27 (by decide) ?_
      exact q_ret hX dX6_plead_29 ⟨_, rfl, h⟩
  · replace h := h.2 c3
    refine q_bipush (v := (-2)) hX dX6_plead_10 (by decide) ?_
    exact q_ret hX dX6_plead_12 ⟨_, rfl, h⟩
set_option maxHeartbeats 4000000 in
set_option maxRecDepth 20000 in
theorem fl_X6_back {d : Nat} {ids : List Nat} {o : Nat} {σ : St} {Q : Int32 → St → Prop} (h_o : IO ids o 6) (H : ((¬ (gi σ (rf o 7) 10) = 0 → ∀ s2 : St, s2 = si σ (rf o 7) 10 ((gi σ (rf o 7) 10) - 1) → Q (gi s2 (rf o 7) 10) s2) ∧ ((gi σ (rf o 7) 10) = 0 → Q (-3) σ))) : EI (d + 1) ids Y_X6_back [.ref o] σ Q := by
  refine E_mk (by decide) (Nat.le_of_ble_eq_true rfl) (fun X hX => ?_)
  replace hX : Cok X ids 1 cX6_back (some .int) (d + 1) RX6 := hX
  show Wg X ids 1 _ 0 [(0, .ref o)] [] σ
  have h := H
  refine q_aload_n 0 hX dX6_back_0 rfl rfl ?_
  refine gf_X6_42 hX h_o dX6_back_1 ?_
  refine gf_X6_130 hX (rfO_6_7 h_o) dX6_back_4 ?_
  refine q_if_ne 13 hX dX6_back_7 (by decide) (fun c1 => ?_) (fun c1 => ?_)
  · replace h := h.1 c1
    refine q_aload_n 0 hX dX6_back_13 rfl rfl ?_
    refine gf_X6_42 hX h_o dX6_back_14 ?_
    refine q_dup hX dX6_back_17 rfl ?_
    refine gf_X6_130 hX (rfO_6_7 h_o) dX6_back_18 ?_
    refine q_iconst (v := 1) hX dX6_back_21 (by decide) ?_
    refine q_isub hX dX6_back_22 ?_
    refine pf_X6_130 hX (rfO_6_7 h_o) dX6_back_23 ?_
    refine Wg.nmS (fun s2 es2 => ?_)
    replace h := h s2 es2
    refine q_aload_n 0 hX dX6_back_26 rfl rfl ?_
    refine gf_X6_42 hX h_o dX6_back_27 ?_
    refine gf_X6_130 hX (rfO_6_7 h_o) dX6_back_30 ?_
    exact q_ret hX dX6_back_33 ⟨_, rfl, h⟩
  · replace h := h.2 c1
    refine q_bipush (v := (-3)) hX dX6_back_10 (by decide) ?_
    exact q_ret hX dX6_back_12 ⟨_, rfl, h⟩
set_option maxHeartbeats 4000000 in
set_option maxRecDepth 20000 in
theorem fl_X6_stands {d : Nat} {ids : List Nat} {o : Nat} {a0 : Int32} {σ : St} {Q : Int32 → St → Prop} (h_o : IO ids o 6) (H : ER d ids Y_X2_now [.ref (rf o 7)] σ (fun r2 s1 => IO ids r2 4 ∧ ((a0 = 0 → Q (gi s1 r2 3) s1) ∧ (a0 = 1 → Q (gi s1 r2 4) s1) ∧ (a0 = 2 → Q (gi s1 r2 5) s1) ∧ (a0 = 3 → Q (gi s1 r2 2) s1) ∧ (a0 = 4 → EI d ids Y_X2_endSort [.ref (rf o 7)] s1 (fun x5 s4 => Q x5 s4)) ∧ (¬ a0 = 0 → ¬ a0 = 1 → ¬ a0 = 2 → ¬ a0 = 3 → ¬ a0 = 4 → ((10 ≤ a0 → EI d ids Y_X2_pleaAt [.ref (rf o 7), .int (a0 - 10)] s1 (fun x8 s7 => Q x8 s7)) ∧ (¬ (10 ≤ a0) → Q (-1) s1)))))) : EI (d + 1) ids Y_X6_stands [.ref o, .int a0] σ Q := by
  refine E_mk (by decide) (Nat.le_of_ble_eq_true rfl) (fun X hX => ?_)
  replace hX : Cok X ids 3 cX6_stands (some .int) (d + 1) RX6 := hX
  show Wg X ids 3 _ 0 [(0, .ref o), (1, .int a0)] [] σ
  have h := H
  refine q_aload_n 0 hX dX6_stands_0 rfl rfl ?_
  refine gf_X6_42 hX h_o dX6_stands_1 ?_
  refine cl_X6_133 hX (rfO_6_7 h_o) dX6_stands_4 (Nat.le_of_ble_eq_true rfl) h (fun r2 s1 h => ?_)
  obtain ⟨h_r2, h⟩ := h
  refine q_astore_n (L' := [(2, .ref r2), (0, .ref o), (1, .int a0)]) hX dX6_stands_7 rfl (by decide) rfl ?_
  refine q_iload_n 2 hX dX6_stands_8 rfl rfl ?_
  by_cases c3_0 : a0 = 0
  · refine q_tableIn (off := 35) 44 hX dX6_stands_9 (by rw [c3_0]; decide) (by rw [c3_0]; decide) (by first | (rw [c3_0]; done) | (rw [c3_0]; rfl)) (by decide) ?_
    replace h := h.1 c3_0
    refine q_aload_n 0 hX dX6_stands_44 rfl rfl ?_
    refine gf_X6_137 hX h_r2 dX6_stands_45 ?_
    exact q_ret hX dX6_stands_48 ⟨_, rfl, h⟩
  by_cases c3_1 : a0 = 1
  · refine q_tableIn (off := 40) 49 hX dX6_stands_9 (by rw [c3_1]; decide) (by rw [c3_1]; decide) (by first | (rw [c3_1]; done) | (rw [c3_1]; rfl)) (by decide) ?_
    replace h := h.2.1 c3_1
    refine q_aload_n 0 hX dX6_stands_49 rfl rfl ?_
    refine gf_X6_142 hX h_r2 dX6_stands_50 ?_
    exact q_ret hX dX6_stands_53 ⟨_, rfl, h⟩
  by_cases c3_2 : a0 = 2
  · refine q_tableIn (off := 45) 54 hX dX6_stands_9 (by rw [c3_2]; decide) (by rw [c3_2]; decide) (by first | (rw [c3_2]; done) | (rw [c3_2]; rfl)) (by decide) ?_
    replace h := h.2.2.1 c3_2
    refine q_aload_n 0 hX dX6_stands_54 rfl rfl ?_
    refine gf_X6_145 hX h_r2 dX6_stands_55 ?_
    exact q_ret hX dX6_stands_58 ⟨_, rfl, h⟩
  by_cases c3_3 : a0 = 3
  · refine q_tableIn (off := 50) 59 hX dX6_stands_9 (by rw [c3_3]; decide) (by rw [c3_3]; decide) (by first | (rw [c3_3]; done) | (rw [c3_3]; rfl)) (by decide) ?_
    replace h := h.2.2.2.1 c3_3
    refine q_aload_n 0 hX dX6_stands_59 rfl rfl ?_
    refine gf_X6_148 hX h_r2 dX6_stands_60 ?_
    exact q_ret hX dX6_stands_63 ⟨_, rfl, h⟩
  by_cases c3_4 : a0 = 4
  · refine q_tableIn (off := 55) 64 hX dX6_stands_9 (by rw [c3_4]; decide) (by rw [c3_4]; decide) (by first | (rw [c3_4]; done) | (rw [c3_4]; rfl)) (by decide) ?_
    replace h := h.2.2.2.2.1 c3_4
    refine q_aload_n 1 hX dX6_stands_64 rfl rfl ?_
    refine gf_X6_42 hX h_o dX6_stands_65 ?_
    refine cl_X6_151 hX (rfO_6_7 h_o) dX6_stands_68 (Nat.le_of_ble_eq_true rfl) h (fun x5 s4 h => ?_)
    exact q_ret hX dX6_stands_71 ⟨_, rfl, h⟩
  refine q_tableOut 72 hX dX6_stands_9 (by have e0 := ne_toInt (k := 0) c3_0 (by decide); have e1 := ne_toInt (k := 1) c3_1 (by decide); have e2 := ne_toInt (k := 2) c3_2 (by decide); have e3 := ne_toInt (k := 3) c3_3 (by decide); have e4 := ne_toInt (k := 4) c3_4 (by decide); omega) (by decide) ?_
  replace h := h.2.2.2.2.2 c3_0 c3_1 c3_2 c3_3 c3_4
  refine q_iload_n 2 hX dX6_stands_72 rfl rfl ?_
  refine q_bipush (v := 10) hX dX6_stands_73 (by decide) ?_
  refine q_icmp_ge 82 hX dX6_stands_75 (by decide) (fun c6 => ?_) (fun c6 => ?_)
  · replace h := h.1 c6
    refine q_aload_n 1 hX dX6_stands_82 rfl rfl ?_
    refine gf_X6_42 hX h_o dX6_stands_83 ?_
    refine q_iload_n 2 hX dX6_stands_86 rfl rfl ?_
    refine q_bipush (v := 10) hX dX6_stands_87 (by decide) ?_
    refine q_isub hX dX6_stands_89 ?_
    refine cl_X6_154 hX (rfO_6_7 h_o) dX6_stands_90 (Nat.le_of_ble_eq_true rfl) h (fun x8 s7 h => ?_)
    exact q_ret hX dX6_stands_93 ⟨_, rfl, h⟩
  · replace h := h.2 c6
    refine q_iconst (v := (-1)) hX dX6_stands_78 (by decide) ?_
    refine q_goto 93 hX dX6_stands_79 (by decide) ?_
    exact q_ret hX dX6_stands_93 ⟨_, rfl, h⟩
set_option maxHeartbeats 4000000 in
set_option maxRecDepth 20000 in
theorem fl_X6_ends {d : Nat} {ids : List Nat} {o : Nat} {a0 : Int32} {σ : St} {Q : Int32 → St → Prop} (h_o : IO ids o 6) (H : ∀ (P27 : St → Prop), (∀ (σ : St), (EI d ids Y_X2_countEnds [.ref (rf o 7), .int a0] σ (fun x2 s1 => Q x2 s1)) → P27 σ) → ((a0 = 0 → P27 σ) ∧ (¬ a0 = 0 → ((a0 = 1 → P27 σ) ∧ (¬ a0 = 1 → ((a0 = 3 → P27 σ) ∧ (¬ a0 = 3 → ((a0 = 4 → P27 σ) ∧ (¬ a0 = 4 → ((a0 = 7 → P27 σ) ∧ (¬ a0 = 7 → Q (-1) σ))))))))))) : EI (d + 1) ids Y_X6_ends [.ref o, .int a0] σ Q := by
  refine E_mk (by decide) (Nat.le_of_ble_eq_true rfl) (fun X hX => ?_)
  replace hX : Cok X ids 2 cX6_ends (some .int) (d + 1) RX6 := hX
  show Wg X ids 2 _ 0 [(0, .ref o), (1, .int a0)] [] σ
  have h := H (fun (σ : St) => (Wg X ids 2 (fun r σ1 => ∃ x, r = some (Value.int x) ∧ Q x σ1) 27 [(0, .ref o), (1, .int a0)] [] σ))
  replace h := h (fun σ h => by
    refine q_aload_n 0 hX dX6_ends_27 rfl rfl ?_
    refine gf_X6_42 hX h_o dX6_ends_28 ?_
    refine q_iload_n 1 hX dX6_ends_31 rfl rfl ?_
    refine cl_X6_157 hX (rfO_6_7 h_o) dX6_ends_32 (Nat.le_of_ble_eq_true rfl) h (fun x2 s1 h => ?_)
    exact q_ret hX dX6_ends_35 ⟨_, rfl, h⟩
    )
  refine q_iload_n 1 hX dX6_ends_0 rfl rfl ?_
  refine q_if_eq 27 hX dX6_ends_1 (by decide) (fun c3 => ?_) (fun c3 => ?_)
  · replace h := h.1 c3
    exact Wg.sub [0, 1] rfl (h)
  · replace h := h.2 c3
    refine q_iload_n 1 hX dX6_ends_4 rfl rfl ?_
    refine q_iconst (v := 1) hX dX6_ends_5 (by decide) ?_
    refine q_icmp_eq 27 hX dX6_ends_6 (by decide) (fun c4 => ?_) (fun c4 => ?_)
    · replace h := h.1 c4
      exact Wg.sub [0, 1] rfl (h)
    · replace h := h.2 c4
      refine q_iload_n 1 hX dX6_ends_9 rfl rfl ?_
      refine q_iconst (v := 3) hX dX6_ends_10 (by decide) ?_
      refine q_icmp_eq 27 hX dX6_ends_11 (by decide) (fun c5 => ?_) (fun c5 => ?_)
      · replace h := h.1 c5
        exact Wg.sub [0, 1] rfl (h)
      · replace h := h.2 c5
        refine q_iload_n 1 hX dX6_ends_14 rfl rfl ?_
        refine q_iconst (v := 4) hX dX6_ends_15 (by decide) ?_
        refine q_icmp_eq 27 hX dX6_ends_16 (by decide) (fun c6 => ?_) (fun c6 => ?_)
        · replace h := h.1 c6
          exact Wg.sub [0, 1] rfl (h)
        · replace h := h.2 c6
          refine q_iload_n 1 hX dX6_ends_19 rfl rfl ?_
          refine q_bipush (v := 7) hX dX6_ends_20 (by decide) ?_
          refine q_icmp_eq 27 hX dX6_ends_22 (by decide) (fun c7 => ?_) (fun c7 => ?_)
          · replace h := h.1 c7
            exact Wg.sub [0, 1] rfl (h)
          · replace h := h.2 c7
            refine q_iconst (v := (-1)) hX dX6_ends_25 (by decide) ?_
            exact q_ret hX dX6_ends_26 ⟨_, rfl, h⟩
set_option maxHeartbeats 4000000 in
set_option maxRecDepth 20000 in
theorem fl_X6_row {d : Nat} {ids : List Nat} {o : Nat} {a0 : Int32} {a1 : Int32} {σ : St} {Q : Int32 → St → Prop} (h_o : IO ids o 6) (H : ∀ (P9 : St → Prop), (∀ (σ : St), (Q (-1) σ) → P9 σ) → ((a0 < 0 → P9 σ) ∧ (¬ (a0 < 0) → (((-1) ≤ a1 → EI d ids Y_X2_pleaOfRow [.ref (rf o 7), .int a0, .int a1] σ (fun x4 s3 => Q x4 s3)) ∧ (¬ ((-1) ≤ a1) → P9 σ))))) : EI (d + 1) ids Y_X6_row [.ref o, .int a0, .int a1] σ Q := by
  refine E_mk (by decide) (Nat.le_of_ble_eq_true rfl) (fun X hX => ?_)
  replace hX : Cok X ids 3 cX6_row (some .int) (d + 1) RX6 := hX
  show Wg X ids 3 _ 0 [(0, .ref o), (1, .int a0), (2, .int a1)] [] σ
  have h := H (fun (σ : St) => (Wg X ids 3 (fun r σ1 => ∃ x, r = some (Value.int x) ∧ Q x σ1) 9 [] [] σ))
  replace h := h (fun σ h => by
    refine q_iconst (v := (-1)) hX dX6_row_9 (by decide) ?_
    refine q_goto 22 hX dX6_row_10 (by decide) ?_
    exact q_ret hX dX6_row_22 ⟨_, rfl, h⟩
    )
  refine q_iload_n 1 hX dX6_row_0 rfl rfl ?_
  refine q_if_lt 9 hX dX6_row_1 (by decide) (fun c1 => ?_) (fun c1 => ?_)
  · replace h := h.1 c1
    exact Wg.sub [] rfl (h)
  · replace h := h.2 c1
    refine q_iload_n 2 hX dX6_row_4 rfl rfl ?_
    refine q_iconst (v := (-1)) hX dX6_row_5 (by decide) ?_
    refine q_icmp_ge 13 hX dX6_row_6 (by decide) (fun c2 => ?_) (fun c2 => ?_)
    · replace h := h.1 c2
      refine q_aload_n 0 hX dX6_row_13 rfl rfl ?_
      refine gf_X6_42 hX h_o dX6_row_14 ?_
      refine q_iload_n 1 hX dX6_row_17 rfl rfl ?_
      refine q_iload_n 2 hX dX6_row_18 rfl rfl ?_
      refine cl_X6_160 hX (rfO_6_7 h_o) dX6_row_19 (Nat.le_of_ble_eq_true rfl) h (fun x4 s3 h => ?_)
      exact q_ret hX dX6_row_22 ⟨_, rfl, h⟩
    · replace h := h.2 c2
      exact Wg.sub [] rfl (h)
set_option maxHeartbeats 4000000 in
set_option maxRecDepth 20000 in
theorem fl_X6_worth {d : Nat} {ids : List Nat} {o : Nat} {a0 : Int32} {σ : St} {Q : Int32 → St → Prop} (h_o : IO ids o 6) (H : EO d ids Y_X6_caseAt [.ref o, .int a0] σ (fun o8 s1 => (o8 = none → Q (-1) s1) ∧ (∀ r2 : Nat, o8 = some r2 → IO ids r2 1 ∧ EI d ids Y_X2_endSort [.ref (rf o 7)] s1 (fun x4 s3 => ((¬ x4 = 0 → EI d ids Y_X2_worthIn [.ref (rf o 7), .ref r2] s3 (fun x7 s6 => Q x7 s6)) ∧ (x4 = 0 → Q (-3) s3)))))) : EI (d + 1) ids Y_X6_worth [.ref o, .int a0] σ Q := by
  refine E_mk (by decide) (Nat.le_of_ble_eq_true rfl) (fun X hX => ?_)
  replace hX : Cok X ids 3 cX6_worth (some .int) (d + 1) RX6 := hX
  show Wg X ids 3 _ 0 [(0, .ref o), (1, .int a0)] [] σ
  have h := H
  refine q_aload_n 0 hX dX6_worth_0 rfl rfl ?_
  refine q_iload_n 1 hX dX6_worth_1 rfl rfl ?_
  refine cl_X6_79 hX h_o dX6_worth_2 (Nat.le_of_ble_eq_true rfl) h (fun s1 h => ?_) (fun r2 s1 h => ?_)
  · replace h := h.1 rfl
    refine q_astore_nN (L' := [(2, .null), (0, .ref o), (1, .int a0)]) hX dX6_worth_5 rfl (by decide) rfl ?_
    refine q_aload_nN 0 hX dX6_worth_6 rfl rfl ?_
    refine q_ifnonnullN hX dX6_worth_7 ?_
    refine q_iconst (v := (-1)) hX dX6_worth_10 (by decide) ?_
    exact q_ret hX dX6_worth_11 ⟨_, rfl, h⟩
  · obtain ⟨h_r2, h⟩ := h.2 r2 rfl
    refine q_astore_n (L' := [(2, .ref r2), (0, .ref o), (1, .int a0)]) hX dX6_worth_5 rfl (by decide) rfl ?_
    refine q_aload_n 0 hX dX6_worth_6 rfl rfl ?_
    refine q_ifnonnull 12 hX dX6_worth_7 (by decide) ?_
    refine q_aload_n 1 hX dX6_worth_12 rfl rfl ?_
    refine gf_X6_42 hX h_o dX6_worth_13 ?_
    refine cl_X6_151 hX (rfO_6_7 h_o) dX6_worth_16 (Nat.le_of_ble_eq_true rfl) h (fun x4 s3 h => ?_)
    refine q_if_ne 27 hX dX6_worth_19 (by decide) (fun c5 => ?_) (fun c5 => ?_)
    · replace h := h.1 c5
      refine q_aload_n 1 hX dX6_worth_27 rfl rfl ?_
      refine gf_X6_42 hX h_o dX6_worth_28 ?_
      refine q_aload_n 0 hX dX6_worth_31 rfl rfl ?_
      refine cl_X6_164 hX (rfO_6_7 h_o) dX6_worth_32 (Nat.le_of_ble_eq_true rfl) h (fun x7 s6 h => ?_)
      exact q_ret hX dX6_worth_35 ⟨_, rfl, h⟩
    · replace h := h.2 c5
      refine q_bipush (v := (-3)) hX dX6_worth_22 (by decide) ?_
      refine q_goto 35 hX dX6_worth_24 (by decide) ?_
      exact q_ret hX dX6_worth_35 ⟨_, rfl, h⟩
set_option maxHeartbeats 4000000 in
set_option maxRecDepth 20000 in
theorem fl_X6_best {d : Nat} {ids : List Nat} {o : Nat} {a0 : Int32} {a1 : Int32} {σ : St} {Q : Int32 → St → Prop} (h_o : IO ids o 6) (H : EO d ids Y_X6_caseAt [.ref o, .int a0] σ (fun o9 s1 => (o9 = none → Q (-1) s1) ∧ (∀ r2 : Nat, o9 = some r2 → IO ids r2 1 ∧ (((-1) ≤ a1 → ((¬ a1 = (-1) → EI d ids Y_X2_pleaOfBest [.ref (rf o 7), .ref r2, .int a1] s1 (fun x6 s5 => Q x6 s5)) ∧ (a1 = (-1) → EI d ids Y_X2_valueIn [.ref (rf o 7), .ref r2] s1 (fun x8 s7 => Q x8 s7)))) ∧ (¬ ((-1) ≤ a1) → Q (-1) s1))))) : EI (d + 1) ids Y_X6_best [.ref o, .int a0, .int a1] σ Q := by
  refine E_mk (by decide) (Nat.le_of_ble_eq_true rfl) (fun X hX => ?_)
  replace hX : Cok X ids 4 cX6_best (some .int) (d + 1) RX6 := hX
  show Wg X ids 4 _ 0 [(0, .ref o), (1, .int a0), (2, .int a1)] [] σ
  have h := H
  refine q_aload_n 0 hX dX6_best_0 rfl rfl ?_
  refine q_iload_n 1 hX dX6_best_1 rfl rfl ?_
  refine cl_X6_79 hX h_o dX6_best_2 (Nat.le_of_ble_eq_true rfl) h (fun s1 h => ?_) (fun r2 s1 h => ?_)
  · replace h := h.1 rfl
    refine q_astore_nN (L' := [(3, .null), (0, .ref o), (1, .int a0), (2, .int a1)]) hX dX6_best_5 rfl (by decide) rfl ?_
    refine q_aload_nN 0 hX dX6_best_6 rfl rfl ?_
    refine q_ifnullN 15 hX dX6_best_7 (by decide) ?_
    refine q_iconst (v := (-1)) hX dX6_best_15 (by decide) ?_
    exact q_ret hX dX6_best_16 ⟨_, rfl, h⟩
  · obtain ⟨h_r2, h⟩ := h.2 r2 rfl
    refine q_astore_n (L' := [(3, .ref r2), (0, .ref o), (1, .int a0), (2, .int a1)]) hX dX6_best_5 rfl (by decide) rfl ?_
    refine q_aload_n 0 hX dX6_best_6 rfl rfl ?_
    refine q_ifnull hX dX6_best_7 ?_
    refine q_iload_n 3 hX dX6_best_10 rfl rfl ?_
    refine q_iconst (v := (-1)) hX dX6_best_11 (by decide) ?_
    refine q_icmp_ge 17 hX dX6_best_12 (by decide) (fun c3 => ?_) (fun c3 => ?_)
    · replace h := h.1 c3
      refine q_iload_n 3 hX dX6_best_17 rfl rfl ?_
      refine q_iconst (v := (-1)) hX dX6_best_18 (by decide) ?_
      refine q_icmp_ne 33 hX dX6_best_19 (by decide) (fun c4 => ?_) (fun c4 => ?_)
      · replace h := h.1 c4
        refine q_aload_n 1 hX dX6_best_33 rfl rfl ?_
        refine gf_X6_42 hX h_o dX6_best_34 ?_
        refine q_aload_n 0 hX dX6_best_37 rfl rfl ?_
        refine q_iload_n 3 hX dX6_best_38 rfl rfl ?_
        refine cl_X6_171 hX (rfO_6_7 h_o) dX6_best_39 (Nat.le_of_ble_eq_true rfl) h (fun x6 s5 h => ?_)
        exact q_ret hX dX6_best_42 ⟨_, rfl, h⟩
      · replace h := h.2 c4
        refine q_aload_n 1 hX dX6_best_22 rfl rfl ?_
        refine gf_X6_42 hX h_o dX6_best_23 ?_
        refine q_aload_n 0 hX dX6_best_26 rfl rfl ?_
        refine cl_X6_168 hX (rfO_6_7 h_o) dX6_best_27 (Nat.le_of_ble_eq_true rfl) h (fun x8 s7 h => ?_)
        refine q_goto 42 hX dX6_best_30 (by decide) ?_
        exact q_ret hX dX6_best_42 ⟨_, rfl, h⟩
    · replace h := h.2 c3
      refine q_iconst (v := (-1)) hX dX6_best_15 (by decide) ?_
      exact q_ret hX dX6_best_16 ⟨_, rfl, h⟩
set_option maxHeartbeats 4000000 in
set_option maxRecDepth 20000 in
theorem fl_X6_traps {d : Nat} {ids : List Nat} {o : Nat} {a0 : Int32} {a1 : Int32} {a2 : Int32} {σ : St} {Q : Int32 → St → Prop} (h_o : IO ids o 6) (H : EO d ids Y_X6_caseAt [.ref o, .int a0] σ (fun o7 s1 => (o7 = none → Q (-1) s1) ∧ (∀ r2 : Nat, o7 = some r2 → IO ids r2 1 ∧ ((a1 < 1 → Q (-2) s1) ∧ (¬ (a1 < 1) → ((a1 ≤ 20 → EI d ids Y_X2_trapsIn [.ref (rf o 7), .ref r2, .int a1, .int a2] s1 (fun x6 s5 => Q x6 s5)) ∧ (¬ (a1 ≤ 20) → Q (-2) s1))))))) : EI (d + 1) ids Y_X6_traps [.ref o, .int a0, .int a1, .int a2] σ Q := by
  refine E_mk (by decide) (Nat.le_of_ble_eq_true rfl) (fun X hX => ?_)
  replace hX : Cok X ids 5 cX6_traps (some .int) (d + 1) RX6 := hX
  show Wg X ids 5 _ 0 [(0, .ref o), (1, .int a0), (2, .int a1), (3, .int a2)] [] σ
  have h := H
  refine q_aload_n 0 hX dX6_traps_0 rfl rfl ?_
  refine q_iload_n 1 hX dX6_traps_1 rfl rfl ?_
  refine cl_X6_79 hX h_o dX6_traps_2 (Nat.le_of_ble_eq_true rfl) h (fun s1 h => ?_) (fun r2 s1 h => ?_)
  · replace h := h.1 rfl
    refine q_astoreN (L' := [(4, .null), (0, .ref o), (1, .int a0), (2, .int a1), (3, .int a2)]) hX dX6_traps_5 (by decide) rfl ?_
    refine q_aloadN 0 hX dX6_traps_7 rfl ?_
    refine q_ifnonnullN hX dX6_traps_9 ?_
    refine q_iconst (v := (-1)) hX dX6_traps_12 (by decide) ?_
    exact q_ret hX dX6_traps_13 ⟨_, rfl, h⟩
  · obtain ⟨h_r2, h⟩ := h.2 r2 rfl
    refine q_astore (L' := [(4, .ref r2), (0, .ref o), (1, .int a0), (2, .int a1), (3, .int a2)]) hX dX6_traps_5 (by decide) rfl ?_
    refine q_aload 0 hX dX6_traps_7 rfl ?_
    refine q_ifnonnull 14 hX dX6_traps_9 (by decide) ?_
    refine q_iload_n 3 hX dX6_traps_14 rfl rfl ?_
    refine q_iconst (v := 1) hX dX6_traps_15 (by decide) ?_
    refine q_icmp_lt 25 hX dX6_traps_16 (by decide) (fun c3 => ?_) (fun c3 => ?_)
    · replace h := h.1 c3
      refine q_bipush (v := (-2)) hX dX6_traps_25 (by decide) ?_
      exact q_ret hX dX6_traps_27 ⟨_, rfl, h⟩
    · replace h := h.2 c3
      refine q_iload_n 3 hX dX6_traps_19 rfl rfl ?_
      refine q_bipush (v := 20) hX dX6_traps_20 (by decide) ?_
      refine q_icmp_le 28 hX dX6_traps_22 (by decide) (fun c4 => ?_) (fun c4 => ?_)
      · replace h := h.1 c4
        refine q_aload_n 1 hX dX6_traps_28 rfl rfl ?_
        refine gf_X6_42 hX h_o dX6_traps_29 ?_
        refine q_aload 0 hX dX6_traps_32 rfl ?_
        refine q_iload_n 3 hX dX6_traps_34 rfl rfl ?_
        refine q_iload_n 4 hX dX6_traps_35 rfl rfl ?_
        refine cl_X6_175 hX (rfO_6_7 h_o) dX6_traps_36 (Nat.le_of_ble_eq_true rfl) h (fun x6 s5 h => ?_)
        exact q_ret hX dX6_traps_39 ⟨_, rfl, h⟩
      · replace h := h.2 c4
        refine q_bipush (v := (-2)) hX dX6_traps_25 (by decide) ?_
        exact q_ret hX dX6_traps_27 ⟨_, rfl, h⟩
set_option maxHeartbeats 4000000 in
set_option maxRecDepth 20000 in
theorem fl_X6_ought {d : Nat} {ids : List Nat} {o : Nat} {a0 : Int32} {σ : St} {Q : Int32 → St → Prop} (h_o : IO ids o 6) (H : EO d ids Y_X6_caseAt [.ref o, .int a0] σ (fun o7 s1 => (o7 = none → Q (-1) s1) ∧ (∀ r2 : Nat, o7 = some r2 → IO ids r2 1 ∧ EI d ids Y_X1_oughtToHave [.ref r2, .ref (rf o 0)] s1 (fun x4 s3 => EI d ids Y_X6_asNumber [.int x4] s3 (fun x6 s5 => Q x6 s5))))) : EI (d + 1) ids Y_X6_ought [.ref o, .int a0] σ Q := by
  refine E_mk (by decide) (Nat.le_of_ble_eq_true rfl) (fun X hX => ?_)
  replace hX : Cok X ids 3 cX6_ought (some .int) (d + 1) RX6 := hX
  show Wg X ids 3 _ 0 [(0, .ref o), (1, .int a0)] [] σ
  have h := H
  refine q_aload_n 0 hX dX6_ought_0 rfl rfl ?_
  refine q_iload_n 1 hX dX6_ought_1 rfl rfl ?_
  refine cl_X6_79 hX h_o dX6_ought_2 (Nat.le_of_ble_eq_true rfl) h (fun s1 h => ?_) (fun r2 s1 h => ?_)
  · replace h := h.1 rfl
    refine q_astore_nN (L' := [(2, .null), (0, .ref o), (1, .int a0)]) hX dX6_ought_5 rfl (by decide) rfl ?_
    refine q_aload_nN 0 hX dX6_ought_6 rfl rfl ?_
    refine q_ifnonnullN hX dX6_ought_7 ?_
    refine q_iconst (v := (-1)) hX dX6_ought_10 (by decide) ?_
    refine q_goto 25 hX dX6_ought_11 (by decide) ?_
    exact q_ret hX dX6_ought_25 ⟨_, rfl, h⟩
  · obtain ⟨h_r2, h⟩ := h.2 r2 rfl
    refine q_astore_n (L' := [(2, .ref r2), (0, .ref o), (1, .int a0)]) hX dX6_ought_5 rfl (by decide) rfl ?_
    refine q_aload_n 0 hX dX6_ought_6 rfl rfl ?_
    refine q_ifnonnull 14 hX dX6_ought_7 (by decide) ?_
    refine q_aload_n 0 hX dX6_ought_14 rfl rfl ?_
    refine q_aload_n 1 hX dX6_ought_15 rfl rfl ?_
    refine gf_X6_11 hX h_o dX6_ought_16 ?_
    refine cl_X6_179 hX h_r2 dX6_ought_19 (Nat.le_of_ble_eq_true rfl) h (fun x4 s3 h => ?_)
    refine cl_X6_94 hX dX6_ought_22 (Nat.le_of_ble_eq_true rfl) h (fun x6 s5 h => ?_)
    exact q_ret hX dX6_ought_25 ⟨_, rfl, h⟩
set_option maxHeartbeats 4000000 in
set_option maxRecDepth 20000 in
theorem fl_X6_right {d : Nat} {ids : List Nat} {o : Nat} {a0 : Int32} {σ : St} {Q : Int32 → St → Prop} (h_o : IO ids o 6) (H : EO d ids Y_X6_rulesAt [.ref o, .int a0] σ (fun o5 s1 => (o5 = none → Q (-1) s1) ∧ (∀ r2 : Nat, o5 = some r2 → IO ids r2 3 ∧ EI d ids Y_X6_rightCases [.ref o, .ref r2, .int (-1)] s1 (fun x4 s3 => Q x4 s3)))) : EI (d + 1) ids Y_X6_right [.ref o, .int a0] σ Q := by
  refine E_mk (by decide) (Nat.le_of_ble_eq_true rfl) (fun X hX => ?_)
  replace hX : Cok X ids 3 cX6_right (some .int) (d + 1) RX6 := hX
  show Wg X ids 3 _ 0 [(0, .ref o), (1, .int a0)] [] σ
  have h := H
  refine q_aload_n 0 hX dX6_right_0 rfl rfl ?_
  refine q_iload_n 1 hX dX6_right_1 rfl rfl ?_
  refine cl_X6_115 hX h_o dX6_right_2 (Nat.le_of_ble_eq_true rfl) h (fun s1 h => ?_) (fun r2 s1 h => ?_)
  · replace h := h.1 rfl
    refine q_astore_nN (L' := [(2, .null), (0, .ref o), (1, .int a0)]) hX dX6_right_5 rfl (by decide) rfl ?_
    refine q_aload_nN 0 hX dX6_right_6 rfl rfl ?_
    refine q_ifnonnullN hX dX6_right_7 ?_
    refine q_iconst (v := (-1)) hX dX6_right_10 (by decide) ?_
    refine q_goto 20 hX dX6_right_11 (by decide) ?_
    exact q_ret hX dX6_right_20 ⟨_, rfl, h⟩
  · obtain ⟨h_r2, h⟩ := h.2 r2 rfl
    refine q_astore_n (L' := [(2, .ref r2), (0, .ref o), (1, .int a0)]) hX dX6_right_5 rfl (by decide) rfl ?_
    refine q_aload_n 0 hX dX6_right_6 rfl rfl ?_
    refine q_ifnonnull 14 hX dX6_right_7 (by decide) ?_
    refine q_aload_n 1 hX dX6_right_14 rfl rfl ?_
    refine q_aload_n 0 hX dX6_right_15 rfl rfl ?_
    refine q_iconst (v := (-1)) hX dX6_right_16 (by decide) ?_
    refine cl_X6_183 hX h_o dX6_right_17 (Nat.le_of_ble_eq_true rfl) h (fun x4 s3 h => ?_)
    exact q_ret hX dX6_right_20 ⟨_, rfl, h⟩
set_option maxHeartbeats 4000000 in
set_option maxRecDepth 20000 in
theorem fl_X6_edge {d : Nat} {ids : List Nat} {o : Nat} {a0 : Int32} {σ : St} {Q : Int32 → St → Prop} (h_o : IO ids o 6) (H : EO d ids Y_X6_caseAt [.ref o, .int a0] σ (fun o8 s1 => (o8 = none → Q (-1) s1) ∧ (∀ r2 : Nat, o8 = some r2 → IO ids r2 1 ∧ EI d ids Y_X6_may [.ref o, .int 30] s1 (fun x4 s3 => ((¬ x4 = 1 → Q (-3) s3) ∧ (x4 = 1 → EI d ids Y_X2_edgeIn [.ref (rf o 7), .ref r2] s3 (fun x7 s6 => Q x7 s6))))))) : EI (d + 1) ids Y_X6_edge [.ref o, .int a0] σ Q := by
  refine E_mk (by decide) (Nat.le_of_ble_eq_true rfl) (fun X hX => ?_)
  replace hX : Cok X ids 3 cX6_edge (some .int) (d + 1) RX6 := hX
  show Wg X ids 3 _ 0 [(0, .ref o), (1, .int a0)] [] σ
  have h := H
  refine q_aload_n 0 hX dX6_edge_0 rfl rfl ?_
  refine q_iload_n 1 hX dX6_edge_1 rfl rfl ?_
  refine cl_X6_79 hX h_o dX6_edge_2 (Nat.le_of_ble_eq_true rfl) h (fun s1 h => ?_) (fun r2 s1 h => ?_)
  · replace h := h.1 rfl
    refine q_astore_nN (L' := [(2, .null), (0, .ref o), (1, .int a0)]) hX dX6_edge_5 rfl (by decide) rfl ?_
    refine q_aload_nN 0 hX dX6_edge_6 rfl rfl ?_
    refine q_ifnonnullN hX dX6_edge_7 ?_
    refine q_iconst (v := (-1)) hX dX6_edge_10 (by decide) ?_
    exact q_ret hX dX6_edge_11 ⟨_, rfl, h⟩
  · obtain ⟨h_r2, h⟩ := h.2 r2 rfl
    refine q_astore_n (L' := [(2, .ref r2), (0, .ref o), (1, .int a0)]) hX dX6_edge_5 rfl (by decide) rfl ?_
    refine q_aload_n 0 hX dX6_edge_6 rfl rfl ?_
    refine q_ifnonnull 12 hX dX6_edge_7 (by decide) ?_
    refine q_aload_n 1 hX dX6_edge_12 rfl rfl ?_
    refine q_bipush (v := 30) hX dX6_edge_13 (by decide) ?_
    refine cl_X6_187 hX h_o dX6_edge_15 (Nat.le_of_ble_eq_true rfl) h (fun x4 s3 h => ?_)
    refine q_iconst (v := 1) hX dX6_edge_18 (by decide) ?_
    refine q_icmp_ne 33 hX dX6_edge_19 (by decide) (fun c5 => ?_) (fun c5 => ?_)
    · replace h := h.1 c5
      refine q_bipush (v := (-3)) hX dX6_edge_33 (by decide) ?_
      exact q_ret hX dX6_edge_35 ⟨_, rfl, h⟩
    · replace h := h.2 c5
      refine q_aload_n 1 hX dX6_edge_22 rfl rfl ?_
      refine gf_X6_42 hX h_o dX6_edge_23 ?_
      refine q_aload_n 0 hX dX6_edge_26 rfl rfl ?_
      refine cl_X6_190 hX (rfO_6_7 h_o) dX6_edge_27 (Nat.le_of_ble_eq_true rfl) h (fun x7 s6 h => ?_)
      refine q_goto 35 hX dX6_edge_30 (by decide) ?_
      exact q_ret hX dX6_edge_35 ⟨_, rfl, h⟩
set_option maxHeartbeats 4000000 in
set_option maxRecDepth 20000 in
theorem fl_X6_reform {d : Nat} {ids : List Nat} {o : Nat} {a0 : Int32} {σ : St} {Q : Int32 → St → Prop} (h_o : IO ids o 6) (H : ∀ (P29 : Nat → Int32 → Int32 → Int32 → St → Prop) (P63 : Nat → Int32 → Int32 → Int32 → St → Prop), (∀ (v2 : Nat) (v3 : Int32) (v4 : Int32) (v5 : Int32) (σ : St), (IO ids v2 3 → (((gi σ v2 0) ≤ v5 → Q v4 σ) ∧ (¬ ((gi σ v2 0) ≤ v5) → EI d ids Y_X6_rightCases [.ref o, .ref v2, .int v5] σ (fun x3 s2 => EI d ids Y_J6_bitCount_0f7a4 [.int x3] s2 (fun x5 s4 => ((x5 ≤ v3 → P63 v2 v3 v4 v5 s4) ∧ (¬ (x5 ≤ v3) → P63 v2 x5 v5 v5 s4))))))) → P29 v2 v3 v4 v5 σ) → (∀ (v2 : Nat) (v3 : Int32) (v4 : Int32) (v5 : Int32) (σ : St), (IO ids v2 3 → ∀ x7 : Int32, x7 = v5 + 1 → P29 v2 v3 v4 x7 σ) → P63 v2 v3 v4 v5 σ) → EO d ids Y_X6_rulesAt [.ref o, .int a0] σ (fun o14 s8 => (o14 = none → Q (-1) s8) ∧ (∀ r9 : Nat, o14 = some r9 → IO ids r9 3 ∧ EI d ids Y_X6_rightCases [.ref o, .ref r9, .int (-1)] s8 (fun x11 s10 => EI d ids Y_J6_bitCount_0f7a4 [.int x11] s10 (fun x13 s12 => P29 r9 x13 (-5) 0 s12))))) : EI (d + 1) ids Y_X6_reform [.ref o, .int a0] σ Q := by
  refine E_mk (by decide) (Nat.le_of_ble_eq_true rfl) (fun X hX => ?_)
  replace hX : Cok X ids 7 cX6_reform (some .int) (d + 1) RX6 := hX
  show Wg X ids 7 _ 0 [(0, .ref o), (1, .int a0)] [] σ
  have h := H (fun (v2 : Nat) (v3 : Int32) (v4 : Int32) (v5 : Int32) (σ : St) => (IO ids v2 3 → Wg X ids 7 (fun r σ1 => ∃ x, r = some (Value.int x) ∧ Q x σ1) 29 [(0, .ref o), (2, .ref v2), (3, .int v3), (4, .int v4), (5, .int v5)] [] σ)) (fun (v2 : Nat) (v3 : Int32) (v4 : Int32) (v5 : Int32) (σ : St) => (IO ids v2 3 → Wg X ids 7 (fun r σ1 => ∃ x, r = some (Value.int x) ∧ Q x σ1) 63 [(0, .ref o), (2, .ref v2), (3, .int v3), (4, .int v4), (5, .int v5)] [] σ))
  replace h := h (fun v2 v3 v4 v5 σ h h_v2 => by
    replace h := h h_v2
    refine q_iload 4 hX dX6_reform_29 rfl ?_
    refine q_aload_n 1 hX dX6_reform_31 rfl rfl ?_
    refine gf_X6_198 hX h_v2 dX6_reform_32 ?_
    refine q_icmp_ge 69 hX dX6_reform_35 (by decide) (fun c1 => ?_) (fun c1 => ?_)
    · replace h := h.1 c1
      refine q_iload 3 hX dX6_reform_69 rfl ?_
      exact q_ret hX dX6_reform_71 ⟨_, rfl, h⟩
    · replace h := h.2 c1
      refine q_aload_n 0 hX dX6_reform_38 rfl rfl ?_
      refine q_aload_n 1 hX dX6_reform_39 rfl rfl ?_
      refine q_iload 4 hX dX6_reform_40 rfl ?_
      refine cl_X6_183 hX h_o dX6_reform_42 (Nat.le_of_ble_eq_true rfl) h (fun x3 s2 h => ?_)
      refine cl_X6_193 hX dX6_reform_45 (Nat.le_of_ble_eq_true rfl) h (fun x5 s4 h => ?_)
      refine q_istore (L' := [(6, .int x5), (0, .ref o), (2, .ref v2), (3, .int v3), (4, .int v4), (5, .int v5)]) hX dX6_reform_48 (by decide) rfl ?_
      refine q_iload 0 hX dX6_reform_50 rfl ?_
      refine q_iload_n 3 hX dX6_reform_52 rfl rfl ?_
      refine q_icmp_le 63 hX dX6_reform_53 (by decide) (fun c6 => ?_) (fun c6 => ?_)
      · replace h := h.1 c6
        exact Wg.sub [1, 2, 3, 4, 5] rfl (h h_v2)
      · replace h := h.2 c6
        refine q_iload 0 hX dX6_reform_56 rfl ?_
        refine q_istore_n (L' := [(3, .int x5), (6, .int x5), (0, .ref o), (2, .ref v2), (4, .int v4), (5, .int v5)]) hX dX6_reform_58 rfl (by decide) rfl ?_
        refine q_iload 5 hX dX6_reform_59 rfl ?_
        refine q_istore (L' := [(4, .int v5), (3, .int x5), (6, .int x5), (0, .ref o), (2, .ref v2), (5, .int v5)]) hX dX6_reform_61 (by decide) rfl ?_
        exact Wg.sub [3, 4, 1, 0, 5] rfl (h h_v2)
    )
  replace h := h (fun v2 v3 v4 v5 σ h h_v2 => by
    replace h := h h_v2
    obtain ⟨x7, ex7⟩ : ∃ z : Int32, z = v5 + 1 := ⟨_, rfl⟩
    replace h := h x7 ex7
    refine q_iinc (v := x7) (L' := [(5, .int x7), (0, .ref o), (2, .ref v2), (3, .int v3), (4, .int v4)]) 4 hX dX6_reform_63 rfl (by rw [ex7]; rfl) (by decide) rfl ?_
    refine q_goto 29 hX dX6_reform_66 (by decide) ?_
    exact Wg.sub [1, 2, 3, 4, 0] rfl (h h_v2)
    )
  refine q_aload_n 0 hX dX6_reform_0 rfl rfl ?_
  refine q_iload_n 1 hX dX6_reform_1 rfl rfl ?_
  refine cl_X6_115 hX h_o dX6_reform_2 (Nat.le_of_ble_eq_true rfl) h (fun s8 h => ?_) (fun r9 s8 h => ?_)
  · replace h := h.1 rfl
    refine q_astore_nN (L' := [(2, .null), (0, .ref o), (1, .int a0)]) hX dX6_reform_5 rfl (by decide) rfl ?_
    refine q_aload_nN 0 hX dX6_reform_6 rfl rfl ?_
    refine q_ifnonnullN hX dX6_reform_7 ?_
    refine q_iconst (v := (-1)) hX dX6_reform_10 (by decide) ?_
    exact q_ret hX dX6_reform_11 ⟨_, rfl, h⟩
  · obtain ⟨h_r9, h⟩ := h.2 r9 rfl
    refine q_astore_n (L' := [(2, .ref r9), (0, .ref o), (1, .int a0)]) hX dX6_reform_5 rfl (by decide) rfl ?_
    refine q_aload_n 0 hX dX6_reform_6 rfl rfl ?_
    refine q_ifnonnull 12 hX dX6_reform_7 (by decide) ?_
    refine q_aload_n 1 hX dX6_reform_12 rfl rfl ?_
    refine q_aload_n 0 hX dX6_reform_13 rfl rfl ?_
    refine q_iconst (v := (-1)) hX dX6_reform_14 (by decide) ?_
    refine cl_X6_183 hX h_o dX6_reform_15 (Nat.le_of_ble_eq_true rfl) h (fun x11 s10 h => ?_)
    refine cl_X6_193 hX dX6_reform_18 (Nat.le_of_ble_eq_true rfl) h (fun x13 s12 h => ?_)
    refine q_istore_n (L' := [(3, .int x13), (2, .ref r9), (0, .ref o), (1, .int a0)]) hX dX6_reform_21 rfl (by decide) rfl ?_
    refine q_bipush (v := (-5)) hX dX6_reform_22 (by decide) ?_
    refine q_istore (L' := [(4, .int (-5)), (3, .int x13), (2, .ref r9), (0, .ref o), (1, .int a0)]) hX dX6_reform_24 (by decide) rfl ?_
    refine q_iconst (v := 0) hX dX6_reform_26 (by decide) ?_
    refine q_istore (L' := [(5, .int 0), (4, .int (-5)), (3, .int x13), (2, .ref r9), (0, .ref o), (1, .int a0)]) hX dX6_reform_27 (by decide) rfl ?_
    exact Wg.sub [4, 3, 2, 1, 0] rfl (h h_r9)
set_option maxHeartbeats 4000000 in
set_option maxRecDepth 20000 in
theorem fl_X6_told {d : Nat} {ids : List Nat} {o : Nat} {a0 : Int32} {a1 : Int32} {a2 : Int32} {a3 : Int32} {σ : St} {Q : Int32 → St → Prop} (h_o : IO ids o 6) (H : ∀ (P60 : Int32 → St → Prop) (P83 : Int32 → St → Prop), (∀ (v6 : Int32) (σ : St), (((a2 ≤ v6 → Q (-5) σ) ∧ (¬ (a2 ≤ v6) → ((a1 < 0 → P83 v6 σ) ∧ (¬ (a1 < 0) → vp_in a0 6 ∧ (((a1 + v6) < (gi σ (rf o 11) (Int32.toNatClampNeg a0)) → vp_in a0 6 ∧ vp_in (a1 + v6) 60 ∧ ∀ x7 : Int32, x7 = (Int64.toInt32 (gl σ (rf (rf o 12) (Int32.toNatClampNeg a0)) (Int32.toNatClampNeg (a1 + v6)))) → EI d ids Y_X6_placeOf [.int x7] σ (fun x9 s8 => ((x9 = (-1) → Q v6 s8) ∧ (¬ x9 = (-1) → EI d ids Y_X2_open [.ref (rf o 8)] s8 (fun x12 s11 => ((¬ ((x12 >>> (x9 &&& 31)) &&& 1) = 0 → EV d ids Y_X2_make [.ref (rf o 8), .int x7] s11 (fun s14 => ∀ x15 : Int32, x15 = v6 + 1 → P60 x15 s14)) ∧ (((x12 >>> (x9 &&& 31)) &&& 1) = 0 → Q v6 s11))))))) ∧ (¬ ((a1 + v6) < (gi σ (rf o 11) (Int32.toNatClampNeg a0))) → P83 v6 σ))))))) → P60 v6 σ) → (∀ (v6 : Int32) (σ : St), (Q (100 + v6) σ) → P83 v6 σ) → EO d ids Y_X6_rulesAt [.ref o, .int a3] σ (fun o29 s16 => (o29 = none → EI d ids Y_X6_isTape [.int a0] s16 (fun x19 s18 => ((x19 = 0 → Q (-1) s18) ∧ (¬ x19 = 0 → Q (-1) s18)))) ∧ (∀ r17 : Nat, o29 = some r17 → IO ids r17 3 ∧ EI d ids Y_X6_isTape [.int a0] s16 (fun x22 s21 => ((x22 = 0 → Q (-1) s21) ∧ (¬ x22 = 0 → ((a2 < 0 → Q (-2) s21) ∧ (¬ (a2 < 0) → ((a2 ≤ 20 → vp_in a0 6 ∧ (((gi s21 (rf o 10) (Int32.toNatClampNeg a0)) ≤ 0 → EV d ids Y_X2_restart [.ref (rf o 8), .ref r17, .int (-1)] s21 (fun s28 => P60 0 s28)) ∧ (¬ ((gi s21 (rf o 10) (Int32.toNatClampNeg a0)) ≤ 0) → Q (-12) s21))) ∧ (¬ (a2 ≤ 20) → Q (-2) s21)))))))))) : EI (d + 1) ids Y_X6_told [.ref o, .int a0, .int a1, .int a2, .int a3] σ Q := by
  refine E_mk (by decide) (Nat.le_of_ble_eq_true rfl) (fun X hX => ?_)
  replace hX : Cok X ids 9 cX6_told (some .int) (d + 1) RX6 := hX
  show Wg X ids 9 _ 0 [(0, .ref o), (1, .int a0), (2, .int a1), (3, .int a2), (4, .int a3)] [] σ
  have h := H (fun (v6 : Int32) (σ : St) => (Wg X ids 9 (fun r σ1 => ∃ x, r = some (Value.int x) ∧ Q x σ1) 60 [(0, .ref o), (1, .int a0), (2, .int a1), (3, .int a2), (6, .int v6)] [] σ)) (fun (v6 : Int32) (σ : St) => (Wg X ids 9 (fun r σ1 => ∃ x, r = some (Value.int x) ∧ Q x σ1) 83 [(6, .int v6)] [] σ))
  replace h := h (fun v6 σ h => by
    refine q_iload 4 hX dX6_told_60 rfl ?_
    refine q_iload_n 3 hX dX6_told_62 rfl rfl ?_
    refine q_icmp_ge 149 hX dX6_told_63 (by decide) (fun c1 => ?_) (fun c1 => ?_)
    · replace h := h.1 c1
      refine q_bipush (v := (-5)) hX dX6_told_149 (by decide) ?_
      exact q_ret hX dX6_told_151 ⟨_, rfl, h⟩
    · replace h := h.2 c1
      refine q_iload_n 2 hX dX6_told_66 rfl rfl ?_
      refine q_if_lt 83 hX dX6_told_67 (by decide) (fun c2 => ?_) (fun c2 => ?_)
      · replace h := h.1 c2
        exact Wg.sub [4] rfl (h)
      · replace h := h.2 c2
        refine q_iload_n 2 hX dX6_told_70 rfl rfl ?_
        refine q_iload 4 hX dX6_told_71 rfl ?_
        refine q_iadd hX dX6_told_73 ?_
        refine q_aload_n 0 hX dX6_told_74 rfl rfl ?_
        refine gf_X6_59 hX h_o dX6_told_75 ?_
        refine q_iload_n 1 hX dX6_told_78 rfl rfl ?_
        obtain ⟨b3, h⟩ := h
        refine q_iald hX dX6_told_79 (rfO_6_11 h_o) b3 ?_
        refine q_icmp_lt 89 hX dX6_told_80 (by decide) (fun c4 => ?_) (fun c4 => ?_)
        · replace h := h.1 c4
          refine q_aload_n 0 hX dX6_told_89 rfl rfl ?_
          refine gf_X6_64 hX h_o dX6_told_90 ?_
          refine q_iload_n 1 hX dX6_told_93 rfl rfl ?_
          obtain ⟨b5, h⟩ := h
          refine q_aald (by decide) hX dX6_told_94 (rfO_6_12 h_o) b5 ?_
          refine q_iload_n 2 hX dX6_told_95 rfl rfl ?_
          refine q_iload 4 hX dX6_told_96 rfl ?_
          refine q_iadd hX dX6_told_98 ?_
          obtain ⟨b6, h⟩ := h
          refine q_lald hX dX6_told_99 (rfA_7 (rfO_6_12 h_o) b5) b6 ?_
          refine q_l2i hX dX6_told_100 ?_
          refine Wg.nmI (fun x7 ex7 => ?_)
          replace h := h x7 ex7
          refine q_istore (L' := [(7, .int x7), (0, .ref o), (1, .int a0), (2, .int a1), (3, .int a2), (6, .int v6)]) hX dX6_told_101 (by decide) rfl ?_
          refine q_iload 0 hX dX6_told_103 rfl ?_
          refine cl_X6_119 hX dX6_told_105 (Nat.le_of_ble_eq_true rfl) h (fun x9 s8 h => ?_)
          refine q_istore (L' := [(8, .int x9), (7, .int x7), (0, .ref o), (1, .int a0), (2, .int a1), (3, .int a2), (6, .int v6)]) hX dX6_told_108 (by decide) rfl ?_
          refine q_iload 0 hX dX6_told_110 rfl ?_
          refine q_iconst (v := (-1)) hX dX6_told_112 (by decide) ?_
          refine q_icmp_eq 131 hX dX6_told_113 (by decide) (fun c10 => ?_) (fun c10 => ?_)
          · replace h := h.1 c10
            refine q_iload 6 hX dX6_told_131 rfl ?_
            exact q_ret hX dX6_told_133 ⟨_, rfl, h⟩
          · replace h := h.2 c10
            refine q_aload_n 2 hX dX6_told_116 rfl rfl ?_
            refine gf_X6_46 hX h_o dX6_told_117 ?_
            refine cl_X6_123 hX (rfO_6_8 h_o) dX6_told_120 (Nat.le_of_ble_eq_true rfl) h (fun x12 s11 h => ?_)
            refine q_iload 0 hX dX6_told_123 rfl ?_
            refine q_ishr hX dX6_told_125 ?_
            refine q_iconst (v := 1) hX dX6_told_126 (by decide) ?_
            refine q_iand hX dX6_told_127 ?_
            refine q_if_ne 134 hX dX6_told_128 (by decide) (fun c13 => ?_) (fun c13 => ?_)
            · replace h := h.1 c13
              refine q_aload_n 2 hX dX6_told_134 rfl rfl ?_
              refine gf_X6_46 hX h_o dX6_told_135 ?_
              refine q_iload 1 hX dX6_told_138 rfl ?_
              refine cl_X6_127 hX (rfO_6_8 h_o) dX6_told_140 (Nat.le_of_ble_eq_true rfl) h (fun s14 h => ?_)
              obtain ⟨x15, ex15⟩ : ∃ z : Int32, z = v6 + 1 := ⟨_, rfl⟩
              replace h := h x15 ex15
              refine q_iinc (v := x15) (L' := [(6, .int x15), (8, .int x9), (7, .int x7), (0, .ref o), (1, .int a0), (2, .int a1), (3, .int a2)]) 6 hX dX6_told_143 rfl (by rw [ex15]; rfl) (by decide) rfl ?_
              refine q_goto 60 hX dX6_told_146 (by decide) ?_
              exact Wg.sub [3, 4, 5, 6, 0] rfl (h)
            · replace h := h.2 c13
              refine q_iload 6 hX dX6_told_131 rfl ?_
              exact q_ret hX dX6_told_133 ⟨_, rfl, h⟩
        · replace h := h.2 c4
          exact Wg.sub [4] rfl (h)
    )
  replace h := h (fun v6 σ h => by
    refine q_bipush (v := 100) hX dX6_told_83 (by decide) ?_
    refine q_iload 0 hX dX6_told_85 rfl ?_
    refine q_iadd hX dX6_told_87 ?_
    exact q_ret hX dX6_told_88 ⟨_, rfl, h⟩
    )
  refine q_aload_n 0 hX dX6_told_0 rfl rfl ?_
  refine q_iload 4 hX dX6_told_1 rfl ?_
  refine cl_X6_115 hX h_o dX6_told_3 (Nat.le_of_ble_eq_true rfl) h (fun s16 h => ?_) (fun r17 s16 h => ?_)
  · replace h := h.1 rfl
    refine q_astoreN (L' := [(5, .null), (0, .ref o), (1, .int a0), (2, .int a1), (3, .int a2), (4, .int a3)]) hX dX6_told_6 (by decide) rfl ?_
    refine q_iload_n 2 hX dX6_told_8 rfl rfl ?_
    refine cl_X6_201 hX dX6_told_9 (Nat.le_of_ble_eq_true rfl) h (fun x19 s18 h => ?_)
    refine q_if_eq 20 hX dX6_told_12 (by decide) (fun c20 => ?_) (fun c20 => ?_)
    · replace h := h.1 c20
      refine q_iconst (v := (-1)) hX dX6_told_20 (by decide) ?_
      exact q_ret hX dX6_told_21 ⟨_, rfl, h⟩
    · replace h := h.2 c20
      refine q_aloadN 0 hX dX6_told_15 rfl ?_
      refine q_ifnonnullN hX dX6_told_17 ?_
      refine q_iconst (v := (-1)) hX dX6_told_20 (by decide) ?_
      exact q_ret hX dX6_told_21 ⟨_, rfl, h⟩
  · obtain ⟨h_r17, h⟩ := h.2 r17 rfl
    refine q_astore (L' := [(5, .ref r17), (0, .ref o), (1, .int a0), (2, .int a1), (3, .int a2), (4, .int a3)]) hX dX6_told_6 (by decide) rfl ?_
    refine q_iload_n 2 hX dX6_told_8 rfl rfl ?_
    refine cl_X6_201 hX dX6_told_9 (Nat.le_of_ble_eq_true rfl) h (fun x22 s21 h => ?_)
    refine q_if_eq 20 hX dX6_told_12 (by decide) (fun c23 => ?_) (fun c23 => ?_)
    · replace h := h.1 c23
      refine q_iconst (v := (-1)) hX dX6_told_20 (by decide) ?_
      exact q_ret hX dX6_told_21 ⟨_, rfl, h⟩
    · replace h := h.2 c23
      refine q_aload 0 hX dX6_told_15 rfl ?_
      refine q_ifnonnull 22 hX dX6_told_17 (by decide) ?_
      refine q_iload_n 4 hX dX6_told_22 rfl rfl ?_
      refine q_if_lt 32 hX dX6_told_23 (by decide) (fun c24 => ?_) (fun c24 => ?_)
      · replace h := h.1 c24
        refine q_bipush (v := (-2)) hX dX6_told_32 (by decide) ?_
        exact q_ret hX dX6_told_34 ⟨_, rfl, h⟩
      · replace h := h.2 c24
        refine q_iload_n 4 hX dX6_told_26 rfl rfl ?_
        refine q_bipush (v := 20) hX dX6_told_27 (by decide) ?_
        refine q_icmp_le 35 hX dX6_told_29 (by decide) (fun c25 => ?_) (fun c25 => ?_)
        · replace h := h.1 c25
          refine q_aload_n 1 hX dX6_told_35 rfl rfl ?_
          refine gf_X6_56 hX h_o dX6_told_36 ?_
          refine q_iload_n 2 hX dX6_told_39 rfl rfl ?_
          obtain ⟨b26, h⟩ := h
          refine q_iald hX dX6_told_40 (rfO_6_10 h_o) b26 ?_
          refine q_if_le 47 hX dX6_told_41 (by decide) (fun c27 => ?_) (fun c27 => ?_)
          · replace h := h.1 c27
            refine q_aload_n 1 hX dX6_told_47 rfl rfl ?_
            refine gf_X6_46 hX h_o dX6_told_48 ?_
            refine q_aload 0 hX dX6_told_51 rfl ?_
            refine q_iconst (v := (-1)) hX dX6_told_53 (by decide) ?_
            refine cl_X6_111 hX (rfO_6_8 h_o) dX6_told_54 (Nat.le_of_ble_eq_true rfl) h (fun s28 h => ?_)
            refine q_iconst (v := 0) hX dX6_told_57 (by decide) ?_
            refine q_istore (L' := [(6, .int 0), (5, .ref r17), (0, .ref o), (1, .int a0), (2, .int a1), (3, .int a2), (4, .int a3)]) hX dX6_told_58 (by decide) rfl ?_
            exact Wg.sub [2, 3, 4, 5, 0] rfl (h)
          · replace h := h.2 c27
            refine q_bipush (v := (-12)) hX dX6_told_44 (by decide) ?_
            exact q_ret hX dX6_told_46 ⟨_, rfl, h⟩
        · replace h := h.2 c25
          refine q_bipush (v := (-2)) hX dX6_told_32 (by decide) ?_
          exact q_ret hX dX6_told_34 ⟨_, rfl, h⟩
set_option maxHeartbeats 4000000 in
set_option maxRecDepth 20000 in
theorem fl_X6_act {d : Nat} {ids : List Nat} {o : Nat} {a0 : Int32} {a1 : Int32} {a2 : Int32} {σ : St} {Q : Int32 → St → Prop} (h_o : IO ids o 6) (H : EI d ids Y_X0_start [.ref (rf o 9), .int a0, .int a1, .int a2, .int (gi σ o 3), .int (gi σ o 6)] σ (fun x2 s1 => Q x2 s1)) : EI (d + 1) ids Y_X6_act [.ref o, .int a0, .int a1, .int a2] σ Q := by
  refine E_mk (by decide) (Nat.le_of_ble_eq_true rfl) (fun X hX => ?_)
  replace hX : Cok X ids 4 cX6_act (some .int) (d + 1) RX6 := hX
  show Wg X ids 4 _ 0 [(0, .ref o), (1, .int a0), (2, .int a1), (3, .int a2)] [] σ
  have h := H
  refine q_aload_n 0 hX dX6_act_0 rfl rfl ?_
  refine gf_X6_52 hX h_o dX6_act_1 ?_
  refine q_iload_n 1 hX dX6_act_4 rfl rfl ?_
  refine q_iload_n 2 hX dX6_act_5 rfl rfl ?_
  refine q_iload_n 3 hX dX6_act_6 rfl rfl ?_
  refine q_aload_n 0 hX dX6_act_7 rfl rfl ?_
  refine gf_X6_72 hX h_o dX6_act_8 ?_
  refine q_aload_n 0 hX dX6_act_11 rfl rfl ?_
  refine gf_X6_104 hX h_o dX6_act_12 ?_
  refine cl_X6_204 hX (rfO_6_9 h_o) dX6_act_15 (Nat.le_of_ble_eq_true rfl) h (fun x2 s1 h => ?_)
  exact q_ret hX dX6_act_18 ⟨_, rfl, h⟩
set_option maxHeartbeats 4000000 in
set_option maxRecDepth 20000 in
theorem fl_X6_trace {d : Nat} {ids : List Nat} {o : Nat} {a0 : Int32} {σ : St} {Q : Int32 → St → Prop} (h_o : IO ids o 6) (H : EI d ids Y_X0_bodyAt [.ref (rf o 9), .int a0] σ (fun x2 s1 => Q x2 s1)) : EI (d + 1) ids Y_X6_trace [.ref o, .int a0] σ Q := by
  refine E_mk (by decide) (Nat.le_of_ble_eq_true rfl) (fun X hX => ?_)
  replace hX : Cok X ids 2 cX6_trace (some .int) (d + 1) RX6 := hX
  show Wg X ids 2 _ 0 [(0, .ref o), (1, .int a0)] [] σ
  have h := H
  refine q_aload_n 0 hX dX6_trace_0 rfl rfl ?_
  refine gf_X6_52 hX h_o dX6_trace_1 ?_
  refine q_iload_n 1 hX dX6_trace_4 rfl rfl ?_
  refine cl_X6_208 hX (rfO_6_9 h_o) dX6_trace_5 (Nat.le_of_ble_eq_true rfl) h (fun x2 s1 h => ?_)
  exact q_ret hX dX6_trace_8 ⟨_, rfl, h⟩
set_option maxHeartbeats 4000000 in
set_option maxRecDepth 20000 in
theorem fl_X6_taken {d : Nat} {ids : List Nat} {o : Nat} {a0 : Int32} {a1 : Int32} {σ : St} {Q : Int32 → St → Prop} (h_o : IO ids o 6) (H : EI d ids Y_X0_isKind [.int a1] σ (fun x2 s1 => ((¬ x2 = 0 → EI d ids Y_X0_isKind [.int a0] s1 (fun x5 s4 => ((¬ x5 = 0 → EI d ids Y_X0_isUnder [.int a0, .int a1] s4 (fun x8 s7 => ((x8 = 0 → Q (-12) s7) ∧ (¬ x8 = 0 → Q a0 s7)))) ∧ (x5 = 0 → Q (-11) s4)))) ∧ (x2 = 0 → Q (-2) s1)))) : EI (d + 1) ids Y_X6_taken [.ref o, .int a0, .int a1] σ Q := by
  refine E_mk (by decide) (Nat.le_of_ble_eq_true rfl) (fun X hX => ?_)
  replace hX : Cok X ids 3 cX6_taken (some .int) (d + 1) RX6 := hX
  show Wg X ids 3 _ 0 [(0, .ref o), (1, .int a0), (2, .int a1)] [] σ
  have h := H
  refine q_iload_n 2 hX dX6_taken_0 rfl rfl ?_
  refine cl_X6_211 hX dX6_taken_1 (Nat.le_of_ble_eq_true rfl) h (fun x2 s1 h => ?_)
  refine q_if_ne 10 hX dX6_taken_4 (by decide) (fun c3 => ?_) (fun c3 => ?_)
  · replace h := h.1 c3
    refine q_iload_n 1 hX dX6_taken_10 rfl rfl ?_
    refine cl_X6_211 hX dX6_taken_11 (Nat.le_of_ble_eq_true rfl) h (fun x5 s4 h => ?_)
    refine q_if_ne 20 hX dX6_taken_14 (by decide) (fun c6 => ?_) (fun c6 => ?_)
    · replace h := h.1 c6
      refine q_iload_n 1 hX dX6_taken_20 rfl rfl ?_
      refine q_iload_n 2 hX dX6_taken_21 rfl rfl ?_
      refine cl_X6_214 hX dX6_taken_22 (Nat.le_of_ble_eq_true rfl) h (fun x8 s7 h => ?_)
      refine q_if_eq 32 hX dX6_taken_25 (by decide) (fun c9 => ?_) (fun c9 => ?_)
      · replace h := h.1 c9
        refine q_bipush (v := (-12)) hX dX6_taken_32 (by decide) ?_
        exact q_ret hX dX6_taken_34 ⟨_, rfl, h⟩
      · replace h := h.2 c9
        refine q_iload_n 1 hX dX6_taken_28 rfl rfl ?_
        refine q_goto 34 hX dX6_taken_29 (by decide) ?_
        exact q_ret hX dX6_taken_34 ⟨_, rfl, h⟩
    · replace h := h.2 c6
      refine q_bipush (v := (-11)) hX dX6_taken_17 (by decide) ?_
      exact q_ret hX dX6_taken_19 ⟨_, rfl, h⟩
  · replace h := h.2 c3
    refine q_bipush (v := (-2)) hX dX6_taken_7 (by decide) ?_
    exact q_ret hX dX6_taken_9 ⟨_, rfl, h⟩
set_option maxHeartbeats 4000000 in
set_option maxRecDepth 20000 in
theorem fl_X6_count {d : Nat} {ids : List Nat} {o : Nat} {a0 : Int32} {σ : St} {Q : Int32 → St → Prop} (h_o : IO ids o 6) (H : ((a0 = 0 → Q (gi σ o 3) σ) ∧ (a0 = 1 → Q (gi σ o 6) σ) ∧ (a0 = 2 → Q (gi σ (rf o 4) 1) σ) ∧ (a0 = 3 → Q (gi σ (rf o 7) 10) σ) ∧ (a0 = 4 → Q (gi σ (rf o 9) 0) σ) ∧ (¬ a0 = 0 → ¬ a0 = 1 → ¬ a0 = 2 → ¬ a0 = 3 → ¬ a0 = 4 → Q (-2) σ))) : EI (d + 1) ids Y_X6_count [.ref o, .int a0] σ Q := by
  refine E_mk (by decide) (Nat.le_of_ble_eq_true rfl) (fun X hX => ?_)
  replace hX : Cok X ids 2 cX6_count (some .int) (d + 1) RX6 := hX
  show Wg X ids 2 _ 0 [(0, .ref o), (1, .int a0)] [] σ
  have h := H
  refine q_iload_n 1 hX dX6_count_0 rfl rfl ?_
  by_cases c1_0 : a0 = 0
  · refine q_tableIn (off := 35) 36 hX dX6_count_1 (by rw [c1_0]; decide) (by rw [c1_0]; decide) (by first | (rw [c1_0]; done) | (rw [c1_0]; rfl)) (by decide) ?_
    replace h := h.1 c1_0
    refine q_aload_n 0 hX dX6_count_36 rfl rfl ?_
    refine gf_X6_72 hX h_o dX6_count_37 ?_
    exact q_ret hX dX6_count_40 ⟨_, rfl, h⟩
  by_cases c1_1 : a0 = 1
  · refine q_tableIn (off := 40) 41 hX dX6_count_1 (by rw [c1_1]; decide) (by rw [c1_1]; decide) (by first | (rw [c1_1]; done) | (rw [c1_1]; rfl)) (by decide) ?_
    replace h := h.2.1 c1_1
    refine q_aload_n 0 hX dX6_count_41 rfl rfl ?_
    refine gf_X6_104 hX h_o dX6_count_42 ?_
    exact q_ret hX dX6_count_45 ⟨_, rfl, h⟩
  by_cases c1_2 : a0 = 2
  · refine q_tableIn (off := 45) 46 hX dX6_count_1 (by rw [c1_2]; decide) (by rw [c1_2]; decide) (by first | (rw [c1_2]; done) | (rw [c1_2]; rfl)) (by decide) ?_
    replace h := h.2.2.1 c1_2
    refine q_aload_n 0 hX dX6_count_46 rfl rfl ?_
    refine gf_X6_27 hX h_o dX6_count_47 ?_
    refine gf_X6_98 hX (rfO_6_4 h_o) dX6_count_50 ?_
    exact q_ret hX dX6_count_53 ⟨_, rfl, h⟩
  by_cases c1_3 : a0 = 3
  · refine q_tableIn (off := 53) 54 hX dX6_count_1 (by rw [c1_3]; decide) (by rw [c1_3]; decide) (by first | (rw [c1_3]; done) | (rw [c1_3]; rfl)) (by decide) ?_
    replace h := h.2.2.2.1 c1_3
    refine q_aload_n 0 hX dX6_count_54 rfl rfl ?_
    refine gf_X6_42 hX h_o dX6_count_55 ?_
    refine gf_X6_130 hX (rfO_6_7 h_o) dX6_count_58 ?_
    exact q_ret hX dX6_count_61 ⟨_, rfl, h⟩
  by_cases c1_4 : a0 = 4
  · refine q_tableIn (off := 61) 62 hX dX6_count_1 (by rw [c1_4]; decide) (by rw [c1_4]; decide) (by first | (rw [c1_4]; done) | (rw [c1_4]; rfl)) (by decide) ?_
    replace h := h.2.2.2.2.1 c1_4
    refine q_aload_n 0 hX dX6_count_62 rfl rfl ?_
    refine gf_X6_52 hX h_o dX6_count_63 ?_
    refine gf_X6_218 hX (rfO_6_9 h_o) dX6_count_66 ?_
    exact q_ret hX dX6_count_69 ⟨_, rfl, h⟩
  refine q_tableOut 70 hX dX6_count_1 (by have e0 := ne_toInt (k := 0) c1_0 (by decide); have e1 := ne_toInt (k := 1) c1_1 (by decide); have e2 := ne_toInt (k := 2) c1_2 (by decide); have e3 := ne_toInt (k := 3) c1_3 (by decide); have e4 := ne_toInt (k := 4) c1_4 (by decide); omega) (by decide) ?_
  replace h := h.2.2.2.2.2 c1_0 c1_1 c1_2 c1_3 c1_4
  refine q_bipush (v := (-2)) hX dX6_count_70 (by decide) ?_
  exact q_ret hX dX6_count_72 ⟨_, rfl, h⟩
set_option maxHeartbeats 4000000 in
set_option maxRecDepth 20000 in
theorem fl_X6_tape {d : Nat} {ids : List Nat} {o : Nat} {a0 : Int32} {a1 : Int32} {a2 : Int32} {σ : St} {Q : Int32 → St → Prop} (h_o : IO ids o 6) (H : ∀ (P32 : St → Prop) (P43 : St → Prop) (P64 : Int32 → Int32 → Nat → St → Prop) (P68 : Int32 → St → Prop), (∀ (σ : St), (((a1 < 0 → P43 σ) ∧ (¬ (a1 < 0) → ((0 ≤ a2 → P43 σ) ∧ (¬ (0 ≤ a2) → Q (-14) σ))))) → P32 σ) → (∀ (σ : St), (vp_in a0 6 ∧ ∀ s4 : St, s4 = si σ (rf o 10) (Int32.toNatClampNeg a0) a1 → ((0 ≤ a1 → P64 a2 a0 (rf o 11) s4) ∧ (¬ (0 ≤ a1) → P64 0 a0 (rf o 11) s4))) → P43 σ) → (∀ (t0 : Int32) (t1 : Int32) (t2 : Nat) (σ : St), (IA ids t2 0 6 → vp_in t1 6 ∧ ∀ s7 : St, s7 = si σ t2 (Int32.toNatClampNeg t1) t0 → P68 0 s7) → P64 t0 t1 t2 σ) → (∀ (v4 : Int32) (σ : St), (((60 ≤ v4 → Q 1 σ) ∧ (¬ (60 ≤ v4) → vp_in a0 6 ∧ vp_in v4 60 ∧ ∀ s11 : St, s11 = sl σ (rf (rf o 12) (Int32.toNatClampNeg a0)) (Int32.toNatClampNeg v4) 0 → ∀ x12 : Int32, x12 = v4 + 1 → P68 x12 s11))) → P68 v4 σ) → EI d ids Y_X6_isTape [.int a0] σ (fun x14 s13 => ((¬ x14 = 0 → ((a1 < (-1) → Q (-2) s13) ∧ (¬ (a1 < (-1)) → ((4 < a1 → Q (-2) s13) ∧ (¬ (4 < a1) → ((a1 < 0 → P32 s13) ∧ (¬ (a1 < 0) → ((a2 ≤ 60 → P32 s13) ∧ (¬ (a2 ≤ 60) → Q (-2) s13))))))))) ∧ (x14 = 0 → Q (-1) s13)))) : EI (d + 1) ids Y_X6_tape [.ref o, .int a0, .int a1, .int a2] σ Q := by
  refine E_mk (by decide) (Nat.le_of_ble_eq_true rfl) (fun X hX => ?_)
  replace hX : Cok X ids 5 cX6_tape (some .int) (d + 1) RX6 := hX
  show Wg X ids 5 _ 0 [(0, .ref o), (1, .int a0), (2, .int a1), (3, .int a2)] [] σ
  have h := H (fun (σ : St) => (Wg X ids 5 (fun r σ1 => ∃ x, r = some (Value.int x) ∧ Q x σ1) 32 [(0, .ref o), (1, .int a0), (2, .int a1), (3, .int a2)] [] σ)) (fun (σ : St) => (Wg X ids 5 (fun r σ1 => ∃ x, r = some (Value.int x) ∧ Q x σ1) 43 [(0, .ref o), (1, .int a0), (2, .int a1), (3, .int a2)] [] σ)) (fun (t0 : Int32) (t1 : Int32) (t2 : Nat) (σ : St) => (IA ids t2 0 6 → Wg X ids 5 (fun r σ1 => ∃ x, r = some (Value.int x) ∧ Q x σ1) 64 [(0, .ref o), (1, .int a0)] [.int t0, .int t1, .ref t2] σ)) (fun (v4 : Int32) (σ : St) => (Wg X ids 5 (fun r σ1 => ∃ x, r = some (Value.int x) ∧ Q x σ1) 68 [(0, .ref o), (1, .int a0), (4, .int v4)] [] σ))
  replace h := h (fun σ h => by
    refine q_iload_n 2 hX dX6_tape_32 rfl rfl ?_
    refine q_if_lt 43 hX dX6_tape_33 (by decide) (fun c1 => ?_) (fun c1 => ?_)
    · replace h := h.1 c1
      exact Wg.sub [0, 1, 2, 3] rfl (h)
    · replace h := h.2 c1
      refine q_iload_n 3 hX dX6_tape_36 rfl rfl ?_
      refine q_if_ge 43 hX dX6_tape_37 (by decide) (fun c2 => ?_) (fun c2 => ?_)
      · replace h := h.1 c2
        exact Wg.sub [0, 1, 2, 3] rfl (h)
      · replace h := h.2 c2
        refine q_bipush (v := (-14)) hX dX6_tape_40 (by decide) ?_
        exact q_ret hX dX6_tape_42 ⟨_, rfl, h⟩
    )
  replace h := h (fun σ h => by
    refine q_aload_n 0 hX dX6_tape_43 rfl rfl ?_
    refine gf_X6_56 hX h_o dX6_tape_44 ?_
    refine q_iload_n 1 hX dX6_tape_47 rfl rfl ?_
    refine q_iload_n 2 hX dX6_tape_48 rfl rfl ?_
    obtain ⟨b3, h⟩ := h
    refine q_iast hX dX6_tape_49 (rfO_6_10 h_o) b3 ?_
    refine Wg.nmS (fun s4 es4 => ?_)
    replace h := h s4 es4
    refine q_aload_n 0 hX dX6_tape_50 rfl rfl ?_
    refine gf_X6_59 hX h_o dX6_tape_51 ?_
    refine q_iload_n 1 hX dX6_tape_54 rfl rfl ?_
    refine q_iload_n 2 hX dX6_tape_55 rfl rfl ?_
    refine q_if_ge 63 hX dX6_tape_56 (by decide) (fun c5 => ?_) (fun c5 => ?_)
    · replace h := h.1 c5
      refine q_iload_n 3 hX dX6_tape_63 rfl rfl ?_
      exact Wg.sub [0, 1] rfl (h ((rfO_6_11 h_o)))
    · replace h := h.2 c5
      refine q_iconst (v := 0) hX dX6_tape_59 (by decide) ?_
      refine q_goto 64 hX dX6_tape_60 (by decide) ?_
      exact Wg.sub [0, 1] rfl (h ((rfO_6_11 h_o)))
    )
  replace h := h (fun t0 t1 t2 σ h h_t2 => by
    replace h := h h_t2
    obtain ⟨b6, h⟩ := h
    refine q_iast hX dX6_tape_64 h_t2 b6 ?_
    refine Wg.nmS (fun s7 es7 => ?_)
    replace h := h s7 es7
    refine q_iconst (v := 0) hX dX6_tape_65 (by decide) ?_
    refine q_istore (L' := [(4, .int 0), (0, .ref o), (1, .int a0)]) hX dX6_tape_66 (by decide) rfl ?_
    exact Wg.sub [1, 2, 0] rfl (h)
    )
  replace h := h (fun v4 σ h => by
    refine q_iload 2 hX dX6_tape_68 rfl ?_
    refine q_bipush (v := 60) hX dX6_tape_70 (by decide) ?_
    refine q_icmp_ge 91 hX dX6_tape_72 (by decide) (fun c8 => ?_) (fun c8 => ?_)
    · replace h := h.1 c8
      refine q_iconst (v := 1) hX dX6_tape_91 (by decide) ?_
      exact q_ret hX dX6_tape_92 ⟨_, rfl, h⟩
    · replace h := h.2 c8
      refine q_aload_n 0 hX dX6_tape_75 rfl rfl ?_
      refine gf_X6_64 hX h_o dX6_tape_76 ?_
      refine q_iload_n 1 hX dX6_tape_79 rfl rfl ?_
      obtain ⟨b9, h⟩ := h
      refine q_aald (by decide) hX dX6_tape_80 (rfO_6_12 h_o) b9 ?_
      refine q_iload 2 hX dX6_tape_81 rfl ?_
      refine q_lconst (v := 0) hX dX6_tape_83 (by decide) ?_
      obtain ⟨b10, h⟩ := h
      refine q_last hX dX6_tape_84 (rfA_7 (rfO_6_12 h_o) b9) b10 ?_
      refine Wg.nmS (fun s11 es11 => ?_)
      replace h := h s11 es11
      obtain ⟨x12, ex12⟩ : ∃ z : Int32, z = v4 + 1 := ⟨_, rfl⟩
      replace h := h x12 ex12
      refine q_iinc (v := x12) (L' := [(4, .int x12), (0, .ref o), (1, .int a0)]) 2 hX dX6_tape_85 rfl (by rw [ex12]; rfl) (by decide) rfl ?_
      refine q_goto 68 hX dX6_tape_88 (by decide) ?_
      exact Wg.sub [1, 2, 0] rfl (h)
    )
  refine q_iload_n 1 hX dX6_tape_0 rfl rfl ?_
  refine cl_X6_201 hX dX6_tape_1 (Nat.le_of_ble_eq_true rfl) h (fun x14 s13 h => ?_)
  refine q_if_ne 9 hX dX6_tape_4 (by decide) (fun c15 => ?_) (fun c15 => ?_)
  · replace h := h.1 c15
    refine q_iload_n 2 hX dX6_tape_9 rfl rfl ?_
    refine q_iconst (v := (-1)) hX dX6_tape_10 (by decide) ?_
    refine q_icmp_lt 29 hX dX6_tape_11 (by decide) (fun c16 => ?_) (fun c16 => ?_)
    · replace h := h.1 c16
      refine q_bipush (v := (-2)) hX dX6_tape_29 (by decide) ?_
      exact q_ret hX dX6_tape_31 ⟨_, rfl, h⟩
    · replace h := h.2 c16
      refine q_iload_n 2 hX dX6_tape_14 rfl rfl ?_
      refine q_iconst (v := 4) hX dX6_tape_15 (by decide) ?_
      refine q_icmp_gt 29 hX dX6_tape_16 (by decide) (fun c17 => ?_) (fun c17 => ?_)
      · replace h := h.1 c17
        refine q_bipush (v := (-2)) hX dX6_tape_29 (by decide) ?_
        exact q_ret hX dX6_tape_31 ⟨_, rfl, h⟩
      · replace h := h.2 c17
        refine q_iload_n 2 hX dX6_tape_19 rfl rfl ?_
        refine q_if_lt 32 hX dX6_tape_20 (by decide) (fun c18 => ?_) (fun c18 => ?_)
        · replace h := h.1 c18
          exact Wg.sub [0, 1, 2, 3] rfl (h)
        · replace h := h.2 c18
          refine q_iload_n 3 hX dX6_tape_23 rfl rfl ?_
          refine q_bipush (v := 60) hX dX6_tape_24 (by decide) ?_
          refine q_icmp_le 32 hX dX6_tape_26 (by decide) (fun c19 => ?_) (fun c19 => ?_)
          · replace h := h.1 c19
            exact Wg.sub [0, 1, 2, 3] rfl (h)
          · replace h := h.2 c19
            refine q_bipush (v := (-2)) hX dX6_tape_29 (by decide) ?_
            exact q_ret hX dX6_tape_31 ⟨_, rfl, h⟩
  · replace h := h.2 c15
    refine q_iconst (v := (-1)) hX dX6_tape_7 (by decide) ?_
    exact q_ret hX dX6_tape_8 ⟨_, rfl, h⟩
set_option maxHeartbeats 4000000 in
set_option maxRecDepth 20000 in
theorem fl_X6_item {d : Nat} {ids : List Nat} {o : Nat} {a0 : Int32} {a1 : Int32} {a2 : Int64} {σ : St} {Q : Int32 → St → Prop} (h_o : IO ids o 6) (H : EI d ids Y_X6_isTape [.int a0] σ (fun x2 s1 => ((¬ x2 = 0 → vp_in a0 6 ∧ ((0 ≤ (gi s1 (rf o 10) (Int32.toNatClampNeg a0)) → ((a1 < 0 → Q (-13) s1) ∧ (¬ (a1 < 0) → vp_in a0 6 ∧ ((a1 < (gi s1 (rf o 11) (Int32.toNatClampNeg a0)) → vp_in a0 6 ∧ vp_in a0 6 ∧ EL d ids Y_X6_asItem [.int (gi s1 (rf o 10) (Int32.toNatClampNeg a0)), .long a2] s1 (fun x12 s11 => vp_in a1 60 ∧ ∀ s14 : St, s14 = sl s11 (rf (rf o 12) (Int32.toNatClampNeg a0)) (Int32.toNatClampNeg a1) x12 → Q 1 s14)) ∧ (¬ (a1 < (gi s1 (rf o 11) (Int32.toNatClampNeg a0))) → Q (-13) s1))))) ∧ (¬ (0 ≤ (gi s1 (rf o 10) (Int32.toNatClampNeg a0))) → Q (-11) s1))) ∧ (x2 = 0 → Q (-1) s1)))) : EI (d + 1) ids Y_X6_item [.ref o, .int a0, .int a1, .long a2] σ Q := by
  refine E_mk (by decide) (Nat.le_of_ble_eq_true rfl) (fun X hX => ?_)
  replace hX : Cok X ids 5 cX6_item (some .int) (d + 1) RX6 := hX
  show Wg X ids 5 _ 0 [(0, .ref o), (1, .int a0), (2, .int a1), (3, .long a2)] [] σ
  have h := H
  refine q_iload_n 1 hX dX6_item_0 rfl rfl ?_
  refine cl_X6_201 hX dX6_item_1 (Nat.le_of_ble_eq_true rfl) h (fun x2 s1 h => ?_)
  refine q_if_ne 9 hX dX6_item_4 (by decide) (fun c3 => ?_) (fun c3 => ?_)
  · replace h := h.1 c3
    refine q_aload_n 0 hX dX6_item_9 rfl rfl ?_
    refine gf_X6_56 hX h_o dX6_item_10 ?_
    refine q_iload_n 1 hX dX6_item_13 rfl rfl ?_
    obtain ⟨b4, h⟩ := h
    refine q_iald hX dX6_item_14 (rfO_6_10 h_o) b4 ?_
    refine q_if_ge 21 hX dX6_item_15 (by decide) (fun c5 => ?_) (fun c5 => ?_)
    · replace h := h.1 c5
      refine q_iload_n 2 hX dX6_item_21 rfl rfl ?_
      refine q_if_lt 35 hX dX6_item_22 (by decide) (fun c6 => ?_) (fun c6 => ?_)
      · replace h := h.1 c6
        refine q_bipush (v := (-13)) hX dX6_item_35 (by decide) ?_
        exact q_ret hX dX6_item_37 ⟨_, rfl, h⟩
      · replace h := h.2 c6
        refine q_iload_n 2 hX dX6_item_25 rfl rfl ?_
        refine q_aload_n 0 hX dX6_item_26 rfl rfl ?_
        refine gf_X6_59 hX h_o dX6_item_27 ?_
        refine q_iload_n 1 hX dX6_item_30 rfl rfl ?_
        obtain ⟨b7, h⟩ := h
        refine q_iald hX dX6_item_31 (rfO_6_11 h_o) b7 ?_
        refine q_icmp_lt 38 hX dX6_item_32 (by decide) (fun c8 => ?_) (fun c8 => ?_)
        · replace h := h.1 c8
          refine q_aload_n 0 hX dX6_item_38 rfl rfl ?_
          refine gf_X6_64 hX h_o dX6_item_39 ?_
          refine q_iload_n 1 hX dX6_item_42 rfl rfl ?_
          obtain ⟨b9, h⟩ := h
          refine q_aald (by decide) hX dX6_item_43 (rfO_6_12 h_o) b9 ?_
          refine q_iload_n 2 hX dX6_item_44 rfl rfl ?_
          refine q_aload_n 0 hX dX6_item_45 rfl rfl ?_
          refine gf_X6_56 hX h_o dX6_item_46 ?_
          refine q_iload_n 1 hX dX6_item_49 rfl rfl ?_
          obtain ⟨b10, h⟩ := h
          refine q_iald hX dX6_item_50 (rfO_6_10 h_o) b10 ?_
          refine q_lload_n 3 hX dX6_item_51 rfl rfl ?_
          refine cl_X6_221 hX dX6_item_52 (Nat.le_of_ble_eq_true rfl) h (fun x12 s11 h => ?_)
          obtain ⟨b13, h⟩ := h
          refine q_last hX dX6_item_55 (rfA_7 (rfO_6_12 h_o) b9) b13 ?_
          refine Wg.nmS (fun s14 es14 => ?_)
          replace h := h s14 es14
          refine q_iconst (v := 1) hX dX6_item_56 (by decide) ?_
          exact q_ret hX dX6_item_57 ⟨_, rfl, h⟩
        · replace h := h.2 c8
          refine q_bipush (v := (-13)) hX dX6_item_35 (by decide) ?_
          exact q_ret hX dX6_item_37 ⟨_, rfl, h⟩
    · replace h := h.2 c5
      refine q_bipush (v := (-11)) hX dX6_item_18 (by decide) ?_
      exact q_ret hX dX6_item_20 ⟨_, rfl, h⟩
  · replace h := h.2 c3
    refine q_iconst (v := (-1)) hX dX6_item_7 (by decide) ?_
    exact q_ret hX dX6_item_8 ⟨_, rfl, h⟩
set_option maxHeartbeats 4000000 in
set_option maxRecDepth 20000 in
theorem fl_X6_read {d : Nat} {ids : List Nat} {o : Nat} {a0 : Int32} {a1 : Int32} {σ : St} {Q : Int64 → St → Prop} (h_o : IO ids o 6) (H : ∀ (P30 : St → Prop), (∀ (σ : St), (Q (-9223372036854775808) σ) → P30 σ) → EI d ids Y_X6_isTape [.int a0] σ (fun x2 s1 => ((x2 = 0 → P30 s1) ∧ (¬ x2 = 0 → vp_in a0 6 ∧ (((gi s1 (rf o 10) (Int32.toNatClampNeg a0)) < 0 → P30 s1) ∧ (¬ ((gi s1 (rf o 10) (Int32.toNatClampNeg a0)) < 0) → ((a1 < 0 → P30 s1) ∧ (¬ (a1 < 0) → vp_in a0 6 ∧ ((a1 < (gi s1 (rf o 11) (Int32.toNatClampNeg a0)) → vp_in a0 6 ∧ vp_in a1 60 ∧ Q (gl s1 (rf (rf o 12) (Int32.toNatClampNeg a0)) (Int32.toNatClampNeg a1)) s1) ∧ (¬ (a1 < (gi s1 (rf o 11) (Int32.toNatClampNeg a0))) → P30 s1)))))))))) : EL (d + 1) ids Y_X6_read [.ref o, .int a0, .int a1] σ Q := by
  refine E_mk (by decide) (Nat.le_of_ble_eq_true rfl) (fun X hX => ?_)
  replace hX : Cok X ids 3 cX6_read (some .long) (d + 1) RX6 := hX
  show Wg X ids 3 _ 0 [(0, .ref o), (1, .int a0), (2, .int a1)] [] σ
  have h := H (fun (σ : St) => (Wg X ids 3 (fun r σ1 => ∃ x, r = some (Value.long x) ∧ Q x σ1) 30 [] [] σ))
  replace h := h (fun σ h => by
    refine q_ldc2 (v := (-9223372036854775808)) hX dX6_read_30 tb_790 ?_
    exact q_lret hX dX6_read_33 ⟨_, rfl, h⟩
    )
  refine q_iload_n 1 hX dX6_read_0 rfl rfl ?_
  refine cl_X6_201 hX dX6_read_1 (Nat.le_of_ble_eq_true rfl) h (fun x2 s1 h => ?_)
  refine q_if_eq 30 hX dX6_read_4 (by decide) (fun c3 => ?_) (fun c3 => ?_)
  · replace h := h.1 c3
    exact Wg.sub [] rfl (h)
  · replace h := h.2 c3
    refine q_aload_n 0 hX dX6_read_7 rfl rfl ?_
    refine gf_X6_56 hX h_o dX6_read_8 ?_
    refine q_iload_n 1 hX dX6_read_11 rfl rfl ?_
    obtain ⟨b4, h⟩ := h
    refine q_iald hX dX6_read_12 (rfO_6_10 h_o) b4 ?_
    refine q_if_lt 30 hX dX6_read_13 (by decide) (fun c5 => ?_) (fun c5 => ?_)
    · replace h := h.1 c5
      exact Wg.sub [] rfl (h)
    · replace h := h.2 c5
      refine q_iload_n 2 hX dX6_read_16 rfl rfl ?_
      refine q_if_lt 30 hX dX6_read_17 (by decide) (fun c6 => ?_) (fun c6 => ?_)
      · replace h := h.1 c6
        exact Wg.sub [] rfl (h)
      · replace h := h.2 c6
        refine q_iload_n 2 hX dX6_read_20 rfl rfl ?_
        refine q_aload_n 0 hX dX6_read_21 rfl rfl ?_
        refine gf_X6_59 hX h_o dX6_read_22 ?_
        refine q_iload_n 1 hX dX6_read_25 rfl rfl ?_
        obtain ⟨b7, h⟩ := h
        refine q_iald hX dX6_read_26 (rfO_6_11 h_o) b7 ?_
        refine q_icmp_lt 34 hX dX6_read_27 (by decide) (fun c8 => ?_) (fun c8 => ?_)
        · replace h := h.1 c8
          refine q_aload_n 0 hX dX6_read_34 rfl rfl ?_
          refine gf_X6_64 hX h_o dX6_read_35 ?_
          refine q_iload_n 1 hX dX6_read_38 rfl rfl ?_
          obtain ⟨b9, h⟩ := h
          refine q_aald (by decide) hX dX6_read_39 (rfO_6_12 h_o) b9 ?_
          refine q_iload_n 2 hX dX6_read_40 rfl rfl ?_
          obtain ⟨b10, h⟩ := h
          refine q_lald hX dX6_read_41 (rfA_7 (rfO_6_12 h_o) b9) b10 ?_
          exact q_lret hX dX6_read_42 ⟨_, rfl, h⟩
        · replace h := h.2 c8
          exact Wg.sub [] rfl (h)
set_option maxHeartbeats 4000000 in
set_option maxRecDepth 20000 in
theorem fl_X6_shift {d : Nat} {ids : List Nat} {o : Nat} {a0 : Int32} {a1 : Int32} {a2 : Int32} {a3 : Int32} {a4 : Int32} {σ : St} {Q : Int32 → St → Prop} (h_o : IO ids o 6) (H : EI d ids Y_X6_isTape [.int a0] σ (fun x2 s1 => ((x2 = 0 → Q (-1) s1) ∧ (¬ x2 = 0 → EI d ids Y_X6_isTape [.int a2] s1 (fun x5 s4 => ((¬ x5 = 0 → vp_in a0 6 ∧ (((gi s4 (rf o 10) (Int32.toNatClampNeg a0)) < 0 → Q (-11) s4) ∧ (¬ ((gi s4 (rf o 10) (Int32.toNatClampNeg a0)) < 0) → vp_in a2 6 ∧ ((0 ≤ (gi s4 (rf o 10) (Int32.toNatClampNeg a2)) → vp_in a0 6 ∧ vp_in a2 6 ∧ (((gi s4 (rf o 10) (Int32.toNatClampNeg a0)) = (gi s4 (rf o 10) (Int32.toNatClampNeg a2)) → ((a4 < 0 → Q (-13) s4) ∧ (¬ (a4 < 0) → ((a1 < 0 → Q (-13) s4) ∧ (¬ (a1 < 0) → ((a3 < 0 → Q (-13) s4) ∧ (¬ (a3 < 0) → vp_in a0 6 ∧ ((((gi s4 (rf o 11) (Int32.toNatClampNeg a0)) - a4) < a1 → Q (-13) s4) ∧ (¬ (((gi s4 (rf o 11) (Int32.toNatClampNeg a0)) - a4) < a1) → vp_in a2 6 ∧ ((a3 ≤ ((gi s4 (rf o 11) (Int32.toNatClampNeg a2)) - a4) → vp_in a0 6 ∧ vp_in a2 6 ∧ ¬ a1 < 0 ∧ ¬ a3 < 0 ∧ ¬ a4 < 0 ∧ (Int32.toNatClampNeg a1) + (Int32.toNatClampNeg a4) ≤ 60 ∧ (Int32.toNatClampNeg a3) + (Int32.toNatClampNeg a4) ≤ 60 ∧ ∀ s24 : St, s24 = cpL s4 (rf (rf o 12) (Int32.toNatClampNeg a0)) (rf (rf o 12) (Int32.toNatClampNeg a2)) (Int32.toNatClampNeg a1) (Int32.toNatClampNeg a3) (Int32.toNatClampNeg a4) → Q a4 s24) ∧ (¬ (a3 ≤ ((gi s4 (rf o 11) (Int32.toNatClampNeg a2)) - a4)) → Q (-13) s4))))))))))) ∧ (¬ (gi s4 (rf o 10) (Int32.toNatClampNeg a0)) = (gi s4 (rf o 10) (Int32.toNatClampNeg a2)) → Q (-12) s4))) ∧ (¬ (0 ≤ (gi s4 (rf o 10) (Int32.toNatClampNeg a2))) → Q (-11) s4))))) ∧ (x5 = 0 → Q (-1) s4))))))) : EI (d + 1) ids Y_X6_shift [.ref o, .int a0, .int a1, .int a2, .int a3, .int a4] σ Q := by
  refine E_mk (by decide) (Nat.le_of_ble_eq_true rfl) (fun X hX => ?_)
  replace hX : Cok X ids 6 cX6_shift (some .int) (d + 1) RX6 := hX
  show Wg X ids 6 _ 0 [(0, .ref o), (1, .int a0), (2, .int a1), (3, .int a2), (4, .int a3), (5, .int a4)] [] σ
  have h := H
  refine q_iload_n 1 hX dX6_shift_0 rfl rfl ?_
  refine cl_X6_201 hX dX6_shift_1 (Nat.le_of_ble_eq_true rfl) h (fun x2 s1 h => ?_)
  refine q_if_eq 14 hX dX6_shift_4 (by decide) (fun c3 => ?_) (fun c3 => ?_)
  · replace h := h.1 c3
    refine q_iconst (v := (-1)) hX dX6_shift_14 (by decide) ?_
    exact q_ret hX dX6_shift_15 ⟨_, rfl, h⟩
  · replace h := h.2 c3
    refine q_iload_n 3 hX dX6_shift_7 rfl rfl ?_
    refine cl_X6_201 hX dX6_shift_8 (Nat.le_of_ble_eq_true rfl) h (fun x5 s4 h => ?_)
    refine q_if_ne 16 hX dX6_shift_11 (by decide) (fun c6 => ?_) (fun c6 => ?_)
    · replace h := h.1 c6
      refine q_aload_n 0 hX dX6_shift_16 rfl rfl ?_
      refine gf_X6_56 hX h_o dX6_shift_17 ?_
      refine q_iload_n 1 hX dX6_shift_20 rfl rfl ?_
      obtain ⟨b7, h⟩ := h
      refine q_iald hX dX6_shift_21 (rfO_6_10 h_o) b7 ?_
      refine q_if_lt 34 hX dX6_shift_22 (by decide) (fun c8 => ?_) (fun c8 => ?_)
      · replace h := h.1 c8
        refine q_bipush (v := (-11)) hX dX6_shift_34 (by decide) ?_
        exact q_ret hX dX6_shift_36 ⟨_, rfl, h⟩
      · replace h := h.2 c8
        refine q_aload_n 0 hX dX6_shift_25 rfl rfl ?_
        refine gf_X6_56 hX h_o dX6_shift_26 ?_
        refine q_iload_n 3 hX dX6_shift_29 rfl rfl ?_
        obtain ⟨b9, h⟩ := h
        refine q_iald hX dX6_shift_30 (rfO_6_10 h_o) b9 ?_
        refine q_if_ge 37 hX dX6_shift_31 (by decide) (fun c10 => ?_) (fun c10 => ?_)
        · replace h := h.1 c10
          refine q_aload_n 0 hX dX6_shift_37 rfl rfl ?_
          refine gf_X6_56 hX h_o dX6_shift_38 ?_
          refine q_iload_n 1 hX dX6_shift_41 rfl rfl ?_
          obtain ⟨b11, h⟩ := h
          refine q_iald hX dX6_shift_42 (rfO_6_10 h_o) b11 ?_
          refine q_aload_n 0 hX dX6_shift_43 rfl rfl ?_
          refine gf_X6_56 hX h_o dX6_shift_44 ?_
          refine q_iload_n 3 hX dX6_shift_47 rfl rfl ?_
          obtain ⟨b12, h⟩ := h
          refine q_iald hX dX6_shift_48 (rfO_6_10 h_o) b12 ?_
          refine q_icmp_eq 55 hX dX6_shift_49 (by decide) (fun c13 => ?_) (fun c13 => ?_)
          · replace h := h.1 c13
            refine q_iload 5 hX dX6_shift_55 rfl ?_
            refine q_if_lt 96 hX dX6_shift_57 (by decide) (fun c14 => ?_) (fun c14 => ?_)
            · replace h := h.1 c14
              refine q_bipush (v := (-13)) hX dX6_shift_96 (by decide) ?_
              exact q_ret hX dX6_shift_98 ⟨_, rfl, h⟩
            · replace h := h.2 c14
              refine q_iload_n 2 hX dX6_shift_60 rfl rfl ?_
              refine q_if_lt 96 hX dX6_shift_61 (by decide) (fun c15 => ?_) (fun c15 => ?_)
              · replace h := h.1 c15
                refine q_bipush (v := (-13)) hX dX6_shift_96 (by decide) ?_
                exact q_ret hX dX6_shift_98 ⟨_, rfl, h⟩
              · replace h := h.2 c15
                refine q_iload 4 hX dX6_shift_64 rfl ?_
                refine q_if_lt 96 hX dX6_shift_66 (by decide) (fun c16 => ?_) (fun c16 => ?_)
                · replace h := h.1 c16
                  refine q_bipush (v := (-13)) hX dX6_shift_96 (by decide) ?_
                  exact q_ret hX dX6_shift_98 ⟨_, rfl, h⟩
                · replace h := h.2 c16
                  refine q_iload_n 2 hX dX6_shift_69 rfl rfl ?_
                  refine q_aload_n 0 hX dX6_shift_70 rfl rfl ?_
                  refine gf_X6_59 hX h_o dX6_shift_71 ?_
                  refine q_iload_n 1 hX dX6_shift_74 rfl rfl ?_
                  obtain ⟨b17, h⟩ := h
                  refine q_iald hX dX6_shift_75 (rfO_6_11 h_o) b17 ?_
                  refine q_iload 5 hX dX6_shift_76 rfl ?_
                  refine q_isub hX dX6_shift_78 ?_
                  refine q_icmp_gt 96 hX dX6_shift_79 (by decide) (fun c18 => ?_) (fun c18 => ?_)
                  · replace h := h.1 c18
                    refine q_bipush (v := (-13)) hX dX6_shift_96 (by decide) ?_
                    exact q_ret hX dX6_shift_98 ⟨_, rfl, h⟩
                  · replace h := h.2 c18
                    refine q_iload 4 hX dX6_shift_82 rfl ?_
                    refine q_aload_n 0 hX dX6_shift_84 rfl rfl ?_
                    refine gf_X6_59 hX h_o dX6_shift_85 ?_
                    refine q_iload_n 3 hX dX6_shift_88 rfl rfl ?_
                    obtain ⟨b19, h⟩ := h
                    refine q_iald hX dX6_shift_89 (rfO_6_11 h_o) b19 ?_
                    refine q_iload 5 hX dX6_shift_90 rfl ?_
                    refine q_isub hX dX6_shift_92 ?_
                    refine q_icmp_le 99 hX dX6_shift_93 (by decide) (fun c20 => ?_) (fun c20 => ?_)
                    · replace h := h.1 c20
                      refine q_aload_n 0 hX dX6_shift_99 rfl rfl ?_
                      refine gf_X6_64 hX h_o dX6_shift_100 ?_
                      refine q_iload_n 1 hX dX6_shift_103 rfl rfl ?_
                      obtain ⟨b21, h⟩ := h
                      refine q_aald (by decide) hX dX6_shift_104 (rfO_6_12 h_o) b21 ?_
                      refine q_iload_n 2 hX dX6_shift_105 rfl rfl ?_
                      refine q_aload_n 0 hX dX6_shift_106 rfl rfl ?_
                      refine gf_X6_64 hX h_o dX6_shift_107 ?_
                      refine q_iload_n 3 hX dX6_shift_110 rfl rfl ?_
                      obtain ⟨b22, h⟩ := h
                      refine q_aald (by decide) hX dX6_shift_111 (rfO_6_12 h_o) b22 ?_
                      refine q_iload 4 hX dX6_shift_112 rfl ?_
                      refine q_iload 5 hX dX6_shift_114 rfl ?_
                      obtain ⟨b23_1, b23_2, b23_3, b23_4, b23_5, h⟩ := h
                      refine q_copyl hX dX6_shift_116 tb_795 tb_797 tb_796 tb_86 (rfA_7 (rfO_6_12 h_o) b21) (rfA_7 (rfO_6_12 h_o) b22) (Nat.le_of_ble_eq_true rfl) b23_1 b23_2 b23_3 b23_4 b23_5 ?_
                      refine Wg.nmS (fun s24 es24 => ?_)
                      replace h := h s24 es24
                      refine q_iload 5 hX dX6_shift_119 rfl ?_
                      exact q_ret hX dX6_shift_121 ⟨_, rfl, h⟩
                    · replace h := h.2 c20
                      refine q_bipush (v := (-13)) hX dX6_shift_96 (by decide) ?_
                      exact q_ret hX dX6_shift_98 ⟨_, rfl, h⟩
          · replace h := h.2 c13
            refine q_bipush (v := (-12)) hX dX6_shift_52 (by decide) ?_
            exact q_ret hX dX6_shift_54 ⟨_, rfl, h⟩
        · replace h := h.2 c10
          refine q_bipush (v := (-11)) hX dX6_shift_34 (by decide) ?_
          exact q_ret hX dX6_shift_36 ⟨_, rfl, h⟩
    · replace h := h.2 c6
      refine q_iconst (v := (-1)) hX dX6_shift_14 (by decide) ?_
      exact q_ret hX dX6_shift_15 ⟨_, rfl, h⟩
set_option maxHeartbeats 4000000 in
set_option maxRecDepth 20000 in
theorem fl_X6_isPoint {d : Nat} {ids : List Nat} {a0 : Int32} {σ : St} {Q : Int32 → St → Prop}  (H : ((a0 < 0 → Q 0 σ) ∧ (¬ (a0 < 0) → ((5 ≤ a0 → Q 0 σ) ∧ (¬ (5 ≤ a0) → Q 1 σ))))) : EI (d + 1) ids Y_X6_isPoint [.int a0] σ Q := by
  refine E_mk (by decide) (Nat.le_of_ble_eq_true rfl) (fun X hX => ?_)
  replace hX : Cok X ids 1 cX6_isPoint (some .boolean) (d + 1) RX6 := hX
  show Wg X ids 1 _ 0 [(0, .int a0)] [] σ
  have h := H
  refine q_iload_n 0 hX dX6_isPoint_0 rfl rfl ?_
  refine q_if_lt 13 hX dX6_isPoint_1 (by decide) (fun c1 => ?_) (fun c1 => ?_)
  · replace h := h.1 c1
    refine q_iconst (v := 0) hX dX6_isPoint_13 (by decide) ?_
    exact q_zret hX dX6_isPoint_14 (by decide) ⟨_, rfl, h⟩
  · replace h := h.2 c1
    refine q_iload_n 0 hX dX6_isPoint_4 rfl rfl ?_
    refine q_iconst (v := 5) hX dX6_isPoint_5 (by decide) ?_
    refine q_icmp_ge 13 hX dX6_isPoint_6 (by decide) (fun c2 => ?_) (fun c2 => ?_)
    · replace h := h.1 c2
      refine q_iconst (v := 0) hX dX6_isPoint_13 (by decide) ?_
      exact q_zret hX dX6_isPoint_14 (by decide) ⟨_, rfl, h⟩
    · replace h := h.2 c2
      refine q_iconst (v := 1) hX dX6_isPoint_9 (by decide) ?_
      refine q_goto 14 hX dX6_isPoint_10 (by decide) ?_
      exact q_zret hX dX6_isPoint_14 (by decide) ⟨_, rfl, h⟩
set_option maxHeartbeats 4000000 in
set_option maxRecDepth 20000 in
theorem fl_X6_isTape {d : Nat} {ids : List Nat} {a0 : Int32} {σ : St} {Q : Int32 → St → Prop}  (H : ((a0 < 0 → Q 0 σ) ∧ (¬ (a0 < 0) → ((6 ≤ a0 → Q 0 σ) ∧ (¬ (6 ≤ a0) → Q 1 σ))))) : EI (d + 1) ids Y_X6_isTape [.int a0] σ Q := by
  refine E_mk (by decide) (Nat.le_of_ble_eq_true rfl) (fun X hX => ?_)
  replace hX : Cok X ids 1 cX6_isTape (some .boolean) (d + 1) RX6 := hX
  show Wg X ids 1 _ 0 [(0, .int a0)] [] σ
  have h := H
  refine q_iload_n 0 hX dX6_isTape_0 rfl rfl ?_
  refine q_if_lt 14 hX dX6_isTape_1 (by decide) (fun c1 => ?_) (fun c1 => ?_)
  · replace h := h.1 c1
    refine q_iconst (v := 0) hX dX6_isTape_14 (by decide) ?_
    exact q_zret hX dX6_isTape_15 (by decide) ⟨_, rfl, h⟩
  · replace h := h.2 c1
    refine q_iload_n 0 hX dX6_isTape_4 rfl rfl ?_
    refine q_bipush (v := 6) hX dX6_isTape_5 (by decide) ?_
    refine q_icmp_ge 14 hX dX6_isTape_7 (by decide) (fun c2 => ?_) (fun c2 => ?_)
    · replace h := h.1 c2
      refine q_iconst (v := 0) hX dX6_isTape_14 (by decide) ?_
      exact q_zret hX dX6_isTape_15 (by decide) ⟨_, rfl, h⟩
    · replace h := h.2 c2
      refine q_iconst (v := 1) hX dX6_isTape_10 (by decide) ?_
      refine q_goto 15 hX dX6_isTape_11 (by decide) ?_
      exact q_zret hX dX6_isTape_15 (by decide) ⟨_, rfl, h⟩
set_option maxHeartbeats 4000000 in
set_option maxRecDepth 20000 in
theorem fl_X6_asNumber {d : Nat} {ids : List Nat} {a0 : Int32} {σ : St} {Q : Int32 → St → Prop}  (H : ((a0 = 0 → Q 0 σ) ∧ (¬ a0 = 0 → Q 1 σ))) : EI (d + 1) ids Y_X6_asNumber [.int a0] σ Q := by
  refine E_mk (by decide) (Nat.le_of_ble_eq_true rfl) (fun X hX => ?_)
  replace hX : Cok X ids 1 cX6_asNumber (some .int) (d + 1) RX6 := hX
  show Wg X ids 1 _ 0 [(0, .int a0)] [] σ
  have h := H
  refine q_iload_n 0 hX dX6_asNumber_0 rfl rfl ?_
  refine q_if_eq 8 hX dX6_asNumber_1 (by decide) (fun c1 => ?_) (fun c1 => ?_)
  · replace h := h.1 c1
    refine q_iconst (v := 0) hX dX6_asNumber_8 (by decide) ?_
    exact q_ret hX dX6_asNumber_9 ⟨_, rfl, h⟩
  · replace h := h.2 c1
    refine q_iconst (v := 1) hX dX6_asNumber_4 (by decide) ?_
    refine q_goto 9 hX dX6_asNumber_5 (by decide) ?_
    exact q_ret hX dX6_asNumber_9 ⟨_, rfl, h⟩
set_option maxHeartbeats 4000000 in
set_option maxRecDepth 20000 in
theorem fl_X6_asItem {d : Nat} {ids : List Nat} {a0 : Int32} {a1 : Int64} {σ : St} {Q : Int64 → St → Prop}  (H : ((a0 = 0 → Q (Int32.toInt64 (Int8.toInt32 (Int32.toInt8 (Int64.toInt32 a1)))) σ) ∧ (a0 = 1 → Q (Int32.toInt64 (Int16.toInt32 (Int32.toInt16 (Int64.toInt32 a1)))) σ) ∧ (a0 = 2 → Q (Int32.toInt64 (Int64.toInt32 a1)) σ) ∧ (a0 = 3 → Q a1 σ) ∧ (¬ a0 = 0 → ¬ a0 = 1 → ¬ a0 = 2 → ¬ a0 = 3 → (((lg_cmp a1 0) = 0 → Q 0 σ) ∧ (¬ (lg_cmp a1 0) = 0 → Q 1 σ))))) : EL (d + 1) ids Y_X6_asItem [.int a0, .long a1] σ Q := by
  refine E_mk (by decide) (Nat.le_of_ble_eq_true rfl) (fun X hX => ?_)
  replace hX : Cok X ids 3 cX6_asItem (some .long) (d + 1) RX6 := hX
  show Wg X ids 3 _ 0 [(0, .int a0), (1, .long a1)] [] σ
  have h := H
  refine q_iload_n 0 hX dX6_asItem_0 rfl rfl ?_
  by_cases c1_0 : a0 = 0
  · refine q_tableIn (off := 31) 32 hX dX6_asItem_1 (by rw [c1_0]; decide) (by rw [c1_0]; decide) (by first | (rw [c1_0]; done) | (rw [c1_0]; rfl)) (by decide) ?_
    replace h := h.1 c1_0
    refine q_lload_n 1 hX dX6_asItem_32 rfl rfl ?_
    refine q_l2i hX dX6_asItem_33 ?_
    refine q_i2b hX dX6_asItem_34 ?_
    refine q_i2l hX dX6_asItem_35 ?_
    exact q_lret hX dX6_asItem_36 ⟨_, rfl, h⟩
  by_cases c1_1 : a0 = 1
  · refine q_tableIn (off := 36) 37 hX dX6_asItem_1 (by rw [c1_1]; decide) (by rw [c1_1]; decide) (by first | (rw [c1_1]; done) | (rw [c1_1]; rfl)) (by decide) ?_
    replace h := h.2.1 c1_1
    refine q_lload_n 1 hX dX6_asItem_37 rfl rfl ?_
    refine q_l2i hX dX6_asItem_38 ?_
    refine q_i2s hX dX6_asItem_39 ?_
    refine q_i2l hX dX6_asItem_40 ?_
    exact q_lret hX dX6_asItem_41 ⟨_, rfl, h⟩
  by_cases c1_2 : a0 = 2
  · refine q_tableIn (off := 41) 42 hX dX6_asItem_1 (by rw [c1_2]; decide) (by rw [c1_2]; decide) (by first | (rw [c1_2]; done) | (rw [c1_2]; rfl)) (by decide) ?_
    replace h := h.2.2.1 c1_2
    refine q_lload_n 1 hX dX6_asItem_42 rfl rfl ?_
    refine q_l2i hX dX6_asItem_43 ?_
    refine q_i2l hX dX6_asItem_44 ?_
    exact q_lret hX dX6_asItem_45 ⟨_, rfl, h⟩
  by_cases c1_3 : a0 = 3
  · refine q_tableIn (off := 45) 46 hX dX6_asItem_1 (by rw [c1_3]; decide) (by rw [c1_3]; decide) (by first | (rw [c1_3]; done) | (rw [c1_3]; rfl)) (by decide) ?_
    replace h := h.2.2.2.1 c1_3
    refine q_lload_n 1 hX dX6_asItem_46 rfl rfl ?_
    exact q_lret hX dX6_asItem_47 ⟨_, rfl, h⟩
  refine q_tableOut 48 hX dX6_asItem_1 (by have e0 := ne_toInt (k := 0) c1_0 (by decide); have e1 := ne_toInt (k := 1) c1_1 (by decide); have e2 := ne_toInt (k := 2) c1_2 (by decide); have e3 := ne_toInt (k := 3) c1_3 (by decide); omega) (by decide) ?_
  replace h := h.2.2.2.2 c1_0 c1_1 c1_2 c1_3
  refine q_lload_n 1 hX dX6_asItem_48 rfl rfl ?_
  refine q_lconst (v := 0) hX dX6_asItem_49 (by decide) ?_
  refine q_lcmp hX dX6_asItem_50 ?_
  refine q_if_eq 58 hX dX6_asItem_51 (by decide) (fun c2 => ?_) (fun c2 => ?_)
  · replace h := h.1 c2
    refine q_lconst (v := 0) hX dX6_asItem_58 (by decide) ?_
    exact q_lret hX dX6_asItem_59 ⟨_, rfl, h⟩
  · replace h := h.2 c2
    refine q_lconst (v := 1) hX dX6_asItem_54 (by decide) ?_
    refine q_goto 59 hX dX6_asItem_55 (by decide) ?_
    exact q_lret hX dX6_asItem_59 ⟨_, rfl, h⟩
set_option maxHeartbeats 4000000 in
set_option maxRecDepth 20000 in
theorem fl_X6_placeOf {d : Nat} {ids : List Nat} {a0 : Int32} {σ : St} {Q : Int32 → St → Prop}  (H : ∀ (P2 : Int32 → St → Prop), (∀ (v1 : Int32) (σ : St), (((14 ≤ v1 → Q (-1) σ) ∧ (¬ (14 ≤ v1) → vp_in v1 14 ∧ ((¬ (tPl (Int32.toNatClampNeg v1)) = a0 → ∀ x4 : Int32, x4 = v1 + 1 → P2 x4 σ) ∧ ((tPl (Int32.toNatClampNeg v1)) = a0 → Q v1 σ))))) → P2 v1 σ) → P2 0 σ) : EI (d + 1) ids Y_X6_placeOf [.int a0] σ Q := by
  refine E_mk (by decide) (Nat.le_of_ble_eq_true rfl) (fun X hX => ?_)
  replace hX : Cok X ids 2 cX6_placeOf (some .int) (d + 1) RX6 := hX
  show Wg X ids 2 _ 0 [(0, .int a0)] [] σ
  have h := H (fun (v1 : Int32) (σ : St) => (Wg X ids 2 (fun r σ1 => ∃ x, r = some (Value.int x) ∧ Q x σ1) 2 [(0, .int a0), (1, .int v1)] [] σ))
  replace h := h (fun v1 σ h => by
    refine q_iload_n 1 hX dX6_placeOf_2 rfl rfl ?_
    refine q_gets 1001 hX dX6_placeOf_3 tb_590 (fun _ _ _ _ h => h.1.1) ?_
    refine q_tlen (v := 14) hX dX6_placeOf_6 (fun _ _ _ _ h => h.1.2) rfl ?_
    refine q_icmp_ge 27 hX dX6_placeOf_7 (by decide) (fun c1 => ?_) (fun c1 => ?_)
    · replace h := h.1 c1
      refine q_iconst (v := (-1)) hX dX6_placeOf_27 (by decide) ?_
      exact q_ret hX dX6_placeOf_28 ⟨_, rfl, h⟩
    · replace h := h.2 c1
      refine q_gets 1001 hX dX6_placeOf_10 tb_590 (fun _ _ _ _ h => h.1.1) ?_
      refine q_iload_n 1 hX dX6_placeOf_13 rfl rfl ?_
      obtain ⟨b2, h⟩ := h
      refine q_tald hX dX6_placeOf_14 (fun _ _ _ _ h => h.1.2) b2 ?_
      refine q_iload_n 0 hX dX6_placeOf_15 rfl rfl ?_
      refine q_icmp_ne 21 hX dX6_placeOf_16 (by decide) (fun c3 => ?_) (fun c3 => ?_)
      · replace h := h.1 c3
        obtain ⟨x4, ex4⟩ : ∃ z : Int32, z = v1 + 1 := ⟨_, rfl⟩
        replace h := h x4 ex4
        refine q_iinc (v := x4) (L' := [(1, .int x4), (0, .int a0)]) 1 hX dX6_placeOf_21 rfl (by rw [ex4]; rfl) (by decide) rfl ?_
        refine q_goto 2 hX dX6_placeOf_24 (by decide) ?_
        exact Wg.sub [1, 0] rfl (h)
      · replace h := h.2 c3
        refine q_iload_n 1 hX dX6_placeOf_19 rfl rfl ?_
        exact q_ret hX dX6_placeOf_20 ⟨_, rfl, h⟩
    )
  refine q_iconst (v := 0) hX dX6_placeOf_0 (by decide) ?_
  refine q_istore_n (L' := [(1, .int 0), (0, .int a0)]) hX dX6_placeOf_1 rfl (by decide) rfl ?_
  exact Wg.sub [1, 0] rfl (h)
set_option maxHeartbeats 4000000 in
set_option maxRecDepth 20000 in
theorem fl_X6_caseAt {d : Nat} {ids : List Nat} {o : Nat} {a0 : Int32} {σ : St} {Q : Option Nat → St → Prop} (h_o : IO ids o 6) (H : ∀ (P12 : St → Prop), (∀ (σ : St), (Q none σ) → P12 σ) → ((a0 < 0 → P12 σ) ∧ (¬ (a0 < 0) → ((a0 < (gi σ o 3) → vp_in a0 4 ∧ ((dc (gi σ (rf o 2) (Int32.toNatClampNeg a0)) = none → Q none σ) ∧ (∀ r4 : Nat, dc (gi σ (rf o 2) (Int32.toNatClampNeg a0)) = some r4 → IO ids r4 1 ∧ Q (some r4) σ))) ∧ (¬ (a0 < (gi σ o 3)) → P12 σ))))) : EO (d + 1) ids Y_X6_caseAt [.ref o, .int a0] σ Q := by
  refine E_mk (by decide) (Nat.le_of_ble_eq_true rfl) (fun X hX => ?_)
  replace hX : Cok X ids 2 cX6_caseAt (some (.object "PleasToIssue$Case")) (d + 1) RX6 := hX
  show Wg X ids 2 _ 0 [(0, .ref o), (1, .int a0)] [] σ
  have h := H (fun (σ : St) => (Wg X ids 2 (fun r σ1 => ∃ a, r = some (va_rf a) ∧ Q a σ1) 12 [] [] σ))
  replace h := h (fun σ h => by
    refine q_null hX dX6_caseAt_12 ?_
    refine q_goto 22 hX dX6_caseAt_13 (by decide) ?_
    exact q_aretN hX dX6_caseAt_22 ⟨none, rfl, h⟩
    )
  refine q_iload_n 1 hX dX6_caseAt_0 rfl rfl ?_
  refine q_if_lt 12 hX dX6_caseAt_1 (by decide) (fun c1 => ?_) (fun c1 => ?_)
  · replace h := h.1 c1
    exact Wg.sub [] rfl (h)
  · replace h := h.2 c1
    refine q_iload_n 1 hX dX6_caseAt_4 rfl rfl ?_
    refine q_aload_n 0 hX dX6_caseAt_5 rfl rfl ?_
    refine gf_X6_72 hX h_o dX6_caseAt_6 ?_
    refine q_icmp_lt 16 hX dX6_caseAt_9 (by decide) (fun c2 => ?_) (fun c2 => ?_)
    · replace h := h.1 c2
      refine q_aload_n 0 hX dX6_caseAt_16 rfl rfl ?_
      refine gf_X6_20 hX h_o dX6_caseAt_17 ?_
      refine q_iload_n 1 hX dX6_caseAt_20 rfl rfl ?_
      obtain ⟨b3, h⟩ := h
      refine q_cald hX dX6_caseAt_21 (rfO_6_2 h_o) b3 (fun hn => ?_) (fun r4 h_r4 => ?_)
      · replace h := h.1 hn
        exact q_aretN hX dX6_caseAt_22 ⟨none, rfl, h⟩
      · obtain ⟨h_r4, h⟩ := h.2 r4 h_r4
        exact q_aret hX dX6_caseAt_22 ⟨some _, rfl, h⟩
    · replace h := h.2 c2
      exact Wg.sub [] rfl (h)
set_option maxHeartbeats 4000000 in
set_option maxRecDepth 20000 in
theorem fl_X6_rulesAt {d : Nat} {ids : List Nat} {o : Nat} {a0 : Int32} {σ : St} {Q : Option Nat → St → Prop} (h_o : IO ids o 6) (H : ∀ (P12 : St → Prop), (∀ (σ : St), (Q none σ) → P12 σ) → ((a0 < 0 → P12 σ) ∧ (¬ (a0 < 0) → ((a0 < (gi σ o 6) → vp_in a0 5 ∧ Q (some (rf (rf o 5) (Int32.toNatClampNeg a0))) σ) ∧ (¬ (a0 < (gi σ o 6)) → P12 σ))))) : EO (d + 1) ids Y_X6_rulesAt [.ref o, .int a0] σ Q := by
  refine E_mk (by decide) (Nat.le_of_ble_eq_true rfl) (fun X hX => ?_)
  replace hX : Cok X ids 2 cX6_rulesAt (some (.object "PleasToIssue$Rules")) (d + 1) RX6 := hX
  show Wg X ids 2 _ 0 [(0, .ref o), (1, .int a0)] [] σ
  have h := H (fun (σ : St) => (Wg X ids 2 (fun r σ1 => ∃ a, r = some (va_rf a) ∧ Q a σ1) 12 [] [] σ))
  replace h := h (fun σ h => by
    refine q_null hX dX6_rulesAt_12 ?_
    refine q_goto 22 hX dX6_rulesAt_13 (by decide) ?_
    exact q_aretN hX dX6_rulesAt_22 ⟨none, rfl, h⟩
    )
  refine q_iload_n 1 hX dX6_rulesAt_0 rfl rfl ?_
  refine q_if_lt 12 hX dX6_rulesAt_1 (by decide) (fun c1 => ?_) (fun c1 => ?_)
  · replace h := h.1 c1
    exact Wg.sub [] rfl (h)
  · replace h := h.2 c1
    refine q_iload_n 1 hX dX6_rulesAt_4 rfl rfl ?_
    refine q_aload_n 0 hX dX6_rulesAt_5 rfl rfl ?_
    refine gf_X6_104 hX h_o dX6_rulesAt_6 ?_
    refine q_icmp_lt 16 hX dX6_rulesAt_9 (by decide) (fun c2 => ?_) (fun c2 => ?_)
    · replace h := h.1 c2
      refine q_aload_n 0 hX dX6_rulesAt_16 rfl rfl ?_
      refine gf_X6_33 hX h_o dX6_rulesAt_17 ?_
      refine q_iload_n 1 hX dX6_rulesAt_20 rfl rfl ?_
      obtain ⟨b3, h⟩ := h
      refine q_aald (by decide) hX dX6_rulesAt_21 (rfO_6_5 h_o) b3 ?_
      exact q_aret hX dX6_rulesAt_22 ⟨some _, rfl, h⟩
    · replace h := h.2 c2
      exact Wg.sub [] rfl (h)
set_option maxHeartbeats 4000000 in
set_option maxRecDepth 20000 in
theorem fl_X6_rightCases {d : Nat} {ids : List Nat} {o : Nat} {a0 : Nat} {a1 : Int32} {σ : St} {Q : Int32 → St → Prop} (h_o : IO ids o 6) (h_a0 : IO ids a0 3) (H : ∀ (P5 : Int32 → Int32 → St → Prop) (P51 : Int32 → Int32 → Nat → Int32 → St → Prop) (P74 : Int32 → Int32 → St → Prop), (∀ (v3 : Int32) (v4 : Int32) (σ : St), ((((gi σ o 3) ≤ v4 → Q v3 σ) ∧ (¬ ((gi σ o 3) ≤ v4) → vp_in v4 4 ∧ ((dc (gi σ (rf o 2) (Int32.toNatClampNeg v4)) = none → EV d ids Y_X2_restart [.ref (rf o 8), .ref a0, .int a1] σ (fun s4 => False)) ∧ (∀ r3 : Nat, dc (gi σ (rf o 2) (Int32.toNatClampNeg v4)) = some r3 → IO ids r3 1 ∧ EV d ids Y_X2_restart [.ref (rf o 8), .ref a0, .int a1] σ (fun s5 => EI d ids Y_X2_valueIn [.ref (rf o 8), .ref r3] s5 (fun x7 s6 => ((x7 < 10 → P51 v3 v4 r3 0 s6) ∧ (¬ (x7 < 10) → P51 v3 v4 r3 1 s6))))))))) → P5 v3 v4 σ) → (∀ (v3 : Int32) (v4 : Int32) (v5 : Nat) (t0 : Int32) (σ : St), (IO ids v5 1 → EI d ids Y_X1_oughtToHave [.ref v5, .ref (rf o 0)] σ (fun x10 s9 => ((¬ t0 = x10 → P74 v3 v4 s9) ∧ (t0 = x10 → ∀ x12 : Int32, x12 = (v3 ||| ((1 : Int32) <<< (v4 &&& 31))) → P74 x12 v4 s9)))) → P51 v3 v4 v5 t0 σ) → (∀ (v3 : Int32) (v4 : Int32) (σ : St), (∀ x13 : Int32, x13 = v4 + 1 → P5 v3 x13 σ) → P74 v3 v4 σ) → P5 0 0 σ) : EI (d + 1) ids Y_X6_rightCases [.ref o, .ref a0, .int a1] σ Q := by
  refine E_mk (by decide) (Nat.le_of_ble_eq_true rfl) (fun X hX => ?_)
  replace hX : Cok X ids 7 cX6_rightCases (some .int) (d + 1) RX6 := hX
  show Wg X ids 7 _ 0 [(0, .ref o), (1, .ref a0), (2, .int a1)] [] σ
  have h := H (fun (v3 : Int32) (v4 : Int32) (σ : St) => (Wg X ids 7 (fun r σ1 => ∃ x, r = some (Value.int x) ∧ Q x σ1) 5 [(0, .ref o), (1, .ref a0), (2, .int a1), (3, .int v3), (4, .int v4)] [] σ)) (fun (v3 : Int32) (v4 : Int32) (v5 : Nat) (t0 : Int32) (σ : St) => (IO ids v5 1 → Wg X ids 7 (fun r σ1 => ∃ x, r = some (Value.int x) ∧ Q x σ1) 51 [(0, .ref o), (1, .ref a0), (2, .int a1), (3, .int v3), (4, .int v4), (5, .ref v5)] [.int t0] σ)) (fun (v3 : Int32) (v4 : Int32) (σ : St) => (Wg X ids 7 (fun r σ1 => ∃ x, r = some (Value.int x) ∧ Q x σ1) 74 [(0, .ref o), (1, .ref a0), (2, .int a1), (3, .int v3), (4, .int v4)] [] σ))
  replace h := h (fun v3 v4 σ h => by
    refine q_iload 4 hX dX6_rightCases_5 rfl ?_
    refine q_aload_n 0 hX dX6_rightCases_7 rfl rfl ?_
    refine gf_X6_72 hX h_o dX6_rightCases_8 ?_
    refine q_icmp_ge 80 hX dX6_rightCases_11 (by decide) (fun c1 => ?_) (fun c1 => ?_)
    · replace h := h.1 c1
      refine q_iload_n 3 hX dX6_rightCases_80 rfl rfl ?_
      exact q_ret hX dX6_rightCases_81 ⟨_, rfl, h⟩
    · replace h := h.2 c1
      refine q_aload_n 0 hX dX6_rightCases_14 rfl rfl ?_
      refine gf_X6_20 hX h_o dX6_rightCases_15 ?_
      refine q_iload 4 hX dX6_rightCases_18 rfl ?_
      obtain ⟨b2, h⟩ := h
      refine q_cald hX dX6_rightCases_20 (rfO_6_2 h_o) b2 (fun hn => ?_) (fun r3 h_r3 => ?_)
      · replace h := h.1 hn
        refine q_astoreN (L' := [(5, .null), (0, .ref o), (1, .ref a0), (2, .int a1), (3, .int v3), (4, .int v4)]) hX dX6_rightCases_21 (by decide) rfl ?_
        refine q_aload_n 1 hX dX6_rightCases_23 rfl rfl ?_
        refine gf_X6_46 hX h_o dX6_rightCases_24 ?_
        refine q_aload_n 2 hX dX6_rightCases_27 rfl rfl ?_
        refine q_iload_n 3 hX dX6_rightCases_28 rfl rfl ?_
        refine cl_X6_111 hX (rfO_6_8 h_o) dX6_rightCases_29 (Nat.le_of_ble_eq_true rfl) h (fun s4 h => ?_)
        refine q_aload_n 1 hX dX6_rightCases_32 rfl rfl ?_
        refine gf_X6_46 hX h_o dX6_rightCases_33 ?_
        refine q_aloadN 0 hX dX6_rightCases_36 rfl ?_
        exact h.elim
      · obtain ⟨h_r3, h⟩ := h.2 r3 h_r3
        refine q_astore (L' := [(5, .ref r3), (0, .ref o), (1, .ref a0), (2, .int a1), (3, .int v3), (4, .int v4)]) hX dX6_rightCases_21 (by decide) rfl ?_
        refine q_aload_n 1 hX dX6_rightCases_23 rfl rfl ?_
        refine gf_X6_46 hX h_o dX6_rightCases_24 ?_
        refine q_aload_n 2 hX dX6_rightCases_27 rfl rfl ?_
        refine q_iload_n 3 hX dX6_rightCases_28 rfl rfl ?_
        refine cl_X6_111 hX (rfO_6_8 h_o) dX6_rightCases_29 (Nat.le_of_ble_eq_true rfl) h (fun s5 h => ?_)
        refine q_aload_n 1 hX dX6_rightCases_32 rfl rfl ?_
        refine gf_X6_46 hX h_o dX6_rightCases_33 ?_
        refine q_aload 0 hX dX6_rightCases_36 rfl ?_
        refine cl_X6_168 hX (rfO_6_8 h_o) dX6_rightCases_38 (Nat.le_of_ble_eq_true rfl) h (fun x7 s6 h => ?_)
        refine q_bipush (v := 10) hX dX6_rightCases_41 (by decide) ?_
        refine q_icmp_lt 50 hX dX6_rightCases_43 (by decide) (fun c8 => ?_) (fun c8 => ?_)
        · replace h := h.1 c8
          refine q_iconst (v := 0) hX dX6_rightCases_50 (by decide) ?_
          exact Wg.sub [1, 2, 3, 4, 5, 0] rfl (h h_r3)
        · replace h := h.2 c8
          refine q_iconst (v := 1) hX dX6_rightCases_46 (by decide) ?_
          refine q_goto 51 hX dX6_rightCases_47 (by decide) ?_
          exact Wg.sub [1, 2, 3, 4, 5, 0] rfl (h h_r3)
    )
  replace h := h (fun v3 v4 v5 t0 σ h h_v5 => by
    replace h := h h_v5
    refine q_istore (L' := [(6, .int t0), (0, .ref o), (1, .ref a0), (2, .int a1), (3, .int v3), (4, .int v4), (5, .ref v5)]) hX dX6_rightCases_51 (by decide) rfl ?_
    refine q_iload 0 hX dX6_rightCases_53 rfl ?_
    refine q_aload 6 hX dX6_rightCases_55 rfl ?_
    refine q_aload_n 1 hX dX6_rightCases_57 rfl rfl ?_
    refine gf_X6_11 hX h_o dX6_rightCases_58 ?_
    refine cl_X6_179 hX h_v5 dX6_rightCases_61 (Nat.le_of_ble_eq_true rfl) h (fun x10 s9 h => ?_)
    refine q_icmp_ne 74 hX dX6_rightCases_64 (by decide) (fun c11 => ?_) (fun c11 => ?_)
    · replace h := h.1 c11
      exact Wg.sub [1, 2, 3, 4, 5] rfl (h)
    · replace h := h.2 c11
      refine q_iload_n 4 hX dX6_rightCases_67 rfl rfl ?_
      refine q_iconst (v := 1) hX dX6_rightCases_68 (by decide) ?_
      refine q_iload 5 hX dX6_rightCases_69 rfl ?_
      refine q_ishl hX dX6_rightCases_71 ?_
      refine q_ior hX dX6_rightCases_72 ?_
      refine Wg.nmI (fun x12 ex12 => ?_)
      replace h := h x12 ex12
      refine q_istore_n (L' := [(3, .int x12), (6, .int t0), (0, .ref o), (1, .ref a0), (2, .int a1), (4, .int v4), (5, .ref v5)]) hX dX6_rightCases_73 rfl (by decide) rfl ?_
      exact Wg.sub [2, 3, 4, 0, 5] rfl (h)
    )
  replace h := h (fun v3 v4 σ h => by
    obtain ⟨x13, ex13⟩ : ∃ z : Int32, z = v4 + 1 := ⟨_, rfl⟩
    replace h := h x13 ex13
    refine q_iinc (v := x13) (L' := [(4, .int x13), (0, .ref o), (1, .ref a0), (2, .int a1), (3, .int v3)]) 4 hX dX6_rightCases_74 rfl (by rw [ex13]; rfl) (by decide) rfl ?_
    refine q_goto 5 hX dX6_rightCases_77 (by decide) ?_
    exact Wg.sub [1, 2, 3, 4, 0] rfl (h)
    )
  refine q_iconst (v := 0) hX dX6_rightCases_0 (by decide) ?_
  refine q_istore_n (L' := [(3, .int 0), (0, .ref o), (1, .ref a0), (2, .int a1)]) hX dX6_rightCases_1 rfl (by decide) rfl ?_
  refine q_iconst (v := 0) hX dX6_rightCases_2 (by decide) ?_
  refine q_istore (L' := [(4, .int 0), (3, .int 0), (0, .ref o), (1, .ref a0), (2, .int a1)]) hX dX6_rightCases_3 (by decide) rfl ?_
  exact Wg.sub [2, 3, 4, 1, 0] rfl (h)
