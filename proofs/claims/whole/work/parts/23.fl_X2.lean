/-! formulas of the methods: if the formula holds, the contract does -/
set_option maxHeartbeats 4000000 in
set_option maxRecDepth 20000 in
theorem fl_X2_restart {d : Nat} {ids : List Nat} {o : Nat} {a0 : Nat} {a1 : Int32} {σ : St} {Q : St → Prop} (h_o : IO ids o 2) (h_a0 : IO ids a0 3) (H : ∀ s1 : St, s1 = si σ o 5 (nI a0) → ∀ s2 : St, s2 = si s1 o 6 a1 → EI d ids Y_X3_numberOf [.ref a0, .int 2, .int (gi s2 o 6), .int 5, .int 5] s2 (fun x4 s3 => ∀ s5 : St, s5 = si s3 o 7 x4 → EI d ids Y_X3_numberOf [.ref a0, .int 3, .int (gi s5 o 6), .int 1, .int 2] s5 (fun x7 s6 => ∀ s8 : St, s8 = si s6 o 8 x7 → ∀ s9 : St, s9 = si s8 o 10 0 → EV d ids Y_X2_weigh [.ref o] s9 (fun s10 => Q s10)))) : EV (d + 1) ids Y_X2_restart [.ref o, .ref a0, .int a1] σ Q := by
  refine E_mk (by decide) (Nat.le_of_ble_eq_true rfl) (fun X hX => ?_)
  replace hX : Cok X ids 3 cX2_restart none (d + 1) RX2 := hX
  show Wg X ids 3 _ 0 [(0, .ref o), (1, .ref a0), (2, .int a1)] [] σ
  have h := H
  refine q_aload_n 0 hX dX2_restart_0 rfl rfl ?_
  refine q_aload_n 1 hX dX2_restart_1 rfl rfl ?_
  refine pf_X2_38 hX h_o dX2_restart_2 (IO_lt h_a0) ?_
  refine Wg.nmS (fun s1 es1 => ?_)
  replace h := h s1 es1
  refine q_aload_n 0 hX dX2_restart_5 rfl rfl ?_
  refine q_iload_n 2 hX dX2_restart_6 rfl rfl ?_
  refine pf_X2_42 hX h_o dX2_restart_7 ?_
  refine Wg.nmS (fun s2 es2 => ?_)
  replace h := h s2 es2
  refine q_aload_n 0 hX dX2_restart_10 rfl rfl ?_
  refine q_aload_n 1 hX dX2_restart_11 rfl rfl ?_
  refine q_iconst (v := 2) hX dX2_restart_12 (by decide) ?_
  refine q_aload_n 0 hX dX2_restart_13 rfl rfl ?_
  refine gf_X2_42 hX h_o dX2_restart_14 ?_
  refine q_iconst (v := 5) hX dX2_restart_17 (by decide) ?_
  refine q_iconst (v := 5) hX dX2_restart_18 (by decide) ?_
  refine cl_X2_47 hX h_a0 dX2_restart_19 (Nat.le_of_ble_eq_true rfl) h (fun x4 s3 h => ?_)
  refine pf_X2_51 hX h_o dX2_restart_22 ?_
  refine Wg.nmS (fun s5 es5 => ?_)
  replace h := h s5 es5
  refine q_aload_n 0 hX dX2_restart_25 rfl rfl ?_
  refine q_aload_n 1 hX dX2_restart_26 rfl rfl ?_
  refine q_iconst (v := 3) hX dX2_restart_27 (by decide) ?_
  refine q_aload_n 0 hX dX2_restart_28 rfl rfl ?_
  refine gf_X2_42 hX h_o dX2_restart_29 ?_
  refine q_iconst (v := 1) hX dX2_restart_32 (by decide) ?_
  refine q_iconst (v := 2) hX dX2_restart_33 (by decide) ?_
  refine cl_X2_47 hX h_a0 dX2_restart_34 (Nat.le_of_ble_eq_true rfl) h (fun x7 s6 h => ?_)
  refine pf_X2_54 hX h_o dX2_restart_37 ?_
  refine Wg.nmS (fun s8 es8 => ?_)
  replace h := h s8 es8
  refine q_aload_n 0 hX dX2_restart_40 rfl rfl ?_
  refine q_iconst (v := 0) hX dX2_restart_41 (by decide) ?_
  refine pf_X2_57 hX h_o dX2_restart_42 ?_
  refine Wg.nmS (fun s9 es9 => ?_)
  replace h := h s9 es9
  refine q_aload_n 0 hX dX2_restart_45 rfl rfl ?_
  refine cl_X2_60 hX h_o dX2_restart_46 (Nat.le_of_ble_eq_true rfl) h (fun s10 h => ?_)
  exact q_vret hX dX2_restart_49 ⟨rfl, h⟩
set_option maxHeartbeats 4000000 in
set_option maxRecDepth 20000 in
theorem fl_X2_now {d : Nat} {ids : List Nat} {o : Nat} {σ : St} {Q : Nat → St → Prop} (h_o : IO ids o 2) (H : vp_in (gi σ o 10) 6 ∧ Q (rf (rf o 2) (Int32.toNatClampNeg (gi σ o 10))) σ) : ER (d + 1) ids Y_X2_now [.ref o] σ Q := by
  refine E_mk (by decide) (Nat.le_of_ble_eq_true rfl) (fun X hX => ?_)
  replace hX : Cok X ids 1 cX2_now (some (.object "PleasToIssue$Stage")) (d + 1) RX2 := hX
  show Wg X ids 1 _ 0 [(0, .ref o)] [] σ
  have h := H
  refine q_aload_n 0 hX dX2_now_0 rfl rfl ?_
  refine gf_X2_11 hX h_o dX2_now_1 ?_
  refine q_aload_n 0 hX dX2_now_4 rfl rfl ?_
  refine gf_X2_57 hX h_o dX2_now_5 ?_
  obtain ⟨b1, h⟩ := h
  refine q_aald (by decide) hX dX2_now_8 (rfO_2_2 h_o) b1 ?_
  exact q_aret hX dX2_now_9 ⟨_, rfl, h⟩
set_option maxHeartbeats 4000000 in
set_option maxRecDepth 20000 in
theorem fl_X2_weigh {d : Nat} {ids : List Nat} {o : Nat} {σ : St} {Q : St → Prop} (h_o : IO ids o 2) (H : ER d ids Y_X2_now [.ref o] σ (fun r2 s1 => IO ids r2 4 ∧ ((dc (gi s1 o 5) = none → Q s1) ∧ (∀ r3 : Nat, dc (gi s1 o 5) = some r3 → IO ids r3 3 ∧ (((gi s1 o 7) ≤ (gi s1 o 10) → Q s1) ∧ (¬ ((gi s1 o 7) ≤ (gi s1 o 10)) → EI d ids Y_X4_isClosed [.ref r2] s1 (fun x6 s5 => ((x6 = 0 → ∀ s8 : St, s8 = si s5 (rf o 3) (Int32.toNatClampNeg 0) (gi s5 o 10) → ∀ s9 : St, s9 = si s8 (rf o 3) (Int32.toNatClampNeg 1) (gi s8 r2 3) → ∀ s10 : St, s10 = si s9 (rf o 3) (Int32.toNatClampNeg 2) (gi s9 r2 4) → EI d ids Y_J6_bitCount_0f7a4 [.int (gi s10 r2 5)] s10 (fun x12 s11 => ∀ s13 : St, s13 = si s11 (rf o 3) (Int32.toNatClampNeg 3) x12 → ∀ s14 : St, s14 = si s13 (rf o 3) (Int32.toNatClampNeg 4) (gi s13 r2 1) → ((dc (gi s14 o 5) = none → False) ∧ (∀ r15 : Nat, dc (gi s14 o 5) = some r15 → IO ids r15 3 ∧ EI d ids Y_X3_kindsThat [.ref r15, .int 0, .int (gi s14 o 6), .ref (rf o 3)] s14 (fun x17 s16 => ∀ s18 : St, s18 = si s16 r2 8 x17 → ((dc (gi s18 o 5) = none → False) ∧ (∀ r19 : Nat, dc (gi s18 o 5) = some r19 → IO ids r19 3 ∧ EI d ids Y_X3_kindsThat [.ref r19, .int 1, .int (gi s18 o 6), .ref (rf o 3)] s18 (fun x21 s20 => ∀ s22 : St, s22 = si s20 r2 9 x21 → Q s22)))))))) ∧ (¬ x6 = 0 → Q s5))))))))) : EV (d + 1) ids Y_X2_weigh [.ref o] σ Q := by
  refine E_mk (by decide) (Nat.le_of_ble_eq_true rfl) (fun X hX => ?_)
  replace hX : Cok X ids 2 cX2_weigh none (d + 1) RX2 := hX
  show Wg X ids 2 _ 0 [(0, .ref o)] [] σ
  have h := H
  refine q_aload_n 0 hX dX2_weigh_0 rfl rfl ?_
  refine cl_X2_63 hX h_o dX2_weigh_1 (Nat.le_of_ble_eq_true rfl) h (fun r2 s1 h => ?_)
  obtain ⟨h_r2, h⟩ := h
  refine q_astore_n (L' := [(1, .ref r2), (0, .ref o)]) hX dX2_weigh_4 rfl (by decide) rfl ?_
  refine q_aload_n 1 hX dX2_weigh_5 rfl rfl ?_
  refine gf_X2_38 hX h_o dX2_weigh_6 (fun hn => ?_) (fun r3 h_r3 => ?_)
  · replace h := h.1 hn
    refine q_ifnullN 30 hX dX2_weigh_9 (by decide) ?_
    exact q_vret hX dX2_weigh_30 ⟨rfl, h⟩
  · obtain ⟨h_r3, h⟩ := h.2 r3 h_r3
    refine q_ifnull hX dX2_weigh_9 ?_
    refine q_aload_n 1 hX dX2_weigh_12 rfl rfl ?_
    refine gf_X2_57 hX h_o dX2_weigh_13 ?_
    refine q_aload_n 1 hX dX2_weigh_16 rfl rfl ?_
    refine gf_X2_51 hX h_o dX2_weigh_17 ?_
    refine q_icmp_ge 30 hX dX2_weigh_20 (by decide) (fun c4 => ?_) (fun c4 => ?_)
    · replace h := h.1 c4
      exact q_vret hX dX2_weigh_30 ⟨rfl, h⟩
    · replace h := h.2 c4
      refine q_aload_n 0 hX dX2_weigh_23 rfl rfl ?_
      refine cl_X2_67 hX h_r2 dX2_weigh_24 (Nat.le_of_ble_eq_true rfl) h (fun x6 s5 h => ?_)
      refine q_if_eq 31 hX dX2_weigh_27 (by decide) (fun c7 => ?_) (fun c7 => ?_)
      · replace h := h.1 c7
        refine q_aload_n 1 hX dX2_weigh_31 rfl rfl ?_
        refine gf_X2_17 hX h_o dX2_weigh_32 ?_
        refine q_iconst (v := 0) hX dX2_weigh_35 (by decide) ?_
        refine q_aload_n 1 hX dX2_weigh_36 rfl rfl ?_
        refine gf_X2_57 hX h_o dX2_weigh_37 ?_
        refine q_iast hX dX2_weigh_40 (rfO_2_3 h_o) (vp_dec (by decide)) ?_
        refine Wg.nmS (fun s8 es8 => ?_)
        replace h := h s8 es8
        refine q_aload_n 1 hX dX2_weigh_41 rfl rfl ?_
        refine gf_X2_17 hX h_o dX2_weigh_42 ?_
        refine q_iconst (v := 1) hX dX2_weigh_45 (by decide) ?_
        refine q_aload_n 0 hX dX2_weigh_46 rfl rfl ?_
        refine gf_X2_71 hX h_r2 dX2_weigh_47 ?_
        refine q_iast hX dX2_weigh_50 (rfO_2_3 h_o) (vp_dec (by decide)) ?_
        refine Wg.nmS (fun s9 es9 => ?_)
        replace h := h s9 es9
        refine q_aload_n 1 hX dX2_weigh_51 rfl rfl ?_
        refine gf_X2_17 hX h_o dX2_weigh_52 ?_
        refine q_iconst (v := 2) hX dX2_weigh_55 (by decide) ?_
        refine q_aload_n 0 hX dX2_weigh_56 rfl rfl ?_
        refine gf_X2_31 hX h_r2 dX2_weigh_57 ?_
        refine q_iast hX dX2_weigh_60 (rfO_2_3 h_o) (vp_dec (by decide)) ?_
        refine Wg.nmS (fun s10 es10 => ?_)
        replace h := h s10 es10
        refine q_aload_n 1 hX dX2_weigh_61 rfl rfl ?_
        refine gf_X2_17 hX h_o dX2_weigh_62 ?_
        refine q_iconst (v := 3) hX dX2_weigh_65 (by decide) ?_
        refine q_aload_n 0 hX dX2_weigh_66 rfl rfl ?_
        refine gf_X2_74 hX h_r2 dX2_weigh_67 ?_
        refine cl_X2_77 hX dX2_weigh_70 (Nat.le_of_ble_eq_true rfl) h (fun x12 s11 h => ?_)
        refine q_iast hX dX2_weigh_73 (rfO_2_3 h_o) (vp_dec (by decide)) ?_
        refine Wg.nmS (fun s13 es13 => ?_)
        replace h := h s13 es13
        refine q_aload_n 1 hX dX2_weigh_74 rfl rfl ?_
        refine gf_X2_17 hX h_o dX2_weigh_75 ?_
        refine q_iconst (v := 4) hX dX2_weigh_78 (by decide) ?_
        refine q_aload_n 0 hX dX2_weigh_79 rfl rfl ?_
        refine gf_X2_83 hX h_r2 dX2_weigh_80 ?_
        refine q_iast hX dX2_weigh_83 (rfO_2_3 h_o) (vp_dec (by decide)) ?_
        refine Wg.nmS (fun s14 es14 => ?_)
        replace h := h s14 es14
        refine q_aload_n 0 hX dX2_weigh_84 rfl rfl ?_
        refine q_aload_n 1 hX dX2_weigh_85 rfl rfl ?_
        refine gf_X2_38 hX h_o dX2_weigh_86 (fun hn => ?_) (fun r15 h_r15 => ?_)
        · replace h := h.1 hn
          refine q_iconst (v := 0) hX dX2_weigh_89 (by decide) ?_
          refine q_aload_n 1 hX dX2_weigh_90 rfl rfl ?_
          refine gf_X2_42 hX h_o dX2_weigh_91 ?_
          refine q_aload_n 1 hX dX2_weigh_94 rfl rfl ?_
          refine gf_X2_17 hX h_o dX2_weigh_95 ?_
          exact h.elim
        · obtain ⟨h_r15, h⟩ := h.2 r15 h_r15
          refine q_iconst (v := 0) hX dX2_weigh_89 (by decide) ?_
          refine q_aload_n 1 hX dX2_weigh_90 rfl rfl ?_
          refine gf_X2_42 hX h_o dX2_weigh_91 ?_
          refine q_aload_n 1 hX dX2_weigh_94 rfl rfl ?_
          refine gf_X2_17 hX h_o dX2_weigh_95 ?_
          refine cl_X2_86 hX h_r15 dX2_weigh_98 (Nat.le_of_ble_eq_true rfl) h (fun x17 s16 h => ?_)
          refine pf_X2_90 hX h_r2 dX2_weigh_101 ?_
          refine Wg.nmS (fun s18 es18 => ?_)
          replace h := h s18 es18
          refine q_aload_n 0 hX dX2_weigh_104 rfl rfl ?_
          refine q_aload_n 1 hX dX2_weigh_105 rfl rfl ?_
          refine gf_X2_38 hX h_o dX2_weigh_106 (fun hn => ?_) (fun r19 h_r19 => ?_)
          · replace h := h.1 hn
            refine q_iconst (v := 1) hX dX2_weigh_109 (by decide) ?_
            refine q_aload_n 1 hX dX2_weigh_110 rfl rfl ?_
            refine gf_X2_42 hX h_o dX2_weigh_111 ?_
            refine q_aload_n 1 hX dX2_weigh_114 rfl rfl ?_
            refine gf_X2_17 hX h_o dX2_weigh_115 ?_
            exact h.elim
          · obtain ⟨h_r19, h⟩ := h.2 r19 h_r19
            refine q_iconst (v := 1) hX dX2_weigh_109 (by decide) ?_
            refine q_aload_n 1 hX dX2_weigh_110 rfl rfl ?_
            refine gf_X2_42 hX h_o dX2_weigh_111 ?_
            refine q_aload_n 1 hX dX2_weigh_114 rfl rfl ?_
            refine gf_X2_17 hX h_o dX2_weigh_115 ?_
            refine cl_X2_86 hX h_r19 dX2_weigh_118 (Nat.le_of_ble_eq_true rfl) h (fun x21 s20 h => ?_)
            refine pf_X2_93 hX h_r2 dX2_weigh_121 ?_
            refine Wg.nmS (fun s22 es22 => ?_)
            replace h := h s22 es22
            exact q_vret hX dX2_weigh_124 ⟨rfl, h⟩
      · replace h := h.2 c7
        exact q_vret hX dX2_weigh_30 ⟨rfl, h⟩
set_option maxHeartbeats 4000000 in
set_option maxRecDepth 20000 in
theorem fl_X2_open {d : Nat} {ids : List Nat} {o : Nat} {σ : St} {Q : Int32 → St → Prop} (h_o : IO ids o 2) (H : ∀ (P79 : Nat → Int32 → Int32 → Int32 → St → Prop) (P94 : Nat → Int32 → Int32 → Int32 → St → Prop) (P126 : Nat → Int32 → Int32 → Int32 → St → Prop) (P153 : Nat → Int32 → Int32 → St → Prop), (∀ (v1 : Nat) (v2 : Int32) (v3 : Int32) (v4 : Int32) (σ : St), (IO ids v1 4 → ((¬ ((v2 >>> (3 &&& 31)) &&& 1) = 0 → P94 v1 v2 v3 v4 σ) ∧ (((v2 >>> (3 &&& 31)) &&& 1) = 0 → ∀ x2 : Int32, x2 = (v4 ||| 64) → P94 v1 v2 v3 x2 σ))) → P79 v1 v2 v3 v4 σ) → (∀ (v1 : Nat) (v2 : Int32) (v3 : Int32) (v4 : Int32) (σ : St), (IO ids v1 4 → ((¬ ((v2 >>> (4 &&& 31)) &&& 1) = 0 → P126 v1 v2 v3 v4 σ) ∧ (((v2 >>> (4 &&& 31)) &&& 1) = 0 → (((gi σ o 10) ≤ 0 → P126 v1 v2 v3 v4 σ) ∧ (¬ ((gi σ o 10) ≤ 0) → (((gi σ v1 1) = 6 → P126 v1 v2 v3 v4 σ) ∧ (¬ (gi σ v1 1) = 6 → ∀ x6 : Int32, x6 = (v4 ||| 128) → P126 v1 v2 v3 x6 σ))))))) → P94 v1 v2 v3 v4 σ) → (∀ (v1 : Nat) (v2 : Int32) (v3 : Int32) (v4 : Int32) (σ : St), (IO ids v1 4 → ((¬ ((v2 >>> (5 &&& 31)) &&& 1) = 0 → P153 v1 v2 v4 σ) ∧ (((v2 >>> (5 &&& 31)) &&& 1) = 0 → vp_in (gi σ v1 3) 5 ∧ ∀ x9 : Int32, x9 = (v4 ||| (((gi σ (rf o 1) (Int32.toNatClampNeg (gi σ v1 3))) &&& v3) <<< (8 &&& 31))) → P153 v1 v2 x9 σ))) → P126 v1 v2 v3 v4 σ) → (∀ (v1 : Nat) (v2 : Int32) (v4 : Int32) (σ : St), (IO ids v1 4 → ((¬ ((v2 >>> (6 &&& 31)) &&& 1) = 0 → Q v4 σ) ∧ (((v2 >>> (6 &&& 31)) &&& 1) = 0 → vp_in (gi σ v1 4) 2 ∧ (((gi σ o 8) ≤ (gi σ (rf v1 7) (Int32.toNatClampNeg (gi σ v1 4))) → Q v4 σ) ∧ (¬ ((gi σ o 8) ≤ (gi σ (rf v1 7) (Int32.toNatClampNeg (gi σ v1 4)))) → ∀ x13 : Int32, x13 = (v4 ||| 8192) → Q x13 σ))))) → P153 v1 v2 v4 σ) → ER d ids Y_X2_now [.ref o] σ (fun r15 s14 => IO ids r15 4 ∧ ((dc (gi s14 o 5) = none → Q 0 s14) ∧ (∀ r16 : Nat, dc (gi s14 o 5) = some r16 → IO ids r16 3 ∧ (((gi s14 o 7) ≤ (gi s14 o 10) → Q 0 s14) ∧ (¬ ((gi s14 o 7) ≤ (gi s14 o 10)) → EI d ids Y_X4_isClosed [.ref r15] s14 (fun x19 s18 => ((x19 = 0 → ∀ x21 : Int32, x21 = (gi s18 r15 8) → ∀ x22 : Int32, x22 = ((gi s18 r15 6) ^^^ (-1)) → ∀ x23 : Int32, x23 = (((x21 >>> (1 &&& 31)) &&& 1) ^^^ 1) → ((¬ ((x21 >>> (2 &&& 31)) &&& 1) = 0 → P79 r15 x21 x22 x23 s18) ∧ (((x21 >>> (2 &&& 31)) &&& 1) = 0 → vp_in (gi s18 r15 3) 5 ∧ ∀ x26 : Int32, x26 = (x23 ||| (((gi s18 (rf o 0) (Int32.toNatClampNeg (gi s18 r15 3))) &&& x22) <<< (1 &&& 31))) → P79 r15 x21 x22 x26 s18))) ∧ (¬ x19 = 0 → Q 0 s18))))))))) : EI (d + 1) ids Y_X2_open [.ref o] σ Q := by
  refine E_mk (by decide) (Nat.le_of_ble_eq_true rfl) (fun X hX => ?_)
  replace hX : Cok X ids 5 cX2_open (some .int) (d + 1) RX2 := hX
  show Wg X ids 5 _ 0 [(0, .ref o)] [] σ
  have h := H (fun (v1 : Nat) (v2 : Int32) (v3 : Int32) (v4 : Int32) (σ : St) => (IO ids v1 4 → Wg X ids 5 (fun r σ1 => ∃ x, r = some (Value.int x) ∧ Q x σ1) 79 [(0, .ref o), (1, .ref v1), (2, .int v2), (3, .int v3), (4, .int v4)] [] σ)) (fun (v1 : Nat) (v2 : Int32) (v3 : Int32) (v4 : Int32) (σ : St) => (IO ids v1 4 → Wg X ids 5 (fun r σ1 => ∃ x, r = some (Value.int x) ∧ Q x σ1) 94 [(0, .ref o), (1, .ref v1), (2, .int v2), (3, .int v3), (4, .int v4)] [] σ)) (fun (v1 : Nat) (v2 : Int32) (v3 : Int32) (v4 : Int32) (σ : St) => (IO ids v1 4 → Wg X ids 5 (fun r σ1 => ∃ x, r = some (Value.int x) ∧ Q x σ1) 126 [(0, .ref o), (1, .ref v1), (2, .int v2), (3, .int v3), (4, .int v4)] [] σ)) (fun (v1 : Nat) (v2 : Int32) (v4 : Int32) (σ : St) => (IO ids v1 4 → Wg X ids 5 (fun r σ1 => ∃ x, r = some (Value.int x) ∧ Q x σ1) 153 [(0, .ref o), (1, .ref v1), (2, .int v2), (4, .int v4)] [] σ))
  replace h := h (fun v1 v2 v3 v4 σ h h_v1 => by
    replace h := h h_v1
    refine q_iload_n 2 hX dX2_open_79 rfl rfl ?_
    refine q_iconst (v := 3) hX dX2_open_80 (by decide) ?_
    refine q_ishr hX dX2_open_81 ?_
    refine q_iconst (v := 1) hX dX2_open_82 (by decide) ?_
    refine q_iand hX dX2_open_83 ?_
    refine q_if_ne 94 hX dX2_open_84 (by decide) (fun c1 => ?_) (fun c1 => ?_)
    · replace h := h.1 c1
      exact Wg.sub [0, 1, 2, 3, 4] rfl (h h_v1)
    · replace h := h.2 c1
      refine q_iload 4 hX dX2_open_87 rfl ?_
      refine q_bipush (v := 64) hX dX2_open_89 (by decide) ?_
      refine q_ior hX dX2_open_91 ?_
      refine Wg.nmI (fun x2 ex2 => ?_)
      replace h := h x2 ex2
      refine q_istore (L' := [(4, .int x2), (0, .ref o), (1, .ref v1), (2, .int v2), (3, .int v3)]) hX dX2_open_92 (by decide) rfl ?_
      exact Wg.sub [1, 2, 3, 4, 0] rfl (h h_v1)
    )
  replace h := h (fun v1 v2 v3 v4 σ h h_v1 => by
    replace h := h h_v1
    refine q_iload_n 2 hX dX2_open_94 rfl rfl ?_
    refine q_iconst (v := 4) hX dX2_open_95 (by decide) ?_
    refine q_ishr hX dX2_open_96 ?_
    refine q_iconst (v := 1) hX dX2_open_97 (by decide) ?_
    refine q_iand hX dX2_open_98 ?_
    refine q_if_ne 126 hX dX2_open_99 (by decide) (fun c3 => ?_) (fun c3 => ?_)
    · replace h := h.1 c3
      exact Wg.sub [0, 1, 2, 3, 4] rfl (h h_v1)
    · replace h := h.2 c3
      refine q_aload_n 0 hX dX2_open_102 rfl rfl ?_
      refine gf_X2_57 hX h_o dX2_open_103 ?_
      refine q_if_le 126 hX dX2_open_106 (by decide) (fun c4 => ?_) (fun c4 => ?_)
      · replace h := h.1 c4
        exact Wg.sub [0, 1, 2, 3, 4] rfl (h h_v1)
      · replace h := h.2 c4
        refine q_aload_n 1 hX dX2_open_109 rfl rfl ?_
        refine gf_X2_83 hX h_v1 dX2_open_110 ?_
        refine q_bipush (v := 6) hX dX2_open_113 (by decide) ?_
        refine q_icmp_eq 126 hX dX2_open_115 (by decide) (fun c5 => ?_) (fun c5 => ?_)
        · replace h := h.1 c5
          exact Wg.sub [0, 1, 2, 3, 4] rfl (h h_v1)
        · replace h := h.2 c5
          refine q_iload 4 hX dX2_open_118 rfl ?_
          refine q_sipush (v := 128) hX dX2_open_120 (by decide) ?_
          refine q_ior hX dX2_open_123 ?_
          refine Wg.nmI (fun x6 ex6 => ?_)
          replace h := h x6 ex6
          refine q_istore (L' := [(4, .int x6), (0, .ref o), (1, .ref v1), (2, .int v2), (3, .int v3)]) hX dX2_open_124 (by decide) rfl ?_
          exact Wg.sub [1, 2, 3, 4, 0] rfl (h h_v1)
    )
  replace h := h (fun v1 v2 v3 v4 σ h h_v1 => by
    replace h := h h_v1
    refine q_iload_n 2 hX dX2_open_126 rfl rfl ?_
    refine q_iconst (v := 5) hX dX2_open_127 (by decide) ?_
    refine q_ishr hX dX2_open_128 ?_
    refine q_iconst (v := 1) hX dX2_open_129 (by decide) ?_
    refine q_iand hX dX2_open_130 ?_
    refine q_if_ne 153 hX dX2_open_131 (by decide) (fun c7 => ?_) (fun c7 => ?_)
    · replace h := h.1 c7
      exact Wg.sub [0, 1, 2, 4] rfl (h h_v1)
    · replace h := h.2 c7
      refine q_iload 4 hX dX2_open_134 rfl ?_
      refine q_aload_n 0 hX dX2_open_136 rfl rfl ?_
      refine gf_X2_27 hX h_o dX2_open_137 ?_
      refine q_aload_n 1 hX dX2_open_140 rfl rfl ?_
      refine gf_X2_71 hX h_v1 dX2_open_141 ?_
      obtain ⟨b8, h⟩ := h
      refine q_iald hX dX2_open_144 (rfO_2_1 h_o) b8 ?_
      refine q_iload_n 3 hX dX2_open_145 rfl rfl ?_
      refine q_iand hX dX2_open_146 ?_
      refine q_bipush (v := 8) hX dX2_open_147 (by decide) ?_
      refine q_ishl hX dX2_open_149 ?_
      refine q_ior hX dX2_open_150 ?_
      refine Wg.nmI (fun x9 ex9 => ?_)
      replace h := h x9 ex9
      refine q_istore (L' := [(4, .int x9), (0, .ref o), (1, .ref v1), (2, .int v2), (3, .int v3)]) hX dX2_open_151 (by decide) rfl ?_
      exact Wg.sub [1, 2, 3, 0] rfl (h h_v1)
    )
  replace h := h (fun v1 v2 v4 σ h h_v1 => by
    replace h := h h_v1
    refine q_iload_n 2 hX dX2_open_153 rfl rfl ?_
    refine q_bipush (v := 6) hX dX2_open_154 (by decide) ?_
    refine q_ishr hX dX2_open_156 ?_
    refine q_iconst (v := 1) hX dX2_open_157 (by decide) ?_
    refine q_iand hX dX2_open_158 ?_
    refine q_if_ne 186 hX dX2_open_159 (by decide) (fun c10 => ?_) (fun c10 => ?_)
    · replace h := h.1 c10
      refine q_iload 3 hX dX2_open_186 rfl ?_
      exact q_ret hX dX2_open_188 ⟨_, rfl, h⟩
    · replace h := h.2 c10
      refine q_aload_n 1 hX dX2_open_162 rfl rfl ?_
      refine gf_X2_96 hX h_v1 dX2_open_163 ?_
      refine q_aload_n 1 hX dX2_open_166 rfl rfl ?_
      refine gf_X2_31 hX h_v1 dX2_open_167 ?_
      obtain ⟨b11, h⟩ := h
      refine q_iald hX dX2_open_170 (rfO_4_7 h_v1) b11 ?_
      refine q_aload_n 0 hX dX2_open_171 rfl rfl ?_
      refine gf_X2_54 hX h_o dX2_open_172 ?_
      refine q_icmp_ge 186 hX dX2_open_175 (by decide) (fun c12 => ?_) (fun c12 => ?_)
      · replace h := h.1 c12
        refine q_iload 3 hX dX2_open_186 rfl ?_
        exact q_ret hX dX2_open_188 ⟨_, rfl, h⟩
      · replace h := h.2 c12
        refine q_iload 3 hX dX2_open_178 rfl ?_
        refine q_sipush (v := 8192) hX dX2_open_180 (by decide) ?_
        refine q_ior hX dX2_open_183 ?_
        refine Wg.nmI (fun x13 ex13 => ?_)
        replace h := h x13 ex13
        refine q_istore (L' := [(4, .int x13), (0, .ref o), (1, .ref v1), (2, .int v2)]) hX dX2_open_184 (by decide) rfl ?_
        refine q_iload 0 hX dX2_open_186 rfl ?_
        exact q_ret hX dX2_open_188 ⟨_, rfl, h⟩
    )
  refine q_aload_n 0 hX dX2_open_0 rfl rfl ?_
  refine cl_X2_63 hX h_o dX2_open_1 (Nat.le_of_ble_eq_true rfl) h (fun r15 s14 h => ?_)
  obtain ⟨h_r15, h⟩ := h
  refine q_astore_n (L' := [(1, .ref r15), (0, .ref o)]) hX dX2_open_4 rfl (by decide) rfl ?_
  refine q_aload_n 1 hX dX2_open_5 rfl rfl ?_
  refine gf_X2_38 hX h_o dX2_open_6 (fun hn => ?_) (fun r16 h_r16 => ?_)
  · replace h := h.1 hn
    refine q_ifnullN 30 hX dX2_open_9 (by decide) ?_
    refine q_iconst (v := 0) hX dX2_open_30 (by decide) ?_
    exact q_ret hX dX2_open_31 ⟨_, rfl, h⟩
  · obtain ⟨h_r16, h⟩ := h.2 r16 h_r16
    refine q_ifnull hX dX2_open_9 ?_
    refine q_aload_n 1 hX dX2_open_12 rfl rfl ?_
    refine gf_X2_57 hX h_o dX2_open_13 ?_
    refine q_aload_n 1 hX dX2_open_16 rfl rfl ?_
    refine gf_X2_51 hX h_o dX2_open_17 ?_
    refine q_icmp_ge 30 hX dX2_open_20 (by decide) (fun c17 => ?_) (fun c17 => ?_)
    · replace h := h.1 c17
      refine q_iconst (v := 0) hX dX2_open_30 (by decide) ?_
      exact q_ret hX dX2_open_31 ⟨_, rfl, h⟩
    · replace h := h.2 c17
      refine q_aload_n 0 hX dX2_open_23 rfl rfl ?_
      refine cl_X2_67 hX h_r15 dX2_open_24 (Nat.le_of_ble_eq_true rfl) h (fun x19 s18 h => ?_)
      refine q_if_eq 32 hX dX2_open_27 (by decide) (fun c20 => ?_) (fun c20 => ?_)
      · replace h := h.1 c20
        refine q_aload_n 0 hX dX2_open_32 rfl rfl ?_
        refine gf_X2_90 hX h_r15 dX2_open_33 ?_
        refine Wg.nmI (fun x21 ex21 => ?_)
        replace h := h x21 ex21
        refine q_istore_n (L' := [(2, .int x21), (1, .ref r15), (0, .ref o)]) hX dX2_open_36 rfl (by decide) rfl ?_
        refine q_aload_n 1 hX dX2_open_37 rfl rfl ?_
        refine gf_X2_35 hX h_r15 dX2_open_38 ?_
        refine q_iconst (v := (-1)) hX dX2_open_41 (by decide) ?_
        refine q_ixor hX dX2_open_42 ?_
        refine Wg.nmI (fun x22 ex22 => ?_)
        replace h := h x22 ex22
        refine q_istore_n (L' := [(3, .int x22), (2, .int x21), (1, .ref r15), (0, .ref o)]) hX dX2_open_43 rfl (by decide) rfl ?_
        refine q_iload_n 1 hX dX2_open_44 rfl rfl ?_
        refine q_iconst (v := 1) hX dX2_open_45 (by decide) ?_
        refine q_ishr hX dX2_open_46 ?_
        refine q_iconst (v := 1) hX dX2_open_47 (by decide) ?_
        refine q_iand hX dX2_open_48 ?_
        refine q_iconst (v := 1) hX dX2_open_49 (by decide) ?_
        refine q_ixor hX dX2_open_50 ?_
        refine Wg.nmI (fun x23 ex23 => ?_)
        replace h := h x23 ex23
        refine q_istore (L' := [(4, .int x23), (3, .int x22), (2, .int x21), (1, .ref r15), (0, .ref o)]) hX dX2_open_51 (by decide) rfl ?_
        refine q_iload_n 2 hX dX2_open_53 rfl rfl ?_
        refine q_iconst (v := 2) hX dX2_open_54 (by decide) ?_
        refine q_ishr hX dX2_open_55 ?_
        refine q_iconst (v := 1) hX dX2_open_56 (by decide) ?_
        refine q_iand hX dX2_open_57 ?_
        refine q_if_ne 79 hX dX2_open_58 (by decide) (fun c24 => ?_) (fun c24 => ?_)
        · replace h := h.1 c24
          exact Wg.sub [4, 3, 2, 1, 0] rfl (h h_r15)
        · replace h := h.2 c24
          refine q_iload 0 hX dX2_open_61 rfl ?_
          refine q_aload_n 4 hX dX2_open_63 rfl rfl ?_
          refine gf_X2_24 hX h_o dX2_open_64 ?_
          refine q_aload_n 3 hX dX2_open_67 rfl rfl ?_
          refine gf_X2_71 hX h_r15 dX2_open_68 ?_
          obtain ⟨b25, h⟩ := h
          refine q_iald hX dX2_open_71 (rfO_2_0 h_o) b25 ?_
          refine q_iload_n 1 hX dX2_open_72 rfl rfl ?_
          refine q_iand hX dX2_open_73 ?_
          refine q_iconst (v := 1) hX dX2_open_74 (by decide) ?_
          refine q_ishl hX dX2_open_75 ?_
          refine q_ior hX dX2_open_76 ?_
          refine Wg.nmI (fun x26 ex26 => ?_)
          replace h := h x26 ex26
          refine q_istore (L' := [(4, .int x26), (3, .int x22), (2, .int x21), (1, .ref r15), (0, .ref o)]) hX dX2_open_77 (by decide) rfl ?_
          exact Wg.sub [4, 3, 2, 1, 0] rfl (h h_r15)
      · replace h := h.2 c20
        refine q_iconst (v := 0) hX dX2_open_30 (by decide) ?_
        exact q_ret hX dX2_open_31 ⟨_, rfl, h⟩
set_option maxHeartbeats 4000000 in
set_option maxRecDepth 20000 in
theorem fl_X2_make {d : Nat} {ids : List Nat} {o : Nat} {a0 : Int32} {σ : St} {Q : St → Prop} (h_o : IO ids o 2) (H : ((5 ≤ (gi σ o 10) → Q σ) ∧ (¬ (5 ≤ (gi σ o 10)) → vp_in ((gi σ o 10) + 1) 6 ∧ vp_in (gi σ o 10) 6 ∧ EV d ids Y_X4_follow [.ref (rf (rf o 2) (Int32.toNatClampNeg ((gi σ o 10) + 1))), .ref (rf (rf o 2) (Int32.toNatClampNeg (gi σ o 10))), .int a0] σ (fun s4 => ∀ s5 : St, s5 = si s4 o 10 ((gi s4 o 10) + 1) → EV d ids Y_X2_weigh [.ref o] s5 (fun s6 => Q s6))))) : EV (d + 1) ids Y_X2_make [.ref o, .int a0] σ Q := by
  refine E_mk (by decide) (Nat.le_of_ble_eq_true rfl) (fun X hX => ?_)
  replace hX : Cok X ids 2 cX2_make none (d + 1) RX2 := hX
  show Wg X ids 2 _ 0 [(0, .ref o), (1, .int a0)] [] σ
  have h := H
  refine q_aload_n 0 hX dX2_make_0 rfl rfl ?_
  refine gf_X2_57 hX h_o dX2_make_1 ?_
  refine q_iconst (v := 5) hX dX2_make_4 (by decide) ?_
  refine q_icmp_ge 46 hX dX2_make_5 (by decide) (fun c1 => ?_) (fun c1 => ?_)
  · replace h := h.1 c1
    exact q_vret hX dX2_make_46 ⟨rfl, h⟩
  · replace h := h.2 c1
    refine q_aload_n 0 hX dX2_make_8 rfl rfl ?_
    refine gf_X2_11 hX h_o dX2_make_9 ?_
    refine q_aload_n 0 hX dX2_make_12 rfl rfl ?_
    refine gf_X2_57 hX h_o dX2_make_13 ?_
    refine q_iconst (v := 1) hX dX2_make_16 (by decide) ?_
    refine q_iadd hX dX2_make_17 ?_
    obtain ⟨b2, h⟩ := h
    refine q_aald (by decide) hX dX2_make_18 (rfO_2_2 h_o) b2 ?_
    refine q_aload_n 0 hX dX2_make_19 rfl rfl ?_
    refine gf_X2_11 hX h_o dX2_make_20 ?_
    refine q_aload_n 0 hX dX2_make_23 rfl rfl ?_
    refine gf_X2_57 hX h_o dX2_make_24 ?_
    obtain ⟨b3, h⟩ := h
    refine q_aald (by decide) hX dX2_make_27 (rfO_2_2 h_o) b3 ?_
    refine q_iload_n 1 hX dX2_make_28 rfl rfl ?_
    refine cl_X2_99 hX (rfA_5 (rfO_2_2 h_o) b2) dX2_make_29 (Nat.le_of_ble_eq_true rfl) h (fun s4 h => ?_)
    refine q_aload_n 0 hX dX2_make_32 rfl rfl ?_
    refine q_dup hX dX2_make_33 rfl ?_
    refine gf_X2_57 hX h_o dX2_make_34 ?_
    refine q_iconst (v := 1) hX dX2_make_37 (by decide) ?_
    refine q_iadd hX dX2_make_38 ?_
    refine pf_X2_57 hX h_o dX2_make_39 ?_
    refine Wg.nmS (fun s5 es5 => ?_)
    replace h := h s5 es5
    refine q_aload_n 0 hX dX2_make_42 rfl rfl ?_
    refine cl_X2_60 hX h_o dX2_make_43 (Nat.le_of_ble_eq_true rfl) h (fun s6 h => ?_)
    exact q_vret hX dX2_make_46 ⟨rfl, h⟩
set_option maxHeartbeats 4000000 in
set_option maxRecDepth 20000 in
theorem fl_X2_pleaAt {d : Nat} {ids : List Nat} {o : Nat} {a0 : Int32} {σ : St} {Q : Int32 → St → Prop} (h_o : IO ids o 2) (H : ∀ (P12 : St → Prop), (∀ (σ : St), (Q (-1) σ) → P12 σ) → ((a0 < 0 → P12 σ) ∧ (¬ (a0 < 0) → ((a0 < (gi σ o 10) → vp_in (a0 + 1) 6 ∧ Q (gi σ (rf (rf o 2) (Int32.toNatClampNeg (a0 + 1))) 0) σ) ∧ (¬ (a0 < (gi σ o 10)) → P12 σ))))) : EI (d + 1) ids Y_X2_pleaAt [.ref o, .int a0] σ Q := by
  refine E_mk (by decide) (Nat.le_of_ble_eq_true rfl) (fun X hX => ?_)
  replace hX : Cok X ids 2 cX2_pleaAt (some .int) (d + 1) RX2 := hX
  show Wg X ids 2 _ 0 [(0, .ref o), (1, .int a0)] [] σ
  have h := H (fun (σ : St) => (Wg X ids 2 (fun r σ1 => ∃ x, r = some (Value.int x) ∧ Q x σ1) 12 [] [] σ))
  replace h := h (fun σ h => by
    refine q_iconst (v := (-1)) hX dX2_pleaAt_12 (by decide) ?_
    refine q_goto 27 hX dX2_pleaAt_13 (by decide) ?_
    exact q_ret hX dX2_pleaAt_27 ⟨_, rfl, h⟩
    )
  refine q_iload_n 1 hX dX2_pleaAt_0 rfl rfl ?_
  refine q_if_lt 12 hX dX2_pleaAt_1 (by decide) (fun c1 => ?_) (fun c1 => ?_)
  · replace h := h.1 c1
    exact Wg.sub [] rfl (h)
  · replace h := h.2 c1
    refine q_iload_n 1 hX dX2_pleaAt_4 rfl rfl ?_
    refine q_aload_n 0 hX dX2_pleaAt_5 rfl rfl ?_
    refine gf_X2_57 hX h_o dX2_pleaAt_6 ?_
    refine q_icmp_lt 16 hX dX2_pleaAt_9 (by decide) (fun c2 => ?_) (fun c2 => ?_)
    · replace h := h.1 c2
      refine q_aload_n 0 hX dX2_pleaAt_16 rfl rfl ?_
      refine gf_X2_11 hX h_o dX2_pleaAt_17 ?_
      refine q_iload_n 1 hX dX2_pleaAt_20 rfl rfl ?_
      refine q_iconst (v := 1) hX dX2_pleaAt_21 (by decide) ?_
      refine q_iadd hX dX2_pleaAt_22 ?_
      obtain ⟨b3, h⟩ := h
      refine q_aald (by decide) hX dX2_pleaAt_23 (rfO_2_2 h_o) b3 ?_
      refine gf_X2_103 hX (rfA_5 (rfO_2_2 h_o) b3) dX2_pleaAt_24 ?_
      exact q_ret hX dX2_pleaAt_27 ⟨_, rfl, h⟩
    · replace h := h.2 c2
      exact Wg.sub [] rfl (h)
set_option maxHeartbeats 4000000 in
set_option maxRecDepth 20000 in
theorem fl_X2_endSort {d : Nat} {ids : List Nat} {o : Nat} {σ : St} {Q : Int32 → St → Prop} (h_o : IO ids o 2) (H : ER d ids Y_X2_now [.ref o] σ (fun r2 s1 => IO ids r2 4 ∧ EI d ids Y_X4_isClosed [.ref r2] s1 (fun x4 s3 => ((x4 = 0 → EI d ids Y_X2_open [.ref o] s3 (fun x7 s6 => ((¬ x7 = 0 → Q 0 s6) ∧ (x7 = 0 → Q 7 s6)))) ∧ (¬ x4 = 0 → ER d ids Y_X2_now [.ref o] s3 (fun r10 s9 => IO ids r10 4 ∧ Q (gi s9 r10 1) s9)))))) : EI (d + 1) ids Y_X2_endSort [.ref o] σ Q := by
  refine E_mk (by decide) (Nat.le_of_ble_eq_true rfl) (fun X hX => ?_)
  replace hX : Cok X ids 1 cX2_endSort (some .int) (d + 1) RX2 := hX
  show Wg X ids 1 _ 0 [(0, .ref o)] [] σ
  have h := H
  refine q_aload_n 0 hX dX2_endSort_0 rfl rfl ?_
  refine cl_X2_63 hX h_o dX2_endSort_1 (Nat.le_of_ble_eq_true rfl) h (fun r2 s1 h => ?_)
  obtain ⟨h_r2, h⟩ := h
  refine cl_X2_67 hX h_r2 dX2_endSort_4 (Nat.le_of_ble_eq_true rfl) h (fun x4 s3 h => ?_)
  refine q_if_eq 18 hX dX2_endSort_7 (by decide) (fun c5 => ?_) (fun c5 => ?_)
  · replace h := h.1 c5
    refine q_aload_n 0 hX dX2_endSort_18 rfl rfl ?_
    refine cl_X2_106 hX h_o dX2_endSort_19 (Nat.le_of_ble_eq_true rfl) h (fun x7 s6 h => ?_)
    refine q_if_ne 30 hX dX2_endSort_22 (by decide) (fun c8 => ?_) (fun c8 => ?_)
    · replace h := h.1 c8
      refine q_iconst (v := 0) hX dX2_endSort_30 (by decide) ?_
      exact q_ret hX dX2_endSort_31 ⟨_, rfl, h⟩
    · replace h := h.2 c8
      refine q_bipush (v := 7) hX dX2_endSort_25 (by decide) ?_
      refine q_goto 31 hX dX2_endSort_27 (by decide) ?_
      exact q_ret hX dX2_endSort_31 ⟨_, rfl, h⟩
  · replace h := h.2 c5
    refine q_aload_n 0 hX dX2_endSort_10 rfl rfl ?_
    refine cl_X2_63 hX h_o dX2_endSort_11 (Nat.le_of_ble_eq_true rfl) h (fun r10 s9 h => ?_)
    obtain ⟨h_r10, h⟩ := h
    refine gf_X2_83 hX h_r10 dX2_endSort_14 ?_
    exact q_ret hX dX2_endSort_17 ⟨_, rfl, h⟩
set_option maxHeartbeats 4000000 in
set_option maxRecDepth 20000 in
theorem fl_X2_countEnds {d : Nat} {ids : List Nat} {o : Nat} {a0 : Int32} {σ : St} {Q : Int32 → St → Prop} (h_o : IO ids o 2) (H : ∀ (P2 : Int32 → St → Prop), (∀ (v2 : Int32) (σ : St), (((7 < v2 → EV d ids Y_X2_walkEnds [.ref o, .int (gi σ o 10)] σ (fun s2 => vp_in a0 8 ∧ Q (gi s2 (rf o 4) (Int32.toNatClampNeg a0)) s2)) ∧ (¬ (7 < v2) → vp_in v2 8 ∧ ∀ s5 : St, s5 = si σ (rf o 4) (Int32.toNatClampNeg v2) 0 → ∀ x6 : Int32, x6 = v2 + 1 → P2 x6 s5))) → P2 v2 σ) → P2 0 σ) : EI (d + 1) ids Y_X2_countEnds [.ref o, .int a0] σ Q := by
  refine E_mk (by decide) (Nat.le_of_ble_eq_true rfl) (fun X hX => ?_)
  replace hX : Cok X ids 3 cX2_countEnds (some .int) (d + 1) RX2 := hX
  show Wg X ids 3 _ 0 [(0, .ref o), (1, .int a0)] [] σ
  have h := H (fun (v2 : Int32) (σ : St) => (Wg X ids 3 (fun r σ1 => ∃ x, r = some (Value.int x) ∧ Q x σ1) 2 [(0, .ref o), (1, .int a0), (2, .int v2)] [] σ))
  replace h := h (fun v2 σ h => by
    refine q_iload_n 2 hX dX2_countEnds_2 rfl rfl ?_
    refine q_bipush (v := 7) hX dX2_countEnds_3 (by decide) ?_
    refine q_icmp_gt 21 hX dX2_countEnds_5 (by decide) (fun c1 => ?_) (fun c1 => ?_)
    · replace h := h.1 c1
      refine q_aload_n 0 hX dX2_countEnds_21 rfl rfl ?_
      refine q_aload_n 0 hX dX2_countEnds_22 rfl rfl ?_
      refine gf_X2_57 hX h_o dX2_countEnds_23 ?_
      refine cl_X2_110 hX h_o dX2_countEnds_26 (Nat.le_of_ble_eq_true rfl) h (fun s2 h => ?_)
      refine q_aload_n 0 hX dX2_countEnds_29 rfl rfl ?_
      refine gf_X2_21 hX h_o dX2_countEnds_30 ?_
      refine q_iload_n 1 hX dX2_countEnds_33 rfl rfl ?_
      obtain ⟨b3, h⟩ := h
      refine q_iald hX dX2_countEnds_34 (rfO_2_4 h_o) b3 ?_
      exact q_ret hX dX2_countEnds_35 ⟨_, rfl, h⟩
    · replace h := h.2 c1
      refine q_aload_n 0 hX dX2_countEnds_8 rfl rfl ?_
      refine gf_X2_21 hX h_o dX2_countEnds_9 ?_
      refine q_iload_n 2 hX dX2_countEnds_12 rfl rfl ?_
      refine q_iconst (v := 0) hX dX2_countEnds_13 (by decide) ?_
      obtain ⟨b4, h⟩ := h
      refine q_iast hX dX2_countEnds_14 (rfO_2_4 h_o) b4 ?_
      refine Wg.nmS (fun s5 es5 => ?_)
      replace h := h s5 es5
      obtain ⟨x6, ex6⟩ : ∃ z : Int32, z = v2 + 1 := ⟨_, rfl⟩
      replace h := h x6 ex6
      refine q_iinc (v := x6) (L' := [(2, .int x6), (0, .ref o), (1, .int a0)]) 2 hX dX2_countEnds_15 rfl (by rw [ex6]; rfl) (by decide) rfl ?_
      refine q_goto 2 hX dX2_countEnds_18 (by decide) ?_
      exact Wg.sub [1, 2, 0] rfl (h)
    )
  refine q_iconst (v := 0) hX dX2_countEnds_0 (by decide) ?_
  refine q_istore_n (L' := [(2, .int 0), (0, .ref o), (1, .int a0)]) hX dX2_countEnds_1 rfl (by decide) rfl ?_
  exact Wg.sub [1, 2, 0] rfl (h)
set_option maxHeartbeats 4000000 in
set_option maxRecDepth 20000 in
theorem fl_X2_walkEnds {d : Nat} {ids : List Nat} {o : Nat} {a0 : Int32} {σ : St} {Q : St → Prop} (h_o : IO ids o 2) (H : ∀ (P14 : St → Prop) (P40 : Int32 → Int32 → St → Prop) (P78 : Int32 → Int32 → St → Prop), (∀ (σ : St), (∀ s1 : St, s1 = si σ (rf o 4) (Int32.toNatClampNeg 0) ((gi σ (rf o 4) (Int32.toNatClampNeg 0)) + 1) → EI d ids Y_X2_endSort [.ref o] s1 (fun x3 s2 => vp_in x3 8 ∧ vp_in x3 8 ∧ ∀ s6 : St, s6 = si s2 (rf o 4) (Int32.toNatClampNeg x3) ((gi s2 (rf o 4) (Int32.toNatClampNeg x3)) + 1) → Q s6)) → P14 σ) → (∀ (v2 : Int32) (v3 : Int32) (σ : St), (((14 ≤ v3 → Q σ) ∧ (¬ (14 ≤ v3) → ((¬ ((v2 >>> (v3 &&& 31)) &&& 1) = 1 → P78 v2 v3 σ) ∧ (((v2 >>> (v3 &&& 31)) &&& 1) = 1 → vp_in v3 14 ∧ EV d ids Y_X2_make [.ref o, .int (tPl (Int32.toNatClampNeg v3))] σ (fun s10 => EV d ids Y_X2_walkEnds [.ref o, .int (a0 + 1)] s10 (fun s11 => ∀ s12 : St, s12 = si s11 o 10 a0 → P78 v2 v3 s12))))))) → P40 v2 v3 σ) → (∀ (v2 : Int32) (v3 : Int32) (σ : St), (∀ x13 : Int32, x13 = v3 + 1 → P40 v2 x13 σ) → P78 v2 v3 σ) → EI d ids Y_X2_open [.ref o] σ (fun x15 s14 => ((x15 = 0 → P14 s14) ∧ (¬ x15 = 0 → ((a0 < 5 → P40 x15 0 s14) ∧ (¬ (a0 < 5) → P14 s14)))))) : EV (d + 1) ids Y_X2_walkEnds [.ref o, .int a0] σ Q := by
  refine E_mk (by decide) (Nat.le_of_ble_eq_true rfl) (fun X hX => ?_)
  replace hX : Cok X ids 4 cX2_walkEnds none (d + 1) RX2 := hX
  show Wg X ids 4 _ 0 [(0, .ref o), (1, .int a0)] [] σ
  have h := H (fun (σ : St) => (Wg X ids 4 (fun r σ1 => r = none ∧ Q σ1) 14 [(0, .ref o)] [] σ)) (fun (v2 : Int32) (v3 : Int32) (σ : St) => (Wg X ids 4 (fun r σ1 => r = none ∧ Q σ1) 40 [(0, .ref o), (1, .int a0), (2, .int v2), (3, .int v3)] [] σ)) (fun (v2 : Int32) (v3 : Int32) (σ : St) => (Wg X ids 4 (fun r σ1 => r = none ∧ Q σ1) 78 [(0, .ref o), (1, .int a0), (2, .int v2), (3, .int v3)] [] σ))
  replace h := h (fun σ h => by
    refine q_aload_n 0 hX dX2_walkEnds_14 rfl rfl ?_
    refine gf_X2_21 hX h_o dX2_walkEnds_15 ?_
    refine q_iconst (v := 0) hX dX2_walkEnds_18 (by decide) ?_
    refine q_dup2 hX dX2_walkEnds_19 rfl rfl ?_
    refine q_iald hX dX2_walkEnds_20 (rfO_2_4 h_o) (vp_dec (by decide)) ?_
    refine q_iconst (v := 1) hX dX2_walkEnds_21 (by decide) ?_
    refine q_iadd hX dX2_walkEnds_22 ?_
    refine q_iast hX dX2_walkEnds_23 (rfO_2_4 h_o) (vp_dec (by decide)) ?_
    refine Wg.nmS (fun s1 es1 => ?_)
    replace h := h s1 es1
    refine q_aload_n 0 hX dX2_walkEnds_24 rfl rfl ?_
    refine gf_X2_21 hX h_o dX2_walkEnds_25 ?_
    refine q_aload_n 0 hX dX2_walkEnds_28 rfl rfl ?_
    refine cl_X2_114 hX h_o dX2_walkEnds_29 (Nat.le_of_ble_eq_true rfl) h (fun x3 s2 h => ?_)
    refine q_dup2 hX dX2_walkEnds_32 rfl rfl ?_
    obtain ⟨b4, h⟩ := h
    refine q_iald hX dX2_walkEnds_33 (rfO_2_4 h_o) b4 ?_
    refine q_iconst (v := 1) hX dX2_walkEnds_34 (by decide) ?_
    refine q_iadd hX dX2_walkEnds_35 ?_
    obtain ⟨b5, h⟩ := h
    refine q_iast hX dX2_walkEnds_36 (rfO_2_4 h_o) b5 ?_
    refine Wg.nmS (fun s6 es6 => ?_)
    replace h := h s6 es6
    exact q_vret hX dX2_walkEnds_37 ⟨rfl, h⟩
    )
  replace h := h (fun v2 v3 σ h => by
    refine q_iload_n 3 hX dX2_walkEnds_40 rfl rfl ?_
    refine q_getsN (host := "PleasToIssue") 1001 hX dX2_walkEnds_41 (fun _ _ _ _ h => h.2.2.2.1) (fun _ _ _ _ h => h.1.1) ?_
    refine q_tlen (v := 14) hX dX2_walkEnds_44 (fun _ _ _ _ h => h.1.2) rfl ?_
    refine q_icmp_ge 84 hX dX2_walkEnds_45 (by decide) (fun c7 => ?_) (fun c7 => ?_)
    · replace h := h.1 c7
      exact q_vret hX dX2_walkEnds_84 ⟨rfl, h⟩
    · replace h := h.2 c7
      refine q_iload_n 2 hX dX2_walkEnds_48 rfl rfl ?_
      refine q_iload_n 3 hX dX2_walkEnds_49 rfl rfl ?_
      refine q_ishr hX dX2_walkEnds_50 ?_
      refine q_iconst (v := 1) hX dX2_walkEnds_51 (by decide) ?_
      refine q_iand hX dX2_walkEnds_52 ?_
      refine q_iconst (v := 1) hX dX2_walkEnds_53 (by decide) ?_
      refine q_icmp_ne 78 hX dX2_walkEnds_54 (by decide) (fun c8 => ?_) (fun c8 => ?_)
      · replace h := h.1 c8
        exact Wg.sub [0, 1, 2, 3] rfl (h)
      · replace h := h.2 c8
        refine q_aload_n 0 hX dX2_walkEnds_57 rfl rfl ?_
        refine q_getsN (host := "PleasToIssue") 1001 hX dX2_walkEnds_58 (fun _ _ _ _ h => h.2.2.2.1) (fun _ _ _ _ h => h.1.1) ?_
        refine q_iload_n 3 hX dX2_walkEnds_61 rfl rfl ?_
        obtain ⟨b9, h⟩ := h
        refine q_tald hX dX2_walkEnds_62 (fun _ _ _ _ h => h.1.2) b9 ?_
        refine cl_X2_120 hX h_o dX2_walkEnds_63 (Nat.le_of_ble_eq_true rfl) h (fun s10 h => ?_)
        refine q_aload_n 0 hX dX2_walkEnds_66 rfl rfl ?_
        refine q_iload_n 1 hX dX2_walkEnds_67 rfl rfl ?_
        refine q_iconst (v := 1) hX dX2_walkEnds_68 (by decide) ?_
        refine q_iadd hX dX2_walkEnds_69 ?_
        refine cl_X2_110 hX h_o dX2_walkEnds_70 (Nat.le_of_ble_eq_true rfl) h (fun s11 h => ?_)
        refine q_aload_n 0 hX dX2_walkEnds_73 rfl rfl ?_
        refine q_iload_n 1 hX dX2_walkEnds_74 rfl rfl ?_
        refine pf_X2_57 hX h_o dX2_walkEnds_75 ?_
        refine Wg.nmS (fun s12 es12 => ?_)
        replace h := h s12 es12
        exact Wg.sub [0, 1, 2, 3] rfl (h)
    )
  replace h := h (fun v2 v3 σ h => by
    obtain ⟨x13, ex13⟩ : ∃ z : Int32, z = v3 + 1 := ⟨_, rfl⟩
    replace h := h x13 ex13
    refine q_iinc (v := x13) (L' := [(3, .int x13), (0, .ref o), (1, .int a0), (2, .int v2)]) 3 hX dX2_walkEnds_78 rfl (by rw [ex13]; rfl) (by decide) rfl ?_
    refine q_goto 40 hX dX2_walkEnds_81 (by decide) ?_
    exact Wg.sub [1, 2, 3, 0] rfl (h)
    )
  refine q_aload_n 0 hX dX2_walkEnds_0 rfl rfl ?_
  refine cl_X2_106 hX h_o dX2_walkEnds_1 (Nat.le_of_ble_eq_true rfl) h (fun x15 s14 h => ?_)
  refine q_istore_n (L' := [(2, .int x15), (0, .ref o), (1, .int a0)]) hX dX2_walkEnds_4 rfl (by decide) rfl ?_
  refine q_iload_n 0 hX dX2_walkEnds_5 rfl rfl ?_
  refine q_if_eq 14 hX dX2_walkEnds_6 (by decide) (fun c16 => ?_) (fun c16 => ?_)
  · replace h := h.1 c16
    exact Wg.sub [1] rfl (h)
  · replace h := h.2 c16
    refine q_iload_n 2 hX dX2_walkEnds_9 rfl rfl ?_
    refine q_iconst (v := 5) hX dX2_walkEnds_10 (by decide) ?_
    refine q_icmp_lt 38 hX dX2_walkEnds_11 (by decide) (fun c17 => ?_) (fun c17 => ?_)
    · replace h := h.1 c17
      refine q_iconst (v := 0) hX dX2_walkEnds_38 (by decide) ?_
      refine q_istore_n (L' := [(3, .int 0), (2, .int x15), (0, .ref o), (1, .int a0)]) hX dX2_walkEnds_39 rfl (by decide) rfl ?_
      exact Wg.sub [2, 3, 1, 0] rfl (h)
    · replace h := h.2 c17
      exact Wg.sub [1] rfl (h)
set_option maxHeartbeats 4000000 in
set_option maxRecDepth 20000 in
theorem fl_X2_pleaOfRow {d : Nat} {ids : List Nat} {o : Nat} {a0 : Int32} {a1 : Int32} {σ : St} {Q : Int32 → St → Prop} (h_o : IO ids o 2) (H : ∀ (P49 : Int32 → Int32 → St → Prop), (∀ (v3 : Int32) (t0 : Int32) (σ : St), (∀ s1 : St, s1 = si σ o 10 v3 → Q t0 s1) → P49 v3 t0 σ) → ∀ x2 : Int32, x2 = (gi σ o 10) → ∀ s3 : St, s3 = si σ o 9 a0 → EI d ids Y_X2_seekRow [.ref o, .int (gi s3 o 10)] s3 (fun x5 s4 => ((¬ x5 = 0 → ((0 ≤ a1 → EI d ids Y_X2_pleaAt [.ref o, .int (x2 + a1)] s4 (fun x9 s8 => P49 x2 x9 s8)) ∧ (¬ (0 ≤ a1) → P49 x2 ((gi s4 o 10) - x2) s4))) ∧ (x5 = 0 → P49 x2 (-1) s4)))) : EI (d + 1) ids Y_X2_pleaOfRow [.ref o, .int a0, .int a1] σ Q := by
  refine E_mk (by decide) (Nat.le_of_ble_eq_true rfl) (fun X hX => ?_)
  replace hX : Cok X ids 6 cX2_pleaOfRow (some .int) (d + 1) RX2 := hX
  show Wg X ids 6 _ 0 [(0, .ref o), (1, .int a0), (2, .int a1)] [] σ
  have h := H (fun (v3 : Int32) (t0 : Int32) (σ : St) => (Wg X ids 6 (fun r σ1 => ∃ x, r = some (Value.int x) ∧ Q x σ1) 49 [(0, .ref o), (3, .int v3)] [.int t0] σ))
  replace h := h (fun v3 t0 σ h => by
    refine q_istore (L' := [(5, .int t0), (0, .ref o), (3, .int v3)]) hX dX2_pleaOfRow_49 (by decide) rfl ?_
    refine q_aload_n 1 hX dX2_pleaOfRow_51 rfl rfl ?_
    refine q_iload_n 2 hX dX2_pleaOfRow_52 rfl rfl ?_
    refine pf_X2_57 hX h_o dX2_pleaOfRow_53 ?_
    refine Wg.nmS (fun s1 es1 => ?_)
    replace h := h s1 es1
    refine q_iload 0 hX dX2_pleaOfRow_56 rfl ?_
    exact q_ret hX dX2_pleaOfRow_58 ⟨_, rfl, h⟩
    )
  refine q_aload_n 0 hX dX2_pleaOfRow_0 rfl rfl ?_
  refine gf_X2_57 hX h_o dX2_pleaOfRow_1 ?_
  refine Wg.nmI (fun x2 ex2 => ?_)
  replace h := h x2 ex2
  refine q_istore_n (L' := [(3, .int x2), (0, .ref o), (1, .int a0), (2, .int a1)]) hX dX2_pleaOfRow_4 rfl (by decide) rfl ?_
  refine q_aload_n 1 hX dX2_pleaOfRow_5 rfl rfl ?_
  refine q_iload_n 2 hX dX2_pleaOfRow_6 rfl rfl ?_
  refine pf_X2_123 hX h_o dX2_pleaOfRow_7 ?_
  refine Wg.nmS (fun s3 es3 => ?_)
  replace h := h s3 es3
  refine q_aload_n 1 hX dX2_pleaOfRow_10 rfl rfl ?_
  refine q_aload_n 1 hX dX2_pleaOfRow_11 rfl rfl ?_
  refine gf_X2_57 hX h_o dX2_pleaOfRow_12 ?_
  refine cl_X2_126 hX h_o dX2_pleaOfRow_15 (Nat.le_of_ble_eq_true rfl) h (fun x5 s4 h => ?_)
  refine q_istore (L' := [(4, .int x5), (3, .int x2), (0, .ref o), (1, .int a0), (2, .int a1)]) hX dX2_pleaOfRow_18 (by decide) rfl ?_
  refine q_iload 0 hX dX2_pleaOfRow_20 rfl ?_
  refine q_if_ne 29 hX dX2_pleaOfRow_22 (by decide) (fun c6 => ?_) (fun c6 => ?_)
  · replace h := h.1 c6
    refine q_iload_n 4 hX dX2_pleaOfRow_29 rfl rfl ?_
    refine q_if_ge 42 hX dX2_pleaOfRow_30 (by decide) (fun c7 => ?_) (fun c7 => ?_)
    · replace h := h.1 c7
      refine q_aload_n 2 hX dX2_pleaOfRow_42 rfl rfl ?_
      refine q_iload_n 1 hX dX2_pleaOfRow_43 rfl rfl ?_
      refine q_iload_n 4 hX dX2_pleaOfRow_44 rfl rfl ?_
      refine q_iadd hX dX2_pleaOfRow_45 ?_
      refine cl_X2_130 hX h_o dX2_pleaOfRow_46 (Nat.le_of_ble_eq_true rfl) h (fun x9 s8 h => ?_)
      exact Wg.sub [2, 1] rfl (h)
    · replace h := h.2 c7
      refine q_aload_n 2 hX dX2_pleaOfRow_33 rfl rfl ?_
      refine gf_X2_57 hX h_o dX2_pleaOfRow_34 ?_
      refine q_iload_n 1 hX dX2_pleaOfRow_37 rfl rfl ?_
      refine q_isub hX dX2_pleaOfRow_38 ?_
      refine q_goto 49 hX dX2_pleaOfRow_39 (by decide) ?_
      exact Wg.sub [2, 1] rfl (h)
  · replace h := h.2 c6
    refine q_iconst (v := (-1)) hX dX2_pleaOfRow_25 (by decide) ?_
    refine q_goto 49 hX dX2_pleaOfRow_26 (by decide) ?_
    exact Wg.sub [2, 1] rfl (h)
set_option maxHeartbeats 4000000 in
set_option maxRecDepth 20000 in
theorem fl_X2_seekRow {d : Nat} {ids : List Nat} {o : Nat} {a0 : Int32} {σ : St} {Q : Int32 → St → Prop} (h_o : IO ids o 2) (H : ∀ (P14 : St → Prop) (P39 : Int32 → Int32 → St → Prop) (P82 : Int32 → Int32 → St → Prop), (∀ (σ : St), (∀ s1 : St, s1 = si σ o 9 ((gi σ o 9) - 1) → ((0 ≤ (gi s1 o 9) → Q 0 s1) ∧ (¬ (0 ≤ (gi s1 o 9)) → Q 1 s1))) → P14 σ) → (∀ (v2 : Int32) (v3 : Int32) (σ : St), (((14 ≤ v3 → Q 0 σ) ∧ (¬ (14 ≤ v3) → ((¬ ((v2 >>> (v3 &&& 31)) &&& 1) = 1 → P82 v2 v3 σ) ∧ (((v2 >>> (v3 &&& 31)) &&& 1) = 1 → vp_in v3 14 ∧ EV d ids Y_X2_make [.ref o, .int (tPl (Int32.toNatClampNeg v3))] σ (fun s6 => EI d ids Y_X2_seekRow [.ref o, .int (a0 + 1)] s6 (fun x8 s7 => ((x8 = 0 → ∀ s10 : St, s10 = si s7 o 10 a0 → P82 v2 v3 s10) ∧ (¬ x8 = 0 → Q 1 s7))))))))) → P39 v2 v3 σ) → (∀ (v2 : Int32) (v3 : Int32) (σ : St), (∀ x11 : Int32, x11 = v3 + 1 → P39 v2 x11 σ) → P82 v2 v3 σ) → EI d ids Y_X2_open [.ref o] σ (fun x13 s12 => ((x13 = 0 → P14 s12) ∧ (¬ x13 = 0 → ((a0 < 5 → P39 x13 0 s12) ∧ (¬ (a0 < 5) → P14 s12)))))) : EI (d + 1) ids Y_X2_seekRow [.ref o, .int a0] σ Q := by
  refine E_mk (by decide) (Nat.le_of_ble_eq_true rfl) (fun X hX => ?_)
  replace hX : Cok X ids 4 cX2_seekRow (some .boolean) (d + 1) RX2 := hX
  show Wg X ids 4 _ 0 [(0, .ref o), (1, .int a0)] [] σ
  have h := H (fun (σ : St) => (Wg X ids 4 (fun r σ1 => ∃ x, r = some (Value.int x) ∧ Q x σ1) 14 [(0, .ref o)] [] σ)) (fun (v2 : Int32) (v3 : Int32) (σ : St) => (Wg X ids 4 (fun r σ1 => ∃ x, r = some (Value.int x) ∧ Q x σ1) 39 [(0, .ref o), (1, .int a0), (2, .int v2), (3, .int v3)] [] σ)) (fun (v2 : Int32) (v3 : Int32) (σ : St) => (Wg X ids 4 (fun r σ1 => ∃ x, r = some (Value.int x) ∧ Q x σ1) 82 [(0, .ref o), (1, .int a0), (2, .int v2), (3, .int v3)] [] σ))
  replace h := h (fun σ h => by
    refine q_aload_n 0 hX dX2_seekRow_14 rfl rfl ?_
    refine q_dup hX dX2_seekRow_15 rfl ?_
    refine gf_X2_123 hX h_o dX2_seekRow_16 ?_
    refine q_iconst (v := 1) hX dX2_seekRow_19 (by decide) ?_
    refine q_isub hX dX2_seekRow_20 ?_
    refine pf_X2_123 hX h_o dX2_seekRow_21 ?_
    refine Wg.nmS (fun s1 es1 => ?_)
    replace h := h s1 es1
    refine q_aload_n 0 hX dX2_seekRow_24 rfl rfl ?_
    refine gf_X2_123 hX h_o dX2_seekRow_25 ?_
    refine q_if_ge 35 hX dX2_seekRow_28 (by decide) (fun c2 => ?_) (fun c2 => ?_)
    · replace h := h.1 c2
      refine q_iconst (v := 0) hX dX2_seekRow_35 (by decide) ?_
      exact q_zret hX dX2_seekRow_36 (by decide) ⟨_, rfl, h⟩
    · replace h := h.2 c2
      refine q_iconst (v := 1) hX dX2_seekRow_31 (by decide) ?_
      refine q_goto 36 hX dX2_seekRow_32 (by decide) ?_
      exact q_zret hX dX2_seekRow_36 (by decide) ⟨_, rfl, h⟩
    )
  replace h := h (fun v2 v3 σ h => by
    refine q_iload_n 3 hX dX2_seekRow_39 rfl rfl ?_
    refine q_getsN (host := "PleasToIssue") 1001 hX dX2_seekRow_40 (fun _ _ _ _ h => h.2.2.2.1) (fun _ _ _ _ h => h.1.1) ?_
    refine q_tlen (v := 14) hX dX2_seekRow_43 (fun _ _ _ _ h => h.1.2) rfl ?_
    refine q_icmp_ge 88 hX dX2_seekRow_44 (by decide) (fun c3 => ?_) (fun c3 => ?_)
    · replace h := h.1 c3
      refine q_iconst (v := 0) hX dX2_seekRow_88 (by decide) ?_
      exact q_zret hX dX2_seekRow_89 (by decide) ⟨_, rfl, h⟩
    · replace h := h.2 c3
      refine q_iload_n 2 hX dX2_seekRow_47 rfl rfl ?_
      refine q_iload_n 3 hX dX2_seekRow_48 rfl rfl ?_
      refine q_ishr hX dX2_seekRow_49 ?_
      refine q_iconst (v := 1) hX dX2_seekRow_50 (by decide) ?_
      refine q_iand hX dX2_seekRow_51 ?_
      refine q_iconst (v := 1) hX dX2_seekRow_52 (by decide) ?_
      refine q_icmp_ne 82 hX dX2_seekRow_53 (by decide) (fun c4 => ?_) (fun c4 => ?_)
      · replace h := h.1 c4
        exact Wg.sub [0, 1, 2, 3] rfl (h)
      · replace h := h.2 c4
        refine q_aload_n 0 hX dX2_seekRow_56 rfl rfl ?_
        refine q_getsN (host := "PleasToIssue") 1001 hX dX2_seekRow_57 (fun _ _ _ _ h => h.2.2.2.1) (fun _ _ _ _ h => h.1.1) ?_
        refine q_iload_n 3 hX dX2_seekRow_60 rfl rfl ?_
        obtain ⟨b5, h⟩ := h
        refine q_tald hX dX2_seekRow_61 (fun _ _ _ _ h => h.1.2) b5 ?_
        refine cl_X2_120 hX h_o dX2_seekRow_62 (Nat.le_of_ble_eq_true rfl) h (fun s6 h => ?_)
        refine q_aload_n 0 hX dX2_seekRow_65 rfl rfl ?_
        refine q_iload_n 1 hX dX2_seekRow_66 rfl rfl ?_
        refine q_iconst (v := 1) hX dX2_seekRow_67 (by decide) ?_
        refine q_iadd hX dX2_seekRow_68 ?_
        refine cl_X2_126 hX h_o dX2_seekRow_69 (Nat.le_of_ble_eq_true rfl) h (fun x8 s7 h => ?_)
        refine q_if_eq 77 hX dX2_seekRow_72 (by decide) (fun c9 => ?_) (fun c9 => ?_)
        · replace h := h.1 c9
          refine q_aload_n 0 hX dX2_seekRow_77 rfl rfl ?_
          refine q_iload_n 1 hX dX2_seekRow_78 rfl rfl ?_
          refine pf_X2_57 hX h_o dX2_seekRow_79 ?_
          refine Wg.nmS (fun s10 es10 => ?_)
          replace h := h s10 es10
          exact Wg.sub [0, 1, 2, 3] rfl (h)
        · replace h := h.2 c9
          refine q_iconst (v := 1) hX dX2_seekRow_75 (by decide) ?_
          exact q_zret hX dX2_seekRow_76 (by decide) ⟨_, rfl, h⟩
    )
  replace h := h (fun v2 v3 σ h => by
    obtain ⟨x11, ex11⟩ : ∃ z : Int32, z = v3 + 1 := ⟨_, rfl⟩
    replace h := h x11 ex11
    refine q_iinc (v := x11) (L' := [(3, .int x11), (0, .ref o), (1, .int a0), (2, .int v2)]) 3 hX dX2_seekRow_82 rfl (by rw [ex11]; rfl) (by decide) rfl ?_
    refine q_goto 39 hX dX2_seekRow_85 (by decide) ?_
    exact Wg.sub [1, 2, 3, 0] rfl (h)
    )
  refine q_aload_n 0 hX dX2_seekRow_0 rfl rfl ?_
  refine cl_X2_106 hX h_o dX2_seekRow_1 (Nat.le_of_ble_eq_true rfl) h (fun x13 s12 h => ?_)
  refine q_istore_n (L' := [(2, .int x13), (0, .ref o), (1, .int a0)]) hX dX2_seekRow_4 rfl (by decide) rfl ?_
  refine q_iload_n 0 hX dX2_seekRow_5 rfl rfl ?_
  refine q_if_eq 14 hX dX2_seekRow_6 (by decide) (fun c14 => ?_) (fun c14 => ?_)
  · replace h := h.1 c14
    exact Wg.sub [1] rfl (h)
  · replace h := h.2 c14
    refine q_iload_n 2 hX dX2_seekRow_9 rfl rfl ?_
    refine q_iconst (v := 5) hX dX2_seekRow_10 (by decide) ?_
    refine q_icmp_lt 37 hX dX2_seekRow_11 (by decide) (fun c15 => ?_) (fun c15 => ?_)
    · replace h := h.1 c15
      refine q_iconst (v := 0) hX dX2_seekRow_37 (by decide) ?_
      refine q_istore_n (L' := [(3, .int 0), (2, .int x13), (0, .ref o), (1, .int a0)]) hX dX2_seekRow_38 rfl (by decide) rfl ?_
      exact Wg.sub [2, 3, 1, 0] rfl (h)
    · replace h := h.2 c15
      exact Wg.sub [1] rfl (h)
set_option maxHeartbeats 4000000 in
set_option maxRecDepth 20000 in
theorem fl_X2_worthIn {d : Nat} {ids : List Nat} {o : Nat} {a0 : Nat} {σ : St} {Q : Int32 → St → Prop} (h_o : IO ids o 2) (h_a0 : IO ids a0 1) (H : ∀ (P130 : Int32 → Int32 → St → Prop) (P135 : Int32 → Int32 → St → Prop), (∀ (v3 : Int32) (t0 : Int32) (σ : St), (P135 v3 t0 σ) → P130 v3 t0 σ) → (∀ (v3 : Int32) (v4 : Int32) (σ : St), (((¬ v3 = 0 → Q (20 - v4) σ) ∧ (v3 = 0 → Q v4 σ))) → P135 v3 v4 σ) → ER d ids Y_X2_now [.ref o] σ (fun r3 s2 => IO ids r3 4 ∧ ∀ x4 : Int32, x4 = (gi s2 r3 4) → ∀ x5 : Int32, x5 = (gi s2 r3 1) → ((x5 = 1 → vp_in x4 3 ∧ vp_in (gi s2 r3 3) 5 ∧ vp_in (1 - x4) 3 ∧ vp_in (gi s2 r3 3) 5 ∧ ∀ x11 : Int32, x11 = ((10 + (gi s2 (rf (rf a0 1) (Int32.toNatClampNeg x4)) (Int32.toNatClampNeg (gi s2 r3 3)))) - (gi s2 (rf (rf a0 1) (Int32.toNatClampNeg (1 - x4))) (Int32.toNatClampNeg (gi s2 r3 3)))) → P135 x4 x11 s2) ∧ (x5 = 2 → P135 x4 0 s2) ∧ (x5 = 3 → vp_in (gi s2 r3 3) 5 ∧ ∀ x13 : Int32, x13 = (20 - (2 * (gi s2 (rf (rf a0 1) (Int32.toNatClampNeg 2)) (Int32.toNatClampNeg (gi s2 r3 3))))) → P135 x4 x13 s2) ∧ (x5 = 4 → (((gi s2 o 10) ≤ 0 → P130 x4 0 s2) ∧ (¬ ((gi s2 o 10) ≤ 0) → vp_in ((gi s2 o 10) - 1) 6 ∧ P130 x4 (20 * (gi s2 (rf (rf o 2) (Int32.toNatClampNeg ((gi s2 o 10) - 1))) 2)) s2))) ∧ (¬ x5 = 1 → ¬ x5 = 2 → ¬ x5 = 3 → ¬ x5 = 4 → P135 x4 0 s2)))) : EI (d + 1) ids Y_X2_worthIn [.ref o, .ref a0] σ Q := by
  refine E_mk (by decide) (Nat.le_of_ble_eq_true rfl) (fun X hX => ?_)
  replace hX : Cok X ids 5 cX2_worthIn (some .int) (d + 1) RX2 := hX
  show Wg X ids 5 _ 0 [(0, .ref o), (1, .ref a0)] [] σ
  have h := H (fun (v3 : Int32) (t0 : Int32) (σ : St) => (Wg X ids 5 (fun r σ1 => ∃ x, r = some (Value.int x) ∧ Q x σ1) 130 [(3, .int v3)] [.int t0] σ)) (fun (v3 : Int32) (v4 : Int32) (σ : St) => (Wg X ids 5 (fun r σ1 => ∃ x, r = some (Value.int x) ∧ Q x σ1) 135 [(3, .int v3), (4, .int v4)] [] σ))
  replace h := h (fun v3 t0 σ h => by
    refine q_istore (L' := [(4, .int t0), (3, .int v3)]) hX dX2_worthIn_130 (by decide) rfl ?_
    refine q_goto 135 hX dX2_worthIn_132 (by decide) ?_
    exact Wg.sub [1, 0] rfl (h)
    )
  replace h := h (fun v3 v4 σ h => by
    refine q_iload_n 0 hX dX2_worthIn_135 rfl rfl ?_
    refine q_if_ne 144 hX dX2_worthIn_136 (by decide) (fun c1 => ?_) (fun c1 => ?_)
    · replace h := h.1 c1
      refine q_bipush (v := 20) hX dX2_worthIn_144 (by decide) ?_
      refine q_iload 1 hX dX2_worthIn_146 rfl ?_
      refine q_isub hX dX2_worthIn_148 ?_
      exact q_ret hX dX2_worthIn_149 ⟨_, rfl, h⟩
    · replace h := h.2 c1
      refine q_iload 1 hX dX2_worthIn_139 rfl ?_
      refine q_goto 149 hX dX2_worthIn_141 (by decide) ?_
      exact q_ret hX dX2_worthIn_149 ⟨_, rfl, h⟩
    )
  refine q_aload_n 0 hX dX2_worthIn_0 rfl rfl ?_
  refine cl_X2_63 hX h_o dX2_worthIn_1 (Nat.le_of_ble_eq_true rfl) h (fun r3 s2 h => ?_)
  obtain ⟨h_r3, h⟩ := h
  refine q_astore_n (L' := [(2, .ref r3), (0, .ref o), (1, .ref a0)]) hX dX2_worthIn_4 rfl (by decide) rfl ?_
  refine q_aload_n 0 hX dX2_worthIn_5 rfl rfl ?_
  refine gf_X2_31 hX h_r3 dX2_worthIn_6 ?_
  refine Wg.nmI (fun x4 ex4 => ?_)
  replace h := h x4 ex4
  refine q_istore_n (L' := [(3, .int x4), (2, .ref r3), (0, .ref o), (1, .ref a0)]) hX dX2_worthIn_9 rfl (by decide) rfl ?_
  refine q_iconst (v := 0) hX dX2_worthIn_10 (by decide) ?_
  refine q_istore (L' := [(4, .int 0), (3, .int x4), (2, .ref r3), (0, .ref o), (1, .ref a0)]) hX dX2_worthIn_11 (by decide) rfl ?_
  refine q_aload_n 2 hX dX2_worthIn_13 rfl rfl ?_
  refine gf_X2_83 hX h_r3 dX2_worthIn_14 ?_
  refine Wg.nmI (fun x5 ex5 => ?_)
  replace h := h x5 ex5
  by_cases c6_0 : x5 = 1
  · refine q_tableIn (off := 31) 48 hX dX2_worthIn_17 (by rw [c6_0]; decide) (by rw [c6_0]; decide) (by first | (rw [c6_0]; done) | (rw [c6_0]; rfl)) (by decide) ?_
    replace h := h.1 c6_0
    refine q_bipush (v := 10) hX dX2_worthIn_48 (by decide) ?_
    refine q_aload_n 4 hX dX2_worthIn_50 rfl rfl ?_
    refine gf_X2_133 hX h_a0 dX2_worthIn_51 ?_
    refine q_iload_n 1 hX dX2_worthIn_54 rfl rfl ?_
    obtain ⟨b7, h⟩ := h
    refine q_aald (by decide) hX dX2_worthIn_55 (rfO_1_1 h_a0) b7 ?_
    refine q_aload_n 2 hX dX2_worthIn_56 rfl rfl ?_
    refine gf_X2_71 hX h_r3 dX2_worthIn_57 ?_
    obtain ⟨b8, h⟩ := h
    refine q_iald hX dX2_worthIn_60 (rfA_6 (rfO_1_1 h_a0) b7) b8 ?_
    refine q_iadd hX dX2_worthIn_61 ?_
    refine q_aload_n 4 hX dX2_worthIn_62 rfl rfl ?_
    refine gf_X2_133 hX h_a0 dX2_worthIn_63 ?_
    refine q_iconst (v := 1) hX dX2_worthIn_66 (by decide) ?_
    refine q_iload_n 1 hX dX2_worthIn_67 rfl rfl ?_
    refine q_isub hX dX2_worthIn_68 ?_
    obtain ⟨b9, h⟩ := h
    refine q_aald (by decide) hX dX2_worthIn_69 (rfO_1_1 h_a0) b9 ?_
    refine q_aload_n 2 hX dX2_worthIn_70 rfl rfl ?_
    refine gf_X2_71 hX h_r3 dX2_worthIn_71 ?_
    obtain ⟨b10, h⟩ := h
    refine q_iald hX dX2_worthIn_74 (rfA_6 (rfO_1_1 h_a0) b9) b10 ?_
    refine q_isub hX dX2_worthIn_75 ?_
    refine Wg.nmI (fun x11 ex11 => ?_)
    replace h := h x11 ex11
    refine q_istore (L' := [(4, .int x11), (3, .int x4), (2, .ref r3), (0, .ref o), (1, .ref a0)]) hX dX2_worthIn_76 (by decide) rfl ?_
    refine q_goto 135 hX dX2_worthIn_78 (by decide) ?_
    exact Wg.sub [1, 0] rfl (h)
  by_cases c6_1 : x5 = 2
  · refine q_tableIn (off := 118) 135 hX dX2_worthIn_17 (by rw [c6_1]; decide) (by rw [c6_1]; decide) (by first | (rw [c6_1]; done) | (rw [c6_1]; rfl)) (by decide) ?_
    replace h := h.2.1 c6_1
    exact Wg.sub [1, 0] rfl (h)
  by_cases c6_2 : x5 = 3
  · refine q_tableIn (off := 64) 81 hX dX2_worthIn_17 (by rw [c6_2]; decide) (by rw [c6_2]; decide) (by first | (rw [c6_2]; done) | (rw [c6_2]; rfl)) (by decide) ?_
    replace h := h.2.2.1 c6_2
    refine q_bipush (v := 20) hX dX2_worthIn_81 (by decide) ?_
    refine q_iconst (v := 2) hX dX2_worthIn_83 (by decide) ?_
    refine q_aload_n 4 hX dX2_worthIn_84 rfl rfl ?_
    refine gf_X2_133 hX h_a0 dX2_worthIn_85 ?_
    refine q_iconst (v := 2) hX dX2_worthIn_88 (by decide) ?_
    refine q_aald (by decide) hX dX2_worthIn_89 (rfO_1_1 h_a0) (vp_dec (by decide)) ?_
    refine q_aload_n 2 hX dX2_worthIn_90 rfl rfl ?_
    refine gf_X2_71 hX h_r3 dX2_worthIn_91 ?_
    obtain ⟨b12, h⟩ := h
    refine q_iald hX dX2_worthIn_94 (rfA_6 (rfO_1_1 h_a0) (vp_dec (by decide))) b12 ?_
    refine q_imul hX dX2_worthIn_95 ?_
    refine q_isub hX dX2_worthIn_96 ?_
    refine Wg.nmI (fun x13 ex13 => ?_)
    replace h := h x13 ex13
    refine q_istore (L' := [(4, .int x13), (3, .int x4), (2, .ref r3), (0, .ref o), (1, .ref a0)]) hX dX2_worthIn_97 (by decide) rfl ?_
    refine q_goto 135 hX dX2_worthIn_99 (by decide) ?_
    exact Wg.sub [1, 0] rfl (h)
  by_cases c6_3 : x5 = 4
  · refine q_tableIn (off := 85) 102 hX dX2_worthIn_17 (by rw [c6_3]; decide) (by rw [c6_3]; decide) (by first | (rw [c6_3]; done) | (rw [c6_3]; rfl)) (by decide) ?_
    replace h := h.2.2.2.1 c6_3
    refine q_aload_n 3 hX dX2_worthIn_102 rfl rfl ?_
    refine gf_X2_57 hX h_o dX2_worthIn_103 ?_
    refine q_if_le 129 hX dX2_worthIn_106 (by decide) (fun c14 => ?_) (fun c14 => ?_)
    · replace h := h.1 c14
      refine q_iconst (v := 0) hX dX2_worthIn_129 (by decide) ?_
      exact Wg.sub [1] rfl (h)
    · replace h := h.2 c14
      refine q_bipush (v := 20) hX dX2_worthIn_109 (by decide) ?_
      refine q_aload_n 3 hX dX2_worthIn_111 rfl rfl ?_
      refine gf_X2_11 hX h_o dX2_worthIn_112 ?_
      refine q_aload_n 3 hX dX2_worthIn_115 rfl rfl ?_
      refine gf_X2_57 hX h_o dX2_worthIn_116 ?_
      refine q_iconst (v := 1) hX dX2_worthIn_119 (by decide) ?_
      refine q_isub hX dX2_worthIn_120 ?_
      obtain ⟨b15, h⟩ := h
      refine q_aald (by decide) hX dX2_worthIn_121 (rfO_2_2 h_o) b15 ?_
      refine gf_X2_139 hX (rfA_5 (rfO_2_2 h_o) b15) dX2_worthIn_122 ?_
      refine q_imul hX dX2_worthIn_125 ?_
      refine q_goto 130 hX dX2_worthIn_126 (by decide) ?_
      exact Wg.sub [1] rfl (h)
  refine q_tableOut 135 hX dX2_worthIn_17 (by have e0 := ne_toInt (k := 1) c6_0 (by decide); have e1 := ne_toInt (k := 2) c6_1 (by decide); have e2 := ne_toInt (k := 3) c6_2 (by decide); have e3 := ne_toInt (k := 4) c6_3 (by decide); omega) (by decide) ?_
  replace h := h.2.2.2.2 c6_0 c6_1 c6_2 c6_3
  exact Wg.sub [1, 0] rfl (h)
set_option maxHeartbeats 4000000 in
set_option maxRecDepth 20000 in
theorem fl_X2_valueIn {d : Nat} {ids : List Nat} {o : Nat} {a0 : Nat} {σ : St} {Q : Int32 → St → Prop} (h_o : IO ids o 2) (h_a0 : IO ids a0 1) (H : EI d ids Y_X2_valueFrom [.ref o, .ref a0, .int (-1), .int 21, .int (gi σ o 10)] σ (fun x2 s1 => Q x2 s1)) : EI (d + 1) ids Y_X2_valueIn [.ref o, .ref a0] σ Q := by
  refine E_mk (by decide) (Nat.le_of_ble_eq_true rfl) (fun X hX => ?_)
  replace hX : Cok X ids 2 cX2_valueIn (some .int) (d + 1) RX2 := hX
  show Wg X ids 2 _ 0 [(0, .ref o), (1, .ref a0)] [] σ
  have h := H
  refine q_aload_n 0 hX dX2_valueIn_0 rfl rfl ?_
  refine q_aload_n 1 hX dX2_valueIn_1 rfl rfl ?_
  refine q_iconst (v := (-1)) hX dX2_valueIn_2 (by decide) ?_
  refine q_bipush (v := 21) hX dX2_valueIn_3 (by decide) ?_
  refine q_aload_n 0 hX dX2_valueIn_5 rfl rfl ?_
  refine gf_X2_57 hX h_o dX2_valueIn_6 ?_
  refine cl_X2_142 hX h_o dX2_valueIn_9 (Nat.le_of_ble_eq_true rfl) h (fun x2 s1 h => ?_)
  exact q_ret hX dX2_valueIn_12 ⟨_, rfl, h⟩
set_option maxHeartbeats 4000000 in
set_option maxRecDepth 20000 in
theorem fl_X2_valueFrom {d : Nat} {ids : List Nat} {o : Nat} {a0 : Nat} {a1 : Int32} {a2 : Int32} {a3 : Int32} {σ : St} {Q : Int32 → St → Prop} (h_o : IO ids o 2) (h_a0 : IO ids a0 1) (H : ∀ (P17 : St → Prop) (P45 : Int32 → Nat → Int32 → St → Prop) (P58 : Int32 → Nat → Int32 → Int32 → St → Prop) (P69 : Int32 → Nat → Int32 → Int32 → Int32 → Int32 → Int32 → St → Prop) (P151 : Int32 → Nat → Int32 → Int32 → Int32 → Int32 → Int32 → St → Prop) (P166 : Int32 → Nat → Int32 → Int32 → Int32 → Int32 → Int32 → St → Prop) (P192 : Int32 → Nat → Int32 → Int32 → Int32 → Int32 → Int32 → St → Prop), (∀ (σ : St), (EI d ids Y_X2_worthIn [.ref o, .ref a0] σ (fun x2 s1 => Q x2 s1)) → P17 σ) → (∀ (v5 : Int32) (v6 : Nat) (t0 : Int32) (σ : St), (IO ids v6 4 → ((t0 = 0 → P58 v5 v6 t0 21 σ) ∧ (¬ t0 = 0 → P58 v5 v6 t0 (-1) σ))) → P45 v5 v6 t0 σ) → (∀ (v5 : Int32) (v6 : Nat) (v7 : Int32) (t0 : Int32) (σ : St), (IO ids v6 4 → P69 v5 v6 v7 t0 a1 a2 0 σ) → P58 v5 v6 v7 t0 σ) → (∀ (v5 : Int32) (v6 : Nat) (v7 : Int32) (v8 : Int32) (v9 : Int32) (v10 : Int32) (v11 : Int32) (σ : St), (IO ids v6 4 → ((14 ≤ v11 → Q v8 σ) ∧ (¬ (14 ≤ v11) → ((v10 ≤ v9 → Q v8 σ) ∧ (¬ (v10 ≤ v9) → ((¬ ((v5 >>> (v11 &&& 31)) &&& 1) = 0 → vp_in v11 14 ∧ EV d ids Y_X2_make [.ref o, .int (tPl (Int32.toNatClampNeg v11))] σ (fun s8 => EI d ids Y_X2_valueFrom [.ref o, .ref a0, .int v9, .int v10, .int (a3 + 1)] s8 (fun x10 s9 => ∀ s11 : St, s11 = si s9 o 10 a3 → ((v7 = 0 → ((v8 ≤ x10 → P166 v5 v6 v7 v8 v9 v10 v11 s11) ∧ (¬ (v8 ≤ x10) → P151 v5 v6 v7 v9 v10 v11 x10 s11))) ∧ (¬ v7 = 0 → ((x10 ≤ v8 → P166 v5 v6 v7 v8 v9 v10 v11 s11) ∧ (¬ (x10 ≤ v8) → P151 v5 v6 v7 v9 v10 v11 x10 s11))))))) ∧ (((v5 >>> (v11 &&& 31)) &&& 1) = 0 → P192 v5 v6 v7 v8 v9 v10 v11 σ))))))) → P69 v5 v6 v7 v8 v9 v10 v11 σ) → (∀ (v5 : Int32) (v6 : Nat) (v7 : Int32) (v9 : Int32) (v10 : Int32) (v11 : Int32) (v12 : Int32) (σ : St), (IO ids v6 4 → vp_in v11 14 ∧ ∀ s16 : St, s16 = si σ v6 10 (tPl (Int32.toNatClampNeg v11)) → P166 v5 v6 v7 v12 v9 v10 v11 s16) → P151 v5 v6 v7 v9 v10 v11 v12 σ) → (∀ (v5 : Int32) (v6 : Nat) (v7 : Int32) (v8 : Int32) (v9 : Int32) (v10 : Int32) (v11 : Int32) (σ : St), (IO ids v6 4 → ((v7 = 0 → ∀ x18 : Int32, x18 = (if v8 < v10 then v8 else v10) → P192 v5 v6 v7 v8 v9 x18 v11 σ) ∧ (¬ v7 = 0 → ∀ x19 : Int32, x19 = (if v9 < v8 then v8 else v9) → P192 v5 v6 v7 v8 x19 v10 v11 σ))) → P166 v5 v6 v7 v8 v9 v10 v11 σ) → (∀ (v5 : Int32) (v6 : Nat) (v7 : Int32) (v8 : Int32) (v9 : Int32) (v10 : Int32) (v11 : Int32) (σ : St), (IO ids v6 4 → ∀ x20 : Int32, x20 = v11 + 1 → P69 v5 v6 v7 v8 v9 v10 x20 σ) → P192 v5 v6 v7 v8 v9 v10 v11 σ) → EI d ids Y_X2_open [.ref o] σ (fun x22 s21 => ((x22 = 0 → P17 s21) ∧ (¬ x22 = 0 → ((a3 < 5 → vp_in a3 6 ∧ ((¬ (gi s21 (rf (rf o 2) (Int32.toNatClampNeg a3)) 4) = 0 → P45 x22 (rf (rf o 2) (Int32.toNatClampNeg a3)) 0 s21) ∧ ((gi s21 (rf (rf o 2) (Int32.toNatClampNeg a3)) 4) = 0 → P45 x22 (rf (rf o 2) (Int32.toNatClampNeg a3)) 1 s21))) ∧ (¬ (a3 < 5) → P17 s21)))))) : EI (d + 1) ids Y_X2_valueFrom [.ref o, .ref a0, .int a1, .int a2, .int a3] σ Q := by
  refine E_mk (by decide) (Nat.le_of_ble_eq_true rfl) (fun X hX => ?_)
  replace hX : Cok X ids 13 cX2_valueFrom (some .int) (d + 1) RX2 := hX
  show Wg X ids 13 _ 0 [(0, .ref o), (1, .ref a0), (2, .int a1), (3, .int a2), (4, .int a3)] [] σ
  have h := H (fun (σ : St) => (Wg X ids 13 (fun r σ1 => ∃ x, r = some (Value.int x) ∧ Q x σ1) 17 [(0, .ref o), (1, .ref a0)] [] σ)) (fun (v5 : Int32) (v6 : Nat) (t0 : Int32) (σ : St) => (IO ids v6 4 → Wg X ids 13 (fun r σ1 => ∃ x, r = some (Value.int x) ∧ Q x σ1) 45 [(0, .ref o), (1, .ref a0), (2, .int a1), (3, .int a2), (4, .int a3), (5, .int v5), (6, .ref v6)] [.int t0] σ)) (fun (v5 : Int32) (v6 : Nat) (v7 : Int32) (t0 : Int32) (σ : St) => (IO ids v6 4 → Wg X ids 13 (fun r σ1 => ∃ x, r = some (Value.int x) ∧ Q x σ1) 58 [(0, .ref o), (1, .ref a0), (2, .int a1), (3, .int a2), (4, .int a3), (5, .int v5), (6, .ref v6), (7, .int v7)] [.int t0] σ)) (fun (v5 : Int32) (v6 : Nat) (v7 : Int32) (v8 : Int32) (v9 : Int32) (v10 : Int32) (v11 : Int32) (σ : St) => (IO ids v6 4 → Wg X ids 13 (fun r σ1 => ∃ x, r = some (Value.int x) ∧ Q x σ1) 69 [(0, .ref o), (1, .ref a0), (4, .int a3), (5, .int v5), (6, .ref v6), (7, .int v7), (8, .int v8), (9, .int v9), (10, .int v10), (11, .int v11)] [] σ)) (fun (v5 : Int32) (v6 : Nat) (v7 : Int32) (v9 : Int32) (v10 : Int32) (v11 : Int32) (v12 : Int32) (σ : St) => (IO ids v6 4 → Wg X ids 13 (fun r σ1 => ∃ x, r = some (Value.int x) ∧ Q x σ1) 151 [(0, .ref o), (1, .ref a0), (4, .int a3), (5, .int v5), (6, .ref v6), (7, .int v7), (9, .int v9), (10, .int v10), (11, .int v11), (12, .int v12)] [] σ)) (fun (v5 : Int32) (v6 : Nat) (v7 : Int32) (v8 : Int32) (v9 : Int32) (v10 : Int32) (v11 : Int32) (σ : St) => (IO ids v6 4 → Wg X ids 13 (fun r σ1 => ∃ x, r = some (Value.int x) ∧ Q x σ1) 166 [(0, .ref o), (1, .ref a0), (4, .int a3), (5, .int v5), (6, .ref v6), (7, .int v7), (8, .int v8), (9, .int v9), (10, .int v10), (11, .int v11)] [] σ)) (fun (v5 : Int32) (v6 : Nat) (v7 : Int32) (v8 : Int32) (v9 : Int32) (v10 : Int32) (v11 : Int32) (σ : St) => (IO ids v6 4 → Wg X ids 13 (fun r σ1 => ∃ x, r = some (Value.int x) ∧ Q x σ1) 192 [(0, .ref o), (1, .ref a0), (4, .int a3), (5, .int v5), (6, .ref v6), (7, .int v7), (8, .int v8), (9, .int v9), (10, .int v10), (11, .int v11)] [] σ))
  replace h := h (fun σ h => by
    refine q_aload_n 0 hX dX2_valueFrom_17 rfl rfl ?_
    refine q_aload_n 1 hX dX2_valueFrom_18 rfl rfl ?_
    refine cl_X2_146 hX h_o dX2_valueFrom_19 (Nat.le_of_ble_eq_true rfl) h (fun x2 s1 h => ?_)
    exact q_ret hX dX2_valueFrom_22 ⟨_, rfl, h⟩
    )
  replace h := h (fun v5 v6 t0 σ h h_v6 => by
    replace h := h h_v6
    refine q_istore (L' := [(7, .int t0), (0, .ref o), (1, .ref a0), (2, .int a1), (3, .int a2), (4, .int a3), (5, .int v5), (6, .ref v6)]) hX dX2_valueFrom_45 (by decide) rfl ?_
    refine q_iload 0 hX dX2_valueFrom_47 rfl ?_
    refine q_if_eq 56 hX dX2_valueFrom_49 (by decide) (fun c3 => ?_) (fun c3 => ?_)
    · replace h := h.1 c3
      refine q_bipush (v := 21) hX dX2_valueFrom_56 (by decide) ?_
      exact Wg.sub [1, 2, 3, 4, 5, 6, 7, 0] rfl (h h_v6)
    · replace h := h.2 c3
      refine q_iconst (v := (-1)) hX dX2_valueFrom_52 (by decide) ?_
      refine q_goto 58 hX dX2_valueFrom_53 (by decide) ?_
      exact Wg.sub [1, 2, 3, 4, 5, 6, 7, 0] rfl (h h_v6)
    )
  replace h := h (fun v5 v6 v7 t0 σ h h_v6 => by
    replace h := h h_v6
    refine q_istore (L' := [(8, .int t0), (0, .ref o), (1, .ref a0), (2, .int a1), (3, .int a2), (4, .int a3), (5, .int v5), (6, .ref v6), (7, .int v7)]) hX dX2_valueFrom_58 (by decide) rfl ?_
    refine q_iload_n 3 hX dX2_valueFrom_60 rfl rfl ?_
    refine q_istore (L' := [(9, .int a1), (8, .int t0), (0, .ref o), (1, .ref a0), (2, .int a1), (3, .int a2), (4, .int a3), (5, .int v5), (6, .ref v6), (7, .int v7)]) hX dX2_valueFrom_61 (by decide) rfl ?_
    refine q_iload_n 5 hX dX2_valueFrom_63 rfl rfl ?_
    refine q_istore (L' := [(10, .int a2), (9, .int a1), (8, .int t0), (0, .ref o), (1, .ref a0), (2, .int a1), (3, .int a2), (4, .int a3), (5, .int v5), (6, .ref v6), (7, .int v7)]) hX dX2_valueFrom_64 (by decide) rfl ?_
    refine q_iconst (v := 0) hX dX2_valueFrom_66 (by decide) ?_
    refine q_istore (L' := [(11, .int 0), (10, .int a2), (9, .int a1), (8, .int t0), (0, .ref o), (1, .ref a0), (2, .int a1), (3, .int a2), (4, .int a3), (5, .int v5), (6, .ref v6), (7, .int v7)]) hX dX2_valueFrom_67 (by decide) rfl ?_
    exact Wg.sub [4, 5, 8, 9, 10, 11, 3, 2, 1, 0] rfl (h h_v6)
    )
  replace h := h (fun v5 v6 v7 v8 v9 v10 v11 σ h h_v6 => by
    replace h := h h_v6
    refine q_iload 9 hX dX2_valueFrom_69 rfl ?_
    refine q_getsN (host := "PleasToIssue") 1001 hX dX2_valueFrom_71 (fun _ _ _ _ h => h.2.2.2.1) (fun _ _ _ _ h => h.1.1) ?_
    refine q_tlen (v := 14) hX dX2_valueFrom_74 (fun _ _ _ _ h => h.1.2) rfl ?_
    refine q_icmp_ge 198 hX dX2_valueFrom_75 (by decide) (fun c4 => ?_) (fun c4 => ?_)
    · replace h := h.1 c4
      refine q_iload 6 hX dX2_valueFrom_198 rfl ?_
      exact q_ret hX dX2_valueFrom_200 ⟨_, rfl, h⟩
    · replace h := h.2 c4
      refine q_iload 7 hX dX2_valueFrom_78 rfl ?_
      refine q_iload 8 hX dX2_valueFrom_80 rfl ?_
      refine q_icmp_ge 198 hX dX2_valueFrom_82 (by decide) (fun c5 => ?_) (fun c5 => ?_)
      · replace h := h.1 c5
        refine q_iload 6 hX dX2_valueFrom_198 rfl ?_
        exact q_ret hX dX2_valueFrom_200 ⟨_, rfl, h⟩
      · replace h := h.2 c5
        refine q_iload 3 hX dX2_valueFrom_85 rfl ?_
        refine q_iload 9 hX dX2_valueFrom_87 rfl ?_
        refine q_ishr hX dX2_valueFrom_89 ?_
        refine q_iconst (v := 1) hX dX2_valueFrom_90 (by decide) ?_
        refine q_iand hX dX2_valueFrom_91 ?_
        refine q_if_ne 98 hX dX2_valueFrom_92 (by decide) (fun c6 => ?_) (fun c6 => ?_)
        · replace h := h.1 c6
          refine q_aload_n 0 hX dX2_valueFrom_98 rfl rfl ?_
          refine q_getsN (host := "PleasToIssue") 1001 hX dX2_valueFrom_99 (fun _ _ _ _ h => h.2.2.2.1) (fun _ _ _ _ h => h.1.1) ?_
          refine q_iload 9 hX dX2_valueFrom_102 rfl ?_
          obtain ⟨b7, h⟩ := h
          refine q_tald hX dX2_valueFrom_104 (fun _ _ _ _ h => h.1.2) b7 ?_
          refine cl_X2_120 hX h_o dX2_valueFrom_105 (Nat.le_of_ble_eq_true rfl) h (fun s8 h => ?_)
          refine q_aload_n 0 hX dX2_valueFrom_108 rfl rfl ?_
          refine q_aload_n 1 hX dX2_valueFrom_109 rfl rfl ?_
          refine q_iload 7 hX dX2_valueFrom_110 rfl ?_
          refine q_iload 8 hX dX2_valueFrom_112 rfl ?_
          refine q_iload 2 hX dX2_valueFrom_114 rfl ?_
          refine q_iconst (v := 1) hX dX2_valueFrom_116 (by decide) ?_
          refine q_iadd hX dX2_valueFrom_117 ?_
          refine cl_X2_142 hX h_o dX2_valueFrom_118 (Nat.le_of_ble_eq_true rfl) h (fun x10 s9 h => ?_)
          refine q_istore (L' := [(12, .int x10), (0, .ref o), (1, .ref a0), (4, .int a3), (5, .int v5), (6, .ref v6), (7, .int v7), (8, .int v8), (9, .int v9), (10, .int v10), (11, .int v11)]) hX dX2_valueFrom_121 (by decide) rfl ?_
          refine q_aload_n 1 hX dX2_valueFrom_123 rfl rfl ?_
          refine q_iload 3 hX dX2_valueFrom_124 rfl ?_
          refine pf_X2_57 hX h_o dX2_valueFrom_126 ?_
          refine Wg.nmS (fun s11 es11 => ?_)
          replace h := h s11 es11
          refine q_iload 6 hX dX2_valueFrom_129 rfl ?_
          refine q_if_eq 144 hX dX2_valueFrom_131 (by decide) (fun c12 => ?_) (fun c12 => ?_)
          · replace h := h.1 c12
            refine q_iload 0 hX dX2_valueFrom_144 rfl ?_
            refine q_iload 7 hX dX2_valueFrom_146 rfl ?_
            refine q_icmp_ge 166 hX dX2_valueFrom_148 (by decide) (fun c13 => ?_) (fun c13 => ?_)
            · replace h := h.1 c13
              exact Wg.sub [1, 2, 3, 4, 5, 6, 7, 8, 9, 10] rfl (h h_v6)
            · replace h := h.2 c13
              exact Wg.sub [1, 2, 3, 4, 5, 6, 8, 9, 10, 0] rfl (h h_v6)
          · replace h := h.2 c12
            refine q_iload 0 hX dX2_valueFrom_134 rfl ?_
            refine q_iload 7 hX dX2_valueFrom_136 rfl ?_
            refine q_icmp_le 166 hX dX2_valueFrom_138 (by decide) (fun c14 => ?_) (fun c14 => ?_)
            · replace h := h.1 c14
              exact Wg.sub [1, 2, 3, 4, 5, 6, 7, 8, 9, 10] rfl (h h_v6)
            · replace h := h.2 c14
              refine q_goto 151 hX dX2_valueFrom_141 (by decide) ?_
              exact Wg.sub [1, 2, 3, 4, 5, 6, 8, 9, 10, 0] rfl (h h_v6)
        · replace h := h.2 c6
          refine q_goto 192 hX dX2_valueFrom_95 (by decide) ?_
          exact Wg.sub [0, 1, 2, 3, 4, 5, 6, 7, 8, 9] rfl (h h_v6)
    )
  replace h := h (fun v5 v6 v7 v9 v10 v11 v12 σ h h_v6 => by
    replace h := h h_v6
    refine q_iload 9 hX dX2_valueFrom_151 rfl ?_
    refine q_istore (L' := [(8, .int v12), (0, .ref o), (1, .ref a0), (4, .int a3), (5, .int v5), (6, .ref v6), (7, .int v7), (9, .int v9), (10, .int v10), (11, .int v11), (12, .int v12)]) hX dX2_valueFrom_153 (by decide) rfl ?_
    refine q_aload 5 hX dX2_valueFrom_155 rfl ?_
    refine q_getsN (host := "PleasToIssue") 1001 hX dX2_valueFrom_157 (fun _ _ _ _ h => h.2.2.2.1) (fun _ _ _ _ h => h.1.1) ?_
    refine q_iload 9 hX dX2_valueFrom_160 rfl ?_
    obtain ⟨b15, h⟩ := h
    refine q_tald hX dX2_valueFrom_162 (fun _ _ _ _ h => h.1.2) b15 ?_
    refine pf_X2_150 hX h_v6 dX2_valueFrom_163 ?_
    refine Wg.nmS (fun s16 es16 => ?_)
    replace h := h s16 es16
    exact Wg.sub [1, 2, 3, 4, 5, 6, 0, 7, 8, 9] rfl (h h_v6)
    )
  replace h := h (fun v5 v6 v7 v8 v9 v10 v11 σ h h_v6 => by
    replace h := h h_v6
    refine q_iload 5 hX dX2_valueFrom_166 rfl ?_
    refine q_if_eq 183 hX dX2_valueFrom_168 (by decide) (fun c17 => ?_) (fun c17 => ?_)
    · replace h := h.1 c17
      refine q_iload 8 hX dX2_valueFrom_183 rfl ?_
      refine q_iload 6 hX dX2_valueFrom_185 rfl ?_
      refine q_mmin hX dX2_valueFrom_187 tb_676 tb_463 tb_83 tb_464 (Nat.le_of_ble_eq_true rfl) ?_
      refine Wg.nmI (fun x18 ex18 => ?_)
      replace h := h x18 ex18
      refine q_istore (L' := [(10, .int x18), (0, .ref o), (1, .ref a0), (4, .int a3), (5, .int v5), (6, .ref v6), (7, .int v7), (8, .int v8), (9, .int v9), (11, .int v11)]) hX dX2_valueFrom_190 (by decide) rfl ?_
      exact Wg.sub [1, 2, 3, 4, 5, 6, 7, 8, 0, 9] rfl (h h_v6)
    · replace h := h.2 c17
      refine q_iload 7 hX dX2_valueFrom_171 rfl ?_
      refine q_iload 6 hX dX2_valueFrom_173 rfl ?_
      refine q_mmax hX dX2_valueFrom_175 tb_675 tb_460 tb_83 tb_461 (Nat.le_of_ble_eq_true rfl) ?_
      refine Wg.nmI (fun x19 ex19 => ?_)
      replace h := h x19 ex19
      refine q_istore (L' := [(9, .int x19), (0, .ref o), (1, .ref a0), (4, .int a3), (5, .int v5), (6, .ref v6), (7, .int v7), (8, .int v8), (10, .int v10), (11, .int v11)]) hX dX2_valueFrom_178 (by decide) rfl ?_
      refine q_goto 192 hX dX2_valueFrom_180 (by decide) ?_
      exact Wg.sub [1, 2, 3, 4, 5, 6, 7, 0, 8, 9] rfl (h h_v6)
    )
  replace h := h (fun v5 v6 v7 v8 v9 v10 v11 σ h h_v6 => by
    replace h := h h_v6
    obtain ⟨x20, ex20⟩ : ∃ z : Int32, z = v11 + 1 := ⟨_, rfl⟩
    replace h := h x20 ex20
    refine q_iinc (v := x20) (L' := [(11, .int x20), (0, .ref o), (1, .ref a0), (4, .int a3), (5, .int v5), (6, .ref v6), (7, .int v7), (8, .int v8), (9, .int v9), (10, .int v10)]) 9 hX dX2_valueFrom_192 rfl (by rw [ex20]; rfl) (by decide) rfl ?_
    refine q_goto 69 hX dX2_valueFrom_195 (by decide) ?_
    exact Wg.sub [1, 2, 3, 4, 5, 6, 7, 8, 9, 0] rfl (h h_v6)
    )
  refine q_aload_n 0 hX dX2_valueFrom_0 rfl rfl ?_
  refine cl_X2_106 hX h_o dX2_valueFrom_1 (Nat.le_of_ble_eq_true rfl) h (fun x22 s21 h => ?_)
  refine q_istore (L' := [(5, .int x22), (0, .ref o), (1, .ref a0), (2, .int a1), (3, .int a2), (4, .int a3)]) hX dX2_valueFrom_4 (by decide) rfl ?_
  refine q_iload 0 hX dX2_valueFrom_6 rfl ?_
  refine q_if_eq 17 hX dX2_valueFrom_8 (by decide) (fun c23 => ?_) (fun c23 => ?_)
  · replace h := h.1 c23
    exact Wg.sub [1, 2] rfl (h)
  · replace h := h.2 c23
    refine q_iload 5 hX dX2_valueFrom_11 rfl ?_
    refine q_iconst (v := 5) hX dX2_valueFrom_13 (by decide) ?_
    refine q_icmp_lt 23 hX dX2_valueFrom_14 (by decide) (fun c24 => ?_) (fun c24 => ?_)
    · replace h := h.1 c24
      refine q_aload_n 1 hX dX2_valueFrom_23 rfl rfl ?_
      refine gf_X2_11 hX h_o dX2_valueFrom_24 ?_
      refine q_iload 5 hX dX2_valueFrom_27 rfl ?_
      obtain ⟨b25, h⟩ := h
      refine q_aald (by decide) hX dX2_valueFrom_29 (rfO_2_2 h_o) b25 ?_
      refine q_astore (L' := [(6, .ref (rf (rf o 2) (Int32.toNatClampNeg a3))), (5, .int x22), (0, .ref o), (1, .ref a0), (2, .int a1), (3, .int a2), (4, .int a3)]) hX dX2_valueFrom_30 (by decide) rfl ?_
      refine q_aload 0 hX dX2_valueFrom_32 rfl ?_
      refine gf_X2_31 hX (rfA_5 (rfO_2_2 h_o) b25) dX2_valueFrom_34 ?_
      refine q_if_ne 44 hX dX2_valueFrom_37 (by decide) (fun c26 => ?_) (fun c26 => ?_)
      · replace h := h.1 c26
        refine q_iconst (v := 0) hX dX2_valueFrom_44 (by decide) ?_
        exact Wg.sub [2, 3, 4, 5, 6, 1, 0] rfl (h ((rfA_5 (rfO_2_2 h_o) b25)))
      · replace h := h.2 c26
        refine q_iconst (v := 1) hX dX2_valueFrom_40 (by decide) ?_
        refine q_goto 45 hX dX2_valueFrom_41 (by decide) ?_
        exact Wg.sub [2, 3, 4, 5, 6, 1, 0] rfl (h ((rfA_5 (rfO_2_2 h_o) b25)))
    · replace h := h.2 c24
      exact Wg.sub [1, 2] rfl (h)
set_option maxHeartbeats 4000000 in
set_option maxRecDepth 20000 in
theorem fl_X2_bestNow {d : Nat} {ids : List Nat} {o : Nat} {a0 : Nat} {σ : St} {Q : Int32 → St → Prop} (h_o : IO ids o 2) (h_a0 : IO ids a0 1) (H : EI d ids Y_X2_open [.ref o] σ (fun x2 s1 => ((¬ x2 = 0 → EI d ids Y_X2_valueFrom [.ref o, .ref a0, .int (-1), .int 21, .int (gi s1 o 10)] s1 (fun x5 s4 => ER d ids Y_X2_now [.ref o] s4 (fun r7 s6 => IO ids r7 4 ∧ Q (gi s6 r7 10) s6))) ∧ (x2 = 0 → Q (-5) s1)))) : EI (d + 1) ids Y_X2_bestNow [.ref o, .ref a0] σ Q := by
  refine E_mk (by decide) (Nat.le_of_ble_eq_true rfl) (fun X hX => ?_)
  replace hX : Cok X ids 2 cX2_bestNow (some .int) (d + 1) RX2 := hX
  show Wg X ids 2 _ 0 [(0, .ref o), (1, .ref a0)] [] σ
  have h := H
  refine q_aload_n 0 hX dX2_bestNow_0 rfl rfl ?_
  refine cl_X2_106 hX h_o dX2_bestNow_1 (Nat.le_of_ble_eq_true rfl) h (fun x2 s1 h => ?_)
  refine q_if_ne 10 hX dX2_bestNow_4 (by decide) (fun c3 => ?_) (fun c3 => ?_)
  · replace h := h.1 c3
    refine q_aload_n 0 hX dX2_bestNow_10 rfl rfl ?_
    refine q_aload_n 1 hX dX2_bestNow_11 rfl rfl ?_
    refine q_iconst (v := (-1)) hX dX2_bestNow_12 (by decide) ?_
    refine q_bipush (v := 21) hX dX2_bestNow_13 (by decide) ?_
    refine q_aload_n 0 hX dX2_bestNow_15 rfl rfl ?_
    refine gf_X2_57 hX h_o dX2_bestNow_16 ?_
    refine cl_X2_142 hX h_o dX2_bestNow_19 (Nat.le_of_ble_eq_true rfl) h (fun x5 s4 h => ?_)
    refine q_pop hX dX2_bestNow_22 rfl ?_
    refine q_aload_n 0 hX dX2_bestNow_23 rfl rfl ?_
    refine cl_X2_63 hX h_o dX2_bestNow_24 (Nat.le_of_ble_eq_true rfl) h (fun r7 s6 h => ?_)
    obtain ⟨h_r7, h⟩ := h
    refine gf_X2_150 hX h_r7 dX2_bestNow_27 ?_
    exact q_ret hX dX2_bestNow_30 ⟨_, rfl, h⟩
  · replace h := h.2 c3
    refine q_bipush (v := (-5)) hX dX2_bestNow_7 (by decide) ?_
    exact q_ret hX dX2_bestNow_9 ⟨_, rfl, h⟩
set_option maxHeartbeats 4000000 in
set_option maxRecDepth 20000 in
theorem fl_X2_pleaOfBest {d : Nat} {ids : List Nat} {o : Nat} {a0 : Nat} {a1 : Int32} {σ : St} {Q : Int32 → St → Prop} (h_o : IO ids o 2) (h_a0 : IO ids a0 1) (H : ∀ (P12 : Int32 → Int32 → Int32 → St → Prop) (P53 : Int32 → Int32 → St → Prop), (∀ (v3 : Int32) (v4 : Int32) (v5 : Int32) (σ : St), (((a1 < v5 → P53 v3 v4 σ) ∧ (¬ (a1 < v5) → ((5 < v5 → P53 v3 v4 σ) ∧ (¬ (5 < v5) → EI d ids Y_X2_bestNow [.ref o, .ref a0] σ (fun x4 s3 => ((¬ x4 = (-5) → EV d ids Y_X2_make [.ref o, .int x4] s3 (fun s6 => ∀ x7 : Int32, x7 = v5 + 1 → P12 v3 x4 x7 s6)) ∧ (x4 = (-5) → P53 v3 x4 s3)))))))) → P12 v3 v4 v5 σ) → (∀ (v3 : Int32) (v4 : Int32) (σ : St), (∀ s8 : St, s8 = si σ o 10 v3 → Q v4 s8) → P53 v3 v4 σ) → ∀ x9 : Int32, x9 = (gi σ o 10) → P12 x9 (-5) 0 σ) : EI (d + 1) ids Y_X2_pleaOfBest [.ref o, .ref a0, .int a1] σ Q := by
  refine E_mk (by decide) (Nat.le_of_ble_eq_true rfl) (fun X hX => ?_)
  replace hX : Cok X ids 6 cX2_pleaOfBest (some .int) (d + 1) RX2 := hX
  show Wg X ids 6 _ 0 [(0, .ref o), (1, .ref a0), (2, .int a1)] [] σ
  have h := H (fun (v3 : Int32) (v4 : Int32) (v5 : Int32) (σ : St) => (Wg X ids 6 (fun r σ1 => ∃ x, r = some (Value.int x) ∧ Q x σ1) 12 [(0, .ref o), (1, .ref a0), (2, .int a1), (3, .int v3), (4, .int v4), (5, .int v5)] [] σ)) (fun (v3 : Int32) (v4 : Int32) (σ : St) => (Wg X ids 6 (fun r σ1 => ∃ x, r = some (Value.int x) ∧ Q x σ1) 53 [(0, .ref o), (3, .int v3), (4, .int v4)] [] σ))
  replace h := h (fun v3 v4 v5 σ h => by
    refine q_iload 5 hX dX2_pleaOfBest_12 rfl ?_
    refine q_iload_n 2 hX dX2_pleaOfBest_14 rfl rfl ?_
    refine q_icmp_gt 53 hX dX2_pleaOfBest_15 (by decide) (fun c1 => ?_) (fun c1 => ?_)
    · replace h := h.1 c1
      exact Wg.sub [0, 3, 4] rfl (h)
    · replace h := h.2 c1
      refine q_iload 5 hX dX2_pleaOfBest_18 rfl ?_
      refine q_iconst (v := 5) hX dX2_pleaOfBest_20 (by decide) ?_
      refine q_icmp_gt 53 hX dX2_pleaOfBest_21 (by decide) (fun c2 => ?_) (fun c2 => ?_)
      · replace h := h.1 c2
        exact Wg.sub [0, 3, 4] rfl (h)
      · replace h := h.2 c2
        refine q_aload_n 0 hX dX2_pleaOfBest_24 rfl rfl ?_
        refine q_aload_n 1 hX dX2_pleaOfBest_25 rfl rfl ?_
        refine cl_X2_162 hX h_o dX2_pleaOfBest_26 (Nat.le_of_ble_eq_true rfl) h (fun x4 s3 h => ?_)
        refine q_istore (L' := [(4, .int x4), (0, .ref o), (1, .ref a0), (2, .int a1), (3, .int v3), (5, .int v5)]) hX dX2_pleaOfBest_29 (by decide) rfl ?_
        refine q_iload 0 hX dX2_pleaOfBest_31 rfl ?_
        refine q_bipush (v := (-5)) hX dX2_pleaOfBest_33 (by decide) ?_
        refine q_icmp_ne 41 hX dX2_pleaOfBest_35 (by decide) (fun c5 => ?_) (fun c5 => ?_)
        · replace h := h.1 c5
          refine q_aload_n 1 hX dX2_pleaOfBest_41 rfl rfl ?_
          refine q_iload 0 hX dX2_pleaOfBest_42 rfl ?_
          refine cl_X2_120 hX h_o dX2_pleaOfBest_44 (Nat.le_of_ble_eq_true rfl) h (fun s6 h => ?_)
          obtain ⟨x7, ex7⟩ : ∃ z : Int32, z = v5 + 1 := ⟨_, rfl⟩
          replace h := h x7 ex7
          refine q_iinc (v := x7) (L' := [(5, .int x7), (4, .int x4), (0, .ref o), (1, .ref a0), (2, .int a1), (3, .int v3)]) 5 hX dX2_pleaOfBest_47 rfl (by rw [ex7]; rfl) (by decide) rfl ?_
          refine q_goto 12 hX dX2_pleaOfBest_50 (by decide) ?_
          exact Wg.sub [2, 3, 4, 5, 1, 0] rfl (h)
        · replace h := h.2 c5
          refine q_goto 53 hX dX2_pleaOfBest_38 (by decide) ?_
          exact Wg.sub [1, 4, 0] rfl (h)
    )
  replace h := h (fun v3 v4 σ h => by
    refine q_aload_n 0 hX dX2_pleaOfBest_53 rfl rfl ?_
    refine q_iload_n 1 hX dX2_pleaOfBest_54 rfl rfl ?_
    refine pf_X2_57 hX h_o dX2_pleaOfBest_55 ?_
    refine Wg.nmS (fun s8 es8 => ?_)
    replace h := h s8 es8
    refine q_iload 2 hX dX2_pleaOfBest_58 rfl ?_
    exact q_ret hX dX2_pleaOfBest_60 ⟨_, rfl, h⟩
    )
  refine q_aload_n 0 hX dX2_pleaOfBest_0 rfl rfl ?_
  refine gf_X2_57 hX h_o dX2_pleaOfBest_1 ?_
  refine Wg.nmI (fun x9 ex9 => ?_)
  replace h := h x9 ex9
  refine q_istore_n (L' := [(3, .int x9), (0, .ref o), (1, .ref a0), (2, .int a1)]) hX dX2_pleaOfBest_4 rfl (by decide) rfl ?_
  refine q_bipush (v := (-5)) hX dX2_pleaOfBest_5 (by decide) ?_
  refine q_istore (L' := [(4, .int (-5)), (3, .int x9), (0, .ref o), (1, .ref a0), (2, .int a1)]) hX dX2_pleaOfBest_7 (by decide) rfl ?_
  refine q_iconst (v := 0) hX dX2_pleaOfBest_9 (by decide) ?_
  refine q_istore (L' := [(5, .int 0), (4, .int (-5)), (3, .int x9), (0, .ref o), (1, .ref a0), (2, .int a1)]) hX dX2_pleaOfBest_10 (by decide) rfl ?_
  exact Wg.sub [3, 4, 5, 2, 1, 0] rfl (h)
set_option maxHeartbeats 4000000 in
set_option maxRecDepth 20000 in
theorem fl_X2_trapsIn {d : Nat} {ids : List Nat} {o : Nat} {a0 : Nat} {a1 : Int32} {a2 : Int32} {σ : St} {Q : Int32 → St → Prop} (h_o : IO ids o 2) (h_a0 : IO ids a0 1) (H : ∀ (P25 : Int32 → Int32 → Int32 → Int32 → Int32 → St → Prop) (P93 : Int32 → Int32 → Int32 → Int32 → Int32 → Int32 → St → Prop) (P117 : Int32 → Int32 → Int32 → Int32 → Int32 → St → Prop), (∀ (v4 : Int32) (v5 : Int32) (v6 : Int32) (v7 : Int32) (v8 : Int32) (σ : St), (((14 ≤ v8 → ((¬ a2 = (-1) → Q (-1) σ) ∧ (a2 = (-1) → Q v7 σ))) ∧ (¬ (14 ≤ v8) → ((¬ ((v4 >>> (v8 &&& 31)) &&& 1) = 0 → vp_in v8 14 ∧ EV d ids Y_X2_make [.ref o, .int (tPl (Int32.toNatClampNeg v8))] σ (fun s5 => EI d ids Y_X2_valueIn [.ref o, .ref a0] s5 (fun x7 s6 => ∀ s8 : St, s8 = si s6 o 10 v5 → ER d ids Y_X2_now [.ref o] s8 (fun r10 s9 => IO ids r10 4 ∧ ((¬ (gi s9 r10 4) = 0 → P93 v4 v5 v6 v7 v8 (x7 - v6) s9) ∧ ((gi s9 r10 4) = 0 → P93 v4 v5 v6 v7 v8 (v6 - x7) s9)))))) ∧ (((v4 >>> (v8 &&& 31)) &&& 1) = 0 → P117 v4 v5 v6 v7 v8 σ))))) → P25 v4 v5 v6 v7 v8 σ) → (∀ (v4 : Int32) (v5 : Int32) (v6 : Int32) (v7 : Int32) (v8 : Int32) (t0 : Int32) (σ : St), (((t0 < a1 → P117 v4 v5 v6 v7 v8 σ) ∧ (¬ (t0 < a1) → ((¬ v7 = a2 → ∀ x14 : Int32, x14 = v7 + 1 → P117 v4 v5 v6 x14 v8 σ) ∧ (v7 = a2 → vp_in v8 14 ∧ Q (tPl (Int32.toNatClampNeg v8)) σ))))) → P93 v4 v5 v6 v7 v8 t0 σ) → (∀ (v4 : Int32) (v5 : Int32) (v6 : Int32) (v7 : Int32) (v8 : Int32) (σ : St), (∀ x16 : Int32, x16 = v8 + 1 → P25 v4 v5 v6 v7 x16 σ) → P117 v4 v5 v6 v7 v8 σ) → EI d ids Y_X2_open [.ref o] σ (fun x18 s17 => ∀ x19 : Int32, x19 = (gi s17 o 10) → EI d ids Y_X2_valueIn [.ref o, .ref a0] s17 (fun x21 s20 => P25 x18 x19 x21 0 0 s20))) : EI (d + 1) ids Y_X2_trapsIn [.ref o, .ref a0, .int a1, .int a2] σ Q := by
  refine E_mk (by decide) (Nat.le_of_ble_eq_true rfl) (fun X hX => ?_)
  replace hX : Cok X ids 11 cX2_trapsIn (some .int) (d + 1) RX2 := hX
  show Wg X ids 11 _ 0 [(0, .ref o), (1, .ref a0), (2, .int a1), (3, .int a2)] [] σ
  have h := H (fun (v4 : Int32) (v5 : Int32) (v6 : Int32) (v7 : Int32) (v8 : Int32) (σ : St) => (Wg X ids 11 (fun r σ1 => ∃ x, r = some (Value.int x) ∧ Q x σ1) 25 [(0, .ref o), (1, .ref a0), (2, .int a1), (3, .int a2), (4, .int v4), (5, .int v5), (6, .int v6), (7, .int v7), (8, .int v8)] [] σ)) (fun (v4 : Int32) (v5 : Int32) (v6 : Int32) (v7 : Int32) (v8 : Int32) (t0 : Int32) (σ : St) => (Wg X ids 11 (fun r σ1 => ∃ x, r = some (Value.int x) ∧ Q x σ1) 93 [(0, .ref o), (1, .ref a0), (2, .int a1), (3, .int a2), (4, .int v4), (5, .int v5), (6, .int v6), (7, .int v7), (8, .int v8)] [.int t0] σ)) (fun (v4 : Int32) (v5 : Int32) (v6 : Int32) (v7 : Int32) (v8 : Int32) (σ : St) => (Wg X ids 11 (fun r σ1 => ∃ x, r = some (Value.int x) ∧ Q x σ1) 117 [(0, .ref o), (1, .ref a0), (2, .int a1), (3, .int a2), (4, .int v4), (5, .int v5), (6, .int v6), (7, .int v7), (8, .int v8)] [] σ))
  replace h := h (fun v4 v5 v6 v7 v8 σ h => by
    refine q_iload 8 hX dX2_trapsIn_25 rfl ?_
    refine q_getsN (host := "PleasToIssue") 1001 hX dX2_trapsIn_27 (fun _ _ _ _ h => h.2.2.2.1) (fun _ _ _ _ h => h.1.1) ?_
    refine q_tlen (v := 14) hX dX2_trapsIn_30 (fun _ _ _ _ h => h.1.2) rfl ?_
    refine q_icmp_ge 123 hX dX2_trapsIn_31 (by decide) (fun c1 => ?_) (fun c1 => ?_)
    · replace h := h.1 c1
      refine q_iload_n 3 hX dX2_trapsIn_123 rfl rfl ?_
      refine q_iconst (v := (-1)) hX dX2_trapsIn_124 (by decide) ?_
      refine q_icmp_ne 133 hX dX2_trapsIn_125 (by decide) (fun c2 => ?_) (fun c2 => ?_)
      · replace h := h.1 c2
        refine q_iconst (v := (-1)) hX dX2_trapsIn_133 (by decide) ?_
        exact q_ret hX dX2_trapsIn_134 ⟨_, rfl, h⟩
      · replace h := h.2 c2
        refine q_iload 7 hX dX2_trapsIn_128 rfl ?_
        refine q_goto 134 hX dX2_trapsIn_130 (by decide) ?_
        exact q_ret hX dX2_trapsIn_134 ⟨_, rfl, h⟩
    · replace h := h.2 c1
      refine q_iload 4 hX dX2_trapsIn_34 rfl ?_
      refine q_iload 8 hX dX2_trapsIn_36 rfl ?_
      refine q_ishr hX dX2_trapsIn_38 ?_
      refine q_iconst (v := 1) hX dX2_trapsIn_39 (by decide) ?_
      refine q_iand hX dX2_trapsIn_40 ?_
      refine q_if_ne 47 hX dX2_trapsIn_41 (by decide) (fun c3 => ?_) (fun c3 => ?_)
      · replace h := h.1 c3
        refine q_aload_n 0 hX dX2_trapsIn_47 rfl rfl ?_
        refine q_getsN (host := "PleasToIssue") 1001 hX dX2_trapsIn_48 (fun _ _ _ _ h => h.2.2.2.1) (fun _ _ _ _ h => h.1.1) ?_
        refine q_iload 8 hX dX2_trapsIn_51 rfl ?_
        obtain ⟨b4, h⟩ := h
        refine q_tald hX dX2_trapsIn_53 (fun _ _ _ _ h => h.1.2) b4 ?_
        refine cl_X2_120 hX h_o dX2_trapsIn_54 (Nat.le_of_ble_eq_true rfl) h (fun s5 h => ?_)
        refine q_aload_n 0 hX dX2_trapsIn_57 rfl rfl ?_
        refine q_aload_n 1 hX dX2_trapsIn_58 rfl rfl ?_
        refine cl_X2_165 hX h_o dX2_trapsIn_59 (Nat.le_of_ble_eq_true rfl) h (fun x7 s6 h => ?_)
        refine q_istore (L' := [(9, .int x7), (0, .ref o), (1, .ref a0), (2, .int a1), (3, .int a2), (4, .int v4), (5, .int v5), (6, .int v6), (7, .int v7), (8, .int v8)]) hX dX2_trapsIn_62 (by decide) rfl ?_
        refine q_aload_n 1 hX dX2_trapsIn_64 rfl rfl ?_
        refine q_iload 6 hX dX2_trapsIn_65 rfl ?_
        refine pf_X2_57 hX h_o dX2_trapsIn_67 ?_
        refine Wg.nmS (fun s8 es8 => ?_)
        replace h := h s8 es8
        refine q_aload_n 1 hX dX2_trapsIn_70 rfl rfl ?_
        refine cl_X2_63 hX h_o dX2_trapsIn_71 (Nat.le_of_ble_eq_true rfl) h (fun r10 s9 h => ?_)
        obtain ⟨h_r10, h⟩ := h
        refine gf_X2_31 hX h_r10 dX2_trapsIn_74 ?_
        refine q_if_ne 88 hX dX2_trapsIn_77 (by decide) (fun c11 => ?_) (fun c11 => ?_)
        · replace h := h.1 c11
          refine q_iload 0 hX dX2_trapsIn_88 rfl ?_
          refine q_iload 7 hX dX2_trapsIn_90 rfl ?_
          refine q_isub hX dX2_trapsIn_92 ?_
          exact Wg.sub [1, 2, 3, 4, 5, 6, 7, 8, 9] rfl (h)
        · replace h := h.2 c11
          refine q_iload 7 hX dX2_trapsIn_80 rfl ?_
          refine q_iload 0 hX dX2_trapsIn_82 rfl ?_
          refine q_isub hX dX2_trapsIn_84 ?_
          refine q_goto 93 hX dX2_trapsIn_85 (by decide) ?_
          exact Wg.sub [1, 2, 3, 4, 5, 6, 7, 8, 9] rfl (h)
      · replace h := h.2 c3
        refine q_goto 117 hX dX2_trapsIn_44 (by decide) ?_
        exact Wg.sub [0, 1, 2, 3, 4, 5, 6, 7, 8] rfl (h)
    )
  replace h := h (fun v4 v5 v6 v7 v8 t0 σ h => by
    refine q_istore (L' := [(10, .int t0), (0, .ref o), (1, .ref a0), (2, .int a1), (3, .int a2), (4, .int v4), (5, .int v5), (6, .int v6), (7, .int v7), (8, .int v8)]) hX dX2_trapsIn_93 (by decide) rfl ?_
    refine q_iload 0 hX dX2_trapsIn_95 rfl ?_
    refine q_iload_n 3 hX dX2_trapsIn_97 rfl rfl ?_
    refine q_icmp_lt 117 hX dX2_trapsIn_98 (by decide) (fun c12 => ?_) (fun c12 => ?_)
    · replace h := h.1 c12
      exact Wg.sub [1, 2, 3, 4, 5, 6, 7, 8, 9] rfl (h)
    · replace h := h.2 c12
      refine q_iload 8 hX dX2_trapsIn_101 rfl ?_
      refine q_iload_n 4 hX dX2_trapsIn_103 rfl rfl ?_
      refine q_icmp_ne 114 hX dX2_trapsIn_104 (by decide) (fun c13 => ?_) (fun c13 => ?_)
      · replace h := h.1 c13
        obtain ⟨x14, ex14⟩ : ∃ z : Int32, z = v7 + 1 := ⟨_, rfl⟩
        replace h := h x14 ex14
        refine q_iinc (v := x14) (L' := [(7, .int x14), (10, .int t0), (0, .ref o), (1, .ref a0), (2, .int a1), (3, .int a2), (4, .int v4), (5, .int v5), (6, .int v6), (8, .int v8)]) 8 hX dX2_trapsIn_114 rfl (by rw [ex14]; rfl) (by decide) rfl ?_
        exact Wg.sub [2, 3, 4, 5, 6, 7, 8, 0, 9] rfl (h)
      · replace h := h.2 c13
        refine q_getsN (host := "PleasToIssue") 1001 hX dX2_trapsIn_107 (fun _ _ _ _ h => h.2.2.2.1) (fun _ _ _ _ h => h.1.1) ?_
        refine q_iload 9 hX dX2_trapsIn_110 rfl ?_
        obtain ⟨b15, h⟩ := h
        refine q_tald hX dX2_trapsIn_112 (fun _ _ _ _ h => h.1.2) b15 ?_
        exact q_ret hX dX2_trapsIn_113 ⟨_, rfl, h⟩
    )
  replace h := h (fun v4 v5 v6 v7 v8 σ h => by
    obtain ⟨x16, ex16⟩ : ∃ z : Int32, z = v8 + 1 := ⟨_, rfl⟩
    replace h := h x16 ex16
    refine q_iinc (v := x16) (L' := [(8, .int x16), (0, .ref o), (1, .ref a0), (2, .int a1), (3, .int a2), (4, .int v4), (5, .int v5), (6, .int v6), (7, .int v7)]) 8 hX dX2_trapsIn_117 rfl (by rw [ex16]; rfl) (by decide) rfl ?_
    refine q_goto 25 hX dX2_trapsIn_120 (by decide) ?_
    exact Wg.sub [1, 2, 3, 4, 5, 6, 7, 8, 0] rfl (h)
    )
  refine q_aload_n 0 hX dX2_trapsIn_0 rfl rfl ?_
  refine cl_X2_106 hX h_o dX2_trapsIn_1 (Nat.le_of_ble_eq_true rfl) h (fun x18 s17 h => ?_)
  refine q_istore (L' := [(4, .int x18), (0, .ref o), (1, .ref a0), (2, .int a1), (3, .int a2)]) hX dX2_trapsIn_4 (by decide) rfl ?_
  refine q_aload_n 1 hX dX2_trapsIn_6 rfl rfl ?_
  refine gf_X2_57 hX h_o dX2_trapsIn_7 ?_
  refine Wg.nmI (fun x19 ex19 => ?_)
  replace h := h x19 ex19
  refine q_istore (L' := [(5, .int x19), (4, .int x18), (0, .ref o), (1, .ref a0), (2, .int a1), (3, .int a2)]) hX dX2_trapsIn_10 (by decide) rfl ?_
  refine q_aload_n 2 hX dX2_trapsIn_12 rfl rfl ?_
  refine q_aload_n 3 hX dX2_trapsIn_13 rfl rfl ?_
  refine cl_X2_165 hX h_o dX2_trapsIn_14 (Nat.le_of_ble_eq_true rfl) h (fun x21 s20 h => ?_)
  refine q_istore (L' := [(6, .int x21), (5, .int x19), (4, .int x18), (0, .ref o), (1, .ref a0), (2, .int a1), (3, .int a2)]) hX dX2_trapsIn_17 (by decide) rfl ?_
  refine q_iconst (v := 0) hX dX2_trapsIn_19 (by decide) ?_
  refine q_istore (L' := [(7, .int 0), (6, .int x21), (5, .int x19), (4, .int x18), (0, .ref o), (1, .ref a0), (2, .int a1), (3, .int a2)]) hX dX2_trapsIn_20 (by decide) rfl ?_
  refine q_iconst (v := 0) hX dX2_trapsIn_22 (by decide) ?_
  refine q_istore (L' := [(8, .int 0), (7, .int 0), (6, .int x21), (5, .int x19), (4, .int x18), (0, .ref o), (1, .ref a0), (2, .int a1), (3, .int a2)]) hX dX2_trapsIn_23 (by decide) rfl ?_
  exact Wg.sub [5, 6, 7, 8, 4, 3, 2, 1, 0] rfl (h)
set_option maxHeartbeats 4000000 in
set_option maxRecDepth 20000 in
theorem fl_X2_edgeIn {d : Nat} {ids : List Nat} {o : Nat} {a0 : Nat} {σ : St} {Q : Int32 → St → Prop} (h_o : IO ids o 2) (h_a0 : IO ids a0 1) (H : ∀ (P23 : Nat → Int32 → Int32 → Int32 → St → Prop) (P54 : Nat → Int32 → Int32 → Int32 → St → Prop), (∀ (v2 : Nat) (v3 : Int32) (v4 : Int32) (v5 : Int32) (σ : St), (IA ids v2 0 5 → ((10 < v5 → P54 v2 v3 v4 v5 σ) ∧ (¬ (10 < v5) → vp_in v3 5 ∧ ∀ s3 : St, s3 = si σ v2 (Int32.toNatClampNeg v3) v5 → EI d ids Y_X2_bestNow [.ref o, .ref a0] s3 (fun x5 s4 => ((x5 = 30 → ∀ x7 : Int32, x7 = v5 + 1 → P23 v2 v3 v4 x7 s4) ∧ (¬ x5 = 30 → P54 v2 v3 v4 v5 s4)))))) → P23 v2 v3 v4 v5 σ) → (∀ (v2 : Nat) (v3 : Int32) (v4 : Int32) (v5 : Int32) (σ : St), (IA ids v2 0 5 → vp_in v3 5 ∧ ∀ s9 : St, s9 = si σ v2 (Int32.toNatClampNeg v3) v4 → Q v5 s9) → P54 v2 v3 v4 v5 σ) → ER d ids Y_X2_now [.ref o] σ (fun r11 s10 => IO ids r11 4 ∧ ∀ x12 : Int32, x12 = (gi s10 r11 3) → vp_in x12 5 ∧ ∀ x14 : Int32, x14 = (gi s10 (rf (rf a0 1) (Int32.toNatClampNeg 2)) (Int32.toNatClampNeg x12)) → P23 (rf (rf a0 1) (Int32.toNatClampNeg 2)) x12 x14 0 s10)) : EI (d + 1) ids Y_X2_edgeIn [.ref o, .ref a0] σ Q := by
  refine E_mk (by decide) (Nat.le_of_ble_eq_true rfl) (fun X hX => ?_)
  replace hX : Cok X ids 6 cX2_edgeIn (some .int) (d + 1) RX2 := hX
  show Wg X ids 6 _ 0 [(0, .ref o), (1, .ref a0)] [] σ
  have h := H (fun (v2 : Nat) (v3 : Int32) (v4 : Int32) (v5 : Int32) (σ : St) => (IA ids v2 0 5 → Wg X ids 6 (fun r σ1 => ∃ x, r = some (Value.int x) ∧ Q x σ1) 23 [(0, .ref o), (1, .ref a0), (2, .ref v2), (3, .int v3), (4, .int v4), (5, .int v5)] [] σ)) (fun (v2 : Nat) (v3 : Int32) (v4 : Int32) (v5 : Int32) (σ : St) => (IA ids v2 0 5 → Wg X ids 6 (fun r σ1 => ∃ x, r = some (Value.int x) ∧ Q x σ1) 54 [(2, .ref v2), (3, .int v3), (4, .int v4), (5, .int v5)] [] σ))
  replace h := h (fun v2 v3 v4 v5 σ h h_v2 => by
    replace h := h h_v2
    refine q_iload 5 hX dX2_edgeIn_23 rfl ?_
    refine q_bipush (v := 10) hX dX2_edgeIn_25 (by decide) ?_
    refine q_icmp_gt 54 hX dX2_edgeIn_27 (by decide) (fun c1 => ?_) (fun c1 => ?_)
    · replace h := h.1 c1
      exact Wg.sub [2, 3, 4, 5] rfl (h h_v2)
    · replace h := h.2 c1
      refine q_aload_n 2 hX dX2_edgeIn_30 rfl rfl ?_
      refine q_iload_n 3 hX dX2_edgeIn_31 rfl rfl ?_
      refine q_iload 5 hX dX2_edgeIn_32 rfl ?_
      obtain ⟨b2, h⟩ := h
      refine q_iast hX dX2_edgeIn_34 h_v2 b2 ?_
      refine Wg.nmS (fun s3 es3 => ?_)
      replace h := h s3 es3
      refine q_aload_n 0 hX dX2_edgeIn_35 rfl rfl ?_
      refine q_aload_n 1 hX dX2_edgeIn_36 rfl rfl ?_
      refine cl_X2_162 hX h_o dX2_edgeIn_37 (Nat.le_of_ble_eq_true rfl) h (fun x5 s4 h => ?_)
      refine q_bipush (v := 30) hX dX2_edgeIn_40 (by decide) ?_
      refine q_icmp_eq 48 hX dX2_edgeIn_42 (by decide) (fun c6 => ?_) (fun c6 => ?_)
      · replace h := h.1 c6
        obtain ⟨x7, ex7⟩ : ∃ z : Int32, z = v5 + 1 := ⟨_, rfl⟩
        replace h := h x7 ex7
        refine q_iinc (v := x7) (L' := [(5, .int x7), (0, .ref o), (1, .ref a0), (2, .ref v2), (3, .int v3), (4, .int v4)]) 5 hX dX2_edgeIn_48 rfl (by rw [ex7]; rfl) (by decide) rfl ?_
        refine q_goto 23 hX dX2_edgeIn_51 (by decide) ?_
        exact Wg.sub [1, 2, 3, 4, 5, 0] rfl (h h_v2)
      · replace h := h.2 c6
        refine q_goto 54 hX dX2_edgeIn_45 (by decide) ?_
        exact Wg.sub [2, 3, 4, 5] rfl (h h_v2)
    )
  replace h := h (fun v2 v3 v4 v5 σ h h_v2 => by
    replace h := h h_v2
    refine q_aload_n 0 hX dX2_edgeIn_54 rfl rfl ?_
    refine q_iload_n 1 hX dX2_edgeIn_55 rfl rfl ?_
    refine q_iload 2 hX dX2_edgeIn_56 rfl ?_
    obtain ⟨b8, h⟩ := h
    refine q_iast hX dX2_edgeIn_58 h_v2 b8 ?_
    refine Wg.nmS (fun s9 es9 => ?_)
    replace h := h s9 es9
    refine q_iload 3 hX dX2_edgeIn_59 rfl ?_
    exact q_ret hX dX2_edgeIn_61 ⟨_, rfl, h⟩
    )
  refine q_aload_n 1 hX dX2_edgeIn_0 rfl rfl ?_
  refine gf_X2_133 hX h_a0 dX2_edgeIn_1 ?_
  refine q_iconst (v := 2) hX dX2_edgeIn_4 (by decide) ?_
  refine q_aald (by decide) hX dX2_edgeIn_5 (rfO_1_1 h_a0) (vp_dec (by decide)) ?_
  refine q_astore_n (L' := [(2, .ref (rf (rf a0 1) (Int32.toNatClampNeg 2))), (0, .ref o), (1, .ref a0)]) hX dX2_edgeIn_6 rfl (by decide) rfl ?_
  refine q_aload_n 1 hX dX2_edgeIn_7 rfl rfl ?_
  refine cl_X2_63 hX h_o dX2_edgeIn_8 (Nat.le_of_ble_eq_true rfl) h (fun r11 s10 h => ?_)
  obtain ⟨h_r11, h⟩ := h
  refine gf_X2_71 hX h_r11 dX2_edgeIn_11 ?_
  refine Wg.nmI (fun x12 ex12 => ?_)
  replace h := h x12 ex12
  refine q_istore_n (L' := [(3, .int x12), (2, .ref (rf (rf a0 1) (Int32.toNatClampNeg 2))), (0, .ref o), (1, .ref a0)]) hX dX2_edgeIn_14 rfl (by decide) rfl ?_
  refine q_aload_n 1 hX dX2_edgeIn_15 rfl rfl ?_
  refine q_iload_n 0 hX dX2_edgeIn_16 rfl rfl ?_
  obtain ⟨b13, h⟩ := h
  refine q_iald hX dX2_edgeIn_17 (rfA_6 (rfO_1_1 h_a0) (vp_dec (by decide))) b13 ?_
  refine Wg.nmI (fun x14 ex14 => ?_)
  replace h := h x14 ex14
  refine q_istore (L' := [(4, .int x14), (3, .int x12), (2, .ref (rf (rf a0 1) (Int32.toNatClampNeg 2))), (0, .ref o), (1, .ref a0)]) hX dX2_edgeIn_18 (by decide) rfl ?_
  refine q_iconst (v := 0) hX dX2_edgeIn_20 (by decide) ?_
  refine q_istore (L' := [(5, .int 0), (4, .int x14), (3, .int x12), (2, .ref (rf (rf a0 1) (Int32.toNatClampNeg 2))), (0, .ref o), (1, .ref a0)]) hX dX2_edgeIn_21 (by decide) rfl ?_
  exact Wg.sub [4, 5, 3, 2, 1, 0] rfl (h ((rfA_6 (rfO_1_1 h_a0) (vp_dec (by decide)))))
