/-! formulas of the methods: if the formula holds, the contract does -/
set_option maxHeartbeats 4000000 in
set_option maxRecDepth 20000 in
theorem fl_X0_isKind {d : Nat} {ids : List Nat} {a0 : Int32} {σ : St} {Q : Int32 → St → Prop}  (H : ((a0 < 0 → Q 0 σ) ∧ (¬ (a0 < 0) → ((7 ≤ a0 → Q 0 σ) ∧ (¬ (7 ≤ a0) → Q 1 σ))))) : EI (d + 1) ids Y_X0_isKind [.int a0] σ Q := by
  refine E_mk (by decide) (Nat.le_of_ble_eq_true rfl) (fun X hX => ?_)
  replace hX : Cok X ids 1 cX0_isKind (some .boolean) (d + 1) RX0 := hX
  show Wg X ids 1 _ 0 [(0, .int a0)] [] σ
  have h := H
  refine q_iload_n 0 hX dX0_isKind_0 rfl rfl ?_
  refine q_if_lt 14 hX dX0_isKind_1 (by decide) (fun c1 => ?_) (fun c1 => ?_)
  · replace h := h.1 c1
    refine q_iconst (v := 0) hX dX0_isKind_14 (by decide) ?_
    exact q_zret hX dX0_isKind_15 (by decide) ⟨_, rfl, h⟩
  · replace h := h.2 c1
    refine q_iload_n 0 hX dX0_isKind_4 rfl rfl ?_
    refine q_bipush (v := 7) hX dX0_isKind_5 (by decide) ?_
    refine q_icmp_ge 14 hX dX0_isKind_7 (by decide) (fun c2 => ?_) (fun c2 => ?_)
    · replace h := h.1 c2
      refine q_iconst (v := 0) hX dX0_isKind_14 (by decide) ?_
      exact q_zret hX dX0_isKind_15 (by decide) ⟨_, rfl, h⟩
    · replace h := h.2 c2
      refine q_iconst (v := 1) hX dX0_isKind_10 (by decide) ?_
      refine q_goto 15 hX dX0_isKind_11 (by decide) ?_
      exact q_zret hX dX0_isKind_15 (by decide) ⟨_, rfl, h⟩
set_option maxHeartbeats 4000000 in
set_option maxRecDepth 20000 in
theorem fl_X0_isUnder {d : Nat} {ids : List Nat} {a0 : Int32} {a1 : Int32} {σ : St} {Q : Int32 → St → Prop}  (H : ∀ (P5 : Int32 → Int32 → St → Prop), (∀ (v2 : Int32) (v3 : Int32) (σ : St), (((v3 ≤ 0 → Q 0 σ) ∧ (¬ (v3 ≤ 0) → EI d ids Y_X0_isKind [.int v2] σ (fun x3 s2 => ((x3 = 0 → Q 0 s2) ∧ (¬ x3 = 0 → ((¬ v2 = a1 → vp_in v2 7 ∧ ∀ x7 : Int32, x7 = (tAb (Int32.toNatClampNeg v2)) → ∀ x8 : Int32, x8 = v3 + (-1) → P5 x7 x8 s2) ∧ (v2 = a1 → Q 1 s2)))))))) → P5 v2 v3 σ) → P5 a0 7 σ) : EI (d + 1) ids Y_X0_isUnder [.int a0, .int a1] σ Q := by
  refine E_mk (by decide) (Nat.le_of_ble_eq_true rfl) (fun X hX => ?_)
  replace hX : Cok X ids 4 cX0_isUnder (some .boolean) (d + 1) RX0 := hX
  show Wg X ids 4 _ 0 [(0, .int a0), (1, .int a1)] [] σ
  have h := H (fun (v2 : Int32) (v3 : Int32) (σ : St) => (Wg X ids 4 (fun r σ1 => ∃ x, r = some (Value.int x) ∧ Q x σ1) 5 [(1, .int a1), (2, .int v2), (3, .int v3)] [] σ))
  replace h := h (fun v2 v3 σ h => by
    refine q_iload_n 2 hX dX0_isUnder_5 rfl rfl ?_
    refine q_if_le 35 hX dX0_isUnder_6 (by decide) (fun c1 => ?_) (fun c1 => ?_)
    · replace h := h.1 c1
      refine q_iconst (v := 0) hX dX0_isUnder_35 (by decide) ?_
      exact q_zret hX dX0_isUnder_36 (by decide) ⟨_, rfl, h⟩
    · replace h := h.2 c1
      refine q_iload_n 1 hX dX0_isUnder_9 rfl rfl ?_
      refine cl_X0_15 hX dX0_isUnder_10 (Nat.le_of_ble_eq_true rfl) h (fun x3 s2 h => ?_)
      refine q_if_eq 35 hX dX0_isUnder_13 (by decide) (fun c4 => ?_) (fun c4 => ?_)
      · replace h := h.1 c4
        refine q_iconst (v := 0) hX dX0_isUnder_35 (by decide) ?_
        exact q_zret hX dX0_isUnder_36 (by decide) ⟨_, rfl, h⟩
      · replace h := h.2 c4
        refine q_iload_n 1 hX dX0_isUnder_16 rfl rfl ?_
        refine q_iload_n 0 hX dX0_isUnder_17 rfl rfl ?_
        refine q_icmp_ne 23 hX dX0_isUnder_18 (by decide) (fun c5 => ?_) (fun c5 => ?_)
        · replace h := h.1 c5
          refine q_gets 1002 hX dX0_isUnder_23 tb_749 (fun _ _ _ _ h => h.2.1.1) ?_
          refine q_iload_n 1 hX dX0_isUnder_26 rfl rfl ?_
          obtain ⟨b6, h⟩ := h
          refine q_tald hX dX0_isUnder_27 (fun _ _ _ _ h => h.2.1.2) b6 ?_
          refine Wg.nmI (fun x7 ex7 => ?_)
          replace h := h x7 ex7
          refine q_istore_n (L' := [(2, .int x7), (1, .int a1), (3, .int v3)]) hX dX0_isUnder_28 rfl (by decide) rfl ?_
          obtain ⟨x8, ex8⟩ : ∃ z : Int32, z = v3 + (-1) := ⟨_, rfl⟩
          replace h := h x8 ex8
          refine q_iinc (v := x8) (L' := [(3, .int x8), (2, .int x7), (1, .int a1)]) 2 hX dX0_isUnder_29 rfl (by rw [ex8]; rfl) (by decide) rfl ?_
          refine q_goto 5 hX dX0_isUnder_32 (by decide) ?_
          exact Wg.sub [2, 1, 0] rfl (h)
        · replace h := h.2 c5
          refine q_iconst (v := 1) hX dX0_isUnder_21 (by decide) ?_
          exact q_zret hX dX0_isUnder_22 (by decide) ⟨_, rfl, h⟩
    )
  refine q_iload_n 0 hX dX0_isUnder_0 rfl rfl ?_
  refine q_istore_n (L' := [(2, .int a0), (0, .int a0), (1, .int a1)]) hX dX0_isUnder_1 rfl (by decide) rfl ?_
  refine q_bipush (v := 7) hX dX0_isUnder_2 (by decide) ?_
  refine q_istore_n (L' := [(3, .int 7), (2, .int a0), (0, .int a0), (1, .int a1)]) hX dX0_isUnder_4 rfl (by decide) rfl ?_
  exact Wg.sub [3, 1, 0] rfl (h)
set_option maxHeartbeats 4000000 in
set_option maxRecDepth 20000 in
theorem fl_X0_start {d : Nat} {ids : List Nat} {o : Nat} {a0 : Int32} {a1 : Int32} {a2 : Int32} {a3 : Int32} {a4 : Int32} {σ : St} {Q : Int32 → St → Prop} (h_o : IO ids o 0) (H : ∀ s1 : St, s1 = si σ o 0 0 → EI d ids Y_X0_isKind [.int a0] s1 (fun x3 s2 => ((x3 = 0 → Q 0 s2) ∧ (¬ x3 = 0 → ((a1 < 0 → Q 0 s2) ∧ (¬ (a1 < 0) → ((a1 < 3 → ∀ s7 : St, s7 = si s2 o 2 a3 → ∀ s8 : St, s8 = si s7 o 3 a4 → EI d ids Y_X0_run [.ref o, .int a0, .int a0, .int a1, .int a2, .int 0] s8 (fun x10 s9 => Q x10 s9)) ∧ (¬ (a1 < 3) → Q 0 s2)))))))) : EI (d + 1) ids Y_X0_start [.ref o, .int a0, .int a1, .int a2, .int a3, .int a4] σ Q := by
  refine E_mk (by decide) (Nat.le_of_ble_eq_true rfl) (fun X hX => ?_)
  replace hX : Cok X ids 6 cX0_start (some .int) (d + 1) RX0 := hX
  show Wg X ids 6 _ 0 [(0, .ref o), (1, .int a0), (2, .int a1), (3, .int a2), (4, .int a3), (5, .int a4)] [] σ
  have h := H
  refine q_aload_n 0 hX dX0_start_0 rfl rfl ?_
  refine q_iconst (v := 0) hX dX0_start_1 (by decide) ?_
  refine pf_X0_22 hX h_o dX0_start_2 ?_
  refine Wg.nmS (fun s1 es1 => ?_)
  replace h := h s1 es1
  refine q_iload_n 1 hX dX0_start_5 rfl rfl ?_
  refine cl_X0_15 hX dX0_start_6 (Nat.le_of_ble_eq_true rfl) h (fun x3 s2 h => ?_)
  refine q_if_eq 21 hX dX0_start_9 (by decide) (fun c4 => ?_) (fun c4 => ?_)
  · replace h := h.1 c4
    refine q_iconst (v := 0) hX dX0_start_21 (by decide) ?_
    exact q_ret hX dX0_start_22 ⟨_, rfl, h⟩
  · replace h := h.2 c4
    refine q_iload_n 2 hX dX0_start_12 rfl rfl ?_
    refine q_if_lt 21 hX dX0_start_13 (by decide) (fun c5 => ?_) (fun c5 => ?_)
    · replace h := h.1 c5
      refine q_iconst (v := 0) hX dX0_start_21 (by decide) ?_
      exact q_ret hX dX0_start_22 ⟨_, rfl, h⟩
    · replace h := h.2 c5
      refine q_iload_n 2 hX dX0_start_16 rfl rfl ?_
      refine q_iconst (v := 3) hX dX0_start_17 (by decide) ?_
      refine q_icmp_lt 23 hX dX0_start_18 (by decide) (fun c6 => ?_) (fun c6 => ?_)
      · replace h := h.1 c6
        refine q_aload_n 0 hX dX0_start_23 rfl rfl ?_
        refine q_iload 4 hX dX0_start_24 rfl ?_
        refine pf_X0_26 hX h_o dX0_start_26 ?_
        refine Wg.nmS (fun s7 es7 => ?_)
        replace h := h s7 es7
        refine q_aload_n 0 hX dX0_start_29 rfl rfl ?_
        refine q_iload 5 hX dX0_start_30 rfl ?_
        refine pf_X0_29 hX h_o dX0_start_32 ?_
        refine Wg.nmS (fun s8 es8 => ?_)
        replace h := h s8 es8
        refine q_aload_n 0 hX dX0_start_35 rfl rfl ?_
        refine q_iload_n 1 hX dX0_start_36 rfl rfl ?_
        refine q_iload_n 1 hX dX0_start_37 rfl rfl ?_
        refine q_iload_n 2 hX dX0_start_38 rfl rfl ?_
        refine q_iload_n 3 hX dX0_start_39 rfl rfl ?_
        refine q_iconst (v := 0) hX dX0_start_40 (by decide) ?_
        refine cl_X0_32 hX h_o dX0_start_41 (Nat.le_of_ble_eq_true rfl) h (fun x10 s9 h => ?_)
        exact q_ret hX dX0_start_44 ⟨_, rfl, h⟩
      · replace h := h.2 c6
        refine q_iconst (v := 0) hX dX0_start_21 (by decide) ?_
        exact q_ret hX dX0_start_22 ⟨_, rfl, h⟩
set_option maxHeartbeats 4000000 in
set_option maxRecDepth 20000 in
theorem fl_X0_bodyAt {d : Nat} {ids : List Nat} {o : Nat} {a0 : Int32} {σ : St} {Q : Int32 → St → Prop} (h_o : IO ids o 0) (H : ∀ (P18 : St → Prop), (∀ (σ : St), (Q (-1) σ) → P18 σ) → ((a0 < 0 → P18 σ) ∧ (¬ (a0 < 0) → (((gi σ o 0) ≤ a0 → P18 σ) ∧ (¬ ((gi σ o 0) ≤ a0) → ((a0 < 20 → vp_in a0 20 ∧ Q (gi σ (rf o 1) (Int32.toNatClampNeg a0)) σ) ∧ (¬ (a0 < 20) → P18 σ))))))) : EI (d + 1) ids Y_X0_bodyAt [.ref o, .int a0] σ Q := by
  refine E_mk (by decide) (Nat.le_of_ble_eq_true rfl) (fun X hX => ?_)
  replace hX : Cok X ids 2 cX0_bodyAt (some .int) (d + 1) RX0 := hX
  show Wg X ids 2 _ 0 [(0, .ref o), (1, .int a0)] [] σ
  have h := H (fun (σ : St) => (Wg X ids 2 (fun r σ1 => ∃ x, r = some (Value.int x) ∧ Q x σ1) 18 [] [] σ))
  replace h := h (fun σ h => by
    refine q_iconst (v := (-1)) hX dX0_bodyAt_18 (by decide) ?_
    refine q_goto 28 hX dX0_bodyAt_19 (by decide) ?_
    exact q_ret hX dX0_bodyAt_28 ⟨_, rfl, h⟩
    )
  refine q_iload_n 1 hX dX0_bodyAt_0 rfl rfl ?_
  refine q_if_lt 18 hX dX0_bodyAt_1 (by decide) (fun c1 => ?_) (fun c1 => ?_)
  · replace h := h.1 c1
    exact Wg.sub [] rfl (h)
  · replace h := h.2 c1
    refine q_iload_n 1 hX dX0_bodyAt_4 rfl rfl ?_
    refine q_aload_n 0 hX dX0_bodyAt_5 rfl rfl ?_
    refine gf_X0_22 hX h_o dX0_bodyAt_6 ?_
    refine q_icmp_ge 18 hX dX0_bodyAt_9 (by decide) (fun c2 => ?_) (fun c2 => ?_)
    · replace h := h.1 c2
      exact Wg.sub [] rfl (h)
    · replace h := h.2 c2
      refine q_iload_n 1 hX dX0_bodyAt_12 rfl rfl ?_
      refine q_bipush (v := 20) hX dX0_bodyAt_13 (by decide) ?_
      refine q_icmp_lt 22 hX dX0_bodyAt_15 (by decide) (fun c3 => ?_) (fun c3 => ?_)
      · replace h := h.1 c3
        refine q_aload_n 0 hX dX0_bodyAt_22 rfl rfl ?_
        refine gf_X0_11 hX h_o dX0_bodyAt_23 ?_
        refine q_iload_n 1 hX dX0_bodyAt_26 rfl rfl ?_
        obtain ⟨b4, h⟩ := h
        refine q_iald hX dX0_bodyAt_27 (rfO_0_1 h_o) b4 ?_
        exact q_ret hX dX0_bodyAt_28 ⟨_, rfl, h⟩
      · replace h := h.2 c3
        exact Wg.sub [] rfl (h)
set_option maxHeartbeats 4000000 in
set_option maxRecDepth 20000 in
theorem fl_X0_note {d : Nat} {ids : List Nat} {o : Nat} {a0 : Int32} {σ : St} {Q : St → Prop} (h_o : IO ids o 0) (H : ∀ (P19 : St → Prop), (∀ (σ : St), (∀ s1 : St, s1 = si σ o 0 ((gi σ o 0) + 1) → Q s1) → P19 σ) → ((20 ≤ (gi σ o 0) → P19 σ) ∧ (¬ (20 ≤ (gi σ o 0)) → vp_in (gi σ o 0) 20 ∧ ∀ s4 : St, s4 = si σ (rf o 1) (Int32.toNatClampNeg (gi σ o 0)) a0 → P19 s4))) : EV (d + 1) ids Y_X0_note [.ref o, .int a0] σ Q := by
  refine E_mk (by decide) (Nat.le_of_ble_eq_true rfl) (fun X hX => ?_)
  replace hX : Cok X ids 2 cX0_note none (d + 1) RX0 := hX
  show Wg X ids 2 _ 0 [(0, .ref o), (1, .int a0)] [] σ
  have h := H (fun (σ : St) => (Wg X ids 2 (fun r σ1 => r = none ∧ Q σ1) 19 [(0, .ref o)] [] σ))
  replace h := h (fun σ h => by
    refine q_aload_n 0 hX dX0_note_19 rfl rfl ?_
    refine q_dup hX dX0_note_20 rfl ?_
    refine gf_X0_22 hX h_o dX0_note_21 ?_
    refine q_iconst (v := 1) hX dX0_note_24 (by decide) ?_
    refine q_iadd hX dX0_note_25 ?_
    refine pf_X0_22 hX h_o dX0_note_26 ?_
    refine Wg.nmS (fun s1 es1 => ?_)
    replace h := h s1 es1
    exact q_vret hX dX0_note_29 ⟨rfl, h⟩
    )
  refine q_aload_n 0 hX dX0_note_0 rfl rfl ?_
  refine gf_X0_22 hX h_o dX0_note_1 ?_
  refine q_bipush (v := 20) hX dX0_note_4 (by decide) ?_
  refine q_icmp_ge 19 hX dX0_note_6 (by decide) (fun c2 => ?_) (fun c2 => ?_)
  · replace h := h.1 c2
    exact Wg.sub [0] rfl (h)
  · replace h := h.2 c2
    refine q_aload_n 0 hX dX0_note_9 rfl rfl ?_
    refine gf_X0_11 hX h_o dX0_note_10 ?_
    refine q_aload_n 0 hX dX0_note_13 rfl rfl ?_
    refine gf_X0_22 hX h_o dX0_note_14 ?_
    refine q_iload_n 1 hX dX0_note_17 rfl rfl ?_
    obtain ⟨b3, h⟩ := h
    refine q_iast hX dX0_note_18 (rfO_0_1 h_o) b3 ?_
    refine Wg.nmS (fun s4 es4 => ?_)
    replace h := h s4 es4
    exact Wg.sub [0] rfl (h)
set_option maxHeartbeats 4000000 in
set_option maxRecDepth 20000 in
theorem fl_X0_run {d : Nat} {ids : List Nat} {o : Nat} {a0 : Int32} {a1 : Int32} {a2 : Int32} {a3 : Int32} {a4 : Int32} {σ : St} {Q : Int32 → St → Prop} (h_o : IO ids o 0) (H : ∀ (P7 : Int32 → Int32 → St → Prop) (P47 : Int32 → St → Prop), (∀ (v6 : Int32) (v7 : Int32) (σ : St), (((v7 ≤ 0 → P47 v6 σ) ∧ (¬ (v7 ≤ 0) → EI d ids Y_X0_isKind [.int v6] σ (fun x3 s2 => ((x3 = 0 → P47 v6 s2) ∧ (¬ x3 = 0 → vp_in ((3 * v6) + a2) 21 ∧ ((¬ (tBo (Int32.toNatClampNeg ((3 * v6) + a2))) = 0 → P47 v6 s2) ∧ ((tBo (Int32.toNatClampNeg ((3 * v6) + a2))) = 0 → vp_in v6 7 ∧ ∀ x8 : Int32, x8 = (tAb (Int32.toNatClampNeg v6)) → ∀ x9 : Int32, x9 = v7 + (-1) → P7 x8 x9 s2)))))))) → P7 v6 v7 σ) → (∀ (v6 : Int32) (σ : St), (EI d ids Y_X0_isKind [.int v6] σ (fun x11 s10 => ((x11 = 0 → Q 0 s10) ∧ (¬ x11 = 0 → ((a4 ≤ 40 → vp_in ((3 * v6) + a2) 21 ∧ ∀ x15 : Int32, x15 = (tBo (Int32.toNatClampNeg ((3 * v6) + a2))) → vp_in v6 7 ∧ ∀ x17 : Int32, x17 = (tAb (Int32.toNatClampNeg v6)) → ∀ x18 : Int32, x18 = (a4 + 1) → EV d ids Y_X0_note [.ref o, .int x15] s10 (fun s19 => ((x15 = 10 → Q (a3 + (gi s19 o 2)) s19) ∧ (x15 = 11 → EI d ids Y_X0_run [.ref o, .int a0, .int a0, .int 0, .int a3, .int x18] s19 (fun x22 s21 => Q (x22 - (gi s21 o 3)) s21)) ∧ (x15 = 12 → EI d ids Y_X0_run [.ref o, .int a0, .int a0, .int 1, .int a3, .int x18] s19 (fun x24 s23 => Q (x24 * 2) s23)) ∧ (x15 = 20 → EI d ids Y_X0_run [.ref o, .int a0, .int x17, .int 1, .int a3, .int x18] s19 (fun x26 s25 => Q (x26 ^^^ 5) s25)) ∧ (x15 = 30 → EI d ids Y_X0_run [.ref o, .int a0, .int x17, .int 0, .int (a3 * 3), .int x18] s19 (fun x28 s27 => Q x28 s27)) ∧ (x15 = 31 → EI d ids Y_X0_run [.ref o, .int a0, .int x17, .int 2, .int a3, .int x18] s19 (fun x30 s29 => EI d ids Y_X0_run [.ref o, .int a0, .int a0, .int 1, .int 1, .int x18] s29 (fun x32 s31 => Q (x30 + x32) s31))) ∧ (x15 = 40 → EI d ids Y_X0_run [.ref o, .int a0, .int x17, .int 0, .int a3, .int x18] s19 (fun x34 s33 => Q (-x34) s33)) ∧ (x15 = 50 → EI d ids Y_X0_run [.ref o, .int a0, .int x17, .int 2, .int (a3 - (gi s19 o 2)), .int x18] s19 (fun x36 s35 => Q x36 s35)) ∧ (x15 = 60 → EI d ids Y_X0_run [.ref o, .int a0, .int x17, .int 0, .int a3, .int x18] s19 (fun x38 s37 => Q (x38 ^^^ (gi s37 o 3)) s37)) ∧ (x15 = 61 → EI d ids Y_X0_run [.ref o, .int a0, .int x17, .int 1, .int a3, .int x18] s19 (fun x40 s39 => EI d ids Y_X0_run [.ref o, .int a0, .int x17, .int 0, .int 2, .int x18] s39 (fun x42 s41 => Q (x40 + x42) s41))) ∧ (x15 = 70 → EI d ids Y_X0_run [.ref o, .int a0, .int a0, .int 1, .int a3, .int x18] s19 (fun x44 s43 => EI d ids Y_X0_run [.ref o, .int a0, .int x17, .int 2, .int a3, .int x18] s43 (fun x46 s45 => Q (x44 - x46) s45))) ∧ (¬ x15 = 10 → ¬ x15 = 11 → ¬ x15 = 12 → ¬ x15 = 20 → ¬ x15 = 30 → ¬ x15 = 31 → ¬ x15 = 40 → ¬ x15 = 50 → ¬ x15 = 60 → ¬ x15 = 61 → ¬ x15 = 70 → Q 0 s19)))) ∧ (¬ (a4 ≤ 40) → Q 0 s10)))))) → P47 v6 σ) → P7 a1 7 σ) : EI (d + 1) ids Y_X0_run [.ref o, .int a0, .int a1, .int a2, .int a3, .int a4] σ Q := by
  refine E_mk (by decide) (Nat.le_of_ble_eq_true rfl) (fun X hX => ?_)
  replace hX : Cok X ids 10 cX0_run (some .int) (d + 1) RX0 := hX
  show Wg X ids 10 _ 0 [(0, .ref o), (1, .int a0), (2, .int a1), (3, .int a2), (4, .int a3), (5, .int a4)] [] σ
  have h := H (fun (v6 : Int32) (v7 : Int32) (σ : St) => (Wg X ids 10 (fun r σ1 => ∃ x, r = some (Value.int x) ∧ Q x σ1) 7 [(0, .ref o), (1, .int a0), (3, .int a2), (4, .int a3), (5, .int a4), (6, .int v6), (7, .int v7)] [] σ)) (fun (v6 : Int32) (σ : St) => (Wg X ids 10 (fun r σ1 => ∃ x, r = some (Value.int x) ∧ Q x σ1) 47 [(0, .ref o), (1, .int a0), (3, .int a2), (4, .int a3), (5, .int a4), (6, .int v6)] [] σ))
  replace h := h (fun v6 v7 σ h => by
    refine q_iload 6 hX dX0_run_7 rfl ?_
    refine q_if_le 47 hX dX0_run_9 (by decide) (fun c1 => ?_) (fun c1 => ?_)
    · replace h := h.1 c1
      exact Wg.sub [0, 1, 2, 3, 4, 5] rfl (h)
    · replace h := h.2 c1
      refine q_iload 5 hX dX0_run_12 rfl ?_
      refine cl_X0_15 hX dX0_run_14 (Nat.le_of_ble_eq_true rfl) h (fun x3 s2 h => ?_)
      refine q_if_eq 47 hX dX0_run_17 (by decide) (fun c4 => ?_) (fun c4 => ?_)
      · replace h := h.1 c4
        exact Wg.sub [0, 1, 2, 3, 4, 5] rfl (h)
      · replace h := h.2 c4
        refine q_gets 1003 hX dX0_run_20 tb_747 (fun _ _ _ _ h => h.2.2.1.1) ?_
        refine q_iconst (v := 3) hX dX0_run_23 (by decide) ?_
        refine q_iload 5 hX dX0_run_24 rfl ?_
        refine q_imul hX dX0_run_26 ?_
        refine q_iload_n 2 hX dX0_run_27 rfl rfl ?_
        refine q_iadd hX dX0_run_28 ?_
        obtain ⟨b5, h⟩ := h
        refine q_tald hX dX0_run_29 (fun _ _ _ _ h => h.2.2.1.2) b5 ?_
        refine q_if_ne 47 hX dX0_run_30 (by decide) (fun c6 => ?_) (fun c6 => ?_)
        · replace h := h.1 c6
          exact Wg.sub [0, 1, 2, 3, 4, 5] rfl (h)
        · replace h := h.2 c6
          refine q_gets 1002 hX dX0_run_33 tb_749 (fun _ _ _ _ h => h.2.1.1) ?_
          refine q_iload 5 hX dX0_run_36 rfl ?_
          obtain ⟨b7, h⟩ := h
          refine q_tald hX dX0_run_38 (fun _ _ _ _ h => h.2.1.2) b7 ?_
          refine Wg.nmI (fun x8 ex8 => ?_)
          replace h := h x8 ex8
          refine q_istore (L' := [(6, .int x8), (0, .ref o), (1, .int a0), (3, .int a2), (4, .int a3), (5, .int a4), (7, .int v7)]) hX dX0_run_39 (by decide) rfl ?_
          obtain ⟨x9, ex9⟩ : ∃ z : Int32, z = v7 + (-1) := ⟨_, rfl⟩
          replace h := h x9 ex9
          refine q_iinc (v := x9) (L' := [(7, .int x9), (6, .int x8), (0, .ref o), (1, .int a0), (3, .int a2), (4, .int a3), (5, .int a4)]) 6 hX dX0_run_41 rfl (by rw [ex9]; rfl) (by decide) rfl ?_
          refine q_goto 7 hX dX0_run_44 (by decide) ?_
          exact Wg.sub [2, 3, 4, 5, 6, 1, 0] rfl (h)
    )
  replace h := h (fun v6 σ h => by
    refine q_iload 5 hX dX0_run_47 rfl ?_
    refine cl_X0_15 hX dX0_run_49 (Nat.le_of_ble_eq_true rfl) h (fun x11 s10 h => ?_)
    refine q_if_eq 62 hX dX0_run_52 (by decide) (fun c12 => ?_) (fun c12 => ?_)
    · replace h := h.1 c12
      refine q_iconst (v := 0) hX dX0_run_62 (by decide) ?_
      exact q_ret hX dX0_run_63 ⟨_, rfl, h⟩
    · replace h := h.2 c12
      refine q_iload 4 hX dX0_run_55 rfl ?_
      refine q_bipush (v := 40) hX dX0_run_57 (by decide) ?_
      refine q_icmp_le 64 hX dX0_run_59 (by decide) (fun c13 => ?_) (fun c13 => ?_)
      · replace h := h.1 c13
        refine q_gets 1003 hX dX0_run_64 tb_747 (fun _ _ _ _ h => h.2.2.1.1) ?_
        refine q_iconst (v := 3) hX dX0_run_67 (by decide) ?_
        refine q_iload 5 hX dX0_run_68 rfl ?_
        refine q_imul hX dX0_run_70 ?_
        refine q_iload_n 2 hX dX0_run_71 rfl rfl ?_
        refine q_iadd hX dX0_run_72 ?_
        obtain ⟨b14, h⟩ := h
        refine q_tald hX dX0_run_73 (fun _ _ _ _ h => h.2.2.1.2) b14 ?_
        refine Wg.nmI (fun x15 ex15 => ?_)
        replace h := h x15 ex15
        refine q_istore (L' := [(7, .int x15), (0, .ref o), (1, .int a0), (3, .int a2), (4, .int a3), (5, .int a4), (6, .int v6)]) hX dX0_run_74 (by decide) rfl ?_
        refine q_gets 1002 hX dX0_run_76 tb_749 (fun _ _ _ _ h => h.2.1.1) ?_
        refine q_iload 6 hX dX0_run_79 rfl ?_
        obtain ⟨b16, h⟩ := h
        refine q_tald hX dX0_run_81 (fun _ _ _ _ h => h.2.1.2) b16 ?_
        refine Wg.nmI (fun x17 ex17 => ?_)
        replace h := h x17 ex17
        refine q_istore (L' := [(8, .int x17), (7, .int x15), (0, .ref o), (1, .int a0), (3, .int a2), (4, .int a3), (5, .int a4), (6, .int v6)]) hX dX0_run_82 (by decide) rfl ?_
        refine q_iload 6 hX dX0_run_84 rfl ?_
        refine q_iconst (v := 1) hX dX0_run_86 (by decide) ?_
        refine q_iadd hX dX0_run_87 ?_
        refine Wg.nmI (fun x18 ex18 => ?_)
        replace h := h x18 ex18
        refine q_istore (L' := [(9, .int x18), (8, .int x17), (7, .int x15), (0, .ref o), (1, .int a0), (3, .int a2), (4, .int a3), (5, .int a4), (6, .int v6)]) hX dX0_run_88 (by decide) rfl ?_
        refine q_aload_n 3 hX dX0_run_90 rfl rfl ?_
        refine q_iload 2 hX dX0_run_91 rfl ?_
        refine cl_X0_39 hX h_o dX0_run_93 (Nat.le_of_ble_eq_true rfl) h (fun s19 h => ?_)
        refine q_iload 2 hX dX0_run_96 rfl ?_
        by_cases c20_0 : x15 = 10
        · refine q_lookup (off := 98) 196 hX dX0_run_98 (by decide) (by first | (rw [c20_0]; done) | (rw [c20_0]; rfl)) (by decide) ?_
          replace h := h.1 c20_0
          refine q_iload 6 hX dX0_run_196 rfl ?_
          refine q_aload_n 3 hX dX0_run_198 rfl rfl ?_
          refine gf_X0_26 hX h_o dX0_run_199 ?_
          refine q_iadd hX dX0_run_202 ?_
          exact q_ret hX dX0_run_203 ⟨_, rfl, h⟩
        by_cases c20_1 : x15 = 11
        · refine q_lookup (off := 106) 204 hX dX0_run_98 (by decide) (by first | (rw [c20_1]; done) | (rw [c20_1]; rfl)) (by decide) ?_
          replace h := h.2.1 c20_1
          refine q_aload_n 3 hX dX0_run_204 rfl rfl ?_
          refine q_iload_n 4 hX dX0_run_205 rfl rfl ?_
          refine q_iload_n 4 hX dX0_run_206 rfl rfl ?_
          refine q_iconst (v := 0) hX dX0_run_207 (by decide) ?_
          refine q_iload 6 hX dX0_run_208 rfl ?_
          refine q_iload 0 hX dX0_run_210 rfl ?_
          refine cl_X0_32 hX h_o dX0_run_212 (Nat.le_of_ble_eq_true rfl) h (fun x22 s21 h => ?_)
          refine q_aload_n 3 hX dX0_run_215 rfl rfl ?_
          refine gf_X0_29 hX h_o dX0_run_216 ?_
          refine q_isub hX dX0_run_219 ?_
          exact q_ret hX dX0_run_220 ⟨_, rfl, h⟩
        by_cases c20_2 : x15 = 12
        · refine q_lookup (off := 123) 221 hX dX0_run_98 (by decide) (by first | (rw [c20_2]; done) | (rw [c20_2]; rfl)) (by decide) ?_
          replace h := h.2.2.1 c20_2
          refine q_aload_n 3 hX dX0_run_221 rfl rfl ?_
          refine q_iload_n 4 hX dX0_run_222 rfl rfl ?_
          refine q_iload_n 4 hX dX0_run_223 rfl rfl ?_
          refine q_iconst (v := 1) hX dX0_run_224 (by decide) ?_
          refine q_iload 6 hX dX0_run_225 rfl ?_
          refine q_iload 0 hX dX0_run_227 rfl ?_
          refine cl_X0_32 hX h_o dX0_run_229 (Nat.le_of_ble_eq_true rfl) h (fun x24 s23 h => ?_)
          refine q_iconst (v := 2) hX dX0_run_232 (by decide) ?_
          refine q_imul hX dX0_run_233 ?_
          exact q_ret hX dX0_run_234 ⟨_, rfl, h⟩
        by_cases c20_3 : x15 = 20
        · refine q_lookup (off := 137) 235 hX dX0_run_98 (by decide) (by first | (rw [c20_3]; done) | (rw [c20_3]; rfl)) (by decide) ?_
          replace h := h.2.2.2.1 c20_3
          refine q_aload_n 3 hX dX0_run_235 rfl rfl ?_
          refine q_iload_n 4 hX dX0_run_236 rfl rfl ?_
          refine q_iload 1 hX dX0_run_237 rfl ?_
          refine q_iconst (v := 1) hX dX0_run_239 (by decide) ?_
          refine q_iload 6 hX dX0_run_240 rfl ?_
          refine q_iload 0 hX dX0_run_242 rfl ?_
          refine cl_X0_32 hX h_o dX0_run_244 (Nat.le_of_ble_eq_true rfl) h (fun x26 s25 h => ?_)
          refine q_iconst (v := 5) hX dX0_run_247 (by decide) ?_
          refine q_ixor hX dX0_run_248 ?_
          exact q_ret hX dX0_run_249 ⟨_, rfl, h⟩
        by_cases c20_4 : x15 = 30
        · refine q_lookup (off := 152) 250 hX dX0_run_98 (by decide) (by first | (rw [c20_4]; done) | (rw [c20_4]; rfl)) (by decide) ?_
          replace h := h.2.2.2.2.1 c20_4
          refine q_aload_n 3 hX dX0_run_250 rfl rfl ?_
          refine q_iload_n 4 hX dX0_run_251 rfl rfl ?_
          refine q_iload 1 hX dX0_run_252 rfl ?_
          refine q_iconst (v := 0) hX dX0_run_254 (by decide) ?_
          refine q_iload 6 hX dX0_run_255 rfl ?_
          refine q_iconst (v := 3) hX dX0_run_257 (by decide) ?_
          refine q_imul hX dX0_run_258 ?_
          refine q_iload 0 hX dX0_run_259 rfl ?_
          refine cl_X0_32 hX h_o dX0_run_261 (Nat.le_of_ble_eq_true rfl) h (fun x28 s27 h => ?_)
          exact q_ret hX dX0_run_264 ⟨_, rfl, h⟩
        by_cases c20_5 : x15 = 31
        · refine q_lookup (off := 167) 265 hX dX0_run_98 (by decide) (by first | (rw [c20_5]; done) | (rw [c20_5]; rfl)) (by decide) ?_
          replace h := h.2.2.2.2.2.1 c20_5
          refine q_aload_n 3 hX dX0_run_265 rfl rfl ?_
          refine q_iload_n 4 hX dX0_run_266 rfl rfl ?_
          refine q_iload 1 hX dX0_run_267 rfl ?_
          refine q_iconst (v := 2) hX dX0_run_269 (by decide) ?_
          refine q_iload 6 hX dX0_run_270 rfl ?_
          refine q_iload 0 hX dX0_run_272 rfl ?_
          refine cl_X0_32 hX h_o dX0_run_274 (Nat.le_of_ble_eq_true rfl) h (fun x30 s29 h => ?_)
          refine q_aload_n 3 hX dX0_run_277 rfl rfl ?_
          refine q_iload_n 4 hX dX0_run_278 rfl rfl ?_
          refine q_iload_n 4 hX dX0_run_279 rfl rfl ?_
          refine q_iconst (v := 1) hX dX0_run_280 (by decide) ?_
          refine q_iconst (v := 1) hX dX0_run_281 (by decide) ?_
          refine q_iload 0 hX dX0_run_282 rfl ?_
          refine cl_X0_32 hX h_o dX0_run_284 (Nat.le_of_ble_eq_true rfl) h (fun x32 s31 h => ?_)
          refine q_iadd hX dX0_run_287 ?_
          exact q_ret hX dX0_run_288 ⟨_, rfl, h⟩
        by_cases c20_6 : x15 = 40
        · refine q_lookup (off := 191) 289 hX dX0_run_98 (by decide) (by first | (rw [c20_6]; done) | (rw [c20_6]; rfl)) (by decide) ?_
          replace h := h.2.2.2.2.2.2.1 c20_6
          refine q_aload_n 3 hX dX0_run_289 rfl rfl ?_
          refine q_iload_n 4 hX dX0_run_290 rfl rfl ?_
          refine q_iload 1 hX dX0_run_291 rfl ?_
          refine q_iconst (v := 0) hX dX0_run_293 (by decide) ?_
          refine q_iload 6 hX dX0_run_294 rfl ?_
          refine q_iload 0 hX dX0_run_296 rfl ?_
          refine cl_X0_32 hX h_o dX0_run_298 (Nat.le_of_ble_eq_true rfl) h (fun x34 s33 h => ?_)
          refine q_ineg hX dX0_run_301 ?_
          exact q_ret hX dX0_run_302 ⟨_, rfl, h⟩
        by_cases c20_7 : x15 = 50
        · refine q_lookup (off := 205) 303 hX dX0_run_98 (by decide) (by first | (rw [c20_7]; done) | (rw [c20_7]; rfl)) (by decide) ?_
          replace h := h.2.2.2.2.2.2.2.1 c20_7
          refine q_aload_n 3 hX dX0_run_303 rfl rfl ?_
          refine q_iload_n 4 hX dX0_run_304 rfl rfl ?_
          refine q_iload 1 hX dX0_run_305 rfl ?_
          refine q_iconst (v := 2) hX dX0_run_307 (by decide) ?_
          refine q_iload 6 hX dX0_run_308 rfl ?_
          refine q_aload_n 3 hX dX0_run_310 rfl rfl ?_
          refine gf_X0_26 hX h_o dX0_run_311 ?_
          refine q_isub hX dX0_run_314 ?_
          refine q_iload 0 hX dX0_run_315 rfl ?_
          refine cl_X0_32 hX h_o dX0_run_317 (Nat.le_of_ble_eq_true rfl) h (fun x36 s35 h => ?_)
          exact q_ret hX dX0_run_320 ⟨_, rfl, h⟩
        by_cases c20_8 : x15 = 60
        · refine q_lookup (off := 223) 321 hX dX0_run_98 (by decide) (by first | (rw [c20_8]; done) | (rw [c20_8]; rfl)) (by decide) ?_
          replace h := h.2.2.2.2.2.2.2.2.1 c20_8
          refine q_aload_n 3 hX dX0_run_321 rfl rfl ?_
          refine q_iload_n 4 hX dX0_run_322 rfl rfl ?_
          refine q_iload 1 hX dX0_run_323 rfl ?_
          refine q_iconst (v := 0) hX dX0_run_325 (by decide) ?_
          refine q_iload 6 hX dX0_run_326 rfl ?_
          refine q_iload 0 hX dX0_run_328 rfl ?_
          refine cl_X0_32 hX h_o dX0_run_330 (Nat.le_of_ble_eq_true rfl) h (fun x38 s37 h => ?_)
          refine q_aload_n 3 hX dX0_run_333 rfl rfl ?_
          refine gf_X0_29 hX h_o dX0_run_334 ?_
          refine q_ixor hX dX0_run_337 ?_
          exact q_ret hX dX0_run_338 ⟨_, rfl, h⟩
        by_cases c20_9 : x15 = 61
        · refine q_lookup (off := 241) 339 hX dX0_run_98 (by decide) (by first | (rw [c20_9]; done) | (rw [c20_9]; rfl)) (by decide) ?_
          replace h := h.2.2.2.2.2.2.2.2.2.1 c20_9
          refine q_aload_n 3 hX dX0_run_339 rfl rfl ?_
          refine q_iload_n 4 hX dX0_run_340 rfl rfl ?_
          refine q_iload 1 hX dX0_run_341 rfl ?_
          refine q_iconst (v := 1) hX dX0_run_343 (by decide) ?_
          refine q_iload 6 hX dX0_run_344 rfl ?_
          refine q_iload 0 hX dX0_run_346 rfl ?_
          refine cl_X0_32 hX h_o dX0_run_348 (Nat.le_of_ble_eq_true rfl) h (fun x40 s39 h => ?_)
          refine q_aload_n 3 hX dX0_run_351 rfl rfl ?_
          refine q_iload_n 4 hX dX0_run_352 rfl rfl ?_
          refine q_iload 1 hX dX0_run_353 rfl ?_
          refine q_iconst (v := 0) hX dX0_run_355 (by decide) ?_
          refine q_iconst (v := 2) hX dX0_run_356 (by decide) ?_
          refine q_iload 0 hX dX0_run_357 rfl ?_
          refine cl_X0_32 hX h_o dX0_run_359 (Nat.le_of_ble_eq_true rfl) h (fun x42 s41 h => ?_)
          refine q_iadd hX dX0_run_362 ?_
          exact q_ret hX dX0_run_363 ⟨_, rfl, h⟩
        by_cases c20_10 : x15 = 70
        · refine q_lookup (off := 266) 364 hX dX0_run_98 (by decide) (by first | (rw [c20_10]; done) | (rw [c20_10]; rfl)) (by decide) ?_
          replace h := h.2.2.2.2.2.2.2.2.2.2.1 c20_10
          refine q_aload_n 3 hX dX0_run_364 rfl rfl ?_
          refine q_iload_n 4 hX dX0_run_365 rfl rfl ?_
          refine q_iload_n 4 hX dX0_run_366 rfl rfl ?_
          refine q_iconst (v := 1) hX dX0_run_367 (by decide) ?_
          refine q_iload 6 hX dX0_run_368 rfl ?_
          refine q_iload 0 hX dX0_run_370 rfl ?_
          refine cl_X0_32 hX h_o dX0_run_372 (Nat.le_of_ble_eq_true rfl) h (fun x44 s43 h => ?_)
          refine q_aload_n 3 hX dX0_run_375 rfl rfl ?_
          refine q_iload_n 4 hX dX0_run_376 rfl rfl ?_
          refine q_iload 1 hX dX0_run_377 rfl ?_
          refine q_iconst (v := 2) hX dX0_run_379 (by decide) ?_
          refine q_iload 6 hX dX0_run_380 rfl ?_
          refine q_iload 0 hX dX0_run_382 rfl ?_
          refine cl_X0_32 hX h_o dX0_run_384 (Nat.le_of_ble_eq_true rfl) h (fun x46 s45 h => ?_)
          refine q_isub hX dX0_run_387 ?_
          exact q_ret hX dX0_run_388 ⟨_, rfl, h⟩
        refine q_lookup (off := 291) 389 hX dX0_run_98 (by decide) (by have e0 := ne_toInt (k := 10) c20_0 (by decide); have e1 := ne_toInt (k := 11) c20_1 (by decide); have e2 := ne_toInt (k := 12) c20_2 (by decide); have e3 := ne_toInt (k := 20) c20_3 (by decide); have e4 := ne_toInt (k := 30) c20_4 (by decide); have e5 := ne_toInt (k := 31) c20_5 (by decide); have e6 := ne_toInt (k := 40) c20_6 (by decide); have e7 := ne_toInt (k := 50) c20_7 (by decide); have e8 := ne_toInt (k := 60) c20_8 (by decide); have e9 := ne_toInt (k := 61) c20_9 (by decide); have e10 := ne_toInt (k := 70) c20_10 (by decide); simp [Op.lookupswitch.offset, e0, e1, e2, e3, e4, e5, e6, e7, e8, e9, e10, e0.symm, e1.symm, e2.symm, e3.symm, e4.symm, e5.symm, e6.symm, e7.symm, e8.symm, e9.symm, e10.symm]) (by decide) ?_
        replace h := h.2.2.2.2.2.2.2.2.2.2.2 c20_0 c20_1 c20_2 c20_3 c20_4 c20_5 c20_6 c20_7 c20_8 c20_9 c20_10
        refine q_iconst (v := 0) hX dX0_run_389 (by decide) ?_
        exact q_ret hX dX0_run_390 ⟨_, rfl, h⟩
      · replace h := h.2 c13
        refine q_iconst (v := 0) hX dX0_run_62 (by decide) ?_
        exact q_ret hX dX0_run_63 ⟨_, rfl, h⟩
    )
  refine q_iload_n 2 hX dX0_run_0 rfl rfl ?_
  refine q_istore (L' := [(6, .int a1), (0, .ref o), (1, .int a0), (2, .int a1), (3, .int a2), (4, .int a3), (5, .int a4)]) hX dX0_run_1 (by decide) rfl ?_
  refine q_bipush (v := 7) hX dX0_run_3 (by decide) ?_
  refine q_istore (L' := [(7, .int 7), (6, .int a1), (0, .ref o), (1, .int a0), (2, .int a1), (3, .int a2), (4, .int a3), (5, .int a4)]) hX dX0_run_5 (by decide) rfl ?_
  exact Wg.sub [2, 3, 5, 6, 7, 1, 0] rfl (h)
