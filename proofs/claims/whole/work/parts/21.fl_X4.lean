/-! formulas of the methods: if the formula holds, the contract does -/
set_option maxHeartbeats 4000000 in
set_option maxRecDepth 20000 in
theorem fl_X4_follow {d : Nat} {ids : List Nat} {o : Nat} {a0 : Nat} {a1 : Int32} {σ : St} {Q : St → Prop} (h_o : IO ids o 4) (h_a0 : IO ids a0 4) (H : ∀ (P44 : St → Prop) (P49 : Int32 → St → Prop) (P66 : Int32 → Int32 → St → Prop) (P87 : Int32 → St → Prop) (P107 : St → Prop) (P125 : Int32 → St → Prop), (∀ (σ : St), (P49 1 σ) → P44 σ) → (∀ (t0 : Int32) (σ : St), (((t0 = 0 → P66 t0 (gi σ a0 3) σ) ∧ (¬ t0 = 0 → P66 t0 (a1 - a1 / 10 * 10) σ))) → P49 t0 σ) → (∀ (v3 : Int32) (t0 : Int32) (σ : St), (∀ s2 : St, s2 = si σ o 3 t0 → ((v3 = 0 → P87 (gi s2 a0 4) s2) ∧ (¬ v3 = 0 → P87 (1 - (gi s2 a0 4)) s2))) → P66 v3 t0 σ) → (∀ (t0 : Int32) (σ : St), (∀ s4 : St, s4 = si σ o 4 t0 → (((gi s4 o 1) = 2 → P107 s4) ∧ (¬ (gi s4 o 1) = 2 → ((¬ (gi s4 o 1) = 3 → P125 (gi s4 a0 5) s4) ∧ ((gi s4 o 1) = 3 → P107 s4))))) → P87 t0 σ) → (∀ (σ : St), (P125 ((gi σ a0 5) ||| ((1 : Int32) <<< ((gi σ a0 3) &&& 31))) σ) → P107 σ) → (∀ (t0 : Int32) (σ : St), (∀ s7 : St, s7 = si σ o 5 t0 → ∀ s8 : St, s8 = si s7 o 6 ((gi s7 a0 6) ||| ((1 : Int32) <<< ((gi s7 o 3) &&& 31))) → ∀ s9 : St, s9 = si s8 (rf o 7) (Int32.toNatClampNeg 0) (gi s8 (rf a0 7) (Int32.toNatClampNeg 0)) → ∀ s10 : St, s10 = si s9 (rf o 7) (Int32.toNatClampNeg 1) (gi s9 (rf a0 7) (Int32.toNatClampNeg 1)) → ((¬ (gi s10 o 1) = 6 → Q s10) ∧ ((gi s10 o 1) = 6 → vp_in (gi s10 o 4) 2 ∧ vp_in (gi s10 o 4) 2 ∧ ∀ s14 : St, s14 = si s10 (rf o 7) (Int32.toNatClampNeg (gi s10 o 4)) ((gi s10 (rf o 7) (Int32.toNatClampNeg (gi s10 o 4))) + 1) → Q s14))) → P125 t0 σ) → ∀ s15 : St, s15 = si σ o 0 a1 → ∀ s16 : St, s16 = si s15 o 1 (a1 / 10) → ∀ s17 : St, s17 = si s16 o 2 (((gi s16 a0 9) >>> ((gi s16 o 1) &&& 31)) &&& 1) → (((gi s17 o 1) = 2 → P44 s17) ∧ (¬ (gi s17 o 1) = 2 → ((¬ (gi s17 o 1) = 5 → P49 0 s17) ∧ ((gi s17 o 1) = 5 → P44 s17))))) : EV (d + 1) ids Y_X4_follow [.ref o, .ref a0, .int a1] σ Q := by
  refine E_mk (by decide) (Nat.le_of_ble_eq_true rfl) (fun X hX => ?_)
  replace hX : Cok X ids 4 cX4_follow none (d + 1) RX4 := hX
  show Wg X ids 4 _ 0 [(0, .ref o), (1, .ref a0), (2, .int a1)] [] σ
  have h := H (fun (σ : St) => (Wg X ids 4 (fun r σ1 => r = none ∧ Q σ1) 44 [(0, .ref o), (1, .ref a0), (2, .int a1)] [] σ)) (fun (t0 : Int32) (σ : St) => (Wg X ids 4 (fun r σ1 => r = none ∧ Q σ1) 49 [(0, .ref o), (1, .ref a0), (2, .int a1)] [.int t0] σ)) (fun (v3 : Int32) (t0 : Int32) (σ : St) => (Wg X ids 4 (fun r σ1 => r = none ∧ Q σ1) 66 [(0, .ref o), (1, .ref a0), (3, .int v3)] [.int t0, .ref o] σ)) (fun (t0 : Int32) (σ : St) => (Wg X ids 4 (fun r σ1 => r = none ∧ Q σ1) 87 [(0, .ref o), (1, .ref a0)] [.int t0, .ref o] σ)) (fun (σ : St) => (Wg X ids 4 (fun r σ1 => r = none ∧ Q σ1) 107 [(0, .ref o), (1, .ref a0)] [.ref o] σ)) (fun (t0 : Int32) (σ : St) => (Wg X ids 4 (fun r σ1 => r = none ∧ Q σ1) 125 [(0, .ref o), (1, .ref a0)] [.int t0, .ref o] σ))
  replace h := h (fun σ h => by
    refine q_iconst (v := 1) hX dX4_follow_44 (by decide) ?_
    refine q_goto 49 hX dX4_follow_45 (by decide) ?_
    exact Wg.sub [0, 1, 2] rfl (h)
    )
  replace h := h (fun t0 σ h => by
    refine q_istore_n (L' := [(3, .int t0), (0, .ref o), (1, .ref a0), (2, .int a1)]) hX dX4_follow_49 rfl (by decide) rfl ?_
    refine q_aload_n 1 hX dX4_follow_50 rfl rfl ?_
    refine q_iload_n 0 hX dX4_follow_51 rfl rfl ?_
    refine q_if_eq 62 hX dX4_follow_52 (by decide) (fun c1 => ?_) (fun c1 => ?_)
    · replace h := h.1 c1
      refine q_aload_n 2 hX dX4_follow_62 rfl rfl ?_
      refine gf_X4_28 hX h_a0 dX4_follow_63 ?_
      exact Wg.sub [1, 2, 0] rfl (h)
    · replace h := h.2 c1
      refine q_iload_n 3 hX dX4_follow_55 rfl rfl ?_
      refine q_bipush (v := 10) hX dX4_follow_56 (by decide) ?_
      refine q_irem hX dX4_follow_58 (by decide) ?_
      refine q_goto 66 hX dX4_follow_59 (by decide) ?_
      exact Wg.sub [1, 2, 0] rfl (h)
    )
  replace h := h (fun v3 t0 σ h => by
    refine pf_X4_28 hX h_o dX4_follow_66 ?_
    refine Wg.nmS (fun s2 es2 => ?_)
    replace h := h s2 es2
    refine q_aload_n 0 hX dX4_follow_69 rfl rfl ?_
    refine q_iload_n 2 hX dX4_follow_70 rfl rfl ?_
    refine q_if_eq 83 hX dX4_follow_71 (by decide) (fun c3 => ?_) (fun c3 => ?_)
    · replace h := h.1 c3
      refine q_aload_n 1 hX dX4_follow_83 rfl rfl ?_
      refine gf_X4_31 hX h_a0 dX4_follow_84 ?_
      exact Wg.sub [0, 1] rfl (h)
    · replace h := h.2 c3
      refine q_iconst (v := 1) hX dX4_follow_74 (by decide) ?_
      refine q_aload_n 1 hX dX4_follow_75 rfl rfl ?_
      refine gf_X4_31 hX h_a0 dX4_follow_76 ?_
      refine q_isub hX dX4_follow_79 ?_
      refine q_goto 87 hX dX4_follow_80 (by decide) ?_
      exact Wg.sub [0, 1] rfl (h)
    )
  replace h := h (fun t0 σ h => by
    refine pf_X4_31 hX h_o dX4_follow_87 ?_
    refine Wg.nmS (fun s4 es4 => ?_)
    replace h := h s4 es4
    refine q_aload_n 0 hX dX4_follow_90 rfl rfl ?_
    refine q_aload_n 0 hX dX4_follow_91 rfl rfl ?_
    refine gf_X4_19 hX h_o dX4_follow_92 ?_
    refine q_iconst (v := 2) hX dX4_follow_95 (by decide) ?_
    refine q_icmp_eq 107 hX dX4_follow_96 (by decide) (fun c5 => ?_) (fun c5 => ?_)
    · replace h := h.1 c5
      exact Wg.sub [0, 1] rfl (h)
    · replace h := h.2 c5
      refine q_aload_n 0 hX dX4_follow_99 rfl rfl ?_
      refine gf_X4_19 hX h_o dX4_follow_100 ?_
      refine q_iconst (v := 3) hX dX4_follow_103 (by decide) ?_
      refine q_icmp_ne 121 hX dX4_follow_104 (by decide) (fun c6 => ?_) (fun c6 => ?_)
      · replace h := h.1 c6
        refine q_aload_n 1 hX dX4_follow_121 rfl rfl ?_
        refine gf_X4_34 hX h_a0 dX4_follow_122 ?_
        exact Wg.sub [0, 1] rfl (h)
      · replace h := h.2 c6
        exact Wg.sub [0, 1] rfl (h)
    )
  replace h := h (fun σ h => by
    refine q_aload_n 1 hX dX4_follow_107 rfl rfl ?_
    refine gf_X4_34 hX h_a0 dX4_follow_108 ?_
    refine q_iconst (v := 1) hX dX4_follow_111 (by decide) ?_
    refine q_aload_n 1 hX dX4_follow_112 rfl rfl ?_
    refine gf_X4_28 hX h_a0 dX4_follow_113 ?_
    refine q_ishl hX dX4_follow_116 ?_
    refine q_ior hX dX4_follow_117 ?_
    refine q_goto 125 hX dX4_follow_118 (by decide) ?_
    exact Wg.sub [0, 1] rfl (h)
    )
  replace h := h (fun t0 σ h => by
    refine pf_X4_34 hX h_o dX4_follow_125 ?_
    refine Wg.nmS (fun s7 es7 => ?_)
    replace h := h s7 es7
    refine q_aload_n 0 hX dX4_follow_128 rfl rfl ?_
    refine q_aload_n 1 hX dX4_follow_129 rfl rfl ?_
    refine gf_X4_37 hX h_a0 dX4_follow_130 ?_
    refine q_iconst (v := 1) hX dX4_follow_133 (by decide) ?_
    refine q_aload_n 0 hX dX4_follow_134 rfl rfl ?_
    refine gf_X4_28 hX h_o dX4_follow_135 ?_
    refine q_ishl hX dX4_follow_138 ?_
    refine q_ior hX dX4_follow_139 ?_
    refine pf_X4_37 hX h_o dX4_follow_140 ?_
    refine Wg.nmS (fun s8 es8 => ?_)
    replace h := h s8 es8
    refine q_aload_n 0 hX dX4_follow_143 rfl rfl ?_
    refine gf_X4_9 hX h_o dX4_follow_144 ?_
    refine q_iconst (v := 0) hX dX4_follow_147 (by decide) ?_
    refine q_aload_n 1 hX dX4_follow_148 rfl rfl ?_
    refine gf_X4_9 hX h_a0 dX4_follow_149 ?_
    refine q_iconst (v := 0) hX dX4_follow_152 (by decide) ?_
    refine q_iald hX dX4_follow_153 (rfO_4_7 h_a0) (vp_dec (by decide)) ?_
    refine q_iast hX dX4_follow_154 (rfO_4_7 h_o) (vp_dec (by decide)) ?_
    refine Wg.nmS (fun s9 es9 => ?_)
    replace h := h s9 es9
    refine q_aload_n 0 hX dX4_follow_155 rfl rfl ?_
    refine gf_X4_9 hX h_o dX4_follow_156 ?_
    refine q_iconst (v := 1) hX dX4_follow_159 (by decide) ?_
    refine q_aload_n 1 hX dX4_follow_160 rfl rfl ?_
    refine gf_X4_9 hX h_a0 dX4_follow_161 ?_
    refine q_iconst (v := 1) hX dX4_follow_164 (by decide) ?_
    refine q_iald hX dX4_follow_165 (rfO_4_7 h_a0) (vp_dec (by decide)) ?_
    refine q_iast hX dX4_follow_166 (rfO_4_7 h_o) (vp_dec (by decide)) ?_
    refine Wg.nmS (fun s10 es10 => ?_)
    replace h := h s10 es10
    refine q_aload_n 0 hX dX4_follow_167 rfl rfl ?_
    refine gf_X4_19 hX h_o dX4_follow_168 ?_
    refine q_bipush (v := 6) hX dX4_follow_171 (by decide) ?_
    refine q_icmp_ne 189 hX dX4_follow_173 (by decide) (fun c11 => ?_) (fun c11 => ?_)
    · replace h := h.1 c11
      exact q_vret hX dX4_follow_189 ⟨rfl, h⟩
    · replace h := h.2 c11
      refine q_aload_n 0 hX dX4_follow_176 rfl rfl ?_
      refine gf_X4_9 hX h_o dX4_follow_177 ?_
      refine q_aload_n 0 hX dX4_follow_180 rfl rfl ?_
      refine gf_X4_31 hX h_o dX4_follow_181 ?_
      refine q_dup2 hX dX4_follow_184 rfl rfl ?_
      obtain ⟨b12, h⟩ := h
      refine q_iald hX dX4_follow_185 (rfO_4_7 h_o) b12 ?_
      refine q_iconst (v := 1) hX dX4_follow_186 (by decide) ?_
      refine q_iadd hX dX4_follow_187 ?_
      obtain ⟨b13, h⟩ := h
      refine q_iast hX dX4_follow_188 (rfO_4_7 h_o) b13 ?_
      refine Wg.nmS (fun s14 es14 => ?_)
      replace h := h s14 es14
      exact q_vret hX dX4_follow_189 ⟨rfl, h⟩
    )
  refine q_aload_n 0 hX dX4_follow_0 rfl rfl ?_
  refine q_iload_n 2 hX dX4_follow_1 rfl rfl ?_
  refine pf_X4_15 hX h_o dX4_follow_2 ?_
  refine Wg.nmS (fun s15 es15 => ?_)
  replace h := h s15 es15
  refine q_aload_n 0 hX dX4_follow_5 rfl rfl ?_
  refine q_iload_n 2 hX dX4_follow_6 rfl rfl ?_
  refine q_bipush (v := 10) hX dX4_follow_7 (by decide) ?_
  refine q_idiv hX dX4_follow_9 (by decide) ?_
  refine pf_X4_19 hX h_o dX4_follow_10 ?_
  refine Wg.nmS (fun s16 es16 => ?_)
  replace h := h s16 es16
  refine q_aload_n 0 hX dX4_follow_13 rfl rfl ?_
  refine q_aload_n 1 hX dX4_follow_14 rfl rfl ?_
  refine gf_X4_22 hX h_a0 dX4_follow_15 ?_
  refine q_aload_n 0 hX dX4_follow_18 rfl rfl ?_
  refine gf_X4_19 hX h_o dX4_follow_19 ?_
  refine q_ishr hX dX4_follow_22 ?_
  refine q_iconst (v := 1) hX dX4_follow_23 (by decide) ?_
  refine q_iand hX dX4_follow_24 ?_
  refine pf_X4_25 hX h_o dX4_follow_25 ?_
  refine Wg.nmS (fun s17 es17 => ?_)
  replace h := h s17 es17
  refine q_aload_n 0 hX dX4_follow_28 rfl rfl ?_
  refine gf_X4_19 hX h_o dX4_follow_29 ?_
  refine q_iconst (v := 2) hX dX4_follow_32 (by decide) ?_
  refine q_icmp_eq 44 hX dX4_follow_33 (by decide) (fun c18 => ?_) (fun c18 => ?_)
  · replace h := h.1 c18
    exact Wg.sub [0, 1, 2] rfl (h)
  · replace h := h.2 c18
    refine q_aload_n 0 hX dX4_follow_36 rfl rfl ?_
    refine gf_X4_19 hX h_o dX4_follow_37 ?_
    refine q_iconst (v := 5) hX dX4_follow_40 (by decide) ?_
    refine q_icmp_ne 48 hX dX4_follow_41 (by decide) (fun c19 => ?_) (fun c19 => ?_)
    · replace h := h.1 c19
      refine q_iconst (v := 0) hX dX4_follow_48 (by decide) ?_
      exact Wg.sub [0, 1, 2] rfl (h)
    · replace h := h.2 c19
      exact Wg.sub [0, 1, 2] rfl (h)
set_option maxHeartbeats 4000000 in
set_option maxRecDepth 20000 in
theorem fl_X4_isClosed {d : Nat} {ids : List Nat} {o : Nat} {σ : St} {Q : Int32 → St → Prop} (h_o : IO ids o 4) (H : ∀ (P24 : St → Prop), (∀ (σ : St), (Q 1 σ) → P24 σ) → (((gi σ o 1) = 1 → P24 σ) ∧ (¬ (gi σ o 1) = 1 → (((gi σ o 1) = 3 → P24 σ) ∧ (¬ (gi σ o 1) = 3 → ((¬ (gi σ o 1) = 4 → Q 0 σ) ∧ ((gi σ o 1) = 4 → P24 σ))))))) : EI (d + 1) ids Y_X4_isClosed [.ref o] σ Q := by
  refine E_mk (by decide) (Nat.le_of_ble_eq_true rfl) (fun X hX => ?_)
  replace hX : Cok X ids 1 cX4_isClosed (some .boolean) (d + 1) RX4 := hX
  show Wg X ids 1 _ 0 [(0, .ref o)] [] σ
  have h := H (fun (σ : St) => (Wg X ids 1 (fun r σ1 => ∃ x, r = some (Value.int x) ∧ Q x σ1) 24 [] [] σ))
  replace h := h (fun σ h => by
    refine q_iconst (v := 1) hX dX4_isClosed_24 (by decide) ?_
    refine q_goto 29 hX dX4_isClosed_25 (by decide) ?_
    exact q_zret hX dX4_isClosed_29 (by decide) ⟨_, rfl, h⟩
    )
  refine q_aload_n 0 hX dX4_isClosed_0 rfl rfl ?_
  refine gf_X4_19 hX h_o dX4_isClosed_1 ?_
  refine q_iconst (v := 1) hX dX4_isClosed_4 (by decide) ?_
  refine q_icmp_eq 24 hX dX4_isClosed_5 (by decide) (fun c1 => ?_) (fun c1 => ?_)
  · replace h := h.1 c1
    exact Wg.sub [] rfl (h)
  · replace h := h.2 c1
    refine q_aload_n 0 hX dX4_isClosed_8 rfl rfl ?_
    refine gf_X4_19 hX h_o dX4_isClosed_9 ?_
    refine q_iconst (v := 3) hX dX4_isClosed_12 (by decide) ?_
    refine q_icmp_eq 24 hX dX4_isClosed_13 (by decide) (fun c2 => ?_) (fun c2 => ?_)
    · replace h := h.1 c2
      exact Wg.sub [] rfl (h)
    · replace h := h.2 c2
      refine q_aload_n 0 hX dX4_isClosed_16 rfl rfl ?_
      refine gf_X4_19 hX h_o dX4_isClosed_17 ?_
      refine q_iconst (v := 4) hX dX4_isClosed_20 (by decide) ?_
      refine q_icmp_ne 28 hX dX4_isClosed_21 (by decide) (fun c3 => ?_) (fun c3 => ?_)
      · replace h := h.1 c3
        refine q_iconst (v := 0) hX dX4_isClosed_28 (by decide) ?_
        exact q_zret hX dX4_isClosed_29 (by decide) ⟨_, rfl, h⟩
      · replace h := h.2 c3
        exact Wg.sub [] rfl (h)
