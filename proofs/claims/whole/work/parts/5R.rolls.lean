/-! the constructors of Rolls -/
theorem tw_128 : Cond.methodLink RX2 3 Lib.objectInit ∈ TB := TB_in (List.mem_of_getElem? (i := 128) (by decide +kernel)) (by decide +kernel)
theorem tw_129 : Cond.classLink RX2 9 RX4 ∈ TB := TB_in (List.mem_of_getElem? (i := 129) (by decide +kernel)) (by decide +kernel)
theorem tw_131 : Cond.instantiable RX4 11 ∈ TB := TB_in (List.mem_of_getElem? (i := 131) (by decide +kernel)) (by decide +kernel)
theorem tw_133 : Cond.instanceMethod yX4_init ∈ TB := TB_in (List.mem_of_getElem? (i := 133) (by decide +kernel)) (by decide +kernel)
set_option maxHeartbeats 4000000 in
theorem kc_roll_108 {σ : St} (hf : ∀ z, z ∈ ([108, 202, 203, 204, 210, 220, 211, 221, 212, 222, 213, 223, 214, 224, 215, 225] : List Nat) → fresh σ z) : BE 3 15 97 Y_X2_init [.ref 108, .ref 101, .ref 102] [101, 102] 108 [202, 203, 204, 210, 220, 211, 221, 212, 222, 213, 223, 214, 224, 215, 225] σ (si (si σ 210 4 (1)) 210 6 (1)) := by
  refine BE_mk rfl rfl (Nat.le_of_ble_eq_true rfl) (Bc_fresh (by decide +kernel) (fun z hz => hf z (List.mem_cons.mpr (Or.inl (List.mem_singleton.mp hz))))) (((Bc_fresh (by decide +kernel) hf).si (Or.inl (by decide))).si (Or.inl (by decide))) (fun X hX hN hI => ?_)
  refine b_aload_n 0 hX dX2_init_0 rfl rfl ?_
  refine b_objinit hX dX2_init_1 tw_128 tw_93 tw_94 (by decide) (by decide) rfl ?_
  refine b_aload_n 0 hX dX2_init_4 rfl rfl ?_
  refine b_bipush (v := 6) hX dX2_init_5 rfl ?_
  refine b_newr (C := RX4) (n := 6) (t := 6) (N := 6) 202 (by decide) (fun _ => rfl) (fun _ _ h => h.1.2.2) tw_129 hX hN dX2_init_7 rfl (by decide) (by decide) (fun h => absurd h (by decide)) (by decide) rfl (by decide) (by decide) (by decide) (fun q1 => ?_)
  refine b_link (ci := 2) (o := 108) 2 1 0 cls2 (by decide) tb_185 rfl (Or.inr ⟨rfl, rfl, hI⟩) hX dX2_init_10 rfl rfl rfl rfl (by decide) (fun _ => rfl) (fun _ => rfl) ?_
  refine b_aload_n 0 hX dX2_init_13 rfl rfl ?_
  refine b_iconst (v := 5) hX dX2_init_14 rfl ?_
  refine b_newp (t := 1) (ty := .int) (n := 5) (N := 5) (a0 := (5, .inl fun _ => 0)) 203 (by decide) rfl (fun _ => rfl) (fun _ _ h => h) tw_120 (fun _ => rfl) hX dX2_init_15 rfl (by decide) (by decide) (pz_i rfl (Or.inl rfl) ((hf 203 (by decide)).int rfl (Or.inl rfl))) (by decide) rfl (by decide) (by decide) (by decide) (fun q2 => ?_)
  refine b_link (ci := 2) (o := 108) 3 2 0 cls2 (by decide) tb_186 rfl (Or.inr ⟨rfl, rfl, hI⟩) hX dX2_init_17 rfl rfl rfl rfl (by decide) (fun _ => rfl) (fun _ => rfl) ?_
  refine b_aload_n 0 hX dX2_init_20 rfl rfl ?_
  refine b_bipush (v := 8) hX dX2_init_21 rfl ?_
  refine b_newp (t := 1) (ty := .int) (n := 8) (N := 8) (a0 := (8, .inl fun _ => 0)) 204 (by decide) rfl (fun _ => rfl) (fun _ _ h => h) tw_120 (fun _ => rfl) hX dX2_init_23 rfl (by decide) (by decide) (pz_i rfl (Or.inl rfl) ((hf 204 (by decide)).int rfl (Or.inl rfl))) (by decide) rfl (by decide) (by decide) (by decide) (fun q3 => ?_)
  refine b_link (ci := 2) (o := 108) 4 3 0 cls2 (by decide) tb_187 rfl (Or.inr ⟨rfl, rfl, hI⟩) hX dX2_init_25 rfl rfl rfl rfl (by decide) (fun _ => rfl) (fun _ => rfl) ?_
  refine b_aload_n 0 hX dX2_init_28 rfl rfl ?_
  refine b_aload_n 1 hX dX2_init_29 rfl rfl ?_
  refine b_link (ci := 2) (o := 108) 0 3 4 cls2 (by decide) tb_183 rfl (Or.inr ⟨rfl, rfl, hI⟩) hX dX2_init_30 rfl rfl rfl rfl (by decide) (fun _ => rfl) (fun _ => rfl) ?_
  refine b_aload_n 0 hX dX2_init_33 rfl rfl ?_
  refine b_aload_n 2 hX dX2_init_34 rfl rfl ?_
  refine b_link (ci := 2) (o := 108) 1 3 5 cls2 (by decide) tb_184 rfl (Or.inr ⟨rfl, rfl, hI⟩) hX dX2_init_35 rfl rfl rfl rfl (by decide) (fun _ => rfl) (fun _ => rfl) ?_
  refine b_iconst (v := 0) hX dX2_init_38 rfl ?_
  refine b_istore_n (i := 3) hX dX2_init_39 rfl (by decide) rfl ?_
  refine b_iload_n (x := 0) 0 hX dX2_init_40 rfl rfl ?_
  refine b_iconst (v := 5) hX dX2_init_41 rfl ?_
  refine b_icmp_gt 64 hX dX2_init_42 rfl (fun h => absurd h (by decide)) (fun _ => ?_)
  refine b_aload_n 1 hX dX2_init_45 rfl rfl ?_
  refine b_rget (ci := 2) (o := 108) 2 3 cls2 (by decide) tb_185 rfl hX dX2_init_46 rfl rfl rfl (by decide) (by decide) (fun q4 => ?_)
  refine b_iload_n (x := 0) 0 hX dX2_init_49 rfl rfl ?_
  refine b_new (ci := 4) (C := RX4) (T := TX4) (N := 11) 210 cls4 tw_129 tw_131 tw_74 hX dX2_init_50 rfl (by decide) (by decide) dfX4 ((hf 210 (by decide)).obj rfl rfl) (by decide) (by decide) (fun q5 => ?_)
  refine b_dup hX dX2_init_53 rfl ?_
  refine b_ctor (q := q5) (As := []) (Vs := []) (kc_stage_210 (fun z hz => (hf z ((show ∀ z ∈ ([210, 220] : List Nat), z ∈ ([108, 202, 203, 204, 210, 220, 211, 221, 212, 222, 213, 223, 214, 224, 215, 225] : List Nat) by decide) z hz)))) Yok_X4_init rfl rfl tw_133 (Or.inr ⟨_, fun _ _ h => h.2.2.2.2.2.2⟩) hX hN dX2_init_54 rfl rfl (Nat.le_of_ble_eq_true rfl) (fun r h => by show [Value.ref (r 210)] = _; rw [h (210, q5) (by simp)]) (by decide) (fun k h => List.mem_append_left _ h) (fun z hz => absurd hz List.not_mem_nil) (by decide) (fun _ _ _ => ⟨rfl, rfl⟩) (by decide) (by decide) (by decide) (by decide) ?_
  refine b_alink (ci := 4) (C := RX4) (T := TX4) (N := 11) (o := 202) (t := 5) (n := 6) (j0 := 0) (j := 0) 1 0 (by decide) hX dX2_init_57 rfl (fun _ => rfl) rfl rfl rfl rfl rfl (by decide) (by decide) (by unfold vp_in; decide) ?_
  refine b_iinc (x := 0) (v := 1) 0 hX dX2_init_58 rfl rfl (by decide) rfl ?_
  refine b_goto 40 hX dX2_init_61 rfl ?_
  refine b_iload_n (x := 1) 0 hX dX2_init_40 rfl rfl ?_
  refine b_iconst (v := 5) hX dX2_init_41 rfl ?_
  refine b_icmp_gt 64 hX dX2_init_42 rfl (fun h => absurd h (by decide)) (fun _ => ?_)
  refine b_aload_n 1 hX dX2_init_45 rfl rfl ?_
  refine b_rget (ci := 2) (o := 108) 2 5 cls2 (by decide) tb_185 rfl hX dX2_init_46 rfl rfl rfl (by decide) (by decide) (fun q6 => ?_)
  refine b_iload_n (x := 1) 0 hX dX2_init_49 rfl rfl ?_
  refine b_new (ci := 4) (C := RX4) (T := TX4) (N := 11) 211 cls4 tw_129 tw_131 tw_74 hX dX2_init_50 rfl (by decide) (by decide) dfX4 ((hf 211 (by decide)).obj rfl rfl) (by decide) (by decide) (fun q7 => ?_)
  refine b_dup hX dX2_init_53 rfl ?_
  refine b_ctor (q := q7) (As := []) (Vs := []) (kc_stage_211 (fun z hz => (hf z ((show ∀ z ∈ ([211, 221] : List Nat), z ∈ ([108, 202, 203, 204, 210, 220, 211, 221, 212, 222, 213, 223, 214, 224, 215, 225] : List Nat) by decide) z hz)))) Yok_X4_init rfl rfl tw_133 (Or.inr ⟨_, fun _ _ h => h.2.2.2.2.2.2⟩) hX hN dX2_init_54 rfl rfl (Nat.le_of_ble_eq_true rfl) (fun r h => by show [Value.ref (r 211)] = _; rw [h (211, q7) (by simp)]) (by decide) (fun k h => List.mem_append_left _ h) (fun z hz => absurd hz List.not_mem_nil) (by decide) (fun _ _ _ => ⟨rfl, rfl⟩) (by decide) (by decide) (by decide) (by decide) ?_
  refine b_alink (ci := 4) (C := RX4) (T := TX4) (N := 11) (o := 202) (t := 5) (n := 6) (j0 := 1) (j := 1) 1 0 (by decide) hX dX2_init_57 rfl (fun _ => rfl) rfl rfl rfl rfl rfl (by decide) (by decide) (by unfold vp_in; decide) ?_
  refine b_iinc (x := 1) (v := 2) 0 hX dX2_init_58 rfl rfl (by decide) rfl ?_
  refine b_goto 40 hX dX2_init_61 rfl ?_
  refine b_iload_n (x := 2) 0 hX dX2_init_40 rfl rfl ?_
  refine b_iconst (v := 5) hX dX2_init_41 rfl ?_
  refine b_icmp_gt 64 hX dX2_init_42 rfl (fun h => absurd h (by decide)) (fun _ => ?_)
  refine b_aload_n 1 hX dX2_init_45 rfl rfl ?_
  refine b_rget (ci := 2) (o := 108) 2 7 cls2 (by decide) tb_185 rfl hX dX2_init_46 rfl rfl rfl (by decide) (by decide) (fun q8 => ?_)
  refine b_iload_n (x := 2) 0 hX dX2_init_49 rfl rfl ?_
  refine b_new (ci := 4) (C := RX4) (T := TX4) (N := 11) 212 cls4 tw_129 tw_131 tw_74 hX dX2_init_50 rfl (by decide) (by decide) dfX4 ((hf 212 (by decide)).obj rfl rfl) (by decide) (by decide) (fun q9 => ?_)
  refine b_dup hX dX2_init_53 rfl ?_
  refine b_ctor (q := q9) (As := []) (Vs := []) (kc_stage_212 (fun z hz => (hf z ((show ∀ z ∈ ([212, 222] : List Nat), z ∈ ([108, 202, 203, 204, 210, 220, 211, 221, 212, 222, 213, 223, 214, 224, 215, 225] : List Nat) by decide) z hz)))) Yok_X4_init rfl rfl tw_133 (Or.inr ⟨_, fun _ _ h => h.2.2.2.2.2.2⟩) hX hN dX2_init_54 rfl rfl (Nat.le_of_ble_eq_true rfl) (fun r h => by show [Value.ref (r 212)] = _; rw [h (212, q9) (by simp)]) (by decide) (fun k h => List.mem_append_left _ h) (fun z hz => absurd hz List.not_mem_nil) (by decide) (fun _ _ _ => ⟨rfl, rfl⟩) (by decide) (by decide) (by decide) (by decide) ?_
  refine b_alink (ci := 4) (C := RX4) (T := TX4) (N := 11) (o := 202) (t := 5) (n := 6) (j0 := 2) (j := 2) 1 0 (by decide) hX dX2_init_57 rfl (fun _ => rfl) rfl rfl rfl rfl rfl (by decide) (by decide) (by unfold vp_in; decide) ?_
  refine b_iinc (x := 2) (v := 3) 0 hX dX2_init_58 rfl rfl (by decide) rfl ?_
  refine b_goto 40 hX dX2_init_61 rfl ?_
  refine b_iload_n (x := 3) 0 hX dX2_init_40 rfl rfl ?_
  refine b_iconst (v := 5) hX dX2_init_41 rfl ?_
  refine b_icmp_gt 64 hX dX2_init_42 rfl (fun h => absurd h (by decide)) (fun _ => ?_)
  refine b_aload_n 1 hX dX2_init_45 rfl rfl ?_
  refine b_rget (ci := 2) (o := 108) 2 9 cls2 (by decide) tb_185 rfl hX dX2_init_46 rfl rfl rfl (by decide) (by decide) (fun q10 => ?_)
  refine b_iload_n (x := 3) 0 hX dX2_init_49 rfl rfl ?_
  refine b_new (ci := 4) (C := RX4) (T := TX4) (N := 11) 213 cls4 tw_129 tw_131 tw_74 hX dX2_init_50 rfl (by decide) (by decide) dfX4 ((hf 213 (by decide)).obj rfl rfl) (by decide) (by decide) (fun q11 => ?_)
  refine b_dup hX dX2_init_53 rfl ?_
  refine b_ctor (q := q11) (As := []) (Vs := []) (kc_stage_213 (fun z hz => (hf z ((show ∀ z ∈ ([213, 223] : List Nat), z ∈ ([108, 202, 203, 204, 210, 220, 211, 221, 212, 222, 213, 223, 214, 224, 215, 225] : List Nat) by decide) z hz)))) Yok_X4_init rfl rfl tw_133 (Or.inr ⟨_, fun _ _ h => h.2.2.2.2.2.2⟩) hX hN dX2_init_54 rfl rfl (Nat.le_of_ble_eq_true rfl) (fun r h => by show [Value.ref (r 213)] = _; rw [h (213, q11) (by simp)]) (by decide) (fun k h => List.mem_append_left _ h) (fun z hz => absurd hz List.not_mem_nil) (by decide) (fun _ _ _ => ⟨rfl, rfl⟩) (by decide) (by decide) (by decide) (by decide) ?_
  refine b_alink (ci := 4) (C := RX4) (T := TX4) (N := 11) (o := 202) (t := 5) (n := 6) (j0 := 3) (j := 3) 1 0 (by decide) hX dX2_init_57 rfl (fun _ => rfl) rfl rfl rfl rfl rfl (by decide) (by decide) (by unfold vp_in; decide) ?_
  refine b_iinc (x := 3) (v := 4) 0 hX dX2_init_58 rfl rfl (by decide) rfl ?_
  refine b_goto 40 hX dX2_init_61 rfl ?_
  refine b_iload_n (x := 4) 0 hX dX2_init_40 rfl rfl ?_
  refine b_iconst (v := 5) hX dX2_init_41 rfl ?_
  refine b_icmp_gt 64 hX dX2_init_42 rfl (fun h => absurd h (by decide)) (fun _ => ?_)
  refine b_aload_n 1 hX dX2_init_45 rfl rfl ?_
  refine b_rget (ci := 2) (o := 108) 2 11 cls2 (by decide) tb_185 rfl hX dX2_init_46 rfl rfl rfl (by decide) (by decide) (fun q12 => ?_)
  refine b_iload_n (x := 4) 0 hX dX2_init_49 rfl rfl ?_
  refine b_new (ci := 4) (C := RX4) (T := TX4) (N := 11) 214 cls4 tw_129 tw_131 tw_74 hX dX2_init_50 rfl (by decide) (by decide) dfX4 ((hf 214 (by decide)).obj rfl rfl) (by decide) (by decide) (fun q13 => ?_)
  refine b_dup hX dX2_init_53 rfl ?_
  refine b_ctor (q := q13) (As := []) (Vs := []) (kc_stage_214 (fun z hz => (hf z ((show ∀ z ∈ ([214, 224] : List Nat), z ∈ ([108, 202, 203, 204, 210, 220, 211, 221, 212, 222, 213, 223, 214, 224, 215, 225] : List Nat) by decide) z hz)))) Yok_X4_init rfl rfl tw_133 (Or.inr ⟨_, fun _ _ h => h.2.2.2.2.2.2⟩) hX hN dX2_init_54 rfl rfl (Nat.le_of_ble_eq_true rfl) (fun r h => by show [Value.ref (r 214)] = _; rw [h (214, q13) (by simp)]) (by decide) (fun k h => List.mem_append_left _ h) (fun z hz => absurd hz List.not_mem_nil) (by decide) (fun _ _ _ => ⟨rfl, rfl⟩) (by decide) (by decide) (by decide) (by decide) ?_
  refine b_alink (ci := 4) (C := RX4) (T := TX4) (N := 11) (o := 202) (t := 5) (n := 6) (j0 := 4) (j := 4) 1 0 (by decide) hX dX2_init_57 rfl (fun _ => rfl) rfl rfl rfl rfl rfl (by decide) (by decide) (by unfold vp_in; decide) ?_
  refine b_iinc (x := 4) (v := 5) 0 hX dX2_init_58 rfl rfl (by decide) rfl ?_
  refine b_goto 40 hX dX2_init_61 rfl ?_
  refine b_iload_n (x := 5) 0 hX dX2_init_40 rfl rfl ?_
  refine b_iconst (v := 5) hX dX2_init_41 rfl ?_
  refine b_icmp_gt 64 hX dX2_init_42 rfl (fun h => absurd h (by decide)) (fun _ => ?_)
  refine b_aload_n 1 hX dX2_init_45 rfl rfl ?_
  refine b_rget (ci := 2) (o := 108) 2 13 cls2 (by decide) tb_185 rfl hX dX2_init_46 rfl rfl rfl (by decide) (by decide) (fun q14 => ?_)
  refine b_iload_n (x := 5) 0 hX dX2_init_49 rfl rfl ?_
  refine b_new (ci := 4) (C := RX4) (T := TX4) (N := 11) 215 cls4 tw_129 tw_131 tw_74 hX dX2_init_50 rfl (by decide) (by decide) dfX4 ((hf 215 (by decide)).obj rfl rfl) (by decide) (by decide) (fun q15 => ?_)
  refine b_dup hX dX2_init_53 rfl ?_
  refine b_ctor (q := q15) (As := []) (Vs := []) (kc_stage_215 (fun z hz => (hf z ((show ∀ z ∈ ([215, 225] : List Nat), z ∈ ([108, 202, 203, 204, 210, 220, 211, 221, 212, 222, 213, 223, 214, 224, 215, 225] : List Nat) by decide) z hz)))) Yok_X4_init rfl rfl tw_133 (Or.inr ⟨_, fun _ _ h => h.2.2.2.2.2.2⟩) hX hN dX2_init_54 rfl rfl (Nat.le_of_ble_eq_true rfl) (fun r h => by show [Value.ref (r 215)] = _; rw [h (215, q15) (by simp)]) (by decide) (fun k h => List.mem_append_left _ h) (fun z hz => absurd hz List.not_mem_nil) (by decide) (fun _ _ _ => ⟨rfl, rfl⟩) (by decide) (by decide) (by decide) (by decide) ?_
  refine b_alink (ci := 4) (C := RX4) (T := TX4) (N := 11) (o := 202) (t := 5) (n := 6) (j0 := 5) (j := 5) 1 0 (by decide) hX dX2_init_57 rfl (fun _ => rfl) rfl rfl rfl rfl rfl (by decide) (by decide) (by unfold vp_in; decide) ?_
  refine b_iinc (x := 5) (v := 6) 0 hX dX2_init_58 rfl rfl (by decide) rfl ?_
  refine b_goto 40 hX dX2_init_61 rfl ?_
  refine b_iload_n (x := 6) 0 hX dX2_init_40 rfl rfl ?_
  refine b_iconst (v := 5) hX dX2_init_41 rfl ?_
  refine b_icmp_gt 64 hX dX2_init_42 rfl (fun _ => ?_) (fun h => absurd (by decide) h)
  refine b_aload_n 1 hX dX2_init_64 rfl rfl ?_
  refine b_rget (ci := 2) (o := 108) 2 15 cls2 (by decide) tb_185 rfl hX dX2_init_65 rfl rfl rfl (by decide) (by decide) (fun q16 => ?_)
  refine b_iconst (v := 0) hX dX2_init_68 rfl ?_
  refine b_aald (o := 202) (t := 5) (n := 6) (j := 0) 0 (by decide) hX dX2_init_69 rfl rfl (by decide) (by unfold vp_in; decide) (by decide) (fun q17 => ?_)
  refine b_iconst (v := 1) hX dX2_init_70 rfl ?_
  refine b_iput (ci := 4) (o := 210) 4 0 cls4 (by decide) tb_146 rfl (Or.inl rfl) hX dX2_init_71 rfl rfl rfl (by decide) rfl rfl ?_
  refine b_aload_n 1 hX dX2_init_74 rfl rfl ?_
  refine b_rget (ci := 2) (o := 108) 2 17 cls2 (by decide) tb_185 rfl hX dX2_init_75 rfl rfl rfl (by decide) (by decide) (fun q18 => ?_)
  refine b_iconst (v := 0) hX dX2_init_78 rfl ?_
  refine b_aald (o := 202) (t := 5) (n := 6) (j := 0) 0 (by decide) hX dX2_init_79 rfl rfl (by decide) (by unfold vp_in; decide) (by decide) (fun q19 => ?_)
  refine b_iconst (v := 1) hX dX2_init_80 rfl ?_
  refine b_iput (ci := 4) (o := 210) 6 0 cls4 (by decide) tb_152 rfl (Or.inl rfl) hX dX2_init_81 rfl rfl rfl (by decide) rfl rfl ?_
  exact b_vretB hX dX2_init_84 (by decide +kernel) rfl rfl rfl (fun z hz => by simp only [List.mem_cons, List.not_mem_nil, or_false] at hz; rcases hz with rfl | rfl | rfl <;> simp)
set_option maxHeartbeats 4000000 in
theorem kc_roll_109 {σ : St} (hf : ∀ z, z ∈ ([109, 302, 303, 304, 310, 320, 311, 321, 312, 322, 313, 323, 314, 324, 315, 325] : List Nat) → fresh σ z) : BE 3 15 97 Y_X2_init [.ref 109, .ref 101, .ref 102] [101, 102] 109 [302, 303, 304, 310, 320, 311, 321, 312, 322, 313, 323, 314, 324, 315, 325] σ (si (si σ 310 4 (1)) 310 6 (1)) := by
  refine BE_mk rfl rfl (Nat.le_of_ble_eq_true rfl) (Bc_fresh (by decide +kernel) (fun z hz => hf z (List.mem_cons.mpr (Or.inl (List.mem_singleton.mp hz))))) (((Bc_fresh (by decide +kernel) hf).si (Or.inl (by decide))).si (Or.inl (by decide))) (fun X hX hN hI => ?_)
  refine b_aload_n 0 hX dX2_init_0 rfl rfl ?_
  refine b_objinit hX dX2_init_1 tw_128 tw_93 tw_94 (by decide) (by decide) rfl ?_
  refine b_aload_n 0 hX dX2_init_4 rfl rfl ?_
  refine b_bipush (v := 6) hX dX2_init_5 rfl ?_
  refine b_newr (C := RX4) (n := 6) (t := 6) (N := 6) 302 (by decide) (fun _ => rfl) (fun _ _ h => h.1.2.2) tw_129 hX hN dX2_init_7 rfl (by decide) (by decide) (fun h => absurd h (by decide)) (by decide) rfl (by decide) (by decide) (by decide) (fun q1 => ?_)
  refine b_link (ci := 2) (o := 109) 2 1 0 cls2 (by decide) tb_185 rfl (Or.inr ⟨rfl, rfl, hI⟩) hX dX2_init_10 rfl rfl rfl rfl (by decide) (fun _ => rfl) (fun _ => rfl) ?_
  refine b_aload_n 0 hX dX2_init_13 rfl rfl ?_
  refine b_iconst (v := 5) hX dX2_init_14 rfl ?_
  refine b_newp (t := 1) (ty := .int) (n := 5) (N := 5) (a0 := (5, .inl fun _ => 0)) 303 (by decide) rfl (fun _ => rfl) (fun _ _ h => h) tw_120 (fun _ => rfl) hX dX2_init_15 rfl (by decide) (by decide) (pz_i rfl (Or.inl rfl) ((hf 303 (by decide)).int rfl (Or.inl rfl))) (by decide) rfl (by decide) (by decide) (by decide) (fun q2 => ?_)
  refine b_link (ci := 2) (o := 109) 3 2 0 cls2 (by decide) tb_186 rfl (Or.inr ⟨rfl, rfl, hI⟩) hX dX2_init_17 rfl rfl rfl rfl (by decide) (fun _ => rfl) (fun _ => rfl) ?_
  refine b_aload_n 0 hX dX2_init_20 rfl rfl ?_
  refine b_bipush (v := 8) hX dX2_init_21 rfl ?_
  refine b_newp (t := 1) (ty := .int) (n := 8) (N := 8) (a0 := (8, .inl fun _ => 0)) 304 (by decide) rfl (fun _ => rfl) (fun _ _ h => h) tw_120 (fun _ => rfl) hX dX2_init_23 rfl (by decide) (by decide) (pz_i rfl (Or.inl rfl) ((hf 304 (by decide)).int rfl (Or.inl rfl))) (by decide) rfl (by decide) (by decide) (by decide) (fun q3 => ?_)
  refine b_link (ci := 2) (o := 109) 4 3 0 cls2 (by decide) tb_187 rfl (Or.inr ⟨rfl, rfl, hI⟩) hX dX2_init_25 rfl rfl rfl rfl (by decide) (fun _ => rfl) (fun _ => rfl) ?_
  refine b_aload_n 0 hX dX2_init_28 rfl rfl ?_
  refine b_aload_n 1 hX dX2_init_29 rfl rfl ?_
  refine b_link (ci := 2) (o := 109) 0 3 4 cls2 (by decide) tb_183 rfl (Or.inr ⟨rfl, rfl, hI⟩) hX dX2_init_30 rfl rfl rfl rfl (by decide) (fun _ => rfl) (fun _ => rfl) ?_
  refine b_aload_n 0 hX dX2_init_33 rfl rfl ?_
  refine b_aload_n 2 hX dX2_init_34 rfl rfl ?_
  refine b_link (ci := 2) (o := 109) 1 3 5 cls2 (by decide) tb_184 rfl (Or.inr ⟨rfl, rfl, hI⟩) hX dX2_init_35 rfl rfl rfl rfl (by decide) (fun _ => rfl) (fun _ => rfl) ?_
  refine b_iconst (v := 0) hX dX2_init_38 rfl ?_
  refine b_istore_n (i := 3) hX dX2_init_39 rfl (by decide) rfl ?_
  refine b_iload_n (x := 0) 0 hX dX2_init_40 rfl rfl ?_
  refine b_iconst (v := 5) hX dX2_init_41 rfl ?_
  refine b_icmp_gt 64 hX dX2_init_42 rfl (fun h => absurd h (by decide)) (fun _ => ?_)
  refine b_aload_n 1 hX dX2_init_45 rfl rfl ?_
  refine b_rget (ci := 2) (o := 109) 2 3 cls2 (by decide) tb_185 rfl hX dX2_init_46 rfl rfl rfl (by decide) (by decide) (fun q4 => ?_)
  refine b_iload_n (x := 0) 0 hX dX2_init_49 rfl rfl ?_
  refine b_new (ci := 4) (C := RX4) (T := TX4) (N := 11) 310 cls4 tw_129 tw_131 tw_74 hX dX2_init_50 rfl (by decide) (by decide) dfX4 ((hf 310 (by decide)).obj rfl rfl) (by decide) (by decide) (fun q5 => ?_)
  refine b_dup hX dX2_init_53 rfl ?_
  refine b_ctor (q := q5) (As := []) (Vs := []) (kc_stage_310 (fun z hz => (hf z ((show ∀ z ∈ ([310, 320] : List Nat), z ∈ ([109, 302, 303, 304, 310, 320, 311, 321, 312, 322, 313, 323, 314, 324, 315, 325] : List Nat) by decide) z hz)))) Yok_X4_init rfl rfl tw_133 (Or.inr ⟨_, fun _ _ h => h.2.2.2.2.2.2⟩) hX hN dX2_init_54 rfl rfl (Nat.le_of_ble_eq_true rfl) (fun r h => by show [Value.ref (r 310)] = _; rw [h (310, q5) (by simp)]) (by decide) (fun k h => List.mem_append_left _ h) (fun z hz => absurd hz List.not_mem_nil) (by decide) (fun _ _ _ => ⟨rfl, rfl⟩) (by decide) (by decide) (by decide) (by decide) ?_
  refine b_alink (ci := 4) (C := RX4) (T := TX4) (N := 11) (o := 302) (t := 5) (n := 6) (j0 := 0) (j := 0) 1 0 (by decide) hX dX2_init_57 rfl (fun _ => rfl) rfl rfl rfl rfl rfl (by decide) (by decide) (by unfold vp_in; decide) ?_
  refine b_iinc (x := 0) (v := 1) 0 hX dX2_init_58 rfl rfl (by decide) rfl ?_
  refine b_goto 40 hX dX2_init_61 rfl ?_
  refine b_iload_n (x := 1) 0 hX dX2_init_40 rfl rfl ?_
  refine b_iconst (v := 5) hX dX2_init_41 rfl ?_
  refine b_icmp_gt 64 hX dX2_init_42 rfl (fun h => absurd h (by decide)) (fun _ => ?_)
  refine b_aload_n 1 hX dX2_init_45 rfl rfl ?_
  refine b_rget (ci := 2) (o := 109) 2 5 cls2 (by decide) tb_185 rfl hX dX2_init_46 rfl rfl rfl (by decide) (by decide) (fun q6 => ?_)
  refine b_iload_n (x := 1) 0 hX dX2_init_49 rfl rfl ?_
  refine b_new (ci := 4) (C := RX4) (T := TX4) (N := 11) 311 cls4 tw_129 tw_131 tw_74 hX dX2_init_50 rfl (by decide) (by decide) dfX4 ((hf 311 (by decide)).obj rfl rfl) (by decide) (by decide) (fun q7 => ?_)
  refine b_dup hX dX2_init_53 rfl ?_
  refine b_ctor (q := q7) (As := []) (Vs := []) (kc_stage_311 (fun z hz => (hf z ((show ∀ z ∈ ([311, 321] : List Nat), z ∈ ([109, 302, 303, 304, 310, 320, 311, 321, 312, 322, 313, 323, 314, 324, 315, 325] : List Nat) by decide) z hz)))) Yok_X4_init rfl rfl tw_133 (Or.inr ⟨_, fun _ _ h => h.2.2.2.2.2.2⟩) hX hN dX2_init_54 rfl rfl (Nat.le_of_ble_eq_true rfl) (fun r h => by show [Value.ref (r 311)] = _; rw [h (311, q7) (by simp)]) (by decide) (fun k h => List.mem_append_left _ h) (fun z hz => absurd hz List.not_mem_nil) (by decide) (fun _ _ _ => ⟨rfl, rfl⟩) (by decide) (by decide) (by decide) (by decide) ?_
  refine b_alink (ci := 4) (C := RX4) (T := TX4) (N := 11) (o := 302) (t := 5) (n := 6) (j0 := 1) (j := 1) 1 0 (by decide) hX dX2_init_57 rfl (fun _ => rfl) rfl rfl rfl rfl rfl (by decide) (by decide) (by unfold vp_in; decide) ?_
  refine b_iinc (x := 1) (v := 2) 0 hX dX2_init_58 rfl rfl (by decide) rfl ?_
  refine b_goto 40 hX dX2_init_61 rfl ?_
  refine b_iload_n (x := 2) 0 hX dX2_init_40 rfl rfl ?_
  refine b_iconst (v := 5) hX dX2_init_41 rfl ?_
  refine b_icmp_gt 64 hX dX2_init_42 rfl (fun h => absurd h (by decide)) (fun _ => ?_)
  refine b_aload_n 1 hX dX2_init_45 rfl rfl ?_
  refine b_rget (ci := 2) (o := 109) 2 7 cls2 (by decide) tb_185 rfl hX dX2_init_46 rfl rfl rfl (by decide) (by decide) (fun q8 => ?_)
  refine b_iload_n (x := 2) 0 hX dX2_init_49 rfl rfl ?_
  refine b_new (ci := 4) (C := RX4) (T := TX4) (N := 11) 312 cls4 tw_129 tw_131 tw_74 hX dX2_init_50 rfl (by decide) (by decide) dfX4 ((hf 312 (by decide)).obj rfl rfl) (by decide) (by decide) (fun q9 => ?_)
  refine b_dup hX dX2_init_53 rfl ?_
  refine b_ctor (q := q9) (As := []) (Vs := []) (kc_stage_312 (fun z hz => (hf z ((show ∀ z ∈ ([312, 322] : List Nat), z ∈ ([109, 302, 303, 304, 310, 320, 311, 321, 312, 322, 313, 323, 314, 324, 315, 325] : List Nat) by decide) z hz)))) Yok_X4_init rfl rfl tw_133 (Or.inr ⟨_, fun _ _ h => h.2.2.2.2.2.2⟩) hX hN dX2_init_54 rfl rfl (Nat.le_of_ble_eq_true rfl) (fun r h => by show [Value.ref (r 312)] = _; rw [h (312, q9) (by simp)]) (by decide) (fun k h => List.mem_append_left _ h) (fun z hz => absurd hz List.not_mem_nil) (by decide) (fun _ _ _ => ⟨rfl, rfl⟩) (by decide) (by decide) (by decide) (by decide) ?_
  refine b_alink (ci := 4) (C := RX4) (T := TX4) (N := 11) (o := 302) (t := 5) (n := 6) (j0 := 2) (j := 2) 1 0 (by decide) hX dX2_init_57 rfl (fun _ => rfl) rfl rfl rfl rfl rfl (by decide) (by decide) (by unfold vp_in; decide) ?_
  refine b_iinc (x := 2) (v := 3) 0 hX dX2_init_58 rfl rfl (by decide) rfl ?_
  refine b_goto 40 hX dX2_init_61 rfl ?_
  refine b_iload_n (x := 3) 0 hX dX2_init_40 rfl rfl ?_
  refine b_iconst (v := 5) hX dX2_init_41 rfl ?_
  refine b_icmp_gt 64 hX dX2_init_42 rfl (fun h => absurd h (by decide)) (fun _ => ?_)
  refine b_aload_n 1 hX dX2_init_45 rfl rfl ?_
  refine b_rget (ci := 2) (o := 109) 2 9 cls2 (by decide) tb_185 rfl hX dX2_init_46 rfl rfl rfl (by decide) (by decide) (fun q10 => ?_)
  refine b_iload_n (x := 3) 0 hX dX2_init_49 rfl rfl ?_
  refine b_new (ci := 4) (C := RX4) (T := TX4) (N := 11) 313 cls4 tw_129 tw_131 tw_74 hX dX2_init_50 rfl (by decide) (by decide) dfX4 ((hf 313 (by decide)).obj rfl rfl) (by decide) (by decide) (fun q11 => ?_)
  refine b_dup hX dX2_init_53 rfl ?_
  refine b_ctor (q := q11) (As := []) (Vs := []) (kc_stage_313 (fun z hz => (hf z ((show ∀ z ∈ ([313, 323] : List Nat), z ∈ ([109, 302, 303, 304, 310, 320, 311, 321, 312, 322, 313, 323, 314, 324, 315, 325] : List Nat) by decide) z hz)))) Yok_X4_init rfl rfl tw_133 (Or.inr ⟨_, fun _ _ h => h.2.2.2.2.2.2⟩) hX hN dX2_init_54 rfl rfl (Nat.le_of_ble_eq_true rfl) (fun r h => by show [Value.ref (r 313)] = _; rw [h (313, q11) (by simp)]) (by decide) (fun k h => List.mem_append_left _ h) (fun z hz => absurd hz List.not_mem_nil) (by decide) (fun _ _ _ => ⟨rfl, rfl⟩) (by decide) (by decide) (by decide) (by decide) ?_
  refine b_alink (ci := 4) (C := RX4) (T := TX4) (N := 11) (o := 302) (t := 5) (n := 6) (j0 := 3) (j := 3) 1 0 (by decide) hX dX2_init_57 rfl (fun _ => rfl) rfl rfl rfl rfl rfl (by decide) (by decide) (by unfold vp_in; decide) ?_
  refine b_iinc (x := 3) (v := 4) 0 hX dX2_init_58 rfl rfl (by decide) rfl ?_
  refine b_goto 40 hX dX2_init_61 rfl ?_
  refine b_iload_n (x := 4) 0 hX dX2_init_40 rfl rfl ?_
  refine b_iconst (v := 5) hX dX2_init_41 rfl ?_
  refine b_icmp_gt 64 hX dX2_init_42 rfl (fun h => absurd h (by decide)) (fun _ => ?_)
  refine b_aload_n 1 hX dX2_init_45 rfl rfl ?_
  refine b_rget (ci := 2) (o := 109) 2 11 cls2 (by decide) tb_185 rfl hX dX2_init_46 rfl rfl rfl (by decide) (by decide) (fun q12 => ?_)
  refine b_iload_n (x := 4) 0 hX dX2_init_49 rfl rfl ?_
  refine b_new (ci := 4) (C := RX4) (T := TX4) (N := 11) 314 cls4 tw_129 tw_131 tw_74 hX dX2_init_50 rfl (by decide) (by decide) dfX4 ((hf 314 (by decide)).obj rfl rfl) (by decide) (by decide) (fun q13 => ?_)
  refine b_dup hX dX2_init_53 rfl ?_
  refine b_ctor (q := q13) (As := []) (Vs := []) (kc_stage_314 (fun z hz => (hf z ((show ∀ z ∈ ([314, 324] : List Nat), z ∈ ([109, 302, 303, 304, 310, 320, 311, 321, 312, 322, 313, 323, 314, 324, 315, 325] : List Nat) by decide) z hz)))) Yok_X4_init rfl rfl tw_133 (Or.inr ⟨_, fun _ _ h => h.2.2.2.2.2.2⟩) hX hN dX2_init_54 rfl rfl (Nat.le_of_ble_eq_true rfl) (fun r h => by show [Value.ref (r 314)] = _; rw [h (314, q13) (by simp)]) (by decide) (fun k h => List.mem_append_left _ h) (fun z hz => absurd hz List.not_mem_nil) (by decide) (fun _ _ _ => ⟨rfl, rfl⟩) (by decide) (by decide) (by decide) (by decide) ?_
  refine b_alink (ci := 4) (C := RX4) (T := TX4) (N := 11) (o := 302) (t := 5) (n := 6) (j0 := 4) (j := 4) 1 0 (by decide) hX dX2_init_57 rfl (fun _ => rfl) rfl rfl rfl rfl rfl (by decide) (by decide) (by unfold vp_in; decide) ?_
  refine b_iinc (x := 4) (v := 5) 0 hX dX2_init_58 rfl rfl (by decide) rfl ?_
  refine b_goto 40 hX dX2_init_61 rfl ?_
  refine b_iload_n (x := 5) 0 hX dX2_init_40 rfl rfl ?_
  refine b_iconst (v := 5) hX dX2_init_41 rfl ?_
  refine b_icmp_gt 64 hX dX2_init_42 rfl (fun h => absurd h (by decide)) (fun _ => ?_)
  refine b_aload_n 1 hX dX2_init_45 rfl rfl ?_
  refine b_rget (ci := 2) (o := 109) 2 13 cls2 (by decide) tb_185 rfl hX dX2_init_46 rfl rfl rfl (by decide) (by decide) (fun q14 => ?_)
  refine b_iload_n (x := 5) 0 hX dX2_init_49 rfl rfl ?_
  refine b_new (ci := 4) (C := RX4) (T := TX4) (N := 11) 315 cls4 tw_129 tw_131 tw_74 hX dX2_init_50 rfl (by decide) (by decide) dfX4 ((hf 315 (by decide)).obj rfl rfl) (by decide) (by decide) (fun q15 => ?_)
  refine b_dup hX dX2_init_53 rfl ?_
  refine b_ctor (q := q15) (As := []) (Vs := []) (kc_stage_315 (fun z hz => (hf z ((show ∀ z ∈ ([315, 325] : List Nat), z ∈ ([109, 302, 303, 304, 310, 320, 311, 321, 312, 322, 313, 323, 314, 324, 315, 325] : List Nat) by decide) z hz)))) Yok_X4_init rfl rfl tw_133 (Or.inr ⟨_, fun _ _ h => h.2.2.2.2.2.2⟩) hX hN dX2_init_54 rfl rfl (Nat.le_of_ble_eq_true rfl) (fun r h => by show [Value.ref (r 315)] = _; rw [h (315, q15) (by simp)]) (by decide) (fun k h => List.mem_append_left _ h) (fun z hz => absurd hz List.not_mem_nil) (by decide) (fun _ _ _ => ⟨rfl, rfl⟩) (by decide) (by decide) (by decide) (by decide) ?_
  refine b_alink (ci := 4) (C := RX4) (T := TX4) (N := 11) (o := 302) (t := 5) (n := 6) (j0 := 5) (j := 5) 1 0 (by decide) hX dX2_init_57 rfl (fun _ => rfl) rfl rfl rfl rfl rfl (by decide) (by decide) (by unfold vp_in; decide) ?_
  refine b_iinc (x := 5) (v := 6) 0 hX dX2_init_58 rfl rfl (by decide) rfl ?_
  refine b_goto 40 hX dX2_init_61 rfl ?_
  refine b_iload_n (x := 6) 0 hX dX2_init_40 rfl rfl ?_
  refine b_iconst (v := 5) hX dX2_init_41 rfl ?_
  refine b_icmp_gt 64 hX dX2_init_42 rfl (fun _ => ?_) (fun h => absurd (by decide) h)
  refine b_aload_n 1 hX dX2_init_64 rfl rfl ?_
  refine b_rget (ci := 2) (o := 109) 2 15 cls2 (by decide) tb_185 rfl hX dX2_init_65 rfl rfl rfl (by decide) (by decide) (fun q16 => ?_)
  refine b_iconst (v := 0) hX dX2_init_68 rfl ?_
  refine b_aald (o := 302) (t := 5) (n := 6) (j := 0) 0 (by decide) hX dX2_init_69 rfl rfl (by decide) (by unfold vp_in; decide) (by decide) (fun q17 => ?_)
  refine b_iconst (v := 1) hX dX2_init_70 rfl ?_
  refine b_iput (ci := 4) (o := 310) 4 0 cls4 (by decide) tb_146 rfl (Or.inl rfl) hX dX2_init_71 rfl rfl rfl (by decide) rfl rfl ?_
  refine b_aload_n 1 hX dX2_init_74 rfl rfl ?_
  refine b_rget (ci := 2) (o := 109) 2 17 cls2 (by decide) tb_185 rfl hX dX2_init_75 rfl rfl rfl (by decide) (by decide) (fun q18 => ?_)
  refine b_iconst (v := 0) hX dX2_init_78 rfl ?_
  refine b_aald (o := 302) (t := 5) (n := 6) (j := 0) 0 (by decide) hX dX2_init_79 rfl rfl (by decide) (by unfold vp_in; decide) (by decide) (fun q19 => ?_)
  refine b_iconst (v := 1) hX dX2_init_80 rfl ?_
  refine b_iput (ci := 4) (o := 310) 6 0 cls4 (by decide) tb_152 rfl (Or.inl rfl) hX dX2_init_81 rfl rfl rfl (by decide) rfl rfl ?_
  exact b_vretB hX dX2_init_84 (by decide +kernel) rfl rfl rfl (fun z hz => by simp only [List.mem_cons, List.not_mem_nil, or_false] at hz; rcases hz with rfl | rfl | rfl <;> simp)
