/-! the constructors of Cases and Rolls -/
theorem dfX0 : ∀ k, k < 4 → defaultValue (tyX0 k) = if fk 0 k = 0 then .int 0 else .null := by decide +kernel
theorem dfX1 : ∀ k, k < 2 → defaultValue (tyX1 k) = if fk 1 k = 0 then .int 0 else .null := by decide +kernel
theorem dfX2 : ∀ k, k < 11 → defaultValue (tyX2 k) = if fk 2 k = 0 then .int 0 else .null := by decide +kernel
theorem dfX3 : ∀ k, k < 6 → defaultValue (tyX3 k) = if fk 3 k = 0 then .int 0 else .null := by decide +kernel
theorem dfX4 : ∀ k, k < 11 → defaultValue (tyX4 k) = if fk 4 k = 0 then .int 0 else .null := by decide +kernel
theorem dfX5 : ∀ k, k < 5 → defaultValue (tyX5 k) = if fk 5 k = 0 then .int 0 else .null := by decide +kernel
theorem dfX6 : ∀ k, k < 13 → defaultValue (tyX6 k) = if fk 6 k = 0 then .int 0 else .null := by decide +kernel
theorem dfX7 : ∀ k, k < 51 → defaultValue (tyX7 k) = if fk 7 k = 0 then .int 0 else .null := by decide +kernel
theorem tw_71 : Cond.initialized RX6 ∈ TB := TB_in (List.mem_of_getElem? (i := 71) (by decide +kernel)) (by decide +kernel)
theorem tw_72 : Cond.initialized RX5 ∈ TB := TB_in (List.mem_of_getElem? (i := 72) (by decide +kernel)) (by decide +kernel)
theorem tw_73 : Cond.initialized RX2 ∈ TB := TB_in (List.mem_of_getElem? (i := 73) (by decide +kernel)) (by decide +kernel)
theorem tw_74 : Cond.initialized RX4 ∈ TB := TB_in (List.mem_of_getElem? (i := 74) (by decide +kernel)) (by decide +kernel)
theorem tw_75 : Cond.initialized RX0 ∈ TB := TB_in (List.mem_of_getElem? (i := 75) (by decide +kernel)) (by decide +kernel)
theorem tw_76 : Cond.initialized RX3 ∈ TB := TB_in (List.mem_of_getElem? (i := 76) (by decide +kernel)) (by decide +kernel)
theorem tw_77 : Cond.initialized RX7 ∈ TB := TB_in (List.mem_of_getElem? (i := 77) (by decide +kernel)) (by decide +kernel)
theorem tw_78 : Cond.initialized RX1 ∈ TB := TB_in (List.mem_of_getElem? (i := 78) (by decide +kernel)) (by decide +kernel)
theorem tw_91 : Cond.code yX6_init cX6_init 2 none ∈ TB := TB_in (List.mem_of_getElem? (i := 91) (by decide +kernel)) (by decide +kernel)
theorem tw_101 : Cond.code yX5_init cX5_init 1 none ∈ TB := TB_in (List.mem_of_getElem? (i := 101) (by decide +kernel)) (by decide +kernel)
theorem tw_127 : Cond.code yX2_init cX2_init 4 none ∈ TB := TB_in (List.mem_of_getElem? (i := 127) (by decide +kernel)) (by decide +kernel)
theorem tw_134 : Cond.code yX4_init cX4_init 1 none ∈ TB := TB_in (List.mem_of_getElem? (i := 134) (by decide +kernel)) (by decide +kernel)
theorem tw_222 : Cond.code yX0_init cX0_init 1 none ∈ TB := TB_in (List.mem_of_getElem? (i := 222) (by decide +kernel)) (by decide +kernel)
theorem tw_243 : Cond.code yX3_init cX3_init 1 none ∈ TB := TB_in (List.mem_of_getElem? (i := 243) (by decide +kernel)) (by decide +kernel)
theorem tw_320 : Cond.code yX1_init cX1_init 3 none ∈ TB := TB_in (List.mem_of_getElem? (i := 320) (by decide +kernel)) (by decide +kernel)
theorem tw_321 : Cond.methodLink RX1 3 Lib.objectInit ∈ TB := TB_in (List.mem_of_getElem? (i := 321) (by decide +kernel)) (by decide +kernel)
theorem tw_322 : Cond.classLink RX1 9 "[[I" ∈ TB := TB_in (List.mem_of_getElem? (i := 322) (by decide +kernel)) (by decide +kernel)
theorem tw_913 : Cond.code yX7_init cX7_init 1 none ∈ TB := TB_in (List.mem_of_getElem? (i := 913) (by decide +kernel)) (by decide +kernel)
theorem Yok_X0_init : YOk Y_X0_init 0 := ⟨tw_222, tw_75, by decide, by decide⟩
theorem Yok_X1_init : YOk Y_X1_init 1 := ⟨tw_320, tw_78, by decide, by decide⟩
theorem Yok_X2_init : YOk Y_X2_init 2 := ⟨tw_127, tw_73, by decide, by decide⟩
theorem Yok_X3_init : YOk Y_X3_init 0 := ⟨tw_243, tw_76, by decide, by decide⟩
theorem Yok_X4_init : YOk Y_X4_init 0 := ⟨tw_134, tw_74, by decide, by decide⟩
theorem Yok_X5_init : YOk Y_X5_init 0 := ⟨tw_101, tw_72, by decide, by decide⟩
theorem Yok_X6_init : YOk Y_X6_init 0 := ⟨tw_91, tw_71, by decide, by decide⟩
theorem Yok_X7_init : YOk Y_X7_init 0 := ⟨tw_913, tw_77, by decide, by decide⟩
set_option maxHeartbeats 4000000 in
theorem kc_case_400 {σ : St} {x : Int32} (hf : ∀ z, z ∈ ([400, 401, 402, 403, 404] : List Nat) → fresh σ z) : BE 2 4 18 Y_X1_init [.ref 400, .int x] [] 400 [401, 402, 403, 404] σ (si (si (si (si (si (si (si (si (si (si (si (si (si (si (si (si σ 400 0 (x)) 402 0 (5)) 403 0 (5)) 404 0 (10)) 402 1 (5)) 403 1 (5)) 404 1 (10)) 402 2 (5)) 403 2 (5)) 404 2 (10)) 402 3 (5)) 403 3 (5)) 404 3 (10)) 402 4 (5)) 403 4 (5)) 404 4 (10)) := by
  refine BE_mk rfl rfl (Nat.le_of_ble_eq_true rfl) (Bc_fresh (by decide +kernel) (fun z hz => hf z (List.mem_cons.mpr (Or.inl (List.mem_singleton.mp hz))))) (((((((((((((((((Bc_fresh (by decide +kernel) hf).si (Or.inl (by decide))).si (Or.inl (by decide))).si (Or.inl (by decide))).si (Or.inl (by decide))).si (Or.inl (by decide))).si (Or.inl (by decide))).si (Or.inl (by decide))).si (Or.inl (by decide))).si (Or.inl (by decide))).si (Or.inl (by decide))).si (Or.inl (by decide))).si (Or.inl (by decide))).si (Or.inl (by decide))).si (Or.inl (by decide))).si (Or.inl (by decide))).si (Or.inl (by decide))) (fun X hX hN hI => ?_)
  refine b_aload_n 0 hX dX1_init_0 rfl rfl ?_
  refine b_objinit hX dX1_init_1 tw_321 tw_93 tw_94 (by decide) (by decide) rfl ?_
  refine b_aload_n 0 hX dX1_init_4 rfl rfl ?_
  refine b_iconst (v := 3) hX dX1_init_5 rfl ?_
  refine b_iconst (v := 5) hX dX1_init_6 rfl ?_
  refine b_newm (t := 1) (ty := .int) (n := 3) (k := 5) (N := 3) (M := 5) (b := 402) 401 (by decide) (fun _ => ⟨rfl, rfl⟩) (fun _ _ h => h) (fun _ _ h => h.2.1) tw_120 tw_322 rfl hX hN dX1_init_7 rfl (by decide) (fun _ => rfl) (by decide) (by decide) (by decide) (fun j hj => pz_i (t := 1) ((show ∀ j, j < 3 → sh (402 + j) = (1, 5) by decide) j hj) (Or.inl rfl) ((hf (402 + j) ((show ∀ j, j < 3 → 402 + j ∈ ([400, 401, 402, 403, 404] : List Nat) by decide) j hj)).int ((show ∀ j, j < 3 → sh (402 + j) = (1, 5) by decide) j hj) (Or.inl rfl))) (by decide) (by decide) rfl rfl (by decide) (by decide) (by decide) (by decide) (by decide) (fun q1 => ?_)
  refine b_link (ci := 1) (o := 400) 1 1 0 cls1 (by decide) tb_326 rfl (Or.inr ⟨rfl, rfl, hI⟩) hX dX1_init_11 rfl rfl rfl rfl (by decide) (fun _ => rfl) (fun _ => rfl) ?_
  refine b_aload_n 0 hX dX1_init_14 rfl rfl ?_
  refine b_iload_n (x := x) 1 hX dX1_init_15 rfl rfl ?_
  refine b_iput (ci := 1) (o := 400) 0 1 cls1 (by decide) tb_324 rfl (Or.inr ⟨rfl, rfl, hI⟩) hX dX1_init_16 rfl rfl rfl (by decide) rfl rfl ?_
  refine b_iconst (v := 0) hX dX1_init_19 rfl ?_
  refine b_istore_n (i := 2) hX dX1_init_20 rfl (by decide) rfl ?_
  refine b_iload_n (x := 0) 0 hX dX1_init_21 rfl rfl ?_
  refine b_iconst (v := 5) hX dX1_init_22 rfl ?_
  refine b_icmp_ge 60 hX dX1_init_23 rfl (fun h => absurd h (by decide)) (fun _ => ?_)
  refine b_aload_n 1 hX dX1_init_26 rfl rfl ?_
  refine b_rget (ci := 1) (o := 400) 1 1 cls1 (by decide) tb_326 rfl hX dX1_init_27 rfl rfl rfl (by decide) (by decide) (fun q2 => ?_)
  refine b_iconst (v := 0) hX dX1_init_30 rfl ?_
  refine b_aald (o := 401) (t := 6) (n := 3) (j := 0) 0 (by decide) hX dX1_init_31 rfl rfl (by decide) (by unfold vp_in; decide) (by decide) (fun q3 => ?_)
  refine b_iload_n (x := 0) 0 hX dX1_init_32 rfl rfl ?_
  refine b_iconst (v := 5) hX dX1_init_33 rfl ?_
  refine b_iast (o := 402) (n := 5) (j := 0) (x := 5) 0 hX dX1_init_34 rfl rfl (by decide) (by unfold vp_in; decide) ?_
  refine b_aload_n 1 hX dX1_init_35 rfl rfl ?_
  refine b_rget (ci := 1) (o := 400) 1 3 cls1 (by decide) tb_326 rfl hX dX1_init_36 rfl rfl rfl (by decide) (by decide) (fun q4 => ?_)
  refine b_iconst (v := 1) hX dX1_init_39 rfl ?_
  refine b_aald (o := 401) (t := 6) (n := 3) (j := 1) 0 (by decide) hX dX1_init_40 rfl rfl (by decide) (by unfold vp_in; decide) (by decide) (fun q5 => ?_)
  refine b_iload_n (x := 0) 0 hX dX1_init_41 rfl rfl ?_
  refine b_iconst (v := 5) hX dX1_init_42 rfl ?_
  refine b_iast (o := 403) (n := 5) (j := 0) (x := 5) 0 hX dX1_init_43 rfl rfl (by decide) (by unfold vp_in; decide) ?_
  refine b_aload_n 1 hX dX1_init_44 rfl rfl ?_
  refine b_rget (ci := 1) (o := 400) 1 5 cls1 (by decide) tb_326 rfl hX dX1_init_45 rfl rfl rfl (by decide) (by decide) (fun q6 => ?_)
  refine b_iconst (v := 2) hX dX1_init_48 rfl ?_
  refine b_aald (o := 401) (t := 6) (n := 3) (j := 2) 0 (by decide) hX dX1_init_49 rfl rfl (by decide) (by unfold vp_in; decide) (by decide) (fun q7 => ?_)
  refine b_iload_n (x := 0) 0 hX dX1_init_50 rfl rfl ?_
  refine b_bipush (v := 10) hX dX1_init_51 rfl ?_
  refine b_iast (o := 404) (n := 5) (j := 0) (x := 10) 0 hX dX1_init_53 rfl rfl (by decide) (by unfold vp_in; decide) ?_
  refine b_iinc (x := 0) (v := 1) 0 hX dX1_init_54 rfl rfl (by decide) rfl ?_
  refine b_goto 21 hX dX1_init_57 rfl ?_
  refine b_iload_n (x := 1) 0 hX dX1_init_21 rfl rfl ?_
  refine b_iconst (v := 5) hX dX1_init_22 rfl ?_
  refine b_icmp_ge 60 hX dX1_init_23 rfl (fun h => absurd h (by decide)) (fun _ => ?_)
  refine b_aload_n 1 hX dX1_init_26 rfl rfl ?_
  refine b_rget (ci := 1) (o := 400) 1 7 cls1 (by decide) tb_326 rfl hX dX1_init_27 rfl rfl rfl (by decide) (by decide) (fun q8 => ?_)
  refine b_iconst (v := 0) hX dX1_init_30 rfl ?_
  refine b_aald (o := 401) (t := 6) (n := 3) (j := 0) 0 (by decide) hX dX1_init_31 rfl rfl (by decide) (by unfold vp_in; decide) (by decide) (fun q9 => ?_)
  refine b_iload_n (x := 1) 0 hX dX1_init_32 rfl rfl ?_
  refine b_iconst (v := 5) hX dX1_init_33 rfl ?_
  refine b_iast (o := 402) (n := 5) (j := 1) (x := 5) 0 hX dX1_init_34 rfl rfl (by decide) (by unfold vp_in; decide) ?_
  refine b_aload_n 1 hX dX1_init_35 rfl rfl ?_
  refine b_rget (ci := 1) (o := 400) 1 9 cls1 (by decide) tb_326 rfl hX dX1_init_36 rfl rfl rfl (by decide) (by decide) (fun q10 => ?_)
  refine b_iconst (v := 1) hX dX1_init_39 rfl ?_
  refine b_aald (o := 401) (t := 6) (n := 3) (j := 1) 0 (by decide) hX dX1_init_40 rfl rfl (by decide) (by unfold vp_in; decide) (by decide) (fun q11 => ?_)
  refine b_iload_n (x := 1) 0 hX dX1_init_41 rfl rfl ?_
  refine b_iconst (v := 5) hX dX1_init_42 rfl ?_
  refine b_iast (o := 403) (n := 5) (j := 1) (x := 5) 0 hX dX1_init_43 rfl rfl (by decide) (by unfold vp_in; decide) ?_
  refine b_aload_n 1 hX dX1_init_44 rfl rfl ?_
  refine b_rget (ci := 1) (o := 400) 1 11 cls1 (by decide) tb_326 rfl hX dX1_init_45 rfl rfl rfl (by decide) (by decide) (fun q12 => ?_)
  refine b_iconst (v := 2) hX dX1_init_48 rfl ?_
  refine b_aald (o := 401) (t := 6) (n := 3) (j := 2) 0 (by decide) hX dX1_init_49 rfl rfl (by decide) (by unfold vp_in; decide) (by decide) (fun q13 => ?_)
  refine b_iload_n (x := 1) 0 hX dX1_init_50 rfl rfl ?_
  refine b_bipush (v := 10) hX dX1_init_51 rfl ?_
  refine b_iast (o := 404) (n := 5) (j := 1) (x := 10) 0 hX dX1_init_53 rfl rfl (by decide) (by unfold vp_in; decide) ?_
  refine b_iinc (x := 1) (v := 2) 0 hX dX1_init_54 rfl rfl (by decide) rfl ?_
  refine b_goto 21 hX dX1_init_57 rfl ?_
  refine b_iload_n (x := 2) 0 hX dX1_init_21 rfl rfl ?_
  refine b_iconst (v := 5) hX dX1_init_22 rfl ?_
  refine b_icmp_ge 60 hX dX1_init_23 rfl (fun h => absurd h (by decide)) (fun _ => ?_)
  refine b_aload_n 1 hX dX1_init_26 rfl rfl ?_
  refine b_rget (ci := 1) (o := 400) 1 13 cls1 (by decide) tb_326 rfl hX dX1_init_27 rfl rfl rfl (by decide) (by decide) (fun q14 => ?_)
  refine b_iconst (v := 0) hX dX1_init_30 rfl ?_
  refine b_aald (o := 401) (t := 6) (n := 3) (j := 0) 0 (by decide) hX dX1_init_31 rfl rfl (by decide) (by unfold vp_in; decide) (by decide) (fun q15 => ?_)
  refine b_iload_n (x := 2) 0 hX dX1_init_32 rfl rfl ?_
  refine b_iconst (v := 5) hX dX1_init_33 rfl ?_
  refine b_iast (o := 402) (n := 5) (j := 2) (x := 5) 0 hX dX1_init_34 rfl rfl (by decide) (by unfold vp_in; decide) ?_
  refine b_aload_n 1 hX dX1_init_35 rfl rfl ?_
  refine b_rget (ci := 1) (o := 400) 1 15 cls1 (by decide) tb_326 rfl hX dX1_init_36 rfl rfl rfl (by decide) (by decide) (fun q16 => ?_)
  refine b_iconst (v := 1) hX dX1_init_39 rfl ?_
  refine b_aald (o := 401) (t := 6) (n := 3) (j := 1) 0 (by decide) hX dX1_init_40 rfl rfl (by decide) (by unfold vp_in; decide) (by decide) (fun q17 => ?_)
  refine b_iload_n (x := 2) 0 hX dX1_init_41 rfl rfl ?_
  refine b_iconst (v := 5) hX dX1_init_42 rfl ?_
  refine b_iast (o := 403) (n := 5) (j := 2) (x := 5) 0 hX dX1_init_43 rfl rfl (by decide) (by unfold vp_in; decide) ?_
  refine b_aload_n 1 hX dX1_init_44 rfl rfl ?_
  refine b_rget (ci := 1) (o := 400) 1 17 cls1 (by decide) tb_326 rfl hX dX1_init_45 rfl rfl rfl (by decide) (by decide) (fun q18 => ?_)
  refine b_iconst (v := 2) hX dX1_init_48 rfl ?_
  refine b_aald (o := 401) (t := 6) (n := 3) (j := 2) 0 (by decide) hX dX1_init_49 rfl rfl (by decide) (by unfold vp_in; decide) (by decide) (fun q19 => ?_)
  refine b_iload_n (x := 2) 0 hX dX1_init_50 rfl rfl ?_
  refine b_bipush (v := 10) hX dX1_init_51 rfl ?_
  refine b_iast (o := 404) (n := 5) (j := 2) (x := 10) 0 hX dX1_init_53 rfl rfl (by decide) (by unfold vp_in; decide) ?_
  refine b_iinc (x := 2) (v := 3) 0 hX dX1_init_54 rfl rfl (by decide) rfl ?_
  refine b_goto 21 hX dX1_init_57 rfl ?_
  refine b_iload_n (x := 3) 0 hX dX1_init_21 rfl rfl ?_
  refine b_iconst (v := 5) hX dX1_init_22 rfl ?_
  refine b_icmp_ge 60 hX dX1_init_23 rfl (fun h => absurd h (by decide)) (fun _ => ?_)
  refine b_aload_n 1 hX dX1_init_26 rfl rfl ?_
  refine b_rget (ci := 1) (o := 400) 1 19 cls1 (by decide) tb_326 rfl hX dX1_init_27 rfl rfl rfl (by decide) (by decide) (fun q20 => ?_)
  refine b_iconst (v := 0) hX dX1_init_30 rfl ?_
  refine b_aald (o := 401) (t := 6) (n := 3) (j := 0) 0 (by decide) hX dX1_init_31 rfl rfl (by decide) (by unfold vp_in; decide) (by decide) (fun q21 => ?_)
  refine b_iload_n (x := 3) 0 hX dX1_init_32 rfl rfl ?_
  refine b_iconst (v := 5) hX dX1_init_33 rfl ?_
  refine b_iast (o := 402) (n := 5) (j := 3) (x := 5) 0 hX dX1_init_34 rfl rfl (by decide) (by unfold vp_in; decide) ?_
  refine b_aload_n 1 hX dX1_init_35 rfl rfl ?_
  refine b_rget (ci := 1) (o := 400) 1 21 cls1 (by decide) tb_326 rfl hX dX1_init_36 rfl rfl rfl (by decide) (by decide) (fun q22 => ?_)
  refine b_iconst (v := 1) hX dX1_init_39 rfl ?_
  refine b_aald (o := 401) (t := 6) (n := 3) (j := 1) 0 (by decide) hX dX1_init_40 rfl rfl (by decide) (by unfold vp_in; decide) (by decide) (fun q23 => ?_)
  refine b_iload_n (x := 3) 0 hX dX1_init_41 rfl rfl ?_
  refine b_iconst (v := 5) hX dX1_init_42 rfl ?_
  refine b_iast (o := 403) (n := 5) (j := 3) (x := 5) 0 hX dX1_init_43 rfl rfl (by decide) (by unfold vp_in; decide) ?_
  refine b_aload_n 1 hX dX1_init_44 rfl rfl ?_
  refine b_rget (ci := 1) (o := 400) 1 23 cls1 (by decide) tb_326 rfl hX dX1_init_45 rfl rfl rfl (by decide) (by decide) (fun q24 => ?_)
  refine b_iconst (v := 2) hX dX1_init_48 rfl ?_
  refine b_aald (o := 401) (t := 6) (n := 3) (j := 2) 0 (by decide) hX dX1_init_49 rfl rfl (by decide) (by unfold vp_in; decide) (by decide) (fun q25 => ?_)
  refine b_iload_n (x := 3) 0 hX dX1_init_50 rfl rfl ?_
  refine b_bipush (v := 10) hX dX1_init_51 rfl ?_
  refine b_iast (o := 404) (n := 5) (j := 3) (x := 10) 0 hX dX1_init_53 rfl rfl (by decide) (by unfold vp_in; decide) ?_
  refine b_iinc (x := 3) (v := 4) 0 hX dX1_init_54 rfl rfl (by decide) rfl ?_
  refine b_goto 21 hX dX1_init_57 rfl ?_
  refine b_iload_n (x := 4) 0 hX dX1_init_21 rfl rfl ?_
  refine b_iconst (v := 5) hX dX1_init_22 rfl ?_
  refine b_icmp_ge 60 hX dX1_init_23 rfl (fun h => absurd h (by decide)) (fun _ => ?_)
  refine b_aload_n 1 hX dX1_init_26 rfl rfl ?_
  refine b_rget (ci := 1) (o := 400) 1 25 cls1 (by decide) tb_326 rfl hX dX1_init_27 rfl rfl rfl (by decide) (by decide) (fun q26 => ?_)
  refine b_iconst (v := 0) hX dX1_init_30 rfl ?_
  refine b_aald (o := 401) (t := 6) (n := 3) (j := 0) 0 (by decide) hX dX1_init_31 rfl rfl (by decide) (by unfold vp_in; decide) (by decide) (fun q27 => ?_)
  refine b_iload_n (x := 4) 0 hX dX1_init_32 rfl rfl ?_
  refine b_iconst (v := 5) hX dX1_init_33 rfl ?_
  refine b_iast (o := 402) (n := 5) (j := 4) (x := 5) 0 hX dX1_init_34 rfl rfl (by decide) (by unfold vp_in; decide) ?_
  refine b_aload_n 1 hX dX1_init_35 rfl rfl ?_
  refine b_rget (ci := 1) (o := 400) 1 27 cls1 (by decide) tb_326 rfl hX dX1_init_36 rfl rfl rfl (by decide) (by decide) (fun q28 => ?_)
  refine b_iconst (v := 1) hX dX1_init_39 rfl ?_
  refine b_aald (o := 401) (t := 6) (n := 3) (j := 1) 0 (by decide) hX dX1_init_40 rfl rfl (by decide) (by unfold vp_in; decide) (by decide) (fun q29 => ?_)
  refine b_iload_n (x := 4) 0 hX dX1_init_41 rfl rfl ?_
  refine b_iconst (v := 5) hX dX1_init_42 rfl ?_
  refine b_iast (o := 403) (n := 5) (j := 4) (x := 5) 0 hX dX1_init_43 rfl rfl (by decide) (by unfold vp_in; decide) ?_
  refine b_aload_n 1 hX dX1_init_44 rfl rfl ?_
  refine b_rget (ci := 1) (o := 400) 1 29 cls1 (by decide) tb_326 rfl hX dX1_init_45 rfl rfl rfl (by decide) (by decide) (fun q30 => ?_)
  refine b_iconst (v := 2) hX dX1_init_48 rfl ?_
  refine b_aald (o := 401) (t := 6) (n := 3) (j := 2) 0 (by decide) hX dX1_init_49 rfl rfl (by decide) (by unfold vp_in; decide) (by decide) (fun q31 => ?_)
  refine b_iload_n (x := 4) 0 hX dX1_init_50 rfl rfl ?_
  refine b_bipush (v := 10) hX dX1_init_51 rfl ?_
  refine b_iast (o := 404) (n := 5) (j := 4) (x := 10) 0 hX dX1_init_53 rfl rfl (by decide) (by unfold vp_in; decide) ?_
  refine b_iinc (x := 4) (v := 5) 0 hX dX1_init_54 rfl rfl (by decide) rfl ?_
  refine b_goto 21 hX dX1_init_57 rfl ?_
  refine b_iload_n (x := 5) 0 hX dX1_init_21 rfl rfl ?_
  refine b_iconst (v := 5) hX dX1_init_22 rfl ?_
  refine b_icmp_ge 60 hX dX1_init_23 rfl (fun _ => ?_) (fun h => absurd (by decide) h)
  exact b_vretB hX dX1_init_60 (by decide +kernel) rfl rfl rfl (fun z hz => by simp only [List.mem_cons, List.not_mem_nil, or_false] at hz; rcases hz with rfl <;> simp)
set_option maxHeartbeats 4000000 in
theorem kc_case_410 {σ : St} {x : Int32} (hf : ∀ z, z ∈ ([410, 411, 412, 413, 414] : List Nat) → fresh σ z) : BE 2 4 18 Y_X1_init [.ref 410, .int x] [] 410 [411, 412, 413, 414] σ (si (si (si (si (si (si (si (si (si (si (si (si (si (si (si (si σ 410 0 (x)) 412 0 (5)) 413 0 (5)) 414 0 (10)) 412 1 (5)) 413 1 (5)) 414 1 (10)) 412 2 (5)) 413 2 (5)) 414 2 (10)) 412 3 (5)) 413 3 (5)) 414 3 (10)) 412 4 (5)) 413 4 (5)) 414 4 (10)) := by
  refine BE_mk rfl rfl (Nat.le_of_ble_eq_true rfl) (Bc_fresh (by decide +kernel) (fun z hz => hf z (List.mem_cons.mpr (Or.inl (List.mem_singleton.mp hz))))) (((((((((((((((((Bc_fresh (by decide +kernel) hf).si (Or.inl (by decide))).si (Or.inl (by decide))).si (Or.inl (by decide))).si (Or.inl (by decide))).si (Or.inl (by decide))).si (Or.inl (by decide))).si (Or.inl (by decide))).si (Or.inl (by decide))).si (Or.inl (by decide))).si (Or.inl (by decide))).si (Or.inl (by decide))).si (Or.inl (by decide))).si (Or.inl (by decide))).si (Or.inl (by decide))).si (Or.inl (by decide))).si (Or.inl (by decide))) (fun X hX hN hI => ?_)
  refine b_aload_n 0 hX dX1_init_0 rfl rfl ?_
  refine b_objinit hX dX1_init_1 tw_321 tw_93 tw_94 (by decide) (by decide) rfl ?_
  refine b_aload_n 0 hX dX1_init_4 rfl rfl ?_
  refine b_iconst (v := 3) hX dX1_init_5 rfl ?_
  refine b_iconst (v := 5) hX dX1_init_6 rfl ?_
  refine b_newm (t := 1) (ty := .int) (n := 3) (k := 5) (N := 3) (M := 5) (b := 412) 411 (by decide) (fun _ => ⟨rfl, rfl⟩) (fun _ _ h => h) (fun _ _ h => h.2.1) tw_120 tw_322 rfl hX hN dX1_init_7 rfl (by decide) (fun _ => rfl) (by decide) (by decide) (by decide) (fun j hj => pz_i (t := 1) ((show ∀ j, j < 3 → sh (412 + j) = (1, 5) by decide) j hj) (Or.inl rfl) ((hf (412 + j) ((show ∀ j, j < 3 → 412 + j ∈ ([410, 411, 412, 413, 414] : List Nat) by decide) j hj)).int ((show ∀ j, j < 3 → sh (412 + j) = (1, 5) by decide) j hj) (Or.inl rfl))) (by decide) (by decide) rfl rfl (by decide) (by decide) (by decide) (by decide) (by decide) (fun q1 => ?_)
  refine b_link (ci := 1) (o := 410) 1 1 0 cls1 (by decide) tb_326 rfl (Or.inr ⟨rfl, rfl, hI⟩) hX dX1_init_11 rfl rfl rfl rfl (by decide) (fun _ => rfl) (fun _ => rfl) ?_
  refine b_aload_n 0 hX dX1_init_14 rfl rfl ?_
  refine b_iload_n (x := x) 1 hX dX1_init_15 rfl rfl ?_
  refine b_iput (ci := 1) (o := 410) 0 1 cls1 (by decide) tb_324 rfl (Or.inr ⟨rfl, rfl, hI⟩) hX dX1_init_16 rfl rfl rfl (by decide) rfl rfl ?_
  refine b_iconst (v := 0) hX dX1_init_19 rfl ?_
  refine b_istore_n (i := 2) hX dX1_init_20 rfl (by decide) rfl ?_
  refine b_iload_n (x := 0) 0 hX dX1_init_21 rfl rfl ?_
  refine b_iconst (v := 5) hX dX1_init_22 rfl ?_
  refine b_icmp_ge 60 hX dX1_init_23 rfl (fun h => absurd h (by decide)) (fun _ => ?_)
  refine b_aload_n 1 hX dX1_init_26 rfl rfl ?_
  refine b_rget (ci := 1) (o := 410) 1 1 cls1 (by decide) tb_326 rfl hX dX1_init_27 rfl rfl rfl (by decide) (by decide) (fun q2 => ?_)
  refine b_iconst (v := 0) hX dX1_init_30 rfl ?_
  refine b_aald (o := 411) (t := 6) (n := 3) (j := 0) 0 (by decide) hX dX1_init_31 rfl rfl (by decide) (by unfold vp_in; decide) (by decide) (fun q3 => ?_)
  refine b_iload_n (x := 0) 0 hX dX1_init_32 rfl rfl ?_
  refine b_iconst (v := 5) hX dX1_init_33 rfl ?_
  refine b_iast (o := 412) (n := 5) (j := 0) (x := 5) 0 hX dX1_init_34 rfl rfl (by decide) (by unfold vp_in; decide) ?_
  refine b_aload_n 1 hX dX1_init_35 rfl rfl ?_
  refine b_rget (ci := 1) (o := 410) 1 3 cls1 (by decide) tb_326 rfl hX dX1_init_36 rfl rfl rfl (by decide) (by decide) (fun q4 => ?_)
  refine b_iconst (v := 1) hX dX1_init_39 rfl ?_
  refine b_aald (o := 411) (t := 6) (n := 3) (j := 1) 0 (by decide) hX dX1_init_40 rfl rfl (by decide) (by unfold vp_in; decide) (by decide) (fun q5 => ?_)
  refine b_iload_n (x := 0) 0 hX dX1_init_41 rfl rfl ?_
  refine b_iconst (v := 5) hX dX1_init_42 rfl ?_
  refine b_iast (o := 413) (n := 5) (j := 0) (x := 5) 0 hX dX1_init_43 rfl rfl (by decide) (by unfold vp_in; decide) ?_
  refine b_aload_n 1 hX dX1_init_44 rfl rfl ?_
  refine b_rget (ci := 1) (o := 410) 1 5 cls1 (by decide) tb_326 rfl hX dX1_init_45 rfl rfl rfl (by decide) (by decide) (fun q6 => ?_)
  refine b_iconst (v := 2) hX dX1_init_48 rfl ?_
  refine b_aald (o := 411) (t := 6) (n := 3) (j := 2) 0 (by decide) hX dX1_init_49 rfl rfl (by decide) (by unfold vp_in; decide) (by decide) (fun q7 => ?_)
  refine b_iload_n (x := 0) 0 hX dX1_init_50 rfl rfl ?_
  refine b_bipush (v := 10) hX dX1_init_51 rfl ?_
  refine b_iast (o := 414) (n := 5) (j := 0) (x := 10) 0 hX dX1_init_53 rfl rfl (by decide) (by unfold vp_in; decide) ?_
  refine b_iinc (x := 0) (v := 1) 0 hX dX1_init_54 rfl rfl (by decide) rfl ?_
  refine b_goto 21 hX dX1_init_57 rfl ?_
  refine b_iload_n (x := 1) 0 hX dX1_init_21 rfl rfl ?_
  refine b_iconst (v := 5) hX dX1_init_22 rfl ?_
  refine b_icmp_ge 60 hX dX1_init_23 rfl (fun h => absurd h (by decide)) (fun _ => ?_)
  refine b_aload_n 1 hX dX1_init_26 rfl rfl ?_
  refine b_rget (ci := 1) (o := 410) 1 7 cls1 (by decide) tb_326 rfl hX dX1_init_27 rfl rfl rfl (by decide) (by decide) (fun q8 => ?_)
  refine b_iconst (v := 0) hX dX1_init_30 rfl ?_
  refine b_aald (o := 411) (t := 6) (n := 3) (j := 0) 0 (by decide) hX dX1_init_31 rfl rfl (by decide) (by unfold vp_in; decide) (by decide) (fun q9 => ?_)
  refine b_iload_n (x := 1) 0 hX dX1_init_32 rfl rfl ?_
  refine b_iconst (v := 5) hX dX1_init_33 rfl ?_
  refine b_iast (o := 412) (n := 5) (j := 1) (x := 5) 0 hX dX1_init_34 rfl rfl (by decide) (by unfold vp_in; decide) ?_
  refine b_aload_n 1 hX dX1_init_35 rfl rfl ?_
  refine b_rget (ci := 1) (o := 410) 1 9 cls1 (by decide) tb_326 rfl hX dX1_init_36 rfl rfl rfl (by decide) (by decide) (fun q10 => ?_)
  refine b_iconst (v := 1) hX dX1_init_39 rfl ?_
  refine b_aald (o := 411) (t := 6) (n := 3) (j := 1) 0 (by decide) hX dX1_init_40 rfl rfl (by decide) (by unfold vp_in; decide) (by decide) (fun q11 => ?_)
  refine b_iload_n (x := 1) 0 hX dX1_init_41 rfl rfl ?_
  refine b_iconst (v := 5) hX dX1_init_42 rfl ?_
  refine b_iast (o := 413) (n := 5) (j := 1) (x := 5) 0 hX dX1_init_43 rfl rfl (by decide) (by unfold vp_in; decide) ?_
  refine b_aload_n 1 hX dX1_init_44 rfl rfl ?_
  refine b_rget (ci := 1) (o := 410) 1 11 cls1 (by decide) tb_326 rfl hX dX1_init_45 rfl rfl rfl (by decide) (by decide) (fun q12 => ?_)
  refine b_iconst (v := 2) hX dX1_init_48 rfl ?_
  refine b_aald (o := 411) (t := 6) (n := 3) (j := 2) 0 (by decide) hX dX1_init_49 rfl rfl (by decide) (by unfold vp_in; decide) (by decide) (fun q13 => ?_)
  refine b_iload_n (x := 1) 0 hX dX1_init_50 rfl rfl ?_
  refine b_bipush (v := 10) hX dX1_init_51 rfl ?_
  refine b_iast (o := 414) (n := 5) (j := 1) (x := 10) 0 hX dX1_init_53 rfl rfl (by decide) (by unfold vp_in; decide) ?_
  refine b_iinc (x := 1) (v := 2) 0 hX dX1_init_54 rfl rfl (by decide) rfl ?_
  refine b_goto 21 hX dX1_init_57 rfl ?_
  refine b_iload_n (x := 2) 0 hX dX1_init_21 rfl rfl ?_
  refine b_iconst (v := 5) hX dX1_init_22 rfl ?_
  refine b_icmp_ge 60 hX dX1_init_23 rfl (fun h => absurd h (by decide)) (fun _ => ?_)
  refine b_aload_n 1 hX dX1_init_26 rfl rfl ?_
  refine b_rget (ci := 1) (o := 410) 1 13 cls1 (by decide) tb_326 rfl hX dX1_init_27 rfl rfl rfl (by decide) (by decide) (fun q14 => ?_)
  refine b_iconst (v := 0) hX dX1_init_30 rfl ?_
  refine b_aald (o := 411) (t := 6) (n := 3) (j := 0) 0 (by decide) hX dX1_init_31 rfl rfl (by decide) (by unfold vp_in; decide) (by decide) (fun q15 => ?_)
  refine b_iload_n (x := 2) 0 hX dX1_init_32 rfl rfl ?_
  refine b_iconst (v := 5) hX dX1_init_33 rfl ?_
  refine b_iast (o := 412) (n := 5) (j := 2) (x := 5) 0 hX dX1_init_34 rfl rfl (by decide) (by unfold vp_in; decide) ?_
  refine b_aload_n 1 hX dX1_init_35 rfl rfl ?_
  refine b_rget (ci := 1) (o := 410) 1 15 cls1 (by decide) tb_326 rfl hX dX1_init_36 rfl rfl rfl (by decide) (by decide) (fun q16 => ?_)
  refine b_iconst (v := 1) hX dX1_init_39 rfl ?_
  refine b_aald (o := 411) (t := 6) (n := 3) (j := 1) 0 (by decide) hX dX1_init_40 rfl rfl (by decide) (by unfold vp_in; decide) (by decide) (fun q17 => ?_)
  refine b_iload_n (x := 2) 0 hX dX1_init_41 rfl rfl ?_
  refine b_iconst (v := 5) hX dX1_init_42 rfl ?_
  refine b_iast (o := 413) (n := 5) (j := 2) (x := 5) 0 hX dX1_init_43 rfl rfl (by decide) (by unfold vp_in; decide) ?_
  refine b_aload_n 1 hX dX1_init_44 rfl rfl ?_
  refine b_rget (ci := 1) (o := 410) 1 17 cls1 (by decide) tb_326 rfl hX dX1_init_45 rfl rfl rfl (by decide) (by decide) (fun q18 => ?_)
  refine b_iconst (v := 2) hX dX1_init_48 rfl ?_
  refine b_aald (o := 411) (t := 6) (n := 3) (j := 2) 0 (by decide) hX dX1_init_49 rfl rfl (by decide) (by unfold vp_in; decide) (by decide) (fun q19 => ?_)
  refine b_iload_n (x := 2) 0 hX dX1_init_50 rfl rfl ?_
  refine b_bipush (v := 10) hX dX1_init_51 rfl ?_
  refine b_iast (o := 414) (n := 5) (j := 2) (x := 10) 0 hX dX1_init_53 rfl rfl (by decide) (by unfold vp_in; decide) ?_
  refine b_iinc (x := 2) (v := 3) 0 hX dX1_init_54 rfl rfl (by decide) rfl ?_
  refine b_goto 21 hX dX1_init_57 rfl ?_
  refine b_iload_n (x := 3) 0 hX dX1_init_21 rfl rfl ?_
  refine b_iconst (v := 5) hX dX1_init_22 rfl ?_
  refine b_icmp_ge 60 hX dX1_init_23 rfl (fun h => absurd h (by decide)) (fun _ => ?_)
  refine b_aload_n 1 hX dX1_init_26 rfl rfl ?_
  refine b_rget (ci := 1) (o := 410) 1 19 cls1 (by decide) tb_326 rfl hX dX1_init_27 rfl rfl rfl (by decide) (by decide) (fun q20 => ?_)
  refine b_iconst (v := 0) hX dX1_init_30 rfl ?_
  refine b_aald (o := 411) (t := 6) (n := 3) (j := 0) 0 (by decide) hX dX1_init_31 rfl rfl (by decide) (by unfold vp_in; decide) (by decide) (fun q21 => ?_)
  refine b_iload_n (x := 3) 0 hX dX1_init_32 rfl rfl ?_
  refine b_iconst (v := 5) hX dX1_init_33 rfl ?_
  refine b_iast (o := 412) (n := 5) (j := 3) (x := 5) 0 hX dX1_init_34 rfl rfl (by decide) (by unfold vp_in; decide) ?_
  refine b_aload_n 1 hX dX1_init_35 rfl rfl ?_
  refine b_rget (ci := 1) (o := 410) 1 21 cls1 (by decide) tb_326 rfl hX dX1_init_36 rfl rfl rfl (by decide) (by decide) (fun q22 => ?_)
  refine b_iconst (v := 1) hX dX1_init_39 rfl ?_
  refine b_aald (o := 411) (t := 6) (n := 3) (j := 1) 0 (by decide) hX dX1_init_40 rfl rfl (by decide) (by unfold vp_in; decide) (by decide) (fun q23 => ?_)
  refine b_iload_n (x := 3) 0 hX dX1_init_41 rfl rfl ?_
  refine b_iconst (v := 5) hX dX1_init_42 rfl ?_
  refine b_iast (o := 413) (n := 5) (j := 3) (x := 5) 0 hX dX1_init_43 rfl rfl (by decide) (by unfold vp_in; decide) ?_
  refine b_aload_n 1 hX dX1_init_44 rfl rfl ?_
  refine b_rget (ci := 1) (o := 410) 1 23 cls1 (by decide) tb_326 rfl hX dX1_init_45 rfl rfl rfl (by decide) (by decide) (fun q24 => ?_)
  refine b_iconst (v := 2) hX dX1_init_48 rfl ?_
  refine b_aald (o := 411) (t := 6) (n := 3) (j := 2) 0 (by decide) hX dX1_init_49 rfl rfl (by decide) (by unfold vp_in; decide) (by decide) (fun q25 => ?_)
  refine b_iload_n (x := 3) 0 hX dX1_init_50 rfl rfl ?_
  refine b_bipush (v := 10) hX dX1_init_51 rfl ?_
  refine b_iast (o := 414) (n := 5) (j := 3) (x := 10) 0 hX dX1_init_53 rfl rfl (by decide) (by unfold vp_in; decide) ?_
  refine b_iinc (x := 3) (v := 4) 0 hX dX1_init_54 rfl rfl (by decide) rfl ?_
  refine b_goto 21 hX dX1_init_57 rfl ?_
  refine b_iload_n (x := 4) 0 hX dX1_init_21 rfl rfl ?_
  refine b_iconst (v := 5) hX dX1_init_22 rfl ?_
  refine b_icmp_ge 60 hX dX1_init_23 rfl (fun h => absurd h (by decide)) (fun _ => ?_)
  refine b_aload_n 1 hX dX1_init_26 rfl rfl ?_
  refine b_rget (ci := 1) (o := 410) 1 25 cls1 (by decide) tb_326 rfl hX dX1_init_27 rfl rfl rfl (by decide) (by decide) (fun q26 => ?_)
  refine b_iconst (v := 0) hX dX1_init_30 rfl ?_
  refine b_aald (o := 411) (t := 6) (n := 3) (j := 0) 0 (by decide) hX dX1_init_31 rfl rfl (by decide) (by unfold vp_in; decide) (by decide) (fun q27 => ?_)
  refine b_iload_n (x := 4) 0 hX dX1_init_32 rfl rfl ?_
  refine b_iconst (v := 5) hX dX1_init_33 rfl ?_
  refine b_iast (o := 412) (n := 5) (j := 4) (x := 5) 0 hX dX1_init_34 rfl rfl (by decide) (by unfold vp_in; decide) ?_
  refine b_aload_n 1 hX dX1_init_35 rfl rfl ?_
  refine b_rget (ci := 1) (o := 410) 1 27 cls1 (by decide) tb_326 rfl hX dX1_init_36 rfl rfl rfl (by decide) (by decide) (fun q28 => ?_)
  refine b_iconst (v := 1) hX dX1_init_39 rfl ?_
  refine b_aald (o := 411) (t := 6) (n := 3) (j := 1) 0 (by decide) hX dX1_init_40 rfl rfl (by decide) (by unfold vp_in; decide) (by decide) (fun q29 => ?_)
  refine b_iload_n (x := 4) 0 hX dX1_init_41 rfl rfl ?_
  refine b_iconst (v := 5) hX dX1_init_42 rfl ?_
  refine b_iast (o := 413) (n := 5) (j := 4) (x := 5) 0 hX dX1_init_43 rfl rfl (by decide) (by unfold vp_in; decide) ?_
  refine b_aload_n 1 hX dX1_init_44 rfl rfl ?_
  refine b_rget (ci := 1) (o := 410) 1 29 cls1 (by decide) tb_326 rfl hX dX1_init_45 rfl rfl rfl (by decide) (by decide) (fun q30 => ?_)
  refine b_iconst (v := 2) hX dX1_init_48 rfl ?_
  refine b_aald (o := 411) (t := 6) (n := 3) (j := 2) 0 (by decide) hX dX1_init_49 rfl rfl (by decide) (by unfold vp_in; decide) (by decide) (fun q31 => ?_)
  refine b_iload_n (x := 4) 0 hX dX1_init_50 rfl rfl ?_
  refine b_bipush (v := 10) hX dX1_init_51 rfl ?_
  refine b_iast (o := 414) (n := 5) (j := 4) (x := 10) 0 hX dX1_init_53 rfl rfl (by decide) (by unfold vp_in; decide) ?_
  refine b_iinc (x := 4) (v := 5) 0 hX dX1_init_54 rfl rfl (by decide) rfl ?_
  refine b_goto 21 hX dX1_init_57 rfl ?_
  refine b_iload_n (x := 5) 0 hX dX1_init_21 rfl rfl ?_
  refine b_iconst (v := 5) hX dX1_init_22 rfl ?_
  refine b_icmp_ge 60 hX dX1_init_23 rfl (fun _ => ?_) (fun h => absurd (by decide) h)
  exact b_vretB hX dX1_init_60 (by decide +kernel) rfl rfl rfl (fun z hz => by simp only [List.mem_cons, List.not_mem_nil, or_false] at hz; rcases hz with rfl <;> simp)
set_option maxHeartbeats 4000000 in
theorem kc_case_420 {σ : St} {x : Int32} (hf : ∀ z, z ∈ ([420, 421, 422, 423, 424] : List Nat) → fresh σ z) : BE 2 4 18 Y_X1_init [.ref 420, .int x] [] 420 [421, 422, 423, 424] σ (si (si (si (si (si (si (si (si (si (si (si (si (si (si (si (si σ 420 0 (x)) 422 0 (5)) 423 0 (5)) 424 0 (10)) 422 1 (5)) 423 1 (5)) 424 1 (10)) 422 2 (5)) 423 2 (5)) 424 2 (10)) 422 3 (5)) 423 3 (5)) 424 3 (10)) 422 4 (5)) 423 4 (5)) 424 4 (10)) := by
  refine BE_mk rfl rfl (Nat.le_of_ble_eq_true rfl) (Bc_fresh (by decide +kernel) (fun z hz => hf z (List.mem_cons.mpr (Or.inl (List.mem_singleton.mp hz))))) (((((((((((((((((Bc_fresh (by decide +kernel) hf).si (Or.inl (by decide))).si (Or.inl (by decide))).si (Or.inl (by decide))).si (Or.inl (by decide))).si (Or.inl (by decide))).si (Or.inl (by decide))).si (Or.inl (by decide))).si (Or.inl (by decide))).si (Or.inl (by decide))).si (Or.inl (by decide))).si (Or.inl (by decide))).si (Or.inl (by decide))).si (Or.inl (by decide))).si (Or.inl (by decide))).si (Or.inl (by decide))).si (Or.inl (by decide))) (fun X hX hN hI => ?_)
  refine b_aload_n 0 hX dX1_init_0 rfl rfl ?_
  refine b_objinit hX dX1_init_1 tw_321 tw_93 tw_94 (by decide) (by decide) rfl ?_
  refine b_aload_n 0 hX dX1_init_4 rfl rfl ?_
  refine b_iconst (v := 3) hX dX1_init_5 rfl ?_
  refine b_iconst (v := 5) hX dX1_init_6 rfl ?_
  refine b_newm (t := 1) (ty := .int) (n := 3) (k := 5) (N := 3) (M := 5) (b := 422) 421 (by decide) (fun _ => ⟨rfl, rfl⟩) (fun _ _ h => h) (fun _ _ h => h.2.1) tw_120 tw_322 rfl hX hN dX1_init_7 rfl (by decide) (fun _ => rfl) (by decide) (by decide) (by decide) (fun j hj => pz_i (t := 1) ((show ∀ j, j < 3 → sh (422 + j) = (1, 5) by decide) j hj) (Or.inl rfl) ((hf (422 + j) ((show ∀ j, j < 3 → 422 + j ∈ ([420, 421, 422, 423, 424] : List Nat) by decide) j hj)).int ((show ∀ j, j < 3 → sh (422 + j) = (1, 5) by decide) j hj) (Or.inl rfl))) (by decide) (by decide) rfl rfl (by decide) (by decide) (by decide) (by decide) (by decide) (fun q1 => ?_)
  refine b_link (ci := 1) (o := 420) 1 1 0 cls1 (by decide) tb_326 rfl (Or.inr ⟨rfl, rfl, hI⟩) hX dX1_init_11 rfl rfl rfl rfl (by decide) (fun _ => rfl) (fun _ => rfl) ?_
  refine b_aload_n 0 hX dX1_init_14 rfl rfl ?_
  refine b_iload_n (x := x) 1 hX dX1_init_15 rfl rfl ?_
  refine b_iput (ci := 1) (o := 420) 0 1 cls1 (by decide) tb_324 rfl (Or.inr ⟨rfl, rfl, hI⟩) hX dX1_init_16 rfl rfl rfl (by decide) rfl rfl ?_
  refine b_iconst (v := 0) hX dX1_init_19 rfl ?_
  refine b_istore_n (i := 2) hX dX1_init_20 rfl (by decide) rfl ?_
  refine b_iload_n (x := 0) 0 hX dX1_init_21 rfl rfl ?_
  refine b_iconst (v := 5) hX dX1_init_22 rfl ?_
  refine b_icmp_ge 60 hX dX1_init_23 rfl (fun h => absurd h (by decide)) (fun _ => ?_)
  refine b_aload_n 1 hX dX1_init_26 rfl rfl ?_
  refine b_rget (ci := 1) (o := 420) 1 1 cls1 (by decide) tb_326 rfl hX dX1_init_27 rfl rfl rfl (by decide) (by decide) (fun q2 => ?_)
  refine b_iconst (v := 0) hX dX1_init_30 rfl ?_
  refine b_aald (o := 421) (t := 6) (n := 3) (j := 0) 0 (by decide) hX dX1_init_31 rfl rfl (by decide) (by unfold vp_in; decide) (by decide) (fun q3 => ?_)
  refine b_iload_n (x := 0) 0 hX dX1_init_32 rfl rfl ?_
  refine b_iconst (v := 5) hX dX1_init_33 rfl ?_
  refine b_iast (o := 422) (n := 5) (j := 0) (x := 5) 0 hX dX1_init_34 rfl rfl (by decide) (by unfold vp_in; decide) ?_
  refine b_aload_n 1 hX dX1_init_35 rfl rfl ?_
  refine b_rget (ci := 1) (o := 420) 1 3 cls1 (by decide) tb_326 rfl hX dX1_init_36 rfl rfl rfl (by decide) (by decide) (fun q4 => ?_)
  refine b_iconst (v := 1) hX dX1_init_39 rfl ?_
  refine b_aald (o := 421) (t := 6) (n := 3) (j := 1) 0 (by decide) hX dX1_init_40 rfl rfl (by decide) (by unfold vp_in; decide) (by decide) (fun q5 => ?_)
  refine b_iload_n (x := 0) 0 hX dX1_init_41 rfl rfl ?_
  refine b_iconst (v := 5) hX dX1_init_42 rfl ?_
  refine b_iast (o := 423) (n := 5) (j := 0) (x := 5) 0 hX dX1_init_43 rfl rfl (by decide) (by unfold vp_in; decide) ?_
  refine b_aload_n 1 hX dX1_init_44 rfl rfl ?_
  refine b_rget (ci := 1) (o := 420) 1 5 cls1 (by decide) tb_326 rfl hX dX1_init_45 rfl rfl rfl (by decide) (by decide) (fun q6 => ?_)
  refine b_iconst (v := 2) hX dX1_init_48 rfl ?_
  refine b_aald (o := 421) (t := 6) (n := 3) (j := 2) 0 (by decide) hX dX1_init_49 rfl rfl (by decide) (by unfold vp_in; decide) (by decide) (fun q7 => ?_)
  refine b_iload_n (x := 0) 0 hX dX1_init_50 rfl rfl ?_
  refine b_bipush (v := 10) hX dX1_init_51 rfl ?_
  refine b_iast (o := 424) (n := 5) (j := 0) (x := 10) 0 hX dX1_init_53 rfl rfl (by decide) (by unfold vp_in; decide) ?_
  refine b_iinc (x := 0) (v := 1) 0 hX dX1_init_54 rfl rfl (by decide) rfl ?_
  refine b_goto 21 hX dX1_init_57 rfl ?_
  refine b_iload_n (x := 1) 0 hX dX1_init_21 rfl rfl ?_
  refine b_iconst (v := 5) hX dX1_init_22 rfl ?_
  refine b_icmp_ge 60 hX dX1_init_23 rfl (fun h => absurd h (by decide)) (fun _ => ?_)
  refine b_aload_n 1 hX dX1_init_26 rfl rfl ?_
  refine b_rget (ci := 1) (o := 420) 1 7 cls1 (by decide) tb_326 rfl hX dX1_init_27 rfl rfl rfl (by decide) (by decide) (fun q8 => ?_)
  refine b_iconst (v := 0) hX dX1_init_30 rfl ?_
  refine b_aald (o := 421) (t := 6) (n := 3) (j := 0) 0 (by decide) hX dX1_init_31 rfl rfl (by decide) (by unfold vp_in; decide) (by decide) (fun q9 => ?_)
  refine b_iload_n (x := 1) 0 hX dX1_init_32 rfl rfl ?_
  refine b_iconst (v := 5) hX dX1_init_33 rfl ?_
  refine b_iast (o := 422) (n := 5) (j := 1) (x := 5) 0 hX dX1_init_34 rfl rfl (by decide) (by unfold vp_in; decide) ?_
  refine b_aload_n 1 hX dX1_init_35 rfl rfl ?_
  refine b_rget (ci := 1) (o := 420) 1 9 cls1 (by decide) tb_326 rfl hX dX1_init_36 rfl rfl rfl (by decide) (by decide) (fun q10 => ?_)
  refine b_iconst (v := 1) hX dX1_init_39 rfl ?_
  refine b_aald (o := 421) (t := 6) (n := 3) (j := 1) 0 (by decide) hX dX1_init_40 rfl rfl (by decide) (by unfold vp_in; decide) (by decide) (fun q11 => ?_)
  refine b_iload_n (x := 1) 0 hX dX1_init_41 rfl rfl ?_
  refine b_iconst (v := 5) hX dX1_init_42 rfl ?_
  refine b_iast (o := 423) (n := 5) (j := 1) (x := 5) 0 hX dX1_init_43 rfl rfl (by decide) (by unfold vp_in; decide) ?_
  refine b_aload_n 1 hX dX1_init_44 rfl rfl ?_
  refine b_rget (ci := 1) (o := 420) 1 11 cls1 (by decide) tb_326 rfl hX dX1_init_45 rfl rfl rfl (by decide) (by decide) (fun q12 => ?_)
  refine b_iconst (v := 2) hX dX1_init_48 rfl ?_
  refine b_aald (o := 421) (t := 6) (n := 3) (j := 2) 0 (by decide) hX dX1_init_49 rfl rfl (by decide) (by unfold vp_in; decide) (by decide) (fun q13 => ?_)
  refine b_iload_n (x := 1) 0 hX dX1_init_50 rfl rfl ?_
  refine b_bipush (v := 10) hX dX1_init_51 rfl ?_
  refine b_iast (o := 424) (n := 5) (j := 1) (x := 10) 0 hX dX1_init_53 rfl rfl (by decide) (by unfold vp_in; decide) ?_
  refine b_iinc (x := 1) (v := 2) 0 hX dX1_init_54 rfl rfl (by decide) rfl ?_
  refine b_goto 21 hX dX1_init_57 rfl ?_
  refine b_iload_n (x := 2) 0 hX dX1_init_21 rfl rfl ?_
  refine b_iconst (v := 5) hX dX1_init_22 rfl ?_
  refine b_icmp_ge 60 hX dX1_init_23 rfl (fun h => absurd h (by decide)) (fun _ => ?_)
  refine b_aload_n 1 hX dX1_init_26 rfl rfl ?_
  refine b_rget (ci := 1) (o := 420) 1 13 cls1 (by decide) tb_326 rfl hX dX1_init_27 rfl rfl rfl (by decide) (by decide) (fun q14 => ?_)
  refine b_iconst (v := 0) hX dX1_init_30 rfl ?_
  refine b_aald (o := 421) (t := 6) (n := 3) (j := 0) 0 (by decide) hX dX1_init_31 rfl rfl (by decide) (by unfold vp_in; decide) (by decide) (fun q15 => ?_)
  refine b_iload_n (x := 2) 0 hX dX1_init_32 rfl rfl ?_
  refine b_iconst (v := 5) hX dX1_init_33 rfl ?_
  refine b_iast (o := 422) (n := 5) (j := 2) (x := 5) 0 hX dX1_init_34 rfl rfl (by decide) (by unfold vp_in; decide) ?_
  refine b_aload_n 1 hX dX1_init_35 rfl rfl ?_
  refine b_rget (ci := 1) (o := 420) 1 15 cls1 (by decide) tb_326 rfl hX dX1_init_36 rfl rfl rfl (by decide) (by decide) (fun q16 => ?_)
  refine b_iconst (v := 1) hX dX1_init_39 rfl ?_
  refine b_aald (o := 421) (t := 6) (n := 3) (j := 1) 0 (by decide) hX dX1_init_40 rfl rfl (by decide) (by unfold vp_in; decide) (by decide) (fun q17 => ?_)
  refine b_iload_n (x := 2) 0 hX dX1_init_41 rfl rfl ?_
  refine b_iconst (v := 5) hX dX1_init_42 rfl ?_
  refine b_iast (o := 423) (n := 5) (j := 2) (x := 5) 0 hX dX1_init_43 rfl rfl (by decide) (by unfold vp_in; decide) ?_
  refine b_aload_n 1 hX dX1_init_44 rfl rfl ?_
  refine b_rget (ci := 1) (o := 420) 1 17 cls1 (by decide) tb_326 rfl hX dX1_init_45 rfl rfl rfl (by decide) (by decide) (fun q18 => ?_)
  refine b_iconst (v := 2) hX dX1_init_48 rfl ?_
  refine b_aald (o := 421) (t := 6) (n := 3) (j := 2) 0 (by decide) hX dX1_init_49 rfl rfl (by decide) (by unfold vp_in; decide) (by decide) (fun q19 => ?_)
  refine b_iload_n (x := 2) 0 hX dX1_init_50 rfl rfl ?_
  refine b_bipush (v := 10) hX dX1_init_51 rfl ?_
  refine b_iast (o := 424) (n := 5) (j := 2) (x := 10) 0 hX dX1_init_53 rfl rfl (by decide) (by unfold vp_in; decide) ?_
  refine b_iinc (x := 2) (v := 3) 0 hX dX1_init_54 rfl rfl (by decide) rfl ?_
  refine b_goto 21 hX dX1_init_57 rfl ?_
  refine b_iload_n (x := 3) 0 hX dX1_init_21 rfl rfl ?_
  refine b_iconst (v := 5) hX dX1_init_22 rfl ?_
  refine b_icmp_ge 60 hX dX1_init_23 rfl (fun h => absurd h (by decide)) (fun _ => ?_)
  refine b_aload_n 1 hX dX1_init_26 rfl rfl ?_
  refine b_rget (ci := 1) (o := 420) 1 19 cls1 (by decide) tb_326 rfl hX dX1_init_27 rfl rfl rfl (by decide) (by decide) (fun q20 => ?_)
  refine b_iconst (v := 0) hX dX1_init_30 rfl ?_
  refine b_aald (o := 421) (t := 6) (n := 3) (j := 0) 0 (by decide) hX dX1_init_31 rfl rfl (by decide) (by unfold vp_in; decide) (by decide) (fun q21 => ?_)
  refine b_iload_n (x := 3) 0 hX dX1_init_32 rfl rfl ?_
  refine b_iconst (v := 5) hX dX1_init_33 rfl ?_
  refine b_iast (o := 422) (n := 5) (j := 3) (x := 5) 0 hX dX1_init_34 rfl rfl (by decide) (by unfold vp_in; decide) ?_
  refine b_aload_n 1 hX dX1_init_35 rfl rfl ?_
  refine b_rget (ci := 1) (o := 420) 1 21 cls1 (by decide) tb_326 rfl hX dX1_init_36 rfl rfl rfl (by decide) (by decide) (fun q22 => ?_)
  refine b_iconst (v := 1) hX dX1_init_39 rfl ?_
  refine b_aald (o := 421) (t := 6) (n := 3) (j := 1) 0 (by decide) hX dX1_init_40 rfl rfl (by decide) (by unfold vp_in; decide) (by decide) (fun q23 => ?_)
  refine b_iload_n (x := 3) 0 hX dX1_init_41 rfl rfl ?_
  refine b_iconst (v := 5) hX dX1_init_42 rfl ?_
  refine b_iast (o := 423) (n := 5) (j := 3) (x := 5) 0 hX dX1_init_43 rfl rfl (by decide) (by unfold vp_in; decide) ?_
  refine b_aload_n 1 hX dX1_init_44 rfl rfl ?_
  refine b_rget (ci := 1) (o := 420) 1 23 cls1 (by decide) tb_326 rfl hX dX1_init_45 rfl rfl rfl (by decide) (by decide) (fun q24 => ?_)
  refine b_iconst (v := 2) hX dX1_init_48 rfl ?_
  refine b_aald (o := 421) (t := 6) (n := 3) (j := 2) 0 (by decide) hX dX1_init_49 rfl rfl (by decide) (by unfold vp_in; decide) (by decide) (fun q25 => ?_)
  refine b_iload_n (x := 3) 0 hX dX1_init_50 rfl rfl ?_
  refine b_bipush (v := 10) hX dX1_init_51 rfl ?_
  refine b_iast (o := 424) (n := 5) (j := 3) (x := 10) 0 hX dX1_init_53 rfl rfl (by decide) (by unfold vp_in; decide) ?_
  refine b_iinc (x := 3) (v := 4) 0 hX dX1_init_54 rfl rfl (by decide) rfl ?_
  refine b_goto 21 hX dX1_init_57 rfl ?_
  refine b_iload_n (x := 4) 0 hX dX1_init_21 rfl rfl ?_
  refine b_iconst (v := 5) hX dX1_init_22 rfl ?_
  refine b_icmp_ge 60 hX dX1_init_23 rfl (fun h => absurd h (by decide)) (fun _ => ?_)
  refine b_aload_n 1 hX dX1_init_26 rfl rfl ?_
  refine b_rget (ci := 1) (o := 420) 1 25 cls1 (by decide) tb_326 rfl hX dX1_init_27 rfl rfl rfl (by decide) (by decide) (fun q26 => ?_)
  refine b_iconst (v := 0) hX dX1_init_30 rfl ?_
  refine b_aald (o := 421) (t := 6) (n := 3) (j := 0) 0 (by decide) hX dX1_init_31 rfl rfl (by decide) (by unfold vp_in; decide) (by decide) (fun q27 => ?_)
  refine b_iload_n (x := 4) 0 hX dX1_init_32 rfl rfl ?_
  refine b_iconst (v := 5) hX dX1_init_33 rfl ?_
  refine b_iast (o := 422) (n := 5) (j := 4) (x := 5) 0 hX dX1_init_34 rfl rfl (by decide) (by unfold vp_in; decide) ?_
  refine b_aload_n 1 hX dX1_init_35 rfl rfl ?_
  refine b_rget (ci := 1) (o := 420) 1 27 cls1 (by decide) tb_326 rfl hX dX1_init_36 rfl rfl rfl (by decide) (by decide) (fun q28 => ?_)
  refine b_iconst (v := 1) hX dX1_init_39 rfl ?_
  refine b_aald (o := 421) (t := 6) (n := 3) (j := 1) 0 (by decide) hX dX1_init_40 rfl rfl (by decide) (by unfold vp_in; decide) (by decide) (fun q29 => ?_)
  refine b_iload_n (x := 4) 0 hX dX1_init_41 rfl rfl ?_
  refine b_iconst (v := 5) hX dX1_init_42 rfl ?_
  refine b_iast (o := 423) (n := 5) (j := 4) (x := 5) 0 hX dX1_init_43 rfl rfl (by decide) (by unfold vp_in; decide) ?_
  refine b_aload_n 1 hX dX1_init_44 rfl rfl ?_
  refine b_rget (ci := 1) (o := 420) 1 29 cls1 (by decide) tb_326 rfl hX dX1_init_45 rfl rfl rfl (by decide) (by decide) (fun q30 => ?_)
  refine b_iconst (v := 2) hX dX1_init_48 rfl ?_
  refine b_aald (o := 421) (t := 6) (n := 3) (j := 2) 0 (by decide) hX dX1_init_49 rfl rfl (by decide) (by unfold vp_in; decide) (by decide) (fun q31 => ?_)
  refine b_iload_n (x := 4) 0 hX dX1_init_50 rfl rfl ?_
  refine b_bipush (v := 10) hX dX1_init_51 rfl ?_
  refine b_iast (o := 424) (n := 5) (j := 4) (x := 10) 0 hX dX1_init_53 rfl rfl (by decide) (by unfold vp_in; decide) ?_
  refine b_iinc (x := 4) (v := 5) 0 hX dX1_init_54 rfl rfl (by decide) rfl ?_
  refine b_goto 21 hX dX1_init_57 rfl ?_
  refine b_iload_n (x := 5) 0 hX dX1_init_21 rfl rfl ?_
  refine b_iconst (v := 5) hX dX1_init_22 rfl ?_
  refine b_icmp_ge 60 hX dX1_init_23 rfl (fun _ => ?_) (fun h => absurd (by decide) h)
  exact b_vretB hX dX1_init_60 (by decide +kernel) rfl rfl rfl (fun z hz => by simp only [List.mem_cons, List.not_mem_nil, or_false] at hz; rcases hz with rfl <;> simp)
set_option maxHeartbeats 4000000 in
theorem kc_case_430 {σ : St} {x : Int32} (hf : ∀ z, z ∈ ([430, 431, 432, 433, 434] : List Nat) → fresh σ z) : BE 2 4 18 Y_X1_init [.ref 430, .int x] [] 430 [431, 432, 433, 434] σ (si (si (si (si (si (si (si (si (si (si (si (si (si (si (si (si σ 430 0 (x)) 432 0 (5)) 433 0 (5)) 434 0 (10)) 432 1 (5)) 433 1 (5)) 434 1 (10)) 432 2 (5)) 433 2 (5)) 434 2 (10)) 432 3 (5)) 433 3 (5)) 434 3 (10)) 432 4 (5)) 433 4 (5)) 434 4 (10)) := by
  refine BE_mk rfl rfl (Nat.le_of_ble_eq_true rfl) (Bc_fresh (by decide +kernel) (fun z hz => hf z (List.mem_cons.mpr (Or.inl (List.mem_singleton.mp hz))))) (((((((((((((((((Bc_fresh (by decide +kernel) hf).si (Or.inl (by decide))).si (Or.inl (by decide))).si (Or.inl (by decide))).si (Or.inl (by decide))).si (Or.inl (by decide))).si (Or.inl (by decide))).si (Or.inl (by decide))).si (Or.inl (by decide))).si (Or.inl (by decide))).si (Or.inl (by decide))).si (Or.inl (by decide))).si (Or.inl (by decide))).si (Or.inl (by decide))).si (Or.inl (by decide))).si (Or.inl (by decide))).si (Or.inl (by decide))) (fun X hX hN hI => ?_)
  refine b_aload_n 0 hX dX1_init_0 rfl rfl ?_
  refine b_objinit hX dX1_init_1 tw_321 tw_93 tw_94 (by decide) (by decide) rfl ?_
  refine b_aload_n 0 hX dX1_init_4 rfl rfl ?_
  refine b_iconst (v := 3) hX dX1_init_5 rfl ?_
  refine b_iconst (v := 5) hX dX1_init_6 rfl ?_
  refine b_newm (t := 1) (ty := .int) (n := 3) (k := 5) (N := 3) (M := 5) (b := 432) 431 (by decide) (fun _ => ⟨rfl, rfl⟩) (fun _ _ h => h) (fun _ _ h => h.2.1) tw_120 tw_322 rfl hX hN dX1_init_7 rfl (by decide) (fun _ => rfl) (by decide) (by decide) (by decide) (fun j hj => pz_i (t := 1) ((show ∀ j, j < 3 → sh (432 + j) = (1, 5) by decide) j hj) (Or.inl rfl) ((hf (432 + j) ((show ∀ j, j < 3 → 432 + j ∈ ([430, 431, 432, 433, 434] : List Nat) by decide) j hj)).int ((show ∀ j, j < 3 → sh (432 + j) = (1, 5) by decide) j hj) (Or.inl rfl))) (by decide) (by decide) rfl rfl (by decide) (by decide) (by decide) (by decide) (by decide) (fun q1 => ?_)
  refine b_link (ci := 1) (o := 430) 1 1 0 cls1 (by decide) tb_326 rfl (Or.inr ⟨rfl, rfl, hI⟩) hX dX1_init_11 rfl rfl rfl rfl (by decide) (fun _ => rfl) (fun _ => rfl) ?_
  refine b_aload_n 0 hX dX1_init_14 rfl rfl ?_
  refine b_iload_n (x := x) 1 hX dX1_init_15 rfl rfl ?_
  refine b_iput (ci := 1) (o := 430) 0 1 cls1 (by decide) tb_324 rfl (Or.inr ⟨rfl, rfl, hI⟩) hX dX1_init_16 rfl rfl rfl (by decide) rfl rfl ?_
  refine b_iconst (v := 0) hX dX1_init_19 rfl ?_
  refine b_istore_n (i := 2) hX dX1_init_20 rfl (by decide) rfl ?_
  refine b_iload_n (x := 0) 0 hX dX1_init_21 rfl rfl ?_
  refine b_iconst (v := 5) hX dX1_init_22 rfl ?_
  refine b_icmp_ge 60 hX dX1_init_23 rfl (fun h => absurd h (by decide)) (fun _ => ?_)
  refine b_aload_n 1 hX dX1_init_26 rfl rfl ?_
  refine b_rget (ci := 1) (o := 430) 1 1 cls1 (by decide) tb_326 rfl hX dX1_init_27 rfl rfl rfl (by decide) (by decide) (fun q2 => ?_)
  refine b_iconst (v := 0) hX dX1_init_30 rfl ?_
  refine b_aald (o := 431) (t := 6) (n := 3) (j := 0) 0 (by decide) hX dX1_init_31 rfl rfl (by decide) (by unfold vp_in; decide) (by decide) (fun q3 => ?_)
  refine b_iload_n (x := 0) 0 hX dX1_init_32 rfl rfl ?_
  refine b_iconst (v := 5) hX dX1_init_33 rfl ?_
  refine b_iast (o := 432) (n := 5) (j := 0) (x := 5) 0 hX dX1_init_34 rfl rfl (by decide) (by unfold vp_in; decide) ?_
  refine b_aload_n 1 hX dX1_init_35 rfl rfl ?_
  refine b_rget (ci := 1) (o := 430) 1 3 cls1 (by decide) tb_326 rfl hX dX1_init_36 rfl rfl rfl (by decide) (by decide) (fun q4 => ?_)
  refine b_iconst (v := 1) hX dX1_init_39 rfl ?_
  refine b_aald (o := 431) (t := 6) (n := 3) (j := 1) 0 (by decide) hX dX1_init_40 rfl rfl (by decide) (by unfold vp_in; decide) (by decide) (fun q5 => ?_)
  refine b_iload_n (x := 0) 0 hX dX1_init_41 rfl rfl ?_
  refine b_iconst (v := 5) hX dX1_init_42 rfl ?_
  refine b_iast (o := 433) (n := 5) (j := 0) (x := 5) 0 hX dX1_init_43 rfl rfl (by decide) (by unfold vp_in; decide) ?_
  refine b_aload_n 1 hX dX1_init_44 rfl rfl ?_
  refine b_rget (ci := 1) (o := 430) 1 5 cls1 (by decide) tb_326 rfl hX dX1_init_45 rfl rfl rfl (by decide) (by decide) (fun q6 => ?_)
  refine b_iconst (v := 2) hX dX1_init_48 rfl ?_
  refine b_aald (o := 431) (t := 6) (n := 3) (j := 2) 0 (by decide) hX dX1_init_49 rfl rfl (by decide) (by unfold vp_in; decide) (by decide) (fun q7 => ?_)
  refine b_iload_n (x := 0) 0 hX dX1_init_50 rfl rfl ?_
  refine b_bipush (v := 10) hX dX1_init_51 rfl ?_
  refine b_iast (o := 434) (n := 5) (j := 0) (x := 10) 0 hX dX1_init_53 rfl rfl (by decide) (by unfold vp_in; decide) ?_
  refine b_iinc (x := 0) (v := 1) 0 hX dX1_init_54 rfl rfl (by decide) rfl ?_
  refine b_goto 21 hX dX1_init_57 rfl ?_
  refine b_iload_n (x := 1) 0 hX dX1_init_21 rfl rfl ?_
  refine b_iconst (v := 5) hX dX1_init_22 rfl ?_
  refine b_icmp_ge 60 hX dX1_init_23 rfl (fun h => absurd h (by decide)) (fun _ => ?_)
  refine b_aload_n 1 hX dX1_init_26 rfl rfl ?_
  refine b_rget (ci := 1) (o := 430) 1 7 cls1 (by decide) tb_326 rfl hX dX1_init_27 rfl rfl rfl (by decide) (by decide) (fun q8 => ?_)
  refine b_iconst (v := 0) hX dX1_init_30 rfl ?_
  refine b_aald (o := 431) (t := 6) (n := 3) (j := 0) 0 (by decide) hX dX1_init_31 rfl rfl (by decide) (by unfold vp_in; decide) (by decide) (fun q9 => ?_)
  refine b_iload_n (x := 1) 0 hX dX1_init_32 rfl rfl ?_
  refine b_iconst (v := 5) hX dX1_init_33 rfl ?_
  refine b_iast (o := 432) (n := 5) (j := 1) (x := 5) 0 hX dX1_init_34 rfl rfl (by decide) (by unfold vp_in; decide) ?_
  refine b_aload_n 1 hX dX1_init_35 rfl rfl ?_
  refine b_rget (ci := 1) (o := 430) 1 9 cls1 (by decide) tb_326 rfl hX dX1_init_36 rfl rfl rfl (by decide) (by decide) (fun q10 => ?_)
  refine b_iconst (v := 1) hX dX1_init_39 rfl ?_
  refine b_aald (o := 431) (t := 6) (n := 3) (j := 1) 0 (by decide) hX dX1_init_40 rfl rfl (by decide) (by unfold vp_in; decide) (by decide) (fun q11 => ?_)
  refine b_iload_n (x := 1) 0 hX dX1_init_41 rfl rfl ?_
  refine b_iconst (v := 5) hX dX1_init_42 rfl ?_
  refine b_iast (o := 433) (n := 5) (j := 1) (x := 5) 0 hX dX1_init_43 rfl rfl (by decide) (by unfold vp_in; decide) ?_
  refine b_aload_n 1 hX dX1_init_44 rfl rfl ?_
  refine b_rget (ci := 1) (o := 430) 1 11 cls1 (by decide) tb_326 rfl hX dX1_init_45 rfl rfl rfl (by decide) (by decide) (fun q12 => ?_)
  refine b_iconst (v := 2) hX dX1_init_48 rfl ?_
  refine b_aald (o := 431) (t := 6) (n := 3) (j := 2) 0 (by decide) hX dX1_init_49 rfl rfl (by decide) (by unfold vp_in; decide) (by decide) (fun q13 => ?_)
  refine b_iload_n (x := 1) 0 hX dX1_init_50 rfl rfl ?_
  refine b_bipush (v := 10) hX dX1_init_51 rfl ?_
  refine b_iast (o := 434) (n := 5) (j := 1) (x := 10) 0 hX dX1_init_53 rfl rfl (by decide) (by unfold vp_in; decide) ?_
  refine b_iinc (x := 1) (v := 2) 0 hX dX1_init_54 rfl rfl (by decide) rfl ?_
  refine b_goto 21 hX dX1_init_57 rfl ?_
  refine b_iload_n (x := 2) 0 hX dX1_init_21 rfl rfl ?_
  refine b_iconst (v := 5) hX dX1_init_22 rfl ?_
  refine b_icmp_ge 60 hX dX1_init_23 rfl (fun h => absurd h (by decide)) (fun _ => ?_)
  refine b_aload_n 1 hX dX1_init_26 rfl rfl ?_
  refine b_rget (ci := 1) (o := 430) 1 13 cls1 (by decide) tb_326 rfl hX dX1_init_27 rfl rfl rfl (by decide) (by decide) (fun q14 => ?_)
  refine b_iconst (v := 0) hX dX1_init_30 rfl ?_
  refine b_aald (o := 431) (t := 6) (n := 3) (j := 0) 0 (by decide) hX dX1_init_31 rfl rfl (by decide) (by unfold vp_in; decide) (by decide) (fun q15 => ?_)
  refine b_iload_n (x := 2) 0 hX dX1_init_32 rfl rfl ?_
  refine b_iconst (v := 5) hX dX1_init_33 rfl ?_
  refine b_iast (o := 432) (n := 5) (j := 2) (x := 5) 0 hX dX1_init_34 rfl rfl (by decide) (by unfold vp_in; decide) ?_
  refine b_aload_n 1 hX dX1_init_35 rfl rfl ?_
  refine b_rget (ci := 1) (o := 430) 1 15 cls1 (by decide) tb_326 rfl hX dX1_init_36 rfl rfl rfl (by decide) (by decide) (fun q16 => ?_)
  refine b_iconst (v := 1) hX dX1_init_39 rfl ?_
  refine b_aald (o := 431) (t := 6) (n := 3) (j := 1) 0 (by decide) hX dX1_init_40 rfl rfl (by decide) (by unfold vp_in; decide) (by decide) (fun q17 => ?_)
  refine b_iload_n (x := 2) 0 hX dX1_init_41 rfl rfl ?_
  refine b_iconst (v := 5) hX dX1_init_42 rfl ?_
  refine b_iast (o := 433) (n := 5) (j := 2) (x := 5) 0 hX dX1_init_43 rfl rfl (by decide) (by unfold vp_in; decide) ?_
  refine b_aload_n 1 hX dX1_init_44 rfl rfl ?_
  refine b_rget (ci := 1) (o := 430) 1 17 cls1 (by decide) tb_326 rfl hX dX1_init_45 rfl rfl rfl (by decide) (by decide) (fun q18 => ?_)
  refine b_iconst (v := 2) hX dX1_init_48 rfl ?_
  refine b_aald (o := 431) (t := 6) (n := 3) (j := 2) 0 (by decide) hX dX1_init_49 rfl rfl (by decide) (by unfold vp_in; decide) (by decide) (fun q19 => ?_)
  refine b_iload_n (x := 2) 0 hX dX1_init_50 rfl rfl ?_
  refine b_bipush (v := 10) hX dX1_init_51 rfl ?_
  refine b_iast (o := 434) (n := 5) (j := 2) (x := 10) 0 hX dX1_init_53 rfl rfl (by decide) (by unfold vp_in; decide) ?_
  refine b_iinc (x := 2) (v := 3) 0 hX dX1_init_54 rfl rfl (by decide) rfl ?_
  refine b_goto 21 hX dX1_init_57 rfl ?_
  refine b_iload_n (x := 3) 0 hX dX1_init_21 rfl rfl ?_
  refine b_iconst (v := 5) hX dX1_init_22 rfl ?_
  refine b_icmp_ge 60 hX dX1_init_23 rfl (fun h => absurd h (by decide)) (fun _ => ?_)
  refine b_aload_n 1 hX dX1_init_26 rfl rfl ?_
  refine b_rget (ci := 1) (o := 430) 1 19 cls1 (by decide) tb_326 rfl hX dX1_init_27 rfl rfl rfl (by decide) (by decide) (fun q20 => ?_)
  refine b_iconst (v := 0) hX dX1_init_30 rfl ?_
  refine b_aald (o := 431) (t := 6) (n := 3) (j := 0) 0 (by decide) hX dX1_init_31 rfl rfl (by decide) (by unfold vp_in; decide) (by decide) (fun q21 => ?_)
  refine b_iload_n (x := 3) 0 hX dX1_init_32 rfl rfl ?_
  refine b_iconst (v := 5) hX dX1_init_33 rfl ?_
  refine b_iast (o := 432) (n := 5) (j := 3) (x := 5) 0 hX dX1_init_34 rfl rfl (by decide) (by unfold vp_in; decide) ?_
  refine b_aload_n 1 hX dX1_init_35 rfl rfl ?_
  refine b_rget (ci := 1) (o := 430) 1 21 cls1 (by decide) tb_326 rfl hX dX1_init_36 rfl rfl rfl (by decide) (by decide) (fun q22 => ?_)
  refine b_iconst (v := 1) hX dX1_init_39 rfl ?_
  refine b_aald (o := 431) (t := 6) (n := 3) (j := 1) 0 (by decide) hX dX1_init_40 rfl rfl (by decide) (by unfold vp_in; decide) (by decide) (fun q23 => ?_)
  refine b_iload_n (x := 3) 0 hX dX1_init_41 rfl rfl ?_
  refine b_iconst (v := 5) hX dX1_init_42 rfl ?_
  refine b_iast (o := 433) (n := 5) (j := 3) (x := 5) 0 hX dX1_init_43 rfl rfl (by decide) (by unfold vp_in; decide) ?_
  refine b_aload_n 1 hX dX1_init_44 rfl rfl ?_
  refine b_rget (ci := 1) (o := 430) 1 23 cls1 (by decide) tb_326 rfl hX dX1_init_45 rfl rfl rfl (by decide) (by decide) (fun q24 => ?_)
  refine b_iconst (v := 2) hX dX1_init_48 rfl ?_
  refine b_aald (o := 431) (t := 6) (n := 3) (j := 2) 0 (by decide) hX dX1_init_49 rfl rfl (by decide) (by unfold vp_in; decide) (by decide) (fun q25 => ?_)
  refine b_iload_n (x := 3) 0 hX dX1_init_50 rfl rfl ?_
  refine b_bipush (v := 10) hX dX1_init_51 rfl ?_
  refine b_iast (o := 434) (n := 5) (j := 3) (x := 10) 0 hX dX1_init_53 rfl rfl (by decide) (by unfold vp_in; decide) ?_
  refine b_iinc (x := 3) (v := 4) 0 hX dX1_init_54 rfl rfl (by decide) rfl ?_
  refine b_goto 21 hX dX1_init_57 rfl ?_
  refine b_iload_n (x := 4) 0 hX dX1_init_21 rfl rfl ?_
  refine b_iconst (v := 5) hX dX1_init_22 rfl ?_
  refine b_icmp_ge 60 hX dX1_init_23 rfl (fun h => absurd h (by decide)) (fun _ => ?_)
  refine b_aload_n 1 hX dX1_init_26 rfl rfl ?_
  refine b_rget (ci := 1) (o := 430) 1 25 cls1 (by decide) tb_326 rfl hX dX1_init_27 rfl rfl rfl (by decide) (by decide) (fun q26 => ?_)
  refine b_iconst (v := 0) hX dX1_init_30 rfl ?_
  refine b_aald (o := 431) (t := 6) (n := 3) (j := 0) 0 (by decide) hX dX1_init_31 rfl rfl (by decide) (by unfold vp_in; decide) (by decide) (fun q27 => ?_)
  refine b_iload_n (x := 4) 0 hX dX1_init_32 rfl rfl ?_
  refine b_iconst (v := 5) hX dX1_init_33 rfl ?_
  refine b_iast (o := 432) (n := 5) (j := 4) (x := 5) 0 hX dX1_init_34 rfl rfl (by decide) (by unfold vp_in; decide) ?_
  refine b_aload_n 1 hX dX1_init_35 rfl rfl ?_
  refine b_rget (ci := 1) (o := 430) 1 27 cls1 (by decide) tb_326 rfl hX dX1_init_36 rfl rfl rfl (by decide) (by decide) (fun q28 => ?_)
  refine b_iconst (v := 1) hX dX1_init_39 rfl ?_
  refine b_aald (o := 431) (t := 6) (n := 3) (j := 1) 0 (by decide) hX dX1_init_40 rfl rfl (by decide) (by unfold vp_in; decide) (by decide) (fun q29 => ?_)
  refine b_iload_n (x := 4) 0 hX dX1_init_41 rfl rfl ?_
  refine b_iconst (v := 5) hX dX1_init_42 rfl ?_
  refine b_iast (o := 433) (n := 5) (j := 4) (x := 5) 0 hX dX1_init_43 rfl rfl (by decide) (by unfold vp_in; decide) ?_
  refine b_aload_n 1 hX dX1_init_44 rfl rfl ?_
  refine b_rget (ci := 1) (o := 430) 1 29 cls1 (by decide) tb_326 rfl hX dX1_init_45 rfl rfl rfl (by decide) (by decide) (fun q30 => ?_)
  refine b_iconst (v := 2) hX dX1_init_48 rfl ?_
  refine b_aald (o := 431) (t := 6) (n := 3) (j := 2) 0 (by decide) hX dX1_init_49 rfl rfl (by decide) (by unfold vp_in; decide) (by decide) (fun q31 => ?_)
  refine b_iload_n (x := 4) 0 hX dX1_init_50 rfl rfl ?_
  refine b_bipush (v := 10) hX dX1_init_51 rfl ?_
  refine b_iast (o := 434) (n := 5) (j := 4) (x := 10) 0 hX dX1_init_53 rfl rfl (by decide) (by unfold vp_in; decide) ?_
  refine b_iinc (x := 4) (v := 5) 0 hX dX1_init_54 rfl rfl (by decide) rfl ?_
  refine b_goto 21 hX dX1_init_57 rfl ?_
  refine b_iload_n (x := 5) 0 hX dX1_init_21 rfl rfl ?_
  refine b_iconst (v := 5) hX dX1_init_22 rfl ?_
  refine b_icmp_ge 60 hX dX1_init_23 rfl (fun _ => ?_) (fun h => absurd (by decide) h)
  exact b_vretB hX dX1_init_60 (by decide +kernel) rfl rfl rfl (fun z hz => by simp only [List.mem_cons, List.not_mem_nil, or_false] at hz; rcases hz with rfl <;> simp)
