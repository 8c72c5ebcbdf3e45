/-! constructors that make arrays of their own: Text, Acts, Stages, Rules -/
abbrev Y_X0_init : MY := (yX0_init, cX0_init, 1, none)
abbrev Y_X1_init : MY := (yX1_init, cX1_init, 3, none)
abbrev Y_X2_init : MY := (yX2_init, cX2_init, 4, none)
abbrev Y_X3_init : MY := (yX3_init, cX3_init, 1, none)
abbrev Y_X4_init : MY := (yX4_init, cX4_init, 1, none)
abbrev Y_X5_init : MY := (yX5_init, cX5_init, 1, none)
abbrev Y_X6_init : MY := (yX6_init, cX6_init, 2, none)
abbrev Y_X7_init : MY := (yX7_init, cX7_init, 1, none)
theorem tw_93 : Cond.instanceMethod Lib.objectInit ∈ TB := TB_in (List.mem_of_getElem? (i := 93) (by decide +kernel)) (by decide +kernel)
theorem tw_94 : Cond.code Lib.objectInit ⟨#[0xb1]⟩ 1 none ∈ TB := TB_in (List.mem_of_getElem? (i := 94) (by decide +kernel)) (by decide +kernel)
theorem tw_102 : Cond.methodLink RX5 3 Lib.objectInit ∈ TB := TB_in (List.mem_of_getElem? (i := 102) (by decide +kernel)) (by decide +kernel)
theorem tw_120 : Cond.arrayClass .int ∈ TB := TB_in (List.mem_of_getElem? (i := 120) (by decide +kernel)) (by decide +kernel)
theorem tw_135 : Cond.methodLink RX4 3 Lib.objectInit ∈ TB := TB_in (List.mem_of_getElem? (i := 135) (by decide +kernel)) (by decide +kernel)
theorem tw_223 : Cond.methodLink RX0 3 Lib.objectInit ∈ TB := TB_in (List.mem_of_getElem? (i := 223) (by decide +kernel)) (by decide +kernel)
theorem tw_244 : Cond.methodLink RX3 3 Lib.objectInit ∈ TB := TB_in (List.mem_of_getElem? (i := 244) (by decide +kernel)) (by decide +kernel)
theorem kc_text {σ : St} (hf : ∀ z, z ∈ [105, 120] → fresh σ z) : BE 2 1 100 Y_X5_init [.ref 105] [] 105 [120] σ σ := by
  refine BE_mk rfl rfl (Nat.le_of_ble_eq_true rfl) (Bc_fresh (by decide +kernel) (fun z hz => hf z (List.mem_cons.mpr (Or.inl (List.mem_singleton.mp hz))))) (Bc_fresh (by decide +kernel) hf) (fun X hX hN hI => ?_)
  refine b_aload_n 0 hX dX5_init_0 rfl rfl ?_
  refine b_objinit hX dX5_init_1 tw_102 tw_93 tw_94 (by decide) (by decide) rfl ?_
  refine b_aload_n 0 hX dX5_init_4 rfl rfl ?_
  refine b_bipush (v := 100) hX dX5_init_5 rfl ?_
  refine b_newp (t := 1) (ty := .int) (n := 100) (N := 100) (a0 := (100, .inl fun _ => 0)) 120 (by decide) rfl (fun _ => rfl) (fun _ _ h => h) tw_120 (fun _ => rfl) hX dX5_init_7 rfl (by decide) (by decide) (pz_i rfl (Or.inl rfl) ((hf 120 (by decide)).int rfl (Or.inl rfl))) (by decide) rfl (by decide) (by decide) (by decide) (fun q120 => ?_)
  refine b_link (ci := 5) 0 1 0 cls5 (by decide) tb_103 rfl (Or.inr ⟨rfl, rfl, hI⟩) hX dX5_init_9 rfl rfl rfl rfl (by decide) (fun _ => rfl) (fun _ => rfl) ?_
  exact b_vretB hX dX5_init_12 (by decide +kernel) rfl rfl rfl (fun z hz => by rw [List.mem_singleton.mp hz]; simp)
theorem kc_acts {σ : St} (hf : ∀ z, z ∈ [110, 121] → fresh σ z) : BE 2 1 20 Y_X0_init [.ref 110] [] 110 [121] σ σ := by
  refine BE_mk rfl rfl (Nat.le_of_ble_eq_true rfl) (Bc_fresh (by decide +kernel) (fun z hz => hf z (List.mem_cons.mpr (Or.inl (List.mem_singleton.mp hz))))) (Bc_fresh (by decide +kernel) hf) (fun X hX hN hI => ?_)
  refine b_aload_n 0 hX dX0_init_0 rfl rfl ?_
  refine b_objinit hX dX0_init_1 tw_223 tw_93 tw_94 (by decide) (by decide) rfl ?_
  refine b_aload_n 0 hX dX0_init_4 rfl rfl ?_
  refine b_bipush (v := 20) hX dX0_init_5 rfl ?_
  refine b_newp (t := 1) (ty := .int) (n := 20) (N := 20) (a0 := (20, .inl fun _ => 0)) 121 (by decide) rfl (fun _ => rfl) (fun _ _ h => h) tw_120 (fun _ => rfl) hX dX0_init_7 rfl (by decide) (by decide) (pz_i rfl (Or.inl rfl) ((hf 121 (by decide)).int rfl (Or.inl rfl))) (by decide) rfl (by decide) (by decide) (by decide) (fun q121 => ?_)
  refine b_link (ci := 0) 1 1 0 cls0 (by decide) tb_226 rfl (Or.inr ⟨rfl, rfl, hI⟩) hX dX0_init_9 rfl rfl rfl rfl (by decide) (fun _ => rfl) (fun _ => rfl) ?_
  exact b_vretB hX dX0_init_12 (by decide +kernel) rfl rfl rfl (fun z hz => by rw [List.mem_singleton.mp hz]; simp)
theorem kc_rules_140 {σ : St} (hf : ∀ z, z ∈ [140, 151, 152, 153, 155] → fresh σ z) : BE 2 4 118 Y_X3_init [.ref 140] [] 140 [151, 152, 153, 155] σ σ := by
  refine BE_mk rfl rfl (Nat.le_of_ble_eq_true rfl) (Bc_fresh (by decide +kernel) (fun z hz => hf z (List.mem_cons.mpr (Or.inl (List.mem_singleton.mp hz))))) (Bc_fresh (by decide +kernel) hf) (fun X hX hN hI => ?_)
  refine b_aload_n 0 hX dX3_init_0 rfl rfl ?_
  refine b_objinit hX dX3_init_1 tw_244 tw_93 tw_94 (by decide) (by decide) rfl ?_
  refine b_aload_n 0 hX dX3_init_4 rfl rfl ?_
  refine b_bipush (v := 6) hX dX3_init_5 rfl ?_
  refine b_newp (t := 1) (ty := .int) (n := 6) (N := 6) (a0 := (6, .inl fun _ => 0)) 151 (by decide) rfl (fun _ => rfl) (fun _ _ h => h) tw_120 (fun _ => rfl) hX dX3_init_7 rfl (by decide) (by decide) (pz_i rfl (Or.inl rfl) ((hf 151 (by decide)).int rfl (Or.inl rfl))) (by decide) rfl (by decide) (by decide) (by decide) (fun q151 => ?_)
  refine b_link (ci := 3) 1 1 0 cls3 (by decide) tb_247 rfl (Or.inr ⟨rfl, rfl, hI⟩) hX dX3_init_9 rfl rfl rfl rfl (by decide) (fun _ => rfl) (fun _ => rfl) ?_
  refine b_aload_n 0 hX dX3_init_12 rfl rfl ?_
  refine b_bipush (v := 6) hX dX3_init_13 rfl ?_
  refine b_newp (t := 1) (ty := .int) (n := 6) (N := 6) (a0 := (6, .inl fun _ => 0)) 152 (by decide) rfl (fun _ => rfl) (fun _ _ h => h) tw_120 (fun _ => rfl) hX dX3_init_15 rfl (by decide) (by decide) (pz_i rfl (Or.inl rfl) ((hf 152 (by decide)).int rfl (Or.inl rfl))) (by decide) rfl (by decide) (by decide) (by decide) (fun q152 => ?_)
  refine b_link (ci := 3) 2 2 0 cls3 (by decide) tb_248 rfl (Or.inr ⟨rfl, rfl, hI⟩) hX dX3_init_17 rfl rfl rfl rfl (by decide) (fun _ => rfl) (fun _ => rfl) ?_
  refine b_aload_n 0 hX dX3_init_20 rfl rfl ?_
  refine b_bipush (v := 6) hX dX3_init_21 rfl ?_
  refine b_newp (t := 1) (ty := .int) (n := 6) (N := 6) (a0 := (6, .inl fun _ => 0)) 153 (by decide) rfl (fun _ => rfl) (fun _ _ h => h) tw_120 (fun _ => rfl) hX dX3_init_23 rfl (by decide) (by decide) (pz_i rfl (Or.inl rfl) ((hf 153 (by decide)).int rfl (Or.inl rfl))) (by decide) rfl (by decide) (by decide) (by decide) (fun q153 => ?_)
  refine b_link (ci := 3) 3 3 0 cls3 (by decide) tb_249 rfl (Or.inr ⟨rfl, rfl, hI⟩) hX dX3_init_25 rfl rfl rfl rfl (by decide) (fun _ => rfl) (fun _ => rfl) ?_
  refine b_aload_n 0 hX dX3_init_28 rfl rfl ?_
  refine b_bipush (v := 100) hX dX3_init_29 rfl ?_
  refine b_newp (t := 1) (ty := .int) (n := 100) (N := 100) (a0 := (100, .inl fun _ => 0)) 155 (by decide) rfl (fun _ => rfl) (fun _ _ h => h) tw_120 (fun _ => rfl) hX dX3_init_31 rfl (by decide) (by decide) (pz_i rfl (Or.inl rfl) ((hf 155 (by decide)).int rfl (Or.inl rfl))) (by decide) rfl (by decide) (by decide) (by decide) (fun q155 => ?_)
  refine b_link (ci := 3) 5 4 0 cls3 (by decide) tb_251 rfl (Or.inr ⟨rfl, rfl, hI⟩) hX dX3_init_33 rfl rfl rfl rfl (by decide) (fun _ => rfl) (fun _ => rfl) ?_
  exact b_vretB hX dX3_init_36 (by decide +kernel) rfl rfl rfl (fun z hz => by rw [List.mem_singleton.mp hz]; simp)
theorem kc_rules_141 {σ : St} (hf : ∀ z, z ∈ [141, 161, 162, 163, 165] → fresh σ z) : BE 2 4 118 Y_X3_init [.ref 141] [] 141 [161, 162, 163, 165] σ σ := by
  refine BE_mk rfl rfl (Nat.le_of_ble_eq_true rfl) (Bc_fresh (by decide +kernel) (fun z hz => hf z (List.mem_cons.mpr (Or.inl (List.mem_singleton.mp hz))))) (Bc_fresh (by decide +kernel) hf) (fun X hX hN hI => ?_)
  refine b_aload_n 0 hX dX3_init_0 rfl rfl ?_
  refine b_objinit hX dX3_init_1 tw_244 tw_93 tw_94 (by decide) (by decide) rfl ?_
  refine b_aload_n 0 hX dX3_init_4 rfl rfl ?_
  refine b_bipush (v := 6) hX dX3_init_5 rfl ?_
  refine b_newp (t := 1) (ty := .int) (n := 6) (N := 6) (a0 := (6, .inl fun _ => 0)) 161 (by decide) rfl (fun _ => rfl) (fun _ _ h => h) tw_120 (fun _ => rfl) hX dX3_init_7 rfl (by decide) (by decide) (pz_i rfl (Or.inl rfl) ((hf 161 (by decide)).int rfl (Or.inl rfl))) (by decide) rfl (by decide) (by decide) (by decide) (fun q161 => ?_)
  refine b_link (ci := 3) 1 1 0 cls3 (by decide) tb_247 rfl (Or.inr ⟨rfl, rfl, hI⟩) hX dX3_init_9 rfl rfl rfl rfl (by decide) (fun _ => rfl) (fun _ => rfl) ?_
  refine b_aload_n 0 hX dX3_init_12 rfl rfl ?_
  refine b_bipush (v := 6) hX dX3_init_13 rfl ?_
  refine b_newp (t := 1) (ty := .int) (n := 6) (N := 6) (a0 := (6, .inl fun _ => 0)) 162 (by decide) rfl (fun _ => rfl) (fun _ _ h => h) tw_120 (fun _ => rfl) hX dX3_init_15 rfl (by decide) (by decide) (pz_i rfl (Or.inl rfl) ((hf 162 (by decide)).int rfl (Or.inl rfl))) (by decide) rfl (by decide) (by decide) (by decide) (fun q162 => ?_)
  refine b_link (ci := 3) 2 2 0 cls3 (by decide) tb_248 rfl (Or.inr ⟨rfl, rfl, hI⟩) hX dX3_init_17 rfl rfl rfl rfl (by decide) (fun _ => rfl) (fun _ => rfl) ?_
  refine b_aload_n 0 hX dX3_init_20 rfl rfl ?_
  refine b_bipush (v := 6) hX dX3_init_21 rfl ?_
  refine b_newp (t := 1) (ty := .int) (n := 6) (N := 6) (a0 := (6, .inl fun _ => 0)) 163 (by decide) rfl (fun _ => rfl) (fun _ _ h => h) tw_120 (fun _ => rfl) hX dX3_init_23 rfl (by decide) (by decide) (pz_i rfl (Or.inl rfl) ((hf 163 (by decide)).int rfl (Or.inl rfl))) (by decide) rfl (by decide) (by decide) (by decide) (fun q163 => ?_)
  refine b_link (ci := 3) 3 3 0 cls3 (by decide) tb_249 rfl (Or.inr ⟨rfl, rfl, hI⟩) hX dX3_init_25 rfl rfl rfl rfl (by decide) (fun _ => rfl) (fun _ => rfl) ?_
  refine b_aload_n 0 hX dX3_init_28 rfl rfl ?_
  refine b_bipush (v := 100) hX dX3_init_29 rfl ?_
  refine b_newp (t := 1) (ty := .int) (n := 100) (N := 100) (a0 := (100, .inl fun _ => 0)) 165 (by decide) rfl (fun _ => rfl) (fun _ _ h => h) tw_120 (fun _ => rfl) hX dX3_init_31 rfl (by decide) (by decide) (pz_i rfl (Or.inl rfl) ((hf 165 (by decide)).int rfl (Or.inl rfl))) (by decide) rfl (by decide) (by decide) (by decide) (fun q165 => ?_)
  refine b_link (ci := 3) 5 4 0 cls3 (by decide) tb_251 rfl (Or.inr ⟨rfl, rfl, hI⟩) hX dX3_init_33 rfl rfl rfl rfl (by decide) (fun _ => rfl) (fun _ => rfl) ?_
  exact b_vretB hX dX3_init_36 (by decide +kernel) rfl rfl rfl (fun z hz => by rw [List.mem_singleton.mp hz]; simp)
theorem kc_rules_142 {σ : St} (hf : ∀ z, z ∈ [142, 171, 172, 173, 175] → fresh σ z) : BE 2 4 118 Y_X3_init [.ref 142] [] 142 [171, 172, 173, 175] σ σ := by
  refine BE_mk rfl rfl (Nat.le_of_ble_eq_true rfl) (Bc_fresh (by decide +kernel) (fun z hz => hf z (List.mem_cons.mpr (Or.inl (List.mem_singleton.mp hz))))) (Bc_fresh (by decide +kernel) hf) (fun X hX hN hI => ?_)
  refine b_aload_n 0 hX dX3_init_0 rfl rfl ?_
  refine b_objinit hX dX3_init_1 tw_244 tw_93 tw_94 (by decide) (by decide) rfl ?_
  refine b_aload_n 0 hX dX3_init_4 rfl rfl ?_
  refine b_bipush (v := 6) hX dX3_init_5 rfl ?_
  refine b_newp (t := 1) (ty := .int) (n := 6) (N := 6) (a0 := (6, .inl fun _ => 0)) 171 (by decide) rfl (fun _ => rfl) (fun _ _ h => h) tw_120 (fun _ => rfl) hX dX3_init_7 rfl (by decide) (by decide) (pz_i rfl (Or.inl rfl) ((hf 171 (by decide)).int rfl (Or.inl rfl))) (by decide) rfl (by decide) (by decide) (by decide) (fun q171 => ?_)
  refine b_link (ci := 3) 1 1 0 cls3 (by decide) tb_247 rfl (Or.inr ⟨rfl, rfl, hI⟩) hX dX3_init_9 rfl rfl rfl rfl (by decide) (fun _ => rfl) (fun _ => rfl) ?_
  refine b_aload_n 0 hX dX3_init_12 rfl rfl ?_
  refine b_bipush (v := 6) hX dX3_init_13 rfl ?_
  refine b_newp (t := 1) (ty := .int) (n := 6) (N := 6) (a0 := (6, .inl fun _ => 0)) 172 (by decide) rfl (fun _ => rfl) (fun _ _ h => h) tw_120 (fun _ => rfl) hX dX3_init_15 rfl (by decide) (by decide) (pz_i rfl (Or.inl rfl) ((hf 172 (by decide)).int rfl (Or.inl rfl))) (by decide) rfl (by decide) (by decide) (by decide) (fun q172 => ?_)
  refine b_link (ci := 3) 2 2 0 cls3 (by decide) tb_248 rfl (Or.inr ⟨rfl, rfl, hI⟩) hX dX3_init_17 rfl rfl rfl rfl (by decide) (fun _ => rfl) (fun _ => rfl) ?_
  refine b_aload_n 0 hX dX3_init_20 rfl rfl ?_
  refine b_bipush (v := 6) hX dX3_init_21 rfl ?_
  refine b_newp (t := 1) (ty := .int) (n := 6) (N := 6) (a0 := (6, .inl fun _ => 0)) 173 (by decide) rfl (fun _ => rfl) (fun _ _ h => h) tw_120 (fun _ => rfl) hX dX3_init_23 rfl (by decide) (by decide) (pz_i rfl (Or.inl rfl) ((hf 173 (by decide)).int rfl (Or.inl rfl))) (by decide) rfl (by decide) (by decide) (by decide) (fun q173 => ?_)
  refine b_link (ci := 3) 3 3 0 cls3 (by decide) tb_249 rfl (Or.inr ⟨rfl, rfl, hI⟩) hX dX3_init_25 rfl rfl rfl rfl (by decide) (fun _ => rfl) (fun _ => rfl) ?_
  refine b_aload_n 0 hX dX3_init_28 rfl rfl ?_
  refine b_bipush (v := 100) hX dX3_init_29 rfl ?_
  refine b_newp (t := 1) (ty := .int) (n := 100) (N := 100) (a0 := (100, .inl fun _ => 0)) 175 (by decide) rfl (fun _ => rfl) (fun _ _ h => h) tw_120 (fun _ => rfl) hX dX3_init_31 rfl (by decide) (by decide) (pz_i rfl (Or.inl rfl) ((hf 175 (by decide)).int rfl (Or.inl rfl))) (by decide) rfl (by decide) (by decide) (by decide) (fun q175 => ?_)
  refine b_link (ci := 3) 5 4 0 cls3 (by decide) tb_251 rfl (Or.inr ⟨rfl, rfl, hI⟩) hX dX3_init_33 rfl rfl rfl rfl (by decide) (fun _ => rfl) (fun _ => rfl) ?_
  exact b_vretB hX dX3_init_36 (by decide +kernel) rfl rfl rfl (fun z hz => by rw [List.mem_singleton.mp hz]; simp)
theorem kc_rules_143 {σ : St} (hf : ∀ z, z ∈ [143, 181, 182, 183, 185] → fresh σ z) : BE 2 4 118 Y_X3_init [.ref 143] [] 143 [181, 182, 183, 185] σ σ := by
  refine BE_mk rfl rfl (Nat.le_of_ble_eq_true rfl) (Bc_fresh (by decide +kernel) (fun z hz => hf z (List.mem_cons.mpr (Or.inl (List.mem_singleton.mp hz))))) (Bc_fresh (by decide +kernel) hf) (fun X hX hN hI => ?_)
  refine b_aload_n 0 hX dX3_init_0 rfl rfl ?_
  refine b_objinit hX dX3_init_1 tw_244 tw_93 tw_94 (by decide) (by decide) rfl ?_
  refine b_aload_n 0 hX dX3_init_4 rfl rfl ?_
  refine b_bipush (v := 6) hX dX3_init_5 rfl ?_
  refine b_newp (t := 1) (ty := .int) (n := 6) (N := 6) (a0 := (6, .inl fun _ => 0)) 181 (by decide) rfl (fun _ => rfl) (fun _ _ h => h) tw_120 (fun _ => rfl) hX dX3_init_7 rfl (by decide) (by decide) (pz_i rfl (Or.inl rfl) ((hf 181 (by decide)).int rfl (Or.inl rfl))) (by decide) rfl (by decide) (by decide) (by decide) (fun q181 => ?_)
  refine b_link (ci := 3) 1 1 0 cls3 (by decide) tb_247 rfl (Or.inr ⟨rfl, rfl, hI⟩) hX dX3_init_9 rfl rfl rfl rfl (by decide) (fun _ => rfl) (fun _ => rfl) ?_
  refine b_aload_n 0 hX dX3_init_12 rfl rfl ?_
  refine b_bipush (v := 6) hX dX3_init_13 rfl ?_
  refine b_newp (t := 1) (ty := .int) (n := 6) (N := 6) (a0 := (6, .inl fun _ => 0)) 182 (by decide) rfl (fun _ => rfl) (fun _ _ h => h) tw_120 (fun _ => rfl) hX dX3_init_15 rfl (by decide) (by decide) (pz_i rfl (Or.inl rfl) ((hf 182 (by decide)).int rfl (Or.inl rfl))) (by decide) rfl (by decide) (by decide) (by decide) (fun q182 => ?_)
  refine b_link (ci := 3) 2 2 0 cls3 (by decide) tb_248 rfl (Or.inr ⟨rfl, rfl, hI⟩) hX dX3_init_17 rfl rfl rfl rfl (by decide) (fun _ => rfl) (fun _ => rfl) ?_
  refine b_aload_n 0 hX dX3_init_20 rfl rfl ?_
  refine b_bipush (v := 6) hX dX3_init_21 rfl ?_
  refine b_newp (t := 1) (ty := .int) (n := 6) (N := 6) (a0 := (6, .inl fun _ => 0)) 183 (by decide) rfl (fun _ => rfl) (fun _ _ h => h) tw_120 (fun _ => rfl) hX dX3_init_23 rfl (by decide) (by decide) (pz_i rfl (Or.inl rfl) ((hf 183 (by decide)).int rfl (Or.inl rfl))) (by decide) rfl (by decide) (by decide) (by decide) (fun q183 => ?_)
  refine b_link (ci := 3) 3 3 0 cls3 (by decide) tb_249 rfl (Or.inr ⟨rfl, rfl, hI⟩) hX dX3_init_25 rfl rfl rfl rfl (by decide) (fun _ => rfl) (fun _ => rfl) ?_
  refine b_aload_n 0 hX dX3_init_28 rfl rfl ?_
  refine b_bipush (v := 100) hX dX3_init_29 rfl ?_
  refine b_newp (t := 1) (ty := .int) (n := 100) (N := 100) (a0 := (100, .inl fun _ => 0)) 185 (by decide) rfl (fun _ => rfl) (fun _ _ h => h) tw_120 (fun _ => rfl) hX dX3_init_31 rfl (by decide) (by decide) (pz_i rfl (Or.inl rfl) ((hf 185 (by decide)).int rfl (Or.inl rfl))) (by decide) rfl (by decide) (by decide) (by decide) (fun q185 => ?_)
  refine b_link (ci := 3) 5 4 0 cls3 (by decide) tb_251 rfl (Or.inr ⟨rfl, rfl, hI⟩) hX dX3_init_33 rfl rfl rfl rfl (by decide) (fun _ => rfl) (fun _ => rfl) ?_
  exact b_vretB hX dX3_init_36 (by decide +kernel) rfl rfl rfl (fun z hz => by rw [List.mem_singleton.mp hz]; simp)
theorem kc_rules_144 {σ : St} (hf : ∀ z, z ∈ [144, 191, 192, 193, 195] → fresh σ z) : BE 2 4 118 Y_X3_init [.ref 144] [] 144 [191, 192, 193, 195] σ σ := by
  refine BE_mk rfl rfl (Nat.le_of_ble_eq_true rfl) (Bc_fresh (by decide +kernel) (fun z hz => hf z (List.mem_cons.mpr (Or.inl (List.mem_singleton.mp hz))))) (Bc_fresh (by decide +kernel) hf) (fun X hX hN hI => ?_)
  refine b_aload_n 0 hX dX3_init_0 rfl rfl ?_
  refine b_objinit hX dX3_init_1 tw_244 tw_93 tw_94 (by decide) (by decide) rfl ?_
  refine b_aload_n 0 hX dX3_init_4 rfl rfl ?_
  refine b_bipush (v := 6) hX dX3_init_5 rfl ?_
  refine b_newp (t := 1) (ty := .int) (n := 6) (N := 6) (a0 := (6, .inl fun _ => 0)) 191 (by decide) rfl (fun _ => rfl) (fun _ _ h => h) tw_120 (fun _ => rfl) hX dX3_init_7 rfl (by decide) (by decide) (pz_i rfl (Or.inl rfl) ((hf 191 (by decide)).int rfl (Or.inl rfl))) (by decide) rfl (by decide) (by decide) (by decide) (fun q191 => ?_)
  refine b_link (ci := 3) 1 1 0 cls3 (by decide) tb_247 rfl (Or.inr ⟨rfl, rfl, hI⟩) hX dX3_init_9 rfl rfl rfl rfl (by decide) (fun _ => rfl) (fun _ => rfl) ?_
  refine b_aload_n 0 hX dX3_init_12 rfl rfl ?_
  refine b_bipush (v := 6) hX dX3_init_13 rfl ?_
  refine b_newp (t := 1) (ty := .int) (n := 6) (N := 6) (a0 := (6, .inl fun _ => 0)) 192 (by decide) rfl (fun _ => rfl) (fun _ _ h => h) tw_120 (fun _ => rfl) hX dX3_init_15 rfl (by decide) (by decide) (pz_i rfl (Or.inl rfl) ((hf 192 (by decide)).int rfl (Or.inl rfl))) (by decide) rfl (by decide) (by decide) (by decide) (fun q192 => ?_)
  refine b_link (ci := 3) 2 2 0 cls3 (by decide) tb_248 rfl (Or.inr ⟨rfl, rfl, hI⟩) hX dX3_init_17 rfl rfl rfl rfl (by decide) (fun _ => rfl) (fun _ => rfl) ?_
  refine b_aload_n 0 hX dX3_init_20 rfl rfl ?_
  refine b_bipush (v := 6) hX dX3_init_21 rfl ?_
  refine b_newp (t := 1) (ty := .int) (n := 6) (N := 6) (a0 := (6, .inl fun _ => 0)) 193 (by decide) rfl (fun _ => rfl) (fun _ _ h => h) tw_120 (fun _ => rfl) hX dX3_init_23 rfl (by decide) (by decide) (pz_i rfl (Or.inl rfl) ((hf 193 (by decide)).int rfl (Or.inl rfl))) (by decide) rfl (by decide) (by decide) (by decide) (fun q193 => ?_)
  refine b_link (ci := 3) 3 3 0 cls3 (by decide) tb_249 rfl (Or.inr ⟨rfl, rfl, hI⟩) hX dX3_init_25 rfl rfl rfl rfl (by decide) (fun _ => rfl) (fun _ => rfl) ?_
  refine b_aload_n 0 hX dX3_init_28 rfl rfl ?_
  refine b_bipush (v := 100) hX dX3_init_29 rfl ?_
  refine b_newp (t := 1) (ty := .int) (n := 100) (N := 100) (a0 := (100, .inl fun _ => 0)) 195 (by decide) rfl (fun _ => rfl) (fun _ _ h => h) tw_120 (fun _ => rfl) hX dX3_init_31 rfl (by decide) (by decide) (pz_i rfl (Or.inl rfl) ((hf 195 (by decide)).int rfl (Or.inl rfl))) (by decide) rfl (by decide) (by decide) (by decide) (fun q195 => ?_)
  refine b_link (ci := 3) 5 4 0 cls3 (by decide) tb_251 rfl (Or.inr ⟨rfl, rfl, hI⟩) hX dX3_init_33 rfl rfl rfl rfl (by decide) (fun _ => rfl) (fun _ => rfl) ?_
  exact b_vretB hX dX3_init_36 (by decide +kernel) rfl rfl rfl (fun z hz => by rw [List.mem_singleton.mp hz]; simp)
theorem kc_stage_210 {σ : St} (hf : ∀ z, z ∈ [210, 220] → fresh σ z) : BE 2 1 2 Y_X4_init [.ref 210] [] 210 [220] σ σ := by
  refine BE_mk rfl rfl (Nat.le_of_ble_eq_true rfl) (Bc_fresh (by decide +kernel) (fun z hz => hf z (List.mem_cons.mpr (Or.inl (List.mem_singleton.mp hz))))) (Bc_fresh (by decide +kernel) hf) (fun X hX hN hI => ?_)
  refine b_aload_n 0 hX dX4_init_0 rfl rfl ?_
  refine b_objinit hX dX4_init_1 tw_135 tw_93 tw_94 (by decide) (by decide) rfl ?_
  refine b_aload_n 0 hX dX4_init_4 rfl rfl ?_
  refine b_iconst (v := 2) hX dX4_init_5 rfl ?_
  refine b_newp (t := 1) (ty := .int) (n := 2) (N := 2) (a0 := (2, .inl fun _ => 0)) 220 (by decide) rfl (fun _ => rfl) (fun _ _ h => h) tw_120 (fun _ => rfl) hX dX4_init_6 rfl (by decide) (by decide) (pz_i rfl (Or.inl rfl) ((hf 220 (by decide)).int rfl (Or.inl rfl))) (by decide) rfl (by decide) (by decide) (by decide) (fun q220 => ?_)
  refine b_link (ci := 4) 7 1 0 cls4 (by decide) tb_154 rfl (Or.inr ⟨rfl, rfl, hI⟩) hX dX4_init_8 rfl rfl rfl rfl (by decide) (fun _ => rfl) (fun _ => rfl) ?_
  exact b_vretB hX dX4_init_11 (by decide +kernel) rfl rfl rfl (fun z hz => by rw [List.mem_singleton.mp hz]; simp)
theorem kc_stage_211 {σ : St} (hf : ∀ z, z ∈ [211, 221] → fresh σ z) : BE 2 1 2 Y_X4_init [.ref 211] [] 211 [221] σ σ := by
  refine BE_mk rfl rfl (Nat.le_of_ble_eq_true rfl) (Bc_fresh (by decide +kernel) (fun z hz => hf z (List.mem_cons.mpr (Or.inl (List.mem_singleton.mp hz))))) (Bc_fresh (by decide +kernel) hf) (fun X hX hN hI => ?_)
  refine b_aload_n 0 hX dX4_init_0 rfl rfl ?_
  refine b_objinit hX dX4_init_1 tw_135 tw_93 tw_94 (by decide) (by decide) rfl ?_
  refine b_aload_n 0 hX dX4_init_4 rfl rfl ?_
  refine b_iconst (v := 2) hX dX4_init_5 rfl ?_
  refine b_newp (t := 1) (ty := .int) (n := 2) (N := 2) (a0 := (2, .inl fun _ => 0)) 221 (by decide) rfl (fun _ => rfl) (fun _ _ h => h) tw_120 (fun _ => rfl) hX dX4_init_6 rfl (by decide) (by decide) (pz_i rfl (Or.inl rfl) ((hf 221 (by decide)).int rfl (Or.inl rfl))) (by decide) rfl (by decide) (by decide) (by decide) (fun q221 => ?_)
  refine b_link (ci := 4) 7 1 0 cls4 (by decide) tb_154 rfl (Or.inr ⟨rfl, rfl, hI⟩) hX dX4_init_8 rfl rfl rfl rfl (by decide) (fun _ => rfl) (fun _ => rfl) ?_
  exact b_vretB hX dX4_init_11 (by decide +kernel) rfl rfl rfl (fun z hz => by rw [List.mem_singleton.mp hz]; simp)
theorem kc_stage_212 {σ : St} (hf : ∀ z, z ∈ [212, 222] → fresh σ z) : BE 2 1 2 Y_X4_init [.ref 212] [] 212 [222] σ σ := by
  refine BE_mk rfl rfl (Nat.le_of_ble_eq_true rfl) (Bc_fresh (by decide +kernel) (fun z hz => hf z (List.mem_cons.mpr (Or.inl (List.mem_singleton.mp hz))))) (Bc_fresh (by decide +kernel) hf) (fun X hX hN hI => ?_)
  refine b_aload_n 0 hX dX4_init_0 rfl rfl ?_
  refine b_objinit hX dX4_init_1 tw_135 tw_93 tw_94 (by decide) (by decide) rfl ?_
  refine b_aload_n 0 hX dX4_init_4 rfl rfl ?_
  refine b_iconst (v := 2) hX dX4_init_5 rfl ?_
  refine b_newp (t := 1) (ty := .int) (n := 2) (N := 2) (a0 := (2, .inl fun _ => 0)) 222 (by decide) rfl (fun _ => rfl) (fun _ _ h => h) tw_120 (fun _ => rfl) hX dX4_init_6 rfl (by decide) (by decide) (pz_i rfl (Or.inl rfl) ((hf 222 (by decide)).int rfl (Or.inl rfl))) (by decide) rfl (by decide) (by decide) (by decide) (fun q222 => ?_)
  refine b_link (ci := 4) 7 1 0 cls4 (by decide) tb_154 rfl (Or.inr ⟨rfl, rfl, hI⟩) hX dX4_init_8 rfl rfl rfl rfl (by decide) (fun _ => rfl) (fun _ => rfl) ?_
  exact b_vretB hX dX4_init_11 (by decide +kernel) rfl rfl rfl (fun z hz => by rw [List.mem_singleton.mp hz]; simp)
theorem kc_stage_213 {σ : St} (hf : ∀ z, z ∈ [213, 223] → fresh σ z) : BE 2 1 2 Y_X4_init [.ref 213] [] 213 [223] σ σ := by
  refine BE_mk rfl rfl (Nat.le_of_ble_eq_true rfl) (Bc_fresh (by decide +kernel) (fun z hz => hf z (List.mem_cons.mpr (Or.inl (List.mem_singleton.mp hz))))) (Bc_fresh (by decide +kernel) hf) (fun X hX hN hI => ?_)
  refine b_aload_n 0 hX dX4_init_0 rfl rfl ?_
  refine b_objinit hX dX4_init_1 tw_135 tw_93 tw_94 (by decide) (by decide) rfl ?_
  refine b_aload_n 0 hX dX4_init_4 rfl rfl ?_
  refine b_iconst (v := 2) hX dX4_init_5 rfl ?_
  refine b_newp (t := 1) (ty := .int) (n := 2) (N := 2) (a0 := (2, .inl fun _ => 0)) 223 (by decide) rfl (fun _ => rfl) (fun _ _ h => h) tw_120 (fun _ => rfl) hX dX4_init_6 rfl (by decide) (by decide) (pz_i rfl (Or.inl rfl) ((hf 223 (by decide)).int rfl (Or.inl rfl))) (by decide) rfl (by decide) (by decide) (by decide) (fun q223 => ?_)
  refine b_link (ci := 4) 7 1 0 cls4 (by decide) tb_154 rfl (Or.inr ⟨rfl, rfl, hI⟩) hX dX4_init_8 rfl rfl rfl rfl (by decide) (fun _ => rfl) (fun _ => rfl) ?_
  exact b_vretB hX dX4_init_11 (by decide +kernel) rfl rfl rfl (fun z hz => by rw [List.mem_singleton.mp hz]; simp)
theorem kc_stage_214 {σ : St} (hf : ∀ z, z ∈ [214, 224] → fresh σ z) : BE 2 1 2 Y_X4_init [.ref 214] [] 214 [224] σ σ := by
  refine BE_mk rfl rfl (Nat.le_of_ble_eq_true rfl) (Bc_fresh (by decide +kernel) (fun z hz => hf z (List.mem_cons.mpr (Or.inl (List.mem_singleton.mp hz))))) (Bc_fresh (by decide +kernel) hf) (fun X hX hN hI => ?_)
  refine b_aload_n 0 hX dX4_init_0 rfl rfl ?_
  refine b_objinit hX dX4_init_1 tw_135 tw_93 tw_94 (by decide) (by decide) rfl ?_
  refine b_aload_n 0 hX dX4_init_4 rfl rfl ?_
  refine b_iconst (v := 2) hX dX4_init_5 rfl ?_
  refine b_newp (t := 1) (ty := .int) (n := 2) (N := 2) (a0 := (2, .inl fun _ => 0)) 224 (by decide) rfl (fun _ => rfl) (fun _ _ h => h) tw_120 (fun _ => rfl) hX dX4_init_6 rfl (by decide) (by decide) (pz_i rfl (Or.inl rfl) ((hf 224 (by decide)).int rfl (Or.inl rfl))) (by decide) rfl (by decide) (by decide) (by decide) (fun q224 => ?_)
  refine b_link (ci := 4) 7 1 0 cls4 (by decide) tb_154 rfl (Or.inr ⟨rfl, rfl, hI⟩) hX dX4_init_8 rfl rfl rfl rfl (by decide) (fun _ => rfl) (fun _ => rfl) ?_
  exact b_vretB hX dX4_init_11 (by decide +kernel) rfl rfl rfl (fun z hz => by rw [List.mem_singleton.mp hz]; simp)
theorem kc_stage_215 {σ : St} (hf : ∀ z, z ∈ [215, 225] → fresh σ z) : BE 2 1 2 Y_X4_init [.ref 215] [] 215 [225] σ σ := by
  refine BE_mk rfl rfl (Nat.le_of_ble_eq_true rfl) (Bc_fresh (by decide +kernel) (fun z hz => hf z (List.mem_cons.mpr (Or.inl (List.mem_singleton.mp hz))))) (Bc_fresh (by decide +kernel) hf) (fun X hX hN hI => ?_)
  refine b_aload_n 0 hX dX4_init_0 rfl rfl ?_
  refine b_objinit hX dX4_init_1 tw_135 tw_93 tw_94 (by decide) (by decide) rfl ?_
  refine b_aload_n 0 hX dX4_init_4 rfl rfl ?_
  refine b_iconst (v := 2) hX dX4_init_5 rfl ?_
  refine b_newp (t := 1) (ty := .int) (n := 2) (N := 2) (a0 := (2, .inl fun _ => 0)) 225 (by decide) rfl (fun _ => rfl) (fun _ _ h => h) tw_120 (fun _ => rfl) hX dX4_init_6 rfl (by decide) (by decide) (pz_i rfl (Or.inl rfl) ((hf 225 (by decide)).int rfl (Or.inl rfl))) (by decide) rfl (by decide) (by decide) (by decide) (fun q225 => ?_)
  refine b_link (ci := 4) 7 1 0 cls4 (by decide) tb_154 rfl (Or.inr ⟨rfl, rfl, hI⟩) hX dX4_init_8 rfl rfl rfl rfl (by decide) (fun _ => rfl) (fun _ => rfl) ?_
  exact b_vretB hX dX4_init_11 (by decide +kernel) rfl rfl rfl (fun z hz => by rw [List.mem_singleton.mp hz]; simp)
theorem kc_stage_310 {σ : St} (hf : ∀ z, z ∈ [310, 320] → fresh σ z) : BE 2 1 2 Y_X4_init [.ref 310] [] 310 [320] σ σ := by
  refine BE_mk rfl rfl (Nat.le_of_ble_eq_true rfl) (Bc_fresh (by decide +kernel) (fun z hz => hf z (List.mem_cons.mpr (Or.inl (List.mem_singleton.mp hz))))) (Bc_fresh (by decide +kernel) hf) (fun X hX hN hI => ?_)
  refine b_aload_n 0 hX dX4_init_0 rfl rfl ?_
  refine b_objinit hX dX4_init_1 tw_135 tw_93 tw_94 (by decide) (by decide) rfl ?_
  refine b_aload_n 0 hX dX4_init_4 rfl rfl ?_
  refine b_iconst (v := 2) hX dX4_init_5 rfl ?_
  refine b_newp (t := 1) (ty := .int) (n := 2) (N := 2) (a0 := (2, .inl fun _ => 0)) 320 (by decide) rfl (fun _ => rfl) (fun _ _ h => h) tw_120 (fun _ => rfl) hX dX4_init_6 rfl (by decide) (by decide) (pz_i rfl (Or.inl rfl) ((hf 320 (by decide)).int rfl (Or.inl rfl))) (by decide) rfl (by decide) (by decide) (by decide) (fun q320 => ?_)
  refine b_link (ci := 4) 7 1 0 cls4 (by decide) tb_154 rfl (Or.inr ⟨rfl, rfl, hI⟩) hX dX4_init_8 rfl rfl rfl rfl (by decide) (fun _ => rfl) (fun _ => rfl) ?_
  exact b_vretB hX dX4_init_11 (by decide +kernel) rfl rfl rfl (fun z hz => by rw [List.mem_singleton.mp hz]; simp)
theorem kc_stage_311 {σ : St} (hf : ∀ z, z ∈ [311, 321] → fresh σ z) : BE 2 1 2 Y_X4_init [.ref 311] [] 311 [321] σ σ := by
  refine BE_mk rfl rfl (Nat.le_of_ble_eq_true rfl) (Bc_fresh (by decide +kernel) (fun z hz => hf z (List.mem_cons.mpr (Or.inl (List.mem_singleton.mp hz))))) (Bc_fresh (by decide +kernel) hf) (fun X hX hN hI => ?_)
  refine b_aload_n 0 hX dX4_init_0 rfl rfl ?_
  refine b_objinit hX dX4_init_1 tw_135 tw_93 tw_94 (by decide) (by decide) rfl ?_
  refine b_aload_n 0 hX dX4_init_4 rfl rfl ?_
  refine b_iconst (v := 2) hX dX4_init_5 rfl ?_
  refine b_newp (t := 1) (ty := .int) (n := 2) (N := 2) (a0 := (2, .inl fun _ => 0)) 321 (by decide) rfl (fun _ => rfl) (fun _ _ h => h) tw_120 (fun _ => rfl) hX dX4_init_6 rfl (by decide) (by decide) (pz_i rfl (Or.inl rfl) ((hf 321 (by decide)).int rfl (Or.inl rfl))) (by decide) rfl (by decide) (by decide) (by decide) (fun q321 => ?_)
  refine b_link (ci := 4) 7 1 0 cls4 (by decide) tb_154 rfl (Or.inr ⟨rfl, rfl, hI⟩) hX dX4_init_8 rfl rfl rfl rfl (by decide) (fun _ => rfl) (fun _ => rfl) ?_
  exact b_vretB hX dX4_init_11 (by decide +kernel) rfl rfl rfl (fun z hz => by rw [List.mem_singleton.mp hz]; simp)
theorem kc_stage_312 {σ : St} (hf : ∀ z, z ∈ [312, 322] → fresh σ z) : BE 2 1 2 Y_X4_init [.ref 312] [] 312 [322] σ σ := by
  refine BE_mk rfl rfl (Nat.le_of_ble_eq_true rfl) (Bc_fresh (by decide +kernel) (fun z hz => hf z (List.mem_cons.mpr (Or.inl (List.mem_singleton.mp hz))))) (Bc_fresh (by decide +kernel) hf) (fun X hX hN hI => ?_)
  refine b_aload_n 0 hX dX4_init_0 rfl rfl ?_
  refine b_objinit hX dX4_init_1 tw_135 tw_93 tw_94 (by decide) (by decide) rfl ?_
  refine b_aload_n 0 hX dX4_init_4 rfl rfl ?_
  refine b_iconst (v := 2) hX dX4_init_5 rfl ?_
  refine b_newp (t := 1) (ty := .int) (n := 2) (N := 2) (a0 := (2, .inl fun _ => 0)) 322 (by decide) rfl (fun _ => rfl) (fun _ _ h => h) tw_120 (fun _ => rfl) hX dX4_init_6 rfl (by decide) (by decide) (pz_i rfl (Or.inl rfl) ((hf 322 (by decide)).int rfl (Or.inl rfl))) (by decide) rfl (by decide) (by decide) (by decide) (fun q322 => ?_)
  refine b_link (ci := 4) 7 1 0 cls4 (by decide) tb_154 rfl (Or.inr ⟨rfl, rfl, hI⟩) hX dX4_init_8 rfl rfl rfl rfl (by decide) (fun _ => rfl) (fun _ => rfl) ?_
  exact b_vretB hX dX4_init_11 (by decide +kernel) rfl rfl rfl (fun z hz => by rw [List.mem_singleton.mp hz]; simp)
theorem kc_stage_313 {σ : St} (hf : ∀ z, z ∈ [313, 323] → fresh σ z) : BE 2 1 2 Y_X4_init [.ref 313] [] 313 [323] σ σ := by
  refine BE_mk rfl rfl (Nat.le_of_ble_eq_true rfl) (Bc_fresh (by decide +kernel) (fun z hz => hf z (List.mem_cons.mpr (Or.inl (List.mem_singleton.mp hz))))) (Bc_fresh (by decide +kernel) hf) (fun X hX hN hI => ?_)
  refine b_aload_n 0 hX dX4_init_0 rfl rfl ?_
  refine b_objinit hX dX4_init_1 tw_135 tw_93 tw_94 (by decide) (by decide) rfl ?_
  refine b_aload_n 0 hX dX4_init_4 rfl rfl ?_
  refine b_iconst (v := 2) hX dX4_init_5 rfl ?_
  refine b_newp (t := 1) (ty := .int) (n := 2) (N := 2) (a0 := (2, .inl fun _ => 0)) 323 (by decide) rfl (fun _ => rfl) (fun _ _ h => h) tw_120 (fun _ => rfl) hX dX4_init_6 rfl (by decide) (by decide) (pz_i rfl (Or.inl rfl) ((hf 323 (by decide)).int rfl (Or.inl rfl))) (by decide) rfl (by decide) (by decide) (by decide) (fun q323 => ?_)
  refine b_link (ci := 4) 7 1 0 cls4 (by decide) tb_154 rfl (Or.inr ⟨rfl, rfl, hI⟩) hX dX4_init_8 rfl rfl rfl rfl (by decide) (fun _ => rfl) (fun _ => rfl) ?_
  exact b_vretB hX dX4_init_11 (by decide +kernel) rfl rfl rfl (fun z hz => by rw [List.mem_singleton.mp hz]; simp)
theorem kc_stage_314 {σ : St} (hf : ∀ z, z ∈ [314, 324] → fresh σ z) : BE 2 1 2 Y_X4_init [.ref 314] [] 314 [324] σ σ := by
  refine BE_mk rfl rfl (Nat.le_of_ble_eq_true rfl) (Bc_fresh (by decide +kernel) (fun z hz => hf z (List.mem_cons.mpr (Or.inl (List.mem_singleton.mp hz))))) (Bc_fresh (by decide +kernel) hf) (fun X hX hN hI => ?_)
  refine b_aload_n 0 hX dX4_init_0 rfl rfl ?_
  refine b_objinit hX dX4_init_1 tw_135 tw_93 tw_94 (by decide) (by decide) rfl ?_
  refine b_aload_n 0 hX dX4_init_4 rfl rfl ?_
  refine b_iconst (v := 2) hX dX4_init_5 rfl ?_
  refine b_newp (t := 1) (ty := .int) (n := 2) (N := 2) (a0 := (2, .inl fun _ => 0)) 324 (by decide) rfl (fun _ => rfl) (fun _ _ h => h) tw_120 (fun _ => rfl) hX dX4_init_6 rfl (by decide) (by decide) (pz_i rfl (Or.inl rfl) ((hf 324 (by decide)).int rfl (Or.inl rfl))) (by decide) rfl (by decide) (by decide) (by decide) (fun q324 => ?_)
  refine b_link (ci := 4) 7 1 0 cls4 (by decide) tb_154 rfl (Or.inr ⟨rfl, rfl, hI⟩) hX dX4_init_8 rfl rfl rfl rfl (by decide) (fun _ => rfl) (fun _ => rfl) ?_
  exact b_vretB hX dX4_init_11 (by decide +kernel) rfl rfl rfl (fun z hz => by rw [List.mem_singleton.mp hz]; simp)
theorem kc_stage_315 {σ : St} (hf : ∀ z, z ∈ [315, 325] → fresh σ z) : BE 2 1 2 Y_X4_init [.ref 315] [] 315 [325] σ σ := by
  refine BE_mk rfl rfl (Nat.le_of_ble_eq_true rfl) (Bc_fresh (by decide +kernel) (fun z hz => hf z (List.mem_cons.mpr (Or.inl (List.mem_singleton.mp hz))))) (Bc_fresh (by decide +kernel) hf) (fun X hX hN hI => ?_)
  refine b_aload_n 0 hX dX4_init_0 rfl rfl ?_
  refine b_objinit hX dX4_init_1 tw_135 tw_93 tw_94 (by decide) (by decide) rfl ?_
  refine b_aload_n 0 hX dX4_init_4 rfl rfl ?_
  refine b_iconst (v := 2) hX dX4_init_5 rfl ?_
  refine b_newp (t := 1) (ty := .int) (n := 2) (N := 2) (a0 := (2, .inl fun _ => 0)) 325 (by decide) rfl (fun _ => rfl) (fun _ _ h => h) tw_120 (fun _ => rfl) hX dX4_init_6 rfl (by decide) (by decide) (pz_i rfl (Or.inl rfl) ((hf 325 (by decide)).int rfl (Or.inl rfl))) (by decide) rfl (by decide) (by decide) (by decide) (fun q325 => ?_)
  refine b_link (ci := 4) 7 1 0 cls4 (by decide) tb_154 rfl (Or.inr ⟨rfl, rfl, hI⟩) hX dX4_init_8 rfl rfl rfl rfl (by decide) (fun _ => rfl) (fun _ => rfl) ?_
  exact b_vretB hX dX4_init_11 (by decide +kernel) rfl rfl rfl (fun z hz => by rw [List.mem_singleton.mp hz]; simp)
