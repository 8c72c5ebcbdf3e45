/-! the constructor of PleasToIssue -/
theorem tw_92 : Cond.methodLink RX6 5 Lib.objectInit ∈ TB := TB_in (List.mem_of_getElem? (i := 92) (by decide +kernel)) (by decide +kernel)
theorem tw_95 : Cond.classLink RX6 18 RX1 ∈ TB := TB_in (List.mem_of_getElem? (i := 95) (by decide +kernel)) (by decide +kernel)
theorem tw_97 : Cond.classLink RX6 24 RX5 ∈ TB := TB_in (List.mem_of_getElem? (i := 97) (by decide +kernel)) (by decide +kernel)
theorem tw_98 : Cond.instantiable RX5 5 ∈ TB := TB_in (List.mem_of_getElem? (i := 98) (by decide +kernel)) (by decide +kernel)
theorem tw_100 : Cond.instanceMethod yX5_init ∈ TB := TB_in (List.mem_of_getElem? (i := 100) (by decide +kernel)) (by decide +kernel)
theorem tw_121 : Cond.classLink RX6 31 RX3 ∈ TB := TB_in (List.mem_of_getElem? (i := 121) (by decide +kernel)) (by decide +kernel)
theorem tw_123 : Cond.classLink RX6 37 RX2 ∈ TB := TB_in (List.mem_of_getElem? (i := 123) (by decide +kernel)) (by decide +kernel)
theorem tw_124 : Cond.instantiable RX2 11 ∈ TB := TB_in (List.mem_of_getElem? (i := 124) (by decide +kernel)) (by decide +kernel)
theorem tw_125 : Cond.methodLink RX6 39 yX2_init ∈ TB := TB_in (List.mem_of_getElem? (i := 125) (by decide +kernel)) (by decide +kernel)
theorem tw_126 : Cond.instanceMethod yX2_init ∈ TB := TB_in (List.mem_of_getElem? (i := 126) (by decide +kernel)) (by decide +kernel)
theorem tw_218 : Cond.classLink RX6 49 RX0 ∈ TB := TB_in (List.mem_of_getElem? (i := 218) (by decide +kernel)) (by decide +kernel)
theorem tw_219 : Cond.instantiable RX0 4 ∈ TB := TB_in (List.mem_of_getElem? (i := 219) (by decide +kernel)) (by decide +kernel)
theorem tw_221 : Cond.instanceMethod yX0_init ∈ TB := TB_in (List.mem_of_getElem? (i := 221) (by decide +kernel)) (by decide +kernel)
theorem tw_238 : Cond.classLink RX6 62 "[[J" ∈ TB := TB_in (List.mem_of_getElem? (i := 238) (by decide +kernel)) (by decide +kernel)
theorem tw_240 : Cond.instantiable RX3 6 ∈ TB := TB_in (List.mem_of_getElem? (i := 240) (by decide +kernel)) (by decide +kernel)
theorem tw_242 : Cond.instanceMethod yX3_init ∈ TB := TB_in (List.mem_of_getElem? (i := 242) (by decide +kernel)) (by decide +kernel)
theorem tw_265 : Cond.arrayClass .long ∈ TB := TB_in (List.mem_of_getElem? (i := 265) (by decide +kernel)) (by decide +kernel)
set_option maxHeartbeats 4000000 in
theorem kc_pleas {σ : St} (hf : ∀ z, z ∈ ([100, 101, 102, 103, 105, 120, 106, 108, 202, 203, 204, 210, 220, 211, 221, 212, 222, 213, 223, 214, 224, 215, 225, 109, 302, 303, 304, 310, 320, 311, 321, 312, 322, 313, 323, 314, 324, 315, 325, 110, 121, 111, 112, 113, 130, 131, 132, 133, 134, 135, 140, 151, 152, 153, 155, 141, 161, 162, 163, 165, 142, 171, 172, 173, 175, 143, 181, 182, 183, 185, 144, 191, 192, 193, 195] : List Nat) → fresh σ z) : BE 4 74 1362 Y_X6_init [.ref 100] [] 100 [101, 102, 103, 105, 120, 106, 108, 202, 203, 204, 210, 220, 211, 221, 212, 222, 213, 223, 214, 224, 215, 225, 109, 302, 303, 304, 310, 320, 311, 321, 312, 322, 313, 323, 314, 324, 315, 325, 110, 121, 111, 112, 113, 130, 131, 132, 133, 134, 135, 140, 151, 152, 153, 155, 141, 161, 162, 163, 165, 142, 171, 172, 173, 175, 143, 181, 182, 183, 185, 144, 191, 192, 193, 195] σ (si (si (si (si (si (si (si (si (si (si σ 210 4 (1)) 210 6 (1)) 310 4 (1)) 310 6 (1)) 111 0 (-1)) 111 1 (-1)) 111 2 (-1)) 111 3 (-1)) 111 4 (-1)) 111 5 (-1)) := by
  refine BE_mk rfl rfl (Nat.le_of_ble_eq_true rfl) (Bc_fresh (by decide +kernel) (fun z hz => hf z (List.mem_cons.mpr (Or.inl (List.mem_singleton.mp hz))))) (((((((((((Bc_fresh (by decide +kernel) hf).si (Or.inl (by decide))).si (Or.inl (by decide))).si (Or.inl (by decide))).si (Or.inl (by decide))).si (Or.inl (by decide))).si (Or.inl (by decide))).si (Or.inl (by decide))).si (Or.inl (by decide))).si (Or.inl (by decide))).si (Or.inl (by decide))) (fun X hX hN hI => ?_)
  refine b_aload_n 0 hX dX6_init_0 rfl rfl ?_
  refine b_objinit hX dX6_init_1 tw_92 tw_93 tw_94 (by decide) (by decide) rfl ?_
  refine b_aload_n 0 hX dX6_init_4 rfl rfl ?_
  refine b_iconst (v := 5) hX dX6_init_5 rfl ?_
  refine b_newp (t := 1) (ty := .int) (n := 5) (N := 5) (a0 := (5, .inl fun _ => 0)) 101 (by decide) rfl (fun _ => rfl) (fun _ _ h => h) tw_120 (fun _ => rfl) hX dX6_init_6 rfl (by decide) (by decide) (pz_i rfl (Or.inl rfl) ((hf 101 (by decide)).int rfl (Or.inl rfl))) (by decide) rfl (by decide) (by decide) (by decide) (fun q1 => ?_)
  refine b_link (ci := 6) (o := 100) 0 1 0 cls6 (by decide) tb_266 rfl (Or.inr ⟨rfl, rfl, hI⟩) hX dX6_init_8 rfl rfl rfl rfl (by decide) (fun _ => rfl) (fun _ => rfl) ?_
  refine b_aload_n 0 hX dX6_init_11 rfl rfl ?_
  refine b_iconst (v := 5) hX dX6_init_12 rfl ?_
  refine b_newp (t := 1) (ty := .int) (n := 5) (N := 5) (a0 := (5, .inl fun _ => 0)) 102 (by decide) rfl (fun _ => rfl) (fun _ _ h => h) tw_120 (fun _ => rfl) hX dX6_init_13 rfl (by decide) (by decide) (pz_i rfl (Or.inl rfl) ((hf 102 (by decide)).int rfl (Or.inl rfl))) (by decide) rfl (by decide) (by decide) (by decide) (fun q2 => ?_)
  refine b_link (ci := 6) (o := 100) 1 2 0 cls6 (by decide) tb_267 rfl (Or.inr ⟨rfl, rfl, hI⟩) hX dX6_init_15 rfl rfl rfl rfl (by decide) (fun _ => rfl) (fun _ => rfl) ?_
  refine b_aload_n 0 hX dX6_init_18 rfl rfl ?_
  refine b_iconst (v := 4) hX dX6_init_19 rfl ?_
  refine b_newr (C := RX1) (n := 4) (t := 4) (N := 4) 103 (by decide) (fun _ => rfl) (fun _ _ h => h.1.1) tw_95 hX hN dX6_init_20 rfl (by decide) (by decide) (fun _ => (hf 103 (by decide)).q rfl) (by decide) rfl (by decide) (by decide) (by decide) (fun q3 => ?_)
  refine b_link (ci := 6) (o := 100) 2 3 0 cls6 (by decide) tb_268 rfl (Or.inr ⟨rfl, rfl, hI⟩) hX dX6_init_23 rfl rfl rfl rfl (by decide) (fun _ => rfl) (fun _ => rfl) ?_
  refine b_aload_n 0 hX dX6_init_26 rfl rfl ?_
  refine b_new (ci := 5) (C := RX5) (T := TX5) (N := 5) 105 cls5 tw_97 tw_98 tw_72 hX dX6_init_27 rfl (by decide) (by decide) dfX5 ((hf 105 (by decide)).obj rfl rfl) (by decide) (by decide) (fun q4 => ?_)
  refine b_dup hX dX6_init_30 rfl ?_
  refine b_ctor (q := q4) (As := []) (Vs := []) (kc_text (fun z hz => (hf z ((show ∀ z ∈ ([105, 120] : List Nat), z ∈ ([100, 101, 102, 103, 105, 120, 106, 108, 202, 203, 204, 210, 220, 211, 221, 212, 222, 213, 223, 214, 224, 215, 225, 109, 302, 303, 304, 310, 320, 311, 321, 312, 322, 313, 323, 314, 324, 315, 325, 110, 121, 111, 112, 113, 130, 131, 132, 133, 134, 135, 140, 151, 152, 153, 155, 141, 161, 162, 163, 165, 142, 171, 172, 173, 175, 143, 181, 182, 183, 185, 144, 191, 192, 193, 195] : List Nat) by decide) z hz)))) Yok_X5_init rfl rfl tw_100 (Or.inr ⟨_, fun _ _ h => h.2.2.2.1⟩) hX hN dX6_init_31 rfl rfl (Nat.le_of_ble_eq_true rfl) (fun r h => by show [Value.ref (r 105)] = _; rw [h (105, q4) (List.mem_of_getElem? (i := 0) rfl)]) (by decide) (fun k h => List.mem_append_left _ h) (fun z hz => absurd hz List.not_mem_nil) (by decide) (fun _ _ _ => ⟨rfl, rfl⟩) (by decide) (by decide) (by decide) (by decide) ?_
  refine b_link (ci := 6) (o := 100) 4 4 0 cls6 (by decide) tb_270 rfl (Or.inr ⟨rfl, rfl, hI⟩) hX dX6_init_34 rfl rfl rfl rfl (by decide) (fun _ => rfl) (fun _ => rfl) ?_
  refine b_aload_n 0 hX dX6_init_37 rfl rfl ?_
  refine b_iconst (v := 5) hX dX6_init_38 rfl ?_
  refine b_newr (C := RX3) (n := 5) (t := 5) (N := 5) 106 (by decide) (fun _ => rfl) (fun _ _ h => h.1.2.1) tw_121 hX hN dX6_init_39 rfl (by decide) (by decide) (fun h => absurd h (by decide)) (by decide) rfl (by decide) (by decide) (by decide) (fun q5 => ?_)
  refine b_link (ci := 6) (o := 100) 5 5 0 cls6 (by decide) tb_271 rfl (Or.inr ⟨rfl, rfl, hI⟩) hX dX6_init_42 rfl rfl rfl rfl (by decide) (fun _ => rfl) (fun _ => rfl) ?_
  refine b_aload_n 0 hX dX6_init_45 rfl rfl ?_
  refine b_new (ci := 2) (C := RX2) (T := TX2) (N := 11) 108 cls2 tw_123 tw_124 tw_73 hX dX6_init_46 rfl (by decide) (by decide) dfX2 ((hf 108 (by decide)).obj rfl rfl) (by decide) (by decide) (fun q6 => ?_)
  refine b_dup hX dX6_init_49 rfl ?_
  refine b_aload_n 0 hX dX6_init_50 rfl rfl ?_
  refine b_rget (ci := 6) (o := 100) 0 6 cls6 (by decide) tb_266 rfl hX dX6_init_51 rfl rfl rfl (by decide) (by decide) (fun q7 => ?_)
  refine b_aload_n 0 hX dX6_init_54 rfl rfl ?_
  refine b_rget (ci := 6) (o := 100) 1 7 cls6 (by decide) tb_267 rfl hX dX6_init_55 rfl rfl rfl (by decide) (by decide) (fun q8 => ?_)
  refine b_ctor (q := q6) (As := [.ref 101, .ref 102]) (Vs := [.ref q7, .ref q8]) (kc_roll_108 (fun z hz => (hf z ((show ∀ z ∈ ([108, 202, 203, 204, 210, 220, 211, 221, 212, 222, 213, 223, 214, 224, 215, 225] : List Nat), z ∈ ([100, 101, 102, 103, 105, 120, 106, 108, 202, 203, 204, 210, 220, 211, 221, 212, 222, 213, 223, 214, 224, 215, 225, 109, 302, 303, 304, 310, 320, 311, 321, 312, 322, 313, 323, 314, 324, 315, 325, 110, 121, 111, 112, 113, 130, 131, 132, 133, 134, 135, 140, 151, 152, 153, 155, 141, 161, 162, 163, 165, 142, 171, 172, 173, 175, 143, 181, 182, 183, 185, 144, 191, 192, 193, 195] : List Nat) by decide) z hz)))) Yok_X2_init rfl rfl tw_126 (Or.inl tw_125) hX hN dX6_init_58 rfl rfl (Nat.le_of_ble_eq_true rfl) (fun r h => by show [Value.ref (r 108), Value.ref (r 101), Value.ref (r 102)] = _; rw [h (108, q6) (List.mem_of_getElem? (i := 2) rfl), h (101, q7) (List.mem_of_getElem? (i := 1) rfl), h (102, q8) (List.mem_of_getElem? (i := 0) rfl)]) (by decide) (fun k h => List.mem_append_left _ h) (by decide) (by decide) (fun z hz _ => ⟨by rw [gi_si_o _ _ _ ((show ∀ z ∈ ([100, 101, 102, 103, 105, 120, 106, 108] : List Nat), z ≠ 210 by decide) z hz)]; rw [gi_si_o _ _ _ ((show ∀ z ∈ ([100, 101, 102, 103, 105, 120, 106, 108] : List Nat), z ≠ 210 by decide) z hz)], rfl⟩) (by decide) (by decide) (by decide) (by decide) ?_
  refine b_link (ci := 6) (o := 100) 7 8 2 cls6 (by decide) tb_273 rfl (Or.inr ⟨rfl, rfl, hI⟩) hX dX6_init_61 rfl rfl rfl rfl (by decide) (fun _ => rfl) (fun _ => rfl) ?_
  refine b_aload_n 0 hX dX6_init_64 rfl rfl ?_
  refine b_new (ci := 2) (C := RX2) (T := TX2) (N := 11) 109 cls2 tw_123 tw_124 tw_73 hX dX6_init_65 rfl (by decide) (by decide) dfX2 ((((hf 109 (by decide)).si (by decide)).si (by decide)).obj rfl rfl) (by decide) (by decide) (fun q9 => ?_)
  refine b_dup hX dX6_init_68 rfl ?_
  refine b_aload_n 0 hX dX6_init_69 rfl rfl ?_
  refine b_rget (ci := 6) (o := 100) 0 9 cls6 (by decide) tb_266 rfl hX dX6_init_70 rfl rfl rfl (by decide) (by decide) (fun q10 => ?_)
  refine b_aload_n 0 hX dX6_init_73 rfl rfl ?_
  refine b_rget (ci := 6) (o := 100) 1 10 cls6 (by decide) tb_267 rfl hX dX6_init_74 rfl rfl rfl (by decide) (by decide) (fun q11 => ?_)
  refine b_ctor (q := q9) (As := [.ref 101, .ref 102]) (Vs := [.ref q10, .ref q11]) (kc_roll_109 (fun z hz => (((hf z ((show ∀ z ∈ ([109, 302, 303, 304, 310, 320, 311, 321, 312, 322, 313, 323, 314, 324, 315, 325] : List Nat), z ∈ ([100, 101, 102, 103, 105, 120, 106, 108, 202, 203, 204, 210, 220, 211, 221, 212, 222, 213, 223, 214, 224, 215, 225, 109, 302, 303, 304, 310, 320, 311, 321, 312, 322, 313, 323, 314, 324, 315, 325, 110, 121, 111, 112, 113, 130, 131, 132, 133, 134, 135, 140, 151, 152, 153, 155, 141, 161, 162, 163, 165, 142, 171, 172, 173, 175, 143, 181, 182, 183, 185, 144, 191, 192, 193, 195] : List Nat) by decide) z hz)).si ((show ∀ z ∈ ([109, 302, 303, 304, 310, 320, 311, 321, 312, 322, 313, 323, 314, 324, 315, 325] : List Nat), z ≠ 210 by decide) z hz)).si ((show ∀ z ∈ ([109, 302, 303, 304, 310, 320, 311, 321, 312, 322, 313, 323, 314, 324, 315, 325] : List Nat), z ≠ 210 by decide) z hz)))) Yok_X2_init rfl rfl tw_126 (Or.inl tw_125) hX hN dX6_init_77 rfl rfl (Nat.le_of_ble_eq_true rfl) (fun r h => by show [Value.ref (r 109), Value.ref (r 101), Value.ref (r 102)] = _; rw [h (109, q9) (List.mem_of_getElem? (i := 2) rfl), h (101, q10) (List.mem_of_getElem? (i := 1) rfl), h (102, q11) (List.mem_of_getElem? (i := 0) rfl)]) (by decide) (fun k h => List.mem_append_left _ h) (by decide) (by decide) (fun z hz _ => ⟨by rw [gi_si_o _ _ _ ((show ∀ z ∈ ([100, 101, 102, 103, 105, 120, 106, 108, 202, 203, 204, 210, 220, 211, 221, 212, 222, 213, 223, 214, 224, 215, 225, 109] : List Nat), z ≠ 310 by decide) z hz)]; rw [gi_si_o _ _ _ ((show ∀ z ∈ ([100, 101, 102, 103, 105, 120, 106, 108, 202, 203, 204, 210, 220, 211, 221, 212, 222, 213, 223, 214, 224, 215, 225, 109] : List Nat), z ≠ 310 by decide) z hz)], rfl⟩) (by decide) (by decide) (by decide) (by decide) ?_
  refine b_link (ci := 6) (o := 100) 8 11 2 cls6 (by decide) tb_274 rfl (Or.inr ⟨rfl, rfl, hI⟩) hX dX6_init_80 rfl rfl rfl rfl (by decide) (fun _ => rfl) (fun _ => rfl) ?_
  refine b_aload_n 0 hX dX6_init_83 rfl rfl ?_
  refine b_new (ci := 0) (C := RX0) (T := TX0) (N := 4) 110 cls0 tw_218 tw_219 tw_75 hX dX6_init_84 rfl (by decide) (by decide) dfX0 ((((((hf 110 (by decide)).si (by decide)).si (by decide)).si (by decide)).si (by decide)).obj rfl rfl) (by decide) (by decide) (fun q12 => ?_)
  refine b_dup hX dX6_init_87 rfl ?_
  refine b_ctor (q := q12) (As := []) (Vs := []) (kc_acts (fun z hz => (((((hf z ((show ∀ z ∈ ([110, 121] : List Nat), z ∈ ([100, 101, 102, 103, 105, 120, 106, 108, 202, 203, 204, 210, 220, 211, 221, 212, 222, 213, 223, 214, 224, 215, 225, 109, 302, 303, 304, 310, 320, 311, 321, 312, 322, 313, 323, 314, 324, 315, 325, 110, 121, 111, 112, 113, 130, 131, 132, 133, 134, 135, 140, 151, 152, 153, 155, 141, 161, 162, 163, 165, 142, 171, 172, 173, 175, 143, 181, 182, 183, 185, 144, 191, 192, 193, 195] : List Nat) by decide) z hz)).si ((show ∀ z ∈ ([110, 121] : List Nat), z ≠ 210 by decide) z hz)).si ((show ∀ z ∈ ([110, 121] : List Nat), z ≠ 210 by decide) z hz)).si ((show ∀ z ∈ ([110, 121] : List Nat), z ≠ 310 by decide) z hz)).si ((show ∀ z ∈ ([110, 121] : List Nat), z ≠ 310 by decide) z hz)))) Yok_X0_init rfl rfl tw_221 (Or.inr ⟨_, fun _ _ h => h.2.2.2.2.1⟩) hX hN dX6_init_88 rfl rfl (Nat.le_of_ble_eq_true rfl) (fun r h => by show [Value.ref (r 110)] = _; rw [h (110, q12) (List.mem_of_getElem? (i := 0) rfl)]) (by decide) (fun k h => List.mem_append_left _ h) (fun z hz => absurd hz List.not_mem_nil) (by decide) (fun _ _ _ => ⟨rfl, rfl⟩) (by decide) (by decide) (by decide) (by decide) ?_
  refine b_link (ci := 6) (o := 100) 9 12 0 cls6 (by decide) tb_275 rfl (Or.inr ⟨rfl, rfl, hI⟩) hX dX6_init_91 rfl rfl rfl rfl (by decide) (fun _ => rfl) (fun _ => rfl) ?_
  refine b_aload_n 0 hX dX6_init_94 rfl rfl ?_
  refine b_bipush (v := 6) hX dX6_init_95 rfl ?_
  refine b_newp (t := 1) (ty := .int) (n := 6) (N := 6) (a0 := (6, .inl fun _ => 0)) 111 (by decide) rfl (fun _ => rfl) (fun _ _ h => h) tw_120 (fun _ => rfl) hX dX6_init_97 rfl (by decide) (by decide) (pz_i rfl (Or.inl rfl) ((((((hf 111 (by decide)).si (by decide)).si (by decide)).si (by decide)).si (by decide)).int rfl (Or.inl rfl))) (by decide) rfl (by decide) (by decide) (by decide) (fun q13 => ?_)
  refine b_link (ci := 6) (o := 100) 10 13 0 cls6 (by decide) tb_276 rfl (Or.inr ⟨rfl, rfl, hI⟩) hX dX6_init_99 rfl rfl rfl rfl (by decide) (fun _ => rfl) (fun _ => rfl) ?_
  refine b_aload_n 0 hX dX6_init_102 rfl rfl ?_
  refine b_bipush (v := 6) hX dX6_init_103 rfl ?_
  refine b_newp (t := 1) (ty := .int) (n := 6) (N := 6) (a0 := (6, .inl fun _ => 0)) 112 (by decide) rfl (fun _ => rfl) (fun _ _ h => h) tw_120 (fun _ => rfl) hX dX6_init_105 rfl (by decide) (by decide) (pz_i rfl (Or.inl rfl) ((((((hf 112 (by decide)).si (by decide)).si (by decide)).si (by decide)).si (by decide)).int rfl (Or.inl rfl))) (by decide) rfl (by decide) (by decide) (by decide) (fun q14 => ?_)
  refine b_link (ci := 6) (o := 100) 11 14 0 cls6 (by decide) tb_277 rfl (Or.inr ⟨rfl, rfl, hI⟩) hX dX6_init_107 rfl rfl rfl rfl (by decide) (fun _ => rfl) (fun _ => rfl) ?_
  refine b_aload_n 0 hX dX6_init_110 rfl rfl ?_
  refine b_bipush (v := 6) hX dX6_init_111 rfl ?_
  refine b_bipush (v := 60) hX dX6_init_113 rfl ?_
  refine b_newm (t := 2) (ty := .long) (n := 6) (k := 60) (N := 6) (M := 60) (b := 130) 113 (by decide) (fun _ => ⟨rfl, rfl⟩) (fun _ _ h => h) (fun _ _ h => h.2.2.1) tw_265 tw_238 rfl hX hN dX6_init_115 rfl (by decide) (fun _ => rfl) (by decide) (by decide) (by decide) (fun j hj => pz_l (fun x _ => ((((((hf (130 + j) ((show ∀ j, j < 6 → 130 + j ∈ ([100, 101, 102, 103, 105, 120, 106, 108, 202, 203, 204, 210, 220, 211, 221, 212, 222, 213, 223, 214, 224, 215, 225, 109, 302, 303, 304, 310, 320, 311, 321, 312, 322, 313, 323, 314, 324, 315, 325, 110, 121, 111, 112, 113, 130, 131, 132, 133, 134, 135, 140, 151, 152, 153, 155, 141, 161, 162, 163, 165, 142, 171, 172, 173, 175, 143, 181, 182, 183, 185, 144, 191, 192, 193, 195] : List Nat) by decide) j hj)).si ((show ∀ j, j < 6 → 130 + j ≠ 210 by decide) j hj)).si ((show ∀ j, j < 6 → 130 + j ≠ 210 by decide) j hj)).si ((show ∀ j, j < 6 → 130 + j ≠ 310 by decide) j hj)).si ((show ∀ j, j < 6 → 130 + j ≠ 310 by decide) j hj))).2 x)) (by decide) (by decide) rfl rfl (by decide) (by decide) (by decide) (by decide) (by decide) (fun q15 => ?_)
  refine b_link (ci := 6) (o := 100) 12 15 0 cls6 (by decide) tb_278 rfl (Or.inr ⟨rfl, rfl, hI⟩) hX dX6_init_119 rfl rfl rfl rfl (by decide) (fun _ => rfl) (fun _ => rfl) ?_
  refine b_iconst (v := 0) hX dX6_init_122 rfl ?_
  refine b_istore_n (i := 1) hX dX6_init_123 rfl (by decide) rfl ?_
  refine b_iload_n (x := 0) 0 hX dX6_init_124 rfl rfl ?_
  refine b_iconst (v := 5) hX dX6_init_125 rfl ?_
  refine b_icmp_ge 148 hX dX6_init_126 rfl (fun h => absurd h (by decide)) (fun _ => ?_)
  refine b_aload_n 1 hX dX6_init_129 rfl rfl ?_
  refine b_rget (ci := 6) (o := 100) 5 15 cls6 (by decide) tb_271 rfl hX dX6_init_130 rfl rfl rfl (by decide) (by decide) (fun q16 => ?_)
  refine b_iload_n (x := 0) 0 hX dX6_init_133 rfl rfl ?_
  refine b_new (ci := 3) (C := RX3) (T := TX3) (N := 6) 140 cls3 tw_121 tw_240 tw_76 hX dX6_init_134 rfl (by decide) (by decide) dfX3 ((((((hf 140 (by decide)).si (by decide)).si (by decide)).si (by decide)).si (by decide)).obj rfl rfl) (by decide) (by decide) (fun q17 => ?_)
  refine b_dup hX dX6_init_137 rfl ?_
  refine b_ctor (q := q17) (As := []) (Vs := []) (kc_rules_140 (fun z hz => (((((hf z ((show ∀ z ∈ ([140, 151, 152, 153, 155] : List Nat), z ∈ ([100, 101, 102, 103, 105, 120, 106, 108, 202, 203, 204, 210, 220, 211, 221, 212, 222, 213, 223, 214, 224, 215, 225, 109, 302, 303, 304, 310, 320, 311, 321, 312, 322, 313, 323, 314, 324, 315, 325, 110, 121, 111, 112, 113, 130, 131, 132, 133, 134, 135, 140, 151, 152, 153, 155, 141, 161, 162, 163, 165, 142, 171, 172, 173, 175, 143, 181, 182, 183, 185, 144, 191, 192, 193, 195] : List Nat) by decide) z hz)).si ((show ∀ z ∈ ([140, 151, 152, 153, 155] : List Nat), z ≠ 210 by decide) z hz)).si ((show ∀ z ∈ ([140, 151, 152, 153, 155] : List Nat), z ≠ 210 by decide) z hz)).si ((show ∀ z ∈ ([140, 151, 152, 153, 155] : List Nat), z ≠ 310 by decide) z hz)).si ((show ∀ z ∈ ([140, 151, 152, 153, 155] : List Nat), z ≠ 310 by decide) z hz)))) Yok_X3_init rfl rfl tw_242 (Or.inr ⟨_, fun _ _ h => h.2.2.2.2.2.1⟩) hX hN dX6_init_138 rfl rfl (Nat.le_of_ble_eq_true rfl) (fun r h => by show [Value.ref (r 140)] = _; rw [h (140, q17) (List.mem_of_getElem? (i := 0) rfl)]) (by decide) (fun k h => List.mem_append_left _ h) (fun z hz => absurd hz List.not_mem_nil) (by decide) (fun _ _ _ => ⟨rfl, rfl⟩) (by decide) (by decide) (by decide) (by decide) ?_
  refine b_alink (ci := 3) (C := RX3) (T := TX3) (N := 6) (o := 106) (t := 4) (n := 5) (j0 := 0) (j := 0) 1 0 (by decide) hX dX6_init_141 rfl (fun _ => rfl) rfl rfl rfl rfl rfl (by decide) (by decide) (by unfold vp_in; decide) ?_
  refine b_iinc (x := 0) (v := 1) 0 hX dX6_init_142 rfl rfl (by decide) rfl ?_
  refine b_goto 124 hX dX6_init_145 rfl ?_
  refine b_iload_n (x := 1) 0 hX dX6_init_124 rfl rfl ?_
  refine b_iconst (v := 5) hX dX6_init_125 rfl ?_
  refine b_icmp_ge 148 hX dX6_init_126 rfl (fun h => absurd h (by decide)) (fun _ => ?_)
  refine b_aload_n 1 hX dX6_init_129 rfl rfl ?_
  refine b_rget (ci := 6) (o := 100) 5 17 cls6 (by decide) tb_271 rfl hX dX6_init_130 rfl rfl rfl (by decide) (by decide) (fun q18 => ?_)
  refine b_iload_n (x := 1) 0 hX dX6_init_133 rfl rfl ?_
  refine b_new (ci := 3) (C := RX3) (T := TX3) (N := 6) 141 cls3 tw_121 tw_240 tw_76 hX dX6_init_134 rfl (by decide) (by decide) dfX3 ((((((hf 141 (by decide)).si (by decide)).si (by decide)).si (by decide)).si (by decide)).obj rfl rfl) (by decide) (by decide) (fun q19 => ?_)
  refine b_dup hX dX6_init_137 rfl ?_
  refine b_ctor (q := q19) (As := []) (Vs := []) (kc_rules_141 (fun z hz => (((((hf z ((show ∀ z ∈ ([141, 161, 162, 163, 165] : List Nat), z ∈ ([100, 101, 102, 103, 105, 120, 106, 108, 202, 203, 204, 210, 220, 211, 221, 212, 222, 213, 223, 214, 224, 215, 225, 109, 302, 303, 304, 310, 320, 311, 321, 312, 322, 313, 323, 314, 324, 315, 325, 110, 121, 111, 112, 113, 130, 131, 132, 133, 134, 135, 140, 151, 152, 153, 155, 141, 161, 162, 163, 165, 142, 171, 172, 173, 175, 143, 181, 182, 183, 185, 144, 191, 192, 193, 195] : List Nat) by decide) z hz)).si ((show ∀ z ∈ ([141, 161, 162, 163, 165] : List Nat), z ≠ 210 by decide) z hz)).si ((show ∀ z ∈ ([141, 161, 162, 163, 165] : List Nat), z ≠ 210 by decide) z hz)).si ((show ∀ z ∈ ([141, 161, 162, 163, 165] : List Nat), z ≠ 310 by decide) z hz)).si ((show ∀ z ∈ ([141, 161, 162, 163, 165] : List Nat), z ≠ 310 by decide) z hz)))) Yok_X3_init rfl rfl tw_242 (Or.inr ⟨_, fun _ _ h => h.2.2.2.2.2.1⟩) hX hN dX6_init_138 rfl rfl (Nat.le_of_ble_eq_true rfl) (fun r h => by show [Value.ref (r 141)] = _; rw [h (141, q19) (List.mem_of_getElem? (i := 0) rfl)]) (by decide) (fun k h => List.mem_append_left _ h) (fun z hz => absurd hz List.not_mem_nil) (by decide) (fun _ _ _ => ⟨rfl, rfl⟩) (by decide) (by decide) (by decide) (by decide) ?_
  refine b_alink (ci := 3) (C := RX3) (T := TX3) (N := 6) (o := 106) (t := 4) (n := 5) (j0 := 1) (j := 1) 1 0 (by decide) hX dX6_init_141 rfl (fun _ => rfl) rfl rfl rfl rfl rfl (by decide) (by decide) (by unfold vp_in; decide) ?_
  refine b_iinc (x := 1) (v := 2) 0 hX dX6_init_142 rfl rfl (by decide) rfl ?_
  refine b_goto 124 hX dX6_init_145 rfl ?_
  refine b_iload_n (x := 2) 0 hX dX6_init_124 rfl rfl ?_
  refine b_iconst (v := 5) hX dX6_init_125 rfl ?_
  refine b_icmp_ge 148 hX dX6_init_126 rfl (fun h => absurd h (by decide)) (fun _ => ?_)
  refine b_aload_n 1 hX dX6_init_129 rfl rfl ?_
  refine b_rget (ci := 6) (o := 100) 5 19 cls6 (by decide) tb_271 rfl hX dX6_init_130 rfl rfl rfl (by decide) (by decide) (fun q20 => ?_)
  refine b_iload_n (x := 2) 0 hX dX6_init_133 rfl rfl ?_
  refine b_new (ci := 3) (C := RX3) (T := TX3) (N := 6) 142 cls3 tw_121 tw_240 tw_76 hX dX6_init_134 rfl (by decide) (by decide) dfX3 ((((((hf 142 (by decide)).si (by decide)).si (by decide)).si (by decide)).si (by decide)).obj rfl rfl) (by decide) (by decide) (fun q21 => ?_)
  refine b_dup hX dX6_init_137 rfl ?_
  refine b_ctor (q := q21) (As := []) (Vs := []) (kc_rules_142 (fun z hz => (((((hf z ((show ∀ z ∈ ([142, 171, 172, 173, 175] : List Nat), z ∈ ([100, 101, 102, 103, 105, 120, 106, 108, 202, 203, 204, 210, 220, 211, 221, 212, 222, 213, 223, 214, 224, 215, 225, 109, 302, 303, 304, 310, 320, 311, 321, 312, 322, 313, 323, 314, 324, 315, 325, 110, 121, 111, 112, 113, 130, 131, 132, 133, 134, 135, 140, 151, 152, 153, 155, 141, 161, 162, 163, 165, 142, 171, 172, 173, 175, 143, 181, 182, 183, 185, 144, 191, 192, 193, 195] : List Nat) by decide) z hz)).si ((show ∀ z ∈ ([142, 171, 172, 173, 175] : List Nat), z ≠ 210 by decide) z hz)).si ((show ∀ z ∈ ([142, 171, 172, 173, 175] : List Nat), z ≠ 210 by decide) z hz)).si ((show ∀ z ∈ ([142, 171, 172, 173, 175] : List Nat), z ≠ 310 by decide) z hz)).si ((show ∀ z ∈ ([142, 171, 172, 173, 175] : List Nat), z ≠ 310 by decide) z hz)))) Yok_X3_init rfl rfl tw_242 (Or.inr ⟨_, fun _ _ h => h.2.2.2.2.2.1⟩) hX hN dX6_init_138 rfl rfl (Nat.le_of_ble_eq_true rfl) (fun r h => by show [Value.ref (r 142)] = _; rw [h (142, q21) (List.mem_of_getElem? (i := 0) rfl)]) (by decide) (fun k h => List.mem_append_left _ h) (fun z hz => absurd hz List.not_mem_nil) (by decide) (fun _ _ _ => ⟨rfl, rfl⟩) (by decide) (by decide) (by decide) (by decide) ?_
  refine b_alink (ci := 3) (C := RX3) (T := TX3) (N := 6) (o := 106) (t := 4) (n := 5) (j0 := 2) (j := 2) 1 0 (by decide) hX dX6_init_141 rfl (fun _ => rfl) rfl rfl rfl rfl rfl (by decide) (by decide) (by unfold vp_in; decide) ?_
  refine b_iinc (x := 2) (v := 3) 0 hX dX6_init_142 rfl rfl (by decide) rfl ?_
  refine b_goto 124 hX dX6_init_145 rfl ?_
  refine b_iload_n (x := 3) 0 hX dX6_init_124 rfl rfl ?_
  refine b_iconst (v := 5) hX dX6_init_125 rfl ?_
  refine b_icmp_ge 148 hX dX6_init_126 rfl (fun h => absurd h (by decide)) (fun _ => ?_)
  refine b_aload_n 1 hX dX6_init_129 rfl rfl ?_
  refine b_rget (ci := 6) (o := 100) 5 21 cls6 (by decide) tb_271 rfl hX dX6_init_130 rfl rfl rfl (by decide) (by decide) (fun q22 => ?_)
  refine b_iload_n (x := 3) 0 hX dX6_init_133 rfl rfl ?_
  refine b_new (ci := 3) (C := RX3) (T := TX3) (N := 6) 143 cls3 tw_121 tw_240 tw_76 hX dX6_init_134 rfl (by decide) (by decide) dfX3 ((((((hf 143 (by decide)).si (by decide)).si (by decide)).si (by decide)).si (by decide)).obj rfl rfl) (by decide) (by decide) (fun q23 => ?_)
  refine b_dup hX dX6_init_137 rfl ?_
  refine b_ctor (q := q23) (As := []) (Vs := []) (kc_rules_143 (fun z hz => (((((hf z ((show ∀ z ∈ ([143, 181, 182, 183, 185] : List Nat), z ∈ ([100, 101, 102, 103, 105, 120, 106, 108, 202, 203, 204, 210, 220, 211, 221, 212, 222, 213, 223, 214, 224, 215, 225, 109, 302, 303, 304, 310, 320, 311, 321, 312, 322, 313, 323, 314, 324, 315, 325, 110, 121, 111, 112, 113, 130, 131, 132, 133, 134, 135, 140, 151, 152, 153, 155, 141, 161, 162, 163, 165, 142, 171, 172, 173, 175, 143, 181, 182, 183, 185, 144, 191, 192, 193, 195] : List Nat) by decide) z hz)).si ((show ∀ z ∈ ([143, 181, 182, 183, 185] : List Nat), z ≠ 210 by decide) z hz)).si ((show ∀ z ∈ ([143, 181, 182, 183, 185] : List Nat), z ≠ 210 by decide) z hz)).si ((show ∀ z ∈ ([143, 181, 182, 183, 185] : List Nat), z ≠ 310 by decide) z hz)).si ((show ∀ z ∈ ([143, 181, 182, 183, 185] : List Nat), z ≠ 310 by decide) z hz)))) Yok_X3_init rfl rfl tw_242 (Or.inr ⟨_, fun _ _ h => h.2.2.2.2.2.1⟩) hX hN dX6_init_138 rfl rfl (Nat.le_of_ble_eq_true rfl) (fun r h => by show [Value.ref (r 143)] = _; rw [h (143, q23) (List.mem_of_getElem? (i := 0) rfl)]) (by decide) (fun k h => List.mem_append_left _ h) (fun z hz => absurd hz List.not_mem_nil) (by decide) (fun _ _ _ => ⟨rfl, rfl⟩) (by decide) (by decide) (by decide) (by decide) ?_
  refine b_alink (ci := 3) (C := RX3) (T := TX3) (N := 6) (o := 106) (t := 4) (n := 5) (j0 := 3) (j := 3) 1 0 (by decide) hX dX6_init_141 rfl (fun _ => rfl) rfl rfl rfl rfl rfl (by decide) (by decide) (by unfold vp_in; decide) ?_
  refine b_iinc (x := 3) (v := 4) 0 hX dX6_init_142 rfl rfl (by decide) rfl ?_
  refine b_goto 124 hX dX6_init_145 rfl ?_
  refine b_iload_n (x := 4) 0 hX dX6_init_124 rfl rfl ?_
  refine b_iconst (v := 5) hX dX6_init_125 rfl ?_
  refine b_icmp_ge 148 hX dX6_init_126 rfl (fun h => absurd h (by decide)) (fun _ => ?_)
  refine b_aload_n 1 hX dX6_init_129 rfl rfl ?_
  refine b_rget (ci := 6) (o := 100) 5 23 cls6 (by decide) tb_271 rfl hX dX6_init_130 rfl rfl rfl (by decide) (by decide) (fun q24 => ?_)
  refine b_iload_n (x := 4) 0 hX dX6_init_133 rfl rfl ?_
  refine b_new (ci := 3) (C := RX3) (T := TX3) (N := 6) 144 cls3 tw_121 tw_240 tw_76 hX dX6_init_134 rfl (by decide) (by decide) dfX3 ((((((hf 144 (by decide)).si (by decide)).si (by decide)).si (by decide)).si (by decide)).obj rfl rfl) (by decide) (by decide) (fun q25 => ?_)
  refine b_dup hX dX6_init_137 rfl ?_
  refine b_ctor (q := q25) (As := []) (Vs := []) (kc_rules_144 (fun z hz => (((((hf z ((show ∀ z ∈ ([144, 191, 192, 193, 195] : List Nat), z ∈ ([100, 101, 102, 103, 105, 120, 106, 108, 202, 203, 204, 210, 220, 211, 221, 212, 222, 213, 223, 214, 224, 215, 225, 109, 302, 303, 304, 310, 320, 311, 321, 312, 322, 313, 323, 314, 324, 315, 325, 110, 121, 111, 112, 113, 130, 131, 132, 133, 134, 135, 140, 151, 152, 153, 155, 141, 161, 162, 163, 165, 142, 171, 172, 173, 175, 143, 181, 182, 183, 185, 144, 191, 192, 193, 195] : List Nat) by decide) z hz)).si ((show ∀ z ∈ ([144, 191, 192, 193, 195] : List Nat), z ≠ 210 by decide) z hz)).si ((show ∀ z ∈ ([144, 191, 192, 193, 195] : List Nat), z ≠ 210 by decide) z hz)).si ((show ∀ z ∈ ([144, 191, 192, 193, 195] : List Nat), z ≠ 310 by decide) z hz)).si ((show ∀ z ∈ ([144, 191, 192, 193, 195] : List Nat), z ≠ 310 by decide) z hz)))) Yok_X3_init rfl rfl tw_242 (Or.inr ⟨_, fun _ _ h => h.2.2.2.2.2.1⟩) hX hN dX6_init_138 rfl rfl (Nat.le_of_ble_eq_true rfl) (fun r h => by show [Value.ref (r 144)] = _; rw [h (144, q25) (List.mem_of_getElem? (i := 0) rfl)]) (by decide) (fun k h => List.mem_append_left _ h) (fun z hz => absurd hz List.not_mem_nil) (by decide) (fun _ _ _ => ⟨rfl, rfl⟩) (by decide) (by decide) (by decide) (by decide) ?_
  refine b_alink (ci := 3) (C := RX3) (T := TX3) (N := 6) (o := 106) (t := 4) (n := 5) (j0 := 4) (j := 4) 1 0 (by decide) hX dX6_init_141 rfl (fun _ => rfl) rfl rfl rfl rfl rfl (by decide) (by decide) (by unfold vp_in; decide) ?_
  refine b_iinc (x := 4) (v := 5) 0 hX dX6_init_142 rfl rfl (by decide) rfl ?_
  refine b_goto 124 hX dX6_init_145 rfl ?_
  refine b_iload_n (x := 5) 0 hX dX6_init_124 rfl rfl ?_
  refine b_iconst (v := 5) hX dX6_init_125 rfl ?_
  refine b_icmp_ge 148 hX dX6_init_126 rfl (fun _ => ?_) (fun h => absurd (by decide) h)
  refine b_iconst (v := 0) hX dX6_init_148 rfl ?_
  refine b_istore_n (i := 1) hX dX6_init_149 rfl (by decide) rfl ?_
  refine b_iload_n (x := 0) 0 hX dX6_init_150 rfl rfl ?_
  refine b_bipush (v := 6) hX dX6_init_151 rfl ?_
  refine b_icmp_ge 169 hX dX6_init_153 rfl (fun h => absurd h (by decide)) (fun _ => ?_)
  refine b_aload_n 1 hX dX6_init_156 rfl rfl ?_
  refine b_rget (ci := 6) (o := 100) 10 25 cls6 (by decide) tb_276 rfl hX dX6_init_157 rfl rfl rfl (by decide) (by decide) (fun q26 => ?_)
  refine b_iload_n (x := 0) 0 hX dX6_init_160 rfl rfl ?_
  refine b_iconst (v := -1) hX dX6_init_161 rfl ?_
  refine b_iast (o := 111) (n := 6) (j := 0) (x := -1) 0 hX dX6_init_162 rfl rfl (by decide) (by unfold vp_in; decide) ?_
  refine b_iinc (x := 0) (v := 1) 0 hX dX6_init_163 rfl rfl (by decide) rfl ?_
  refine b_goto 150 hX dX6_init_166 rfl ?_
  refine b_iload_n (x := 1) 0 hX dX6_init_150 rfl rfl ?_
  refine b_bipush (v := 6) hX dX6_init_151 rfl ?_
  refine b_icmp_ge 169 hX dX6_init_153 rfl (fun h => absurd h (by decide)) (fun _ => ?_)
  refine b_aload_n 1 hX dX6_init_156 rfl rfl ?_
  refine b_rget (ci := 6) (o := 100) 10 26 cls6 (by decide) tb_276 rfl hX dX6_init_157 rfl rfl rfl (by decide) (by decide) (fun q27 => ?_)
  refine b_iload_n (x := 1) 0 hX dX6_init_160 rfl rfl ?_
  refine b_iconst (v := -1) hX dX6_init_161 rfl ?_
  refine b_iast (o := 111) (n := 6) (j := 1) (x := -1) 0 hX dX6_init_162 rfl rfl (by decide) (by unfold vp_in; decide) ?_
  refine b_iinc (x := 1) (v := 2) 0 hX dX6_init_163 rfl rfl (by decide) rfl ?_
  refine b_goto 150 hX dX6_init_166 rfl ?_
  refine b_iload_n (x := 2) 0 hX dX6_init_150 rfl rfl ?_
  refine b_bipush (v := 6) hX dX6_init_151 rfl ?_
  refine b_icmp_ge 169 hX dX6_init_153 rfl (fun h => absurd h (by decide)) (fun _ => ?_)
  refine b_aload_n 1 hX dX6_init_156 rfl rfl ?_
  refine b_rget (ci := 6) (o := 100) 10 27 cls6 (by decide) tb_276 rfl hX dX6_init_157 rfl rfl rfl (by decide) (by decide) (fun q28 => ?_)
  refine b_iload_n (x := 2) 0 hX dX6_init_160 rfl rfl ?_
  refine b_iconst (v := -1) hX dX6_init_161 rfl ?_
  refine b_iast (o := 111) (n := 6) (j := 2) (x := -1) 0 hX dX6_init_162 rfl rfl (by decide) (by unfold vp_in; decide) ?_
  refine b_iinc (x := 2) (v := 3) 0 hX dX6_init_163 rfl rfl (by decide) rfl ?_
  refine b_goto 150 hX dX6_init_166 rfl ?_
  refine b_iload_n (x := 3) 0 hX dX6_init_150 rfl rfl ?_
  refine b_bipush (v := 6) hX dX6_init_151 rfl ?_
  refine b_icmp_ge 169 hX dX6_init_153 rfl (fun h => absurd h (by decide)) (fun _ => ?_)
  refine b_aload_n 1 hX dX6_init_156 rfl rfl ?_
  refine b_rget (ci := 6) (o := 100) 10 28 cls6 (by decide) tb_276 rfl hX dX6_init_157 rfl rfl rfl (by decide) (by decide) (fun q29 => ?_)
  refine b_iload_n (x := 3) 0 hX dX6_init_160 rfl rfl ?_
  refine b_iconst (v := -1) hX dX6_init_161 rfl ?_
  refine b_iast (o := 111) (n := 6) (j := 3) (x := -1) 0 hX dX6_init_162 rfl rfl (by decide) (by unfold vp_in; decide) ?_
  refine b_iinc (x := 3) (v := 4) 0 hX dX6_init_163 rfl rfl (by decide) rfl ?_
  refine b_goto 150 hX dX6_init_166 rfl ?_
  refine b_iload_n (x := 4) 0 hX dX6_init_150 rfl rfl ?_
  refine b_bipush (v := 6) hX dX6_init_151 rfl ?_
  refine b_icmp_ge 169 hX dX6_init_153 rfl (fun h => absurd h (by decide)) (fun _ => ?_)
  refine b_aload_n 1 hX dX6_init_156 rfl rfl ?_
  refine b_rget (ci := 6) (o := 100) 10 29 cls6 (by decide) tb_276 rfl hX dX6_init_157 rfl rfl rfl (by decide) (by decide) (fun q30 => ?_)
  refine b_iload_n (x := 4) 0 hX dX6_init_160 rfl rfl ?_
  refine b_iconst (v := -1) hX dX6_init_161 rfl ?_
  refine b_iast (o := 111) (n := 6) (j := 4) (x := -1) 0 hX dX6_init_162 rfl rfl (by decide) (by unfold vp_in; decide) ?_
  refine b_iinc (x := 4) (v := 5) 0 hX dX6_init_163 rfl rfl (by decide) rfl ?_
  refine b_goto 150 hX dX6_init_166 rfl ?_
  refine b_iload_n (x := 5) 0 hX dX6_init_150 rfl rfl ?_
  refine b_bipush (v := 6) hX dX6_init_151 rfl ?_
  refine b_icmp_ge 169 hX dX6_init_153 rfl (fun h => absurd h (by decide)) (fun _ => ?_)
  refine b_aload_n 1 hX dX6_init_156 rfl rfl ?_
  refine b_rget (ci := 6) (o := 100) 10 30 cls6 (by decide) tb_276 rfl hX dX6_init_157 rfl rfl rfl (by decide) (by decide) (fun q31 => ?_)
  refine b_iload_n (x := 5) 0 hX dX6_init_160 rfl rfl ?_
  refine b_iconst (v := -1) hX dX6_init_161 rfl ?_
  refine b_iast (o := 111) (n := 6) (j := 5) (x := -1) 0 hX dX6_init_162 rfl rfl (by decide) (by unfold vp_in; decide) ?_
  refine b_iinc (x := 5) (v := 6) 0 hX dX6_init_163 rfl rfl (by decide) rfl ?_
  refine b_goto 150 hX dX6_init_166 rfl ?_
  refine b_iload_n (x := 6) 0 hX dX6_init_150 rfl rfl ?_
  refine b_bipush (v := 6) hX dX6_init_151 rfl ?_
  refine b_icmp_ge 169 hX dX6_init_153 rfl (fun _ => ?_) (fun h => absurd (by decide) h)
  exact b_vretB hX dX6_init_169 (by decide +kernel) rfl rfl rfl (fun z hz => by simp only [List.mem_cons, List.not_mem_nil, or_false] at hz; rcases hz with rfl <;> simp)
