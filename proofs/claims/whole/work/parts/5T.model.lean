/-! the constructor of PleasToIssueModel -/
theorem isdR (z : Nat) (hz : z ∈ idsR) (k : Nat) : isd z k = false := by
  have h := (show ∀ z ∈ idsR, (sh z = (0, 7)) ∨ (1 ≤ (sh z).1 ∧ (sh z).1 ≤ 3) by decide +kernel) z hz
  rcases h with h | h
  · have e : isd z k = isd 0 k := by simp only [isd, h, show sh 0 = (0, 7) from rfl]
    rw [e]
    by_cases hk : k < 51
    · exact (show ∀ k, k < 51 → isd 0 k = false by decide +kernel) k hk
    · have h51 : ¬ k < fn 7 := hk
      simp [isd, show sh 0 = (0, 7) from rfl, h51]
  · have h0 : ¬ (sh z).1 = 0 := by omega
    have h4 : ¬ (sh z).1 = 4 := by omega
    simp [isd, h0, h4]
def emp (σ : St) : St := si (si (si (si (si (si (si (si (si (si σ 0 26 0) 28 0 1) 29 0 0) 30 0 1) 31 0 0) 32 0 0) 33 0 0) 34 0 0) 35 0 0) 36 0 0
theorem tw_914 : Cond.methodLink RX7 149 Lib.objectInit ∈ TB := TB_in (List.mem_of_getElem? (i := 914) (by decide +kernel)) (by decide +kernel)
theorem tw_1073 : Cond.arrayClass .boolean ∈ TB := TB_in (List.mem_of_getElem? (i := 1073) (by decide +kernel)) (by decide +kernel)
set_option maxHeartbeats 4000000 in
theorem kc_model {σ : St} (hf : ∀ z, z ∈ ([0, 1, 2, 3, 4, 5, 6, 7, 12, 13, 14, 15, 16, 17, 18, 19, 20, 27, 28, 29, 30, 31, 32, 33, 34, 35, 36, 37, 38, 39, 42, 43, 44, 46, 47, 48, 49, 50] : List Nat) → fresh σ z) : BE 4 37 2006 Y_X7_init [.ref 0] [] 0 [1, 2, 3, 4, 5, 6, 7, 12, 13, 14, 15, 16, 17, 18, 19, 20, 27, 28, 29, 30, 31, 32, 33, 34, 35, 36, 37, 38, 39, 42, 43, 44, 46, 47, 48, 49, 50] σ (emp (si (si (si (si (si (si (si (si (si (si (si (si (si (si (si (si (si (si (si (si (si (si (si (si (si (si (si (si (si (si (si (si (si (si σ 0 0 (0)) 0 8 (0)) 0 9 (0)) 0 10 (0)) 0 11 (0)) 0 21 (0)) 0 22 (0)) 0 23 (0)) 0 24 (0)) 0 25 (-1)) 0 26 (0)) 38 0 (10)) 38 1 (20)) 38 2 (21)) 38 3 (22)) 38 4 (23)) 38 5 (24)) 38 6 (30)) 38 7 (40)) 38 8 (50)) 38 9 (51)) 38 10 (52)) 38 11 (53)) 38 12 (54)) 38 13 (60)) 0 40 (0)) 0 41 (0)) 0 45 (0)) 47 0 (-1)) 47 1 (-1)) 47 2 (-1)) 47 3 (-1)) 47 4 (-1)) 47 5 (-1))) := by
  refine BE_mk rfl rfl (Nat.le_of_ble_eq_true rfl) (Bc_fresh (by decide +kernel) (fun z hz => hf z (List.mem_cons.mpr (Or.inl (List.mem_singleton.mp hz))))) (Bc_of (by decide +kernel) (fun z hz k hk => absurd hk (by rw [(isdR z hz k)]; decide))) (fun X hX hN hI => ?_)
  refine b_aload_n 0 hX dX7_init_0 rfl rfl ?_
  refine b_objinit hX dX7_init_1 tw_914 tw_93 tw_94 (by decide) (by decide) rfl ?_
  refine b_aload_n 0 hX dX7_init_4 rfl rfl ?_
  refine b_iconst (v := 0) hX dX7_init_5 rfl ?_
  refine b_iput (ci := 7) (o := 0) 0 0 cls7 (by decide) tb_919 rfl (Or.inl rfl) hX dX7_init_6 rfl rfl rfl (by decide) rfl rfl ?_
  refine b_aload_n 0 hX dX7_init_9 rfl rfl ?_
  refine b_bipush (v := 6) hX dX7_init_10 rfl ?_
  refine b_newp (t := 1) (ty := .int) (n := 6) (N := 6) (a0 := (6, .inl fun _ => 0)) 1 (by decide) rfl (fun _ => rfl) (fun _ _ h => h) tw_120 (fun _ => rfl) hX dX7_init_12 rfl (by decide) (by decide) (pz_i rfl (Or.inl rfl) (((hf 1 (by decide)).si (by decide)).int rfl (Or.inl rfl))) (by decide) rfl (by decide) (by decide) (by decide) (fun q1 => ?_)
  refine b_link (ci := 7) (o := 0) 1 1 0 cls7 (by decide) tb_920 rfl (Or.inr ⟨rfl, rfl, hI⟩) hX dX7_init_14 rfl rfl rfl rfl (by decide) (fun _ => rfl) (fun _ => rfl) ?_
  refine b_aload_n 0 hX dX7_init_17 rfl rfl ?_
  refine b_bipush (v := 6) hX dX7_init_18 rfl ?_
  refine b_newp (t := 1) (ty := .int) (n := 6) (N := 6) (a0 := (6, .inl fun _ => 0)) 2 (by decide) rfl (fun _ => rfl) (fun _ _ h => h) tw_120 (fun _ => rfl) hX dX7_init_20 rfl (by decide) (by decide) (pz_i rfl (Or.inl rfl) (((hf 2 (by decide)).si (by decide)).int rfl (Or.inl rfl))) (by decide) rfl (by decide) (by decide) (by decide) (fun q2 => ?_)
  refine b_link (ci := 7) (o := 0) 2 2 0 cls7 (by decide) tb_921 rfl (Or.inr ⟨rfl, rfl, hI⟩) hX dX7_init_22 rfl rfl rfl rfl (by decide) (fun _ => rfl) (fun _ => rfl) ?_
  refine b_aload_n 0 hX dX7_init_25 rfl rfl ?_
  refine b_iconst (v := 4) hX dX7_init_26 rfl ?_
  refine b_newp (t := 1) (ty := .int) (n := 4) (N := 4) (a0 := (4, .inl fun _ => 0)) 3 (by decide) rfl (fun _ => rfl) (fun _ _ h => h) tw_120 (fun _ => rfl) hX dX7_init_27 rfl (by decide) (by decide) (pz_i rfl (Or.inl rfl) (((hf 3 (by decide)).si (by decide)).int rfl (Or.inl rfl))) (by decide) rfl (by decide) (by decide) (by decide) (fun q3 => ?_)
  refine b_link (ci := 7) (o := 0) 3 3 0 cls7 (by decide) tb_922 rfl (Or.inr ⟨rfl, rfl, hI⟩) hX dX7_init_29 rfl rfl rfl rfl (by decide) (fun _ => rfl) (fun _ => rfl) ?_
  refine b_aload_n 0 hX dX7_init_32 rfl rfl ?_
  refine b_bipush (v := 24) hX dX7_init_33 rfl ?_
  refine b_newp (t := 1) (ty := .int) (n := 24) (N := 24) (a0 := (24, .inl fun _ => 0)) 4 (by decide) rfl (fun _ => rfl) (fun _ _ h => h) tw_120 (fun _ => rfl) hX dX7_init_35 rfl (by decide) (by decide) (pz_i rfl (Or.inl rfl) (((hf 4 (by decide)).si (by decide)).int rfl (Or.inl rfl))) (by decide) rfl (by decide) (by decide) (by decide) (fun q4 => ?_)
  refine b_link (ci := 7) (o := 0) 4 4 0 cls7 (by decide) tb_923 rfl (Or.inr ⟨rfl, rfl, hI⟩) hX dX7_init_37 rfl rfl rfl rfl (by decide) (fun _ => rfl) (fun _ => rfl) ?_
  refine b_aload_n 0 hX dX7_init_40 rfl rfl ?_
  refine b_bipush (v := 24) hX dX7_init_41 rfl ?_
  refine b_newp (t := 1) (ty := .int) (n := 24) (N := 24) (a0 := (24, .inl fun _ => 0)) 5 (by decide) rfl (fun _ => rfl) (fun _ _ h => h) tw_120 (fun _ => rfl) hX dX7_init_43 rfl (by decide) (by decide) (pz_i rfl (Or.inl rfl) (((hf 5 (by decide)).si (by decide)).int rfl (Or.inl rfl))) (by decide) rfl (by decide) (by decide) (by decide) (fun q5 => ?_)
  refine b_link (ci := 7) (o := 0) 5 5 0 cls7 (by decide) tb_924 rfl (Or.inr ⟨rfl, rfl, hI⟩) hX dX7_init_45 rfl rfl rfl rfl (by decide) (fun _ => rfl) (fun _ => rfl) ?_
  refine b_aload_n 0 hX dX7_init_48 rfl rfl ?_
  refine b_bipush (v := 24) hX dX7_init_49 rfl ?_
  refine b_newp (t := 1) (ty := .int) (n := 24) (N := 24) (a0 := (24, .inl fun _ => 0)) 6 (by decide) rfl (fun _ => rfl) (fun _ _ h => h) tw_120 (fun _ => rfl) hX dX7_init_51 rfl (by decide) (by decide) (pz_i rfl (Or.inl rfl) (((hf 6 (by decide)).si (by decide)).int rfl (Or.inl rfl))) (by decide) rfl (by decide) (by decide) (by decide) (fun q6 => ?_)
  refine b_link (ci := 7) (o := 0) 6 6 0 cls7 (by decide) tb_925 rfl (Or.inr ⟨rfl, rfl, hI⟩) hX dX7_init_53 rfl rfl rfl rfl (by decide) (fun _ => rfl) (fun _ => rfl) ?_
  refine b_aload_n 0 hX dX7_init_56 rfl rfl ?_
  refine b_sipush (v := 384) hX dX7_init_57 rfl ?_
  refine b_newp (t := 3) (ty := .boolean) (n := 384) (N := 384) (a0 := (384, .inl fun _ => 0)) 7 (by decide) rfl (fun _ => rfl) (fun _ _ h => h) tw_1073 (fun _ => rfl) hX dX7_init_60 rfl (by decide) (by decide) (pz_i rfl (Or.inr rfl) (((hf 7 (by decide)).si (by decide)).int rfl (Or.inr rfl))) (by decide) rfl (by decide) (by decide) (by decide) (fun q7 => ?_)
  refine b_link (ci := 7) (o := 0) 7 7 0 cls7 (by decide) tb_926 rfl (Or.inr ⟨rfl, rfl, hI⟩) hX dX7_init_62 rfl rfl rfl rfl (by decide) (fun _ => rfl) (fun _ => rfl) ?_
  refine b_aload_n 0 hX dX7_init_65 rfl rfl ?_
  refine b_iconst (v := 0) hX dX7_init_66 rfl ?_
  refine b_iput (ci := 7) (o := 0) 8 7 cls7 (by decide) tb_927 rfl (Or.inl rfl) hX dX7_init_67 rfl rfl rfl (by decide) rfl rfl ?_
  refine b_aload_n 0 hX dX7_init_70 rfl rfl ?_
  refine b_iconst (v := 0) hX dX7_init_71 rfl ?_
  refine b_iput (ci := 7) (o := 0) 9 7 cls7 (by decide) tb_928 rfl (Or.inl rfl) hX dX7_init_72 rfl rfl rfl (by decide) rfl rfl ?_
  refine b_aload_n 0 hX dX7_init_75 rfl rfl ?_
  refine b_iconst (v := 0) hX dX7_init_76 rfl ?_
  refine b_iput (ci := 7) (o := 0) 10 7 cls7 (by decide) tb_929 rfl (Or.inl rfl) hX dX7_init_77 rfl rfl rfl (by decide) rfl rfl ?_
  refine b_aload_n 0 hX dX7_init_80 rfl rfl ?_
  refine b_iconst (v := 0) hX dX7_init_81 rfl ?_
  refine b_iput (ci := 7) (o := 0) 11 7 cls7 (by decide) tb_930 rfl (Or.inl rfl) hX dX7_init_82 rfl rfl rfl (by decide) rfl rfl ?_
  refine b_aload_n 0 hX dX7_init_85 rfl rfl ?_
  refine b_bipush (v := 100) hX dX7_init_86 rfl ?_
  refine b_newp (t := 1) (ty := .int) (n := 100) (N := 100) (a0 := (100, .inl fun _ => 0)) 12 (by decide) rfl (fun _ => rfl) (fun _ _ h => h) tw_120 (fun _ => rfl) hX dX7_init_88 rfl (by decide) (by decide) (pz_i rfl (Or.inl rfl) (((((((hf 12 (by decide)).si (by decide)).si (by decide)).si (by decide)).si (by decide)).si (by decide)).int rfl (Or.inl rfl))) (by decide) rfl (by decide) (by decide) (by decide) (fun q8 => ?_)
  refine b_link (ci := 7) (o := 0) 12 8 0 cls7 (by decide) tb_931 rfl (Or.inr ⟨rfl, rfl, hI⟩) hX dX7_init_90 rfl rfl rfl rfl (by decide) (fun _ => rfl) (fun _ => rfl) ?_
  refine b_aload_n 0 hX dX7_init_93 rfl rfl ?_
  refine b_iconst (v := 5) hX dX7_init_94 rfl ?_
  refine b_newp (t := 1) (ty := .int) (n := 5) (N := 5) (a0 := (5, .inl fun _ => 0)) 13 (by decide) rfl (fun _ => rfl) (fun _ _ h => h) tw_120 (fun _ => rfl) hX dX7_init_95 rfl (by decide) (by decide) (pz_i rfl (Or.inl rfl) (((((((hf 13 (by decide)).si (by decide)).si (by decide)).si (by decide)).si (by decide)).si (by decide)).int rfl (Or.inl rfl))) (by decide) rfl (by decide) (by decide) (by decide) (fun q9 => ?_)
  refine b_link (ci := 7) (o := 0) 13 9 0 cls7 (by decide) tb_932 rfl (Or.inr ⟨rfl, rfl, hI⟩) hX dX7_init_97 rfl rfl rfl rfl (by decide) (fun _ => rfl) (fun _ => rfl) ?_
  refine b_aload_n 0 hX dX7_init_100 rfl rfl ?_
  refine b_bipush (v := 30) hX dX7_init_101 rfl ?_
  refine b_newp (t := 1) (ty := .int) (n := 30) (N := 30) (a0 := (30, .inl fun _ => 0)) 14 (by decide) rfl (fun _ => rfl) (fun _ _ h => h) tw_120 (fun _ => rfl) hX dX7_init_103 rfl (by decide) (by decide) (pz_i rfl (Or.inl rfl) (((((((hf 14 (by decide)).si (by decide)).si (by decide)).si (by decide)).si (by decide)).si (by decide)).int rfl (Or.inl rfl))) (by decide) rfl (by decide) (by decide) (by decide) (fun q10 => ?_)
  refine b_link (ci := 7) (o := 0) 14 10 0 cls7 (by decide) tb_933 rfl (Or.inr ⟨rfl, rfl, hI⟩) hX dX7_init_105 rfl rfl rfl rfl (by decide) (fun _ => rfl) (fun _ => rfl) ?_
  refine b_aload_n 0 hX dX7_init_108 rfl rfl ?_
  refine b_bipush (v := 30) hX dX7_init_109 rfl ?_
  refine b_newp (t := 1) (ty := .int) (n := 30) (N := 30) (a0 := (30, .inl fun _ => 0)) 15 (by decide) rfl (fun _ => rfl) (fun _ _ h => h) tw_120 (fun _ => rfl) hX dX7_init_111 rfl (by decide) (by decide) (pz_i rfl (Or.inl rfl) (((((((hf 15 (by decide)).si (by decide)).si (by decide)).si (by decide)).si (by decide)).si (by decide)).int rfl (Or.inl rfl))) (by decide) rfl (by decide) (by decide) (by decide) (fun q11 => ?_)
  refine b_link (ci := 7) (o := 0) 15 11 0 cls7 (by decide) tb_934 rfl (Or.inr ⟨rfl, rfl, hI⟩) hX dX7_init_113 rfl rfl rfl rfl (by decide) (fun _ => rfl) (fun _ => rfl) ?_
  refine b_aload_n 0 hX dX7_init_116 rfl rfl ?_
  refine b_bipush (v := 30) hX dX7_init_117 rfl ?_
  refine b_newp (t := 1) (ty := .int) (n := 30) (N := 30) (a0 := (30, .inl fun _ => 0)) 16 (by decide) rfl (fun _ => rfl) (fun _ _ h => h) tw_120 (fun _ => rfl) hX dX7_init_119 rfl (by decide) (by decide) (pz_i rfl (Or.inl rfl) (((((((hf 16 (by decide)).si (by decide)).si (by decide)).si (by decide)).si (by decide)).si (by decide)).int rfl (Or.inl rfl))) (by decide) rfl (by decide) (by decide) (by decide) (fun q12 => ?_)
  refine b_link (ci := 7) (o := 0) 16 12 0 cls7 (by decide) tb_935 rfl (Or.inr ⟨rfl, rfl, hI⟩) hX dX7_init_121 rfl rfl rfl rfl (by decide) (fun _ => rfl) (fun _ => rfl) ?_
  refine b_aload_n 0 hX dX7_init_124 rfl rfl ?_
  refine b_bipush (v := 30) hX dX7_init_125 rfl ?_
  refine b_newp (t := 1) (ty := .int) (n := 30) (N := 30) (a0 := (30, .inl fun _ => 0)) 17 (by decide) rfl (fun _ => rfl) (fun _ _ h => h) tw_120 (fun _ => rfl) hX dX7_init_127 rfl (by decide) (by decide) (pz_i rfl (Or.inl rfl) (((((((hf 17 (by decide)).si (by decide)).si (by decide)).si (by decide)).si (by decide)).si (by decide)).int rfl (Or.inl rfl))) (by decide) rfl (by decide) (by decide) (by decide) (fun q13 => ?_)
  refine b_link (ci := 7) (o := 0) 17 13 0 cls7 (by decide) tb_936 rfl (Or.inr ⟨rfl, rfl, hI⟩) hX dX7_init_129 rfl rfl rfl rfl (by decide) (fun _ => rfl) (fun _ => rfl) ?_
  refine b_aload_n 0 hX dX7_init_132 rfl rfl ?_
  refine b_bipush (v := 30) hX dX7_init_133 rfl ?_
  refine b_newp (t := 1) (ty := .int) (n := 30) (N := 30) (a0 := (30, .inl fun _ => 0)) 18 (by decide) rfl (fun _ => rfl) (fun _ _ h => h) tw_120 (fun _ => rfl) hX dX7_init_135 rfl (by decide) (by decide) (pz_i rfl (Or.inl rfl) (((((((hf 18 (by decide)).si (by decide)).si (by decide)).si (by decide)).si (by decide)).si (by decide)).int rfl (Or.inl rfl))) (by decide) rfl (by decide) (by decide) (by decide) (fun q14 => ?_)
  refine b_link (ci := 7) (o := 0) 18 14 0 cls7 (by decide) tb_937 rfl (Or.inr ⟨rfl, rfl, hI⟩) hX dX7_init_137 rfl rfl rfl rfl (by decide) (fun _ => rfl) (fun _ => rfl) ?_
  refine b_aload_n 0 hX dX7_init_140 rfl rfl ?_
  refine b_sipush (v := 500) hX dX7_init_141 rfl ?_
  refine b_newp (t := 1) (ty := .int) (n := 500) (N := 500) (a0 := (500, .inl fun _ => 0)) 19 (by decide) rfl (fun _ => rfl) (fun _ _ h => h) tw_120 (fun _ => rfl) hX dX7_init_144 rfl (by decide) (by decide) (pz_i rfl (Or.inl rfl) (((((((hf 19 (by decide)).si (by decide)).si (by decide)).si (by decide)).si (by decide)).si (by decide)).int rfl (Or.inl rfl))) (by decide) rfl (by decide) (by decide) (by decide) (fun q15 => ?_)
  refine b_link (ci := 7) (o := 0) 19 15 0 cls7 (by decide) tb_938 rfl (Or.inr ⟨rfl, rfl, hI⟩) hX dX7_init_146 rfl rfl rfl rfl (by decide) (fun _ => rfl) (fun _ => rfl) ?_
  refine b_aload_n 0 hX dX7_init_149 rfl rfl ?_
  refine b_bipush (v := 101) hX dX7_init_150 rfl ?_
  refine b_newp (t := 1) (ty := .int) (n := 101) (N := 101) (a0 := (101, .inl fun _ => 0)) 20 (by decide) rfl (fun _ => rfl) (fun _ _ h => h) tw_120 (fun _ => rfl) hX dX7_init_152 rfl (by decide) (by decide) (pz_i rfl (Or.inl rfl) (((((((hf 20 (by decide)).si (by decide)).si (by decide)).si (by decide)).si (by decide)).si (by decide)).int rfl (Or.inl rfl))) (by decide) rfl (by decide) (by decide) (by decide) (fun q16 => ?_)
  refine b_link (ci := 7) (o := 0) 20 16 0 cls7 (by decide) tb_939 rfl (Or.inr ⟨rfl, rfl, hI⟩) hX dX7_init_154 rfl rfl rfl rfl (by decide) (fun _ => rfl) (fun _ => rfl) ?_
  refine b_aload_n 0 hX dX7_init_157 rfl rfl ?_
  refine b_iconst (v := 0) hX dX7_init_158 rfl ?_
  refine b_iput (ci := 7) (o := 0) 21 16 cls7 (by decide) tb_940 rfl (Or.inl rfl) hX dX7_init_159 rfl rfl rfl (by decide) rfl rfl ?_
  refine b_aload_n 0 hX dX7_init_162 rfl rfl ?_
  refine b_iconst (v := 0) hX dX7_init_163 rfl ?_
  refine b_iput (ci := 7) (o := 0) 22 16 cls7 (by decide) tb_941 rfl (Or.inl rfl) hX dX7_init_164 rfl rfl rfl (by decide) rfl rfl ?_
  refine b_aload_n 0 hX dX7_init_167 rfl rfl ?_
  refine b_iconst (v := 0) hX dX7_init_168 rfl ?_
  refine b_iput (ci := 7) (o := 0) 23 16 cls7 (by decide) tb_942 rfl (Or.inl rfl) hX dX7_init_169 rfl rfl rfl (by decide) rfl rfl ?_
  refine b_aload_n 0 hX dX7_init_172 rfl rfl ?_
  refine b_iconst (v := 0) hX dX7_init_173 rfl ?_
  refine b_iput (ci := 7) (o := 0) 24 16 cls7 (by decide) tb_943 rfl (Or.inl rfl) hX dX7_init_174 rfl rfl rfl (by decide) rfl rfl ?_
  refine b_aload_n 0 hX dX7_init_177 rfl rfl ?_
  refine b_iconst (v := -1) hX dX7_init_178 rfl ?_
  refine b_iput (ci := 7) (o := 0) 25 16 cls7 (by decide) tb_944 rfl (Or.inl rfl) hX dX7_init_179 rfl rfl rfl (by decide) rfl rfl ?_
  refine b_aload_n 0 hX dX7_init_182 rfl rfl ?_
  refine b_iconst (v := 0) hX dX7_init_183 rfl ?_
  refine b_iput (ci := 7) (o := 0) 26 16 cls7 (by decide) tb_945 rfl (Or.inl rfl) hX dX7_init_184 rfl rfl rfl (by decide) rfl rfl ?_
  refine b_aload_n 0 hX dX7_init_187 rfl rfl ?_
  refine b_bipush (v := 8) hX dX7_init_188 rfl ?_
  refine b_newp (t := 1) (ty := .int) (n := 8) (N := 8) (a0 := (8, .inl fun _ => 0)) 27 (by decide) rfl (fun _ => rfl) (fun _ _ h => h) tw_120 (fun _ => rfl) hX dX7_init_190 rfl (by decide) (by decide) (pz_i rfl (Or.inl rfl) (((((((((((((hf 27 (by decide)).si (by decide)).si (by decide)).si (by decide)).si (by decide)).si (by decide)).si (by decide)).si (by decide)).si (by decide)).si (by decide)).si (by decide)).si (by decide)).int rfl (Or.inl rfl))) (by decide) rfl (by decide) (by decide) (by decide) (fun q17 => ?_)
  refine b_link (ci := 7) (o := 0) 27 17 0 cls7 (by decide) tb_946 rfl (Or.inr ⟨rfl, rfl, hI⟩) hX dX7_init_192 rfl rfl rfl rfl (by decide) (fun _ => rfl) (fun _ => rfl) ?_
  refine b_aload_n 0 hX dX7_init_195 rfl rfl ?_
  refine b_bipush (v := 8) hX dX7_init_196 rfl ?_
  refine b_newp (t := 1) (ty := .int) (n := 8) (N := 8) (a0 := (8, .inl fun _ => 0)) 28 (by decide) rfl (fun _ => rfl) (fun _ _ h => h) tw_120 (fun _ => rfl) hX dX7_init_198 rfl (by decide) (by decide) (pz_i rfl (Or.inl rfl) (((((((((((((hf 28 (by decide)).si (by decide)).si (by decide)).si (by decide)).si (by decide)).si (by decide)).si (by decide)).si (by decide)).si (by decide)).si (by decide)).si (by decide)).si (by decide)).int rfl (Or.inl rfl))) (by decide) rfl (by decide) (by decide) (by decide) (fun q18 => ?_)
  refine b_link (ci := 7) (o := 0) 28 18 0 cls7 (by decide) tb_947 rfl (Or.inr ⟨rfl, rfl, hI⟩) hX dX7_init_200 rfl rfl rfl rfl (by decide) (fun _ => rfl) (fun _ => rfl) ?_
  refine b_aload_n 0 hX dX7_init_203 rfl rfl ?_
  refine b_bipush (v := 8) hX dX7_init_204 rfl ?_
  refine b_newp (t := 1) (ty := .int) (n := 8) (N := 8) (a0 := (8, .inl fun _ => 0)) 29 (by decide) rfl (fun _ => rfl) (fun _ _ h => h) tw_120 (fun _ => rfl) hX dX7_init_206 rfl (by decide) (by decide) (pz_i rfl (Or.inl rfl) (((((((((((((hf 29 (by decide)).si (by decide)).si (by decide)).si (by decide)).si (by decide)).si (by decide)).si (by decide)).si (by decide)).si (by decide)).si (by decide)).si (by decide)).si (by decide)).int rfl (Or.inl rfl))) (by decide) rfl (by decide) (by decide) (by decide) (fun q19 => ?_)
  refine b_link (ci := 7) (o := 0) 29 19 0 cls7 (by decide) tb_948 rfl (Or.inr ⟨rfl, rfl, hI⟩) hX dX7_init_208 rfl rfl rfl rfl (by decide) (fun _ => rfl) (fun _ => rfl) ?_
  refine b_aload_n 0 hX dX7_init_211 rfl rfl ?_
  refine b_bipush (v := 8) hX dX7_init_212 rfl ?_
  refine b_newp (t := 1) (ty := .int) (n := 8) (N := 8) (a0 := (8, .inl fun _ => 0)) 30 (by decide) rfl (fun _ => rfl) (fun _ _ h => h) tw_120 (fun _ => rfl) hX dX7_init_214 rfl (by decide) (by decide) (pz_i rfl (Or.inl rfl) (((((((((((((hf 30 (by decide)).si (by decide)).si (by decide)).si (by decide)).si (by decide)).si (by decide)).si (by decide)).si (by decide)).si (by decide)).si (by decide)).si (by decide)).si (by decide)).int rfl (Or.inl rfl))) (by decide) rfl (by decide) (by decide) (by decide) (fun q20 => ?_)
  refine b_link (ci := 7) (o := 0) 30 20 0 cls7 (by decide) tb_949 rfl (Or.inr ⟨rfl, rfl, hI⟩) hX dX7_init_216 rfl rfl rfl rfl (by decide) (fun _ => rfl) (fun _ => rfl) ?_
  refine b_aload_n 0 hX dX7_init_219 rfl rfl ?_
  refine b_bipush (v := 8) hX dX7_init_220 rfl ?_
  refine b_newp (t := 1) (ty := .int) (n := 8) (N := 8) (a0 := (8, .inl fun _ => 0)) 31 (by decide) rfl (fun _ => rfl) (fun _ _ h => h) tw_120 (fun _ => rfl) hX dX7_init_222 rfl (by decide) (by decide) (pz_i rfl (Or.inl rfl) (((((((((((((hf 31 (by decide)).si (by decide)).si (by decide)).si (by decide)).si (by decide)).si (by decide)).si (by decide)).si (by decide)).si (by decide)).si (by decide)).si (by decide)).si (by decide)).int rfl (Or.inl rfl))) (by decide) rfl (by decide) (by decide) (by decide) (fun q21 => ?_)
  refine b_link (ci := 7) (o := 0) 31 21 0 cls7 (by decide) tb_950 rfl (Or.inr ⟨rfl, rfl, hI⟩) hX dX7_init_224 rfl rfl rfl rfl (by decide) (fun _ => rfl) (fun _ => rfl) ?_
  refine b_aload_n 0 hX dX7_init_227 rfl rfl ?_
  refine b_bipush (v := 8) hX dX7_init_228 rfl ?_
  refine b_newp (t := 1) (ty := .int) (n := 8) (N := 8) (a0 := (8, .inl fun _ => 0)) 32 (by decide) rfl (fun _ => rfl) (fun _ _ h => h) tw_120 (fun _ => rfl) hX dX7_init_230 rfl (by decide) (by decide) (pz_i rfl (Or.inl rfl) (((((((((((((hf 32 (by decide)).si (by decide)).si (by decide)).si (by decide)).si (by decide)).si (by decide)).si (by decide)).si (by decide)).si (by decide)).si (by decide)).si (by decide)).si (by decide)).int rfl (Or.inl rfl))) (by decide) rfl (by decide) (by decide) (by decide) (fun q22 => ?_)
  refine b_link (ci := 7) (o := 0) 32 22 0 cls7 (by decide) tb_951 rfl (Or.inr ⟨rfl, rfl, hI⟩) hX dX7_init_232 rfl rfl rfl rfl (by decide) (fun _ => rfl) (fun _ => rfl) ?_
  refine b_aload_n 0 hX dX7_init_235 rfl rfl ?_
  refine b_bipush (v := 8) hX dX7_init_236 rfl ?_
  refine b_newp (t := 1) (ty := .int) (n := 8) (N := 8) (a0 := (8, .inl fun _ => 0)) 33 (by decide) rfl (fun _ => rfl) (fun _ _ h => h) tw_120 (fun _ => rfl) hX dX7_init_238 rfl (by decide) (by decide) (pz_i rfl (Or.inl rfl) (((((((((((((hf 33 (by decide)).si (by decide)).si (by decide)).si (by decide)).si (by decide)).si (by decide)).si (by decide)).si (by decide)).si (by decide)).si (by decide)).si (by decide)).si (by decide)).int rfl (Or.inl rfl))) (by decide) rfl (by decide) (by decide) (by decide) (fun q23 => ?_)
  refine b_link (ci := 7) (o := 0) 33 23 0 cls7 (by decide) tb_952 rfl (Or.inr ⟨rfl, rfl, hI⟩) hX dX7_init_240 rfl rfl rfl rfl (by decide) (fun _ => rfl) (fun _ => rfl) ?_
  refine b_aload_n 0 hX dX7_init_243 rfl rfl ?_
  refine b_bipush (v := 8) hX dX7_init_244 rfl ?_
  refine b_newp (t := 1) (ty := .int) (n := 8) (N := 8) (a0 := (8, .inl fun _ => 0)) 34 (by decide) rfl (fun _ => rfl) (fun _ _ h => h) tw_120 (fun _ => rfl) hX dX7_init_246 rfl (by decide) (by decide) (pz_i rfl (Or.inl rfl) (((((((((((((hf 34 (by decide)).si (by decide)).si (by decide)).si (by decide)).si (by decide)).si (by decide)).si (by decide)).si (by decide)).si (by decide)).si (by decide)).si (by decide)).si (by decide)).int rfl (Or.inl rfl))) (by decide) rfl (by decide) (by decide) (by decide) (fun q24 => ?_)
  refine b_link (ci := 7) (o := 0) 34 24 0 cls7 (by decide) tb_953 rfl (Or.inr ⟨rfl, rfl, hI⟩) hX dX7_init_248 rfl rfl rfl rfl (by decide) (fun _ => rfl) (fun _ => rfl) ?_
  refine b_aload_n 0 hX dX7_init_251 rfl rfl ?_
  refine b_bipush (v := 8) hX dX7_init_252 rfl ?_
  refine b_newp (t := 1) (ty := .int) (n := 8) (N := 8) (a0 := (8, .inl fun _ => 0)) 35 (by decide) rfl (fun _ => rfl) (fun _ _ h => h) tw_120 (fun _ => rfl) hX dX7_init_254 rfl (by decide) (by decide) (pz_i rfl (Or.inl rfl) (((((((((((((hf 35 (by decide)).si (by decide)).si (by decide)).si (by decide)).si (by decide)).si (by decide)).si (by decide)).si (by decide)).si (by decide)).si (by decide)).si (by decide)).si (by decide)).int rfl (Or.inl rfl))) (by decide) rfl (by decide) (by decide) (by decide) (fun q25 => ?_)
  refine b_link (ci := 7) (o := 0) 35 25 0 cls7 (by decide) tb_954 rfl (Or.inr ⟨rfl, rfl, hI⟩) hX dX7_init_256 rfl rfl rfl rfl (by decide) (fun _ => rfl) (fun _ => rfl) ?_
  refine b_aload_n 0 hX dX7_init_259 rfl rfl ?_
  refine b_bipush (v := 8) hX dX7_init_260 rfl ?_
  refine b_newp (t := 3) (ty := .boolean) (n := 8) (N := 8) (a0 := (8, .inl fun _ => 0)) 36 (by decide) rfl (fun _ => rfl) (fun _ _ h => h) tw_1073 (fun _ => rfl) hX dX7_init_262 rfl (by decide) (by decide) (pz_i rfl (Or.inr rfl) (((((((((((((hf 36 (by decide)).si (by decide)).si (by decide)).si (by decide)).si (by decide)).si (by decide)).si (by decide)).si (by decide)).si (by decide)).si (by decide)).si (by decide)).si (by decide)).int rfl (Or.inr rfl))) (by decide) rfl (by decide) (by decide) (by decide) (fun q26 => ?_)
  refine b_link (ci := 7) (o := 0) 36 26 0 cls7 (by decide) tb_955 rfl (Or.inr ⟨rfl, rfl, hI⟩) hX dX7_init_264 rfl rfl rfl rfl (by decide) (fun _ => rfl) (fun _ => rfl) ?_
  refine b_aload_n 0 hX dX7_init_267 rfl rfl ?_
  refine b_bipush (v := 100) hX dX7_init_268 rfl ?_
  refine b_newp (t := 3) (ty := .boolean) (n := 100) (N := 100) (a0 := (100, .inl fun _ => 0)) 37 (by decide) rfl (fun _ => rfl) (fun _ _ h => h) tw_1073 (fun _ => rfl) hX dX7_init_270 rfl (by decide) (by decide) (pz_i rfl (Or.inr rfl) (((((((((((((hf 37 (by decide)).si (by decide)).si (by decide)).si (by decide)).si (by decide)).si (by decide)).si (by decide)).si (by decide)).si (by decide)).si (by decide)).si (by decide)).si (by decide)).int rfl (Or.inr rfl))) (by decide) rfl (by decide) (by decide) (by decide) (fun q27 => ?_)
  refine b_link (ci := 7) (o := 0) 37 27 0 cls7 (by decide) tb_956 rfl (Or.inr ⟨rfl, rfl, hI⟩) hX dX7_init_272 rfl rfl rfl rfl (by decide) (fun _ => rfl) (fun _ => rfl) ?_
  refine b_aload_n 0 hX dX7_init_275 rfl rfl ?_
  refine b_bipush (v := 14) hX dX7_init_276 rfl ?_
  refine b_newp (t := 1) (ty := .int) (n := 14) (N := 14) (a0 := (14, .inl fun _ => 0)) 38 (by decide) rfl (fun _ => rfl) (fun _ _ h => h) tw_120 (fun _ => rfl) hX dX7_init_278 rfl (by decide) (by decide) (pz_i rfl (Or.inl rfl) (((((((((((((hf 38 (by decide)).si (by decide)).si (by decide)).si (by decide)).si (by decide)).si (by decide)).si (by decide)).si (by decide)).si (by decide)).si (by decide)).si (by decide)).si (by decide)).int rfl (Or.inl rfl))) (by decide) rfl (by decide) (by decide) (by decide) (fun q28 => ?_)
  refine b_dup hX dX7_init_280 rfl ?_
  refine b_iconst (v := 0) hX dX7_init_281 rfl ?_
  refine b_bipush (v := 10) hX dX7_init_282 rfl ?_
  refine b_iast (o := 38) (n := 14) (j := 0) (x := 10) 0 hX dX7_init_284 rfl rfl (by decide) (by unfold vp_in; decide) ?_
  refine b_dup hX dX7_init_285 rfl ?_
  refine b_iconst (v := 1) hX dX7_init_286 rfl ?_
  refine b_bipush (v := 20) hX dX7_init_287 rfl ?_
  refine b_iast (o := 38) (n := 14) (j := 1) (x := 20) 0 hX dX7_init_289 rfl rfl (by decide) (by unfold vp_in; decide) ?_
  refine b_dup hX dX7_init_290 rfl ?_
  refine b_iconst (v := 2) hX dX7_init_291 rfl ?_
  refine b_bipush (v := 21) hX dX7_init_292 rfl ?_
  refine b_iast (o := 38) (n := 14) (j := 2) (x := 21) 0 hX dX7_init_294 rfl rfl (by decide) (by unfold vp_in; decide) ?_
  refine b_dup hX dX7_init_295 rfl ?_
  refine b_iconst (v := 3) hX dX7_init_296 rfl ?_
  refine b_bipush (v := 22) hX dX7_init_297 rfl ?_
  refine b_iast (o := 38) (n := 14) (j := 3) (x := 22) 0 hX dX7_init_299 rfl rfl (by decide) (by unfold vp_in; decide) ?_
  refine b_dup hX dX7_init_300 rfl ?_
  refine b_iconst (v := 4) hX dX7_init_301 rfl ?_
  refine b_bipush (v := 23) hX dX7_init_302 rfl ?_
  refine b_iast (o := 38) (n := 14) (j := 4) (x := 23) 0 hX dX7_init_304 rfl rfl (by decide) (by unfold vp_in; decide) ?_
  refine b_dup hX dX7_init_305 rfl ?_
  refine b_iconst (v := 5) hX dX7_init_306 rfl ?_
  refine b_bipush (v := 24) hX dX7_init_307 rfl ?_
  refine b_iast (o := 38) (n := 14) (j := 5) (x := 24) 0 hX dX7_init_309 rfl rfl (by decide) (by unfold vp_in; decide) ?_
  refine b_dup hX dX7_init_310 rfl ?_
  refine b_bipush (v := 6) hX dX7_init_311 rfl ?_
  refine b_bipush (v := 30) hX dX7_init_313 rfl ?_
  refine b_iast (o := 38) (n := 14) (j := 6) (x := 30) 0 hX dX7_init_315 rfl rfl (by decide) (by unfold vp_in; decide) ?_
  refine b_dup hX dX7_init_316 rfl ?_
  refine b_bipush (v := 7) hX dX7_init_317 rfl ?_
  refine b_bipush (v := 40) hX dX7_init_319 rfl ?_
  refine b_iast (o := 38) (n := 14) (j := 7) (x := 40) 0 hX dX7_init_321 rfl rfl (by decide) (by unfold vp_in; decide) ?_
  refine b_dup hX dX7_init_322 rfl ?_
  refine b_bipush (v := 8) hX dX7_init_323 rfl ?_
  refine b_bipush (v := 50) hX dX7_init_325 rfl ?_
  refine b_iast (o := 38) (n := 14) (j := 8) (x := 50) 0 hX dX7_init_327 rfl rfl (by decide) (by unfold vp_in; decide) ?_
  refine b_dup hX dX7_init_328 rfl ?_
  refine b_bipush (v := 9) hX dX7_init_329 rfl ?_
  refine b_bipush (v := 51) hX dX7_init_331 rfl ?_
  refine b_iast (o := 38) (n := 14) (j := 9) (x := 51) 0 hX dX7_init_333 rfl rfl (by decide) (by unfold vp_in; decide) ?_
  refine b_dup hX dX7_init_334 rfl ?_
  refine b_bipush (v := 10) hX dX7_init_335 rfl ?_
  refine b_bipush (v := 52) hX dX7_init_337 rfl ?_
  refine b_iast (o := 38) (n := 14) (j := 10) (x := 52) 0 hX dX7_init_339 rfl rfl (by decide) (by unfold vp_in; decide) ?_
  refine b_dup hX dX7_init_340 rfl ?_
  refine b_bipush (v := 11) hX dX7_init_341 rfl ?_
  refine b_bipush (v := 53) hX dX7_init_343 rfl ?_
  refine b_iast (o := 38) (n := 14) (j := 11) (x := 53) 0 hX dX7_init_345 rfl rfl (by decide) (by unfold vp_in; decide) ?_
  refine b_dup hX dX7_init_346 rfl ?_
  refine b_bipush (v := 12) hX dX7_init_347 rfl ?_
  refine b_bipush (v := 54) hX dX7_init_349 rfl ?_
  refine b_iast (o := 38) (n := 14) (j := 12) (x := 54) 0 hX dX7_init_351 rfl rfl (by decide) (by unfold vp_in; decide) ?_
  refine b_dup hX dX7_init_352 rfl ?_
  refine b_bipush (v := 13) hX dX7_init_353 rfl ?_
  refine b_bipush (v := 60) hX dX7_init_355 rfl ?_
  refine b_iast (o := 38) (n := 14) (j := 13) (x := 60) 0 hX dX7_init_357 rfl rfl (by decide) (by unfold vp_in; decide) ?_
  refine b_link (ci := 7) (o := 0) 38 28 0 cls7 (by decide) tb_957 rfl (Or.inr ⟨rfl, rfl, hI⟩) hX dX7_init_358 rfl rfl rfl rfl (by decide) (fun _ => rfl) (fun _ => rfl) ?_
  refine b_aload_n 0 hX dX7_init_361 rfl rfl ?_
  refine b_bipush (v := 8) hX dX7_init_362 rfl ?_
  refine b_newp (t := 1) (ty := .int) (n := 8) (N := 8) (a0 := (8, .inl fun _ => 0)) 39 (by decide) rfl (fun _ => rfl) (fun _ _ h => h) tw_120 (fun _ => rfl) hX dX7_init_364 rfl (by decide) (by decide) (pz_i rfl (Or.inl rfl) (((((((((((((((((((((((((((hf 39 (by decide)).si (by decide)).si (by decide)).si (by decide)).si (by decide)).si (by decide)).si (by decide)).si (by decide)).si (by decide)).si (by decide)).si (by decide)).si (by decide)).si (by decide)).si (by decide)).si (by decide)).si (by decide)).si (by decide)).si (by decide)).si (by decide)).si (by decide)).si (by decide)).si (by decide)).si (by decide)).si (by decide)).si (by decide)).si (by decide)).int rfl (Or.inl rfl))) (by decide) rfl (by decide) (by decide) (by decide) (fun q29 => ?_)
  refine b_link (ci := 7) (o := 0) 39 29 0 cls7 (by decide) tb_958 rfl (Or.inr ⟨rfl, rfl, hI⟩) hX dX7_init_366 rfl rfl rfl rfl (by decide) (fun _ => rfl) (fun _ => rfl) ?_
  refine b_aload_n 0 hX dX7_init_369 rfl rfl ?_
  refine b_iconst (v := 0) hX dX7_init_370 rfl ?_
  refine b_iput (ci := 7) (o := 0) 40 29 cls7 (by decide) tb_959 rfl (Or.inl rfl) hX dX7_init_371 rfl rfl rfl (by decide) rfl rfl ?_
  refine b_aload_n 0 hX dX7_init_374 rfl rfl ?_
  refine b_iconst (v := 0) hX dX7_init_375 rfl ?_
  refine b_iput (ci := 7) (o := 0) 41 29 cls7 (by decide) tb_960 rfl (Or.inl rfl) hX dX7_init_376 rfl rfl rfl (by decide) rfl rfl ?_
  refine b_aload_n 0 hX dX7_init_379 rfl rfl ?_
  refine b_bipush (v := 8) hX dX7_init_380 rfl ?_
  refine b_newp (t := 1) (ty := .int) (n := 8) (N := 8) (a0 := (8, .inl fun _ => 0)) 42 (by decide) rfl (fun _ => rfl) (fun _ _ h => h) tw_120 (fun _ => rfl) hX dX7_init_382 rfl (by decide) (by decide) (pz_i rfl (Or.inl rfl) (((((((((((((((((((((((((((((hf 42 (by decide)).si (by decide)).si (by decide)).si (by decide)).si (by decide)).si (by decide)).si (by decide)).si (by decide)).si (by decide)).si (by decide)).si (by decide)).si (by decide)).si (by decide)).si (by decide)).si (by decide)).si (by decide)).si (by decide)).si (by decide)).si (by decide)).si (by decide)).si (by decide)).si (by decide)).si (by decide)).si (by decide)).si (by decide)).si (by decide)).si (by decide)).si (by decide)).int rfl (Or.inl rfl))) (by decide) rfl (by decide) (by decide) (by decide) (fun q30 => ?_)
  refine b_link (ci := 7) (o := 0) 42 30 0 cls7 (by decide) tb_961 rfl (Or.inr ⟨rfl, rfl, hI⟩) hX dX7_init_384 rfl rfl rfl rfl (by decide) (fun _ => rfl) (fun _ => rfl) ?_
  refine b_aload_n 0 hX dX7_init_387 rfl rfl ?_
  refine b_bipush (v := 8) hX dX7_init_388 rfl ?_
  refine b_newp (t := 1) (ty := .int) (n := 8) (N := 8) (a0 := (8, .inl fun _ => 0)) 43 (by decide) rfl (fun _ => rfl) (fun _ _ h => h) tw_120 (fun _ => rfl) hX dX7_init_390 rfl (by decide) (by decide) (pz_i rfl (Or.inl rfl) (((((((((((((((((((((((((((((hf 43 (by decide)).si (by decide)).si (by decide)).si (by decide)).si (by decide)).si (by decide)).si (by decide)).si (by decide)).si (by decide)).si (by decide)).si (by decide)).si (by decide)).si (by decide)).si (by decide)).si (by decide)).si (by decide)).si (by decide)).si (by decide)).si (by decide)).si (by decide)).si (by decide)).si (by decide)).si (by decide)).si (by decide)).si (by decide)).si (by decide)).si (by decide)).si (by decide)).int rfl (Or.inl rfl))) (by decide) rfl (by decide) (by decide) (by decide) (fun q31 => ?_)
  refine b_link (ci := 7) (o := 0) 43 31 0 cls7 (by decide) tb_962 rfl (Or.inr ⟨rfl, rfl, hI⟩) hX dX7_init_392 rfl rfl rfl rfl (by decide) (fun _ => rfl) (fun _ => rfl) ?_
  refine b_aload_n 0 hX dX7_init_395 rfl rfl ?_
  refine b_bipush (v := 8) hX dX7_init_396 rfl ?_
  refine b_newp (t := 1) (ty := .int) (n := 8) (N := 8) (a0 := (8, .inl fun _ => 0)) 44 (by decide) rfl (fun _ => rfl) (fun _ _ h => h) tw_120 (fun _ => rfl) hX dX7_init_398 rfl (by decide) (by decide) (pz_i rfl (Or.inl rfl) (((((((((((((((((((((((((((((hf 44 (by decide)).si (by decide)).si (by decide)).si (by decide)).si (by decide)).si (by decide)).si (by decide)).si (by decide)).si (by decide)).si (by decide)).si (by decide)).si (by decide)).si (by decide)).si (by decide)).si (by decide)).si (by decide)).si (by decide)).si (by decide)).si (by decide)).si (by decide)).si (by decide)).si (by decide)).si (by decide)).si (by decide)).si (by decide)).si (by decide)).si (by decide)).si (by decide)).int rfl (Or.inl rfl))) (by decide) rfl (by decide) (by decide) (by decide) (fun q32 => ?_)
  refine b_link (ci := 7) (o := 0) 44 32 0 cls7 (by decide) tb_963 rfl (Or.inr ⟨rfl, rfl, hI⟩) hX dX7_init_400 rfl rfl rfl rfl (by decide) (fun _ => rfl) (fun _ => rfl) ?_
  refine b_aload_n 0 hX dX7_init_403 rfl rfl ?_
  refine b_iconst (v := 0) hX dX7_init_404 rfl ?_
  refine b_iput (ci := 7) (o := 0) 45 32 cls7 (by decide) tb_964 rfl (Or.inl rfl) hX dX7_init_405 rfl rfl rfl (by decide) rfl rfl ?_
  refine b_aload_n 0 hX dX7_init_408 rfl rfl ?_
  refine b_bipush (v := 20) hX dX7_init_409 rfl ?_
  refine b_newp (t := 1) (ty := .int) (n := 20) (N := 20) (a0 := (20, .inl fun _ => 0)) 46 (by decide) rfl (fun _ => rfl) (fun _ _ h => h) tw_120 (fun _ => rfl) hX dX7_init_411 rfl (by decide) (by decide) (pz_i rfl (Or.inl rfl) ((((((((((((((((((((((((((((((hf 46 (by decide)).si (by decide)).si (by decide)).si (by decide)).si (by decide)).si (by decide)).si (by decide)).si (by decide)).si (by decide)).si (by decide)).si (by decide)).si (by decide)).si (by decide)).si (by decide)).si (by decide)).si (by decide)).si (by decide)).si (by decide)).si (by decide)).si (by decide)).si (by decide)).si (by decide)).si (by decide)).si (by decide)).si (by decide)).si (by decide)).si (by decide)).si (by decide)).si (by decide)).int rfl (Or.inl rfl))) (by decide) rfl (by decide) (by decide) (by decide) (fun q33 => ?_)
  refine b_link (ci := 7) (o := 0) 46 33 0 cls7 (by decide) tb_965 rfl (Or.inr ⟨rfl, rfl, hI⟩) hX dX7_init_413 rfl rfl rfl rfl (by decide) (fun _ => rfl) (fun _ => rfl) ?_
  refine b_aload_n 0 hX dX7_init_416 rfl rfl ?_
  refine b_bipush (v := 6) hX dX7_init_417 rfl ?_
  refine b_newp (t := 1) (ty := .int) (n := 6) (N := 6) (a0 := (6, .inl fun _ => 0)) 47 (by decide) rfl (fun _ => rfl) (fun _ _ h => h) tw_120 (fun _ => rfl) hX dX7_init_419 rfl (by decide) (by decide) (pz_i rfl (Or.inl rfl) ((((((((((((((((((((((((((((((hf 47 (by decide)).si (by decide)).si (by decide)).si (by decide)).si (by decide)).si (by decide)).si (by decide)).si (by decide)).si (by decide)).si (by decide)).si (by decide)).si (by decide)).si (by decide)).si (by decide)).si (by decide)).si (by decide)).si (by decide)).si (by decide)).si (by decide)).si (by decide)).si (by decide)).si (by decide)).si (by decide)).si (by decide)).si (by decide)).si (by decide)).si (by decide)).si (by decide)).si (by decide)).int rfl (Or.inl rfl))) (by decide) rfl (by decide) (by decide) (by decide) (fun q34 => ?_)
  refine b_dup hX dX7_init_421 rfl ?_
  refine b_iconst (v := 0) hX dX7_init_422 rfl ?_
  refine b_iconst (v := -1) hX dX7_init_423 rfl ?_
  refine b_iast (o := 47) (n := 6) (j := 0) (x := -1) 0 hX dX7_init_424 rfl rfl (by decide) (by unfold vp_in; decide) ?_
  refine b_dup hX dX7_init_425 rfl ?_
  refine b_iconst (v := 1) hX dX7_init_426 rfl ?_
  refine b_iconst (v := -1) hX dX7_init_427 rfl ?_
  refine b_iast (o := 47) (n := 6) (j := 1) (x := -1) 0 hX dX7_init_428 rfl rfl (by decide) (by unfold vp_in; decide) ?_
  refine b_dup hX dX7_init_429 rfl ?_
  refine b_iconst (v := 2) hX dX7_init_430 rfl ?_
  refine b_iconst (v := -1) hX dX7_init_431 rfl ?_
  refine b_iast (o := 47) (n := 6) (j := 2) (x := -1) 0 hX dX7_init_432 rfl rfl (by decide) (by unfold vp_in; decide) ?_
  refine b_dup hX dX7_init_433 rfl ?_
  refine b_iconst (v := 3) hX dX7_init_434 rfl ?_
  refine b_iconst (v := -1) hX dX7_init_435 rfl ?_
  refine b_iast (o := 47) (n := 6) (j := 3) (x := -1) 0 hX dX7_init_436 rfl rfl (by decide) (by unfold vp_in; decide) ?_
  refine b_dup hX dX7_init_437 rfl ?_
  refine b_iconst (v := 4) hX dX7_init_438 rfl ?_
  refine b_iconst (v := -1) hX dX7_init_439 rfl ?_
  refine b_iast (o := 47) (n := 6) (j := 4) (x := -1) 0 hX dX7_init_440 rfl rfl (by decide) (by unfold vp_in; decide) ?_
  refine b_dup hX dX7_init_441 rfl ?_
  refine b_iconst (v := 5) hX dX7_init_442 rfl ?_
  refine b_iconst (v := -1) hX dX7_init_443 rfl ?_
  refine b_iast (o := 47) (n := 6) (j := 5) (x := -1) 0 hX dX7_init_444 rfl rfl (by decide) (by unfold vp_in; decide) ?_
  refine b_link (ci := 7) (o := 0) 47 34 0 cls7 (by decide) tb_966 rfl (Or.inr ⟨rfl, rfl, hI⟩) hX dX7_init_445 rfl rfl rfl rfl (by decide) (fun _ => rfl) (fun _ => rfl) ?_
  refine b_aload_n 0 hX dX7_init_448 rfl rfl ?_
  refine b_bipush (v := 6) hX dX7_init_449 rfl ?_
  refine b_newp (t := 1) (ty := .int) (n := 6) (N := 6) (a0 := (6, .inl fun _ => 0)) 48 (by decide) rfl (fun _ => rfl) (fun _ _ h => h) tw_120 (fun _ => rfl) hX dX7_init_451 rfl (by decide) (by decide) (pz_i rfl (Or.inl rfl) ((((((((((((((((((((((((((((((((((((hf 48 (by decide)).si (by decide)).si (by decide)).si (by decide)).si (by decide)).si (by decide)).si (by decide)).si (by decide)).si (by decide)).si (by decide)).si (by decide)).si (by decide)).si (by decide)).si (by decide)).si (by decide)).si (by decide)).si (by decide)).si (by decide)).si (by decide)).si (by decide)).si (by decide)).si (by decide)).si (by decide)).si (by decide)).si (by decide)).si (by decide)).si (by decide)).si (by decide)).si (by decide)).si (by decide)).si (by decide)).si (by decide)).si (by decide)).si (by decide)).si (by decide)).int rfl (Or.inl rfl))) (by decide) rfl (by decide) (by decide) (by decide) (fun q35 => ?_)
  refine b_link (ci := 7) (o := 0) 48 35 0 cls7 (by decide) tb_967 rfl (Or.inr ⟨rfl, rfl, hI⟩) hX dX7_init_453 rfl rfl rfl rfl (by decide) (fun _ => rfl) (fun _ => rfl) ?_
  refine b_aload_n 0 hX dX7_init_456 rfl rfl ?_
  refine b_sipush (v := 360) hX dX7_init_457 rfl ?_
  refine b_newp (t := 2) (ty := .long) (n := 360) (N := 360) (a0 := (360, .inr (.inl fun _ => 0))) 49 (by decide) rfl (fun _ => rfl) (fun _ _ h => h) tw_265 (fun _ => rfl) hX dX7_init_460 rfl (by decide) (by decide) (pz_l (fun j _ => (((((((((((((((((((((((((((((((((((hf 49 (by decide)).si (by decide)).si (by decide)).si (by decide)).si (by decide)).si (by decide)).si (by decide)).si (by decide)).si (by decide)).si (by decide)).si (by decide)).si (by decide)).si (by decide)).si (by decide)).si (by decide)).si (by decide)).si (by decide)).si (by decide)).si (by decide)).si (by decide)).si (by decide)).si (by decide)).si (by decide)).si (by decide)).si (by decide)).si (by decide)).si (by decide)).si (by decide)).si (by decide)).si (by decide)).si (by decide)).si (by decide)).si (by decide)).si (by decide)).si (by decide)).2 j)) (by decide) rfl (by decide) (by decide) (by decide) (fun q36 => ?_)
  refine b_link (ci := 7) (o := 0) 49 36 0 cls7 (by decide) tb_968 rfl (Or.inr ⟨rfl, rfl, hI⟩) hX dX7_init_462 rfl rfl rfl rfl (by decide) (fun _ => rfl) (fun _ => rfl) ?_
  refine b_aload_n 0 hX dX7_init_465 rfl rfl ?_
  refine b_bipush (v := 60) hX dX7_init_466 rfl ?_
  refine b_newp (t := 2) (ty := .long) (n := 60) (N := 60) (a0 := (60, .inr (.inl fun _ => 0))) 50 (by decide) rfl (fun _ => rfl) (fun _ _ h => h) tw_265 (fun _ => rfl) hX dX7_init_468 rfl (by decide) (by decide) (pz_l (fun j _ => (((((((((((((((((((((((((((((((((((hf 50 (by decide)).si (by decide)).si (by decide)).si (by decide)).si (by decide)).si (by decide)).si (by decide)).si (by decide)).si (by decide)).si (by decide)).si (by decide)).si (by decide)).si (by decide)).si (by decide)).si (by decide)).si (by decide)).si (by decide)).si (by decide)).si (by decide)).si (by decide)).si (by decide)).si (by decide)).si (by decide)).si (by decide)).si (by decide)).si (by decide)).si (by decide)).si (by decide)).si (by decide)).si (by decide)).si (by decide)).si (by decide)).si (by decide)).si (by decide)).si (by decide)).2 j)) (by decide) rfl (by decide) (by decide) (by decide) (fun q37 => ?_)
  refine b_link (ci := 7) (o := 0) 50 37 0 cls7 (by decide) tb_969 rfl (Or.inr ⟨rfl, rfl, hI⟩) hX dX7_init_470 rfl rfl rfl rfl (by decide) (fun _ => rfl) (fun _ => rfl) ?_
  refine b_aload_n 0 hX dX7_init_473 rfl rfl ?_
  refine b_callE (ci := 7) (d := 2) Yok_X7_empty rfl rfl tb_917 tb_40 tb_915 37 hX dX7_init_474 rfl (by decide) rfl (by decide +kernel) (Nat.le_of_ble_eq_true rfl) (by decide) (by decide) (by decide) (by decide) (fun σ2 _ h => Bc_of (by decide +kernel) (fun z hz k hk => absurd hk (by rw [(isdR z hz k)]; decide))) (fl_X7_empty hR (fun s1 e1 s2 e2 s3 e3 s4 e4 s5 e5 s6 e6 s7 e7 s8 e8 s9 e9 s10 e10 => (rfl : s10 = s10) ▸ (show s10 = emp _ from by subst e1 e2 e3 e4 e5 e6 e7 e8 e9 e10; rfl))) (fun σ2 h2 => ?_)
  subst h2
  exact b_vretB hX dX7_init_477 (by decide +kernel) rfl rfl rfl (fun z hz => by simp only [List.mem_cons, List.not_mem_nil, or_false] at hz; rcases hz with rfl <;> simp)
