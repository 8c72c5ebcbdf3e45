/-! what the launch gives: classes, arrays, nest mates -/
theorem lwe_96 : Cond.arrayOver (.object RX1) ∈ lw_tbl := List.mem_of_getElem? (i := 96) (by decide +kernel)
theorem lwe_122 : Cond.arrayOver (.object RX3) ∈ lw_tbl := List.mem_of_getElem? (i := 122) (by decide +kernel)
theorem lwe_130 : Cond.arrayOver (.object RX4) ∈ lw_tbl := List.mem_of_getElem? (i := 130) (by decide +kernel)
theorem lwe_239 : Cond.arrayOver (.array .long) ∈ lw_tbl := List.mem_of_getElem? (i := 239) (by decide +kernel)
theorem lwe_323 : Cond.arrayOver (.array .int) ∈ lw_tbl := List.mem_of_getElem? (i := 323) (by decide +kernel)
theorem lwe_120 : Cond.arrayClass .int ∈ lw_tbl := List.mem_of_getElem? (i := 120) (by decide +kernel)
theorem lwe_265 : Cond.arrayClass .long ∈ lw_tbl := List.mem_of_getElem? (i := 265) (by decide +kernel)
theorem lwe_1073 : Cond.arrayClass .boolean ∈ lw_tbl := List.mem_of_getElem? (i := 1073) (by decide +kernel)
theorem lwe_99 : Cond.methodLinkNest RX6 26 yX5_init "PleasToIssue" ∈ lw_tbl := List.mem_of_getElem? (i := 99) (by decide +kernel)
theorem lwe_220 : Cond.methodLinkNest RX6 51 yX0_init "PleasToIssue" ∈ lw_tbl := List.mem_of_getElem? (i := 220) (by decide +kernel)
theorem lwe_241 : Cond.methodLinkNest RX6 67 yX3_init "PleasToIssue" ∈ lw_tbl := List.mem_of_getElem? (i := 241) (by decide +kernel)
theorem lwe_132 : Cond.methodLinkNest RX2 30 yX4_init "PleasToIssue" ∈ lw_tbl := List.mem_of_getElem? (i := 132) (by decide +kernel)
theorem lwe_639 : Cond.fieldLinkNest RX2 117 "PleasToIssue" "PLEAS" "[I" "PleasToIssue" ∈ lw_tbl := List.mem_of_getElem? (i := 639) (by decide +kernel)
theorem lwe_219 : Cond.instantiable RX0 4 ∈ lw_tbl := List.mem_of_getElem? (i := 219) (by decide +kernel)
theorem lwe_317 : Cond.instantiable RX1 2 ∈ lw_tbl := List.mem_of_getElem? (i := 317) (by decide +kernel)
theorem lwe_124 : Cond.instantiable RX2 11 ∈ lw_tbl := List.mem_of_getElem? (i := 124) (by decide +kernel)
theorem lwe_240 : Cond.instantiable RX3 6 ∈ lw_tbl := List.mem_of_getElem? (i := 240) (by decide +kernel)
theorem lwe_131 : Cond.instantiable RX4 11 ∈ lw_tbl := List.mem_of_getElem? (i := 131) (by decide +kernel)
theorem lwe_98 : Cond.instantiable RX5 5 ∈ lw_tbl := List.mem_of_getElem? (i := 98) (by decide +kernel)
theorem lwe_88 : Cond.instantiable RX6 13 ∈ lw_tbl := List.mem_of_getElem? (i := 88) (by decide +kernel)
theorem lwe_805 : Cond.instantiable RX7 51 ∈ lw_tbl := List.mem_of_getElem? (i := 805) (by decide +kernel)
theorem lwe_400 : Cond.laysStatic "java/lang/String" "COMPACT_STRINGS" "Z" ∈ lw_tbl := List.mem_of_getElem? (i := 400) (by decide +kernel)
theorem lwe_416 : Cond.laysStatic "jdk/internal/util/Preconditions" "SIOOBE_FORMATTER" "Ljava/util/function/BiFunction;" ∈ lw_tbl := List.mem_of_getElem? (i := 416) (by decide +kernel)
theorem lwe_591 : Cond.laysStatic "PleasToIssue" "PLEAS" "[I" ∈ lw_tbl := List.mem_of_getElem? (i := 591) (by decide +kernel)
theorem lwe_748 : Cond.laysStatic "PleasToIssue$Acts" "BODIES" "[I" ∈ lw_tbl := List.mem_of_getElem? (i := 748) (by decide +kernel)
theorem lwe_750 : Cond.laysStatic "PleasToIssue$Acts" "ABOVE" "[I" ∈ lw_tbl := List.mem_of_getElem? (i := 750) (by decide +kernel)
theorem lwe_79 : Cond.initialized "java/lang/String" ∈ lw_tbl := List.mem_of_getElem? (i := 79) (by decide +kernel)
theorem lwe_81 : Cond.initialized "jdk/internal/util/Preconditions" ∈ lw_tbl := List.mem_of_getElem? (i := 81) (by decide +kernel)
theorem lwe_71 : Cond.initialized "PleasToIssue" ∈ lw_tbl := List.mem_of_getElem? (i := 71) (by decide +kernel)
theorem lwe_75 : Cond.initialized "PleasToIssue$Acts" ∈ lw_tbl := List.mem_of_getElem? (i := 75) (by decide +kernel)
theorem ka_prim {U : State} {args : Array Value} {ty : FieldType} (hra : ∀ cA, U.vm.findClass ("[" ++ ty.toString) = some cA → va_RA U cA ty) (h : (Cond.arrayClass ty).before args U = true) : ∃ cA, (ArrOfT U cA ty ∧ va_RA U cA ty) ∧ U.vm.findClass ("[" ++ ty.toString) = some cA := by
  obtain ⟨c, k, comp, h1, h2, h3⟩ := Cond.arrayClass_spec h
  exact ⟨c, ⟨fun n z => ⟨fun k h => (by cases h), k, h2, comp, h3⟩, hra c h1⟩, h1⟩
theorem ka_obj {U : State} {args : Array Value} {C : String} (h : (Cond.arrayOver (.object C)).before args U = true) : ∃ cA, ArrOfT U cA (.object C) ∧ va_RA U cA (.object C) := by
  obtain ⟨comp, c, k, h1, -, h2, h3, h4⟩ := Cond.arrayOver_spec h
  exact ⟨c, fun n z => ⟨fun k h => (by cases h), k, h2, comp, h3⟩, k, comp, h2, h3, h1, h4⟩
theorem ka_arr {U : State} {args : Array Value} {t : FieldType} (h : (Cond.arrayOver (.array t)).before args U = true) : ∃ cA kA comp, (ArrOfT U cA (.array t) ∧ va_RA U cA (.array t)) ∧ U.vm.classes[cA]? = some kA ∧ kA.kind = .array comp (.array t) ∧ U.vm.findClass (FieldType.array t).toString = some comp := by
  obtain ⟨comp, c, k, h1, -, h2, h3, h4⟩ := arrayOverA_spec h
  exact ⟨c, k, comp, ⟨fun n z => ⟨fun k h => (by cases h), k, h2, comp, h3⟩, h4⟩, h2, h3, h1⟩
theorem kn_all {s : State} {args : Array Value} (hts : ∀ w ∈ lw_tbl, w.before args s = true) : ∃ (D : va_G) (ca : Nat → ClassId), va_K D vwCl (tl ca) s ∧ Nx ca s := by
  have hT : ∀ w ∈ TB, w.before args s = true := fun w hw => hts w (TB_tbl hw)
  obtain ⟨c0, i0, k0⟩ := u_known (n := 4) hT cls0.2.2.1 (hts _ lwe_219)
  obtain ⟨c1, i1, k1⟩ := u_known (n := 2) hT cls1.2.2.1 (hts _ lwe_317)
  obtain ⟨c2, i2, k2⟩ := u_known (n := 11) hT cls2.2.2.1 (hts _ lwe_124)
  obtain ⟨c3, i3, k3⟩ := u_known (n := 6) hT cls3.2.2.1 (hts _ lwe_240)
  obtain ⟨c4, i4, k4⟩ := u_known (n := 11) hT cls4.2.2.1 (hts _ lwe_131)
  obtain ⟨c5, i5, k5⟩ := u_known (n := 5) hT cls5.2.2.1 (hts _ lwe_98)
  obtain ⟨c6, i6, k6⟩ := u_known (n := 13) hT cls6.2.2.1 (hts _ lwe_88)
  obtain ⟨c7, i7, k7⟩ := u_known (n := 51) hT cls7.2.2.1 (hts _ lwe_805)
  obtain ⟨a1, p1, f1⟩ := ka_prim (ty := .int) (fun _ h => h) (hts _ lwe_120)
  obtain ⟨a2, p2, f2⟩ := ka_prim (ty := .long) (fun _ h => h) (hts _ lwe_265)
  obtain ⟨a3, p3, f3⟩ := ka_prim (ty := .boolean) (fun _ h => h) (hts _ lwe_1073)
  obtain ⟨a4, p4⟩ := ka_obj (hts _ lwe_96)
  obtain ⟨a5, p5⟩ := ka_obj (hts _ lwe_122)
  obtain ⟨a6, p6⟩ := ka_obj (hts _ lwe_130)
  obtain ⟨a7, y7, m7, p7, g7, n7, f7⟩ := ka_arr (hts _ lwe_323)
  obtain ⟨a8, y8, m8, p8, g8, n8, f8⟩ := ka_arr (hts _ lwe_239)
  have e7 : m7 = a1 := Option.some.inj (f7.symm.trans f1)
  have e8 : m8 = a2 := Option.some.inj (f8.symm.trans f2)
  subst e7
  subst e8
  refine ⟨(fun k => match k with | 0 => c0 | 1 => c1 | 2 => c2 | 3 => c3 | 4 => c4 | 5 => c5 | 6 => c6 | _ => c7, fun k => match k with | 0 => i0 | 1 => i1 | 2 => i2 | 3 => i3 | 4 => i4 | 5 => i5 | 6 => i6 | _ => i7), fun k => match k with | 1 => m7 | 2 => m8 | 3 => a3 | 4 => a4 | 5 => a5 | 6 => a6 | 7 => a7 | _ => a8, ⟨fun c q hq => ?_, fun k q hq => ?_⟩, ⟨va_AO.of (hts _ lwe_96), va_AO.of (hts _ lwe_122), va_AO.of (hts _ lwe_130)⟩, ⟨y7, g7, n7⟩, ⟨y8, g8, n8⟩, va_Nw.of rfl (hts _ lwe_99), va_Nw.of rfl (hts _ lwe_220), va_Nw.of rfl (hts _ lwe_241), va_Nw.of rfl (hts _ lwe_132)⟩
  · match c, hq with
    | 0, hq => cases hq; exact k0
    | 1, hq => cases hq; exact k1
    | 2, hq => cases hq; exact k2
    | 3, hq => cases hq; exact k3
    | 4, hq => cases hq; exact k4
    | 5, hq => cases hq; exact k5
    | 6, hq => cases hq; exact k6
    | 7, hq => cases hq; exact k7
    | c + 8, hq => simp [vwCl] at hq
  · match k, hq with
    | 0, hq => cases hq; exact p1
    | 1, hq => cases hq; exact p2
    | 2, hq => cases hq; exact p3
    | 3, hq => cases hq; exact p4
    | 4, hq => cases hq; exact p5
    | 5, hq => cases hq; exact p6
    | 6, hq => cases hq; exact p7
    | 7, hq => cases hq; exact p8
    | k + 8, hq => simp [tl] at hq
