/-! what the launch gives: static arrays, texts -/
def gv1 : List Cond := flatC (Jvm.Cond.and given_1 narrow_1)
theorem st_arr {s : State} {args : Array Value} {C n : String} {N : Nat} {f : Nat → Int32} {A : Nat → Prop} (hA : ∀ a : Nat, a < s.heap.size → ¬ A a) (hN : N < 2 ^ 31) (hg : ∀ w ∈ gv1, w.before args s = true) (hl : (Cond.laysStatic C n "[I").before args s = true) (hi : (Cond.initialized C).before args s = true) (h1 : Cond.arrayOf (.static C n "[I") .int ∈ gv1) (h2 : Cond.eq (.length (.static C n "[I")) (.int (Int32.ofNat N)) ∈ gv1) (h3 : ∀ j, j < N → Cond.eq (.elem (.static C n "[I") (.int (Int32.ofNat j))) (.int (f j)) ∈ gv1) : ∃ t : Nat, va_Z C n "[I" (.ref t) A s s.heap ∧ va_T .int t N (fun j => .int (f j)) A s s.heap := by
  obtain ⟨t, ht, hT⟩ := va_Tof (f := fun j => .int (f j)) (A := A) hN (hg _ h1) (va_eqt (hg _ h2)) (fun j hj => va_eqt (hg _ (h3 j hj))) hA
  exact ⟨t, va_Zref hl hi ht hA, hT⟩
theorem vkS_cong {N : Nat} {len : List Nat} {byt : List (List Int32)} {k k' v v' : Nat → Nat} {A : Nat → Prop} {U : State} {H : Heap} (h : vk_S N len byt k v A U H) (e1 : ∀ i, i < N → k' i = k i) (e2 : ∀ i, i < N → v' i = v i) : vk_S N len byt k' v' A U H :=
  ⟨fun i hi => by rw [e1 i hi, e2 i hi]; exact h.1 i hi, fun i j hi hj e => h.2 i j hi hj (by rw [← e1 i hi, ← e1 j hj]; exact e)⟩
def kix : List Nat := [385, 386, 439, 503, 520, 521, 522, 532, 537, 538]
theorem kix_ok : ∀ i, i < 10 → Cond.stringRef RX5 (kxs.getD i 0) (kts.getD i "") ∈ lw_tbl := fun i hi => List.mem_of_getElem? (i := kix.getD i 0) ((show ∀ i, i < 10 → lw_tbl[kix.getD i 0]? = some (Cond.stringRef RX5 (kxs.getD i 0) (kts.getD i "")) by decide +kernel) i hi)
def ktm (i : Nat) : Term := .string RX5 (kxs.getD i 0)
theorem kst_1 : ∀ i, i < 10 → Cond.exactly (ktm i) "java/lang/String" ∈ gv1 := by decide +kernel
theorem kst_2 : ∀ i, i < 10 → Cond.eq (.field (ktm i) "java/lang/String" "coder" "B") (.int 0) ∈ gv1 := by decide +kernel
theorem kst_3 : ∀ i, i < 10 → Cond.arrayOf (.field (ktm i) "java/lang/String" "value" "[B") .byte ∈ gv1 := by decide +kernel
theorem kst_4 : ∀ i, i < 10 → Cond.eq (.length (.field (ktm i) "java/lang/String" "value" "[B")) (.int (Int32.ofNat (kls.getD i 0))) ∈ gv1 := by decide +kernel
theorem kst_5 : ∀ i, i < 10 → ∀ j, j < kls.getD i 0 → Cond.eq (.elem (.field (ktm i) "java/lang/String" "value" "[B") (.int (Int32.ofNat j))) (.int ((kbs.getD i []).getD j 0)) ∈ gv1 := by decide +kernel
theorem kst_6 : ∀ i, i < 10 → ∀ j, j < 10 → i ≠ j → Cond.not (Cond.eq (ktm i) (ktm j)) ∈ gv1 ∨ Cond.not (Cond.eq (ktm j) (ktm i)) ∈ gv1 := by decide +kernel
theorem kst_7 : ∀ j, j < 14 → Cond.eq (.elem (.static "PleasToIssue" "PLEAS" "[I") (.int (Int32.ofNat j))) (.int (tPl j)) ∈ gv1 := by decide +kernel
theorem kst_8 : ∀ j, j < 7 → Cond.eq (.elem (.static "PleasToIssue$Acts" "ABOVE" "[I") (.int (Int32.ofNat j))) (.int (tAb j)) ∈ gv1 := by decide +kernel
theorem kst_9 : ∀ j, j < 21 → Cond.eq (.elem (.static "PleasToIssue$Acts" "BODIES" "[I") (.int (Int32.ofNat j))) (.int (tBo j)) ∈ gv1 := by decide +kernel
theorem sx_all {s : State} {args : Array Value} {A : Nat → Prop} (hA : ∀ a : Nat, a < s.heap.size → ¬ A a) (hts : ∀ w ∈ lw_tbl, w.before args s = true) (hgv : (Jvm.Cond.and given_1 narrow_1).before args s = true) : ∃ ρ : Nat → Nat, Sx A ρ s s.heap := by
  have hg : ∀ w ∈ gv1, w.before args s = true := flat_of_before _ hgv
  obtain ⟨t1, z1, u1⟩ := st_arr (f := tPl) hA (N := 14) (by decide) hg (hts _ lwe_591) (hts _ lwe_71) (by decide +kernel) (by decide +kernel) kst_7
  obtain ⟨t2, z2, u2⟩ := st_arr (f := tAb) hA (N := 7) (by decide) hg (hts _ lwe_750) (hts _ lwe_75) (by decide +kernel) (by decide +kernel) kst_8
  obtain ⟨t3, z3, u3⟩ := st_arr (f := tBo) hA (N := 21) (by decide) hg (hts _ lwe_748) (hts _ lwe_75) (by decide +kernel) (by decide +kernel) kst_9
  have zc : va_Z "java/lang/String" "COMPACT_STRINGS" "Z" (.int 1) A s s.heap := va_Zof (hts _ lwe_400) (hts _ lwe_79) (va_eqt (hg _ (by decide +kernel))) hA
  have zs : va_Zq "jdk/internal/util/Preconditions" "SIOOBE_FORMATTER" "Ljava/util/function/BiFunction;" A s s.heap := va_Zqof (hts _ lwe_416) (hts _ lwe_81) (hg _ (by decide +kernel)) hA
  obtain ⟨ak, av, hS, hE⟩ := vk_Sof (N := 10) (tm := ktm) (len := kls) (byt := kbs) (A := A) (by decide) (fun i hi => hg _ (kst_1 i hi)) (fun i hi => hg _ (kst_2 i hi)) (fun i hi => hg _ (kst_3 i hi)) (fun i hi => hg _ (kst_4 i hi)) (fun i hi j hj => hg _ (kst_5 i hi j hj)) (fun i j hi hj hne => (kst_6 i hi j hj hne).imp (fun h => hg _ h) (fun h => hg _ h)) hA
  obtain ⟨t5, h5⟩ : ∃ t5 : Nat, va_Z "jdk/internal/util/Preconditions" "SIOOBE_FORMATTER" "Ljava/util/function/BiFunction;" .null A s s.heap ∨ va_Z "jdk/internal/util/Preconditions" "SIOOBE_FORMATTER" "Ljava/util/function/BiFunction;" (.ref t5) A s s.heap := by
    rcases zs with h | ⟨t, h⟩
    · exact ⟨0, Or.inl h⟩
    · exact ⟨t, Or.inr h⟩
  refine ⟨fun z => if z = 1001 then t1 else if z = 1002 then t2 else if z = 1003 then t3 else if z = 1050 then t5 else if z < 1030 then ak (z - 1010) else av (z - 1030), ⟨z1, u1⟩, ⟨z2, u2⟩, ⟨z3, u3⟩, va_Nw.of rfl (hts _ lwe_639), zc, vkS_cong hS (fun i hi => ?_) (fun i hi => ?_), fun i hi => ?_, h5⟩
  · show (if 1010 + i = 1001 then t1 else if 1010 + i = 1002 then t2 else if 1010 + i = 1003 then t3 else if 1010 + i = 1050 then t5 else if 1010 + i < 1030 then ak (1010 + i - 1010) else av (1010 + i - 1030)) = ak i
    rw [if_neg (by omega), if_neg (by omega), if_neg (by omega), if_neg (by omega), if_pos (by omega), Nat.add_sub_cancel_left]
  · show (if 1030 + i = 1001 then t1 else if 1030 + i = 1002 then t2 else if 1030 + i = 1003 then t3 else if 1030 + i = 1050 then t5 else if 1030 + i < 1030 then ak (1030 + i - 1010) else av (1030 + i - 1030)) = av i
    rw [if_neg (by omega), if_neg (by omega), if_neg (by omega), if_neg (by omega), if_neg (by omega), Nat.add_sub_cancel_left]
  · have e : (if 1010 + i = 1001 then t1 else if 1010 + i = 1002 then t2 else if 1010 + i = 1003 then t3 else if 1010 + i = 1050 then t5 else if 1010 + i < 1030 then ak (1010 + i - 1010) else av (1010 + i - 1030)) = ak i := by
      rw [if_neg (by omega), if_neg (by omega), if_neg (by omega), if_neg (by omega), if_pos (by omega), Nat.add_sub_cancel_left]
    show vk_R RX5 (kxs.getD i 0) (kts.getD i "") (if 1010 + i = 1001 then t1 else if 1010 + i = 1002 then t2 else if 1010 + i = 1003 then t3 else if 1010 + i = 1050 then t5 else if 1010 + i < 1030 then ak (1010 + i - 1010) else av (1010 + i - 1030)) s
    rw [e]
    exact vk_R.of (hts _ (kix_ok i hi)) (hE i hi)
