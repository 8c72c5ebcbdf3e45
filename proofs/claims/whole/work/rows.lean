section
-- ===== PART A: goes FIRST, ahead of the names: the tables' words, and 'selects' of the private methods out of them =====
/-- a private method of a class that the tables say can be made, by its rows of tables_1 -/
def lw_okq (q : MethodName × Nat) : Prop := (q.1.cls ≠ "java/lang/invoke/MethodHandle" ∧ q.1.cls ≠ "java/lang/invoke/VarHandle") ∧ Cond.instantiable q.1.cls q.2 ∈ tables_1 ∧ Cond.privateMethod q.1 ∈ tables_1 ∧ Cond.instanceMethod q.1 ∈ tables_1
theorem lw_p0 : lw_okq (⟨"PleasToIssue", "caseAt", "(I)LPleasToIssue$Case;"⟩, 13) := ⟨⟨by decide +kernel, by decide +kernel⟩, List.mem_of_getElem? (i := 18) (by decide +kernel), List.mem_of_getElem? (i := 269) (by decide +kernel), List.mem_of_getElem? (i := 270) (by decide +kernel)⟩
theorem lw_p1 : lw_okq (⟨"PleasToIssue$Case", "standsBeside", "([III)Z"⟩, 2) := ⟨⟨by decide +kernel, by decide +kernel⟩, List.mem_of_getElem? (i := 247) (by decide +kernel), List.mem_of_getElem? (i := 281) (by decide +kernel), List.mem_of_getElem? (i := 282) (by decide +kernel)⟩
theorem lw_p2 : lw_okq (⟨"PleasToIssue$Text", "takeClause", "()V"⟩, 5) := ⟨⟨by decide +kernel, by decide +kernel⟩, List.mem_of_getElem? (i := 28) (by decide +kernel), List.mem_of_getElem? (i := 308) (by decide +kernel), List.mem_of_getElem? (i := 309) (by decide +kernel)⟩
theorem lw_p3 : lw_okq (⟨"PleasToIssue$Text", "isNext", "(C)Z"⟩, 5) := ⟨⟨by decide +kernel, by decide +kernel⟩, List.mem_of_getElem? (i := 28) (by decide +kernel), List.mem_of_getElem? (i := 312) (by decide +kernel), List.mem_of_getElem? (i := 313) (by decide +kernel)⟩
theorem lw_p4 : lw_okq (⟨"PleasToIssue$Text", "take", "(Ljava/lang/String;)V"⟩, 5) := ⟨⟨by decide +kernel, by decide +kernel⟩, List.mem_of_getElem? (i := 28) (by decide +kernel), List.mem_of_getElem? (i := 318) (by decide +kernel), List.mem_of_getElem? (i := 319) (by decide +kernel)⟩
theorem lw_p5 : lw_okq (⟨"PleasToIssue$Text", "takeOneOf", "(Ljava/lang/String;)I"⟩, 5) := ⟨⟨by decide +kernel, by decide +kernel⟩, List.mem_of_getElem? (i := 28) (by decide +kernel), List.mem_of_getElem? (i := 371) (by decide +kernel), List.mem_of_getElem? (i := 372) (by decide +kernel)⟩
theorem lw_p6 : lw_okq (⟨"PleasToIssue$Text", "takeEither", "(I)V"⟩, 5) := ⟨⟨by decide +kernel, by decide +kernel⟩, List.mem_of_getElem? (i := 28) (by decide +kernel), List.mem_of_getElem? (i := 435) (by decide +kernel), List.mem_of_getElem? (i := 436) (by decide +kernel)⟩
theorem lw_p7 : lw_okq (⟨"PleasToIssue$Text", "takeBoth", "(I)V"⟩, 5) := ⟨⟨by decide +kernel, by decide +kernel⟩, List.mem_of_getElem? (i := 28) (by decide +kernel), List.mem_of_getElem? (i := 439) (by decide +kernel), List.mem_of_getElem? (i := 440) (by decide +kernel)⟩
theorem lw_p8 : lw_okq (⟨"PleasToIssue$Text", "takePart", "(I)V"⟩, 5) := ⟨⟨by decide +kernel, by decide +kernel⟩, List.mem_of_getElem? (i := 28) (by decide +kernel), List.mem_of_getElem? (i := 443) (by decide +kernel), List.mem_of_getElem? (i := 444) (by decide +kernel)⟩
theorem lw_p9 : lw_okq (⟨"PleasToIssue$Text", "takeTest", "()V"⟩, 5) := ⟨⟨by decide +kernel, by decide +kernel⟩, List.mem_of_getElem? (i := 28) (by decide +kernel), List.mem_of_getElem? (i := 447) (by decide +kernel), List.mem_of_getElem? (i := 448) (by decide +kernel)⟩
theorem lw_p10 : lw_okq (⟨"PleasToIssue$Roll", "weigh", "()V"⟩, 11) := ⟨⟨by decide +kernel, by decide +kernel⟩, List.mem_of_getElem? (i := 54) (by decide +kernel), List.mem_of_getElem? (i := 479) (by decide +kernel), List.mem_of_getElem? (i := 480) (by decide +kernel)⟩
theorem lw_p11 : lw_okq (⟨"PleasToIssue$Rules", "holds", "(I[I)Z"⟩, 6) := ⟨⟨by decide +kernel, by decide +kernel⟩, List.mem_of_getElem? (i := 170) (by decide +kernel), List.mem_of_getElem? (i := 501) (by decide +kernel), List.mem_of_getElem? (i := 502) (by decide +kernel)⟩
theorem lw_p12 : lw_okq (⟨"PleasToIssue", "rulesAt", "(I)LPleasToIssue$Rules;"⟩, 13) := ⟨⟨by decide +kernel, by decide +kernel⟩, List.mem_of_getElem? (i := 18) (by decide +kernel), List.mem_of_getElem? (i := 510) (by decide +kernel), List.mem_of_getElem? (i := 511) (by decide +kernel)⟩
theorem lw_p13 : lw_okq (⟨"PleasToIssue$Roll", "walkEnds", "(I)V"⟩, 11) := ⟨⟨by decide +kernel, by decide +kernel⟩, List.mem_of_getElem? (i := 54) (by decide +kernel), List.mem_of_getElem? (i := 565) (by decide +kernel), List.mem_of_getElem? (i := 566) (by decide +kernel)⟩
theorem lw_p14 : lw_okq (⟨"PleasToIssue$Roll", "seekRow", "(I)Z"⟩, 11) := ⟨⟨by decide +kernel, by decide +kernel⟩, List.mem_of_getElem? (i := 54) (by decide +kernel), List.mem_of_getElem? (i := 580) (by decide +kernel), List.mem_of_getElem? (i := 581) (by decide +kernel)⟩
theorem lw_p15 : lw_okq (⟨"PleasToIssue$Roll", "valueFrom", "(LPleasToIssue$Case;III)I"⟩, 11) := ⟨⟨by decide +kernel, by decide +kernel⟩, List.mem_of_getElem? (i := 54) (by decide +kernel), List.mem_of_getElem? (i := 601) (by decide +kernel), List.mem_of_getElem? (i := 602) (by decide +kernel)⟩
def lw_privs_1 : List (MethodName × Nat) := [(⟨"PleasToIssue", "caseAt", "(I)LPleasToIssue$Case;"⟩, 13), (⟨"PleasToIssue$Case", "standsBeside", "([III)Z"⟩, 2), (⟨"PleasToIssue$Text", "takeClause", "()V"⟩, 5), (⟨"PleasToIssue$Text", "isNext", "(C)Z"⟩, 5), (⟨"PleasToIssue$Text", "take", "(Ljava/lang/String;)V"⟩, 5), (⟨"PleasToIssue$Text", "takeOneOf", "(Ljava/lang/String;)I"⟩, 5), (⟨"PleasToIssue$Text", "takeEither", "(I)V"⟩, 5), (⟨"PleasToIssue$Text", "takeBoth", "(I)V"⟩, 5), (⟨"PleasToIssue$Text", "takePart", "(I)V"⟩, 5), (⟨"PleasToIssue$Text", "takeTest", "()V"⟩, 5), (⟨"PleasToIssue$Roll", "weigh", "()V"⟩, 11), (⟨"PleasToIssue$Rules", "holds", "(I[I)Z"⟩, 6), (⟨"PleasToIssue", "rulesAt", "(I)LPleasToIssue$Rules;"⟩, 13), (⟨"PleasToIssue$Roll", "walkEnds", "(I)V"⟩, 11), (⟨"PleasToIssue$Roll", "seekRow", "(I)Z"⟩, 11), (⟨"PleasToIssue$Roll", "valueFrom", "(LPleasToIssue$Case;III)I"⟩, 11)]
theorem lw_r1 : ∀ q ∈ lw_privs_1, lw_okq q := List.forall_mem_cons.mpr ⟨lw_p0, List.forall_mem_cons.mpr ⟨lw_p1, List.forall_mem_cons.mpr ⟨lw_p2, List.forall_mem_cons.mpr ⟨lw_p3, List.forall_mem_cons.mpr ⟨lw_p4, List.forall_mem_cons.mpr ⟨lw_p5, List.forall_mem_cons.mpr ⟨lw_p6, List.forall_mem_cons.mpr ⟨lw_p7, List.forall_mem_cons.mpr ⟨lw_p8, List.forall_mem_cons.mpr ⟨lw_p9, List.forall_mem_cons.mpr ⟨lw_p10, List.forall_mem_cons.mpr ⟨lw_p11, List.forall_mem_cons.mpr ⟨lw_p12, List.forall_mem_cons.mpr ⟨lw_p13, List.forall_mem_cons.mpr ⟨lw_p14, List.forall_mem_cons.mpr ⟨lw_p15, fun _ h => absurd h List.not_mem_nil⟩⟩⟩⟩⟩⟩⟩⟩⟩⟩⟩⟩⟩⟩⟩⟩
theorem lw_p16 : lw_okq (⟨"PleasToIssue$Roll", "bestNow", "(LPleasToIssue$Case;)I"⟩, 11) := ⟨⟨by decide +kernel, by decide +kernel⟩, List.mem_of_getElem? (i := 54) (by decide +kernel), List.mem_of_getElem? (i := 612) (by decide +kernel), List.mem_of_getElem? (i := 613) (by decide +kernel)⟩
theorem lw_p17 : lw_okq (⟨"PleasToIssue", "rightCases", "(LPleasToIssue$Rules;I)I"⟩, 13) := ⟨⟨by decide +kernel, by decide +kernel⟩, List.mem_of_getElem? (i := 18) (by decide +kernel), List.mem_of_getElem? (i := 638) (by decide +kernel), List.mem_of_getElem? (i := 639) (by decide +kernel)⟩
theorem lw_p18 : lw_okq (⟨"PleasToIssue$Acts", "run", "(IIIII)I"⟩, 4) := ⟨⟨by decide +kernel, by decide +kernel⟩, List.mem_of_getElem? (i := 149) (by decide +kernel), List.mem_of_getElem? (i := 674) (by decide +kernel), List.mem_of_getElem? (i := 675) (by decide +kernel)⟩
theorem lw_p19 : lw_okq (⟨"PleasToIssue$Acts", "note", "(I)V"⟩, 4) := ⟨⟨by decide +kernel, by decide +kernel⟩, List.mem_of_getElem? (i := 149) (by decide +kernel), List.mem_of_getElem? (i := 682) (by decide +kernel), List.mem_of_getElem? (i := 683) (by decide +kernel)⟩
theorem lw_p20 : lw_okq (⟨"PleasToIssueModel", "in", "(III)Z"⟩, 51) := ⟨⟨by decide +kernel, by decide +kernel⟩, List.mem_of_getElem? (i := 735) (by decide +kernel), List.mem_of_getElem? (i := 733) (by decide +kernel), List.mem_of_getElem? (i := 734) (by decide +kernel)⟩
theorem lw_p21 : lw_okq (⟨"PleasToIssueModel", "isPoint", "(I)Z"⟩, 51) := ⟨⟨by decide +kernel, by decide +kernel⟩, List.mem_of_getElem? (i := 735) (by decide +kernel), List.mem_of_getElem? (i := 738) (by decide +kernel), List.mem_of_getElem? (i := 739) (by decide +kernel)⟩
theorem lw_p22 : lw_okq (⟨"PleasToIssueModel", "isCase", "(I)Z"⟩, 51) := ⟨⟨by decide +kernel, by decide +kernel⟩, List.mem_of_getElem? (i := 735) (by decide +kernel), List.mem_of_getElem? (i := 750) (by decide +kernel), List.mem_of_getElem? (i := 751) (by decide +kernel)⟩
theorem lw_p23 : lw_okq (⟨"PleasToIssueModel", "findUp", "(I)V"⟩, 51) := ⟨⟨by decide +kernel, by decide +kernel⟩, List.mem_of_getElem? (i := 735) (by decide +kernel), List.mem_of_getElem? (i := 758) (by decide +kernel), List.mem_of_getElem? (i := 759) (by decide +kernel)⟩
theorem lw_p24 : lw_okq (⟨"PleasToIssueModel", "has", "(II)Z"⟩, 51) := ⟨⟨by decide +kernel, by decide +kernel⟩, List.mem_of_getElem? (i := 735) (by decide +kernel), List.mem_of_getElem? (i := 762) (by decide +kernel), List.mem_of_getElem? (i := 763) (by decide +kernel)⟩
theorem lw_p25 : lw_okq (⟨"PleasToIssueModel", "isOught", "(I)Z"⟩, 51) := ⟨⟨by decide +kernel, by decide +kernel⟩, List.mem_of_getElem? (i := 735) (by decide +kernel), List.mem_of_getElem? (i := 770) (by decide +kernel), List.mem_of_getElem? (i := 771) (by decide +kernel)⟩
theorem lw_p26 : lw_okq (⟨"PleasToIssueModel", "goes", "(I)Z"⟩, 51) := ⟨⟨by decide +kernel, by decide +kernel⟩, List.mem_of_getElem? (i := 735) (by decide +kernel), List.mem_of_getElem? (i := 782) (by decide +kernel), List.mem_of_getElem? (i := 783) (by decide +kernel)⟩
theorem lw_p27 : lw_okq (⟨"PleasToIssueModel", "takesClause", "(I)Z"⟩, 51) := ⟨⟨by decide +kernel, by decide +kernel⟩, List.mem_of_getElem? (i := 735) (by decide +kernel), List.mem_of_getElem? (i := 786) (by decide +kernel), List.mem_of_getElem? (i := 787) (by decide +kernel)⟩
theorem lw_p28 : lw_okq (⟨"PleasToIssueModel", "next", "()I"⟩, 51) := ⟨⟨by decide +kernel, by decide +kernel⟩, List.mem_of_getElem? (i := 735) (by decide +kernel), List.mem_of_getElem? (i := 790) (by decide +kernel), List.mem_of_getElem? (i := 791) (by decide +kernel)⟩
theorem lw_p29 : lw_okq (⟨"PleasToIssueModel", "takesWord", "(II)Z"⟩, 51) := ⟨⟨by decide +kernel, by decide +kernel⟩, List.mem_of_getElem? (i := 735) (by decide +kernel), List.mem_of_getElem? (i := 794) (by decide +kernel), List.mem_of_getElem? (i := 795) (by decide +kernel)⟩
theorem lw_p30 : lw_okq (⟨"PleasToIssueModel", "takes", "(I)Z"⟩, 51) := ⟨⟨by decide +kernel, by decide +kernel⟩, List.mem_of_getElem? (i := 735) (by decide +kernel), List.mem_of_getElem? (i := 798) (by decide +kernel), List.mem_of_getElem? (i := 799) (by decide +kernel)⟩
theorem lw_p31 : lw_okq (⟨"PleasToIssueModel", "takesKind", "(I)Z"⟩, 51) := ⟨⟨by decide +kernel, by decide +kernel⟩, List.mem_of_getElem? (i := 735) (by decide +kernel), List.mem_of_getElem? (i := 802) (by decide +kernel), List.mem_of_getElem? (i := 803) (by decide +kernel)⟩
def lw_privs_2 : List (MethodName × Nat) := [(⟨"PleasToIssue$Roll", "bestNow", "(LPleasToIssue$Case;)I"⟩, 11), (⟨"PleasToIssue", "rightCases", "(LPleasToIssue$Rules;I)I"⟩, 13), (⟨"PleasToIssue$Acts", "run", "(IIIII)I"⟩, 4), (⟨"PleasToIssue$Acts", "note", "(I)V"⟩, 4), (⟨"PleasToIssueModel", "in", "(III)Z"⟩, 51), (⟨"PleasToIssueModel", "isPoint", "(I)Z"⟩, 51), (⟨"PleasToIssueModel", "isCase", "(I)Z"⟩, 51), (⟨"PleasToIssueModel", "findUp", "(I)V"⟩, 51), (⟨"PleasToIssueModel", "has", "(II)Z"⟩, 51), (⟨"PleasToIssueModel", "isOught", "(I)Z"⟩, 51), (⟨"PleasToIssueModel", "goes", "(I)Z"⟩, 51), (⟨"PleasToIssueModel", "takesClause", "(I)Z"⟩, 51), (⟨"PleasToIssueModel", "next", "()I"⟩, 51), (⟨"PleasToIssueModel", "takesWord", "(II)Z"⟩, 51), (⟨"PleasToIssueModel", "takes", "(I)Z"⟩, 51), (⟨"PleasToIssueModel", "takesKind", "(I)Z"⟩, 51)]
theorem lw_r2 : ∀ q ∈ lw_privs_2, lw_okq q := List.forall_mem_cons.mpr ⟨lw_p16, List.forall_mem_cons.mpr ⟨lw_p17, List.forall_mem_cons.mpr ⟨lw_p18, List.forall_mem_cons.mpr ⟨lw_p19, List.forall_mem_cons.mpr ⟨lw_p20, List.forall_mem_cons.mpr ⟨lw_p21, List.forall_mem_cons.mpr ⟨lw_p22, List.forall_mem_cons.mpr ⟨lw_p23, List.forall_mem_cons.mpr ⟨lw_p24, List.forall_mem_cons.mpr ⟨lw_p25, List.forall_mem_cons.mpr ⟨lw_p26, List.forall_mem_cons.mpr ⟨lw_p27, List.forall_mem_cons.mpr ⟨lw_p28, List.forall_mem_cons.mpr ⟨lw_p29, List.forall_mem_cons.mpr ⟨lw_p30, List.forall_mem_cons.mpr ⟨lw_p31, fun _ h => absurd h List.not_mem_nil⟩⟩⟩⟩⟩⟩⟩⟩⟩⟩⟩⟩⟩⟩⟩⟩
theorem lw_p32 : lw_okq (⟨"PleasToIssueModel", "takesE", "(I)Z"⟩, 51) := ⟨⟨by decide +kernel, by decide +kernel⟩, List.mem_of_getElem? (i := 735) (by decide +kernel), List.mem_of_getElem? (i := 806) (by decide +kernel), List.mem_of_getElem? (i := 807) (by decide +kernel)⟩
theorem lw_p33 : lw_okq (⟨"PleasToIssueModel", "takesTest", "()Z"⟩, 51) := ⟨⟨by decide +kernel, by decide +kernel⟩, List.mem_of_getElem? (i := 735) (by decide +kernel), List.mem_of_getElem? (i := 810) (by decide +kernel), List.mem_of_getElem? (i := 811) (by decide +kernel)⟩
theorem lw_p34 : lw_okq (⟨"PleasToIssueModel", "place", "(I)I"⟩, 51) := ⟨⟨by decide +kernel, by decide +kernel⟩, List.mem_of_getElem? (i := 735) (by decide +kernel), List.mem_of_getElem? (i := 814) (by decide +kernel), List.mem_of_getElem? (i := 815) (by decide +kernel)⟩
theorem lw_p35 : lw_okq (⟨"PleasToIssueModel", "takesNumber", "(I)Z"⟩, 51) := ⟨⟨by decide +kernel, by decide +kernel⟩, List.mem_of_getElem? (i := 735) (by decide +kernel), List.mem_of_getElem? (i := 818) (by decide +kernel), List.mem_of_getElem? (i := 819) (by decide +kernel)⟩
theorem lw_p36 : lw_okq (⟨"PleasToIssueModel", "isDigit", "()Z"⟩, 51) := ⟨⟨by decide +kernel, by decide +kernel⟩, List.mem_of_getElem? (i := 735) (by decide +kernel), List.mem_of_getElem? (i := 822) (by decide +kernel), List.mem_of_getElem? (i := 823) (by decide +kernel)⟩
theorem lw_p37 : lw_okq (⟨"PleasToIssueModel", "put", "(I)V"⟩, 51) := ⟨⟨by decide +kernel, by decide +kernel⟩, List.mem_of_getElem? (i := 735) (by decide +kernel), List.mem_of_getElem? (i := 826) (by decide +kernel), List.mem_of_getElem? (i := 827) (by decide +kernel)⟩
theorem lw_p38 : lw_okq (⟨"PleasToIssueModel", "whole", "()V"⟩, 51) := ⟨⟨by decide +kernel, by decide +kernel⟩, List.mem_of_getElem? (i := 735) (by decide +kernel), List.mem_of_getElem? (i := 830) (by decide +kernel), List.mem_of_getElem? (i := 831) (by decide +kernel)⟩
theorem lw_p39 : lw_okq (⟨"PleasToIssueModel", "settle", "(I)V"⟩, 51) := ⟨⟨by decide +kernel, by decide +kernel⟩, List.mem_of_getElem? (i := 735) (by decide +kernel), List.mem_of_getElem? (i := 834) (by decide +kernel), List.mem_of_getElem? (i := 835) (by decide +kernel)⟩
theorem lw_p40 : lw_okq (⟨"PleasToIssueModel", "empty", "()V"⟩, 51) := ⟨⟨by decide +kernel, by decide +kernel⟩, List.mem_of_getElem? (i := 735) (by decide +kernel), List.mem_of_getElem? (i := 846) (by decide +kernel), List.mem_of_getElem? (i := 847) (by decide +kernel)⟩
theorem lw_p41 : lw_okq (⟨"PleasToIssueModel", "isRules", "(I)Z"⟩, 51) := ⟨⟨by decide +kernel, by decide +kernel⟩, List.mem_of_getElem? (i := 735) (by decide +kernel), List.mem_of_getElem? (i := 1009) (by decide +kernel), List.mem_of_getElem? (i := 1010) (by decide +kernel)⟩
theorem lw_p42 : lw_okq (⟨"PleasToIssueModel", "beginBy", "(I)V"⟩, 51) := ⟨⟨by decide +kernel, by decide +kernel⟩, List.mem_of_getElem? (i := 735) (by decide +kernel), List.mem_of_getElem? (i := 1013) (by decide +kernel), List.mem_of_getElem? (i := 1014) (by decide +kernel)⟩
theorem lw_p43 : lw_okq (⟨"PleasToIssueModel", "isPlea", "(I)Z"⟩, 51) := ⟨⟨by decide +kernel, by decide +kernel⟩, List.mem_of_getElem? (i := 735) (by decide +kernel), List.mem_of_getElem? (i := 1021) (by decide +kernel), List.mem_of_getElem? (i := 1022) (by decide +kernel)⟩
theorem lw_p44 : lw_okq (⟨"PleasToIssueModel", "can", "(I)Z"⟩, 51) := ⟨⟨by decide +kernel, by decide +kernel⟩, List.mem_of_getElem? (i := 735) (by decide +kernel), List.mem_of_getElem? (i := 1025) (by decide +kernel), List.mem_of_getElem? (i := 1026) (by decide +kernel)⟩
theorem lw_p45 : lw_okq (⟨"PleasToIssueModel", "figureOf", "(III)I"⟩, 51) := ⟨⟨by decide +kernel, by decide +kernel⟩, List.mem_of_getElem? (i := 735) (by decide +kernel), List.mem_of_getElem? (i := 1029) (by decide +kernel), List.mem_of_getElem? (i := 1030) (by decide +kernel)⟩
theorem lw_p46 : lw_okq (⟨"PleasToIssueModel", "some", "(II)Z"⟩, 51) := ⟨⟨by decide +kernel, by decide +kernel⟩, List.mem_of_getElem? (i := 735) (by decide +kernel), List.mem_of_getElem? (i := 1033) (by decide +kernel), List.mem_of_getElem? (i := 1034) (by decide +kernel)⟩
theorem lw_p47 : lw_okq (⟨"PleasToIssueModel", "holds", "(I)Z"⟩, 51) := ⟨⟨by decide +kernel, by decide +kernel⟩, List.mem_of_getElem? (i := 735) (by decide +kernel), List.mem_of_getElem? (i := 1037) (by decide +kernel), List.mem_of_getElem? (i := 1038) (by decide +kernel)⟩
def lw_privs_3 : List (MethodName × Nat) := [(⟨"PleasToIssueModel", "takesE", "(I)Z"⟩, 51), (⟨"PleasToIssueModel", "takesTest", "()Z"⟩, 51), (⟨"PleasToIssueModel", "place", "(I)I"⟩, 51), (⟨"PleasToIssueModel", "takesNumber", "(I)Z"⟩, 51), (⟨"PleasToIssueModel", "isDigit", "()Z"⟩, 51), (⟨"PleasToIssueModel", "put", "(I)V"⟩, 51), (⟨"PleasToIssueModel", "whole", "()V"⟩, 51), (⟨"PleasToIssueModel", "settle", "(I)V"⟩, 51), (⟨"PleasToIssueModel", "empty", "()V"⟩, 51), (⟨"PleasToIssueModel", "isRules", "(I)Z"⟩, 51), (⟨"PleasToIssueModel", "beginBy", "(I)V"⟩, 51), (⟨"PleasToIssueModel", "isPlea", "(I)Z"⟩, 51), (⟨"PleasToIssueModel", "can", "(I)Z"⟩, 51), (⟨"PleasToIssueModel", "figureOf", "(III)I"⟩, 51), (⟨"PleasToIssueModel", "some", "(II)Z"⟩, 51), (⟨"PleasToIssueModel", "holds", "(I)Z"⟩, 51)]
theorem lw_r3 : ∀ q ∈ lw_privs_3, lw_okq q := List.forall_mem_cons.mpr ⟨lw_p32, List.forall_mem_cons.mpr ⟨lw_p33, List.forall_mem_cons.mpr ⟨lw_p34, List.forall_mem_cons.mpr ⟨lw_p35, List.forall_mem_cons.mpr ⟨lw_p36, List.forall_mem_cons.mpr ⟨lw_p37, List.forall_mem_cons.mpr ⟨lw_p38, List.forall_mem_cons.mpr ⟨lw_p39, List.forall_mem_cons.mpr ⟨lw_p40, List.forall_mem_cons.mpr ⟨lw_p41, List.forall_mem_cons.mpr ⟨lw_p42, List.forall_mem_cons.mpr ⟨lw_p43, List.forall_mem_cons.mpr ⟨lw_p44, List.forall_mem_cons.mpr ⟨lw_p45, List.forall_mem_cons.mpr ⟨lw_p46, List.forall_mem_cons.mpr ⟨lw_p47, fun _ h => absurd h List.not_mem_nil⟩⟩⟩⟩⟩⟩⟩⟩⟩⟩⟩⟩⟩⟩⟩⟩
theorem lw_p48 : lw_okq (⟨"PleasToIssueModel", "factOf", "(I)I"⟩, 51) := ⟨⟨by decide +kernel, by decide +kernel⟩, List.mem_of_getElem? (i := 735) (by decide +kernel), List.mem_of_getElem? (i := 1041) (by decide +kernel), List.mem_of_getElem? (i := 1042) (by decide +kernel)⟩
theorem lw_p49 : lw_okq (⟨"PleasToIssueModel", "ones", "(I)I"⟩, 51) := ⟨⟨by decide +kernel, by decide +kernel⟩, List.mem_of_getElem? (i := 735) (by decide +kernel), List.mem_of_getElem? (i := 1045) (by decide +kernel), List.mem_of_getElem? (i := 1046) (by decide +kernel)⟩
theorem lw_p50 : lw_okq (⟨"PleasToIssueModel", "make", "(I)V"⟩, 51) := ⟨⟨by decide +kernel, by decide +kernel⟩, List.mem_of_getElem? (i := 735) (by decide +kernel), List.mem_of_getElem? (i := 1053) (by decide +kernel), List.mem_of_getElem? (i := 1054) (by decide +kernel)⟩
theorem lw_p51 : lw_okq (⟨"PleasToIssueModel", "endSort", "()I"⟩, 51) := ⟨⟨by decide +kernel, by decide +kernel⟩, List.mem_of_getElem? (i := 735) (by decide +kernel), List.mem_of_getElem? (i := 1065) (by decide +kernel), List.mem_of_getElem? (i := 1066) (by decide +kernel)⟩
theorem lw_p52 : lw_okq (⟨"PleasToIssueModel", "nextMay", "(I)I"⟩, 51) := ⟨⟨by decide +kernel, by decide +kernel⟩, List.mem_of_getElem? (i := 735) (by decide +kernel), List.mem_of_getElem? (i := 1069) (by decide +kernel), List.mem_of_getElem? (i := 1070) (by decide +kernel)⟩
theorem lw_p53 : lw_okq (⟨"PleasToIssueModel", "nextEnd", "(IZ)Z"⟩, 51) := ⟨⟨by decide +kernel, by decide +kernel⟩, List.mem_of_getElem? (i := 735) (by decide +kernel), List.mem_of_getElem? (i := 1077) (by decide +kernel), List.mem_of_getElem? (i := 1078) (by decide +kernel)⟩
theorem lw_p54 : lw_okq (⟨"PleasToIssueModel", "worthOf", "(I)I"⟩, 51) := ⟨⟨by decide +kernel, by decide +kernel⟩, List.mem_of_getElem? (i := 735) (by decide +kernel), List.mem_of_getElem? (i := 1089) (by decide +kernel), List.mem_of_getElem? (i := 1090) (by decide +kernel)⟩
theorem lw_p55 : lw_okq (⟨"PleasToIssueModel", "valueOf", "(I)I"⟩, 51) := ⟨⟨by decide +kernel, by decide +kernel⟩, List.mem_of_getElem? (i := 735) (by decide +kernel), List.mem_of_getElem? (i := 1097) (by decide +kernel), List.mem_of_getElem? (i := 1098) (by decide +kernel)⟩
theorem lw_p56 : lw_okq (⟨"PleasToIssueModel", "comesUp", "(II)V"⟩, 51) := ⟨⟨by decide +kernel, by decide +kernel⟩, List.mem_of_getElem? (i := 735) (by decide +kernel), List.mem_of_getElem? (i := 1101) (by decide +kernel), List.mem_of_getElem? (i := 1102) (by decide +kernel)⟩
theorem lw_p57 : lw_okq (⟨"PleasToIssueModel", "keepRoll", "()V"⟩, 51) := ⟨⟨by decide +kernel, by decide +kernel⟩, List.mem_of_getElem? (i := 735) (by decide +kernel), List.mem_of_getElem? (i := 1113) (by decide +kernel), List.mem_of_getElem? (i := 1114) (by decide +kernel)⟩
theorem lw_p58 : lw_okq (⟨"PleasToIssueModel", "rightNow", "()I"⟩, 51) := ⟨⟨by decide +kernel, by decide +kernel⟩, List.mem_of_getElem? (i := 735) (by decide +kernel), List.mem_of_getElem? (i := 1117) (by decide +kernel), List.mem_of_getElem? (i := 1118) (by decide +kernel)⟩
theorem lw_p59 : lw_okq (⟨"PleasToIssueModel", "putBack", "()V"⟩, 51) := ⟨⟨by decide +kernel, by decide +kernel⟩, List.mem_of_getElem? (i := 735) (by decide +kernel), List.mem_of_getElem? (i := 1121) (by decide +kernel), List.mem_of_getElem? (i := 1122) (by decide +kernel)⟩
theorem lw_p60 : lw_okq (⟨"PleasToIssueModel", "isTape", "(I)Z"⟩, 51) := ⟨⟨by decide +kernel, by decide +kernel⟩, List.mem_of_getElem? (i := 735) (by decide +kernel), List.mem_of_getElem? (i := 1137) (by decide +kernel), List.mem_of_getElem? (i := 1138) (by decide +kernel)⟩
theorem lw_p61 : lw_okq (⟨"PleasToIssueModel", "pleads", "(II)I"⟩, 51) := ⟨⟨by decide +kernel, by decide +kernel⟩, List.mem_of_getElem? (i := 735) (by decide +kernel), List.mem_of_getElem? (i := 1145) (by decide +kernel), List.mem_of_getElem? (i := 1146) (by decide +kernel)⟩
theorem lw_p62 : lw_okq (⟨"PleasToIssueModel", "excusePleads", "(I)I"⟩, 51) := ⟨⟨by decide +kernel, by decide +kernel⟩, List.mem_of_getElem? (i := 735) (by decide +kernel), List.mem_of_getElem? (i := 1149) (by decide +kernel), List.mem_of_getElem? (i := 1150) (by decide +kernel)⟩
theorem lw_p63 : lw_okq (⟨"PleasToIssueModel", "body", "(I)V"⟩, 51) := ⟨⟨by decide +kernel, by decide +kernel⟩, List.mem_of_getElem? (i := 735) (by decide +kernel), List.mem_of_getElem? (i := 1153) (by decide +kernel), List.mem_of_getElem? (i := 1154) (by decide +kernel)⟩
def lw_privs_4 : List (MethodName × Nat) := [(⟨"PleasToIssueModel", "factOf", "(I)I"⟩, 51), (⟨"PleasToIssueModel", "ones", "(I)I"⟩, 51), (⟨"PleasToIssueModel", "make", "(I)V"⟩, 51), (⟨"PleasToIssueModel", "endSort", "()I"⟩, 51), (⟨"PleasToIssueModel", "nextMay", "(I)I"⟩, 51), (⟨"PleasToIssueModel", "nextEnd", "(IZ)Z"⟩, 51), (⟨"PleasToIssueModel", "worthOf", "(I)I"⟩, 51), (⟨"PleasToIssueModel", "valueOf", "(I)I"⟩, 51), (⟨"PleasToIssueModel", "comesUp", "(II)V"⟩, 51), (⟨"PleasToIssueModel", "keepRoll", "()V"⟩, 51), (⟨"PleasToIssueModel", "rightNow", "()I"⟩, 51), (⟨"PleasToIssueModel", "putBack", "()V"⟩, 51), (⟨"PleasToIssueModel", "isTape", "(I)Z"⟩, 51), (⟨"PleasToIssueModel", "pleads", "(II)I"⟩, 51), (⟨"PleasToIssueModel", "excusePleads", "(I)I"⟩, 51), (⟨"PleasToIssueModel", "body", "(I)V"⟩, 51)]
theorem lw_r4 : ∀ q ∈ lw_privs_4, lw_okq q := List.forall_mem_cons.mpr ⟨lw_p48, List.forall_mem_cons.mpr ⟨lw_p49, List.forall_mem_cons.mpr ⟨lw_p50, List.forall_mem_cons.mpr ⟨lw_p51, List.forall_mem_cons.mpr ⟨lw_p52, List.forall_mem_cons.mpr ⟨lw_p53, List.forall_mem_cons.mpr ⟨lw_p54, List.forall_mem_cons.mpr ⟨lw_p55, List.forall_mem_cons.mpr ⟨lw_p56, List.forall_mem_cons.mpr ⟨lw_p57, List.forall_mem_cons.mpr ⟨lw_p58, List.forall_mem_cons.mpr ⟨lw_p59, List.forall_mem_cons.mpr ⟨lw_p60, List.forall_mem_cons.mpr ⟨lw_p61, List.forall_mem_cons.mpr ⟨lw_p62, List.forall_mem_cons.mpr ⟨lw_p63, fun _ h => absurd h List.not_mem_nil⟩⟩⟩⟩⟩⟩⟩⟩⟩⟩⟩⟩⟩⟩⟩⟩
theorem lw_p64 : lw_okq (⟨"PleasToIssueModel", "plainPleads", "(I)I"⟩, 51) := ⟨⟨by decide +kernel, by decide +kernel⟩, List.mem_of_getElem? (i := 735) (by decide +kernel), List.mem_of_getElem? (i := 1157) (by decide +kernel), List.mem_of_getElem? (i := 1158) (by decide +kernel)⟩
theorem lw_p65 : lw_okq (⟨"PleasToIssueModel", "admits", "(II)I"⟩, 51) := ⟨⟨by decide +kernel, by decide +kernel⟩, List.mem_of_getElem? (i := 735) (by decide +kernel), List.mem_of_getElem? (i := 1161) (by decide +kernel), List.mem_of_getElem? (i := 1162) (by decide +kernel)⟩
theorem lw_p66 : lw_okq (⟨"PleasToIssueModel", "plainAdmits", "(II)I"⟩, 51) := ⟨⟨by decide +kernel, by decide +kernel⟩, List.mem_of_getElem? (i := 735) (by decide +kernel), List.mem_of_getElem? (i := 1165) (by decide +kernel), List.mem_of_getElem? (i := 1166) (by decide +kernel)⟩
theorem lw_p67 : lw_okq (⟨"PleasToIssueModel", "tells", "(II)I"⟩, 51) := ⟨⟨by decide +kernel, by decide +kernel⟩, List.mem_of_getElem? (i := 735) (by decide +kernel), List.mem_of_getElem? (i := 1169) (by decide +kernel), List.mem_of_getElem? (i := 1170) (by decide +kernel)⟩
theorem lw_p68 : lw_okq (⟨"PleasToIssueModel", "plainTells", "(II)I"⟩, 51) := ⟨⟨by decide +kernel, by decide +kernel⟩, List.mem_of_getElem? (i := 735) (by decide +kernel), List.mem_of_getElem? (i := 1173) (by decide +kernel), List.mem_of_getElem? (i := 1174) (by decide +kernel)⟩
theorem lw_p69 : lw_okq (⟨"PleasToIssueModel", "narrow", "(IJ)J"⟩, 51) := ⟨⟨by decide +kernel, by decide +kernel⟩, List.mem_of_getElem? (i := 735) (by decide +kernel), List.mem_of_getElem? (i := 1197) (by decide +kernel), List.mem_of_getElem? (i := 1198) (by decide +kernel)⟩
def lw_privs_5 : List (MethodName × Nat) := [(⟨"PleasToIssueModel", "plainPleads", "(I)I"⟩, 51), (⟨"PleasToIssueModel", "admits", "(II)I"⟩, 51), (⟨"PleasToIssueModel", "plainAdmits", "(II)I"⟩, 51), (⟨"PleasToIssueModel", "tells", "(II)I"⟩, 51), (⟨"PleasToIssueModel", "plainTells", "(II)I"⟩, 51), (⟨"PleasToIssueModel", "narrow", "(IJ)J"⟩, 51)]
theorem lw_r5 : ∀ q ∈ lw_privs_5, lw_okq q := List.forall_mem_cons.mpr ⟨lw_p64, List.forall_mem_cons.mpr ⟨lw_p65, List.forall_mem_cons.mpr ⟨lw_p66, List.forall_mem_cons.mpr ⟨lw_p67, List.forall_mem_cons.mpr ⟨lw_p68, List.forall_mem_cons.mpr ⟨lw_p69, fun _ h => absurd h List.not_mem_nil⟩⟩⟩⟩⟩⟩
def lw_privs : List (MethodName × Nat) := lw_privs_1 ++ (lw_privs_2 ++ (lw_privs_3 ++ (lw_privs_4 ++ (lw_privs_5))))
def lw_tbl : List Cond := k2_sels lw_privs ++ tables_1
theorem lw_privs_ok : ∀ q ∈ lw_privs, lw_okq q := by
  show ∀ q ∈ lw_privs_1 ++ (lw_privs_2 ++ (lw_privs_3 ++ (lw_privs_4 ++ (lw_privs_5)))), lw_okq q
  exact List.forall_mem_append.mpr ⟨lw_r1, List.forall_mem_append.mpr ⟨lw_r2, List.forall_mem_append.mpr ⟨lw_r3, List.forall_mem_append.mpr ⟨lw_r4, lw_r5⟩⟩⟩⟩
-- ===== end of PART A; then your names; then what follows =====
end
section
def RX0 : String := "PleasToIssue$Acts"
def TX0 : u_T := fun k => match k with
  | 0 => ("PleasToIssue$Acts", "ran", "I", false)
  | 1 => ("PleasToIssue$Acts", "traced", "[I", true)
  | 2 => ("PleasToIssue$Acts", "cases", "I", false)
  | _ => ("PleasToIssue$Acts", "rules", "I", false)
def tyX0 : Nat → FieldType := fun k => match k with
  | 0 => .int
  | 1 => .array .int
  | 2 => .int
  | _ => .int
abbrev wsX00 : List Cond := u_ws RX0 TX0 4
theorem nmX0 : ∀ a, a < 4 → ∀ b, b < 4 → a ≠ b → (TX0 a).2.1 ≠ (TX0 b).2.1 := by decide +kernel
theorem tyX0_ok : ∀ k, k < 4 → parseFieldDescriptor (TX0 k).2.2.1 = some (tyX0 k) := by decide +kernel
abbrev cX0_init : ByteArray := prog_2_method_1_code
def yX0_init : MethodName := ⟨RX0, "<init>", "()V"⟩
abbrev cX0_isKind : ByteArray := prog_2_method_2_code
def yX0_isKind : MethodName := ⟨RX0, "isKind", "(I)Z"⟩
abbrev cX0_isUnder : ByteArray := prog_2_method_3_code
def yX0_isUnder : MethodName := ⟨RX0, "isUnder", "(II)Z"⟩
abbrev cX0_start : ByteArray := prog_2_method_4_code
def yX0_start : MethodName := ⟨RX0, "start", "(IIIII)I"⟩
abbrev cX0_bodyAt : ByteArray := prog_2_method_5_code
def yX0_bodyAt : MethodName := ⟨RX0, "bodyAt", "(I)I"⟩
abbrev cX0_note : ByteArray := prog_2_method_6_code
def yX0_note : MethodName := ⟨RX0, "note", "(I)V"⟩
abbrev cX0_run : ByteArray := prog_2_method_7_code
def yX0_run : MethodName := ⟨RX0, "run", "(IIIII)I"⟩
def RX1 : String := "PleasToIssue$Case"
def TX1 : u_T := fun k => match k with
  | 0 => ("PleasToIssue$Case", "so", "I", true)
  | _ => ("PleasToIssue$Case", "surely", "[[I", true)
def tyX1 : Nat → FieldType := fun k => match k with
  | 0 => .int
  | _ => .array (.array .int)
abbrev wsX10 : List Cond := u_ws RX1 TX1 2
theorem nmX1 : ∀ a, a < 2 → ∀ b, b < 2 → a ≠ b → (TX1 a).2.1 ≠ (TX1 b).2.1 := by decide +kernel
theorem tyX1_ok : ∀ k, k < 2 → parseFieldDescriptor (TX1 k).2.2.1 = some (tyX1 k) := by decide +kernel
abbrev cX1_init : ByteArray := prog_3_method_1_code
def yX1_init : MethodName := ⟨RX1, "<init>", "(I)V"⟩
abbrev cX1_oughtToHave : ByteArray := prog_3_method_2_code
def yX1_oughtToHave : MethodName := ⟨RX1, "oughtToHave", "([I)Z"⟩
abbrev cX1_standsUp : ByteArray := prog_3_method_3_code
def yX1_standsUp : MethodName := ⟨RX1, "standsUp", "([II)Z"⟩
abbrev cX1_standsBeside : ByteArray := prog_3_method_4_code
def yX1_standsBeside : MethodName := ⟨RX1, "standsBeside", "([III)Z"⟩
def RX2 : String := "PleasToIssue$Roll"
def TX2 : u_T := fun k => match k with
  | 0 => ("PleasToIssue$Roll", "excuses", "[I", true)
  | 1 => ("PleasToIssue$Roll", "assigns", "[I", true)
  | 2 => ("PleasToIssue$Roll", "stages", "[LPleasToIssue$Stage;", true)
  | 3 => ("PleasToIssue$Roll", "seen", "[I", true)
  | 4 => ("PleasToIssue$Roll", "endsOfSort", "[I", true)
  | 5 => ("PleasToIssue$Roll", "rules", "LPleasToIssue$Rules;", false)
  | 6 => ("PleasToIssue$Roll", "without", "I", false)
  | 7 => ("PleasToIssue$Roll", "last", "I", false)
  | 8 => ("PleasToIssue$Roll", "days", "I", false)
  | 9 => ("PleasToIssue$Roll", "rowsLeft", "I", false)
  | _ => ("PleasToIssue$Roll", "made", "I", false)
def tyX2 : Nat → FieldType := fun k => match k with
  | 0 => .array .int
  | 1 => .array .int
  | 2 => .array (.object "PleasToIssue$Stage")
  | 3 => .array .int
  | 4 => .array .int
  | 5 => .object "PleasToIssue$Rules"
  | 6 => .int
  | 7 => .int
  | 8 => .int
  | 9 => .int
  | _ => .int
abbrev wsX20 : List Cond := u_ws RX2 TX2 11
theorem nmX2 : ∀ a, a < 11 → ∀ b, b < 11 → a ≠ b → (TX2 a).2.1 ≠ (TX2 b).2.1 := by decide +kernel
theorem tyX2_ok : ∀ k, k < 11 → parseFieldDescriptor (TX2 k).2.2.1 = some (tyX2 k) := by decide +kernel
abbrev cX2_init : ByteArray := prog_4_method_1_code
def yX2_init : MethodName := ⟨RX2, "<init>", "([I[I)V"⟩
abbrev cX2_restart : ByteArray := prog_4_method_2_code
def yX2_restart : MethodName := ⟨RX2, "restart", "(LPleasToIssue$Rules;I)V"⟩
abbrev cX2_now : ByteArray := prog_4_method_3_code
def yX2_now : MethodName := ⟨RX2, "now", "()LPleasToIssue$Stage;"⟩
abbrev cX2_weigh : ByteArray := prog_4_method_4_code
def yX2_weigh : MethodName := ⟨RX2, "weigh", "()V"⟩
abbrev cX2_open : ByteArray := prog_4_method_5_code
def yX2_open : MethodName := ⟨RX2, "open", "()I"⟩
abbrev cX2_make : ByteArray := prog_4_method_6_code
def yX2_make : MethodName := ⟨RX2, "make", "(I)V"⟩
abbrev cX2_pleaAt : ByteArray := prog_4_method_7_code
def yX2_pleaAt : MethodName := ⟨RX2, "pleaAt", "(I)I"⟩
abbrev cX2_endSort : ByteArray := prog_4_method_8_code
def yX2_endSort : MethodName := ⟨RX2, "endSort", "()I"⟩
abbrev cX2_countEnds : ByteArray := prog_4_method_9_code
def yX2_countEnds : MethodName := ⟨RX2, "countEnds", "(I)I"⟩
abbrev cX2_walkEnds : ByteArray := prog_4_method_10_code
def yX2_walkEnds : MethodName := ⟨RX2, "walkEnds", "(I)V"⟩
abbrev cX2_pleaOfRow : ByteArray := prog_4_method_11_code
def yX2_pleaOfRow : MethodName := ⟨RX2, "pleaOfRow", "(II)I"⟩
abbrev cX2_seekRow : ByteArray := prog_4_method_12_code
def yX2_seekRow : MethodName := ⟨RX2, "seekRow", "(I)Z"⟩
abbrev cX2_worthIn : ByteArray := prog_4_method_13_code
def yX2_worthIn : MethodName := ⟨RX2, "worthIn", "(LPleasToIssue$Case;)I"⟩
abbrev cX2_valueIn : ByteArray := prog_4_method_14_code
def yX2_valueIn : MethodName := ⟨RX2, "valueIn", "(LPleasToIssue$Case;)I"⟩
abbrev cX2_valueFrom : ByteArray := prog_4_method_15_code
def yX2_valueFrom : MethodName := ⟨RX2, "valueFrom", "(LPleasToIssue$Case;III)I"⟩
abbrev cX2_bestNow : ByteArray := prog_4_method_16_code
def yX2_bestNow : MethodName := ⟨RX2, "bestNow", "(LPleasToIssue$Case;)I"⟩
abbrev cX2_pleaOfBest : ByteArray := prog_4_method_17_code
def yX2_pleaOfBest : MethodName := ⟨RX2, "pleaOfBest", "(LPleasToIssue$Case;I)I"⟩
abbrev cX2_trapsIn : ByteArray := prog_4_method_18_code
def yX2_trapsIn : MethodName := ⟨RX2, "trapsIn", "(LPleasToIssue$Case;II)I"⟩
abbrev cX2_edgeIn : ByteArray := prog_4_method_19_code
def yX2_edgeIn : MethodName := ⟨RX2, "edgeIn", "(LPleasToIssue$Case;)I"⟩
def RX3 : String := "PleasToIssue$Rules"
def TX3 : u_T := fun k => match k with
  | 0 => ("PleasToIssue$Rules", "clauses", "I", false)
  | 1 => ("PleasToIssue$Rules", "sorts", "[I", true)
  | 2 => ("PleasToIssue$Rules", "whats", "[I", true)
  | 3 => ("PleasToIssue$Rules", "stepsEnd", "[I", true)
  | 4 => ("PleasToIssue$Rules", "steps", "I", false)
  | _ => ("PleasToIssue$Rules", "step", "[I", true)
def tyX3 : Nat → FieldType := fun k => match k with
  | 0 => .int
  | 1 => .array .int
  | 2 => .array .int
  | 3 => .array .int
  | 4 => .int
  | _ => .array .int
abbrev wsX30 : List Cond := u_ws RX3 TX3 6
theorem nmX3 : ∀ a, a < 6 → ∀ b, b < 6 → a ≠ b → (TX3 a).2.1 ≠ (TX3 b).2.1 := by decide +kernel
theorem tyX3_ok : ∀ k, k < 6 → parseFieldDescriptor (TX3 k).2.2.1 = some (tyX3 k) := by decide +kernel
abbrev cX3_init : ByteArray := prog_5_method_1_code
def yX3_init : MethodName := ⟨RX3, "<init>", "()V"⟩
abbrev cX3_clear : ByteArray := prog_5_method_2_code
def yX3_clear : MethodName := ⟨RX3, "clear", "()V"⟩
abbrev cX3_addClause : ByteArray := prog_5_method_3_code
def yX3_addClause : MethodName := ⟨RX3, "addClause", "(II)V"⟩
abbrev cX3_addStep : ByteArray := prog_5_method_4_code
def yX3_addStep : MethodName := ⟨RX3, "addStep", "(I)V"⟩
abbrev cX3_addTest : ByteArray := prog_5_method_5_code
def yX3_addTest : MethodName := ⟨RX3, "addTest", "(III)V"⟩
abbrev cX3_numberOf : ByteArray := prog_5_method_6_code
def yX3_numberOf : MethodName := ⟨RX3, "numberOf", "(IIII)I"⟩
abbrev cX3_kindsThat : ByteArray := prog_5_method_7_code
def yX3_kindsThat : MethodName := ⟨RX3, "kindsThat", "(II[I)I"⟩
abbrev cX3_holds : ByteArray := prog_5_method_8_code
def yX3_holds : MethodName := ⟨RX3, "holds", "(I[I)Z"⟩
def RX4 : String := "PleasToIssue$Stage"
def TX4 : u_T := fun k => match k with
  | 0 => ("PleasToIssue$Stage", "plea", "I", false)
  | 1 => ("PleasToIssue$Stage", "kind", "I", false)
  | 2 => ("PleasToIssue$Stage", "slip", "I", false)
  | 3 => ("PleasToIssue$Stage", "point", "I", false)
  | 4 => ("PleasToIssue$Stage", "pleader", "I", false)
  | 5 => ("PleasToIssue$Stage", "admitted", "I", false)
  | 6 => ("PleasToIssue$Stage", "stood", "I", false)
  | 7 => ("PleasToIssue$Stage", "daysAsked", "[I", true)
  | 8 => ("PleasToIssue$Stage", "barred", "I", false)
  | 9 => ("PleasToIssue$Stage", "slips", "I", false)
  | _ => ("PleasToIssue$Stage", "best", "I", false)
def tyX4 : Nat → FieldType := fun k => match k with
  | 0 => .int
  | 1 => .int
  | 2 => .int
  | 3 => .int
  | 4 => .int
  | 5 => .int
  | 6 => .int
  | 7 => .array .int
  | 8 => .int
  | 9 => .int
  | _ => .int
abbrev wsX40 : List Cond := u_ws RX4 TX4 11
theorem nmX4 : ∀ a, a < 11 → ∀ b, b < 11 → a ≠ b → (TX4 a).2.1 ≠ (TX4 b).2.1 := by decide +kernel
theorem tyX4_ok : ∀ k, k < 11 → parseFieldDescriptor (TX4 k).2.2.1 = some (tyX4 k) := by decide +kernel
abbrev cX4_init : ByteArray := prog_6_method_1_code
def yX4_init : MethodName := ⟨RX4, "<init>", "()V"⟩
abbrev cX4_follow : ByteArray := prog_6_method_2_code
def yX4_follow : MethodName := ⟨RX4, "follow", "(LPleasToIssue$Stage;I)V"⟩
abbrev cX4_isClosed : ByteArray := prog_6_method_3_code
def yX4_isClosed : MethodName := ⟨RX4, "isClosed", "()Z"⟩
def RX5 : String := "PleasToIssue$Text"
def TX5 : u_T := fun k => match k with
  | 0 => ("PleasToIssue$Text", "bytes", "[I", true)
  | 1 => ("PleasToIssue$Text", "length", "I", false)
  | 2 => ("PleasToIssue$Text", "into", "LPleasToIssue$Rules;", false)
  | 3 => ("PleasToIssue$Text", "at", "I", false)
  | _ => ("PleasToIssue$Text", "fault", "Z", false)
def tyX5 : Nat → FieldType := fun k => match k with
  | 0 => .array .int
  | 1 => .int
  | 2 => .object "PleasToIssue$Rules"
  | 3 => .int
  | _ => .boolean
abbrev wsX50 : List Cond := u_ws RX5 TX5 5
theorem nmX5 : ∀ a, a < 5 → ∀ b, b < 5 → a ≠ b → (TX5 a).2.1 ≠ (TX5 b).2.1 := by decide +kernel
theorem tyX5_ok : ∀ k, k < 5 → parseFieldDescriptor (TX5 k).2.2.1 = some (tyX5 k) := by decide +kernel
abbrev cX5_init : ByteArray := prog_7_method_1_code
def yX5_init : MethodName := ⟨RX5, "<init>", "()V"⟩
abbrev cX5_add : ByteArray := prog_7_method_2_code
def yX5_add : MethodName := ⟨RX5, "add", "(I)V"⟩
abbrev cX5_faultOf : ByteArray := prog_7_method_3_code
def yX5_faultOf : MethodName := ⟨RX5, "faultOf", "(LPleasToIssue$Rules;)I"⟩
abbrev cX5_isNext : ByteArray := prog_7_method_4_code
def yX5_isNext : MethodName := ⟨RX5, "isNext", "(C)Z"⟩
abbrev cX5_take : ByteArray := prog_7_method_5_code
def yX5_take : MethodName := ⟨RX5, "take", "(Ljava/lang/String;)V"⟩
abbrev cX5_takeOneOf : ByteArray := prog_7_method_6_code
def yX5_takeOneOf : MethodName := ⟨RX5, "takeOneOf", "(Ljava/lang/String;)I"⟩
abbrev cX5_takeClause : ByteArray := prog_7_method_7_code
def yX5_takeClause : MethodName := ⟨RX5, "takeClause", "()V"⟩
abbrev cX5_takeEither : ByteArray := prog_7_method_8_code
def yX5_takeEither : MethodName := ⟨RX5, "takeEither", "(I)V"⟩
abbrev cX5_takeBoth : ByteArray := prog_7_method_9_code
def yX5_takeBoth : MethodName := ⟨RX5, "takeBoth", "(I)V"⟩
abbrev cX5_takePart : ByteArray := prog_7_method_10_code
def yX5_takePart : MethodName := ⟨RX5, "takePart", "(I)V"⟩
abbrev cX5_takeTest : ByteArray := prog_7_method_11_code
def yX5_takeTest : MethodName := ⟨RX5, "takeTest", "()V"⟩
def RX6 : String := "PleasToIssue"
def TX6 : u_T := fun k => match k with
  | 0 => ("PleasToIssue", "excuses", "[I", true)
  | 1 => ("PleasToIssue", "assigns", "[I", true)
  | 2 => ("PleasToIssue", "cases", "[LPleasToIssue$Case;", true)
  | 3 => ("PleasToIssue", "caseCount", "I", false)
  | 4 => ("PleasToIssue", "text", "LPleasToIssue$Text;", true)
  | 5 => ("PleasToIssue", "allRules", "[LPleasToIssue$Rules;", true)
  | 6 => ("PleasToIssue", "rulesCount", "I", false)
  | 7 => ("PleasToIssue", "kept", "LPleasToIssue$Roll;", true)
  | 8 => ("PleasToIssue", "tried", "LPleasToIssue$Roll;", true)
  | 9 => ("PleasToIssue", "acts", "LPleasToIssue$Acts;", true)
  | 10 => ("PleasToIssue", "tapeSorts", "[I", true)
  | 11 => ("PleasToIssue", "tapeSizes", "[I", true)
  | _ => ("PleasToIssue", "tapeItems", "[[J", true)
def tyX6 : Nat → FieldType := fun k => match k with
  | 0 => .array .int
  | 1 => .array .int
  | 2 => .array (.object "PleasToIssue$Case")
  | 3 => .int
  | 4 => .object "PleasToIssue$Text"
  | 5 => .array (.object "PleasToIssue$Rules")
  | 6 => .int
  | 7 => .object "PleasToIssue$Roll"
  | 8 => .object "PleasToIssue$Roll"
  | 9 => .object "PleasToIssue$Acts"
  | 10 => .array .int
  | 11 => .array .int
  | _ => .array (.array .long)
abbrev wsX60 : List Cond := u_ws RX6 TX6 13
theorem nmX6 : ∀ a, a < 13 → ∀ b, b < 13 → a ≠ b → (TX6 a).2.1 ≠ (TX6 b).2.1 := by decide +kernel
theorem tyX6_ok : ∀ k, k < 13 → parseFieldDescriptor (TX6 k).2.2.1 = some (tyX6 k) := by decide +kernel
abbrev cX6_init : ByteArray := prog_1_method_1_code
def yX6_init : MethodName := ⟨RX6, "<init>", "()V"⟩
abbrev cX6_link : ByteArray := prog_1_method_2_code
def yX6_link : MethodName := ⟨RX6, "link", "(IIIZ)I"⟩
abbrev cX6_newCase : ByteArray := prog_1_method_3_code
def yX6_newCase : MethodName := ⟨RX6, "newCase", "(I)I"⟩
abbrev cX6_put : ByteArray := prog_1_method_4_code
def yX6_put : MethodName := ⟨RX6, "put", "(IIII)I"⟩
abbrev cX6_of : ByteArray := prog_1_method_5_code
def yX6_of : MethodName := ⟨RX6, "of", "(III)I"⟩
abbrev cX6_feed : ByteArray := prog_1_method_6_code
def yX6_feed : MethodName := ⟨RX6, "feed", "(II)I"⟩
abbrev cX6_rules : ByteArray := prog_1_method_7_code
def yX6_rules : MethodName := ⟨RX6, "rules", "()I"⟩
abbrev cX6_begin : ByteArray := prog_1_method_8_code
def yX6_begin : MethodName := ⟨RX6, "begin", "(I)I"⟩
abbrev cX6_may : ByteArray := prog_1_method_9_code
def yX6_may : MethodName := ⟨RX6, "may", "(I)I"⟩
abbrev cX6_plead : ByteArray := prog_1_method_10_code
def yX6_plead : MethodName := ⟨RX6, "plead", "(I)I"⟩
abbrev cX6_back : ByteArray := prog_1_method_11_code
def yX6_back : MethodName := ⟨RX6, "back", "()I"⟩
abbrev cX6_stands : ByteArray := prog_1_method_12_code
def yX6_stands : MethodName := ⟨RX6, "stands", "(I)I"⟩
abbrev cX6_ends : ByteArray := prog_1_method_13_code
def yX6_ends : MethodName := ⟨RX6, "ends", "(I)I"⟩
abbrev cX6_row : ByteArray := prog_1_method_14_code
def yX6_row : MethodName := ⟨RX6, "row", "(II)I"⟩
abbrev cX6_worth : ByteArray := prog_1_method_15_code
def yX6_worth : MethodName := ⟨RX6, "worth", "(I)I"⟩
abbrev cX6_best : ByteArray := prog_1_method_16_code
def yX6_best : MethodName := ⟨RX6, "best", "(II)I"⟩
abbrev cX6_traps : ByteArray := prog_1_method_17_code
def yX6_traps : MethodName := ⟨RX6, "traps", "(III)I"⟩
abbrev cX6_ought : ByteArray := prog_1_method_18_code
def yX6_ought : MethodName := ⟨RX6, "ought", "(I)I"⟩
abbrev cX6_right : ByteArray := prog_1_method_19_code
def yX6_right : MethodName := ⟨RX6, "right", "(I)I"⟩
abbrev cX6_edge : ByteArray := prog_1_method_20_code
def yX6_edge : MethodName := ⟨RX6, "edge", "(I)I"⟩
abbrev cX6_reform : ByteArray := prog_1_method_21_code
def yX6_reform : MethodName := ⟨RX6, "reform", "(I)I"⟩
abbrev cX6_told : ByteArray := prog_1_method_22_code
def yX6_told : MethodName := ⟨RX6, "told", "(IIII)I"⟩
abbrev cX6_act : ByteArray := prog_1_method_23_code
def yX6_act : MethodName := ⟨RX6, "act", "(III)I"⟩
abbrev cX6_trace : ByteArray := prog_1_method_24_code
def yX6_trace : MethodName := ⟨RX6, "trace", "(I)I"⟩
abbrev cX6_taken : ByteArray := prog_1_method_25_code
def yX6_taken : MethodName := ⟨RX6, "taken", "(II)I"⟩
abbrev cX6_count : ByteArray := prog_1_method_26_code
def yX6_count : MethodName := ⟨RX6, "count", "(I)I"⟩
abbrev cX6_tape : ByteArray := prog_1_method_27_code
def yX6_tape : MethodName := ⟨RX6, "tape", "(III)I"⟩
abbrev cX6_item : ByteArray := prog_1_method_28_code
def yX6_item : MethodName := ⟨RX6, "item", "(IIJ)I"⟩
abbrev cX6_read : ByteArray := prog_1_method_29_code
def yX6_read : MethodName := ⟨RX6, "read", "(II)J"⟩
abbrev cX6_shift : ByteArray := prog_1_method_30_code
def yX6_shift : MethodName := ⟨RX6, "shift", "(IIIII)I"⟩
abbrev cX6_isPoint : ByteArray := prog_1_method_31_code
def yX6_isPoint : MethodName := ⟨RX6, "isPoint", "(I)Z"⟩
abbrev cX6_isTape : ByteArray := prog_1_method_32_code
def yX6_isTape : MethodName := ⟨RX6, "isTape", "(I)Z"⟩
abbrev cX6_asNumber : ByteArray := prog_1_method_33_code
def yX6_asNumber : MethodName := ⟨RX6, "asNumber", "(Z)I"⟩
abbrev cX6_asItem : ByteArray := prog_1_method_34_code
def yX6_asItem : MethodName := ⟨RX6, "asItem", "(IJ)J"⟩
abbrev cX6_placeOf : ByteArray := prog_1_method_35_code
def yX6_placeOf : MethodName := ⟨RX6, "placeOf", "(I)I"⟩
abbrev cX6_caseAt : ByteArray := prog_1_method_36_code
def yX6_caseAt : MethodName := ⟨RX6, "caseAt", "(I)LPleasToIssue$Case;"⟩
abbrev cX6_rulesAt : ByteArray := prog_1_method_37_code
def yX6_rulesAt : MethodName := ⟨RX6, "rulesAt", "(I)LPleasToIssue$Rules;"⟩
abbrev cX6_rightCases : ByteArray := prog_1_method_38_code
def yX6_rightCases : MethodName := ⟨RX6, "rightCases", "(LPleasToIssue$Rules;I)I"⟩
def RX7 : String := "PleasToIssueModel"
def TX7 : u_T := fun k => match k with
  | 0 => ("PleasToIssueModel", "cases", "I", false)
  | 1 => ("PleasToIssueModel", "excuses", "[I", true)
  | 2 => ("PleasToIssueModel", "assigns", "[I", true)
  | 3 => ("PleasToIssueModel", "so", "[I", true)
  | 4 => ("PleasToIssueModel", "proof0", "[I", true)
  | 5 => ("PleasToIssueModel", "proof1", "[I", true)
  | 6 => ("PleasToIssueModel", "wrong", "[I", true)
  | 7 => ("PleasToIssueModel", "up", "[Z", true)
  | 8 => ("PleasToIssueModel", "rules", "I", false)
  | 9 => ("PleasToIssueModel", "fed", "I", false)
  | 10 => ("PleasToIssueModel", "at", "I", false)
  | 11 => ("PleasToIssueModel", "digits", "I", false)
  | 12 => ("PleasToIssueModel", "text", "[I", true)
  | 13 => ("PleasToIssueModel", "clauses", "[I", true)
  | 14 => ("PleasToIssueModel", "word", "[I", true)
  | 15 => ("PleasToIssueModel", "kind", "[I", true)
  | 16 => ("PleasToIssueModel", "figure", "[I", true)
  | 17 => ("PleasToIssueModel", "from", "[I", true)
  | 18 => ("PleasToIssueModel", "to", "[I", true)
  | 19 => ("PleasToIssueModel", "sign", "[I", true)
  | 20 => ("PleasToIssueModel", "waits", "[I", true)
  | 21 => ("PleasToIssueModel", "signs", "I", false)
  | 22 => ("PleasToIssueModel", "waiting", "I", false)
  | 23 => ("PleasToIssueModel", "open", "I", false)
  | 24 => ("PleasToIssueModel", "by", "I", false)
  | 25 => ("PleasToIssueModel", "without", "I", false)
  | 26 => ("PleasToIssueModel", "pleas", "I", false)
  | 27 => ("PleasToIssueModel", "made", "[I", true)
  | 28 => ("PleasToIssueModel", "stood", "[I", true)
  | 29 => ("PleasToIssueModel", "point", "[I", true)
  | 30 => ("PleasToIssueModel", "who", "[I", true)
  | 31 => ("PleasToIssueModel", "admitted", "[I", true)
  | 32 => ("PleasToIssueModel", "latest", "[I", true)
  | 33 => ("PleasToIssueModel", "ended", "[I", true)
  | 34 => ("PleasToIssueModel", "days0", "[I", true)
  | 35 => ("PleasToIssueModel", "days1", "[I", true)
  | 36 => ("PleasToIssueModel", "isSlip", "[Z", true)
  | 37 => ("PleasToIssueModel", "pile", "[Z", true)
  | 38 => ("PleasToIssueModel", "all", "[I", true)
  | 39 => ("PleasToIssueModel", "keptMade", "[I", true)
  | 40 => ("PleasToIssueModel", "keptPleas", "I", false)
  | 41 => ("PleasToIssueModel", "keptBy", "I", false)
  | 42 => ("PleasToIssueModel", "goesOn", "[I", true)
  | 43 => ("PleasToIssueModel", "value", "[I", true)
  | 44 => ("PleasToIssueModel", "bestPlea", "[I", true)
  | 45 => ("PleasToIssueModel", "ran", "I", false)
  | 46 => ("PleasToIssueModel", "bodies", "[I", true)
  | 47 => ("PleasToIssueModel", "sort", "[I", true)
  | 48 => ("PleasToIssueModel", "length", "[I", true)
  | 49 => ("PleasToIssueModel", "item", "[J", true)
  | _ => ("PleasToIssueModel", "aside", "[J", true)
def tyX7 : Nat → FieldType := fun k => match k with
  | 0 => .int
  | 1 => .array .int
  | 2 => .array .int
  | 3 => .array .int
  | 4 => .array .int
  | 5 => .array .int
  | 6 => .array .int
  | 7 => .array .boolean
  | 8 => .int
  | 9 => .int
  | 10 => .int
  | 11 => .int
  | 12 => .array .int
  | 13 => .array .int
  | 14 => .array .int
  | 15 => .array .int
  | 16 => .array .int
  | 17 => .array .int
  | 18 => .array .int
  | 19 => .array .int
  | 20 => .array .int
  | 21 => .int
  | 22 => .int
  | 23 => .int
  | 24 => .int
  | 25 => .int
  | 26 => .int
  | 27 => .array .int
  | 28 => .array .int
  | 29 => .array .int
  | 30 => .array .int
  | 31 => .array .int
  | 32 => .array .int
  | 33 => .array .int
  | 34 => .array .int
  | 35 => .array .int
  | 36 => .array .boolean
  | 37 => .array .boolean
  | 38 => .array .int
  | 39 => .array .int
  | 40 => .int
  | 41 => .int
  | 42 => .array .int
  | 43 => .array .int
  | 44 => .array .int
  | 45 => .int
  | 46 => .array .int
  | 47 => .array .int
  | 48 => .array .int
  | 49 => .array .long
  | _ => .array .long
abbrev wsX70 : List Cond := u_ws RX7 TX7 51
theorem nmX7 : ∀ a, a < 51 → ∀ b, b < 51 → a ≠ b → (TX7 a).2.1 ≠ (TX7 b).2.1 := by decide +kernel
theorem tyX7_ok : ∀ k, k < 51 → parseFieldDescriptor (TX7 k).2.2.1 = some (tyX7 k) := by decide +kernel
abbrev cX7_in : ByteArray := prog_9_method_1_code
def yX7_in : MethodName := ⟨RX7, "in", "(III)Z"⟩
abbrev cX7_has : ByteArray := prog_9_method_2_code
def yX7_has : MethodName := ⟨RX7, "has", "(II)Z"⟩
abbrev cX7_ones : ByteArray := prog_9_method_3_code
def yX7_ones : MethodName := ⟨RX7, "ones", "(I)I"⟩
abbrev cX7_isPoint : ByteArray := prog_9_method_4_code
def yX7_isPoint : MethodName := ⟨RX7, "isPoint", "(I)Z"⟩
abbrev cX7_isCase : ByteArray := prog_9_method_5_code
def yX7_isCase : MethodName := ⟨RX7, "isCase", "(I)Z"⟩
abbrev cX7_link : ByteArray := prog_9_method_6_code
def yX7_link : MethodName := ⟨RX7, "link", "(IIIZ)I"⟩
abbrev cX7_newCase : ByteArray := prog_9_method_7_code
def yX7_newCase : MethodName := ⟨RX7, "newCase", "(I)I"⟩
abbrev cX7_put : ByteArray := prog_9_method_8_code
def yX7_put : MethodName := ⟨RX7, "put", "(IIII)I"⟩
abbrev cX7_findUp : ByteArray := prog_9_method_9_code
def yX7_findUp : MethodName := ⟨RX7, "findUp", "(I)V"⟩
abbrev cX7_of : ByteArray := prog_9_method_10_code
def yX7_of : MethodName := ⟨RX7, "of", "(III)I"⟩
abbrev cX7_isOught : ByteArray := prog_9_method_11_code
def yX7_isOught : MethodName := ⟨RX7, "isOught", "(I)Z"⟩
abbrev cX7_ought : ByteArray := prog_9_method_12_code
def yX7_ought : MethodName := ⟨RX7, "ought", "(I)I"⟩
abbrev cX7_isRules : ByteArray := prog_9_method_13_code
def yX7_isRules : MethodName := ⟨RX7, "isRules", "(I)Z"⟩
abbrev cX7_feed : ByteArray := prog_9_method_14_code
def yX7_feed : MethodName := ⟨RX7, "feed", "(II)I"⟩
abbrev cX7_next : ByteArray := prog_9_method_15_code
def yX7_next : MethodName := ⟨RX7, "next", "()I"⟩
abbrev cX7_takes : ByteArray := prog_9_method_16_code
def yX7_takes : MethodName := ⟨RX7, "takes", "(I)Z"⟩
abbrev cX7_takesWord : ByteArray := prog_9_method_17_code
def yX7_takesWord : MethodName := ⟨RX7, "takesWord", "(II)Z"⟩
abbrev cX7_isDigit : ByteArray := prog_9_method_18_code
def yX7_isDigit : MethodName := ⟨RX7, "isDigit", "()Z"⟩
abbrev cX7_takesNumber : ByteArray := prog_9_method_19_code
def yX7_takesNumber : MethodName := ⟨RX7, "takesNumber", "(I)Z"⟩
abbrev cX7_put_ : ByteArray := prog_9_method_20_code
def yX7_put_ : MethodName := ⟨RX7, "put", "(I)V"⟩
abbrev cX7_whole : ByteArray := prog_9_method_21_code
def yX7_whole : MethodName := ⟨RX7, "whole", "()V"⟩
abbrev cX7_settle : ByteArray := prog_9_method_22_code
def yX7_settle : MethodName := ⟨RX7, "settle", "(I)V"⟩
abbrev cX7_place : ByteArray := prog_9_method_23_code
def yX7_place : MethodName := ⟨RX7, "place", "(I)I"⟩
abbrev cX7_takesTest : ByteArray := prog_9_method_24_code
def yX7_takesTest : MethodName := ⟨RX7, "takesTest", "()Z"⟩
abbrev cX7_takesE : ByteArray := prog_9_method_25_code
def yX7_takesE : MethodName := ⟨RX7, "takesE", "(I)Z"⟩
abbrev cX7_takesKind : ByteArray := prog_9_method_26_code
def yX7_takesKind : MethodName := ⟨RX7, "takesKind", "(I)Z"⟩
abbrev cX7_takesClause : ByteArray := prog_9_method_27_code
def yX7_takesClause : MethodName := ⟨RX7, "takesClause", "(I)Z"⟩
abbrev cX7_goes : ByteArray := prog_9_method_28_code
def yX7_goes : MethodName := ⟨RX7, "goes", "(I)Z"⟩
abbrev cX7_rules : ByteArray := prog_9_method_29_code
def yX7_rules : MethodName := ⟨RX7, "rules", "()I"⟩
abbrev cX7_init : ByteArray := prog_9_method_30_code
def yX7_init : MethodName := ⟨RX7, "<init>", "()V"⟩
abbrev cX7_empty : ByteArray := prog_9_method_31_code
def yX7_empty : MethodName := ⟨RX7, "empty", "()V"⟩
abbrev cX7_factOf : ByteArray := prog_9_method_32_code
def yX7_factOf : MethodName := ⟨RX7, "factOf", "(I)I"⟩
abbrev cX7_holds : ByteArray := prog_9_method_33_code
def yX7_holds : MethodName := ⟨RX7, "holds", "(I)Z"⟩
abbrev cX7_some : ByteArray := prog_9_method_34_code
def yX7_some : MethodName := ⟨RX7, "some", "(II)Z"⟩
abbrev cX7_figureOf : ByteArray := prog_9_method_35_code
def yX7_figureOf : MethodName := ⟨RX7, "figureOf", "(III)I"⟩
abbrev cX7_isPlea : ByteArray := prog_9_method_36_code
def yX7_isPlea : MethodName := ⟨RX7, "isPlea", "(I)Z"⟩
abbrev cX7_can : ByteArray := prog_9_method_37_code
def yX7_can : MethodName := ⟨RX7, "can", "(I)Z"⟩
abbrev cX7_make : ByteArray := prog_9_method_38_code
def yX7_make : MethodName := ⟨RX7, "make", "(I)V"⟩
abbrev cX7_nextMay : ByteArray := prog_9_method_39_code
def yX7_nextMay : MethodName := ⟨RX7, "nextMay", "(I)I"⟩
abbrev cX7_endSort : ByteArray := prog_9_method_40_code
def yX7_endSort : MethodName := ⟨RX7, "endSort", "()I"⟩
abbrev cX7_keepRoll : ByteArray := prog_9_method_41_code
def yX7_keepRoll : MethodName := ⟨RX7, "keepRoll", "()V"⟩
abbrev cX7_beginBy : ByteArray := prog_9_method_42_code
def yX7_beginBy : MethodName := ⟨RX7, "beginBy", "(I)V"⟩
abbrev cX7_putBack : ByteArray := prog_9_method_43_code
def yX7_putBack : MethodName := ⟨RX7, "putBack", "()V"⟩
abbrev cX7_begin : ByteArray := prog_9_method_44_code
def yX7_begin : MethodName := ⟨RX7, "begin", "(I)I"⟩
abbrev cX7_may : ByteArray := prog_9_method_45_code
def yX7_may : MethodName := ⟨RX7, "may", "(I)I"⟩
abbrev cX7_plead : ByteArray := prog_9_method_46_code
def yX7_plead : MethodName := ⟨RX7, "plead", "(I)I"⟩
abbrev cX7_back : ByteArray := prog_9_method_47_code
def yX7_back : MethodName := ⟨RX7, "back", "()I"⟩
abbrev cX7_stands : ByteArray := prog_9_method_48_code
def yX7_stands : MethodName := ⟨RX7, "stands", "(I)I"⟩
abbrev cX7_nextEnd : ByteArray := prog_9_method_49_code
def yX7_nextEnd : MethodName := ⟨RX7, "nextEnd", "(IZ)Z"⟩
abbrev cX7_ends : ByteArray := prog_9_method_50_code
def yX7_ends : MethodName := ⟨RX7, "ends", "(I)I"⟩
abbrev cX7_row : ByteArray := prog_9_method_51_code
def yX7_row : MethodName := ⟨RX7, "row", "(II)I"⟩
abbrev cX7_worthOf : ByteArray := prog_9_method_52_code
def yX7_worthOf : MethodName := ⟨RX7, "worthOf", "(I)I"⟩
abbrev cX7_worth : ByteArray := prog_9_method_53_code
def yX7_worth : MethodName := ⟨RX7, "worth", "(I)I"⟩
abbrev cX7_comesUp : ByteArray := prog_9_method_54_code
def yX7_comesUp : MethodName := ⟨RX7, "comesUp", "(II)V"⟩
abbrev cX7_valueOf : ByteArray := prog_9_method_55_code
def yX7_valueOf : MethodName := ⟨RX7, "valueOf", "(I)I"⟩
abbrev cX7_best : ByteArray := prog_9_method_56_code
def yX7_best : MethodName := ⟨RX7, "best", "(II)I"⟩
abbrev cX7_traps : ByteArray := prog_9_method_57_code
def yX7_traps : MethodName := ⟨RX7, "traps", "(III)I"⟩
abbrev cX7_rightNow : ByteArray := prog_9_method_58_code
def yX7_rightNow : MethodName := ⟨RX7, "rightNow", "()I"⟩
abbrev cX7_right : ByteArray := prog_9_method_59_code
def yX7_right : MethodName := ⟨RX7, "right", "(I)I"⟩
abbrev cX7_edge : ByteArray := prog_9_method_60_code
def yX7_edge : MethodName := ⟨RX7, "edge", "(I)I"⟩
abbrev cX7_reform : ByteArray := prog_9_method_61_code
def yX7_reform : MethodName := ⟨RX7, "reform", "(I)I"⟩
abbrev cX7_told : ByteArray := prog_9_method_62_code
def yX7_told : MethodName := ⟨RX7, "told", "(IIII)I"⟩
abbrev cX7_body : ByteArray := prog_9_method_63_code
def yX7_body : MethodName := ⟨RX7, "body", "(I)V"⟩
abbrev cX7_plainPleads : ByteArray := prog_9_method_64_code
def yX7_plainPleads : MethodName := ⟨RX7, "plainPleads", "(I)I"⟩
abbrev cX7_excusePleads : ByteArray := prog_9_method_65_code
def yX7_excusePleads : MethodName := ⟨RX7, "excusePleads", "(I)I"⟩
abbrev cX7_pleads : ByteArray := prog_9_method_66_code
def yX7_pleads : MethodName := ⟨RX7, "pleads", "(II)I"⟩
abbrev cX7_plainAdmits : ByteArray := prog_9_method_67_code
def yX7_plainAdmits : MethodName := ⟨RX7, "plainAdmits", "(II)I"⟩
abbrev cX7_admits : ByteArray := prog_9_method_68_code
def yX7_admits : MethodName := ⟨RX7, "admits", "(II)I"⟩
abbrev cX7_plainTells : ByteArray := prog_9_method_69_code
def yX7_plainTells : MethodName := ⟨RX7, "plainTells", "(II)I"⟩
abbrev cX7_tells : ByteArray := prog_9_method_70_code
def yX7_tells : MethodName := ⟨RX7, "tells", "(II)I"⟩
abbrev cX7_act : ByteArray := prog_9_method_71_code
def yX7_act : MethodName := ⟨RX7, "act", "(III)I"⟩
abbrev cX7_trace : ByteArray := prog_9_method_72_code
def yX7_trace : MethodName := ⟨RX7, "trace", "(I)I"⟩
abbrev cX7_taken : ByteArray := prog_9_method_73_code
def yX7_taken : MethodName := ⟨RX7, "taken", "(II)I"⟩
abbrev cX7_count : ByteArray := prog_9_method_74_code
def yX7_count : MethodName := ⟨RX7, "count", "(I)I"⟩
abbrev cX7_isTape : ByteArray := prog_9_method_75_code
def yX7_isTape : MethodName := ⟨RX7, "isTape", "(I)Z"⟩
abbrev cX7_tape : ByteArray := prog_9_method_76_code
def yX7_tape : MethodName := ⟨RX7, "tape", "(III)I"⟩
abbrev cX7_narrow : ByteArray := prog_9_method_77_code
def yX7_narrow : MethodName := ⟨RX7, "narrow", "(IJ)J"⟩
abbrev cX7_item : ByteArray := prog_9_method_78_code
def yX7_item : MethodName := ⟨RX7, "item", "(IIJ)I"⟩
abbrev cX7_read : ByteArray := prog_9_method_79_code
def yX7_read : MethodName := ⟨RX7, "read", "(II)J"⟩
abbrev cX7_shift : ByteArray := prog_9_method_80_code
def yX7_shift : MethodName := ⟨RX7, "shift", "(IIIII)I"⟩
def RJ11 : String := "java/lang/Character"
def TJ11 : u_T := fun k => match k with
  | _ => ("", "", "", false)
def tyJ11 : Nat → FieldType := fun k => match k with
  | _ => .int
abbrev wsJ110 : List Cond := u_ws RJ11 TJ11 0
theorem nmJ11 : ∀ a, a < 0 → ∀ b, b < 0 → a ≠ b → (TJ11 a).2.1 ≠ (TJ11 b).2.1 := by decide +kernel
theorem tyJ11_ok : ∀ k, k < 0 → parseFieldDescriptor (TJ11 k).2.2.1 = some (tyJ11 k) := by decide +kernel
abbrev cJ11_isValidCodePoint_9a6ad : ByteArray := prog_10_method_11_code
def yJ11_isValidCodePoint_9a6ad : MethodName := ⟨RJ11, "isValidCodePoint", "(I)Z"⟩
abbrev cJ11_highSurrogate_5068e : ByteArray := prog_10_method_28_code
def yJ11_highSurrogate_5068e : MethodName := ⟨RJ11, "highSurrogate", "(I)C"⟩
abbrev cJ11_lowSurrogate_5068e : ByteArray := prog_10_method_29_code
def yJ11_lowSurrogate_5068e : MethodName := ⟨RJ11, "lowSurrogate", "(I)C"⟩
def RJ6 : String := "java/lang/Integer"
def TJ6 : u_T := fun k => match k with
  | _ => ("", "", "", false)
def tyJ6 : Nat → FieldType := fun k => match k with
  | _ => .int
abbrev wsJ60 : List Cond := u_ws RJ6 TJ6 0
theorem nmJ6 : ∀ a, a < 0 → ∀ b, b < 0 → a ≠ b → (TJ6 a).2.1 ≠ (TJ6 b).2.1 := by decide +kernel
theorem tyJ6_ok : ∀ k, k < 0 → parseFieldDescriptor (TJ6 k).2.2.1 = some (tyJ6 k) := by decide +kernel
abbrev cJ6_bitCount_0f7a4 : ByteArray := prog_11_method_49_code
def yJ6_bitCount_0f7a4 : MethodName := ⟨RJ6, "bitCount", "(I)I"⟩
def RJ9 : String := "java/lang/Math"
def TJ9 : u_T := fun k => match k with
  | _ => ("", "", "", false)
def tyJ9 : Nat → FieldType := fun k => match k with
  | _ => .int
abbrev wsJ90 : List Cond := u_ws RJ9 TJ9 0
theorem nmJ9 : ∀ a, a < 0 → ∀ b, b < 0 → a ≠ b → (TJ9 a).2.1 ≠ (TJ9 b).2.1 := by decide +kernel
theorem tyJ9_ok : ∀ k, k < 0 → parseFieldDescriptor (TJ9 k).2.2.1 = some (tyJ9 k) := by decide +kernel
abbrev cJ9_max_7cf53 : ByteArray := prog_12_method_65_code
def yJ9_max_7cf53 : MethodName := ⟨RJ9, "max", "(II)I"⟩
abbrev cJ9_min_7cf53 : ByteArray := prog_12_method_69_code
def yJ9_min_7cf53 : MethodName := ⟨RJ9, "min", "(II)I"⟩
def RJ0 : String := "java/lang/String"
def TJ0 : u_T := fun k => match k with
  | _ => ("", "", "", false)
def tyJ0 : Nat → FieldType := fun k => match k with
  | _ => .int
abbrev wsJ00 : List Cond := u_ws RJ0 TJ0 0
theorem nmJ0 : ∀ a, a < 0 → ∀ b, b < 0 → a ≠ b → (TJ0 a).2.1 ≠ (TJ0 b).2.1 := by decide +kernel
theorem tyJ0_ok : ∀ k, k < 0 → parseFieldDescriptor (TJ0 k).2.2.1 = some (tyJ0 k) := by decide +kernel
abbrev cJ0_length_8abf5 : ByteArray := prog_13_method_54_code
def yJ0_length_8abf5 : MethodName := ⟨RJ0, "length", "()I"⟩
abbrev cJ0_charAt_5068e : ByteArray := prog_13_method_56_code
def yJ0_charAt_5068e : MethodName := ⟨RJ0, "charAt", "(I)C"⟩
abbrev cJ0_indexOf_0f7a4 : ByteArray := prog_13_method_79_code
def yJ0_indexOf_0f7a4 : MethodName := ⟨RJ0, "indexOf", "(I)I"⟩
abbrev cJ0_indexOf_7cf53 : ByteArray := prog_13_method_80_code
def yJ0_indexOf_7cf53 : MethodName := ⟨RJ0, "indexOf", "(II)I"⟩
abbrev cJ0_coder_7d493 : ByteArray := prog_13_method_152_code
def yJ0_coder_7d493 : MethodName := ⟨RJ0, "coder", "()B"⟩
abbrev cJ0_isLatin1_aae02 : ByteArray := prog_13_method_154_code
def yJ0_isLatin1_aae02 : MethodName := ⟨RJ0, "isLatin1", "()Z"⟩
abbrev cJ0_checkIndex_df160 : ByteArray := prog_13_method_155_code
def yJ0_checkIndex_df160 : MethodName := ⟨RJ0, "checkIndex", "(II)V"⟩
abbrev cJ0_checkBoundsBeginEnd_23922 : ByteArray := prog_13_method_158_code
def yJ0_checkBoundsBeginEnd_23922 : MethodName := ⟨RJ0, "checkBoundsBeginEnd", "(III)V"⟩
def RJ1 : String := "java/lang/StringLatin1"
def TJ1 : u_T := fun k => match k with
  | _ => ("", "", "", false)
def tyJ1 : Nat → FieldType := fun k => match k with
  | _ => .int
abbrev wsJ10 : List Cond := u_ws RJ1 TJ1 0
theorem nmJ1 : ∀ a, a < 0 → ∀ b, b < 0 → a ≠ b → (TJ1 a).2.1 ≠ (TJ1 b).2.1 := by decide +kernel
theorem tyJ1_ok : ∀ k, k < 0 → parseFieldDescriptor (TJ1 k).2.2.1 = some (tyJ1 k) := by decide +kernel
abbrev cJ1_charAt_3b067 : ByteArray := prog_14_method_2_code
def yJ1_charAt_3b067 : MethodName := ⟨RJ1, "charAt", "([BI)C"⟩
abbrev cJ1_canEncode_9a6ad : ByteArray := prog_14_method_4_code
def yJ1_canEncode_9a6ad : MethodName := ⟨RJ1, "canEncode", "(I)Z"⟩
abbrev cJ1_indexOf_4cfef : ByteArray := prog_14_method_22_code
def yJ1_indexOf_4cfef : MethodName := ⟨RJ1, "indexOf", "([BIII)I"⟩
abbrev cJ1_indexOfChar_4cfef : ByteArray := prog_14_method_23_code
def yJ1_indexOfChar_4cfef : MethodName := ⟨RJ1, "indexOfChar", "([BIII)I"⟩
def RJ2 : String := "java/lang/StringUTF16"
def TJ2 : u_T := fun k => match k with
  | _ => ("", "", "", false)
def tyJ2 : Nat → FieldType := fun k => match k with
  | _ => .int
abbrev wsJ20 : List Cond := u_ws RJ2 TJ2 0
theorem nmJ2 : ∀ a, a < 0 → ∀ b, b < 0 → a ≠ b → (TJ2 a).2.1 ≠ (TJ2 b).2.1 := by decide +kernel
theorem tyJ2_ok : ∀ k, k < 0 → parseFieldDescriptor (TJ2 k).2.2.1 = some (tyJ2 k) := by decide +kernel
abbrev cJ2_getChar_3b067 : ByteArray := prog_15_method_5_code
def yJ2_getChar_3b067 : MethodName := ⟨RJ2, "getChar", "([BI)C"⟩
abbrev cJ2_length_9d52b : ByteArray := prog_15_method_6_code
def yJ2_length_9d52b : MethodName := ⟨RJ2, "length", "([B)I"⟩
abbrev cJ2_indexOf_4cfef : ByteArray := prog_15_method_40_code
def yJ2_indexOf_4cfef : MethodName := ⟨RJ2, "indexOf", "([BIII)I"⟩
abbrev cJ2_indexOfChar_4cfef : ByteArray := prog_15_method_47_code
def yJ2_indexOfChar_4cfef : MethodName := ⟨RJ2, "indexOfChar", "([BIII)I"⟩
abbrev cJ2_indexOfCharUnsafe_4cfef : ByteArray := prog_15_method_48_code
def yJ2_indexOfCharUnsafe_4cfef : MethodName := ⟨RJ2, "indexOfCharUnsafe", "([BIII)I"⟩
abbrev cJ2_indexOfSupplementary_4cfef : ByteArray := prog_15_method_49_code
def yJ2_indexOfSupplementary_4cfef : MethodName := ⟨RJ2, "indexOfSupplementary", "([BIII)I"⟩
abbrev cJ2_charAt_3b067 : ByteArray := prog_15_method_83_code
def yJ2_charAt_3b067 : MethodName := ⟨RJ2, "charAt", "([BI)C"⟩
abbrev cJ2_checkIndex_2214a : ByteArray := prog_15_method_91_code
def yJ2_checkIndex_2214a : MethodName := ⟨RJ2, "checkIndex", "(I[B)V"⟩
abbrev cJ2_checkBoundsBeginEnd_d044e : ByteArray := prog_15_method_93_code
def yJ2_checkBoundsBeginEnd_d044e : MethodName := ⟨RJ2, "checkBoundsBeginEnd", "(II[B)V"⟩
def RJ10 : String := "java/lang/System"
def TJ10 : u_T := fun k => match k with
  | _ => ("", "", "", false)
def tyJ10 : Nat → FieldType := fun k => match k with
  | _ => .int
abbrev wsJ100 : List Cond := u_ws RJ10 TJ10 0
theorem nmJ10 : ∀ a, a < 0 → ∀ b, b < 0 → a ≠ b → (TJ10 a).2.1 ≠ (TJ10 b).2.1 := by decide +kernel
theorem tyJ10_ok : ∀ k, k < 0 → parseFieldDescriptor (TJ10 k).2.2.1 = some (tyJ10 k) := by decide +kernel
def RJ3 : String := "jdk/internal/util/Preconditions"
def TJ3 : u_T := fun k => match k with
  | _ => ("", "", "", false)
def tyJ3 : Nat → FieldType := fun k => match k with
  | _ => .int
abbrev wsJ30 : List Cond := u_ws RJ3 TJ3 0
theorem nmJ3 : ∀ a, a < 0 → ∀ b, b < 0 → a ≠ b → (TJ3 a).2.1 ≠ (TJ3 b).2.1 := by decide +kernel
theorem tyJ3_ok : ∀ k, k < 0 → parseFieldDescriptor (TJ3 k).2.2.1 = some (tyJ3 k) := by decide +kernel
abbrev cJ3_checkIndex_8e157 : ByteArray := prog_17_method_11_code
def yJ3_checkIndex_8e157 : MethodName := ⟨RJ3, "checkIndex", "(IILjava/util/function/BiFunction;)I"⟩
abbrev cJ3_checkFromToIndex_8c36e : ByteArray := prog_17_method_12_code
def yJ3_checkFromToIndex_8c36e : MethodName := ⟨RJ3, "checkFromToIndex", "(IIILjava/util/function/BiFunction;)I"⟩
def RL : String := "PleasToIssueLaw"
abbrev cL_law : ByteArray := code
def yL_law : MethodName := ⟨RL, "law", "([I)Z"⟩
abbrev vwCl : List vw_C := [(RX0, TX0, 4), (RX1, TX1, 2), (RX2, TX2, 11), (RX3, TX3, 6), (RX4, TX4, 11), (RX5, TX5, 5), (RX6, TX6, 13), (RX7, TX7, 51)]
end
section
/-! THE PURE PICTURE. Objects and arrays have numbers (ids); what they hold is a pure state: ints (booleans too) by id and place, longs by id and place.
    The ids of the reference are 0 .., those of the class 100 .., static arrays and texts 1000 ... -/
abbrev St : Type := (Nat → Nat → Int32) × (Nat → Nat → Int64)
def gi (σ : St) (o k : Nat) : Int32 := σ.1 o k
def gl (σ : St) (o k : Nat) : Int64 := σ.2 o k
def si (σ : St) (o k : Nat) (v : Int32) : St := (fun a b => if a = o then (if b = k then v else σ.1 a b) else σ.1 a b, σ.2)
def sl (σ : St) (o k : Nat) (v : Int64) : St := (σ.1, fun a b => if a = o then (if b = k then v else σ.2 a b) else σ.2 a b)
theorem gi_si (σ : St) (o k : Nat) (v : Int32) (a b : Nat) : gi (si σ o k v) a b = if a = o ∧ b = k then v else gi σ a b := by
  unfold gi si
  by_cases h1 : a = o <;> by_cases h2 : b = k <;> simp [h1, h2]
theorem gi_same (σ : St) (o k : Nat) (v : Int32) : gi (si σ o k v) o k = v := by rw [gi_si]; simp
theorem gi_ne_o (σ : St) {o a : Nat} (k : Nat) (v : Int32) (b : Nat) (h : a ≠ o) : gi (si σ o k v) a b = gi σ a b := by rw [gi_si]; simp [h]
theorem gi_ne_k (σ : St) (o a : Nat) {k b : Nat} (v : Int32) (h : b ≠ k) : gi (si σ o k v) a b = gi σ a b := by rw [gi_si]; simp [h]
theorem gl_si (σ : St) (o k : Nat) (v : Int32) (a b : Nat) : gl (si σ o k v) a b = gl σ a b := rfl
theorem gi_sl (σ : St) (o k : Nat) (v : Int64) (a b : Nat) : gi (sl σ o k v) a b = gi σ a b := rfl
theorem gl_sl (σ : St) (o k : Nat) (v : Int64) (a b : Nat) : gl (sl σ o k v) a b = if a = o ∧ b = k then v else gl σ a b := by
  unfold gl sl
  by_cases h1 : a = o <;> by_cases h2 : b = k <;> simp [h1, h2]
theorem gi_si_row (σ : St) (o k : Nat) (v : Int32) : gi (si σ o k v) o = upd (gi σ o) k v := by
  funext b
  rw [gi_si]
  by_cases h : b = k <;> simp [upd, h]
theorem gl_sl_row (σ : St) (o k : Nat) (v : Int64) : gl (sl σ o k v) o = vp_updL (gl σ o) k v := by
  funext b
  rw [gl_sl]
  by_cases h : b = k <;> simp [vp_updL, h]
theorem gi_si_o (σ : St) {o a : Nat} (k : Nat) (v : Int32) (h : a ≠ o) : gi (si σ o k v) a = gi σ a := funext fun b => gi_ne_o σ k v b h
theorem gl_sl_o (σ : St) {o a : Nat} (k : Nat) (v : Int64) (h : a ≠ o) : gl (sl σ o k v) a = gl σ a := funext fun b => by rw [gl_sl]; simp [h]
theorem gi_sl_o (σ : St) (o a k : Nat) (v : Int64) : gi (sl σ o k v) a = gi σ a := rfl
theorem gl_si_o (σ : St) (o a k : Nat) (v : Int32) : gl (si σ o k v) a = gl σ a := rfl
/-- a number that stands for a reference: below 0 none -/
def dc (x : Int32) : Option Nat := if x < 0 then none else some x.toNatClampNeg
-- SHAPES: (0, class number), (1, n) int[n], (2, n) long[n], (3, n) boolean[n], (4, n) Case[n], (5, n) Rules[n], (6, n) Stage[n], (7, n) int[n][], (8, n) long[n][]
/-- the reference's: 0 itself, the array in field k is k -/
def shM (o : Nat) : Nat × Nat := match o with
  | 0 => (0, 7) | 1 => (1, 6) | 2 => (1, 6) | 3 => (1, 4) | 4 => (1, 24) | 5 => (1, 24) | 6 => (1, 24) | 7 => (3, 384)
  | 12 => (1, 100) | 13 => (1, 5) | 14 => (1, 30) | 15 => (1, 30) | 16 => (1, 30) | 17 => (1, 30) | 18 => (1, 30) | 19 => (1, 500) | 20 => (1, 101)
  | 27 => (1, 8) | 28 => (1, 8) | 29 => (1, 8) | 30 => (1, 8) | 31 => (1, 8) | 32 => (1, 8) | 33 => (1, 8) | 34 => (1, 8) | 35 => (1, 8) | 36 => (3, 8)
  | 37 => (3, 100) | 38 => (1, 14) | 39 => (1, 8) | 42 => (1, 8) | 43 => (1, 8) | 44 => (1, 8) | 46 => (1, 20) | 47 => (1, 6) | 48 => (1, 6) | 49 => (2, 360) | 50 => (2, 60)
  | _ => (9, 0)
/-- the class's: 100 itself, what its field k holds is 101 + k; texts' bytes 120, traced 121, tapes 130 + t, rules 140 + r with arrays 150 + 10 r + field; rolls 108, 109 with 200 + .. and 300 + ..: arrays by fields, stages 10 + i, their days 20 + i; cases 400 + 10 k, surely 401 + 10 k, its rows 402 + 10 k + w -/
def shC (o : Nat) : Nat × Nat :=
  if o < 200 then
    if o < 130 then
      (match o with
      | 100 => (0, 6) | 101 => (1, 5) | 102 => (1, 5) | 103 => (4, 4) | 105 => (0, 5) | 106 => (5, 5) | 108 => (0, 2) | 109 => (0, 2) | 110 => (0, 0)
      | 111 => (1, 6) | 112 => (1, 6) | 113 => (8, 6) | 120 => (1, 100) | 121 => (1, 20) | _ => (9, 0))
    else if o < 136 then (2, 60) else if o < 140 then (9, 0) else if o < 145 then (0, 3) else if o < 150 then (9, 0)
    else (match o % 10 with | 1 => (1, 6) | 2 => (1, 6) | 3 => (1, 6) | 5 => (1, 100) | _ => (9, 0))
  else if o < 400 then
    (if o % 100 = 2 then (6, 6) else if o % 100 = 3 then (1, 5) else if o % 100 = 4 then (1, 8) else if o % 100 < 10 then (9, 0) else if o % 100 < 16 then (0, 4) else if o % 100 < 20 then (9, 0) else if o % 100 < 26 then (1, 2) else (9, 0))
  else if o < 440 then (match o % 10 with | 0 => (0, 1) | 1 => (7, 3) | 2 => (1, 5) | 3 => (1, 5) | 4 => (1, 5) | _ => (9, 0))
  else (9, 0)
def sh (o : Nat) : Nat × Nat := if o < 100 then shM o else shC o
/-- what a field, or a place of an array of references, holds for good -/
def rf (o k : Nat) : Nat :=
  if o < 100 then k
  else if o < 200 then
    if o = 100 then 101 + k else if o = 105 then 120 else if o = 106 then 140 + k else if o = 110 then 121 else if o = 113 then 130 + k
    else if o < 110 then (if k = 0 then 101 else if k = 1 then 102 else 200 + 100 * (o - 108) + k)
    else 150 + 10 * (o - 140) + k
  else if o < 400 then (if o % 100 = 2 then o + 8 + k else o + 10)
  else if o % 10 = 0 then o + 1 else o + 1 + k
/-- a field's kind: 0 an int, 1 a reference for good, 2 a reference that its number tells -/
def fk (c k : Nat) : Nat := match c with
  | 0 => if k = 1 then 1 else 0
  | 1 => k
  | 2 => if k < 5 then 1 else if k = 5 then 2 else 0
  | 3 => if k = 0 then 0 else if k = 4 then 0 else 1
  | 4 => if k = 7 then 1 else 0
  | 5 => if k = 0 then 1 else if k = 2 then 2 else 0
  | 6 => if k = 3 then 0 else if k = 6 then 0 else 1
  | _ => if k < 8 then (if k = 0 then 0 else 1) else if k < 12 then 0 else if k < 21 then 1 else if k < 27 then 0 else if k < 40 then 1 else if k < 42 then 0 else if k = 45 then 0 else 1
def fn (c : Nat) : Nat := match c with | 0 => 4 | 1 => 2 | 2 => 11 | 3 => 6 | 4 => 11 | 5 => 5 | 6 => 13 | _ => 51
def fv (ρ : Nat → Nat) (σ : St) (o c k : Nat) : Value := if fk c k = 0 then .int (gi σ o k) else if fk c k = 1 then .ref (ρ (rf o k)) else va_rf ((dc (gi σ o k)).map ρ)
def fl (ρ : Nat → Nat) (σ : St) (o c : Nat) : List Value := (List.range (fn c)).map (fv ρ σ o c)
def ac (ρ : Nat → Nat) (σ : St) (o t : Nat) : (Nat → Int32) ⊕ (Nat → Int64) ⊕ (Nat → UInt32) ⊕ (Nat → UInt64) ⊕ (Nat → Option Nat) :=
  if t = 1 ∨ t = 3 then .inl (gi σ o) else if t = 2 then .inr (.inl (gl σ o)) else if t = 4 then .inr (.inr (.inr (.inr fun j => (dc (gi σ o j)).map ρ))) else .inr (.inr (.inr (.inr fun j => some (ρ (rf o j)))))
def ce (ca : Nat → ClassId) (ρ : Nat → Nat) (σ : St) (o : Nat) : va_E := if (sh o).1 = 0 then .inr ((sh o).2, fl ρ σ o (sh o).2) else .inl (ca (sh o).1, (sh o).2, ac ρ σ o (sh o).1)
def wl (ids : List Nat) (ca : Nat → ClassId) (ρ : Nat → Nat) (σ : St) : va_W := ids.map fun o => (ρ o, ce ca ρ σ o)
/-- the types of the arrays, by the first number of a shape less 1 -/
def tl (ca : Nat → ClassId) : List (ClassId × FieldType) := [(ca 1, .int), (ca 2, .long), (ca 3, .boolean), (ca 4, .object RX1), (ca 5, .object RX3), (ca 6, .object RX4), (ca 7, .array .int), (ca 8, .array .long)]
theorem ce_obj {ca : Nat → ClassId} {ρ : Nat → Nat} {σ : St} {o c : Nat} (h : sh o = (0, c)) : ce ca ρ σ o = .inr (c, fl ρ σ o c) := by simp [ce, h]
theorem ce_arr {ca : Nat → ClassId} {ρ : Nat → Nat} {σ : St} {o t n : Nat} (h : sh o = (t + 1, n)) : ce ca ρ σ o = .inl (ca (t + 1), n, ac ρ σ o (t + 1)) := by simp [ce, h]
theorem fl_get (ρ : Nat → Nat) (σ : St) (o c k : Nat) (h : k < fn c) : (fl ρ σ o c)[k]? = some (fv ρ σ o c k) := by simp [fl, h]
theorem wl_get {ids : List Nat} (ca : Nat → ClassId) (ρ : Nat → Nat) (σ : St) {o : Nat} (h : o ∈ ids) : ∃ i : Nat, ids[i]? = some o ∧ (wl ids ca ρ σ)[i]? = some (ρ o, ce ca ρ σ o) := by
  obtain ⟨i, hi⟩ := List.getElem?_of_mem h
  exact ⟨i, hi, by simp [wl, hi]⟩
theorem map_set {α : Type} {ids : List Nat} (hn : ids.Nodup) {f g : Nat → α} {o i : Nat} {x : α} (hi : ids[i]? = some o) (he : x = g o) (hne : ∀ q, q ≠ o → g q = f q) : (ids.map f).set i x = ids.map g := by
  apply List.ext_getElem?
  intro j
  have hl := (List.getElem?_eq_some_iff.mp hi).1
  rw [List.getElem?_set]
  by_cases h : i = j
  · subst h
    have h1 : i < (ids.map f).length := by rw [List.length_map]; exact hl
    rw [if_pos rfl, if_pos h1, List.getElem?_map, hi, Option.map_some, he]
  · rw [if_neg h, List.getElem?_map, List.getElem?_map]
    cases hj : ids[j]? with
    | none => rfl
    | some q =>
      have hq : q ≠ o := by
        rintro rfl
        obtain ⟨h1, h2⟩ := List.getElem?_eq_some_iff.mp hi
        obtain ⟨h3, h4⟩ := List.getElem?_eq_some_iff.mp hj
        exact h ((List.getElem_inj (h₀ := h1) (h₁ := h3) hn).mp (h2.trans h4.symm))
      rw [Option.map_some, Option.map_some, hne q hq]
theorem wl_set {ids : List Nat} (hn : ids.Nodup) (ca : Nat → ClassId) (ρ : Nat → Nat) {σ σ' : St} {o i : Nat} {e : va_E} (hi : ids[i]? = some o) (he : e = ce ca ρ σ' o) (hne : ∀ q, q ≠ o → ce ca ρ σ' q = ce ca ρ σ q) : (wl ids ca ρ σ).set i (ρ o, e) = wl ids ca ρ σ' := by
  unfold wl
  exact map_set hn hi (by rw [he]) (fun q hq => by rw [hne q hq])
theorem ce_other {ca : Nat → ClassId} {ρ : Nat → Nat} {σ σ' : St} {q : Nat} (h1 : gi σ' q = gi σ q) (h2 : gl σ' q = gl σ q) : ce ca ρ σ' q = ce ca ρ σ q := by
  have e1 : ∀ c, fv ρ σ' q c = fv ρ σ q c := fun c => funext fun k => by rw [fv, fv, h1]
  have e2 : ∀ c, fl ρ σ' q c = fl ρ σ q c := fun c => by rw [fl, fl, e1]
  have e3 : ∀ t, ac ρ σ' q t = ac ρ σ q t := fun t => by rw [ac, ac, h1, h2]
  rw [ce, ce, e2, e3]
theorem ce_si {ca : Nat → ClassId} {ρ : Nat → Nat} {σ : St} {o k : Nat} {v : Int32} (q : Nat) (h : q ≠ o) : ce ca ρ (si σ o k v) q = ce ca ρ σ q := ce_other (gi_si_o σ k v h) (gl_si_o σ o q k v)
theorem ce_sl {ca : Nat → ClassId} {ρ : Nat → Nat} {σ : St} {o k : Nat} {v : Int64} (q : Nat) (h : q ≠ o) : ce ca ρ (sl σ o k v) q = ce ca ρ σ q := ce_other (gi_sl_o σ o q k v) (gl_sl_o σ k v h)
theorem fl_si {ρ : Nat → Nat} {σ : St} {o c k : Nat} {v : Int32} (h : k < fn c) : (fl ρ σ o c).set k (fv ρ (si σ o k v) o c k) = fl ρ (si σ o k v) o c := by
  apply List.ext_getElem?
  intro j
  rw [List.getElem?_set]
  by_cases hj : k = j
  · subst hj
    simp [fl, h]
  · rw [if_neg hj]
    by_cases hc : j < fn c
    · rw [fl_get _ _ _ _ _ hc, fl_get _ _ _ _ _ hc]
      simp only [fv, gi_ne_k σ o o v (Ne.symm hj)]
    · simp [fl, hc]
end
section
/-! THE GOAL 'Wg': the machine, now at pc with the locals L, the stack S over a heap that shows the pure state σ, comes to its end with Qp. -/
def TB : List Cond := lw_tbl.filter goodWord
theorem TB_in {w : Cond} (h : w ∈ lw_tbl) (h2 : goodWord w = true) : w ∈ TB := List.mem_filter.mpr ⟨h, h2⟩
theorem TB_tbl {w : Cond} (h : w ∈ TB) : w ∈ lw_tbl := (List.mem_filter.mp h).1
theorem TB_good : ∀ w ∈ TB, (w.onTables && w.keeps) = true ∨ ∃ ty, w = .arrayClass ty := fun _ hw => good_of_word (List.mem_filter.mp hw).2
def cv (ρ : Nat → Nat) (v : Value) : Value := match v with
  | .ref a => .ref (ρ a)
  | v => v
def cS (ρ : Nat → Nat) (S : List Value) : List Value := S.map (cv ρ)
def cL (ρ : Nat → Nat) (L : List (Nat × Value)) : List (Nat × Value) := L.map fun q => (q.1, cv ρ q.2)
theorem cv_cat (ρ : Nat → Nat) (v : Value) : (cv ρ v).category = v.category := by cases v <;> rfl
theorem cS_cat (ρ : Nat → Nat) (S : List Value) : ((cS ρ S).map fun v => v.category) = S.map fun v => v.category := by
  induction S with
  | nil => rfl
  | cons v S ih => show (cv ρ v).category :: _ = _; rw [cv_cat]; exact congrArg _ ih
theorem cL_at {ρ : Nat → Nat} {L : List (Nat × Value)} {k : Nat} {q : Nat × Value} (h : L[k]? = some q) : (cL ρ L)[k]? = some (q.1, cv ρ q.2) := by
  rw [cL, List.getElem?_map, h]; rfl
def stL (i : Nat) (v : Value) (L : List (Nat × Value)) : List (Nat × Value) := (i, v) :: L.filter (fun q => !(q.1 == i) && !(q.1 + 1 == i && q.2.category == 2))
theorem cL_stL (ρ : Nat → Nat) (i : Nat) (v : Value) (L : List (Nat × Value)) : (i, cv ρ v) :: (cL ρ L).filter (fun q => !(q.1 == i) && !(q.1 + 1 == i && q.2.category == 2)) = cL ρ (stL i v L) := by
  show _ = (i, cv ρ v) :: cL ρ (L.filter _)
  congr 1
  induction L with
  | nil => rfl
  | cons q L ih =>
    show List.filter _ ((q.1, cv ρ q.2) :: cL ρ L) = _
    rw [List.filter_cons, List.filter_cons]
    have e : (!(q.1 == i) && !(q.1 + 1 == i && (cv ρ q.2).category == 2)) = (!(q.1 == i) && !(q.1 + 1 == i && q.2.category == 2)) := by rw [cv_cat]
    simp only [e]
    split
    · exact congrArg _ ih
    · exact ih
theorem cL_args (ρ : Nat → Nat) (vs : List Value) : ∀ i, lv_args i (cS ρ vs) = cL ρ (lv_args i vs) := by
  induction vs with
  | nil => intro i; rfl
  | cons v vs ih =>
    intro i
    show (i, cv ρ v) :: lv_args (if (cv ρ v).category = 2 then i + 2 else i + 1) (cS ρ vs) = (i, cv ρ v) :: cL ρ (lv_args (if v.category = 2 then i + 2 else i + 1) vs)
    rw [cv_cat, ih]
/-- static arrays -/
def tPl : Nat → Int32 := fun j => (([10, 20, 21, 22, 23, 24, 30, 40, 50, 51, 52, 53, 54, 60] : List Int32)).getD j 0
def tAb : Nat → Int32 := fun j => (([-1, 0, 0, 0, 0, 2, 0] : List Int32)).getD j 0
def tBo : Nat → Int32 := fun j => (([10, 11, 12, 0, 20, 0, 30, 0, 31, 40, 0, 0, 0, 0, 50, 60, 61, 0, 0, 0, 70] : List Int32)).getD j 0
/-- the texts of PleasToIssue$Text: entries, texts, lengths, bytes -/
def kxs : List Nat := [55, 57, 63, 69, 99, 101, 83, 97, 79, 81]
def kts : List String := ["bar ", "slip ", "dxlfnt", " ", "npwak", "<=>", "0123456789", ")", "last ", "days "]
def kls : List Nat := [4, 5, 6, 1, 5, 3, 10, 1, 5, 5]
def kbs : List (List Int32) := [[98, 97, 114, 32], [115, 108, 105, 112, 32], [100, 120, 108, 102, 110, 116], [32], [110, 112, 119, 97, 107], [60, 61, 62], [48, 49, 50, 51, 52, 53, 54, 55, 56, 57], [41], [108, 97, 115, 116, 32], [100, 97, 121, 115, 32]]
/-- the static arrays and the texts: nobody writes them -/
def Sx (A : Nat → Prop) (ρ : Nat → Nat) (U : State) (H : Heap) : Prop :=
  (va_Z "PleasToIssue" "PLEAS" "[I" (.ref (ρ 1001)) A U H ∧ va_T .int (ρ 1001) 14 (fun j => .int (tPl j)) A U H) ∧
  (va_Z "PleasToIssue$Acts" "ABOVE" "[I" (.ref (ρ 1002)) A U H ∧ va_T .int (ρ 1002) 7 (fun j => .int (tAb j)) A U H) ∧
  (va_Z "PleasToIssue$Acts" "BODIES" "[I" (.ref (ρ 1003)) A U H ∧ va_T .int (ρ 1003) 21 (fun j => .int (tBo j)) A U H) ∧
  va_Nw (.fieldLinkNest RX2 117 "PleasToIssue" "PLEAS" "[I" "PleasToIssue") U ∧
  va_Z "java/lang/String" "COMPACT_STRINGS" "Z" (.int 1) A U H ∧
  vk_S 10 kls kbs (fun i => ρ (1010 + i)) (fun i => ρ (1030 + i)) A U H ∧
  (∀ i, i < 10 → vk_R RX5 (kxs.getD i 0) (kts.getD i "") (ρ (1010 + i)) U)
theorem Sx.moved {A : Nat → Prop} {ρ : Nat → Nat} {u U : State} {H : Heap} (hW : u.WarmedH U.vm) (h : Sx A ρ u H) : Sx A ρ U H :=
  ⟨⟨va_Z.moved hW.alike h.1.1, va_T.moved hW.alike h.1.2⟩, ⟨va_Z.moved hW.alike h.2.1.1, va_T.moved hW.alike h.2.1.2⟩, ⟨va_Z.moved hW.alike h.2.2.1.1, va_T.moved hW.alike h.2.2.1.2⟩, va_Nw.warmF hW h.2.2.2.1, va_Z.moved hW.alike h.2.2.2.2.1, vk_S.moved hW.alike h.2.2.2.2.2.1, fun i hi => vk_R.warm hW (h.2.2.2.2.2.2 i hi)⟩
theorem Sx.same {A : Nat → Prop} {ρ : Nat → Nat} {u U : State} {H : Heap} (hv : U.vm = u.vm) (h : Sx A ρ u H) : Sx A ρ U H := by
  have hA : u.vm.Alike U.vm := by rw [hv]; exact Vm.Alike.refl u.vm
  exact ⟨⟨va_Z.moved hA h.1.1, va_T.moved hA h.1.2⟩, ⟨va_Z.moved hA h.2.1.1, va_T.moved hA h.2.1.2⟩, ⟨va_Z.moved hA h.2.2.1.1, va_T.moved hA h.2.2.1.2⟩, va_Nw.same rfl hv.symm h.2.2.2.1, va_Z.moved hA h.2.2.2.2.1, vk_S.moved hA h.2.2.2.2.2.1, fun i hi => vk_R.same hv (h.2.2.2.2.2.2 i hi)⟩
theorem Sx.kept {A : Nat → Prop} {ρ : Nat → Nat} {U : State} {H H1 : Heap} (h : Sx A ρ U H) (hq : ∀ a : Nat, a < H.size → ¬ A a → H1[a]? = H[a]?) : Sx A ρ U H1 :=
  ⟨⟨h.1.1.kept hq, h.1.2.kept hq⟩, ⟨h.2.1.1.kept hq, h.2.1.2.kept hq⟩, ⟨h.2.2.1.1.kept hq, h.2.2.1.2.kept hq⟩, h.2.2.2.1, h.2.2.2.2.1.kept hq, h.2.2.2.2.2.1.kept hq, h.2.2.2.2.2.2⟩
theorem Sx.narrow {A B : Nat → Prop} {ρ : Nat → Nat} {U : State} {H : Heap} (h : Sx A ρ U H) (hAB : ∀ q, B q → A q) : Sx B ρ U H :=
  ⟨⟨h.1.1.narrow hAB, h.1.2.narrow hAB⟩, ⟨h.2.1.1.narrow hAB, h.2.1.2.narrow hAB⟩, ⟨h.2.2.1.1.narrow hAB, h.2.2.1.2.narrow hAB⟩, h.2.2.2.1, h.2.2.2.2.1.narrow hAB, h.2.2.2.2.2.1.narrow hAB, h.2.2.2.2.2.2⟩
/-- a method: name, bytes, locals, what it returns -/
abbrev MY : Type := MethodName × ByteArray × Nat × Option FieldType
def wsE (y : MY) : List Cond := .code y.1 y.2.1 y.2.2.1 y.2.2.2 :: TB
def rmE (d : Nat) : Room := { frames := d, cells := 0, slots := 0, locals := 64 * d }
def Af (ids : List Nat) (ρ : Nat → Nat) (sz : Nat) : Nat → Prop := fun q => (∃ o, o ∈ ids ∧ q = ρ o) ∨ sz ≤ q
def inj (ids : List Nat) (ρ : Nat → Nat) : Prop := ∀ a b, a ∈ ids → b ∈ ids → ρ a = ρ b → a = b
def qcE (ids : List Nat) (ca : Nat → ClassId) (ρ : Nat → Nat) (D : va_G) (A : Nat → Prop) (Qp : Option Value → St → Prop) : Array Value → State → Outcome → State → Prop := fun _ st oc t =>
  (∃ (r : Option Value) (σ' : St), oc = .returned (r.map (cv ρ)) ∧ Qp r σ' ∧ va_P D vwCl (wl ids ca ρ σ') t.heap ∧ va_K D vwCl (tl ca) t) ∧ va_F A st t
def preE (ids : List Nat) (ca : Nat → ClassId) (ρ : Nat → Nat) (D : va_G) (sz : Nat) (σ : St) : State → Prop := fun U =>
  U.heap.size = sz ∧ va_P D vwCl (wl ids ca ρ σ) U.heap ∧ va_K D vwCl (tl ca) U ∧ Sx (Af ids ρ sz) ρ U U.heap
/-- THE CONTRACT: method y, at depth d, with av over the pure state σ: it returns, and Qp of its answer and the new pure state -/
def E (d : Nat) (ids : List Nat) (y : MY) (av : List Value) (σ : St) (Qp : Option Value → St → Prop) : Prop :=
  ∀ (l : Launch) (ca : Nat → ClassId) (ρ : Nat → Nat) (D : va_G) (sz : Nat), ids.Nodup → inj ids ρ → Met l y.1 (wsE y) (rmE d) (va_Pc (cS ρ av) (preE ids ca ρ D sz σ)) (qcE ids ca ρ D (Af ids ρ sz) Qp) 0 0 (Af ids ρ sz)
def EI (d : Nat) (ids : List Nat) (y : MY) (av : List Value) (σ : St) (F : Int32 → St → Prop) : Prop := E d ids y av σ (fun r σ' => ∃ x, r = some (.int x) ∧ F x σ')
def EL (d : Nat) (ids : List Nat) (y : MY) (av : List Value) (σ : St) (F : Int64 → St → Prop) : Prop := E d ids y av σ (fun r σ' => ∃ x, r = some (.long x) ∧ F x σ')
def EV (d : Nat) (ids : List Nat) (y : MY) (av : List Value) (σ : St) (F : St → Prop) : Prop := E d ids y av σ (fun r σ' => r = none ∧ F σ')
def ER (d : Nat) (ids : List Nat) (y : MY) (av : List Value) (σ : St) (F : Nat → St → Prop) : Prop := E d ids y av σ (fun r σ' => ∃ a, r = some (.ref a) ∧ F a σ')
def EO (d : Nat) (ids : List Nat) (y : MY) (av : List Value) (σ : St) (F : Option Nat → St → Prop) : Prop := E d ids y av σ (fun r σ' => ∃ a, r = some (va_rf a) ∧ F a σ')
/-- what a method's walk runs over: p l e R s m args below meth c, ca ρ D A -/
abbrev CT : Type := Program × Launch × Env × Room × State × MethodId × Array Value × List Frame × Method × Code × (Nat → ClassId) × (Nat → Nat) × va_G × (Nat → Prop)
def Wg (X : CT) (ids : List Nat) (nL : Nat) (Qp : Option Value → St → Prop) (pc : Nat) (L : List (Nat × Value)) (S : List Value) (σ : St) : Prop :=
  match X with
  | (p, l, e, R, s, m, args, below, meth, c, ca, ρ, D, A) => ∀ (H : Heap) (locs : List Loc) (ls : Array Slot), va_P D vwCl (wl ids ca ρ σ) H → va_S A s.heap H locs → lv_has ls nL (cL ρ L) → W p l e R s m args below meth c H locs 0 0 (MQ below (qcE ids ca ρ D A Qp) args s 0 0 A) (F0 m pc ls (cS ρ S))
def Cok (X : CT) (ids : List Nat) (nL : Nat) (cc : ByteArray) (ret : Option FieldType) (dep : Nat) (own : String) : Prop :=
  match X with
  | (p, l, e, R, s, m, args, below, meth, c, ca, ρ, D, A) => p.tables.exec = Jvm.exec ∧ c.code = cc ∧ s.vm.findClass own = some m.cls ∧ (∀ w ∈ TB, w.before args s = true) ∧ va_K D vwCl (tl ca) s ∧ (∀ σ, va_D A (wl ids ca ρ σ)) ∧ ids.Nodup ∧ c.maxLocals = nL ∧ meth.locks = false ∧ meth.sig.returnType = ret ∧ R = rmE dep ∧ Sx A ρ s s.heap ∧ inj ids ρ ∧ (∀ q, s.heap.size ≤ q → A q) ∧ (∀ o, o ∈ ids → A (ρ o))
section WR
variable {X : CT} {ids : List Nat} {nL : Nat} {Qp : Option Value → St → Prop} {pc : Nat} {L L' : List (Nat × Value)} {S : List Value} {σ : St} {cc : ByteArray} {ret : Option FieldType} {dep : Nat} {own : String}
/-- fewer, or other-ordered locals -/
theorem Wg.sub (ks : List Nat) (hl : lv_pick L ks = L') (k : Wg X ids nL Qp pc L' S σ) : Wg X ids nL Qp pc L S σ := by
  obtain ⟨p, l, e, R, s, m, args, below, meth, c, ca, ρ, D, A⟩ := X
  intro H locs ls hP hS h
  refine k H locs ls hP hS (lv_sub h ks ?_)
  rw [← hl]
  simp only [lv_pick, cL, List.map_filterMap, List.getElem?_map]
theorem q_iconst {n : Int} {v : Int32} (hX : Cok X ids nL cc ret dep own) (hd : decode cc pc = .ok (.iconst n, 1)) (hv : Int32.ofInt n = v) (k : Wg X ids nL Qp (pc + 1) L (.int v :: S) σ) : Wg X ids nL Qp pc L (S) σ := by
  obtain ⟨p, l, e, R, s, m, args, below, meth, c, ca, ρ, D, A⟩ := X
  obtain ⟨hx, hb, -⟩ := hX
  intro H locs ls hP hS hl
  exact lv_iconst hx hb hd hv (k H locs ls hP hS hl)
theorem q_bipush {n : Int} {v : Int32} (hX : Cok X ids nL cc ret dep own) (hd : decode cc pc = .ok (.bipush n, 2)) (hv : (Int8.ofInt n).toInt32 = v) (k : Wg X ids nL Qp (pc + 2) L (.int v :: S) σ) : Wg X ids nL Qp pc L (S) σ := by
  obtain ⟨p, l, e, R, s, m, args, below, meth, c, ca, ρ, D, A⟩ := X
  obtain ⟨hx, hb, -⟩ := hX
  intro H locs ls hP hS hl
  exact lv_bipush hx hb hd hv (k H locs ls hP hS hl)
theorem q_sipush {n : Int} {v : Int32} (hX : Cok X ids nL cc ret dep own) (hd : decode cc pc = .ok (.sipush n, 3)) (hv : (Int16.ofInt n).toInt32 = v) (k : Wg X ids nL Qp (pc + 3) L (.int v :: S) σ) : Wg X ids nL Qp pc L (S) σ := by
  obtain ⟨p, l, e, R, s, m, args, below, meth, c, ca, ρ, D, A⟩ := X
  obtain ⟨hx, hb, -⟩ := hX
  intro H locs ls hP hS hl
  exact lv_sipush hx hb hd hv (k H locs ls hP hS hl)
theorem q_lconst {n : Fin 2} {v : Int64} (hX : Cok X ids nL cc ret dep own) (hd : decode cc pc = .ok (.lconst n, 1)) (hv : Int64.ofNat (n : Nat) = v) (k : Wg X ids nL Qp (pc + 1) L (.long v :: S) σ) : Wg X ids nL Qp pc L (S) σ := by
  obtain ⟨p, l, e, R, s, m, args, below, meth, c, ca, ρ, D, A⟩ := X
  obtain ⟨hx, hb, -⟩ := hX
  intro H locs ls hP hS hl
  exact lv_lconst hx hb hd hv (k H locs ls hP hS hl)
theorem q_iadd {x y : Int32} (hX : Cok X ids nL cc ret dep own) (hd : decode cc pc = .ok (.iadd, 1)) (k : Wg X ids nL Qp (pc + 1) L (.int (x + y) :: S) σ) : Wg X ids nL Qp pc L (.int y :: .int x :: S) σ := by
  obtain ⟨p, l, e, R, s, m, args, below, meth, c, ca, ρ, D, A⟩ := X
  obtain ⟨hx, hb, -⟩ := hX
  intro H locs ls hP hS hl
  exact lv_iadd hx hb hd (k H locs ls hP hS hl)
theorem q_isub {x y : Int32} (hX : Cok X ids nL cc ret dep own) (hd : decode cc pc = .ok (.isub, 1)) (k : Wg X ids nL Qp (pc + 1) L (.int (x - y) :: S) σ) : Wg X ids nL Qp pc L (.int y :: .int x :: S) σ := by
  obtain ⟨p, l, e, R, s, m, args, below, meth, c, ca, ρ, D, A⟩ := X
  obtain ⟨hx, hb, -⟩ := hX
  intro H locs ls hP hS hl
  exact lv_isub hx hb hd (k H locs ls hP hS hl)
theorem q_imul {x y : Int32} (hX : Cok X ids nL cc ret dep own) (hd : decode cc pc = .ok (.imul, 1)) (k : Wg X ids nL Qp (pc + 1) L (.int (x * y) :: S) σ) : Wg X ids nL Qp pc L (.int y :: .int x :: S) σ := by
  obtain ⟨p, l, e, R, s, m, args, below, meth, c, ca, ρ, D, A⟩ := X
  obtain ⟨hx, hb, -⟩ := hX
  intro H locs ls hP hS hl
  exact lv_imul hx hb hd (k H locs ls hP hS hl)
theorem q_iand {x y : Int32} (hX : Cok X ids nL cc ret dep own) (hd : decode cc pc = .ok (.iand, 1)) (k : Wg X ids nL Qp (pc + 1) L (.int (x &&& y) :: S) σ) : Wg X ids nL Qp pc L (.int y :: .int x :: S) σ := by
  obtain ⟨p, l, e, R, s, m, args, below, meth, c, ca, ρ, D, A⟩ := X
  obtain ⟨hx, hb, -⟩ := hX
  intro H locs ls hP hS hl
  exact lv_iand hx hb hd (k H locs ls hP hS hl)
theorem q_ior {x y : Int32} (hX : Cok X ids nL cc ret dep own) (hd : decode cc pc = .ok (.ior, 1)) (k : Wg X ids nL Qp (pc + 1) L (.int (x ||| y) :: S) σ) : Wg X ids nL Qp pc L (.int y :: .int x :: S) σ := by
  obtain ⟨p, l, e, R, s, m, args, below, meth, c, ca, ρ, D, A⟩ := X
  obtain ⟨hx, hb, -⟩ := hX
  intro H locs ls hP hS hl
  exact lv_ior hx hb hd (k H locs ls hP hS hl)
theorem q_ixor {x y : Int32} (hX : Cok X ids nL cc ret dep own) (hd : decode cc pc = .ok (.ixor, 1)) (k : Wg X ids nL Qp (pc + 1) L (.int (x ^^^ y) :: S) σ) : Wg X ids nL Qp pc L (.int y :: .int x :: S) σ := by
  obtain ⟨p, l, e, R, s, m, args, below, meth, c, ca, ρ, D, A⟩ := X
  obtain ⟨hx, hb, -⟩ := hX
  intro H locs ls hP hS hl
  exact lv_ixor hx hb hd (k H locs ls hP hS hl)
theorem q_ishl {x y : Int32} (hX : Cok X ids nL cc ret dep own) (hd : decode cc pc = .ok (.ishl, 1)) (k : Wg X ids nL Qp (pc + 1) L (.int (x <<< (y &&& 31)) :: S) σ) : Wg X ids nL Qp pc L (.int y :: .int x :: S) σ := by
  obtain ⟨p, l, e, R, s, m, args, below, meth, c, ca, ρ, D, A⟩ := X
  obtain ⟨hx, hb, -⟩ := hX
  intro H locs ls hP hS hl
  exact lv_ishl hx hb hd (k H locs ls hP hS hl)
theorem q_ishr {x y : Int32} (hX : Cok X ids nL cc ret dep own) (hd : decode cc pc = .ok (.ishr, 1)) (k : Wg X ids nL Qp (pc + 1) L (.int (x >>> (y &&& 31)) :: S) σ) : Wg X ids nL Qp pc L (.int y :: .int x :: S) σ := by
  obtain ⟨p, l, e, R, s, m, args, below, meth, c, ca, ρ, D, A⟩ := X
  obtain ⟨hx, hb, -⟩ := hX
  intro H locs ls hP hS hl
  exact lv_ishr hx hb hd (k H locs ls hP hS hl)
theorem q_iushr {x y : Int32} (hX : Cok X ids nL cc ret dep own) (hd : decode cc pc = .ok (.iushr, 1)) (k : Wg X ids nL Qp (pc + 1) L (.int (x.toUInt32 >>> (y.toUInt32 &&& Int32.toUInt32 31)).toInt32 :: S) σ) : Wg X ids nL Qp pc L (.int y :: .int x :: S) σ := by
  obtain ⟨p, l, e, R, s, m, args, below, meth, c, ca, ρ, D, A⟩ := X
  obtain ⟨hx, hb, -⟩ := hX
  intro H locs ls hP hS hl
  exact lv_iushr hx hb hd rfl (k H locs ls hP hS hl)
theorem q_idiv {x y : Int32} (hX : Cok X ids nL cc ret dep own) (hd : decode cc pc = .ok (.idiv, 1)) (hne : ¬ y = 0) (k : Wg X ids nL Qp (pc + 1) L (.int (x / y) :: S) σ) : Wg X ids nL Qp pc L (.int y :: .int x :: S) σ := by
  obtain ⟨p, l, e, R, s, m, args, below, meth, c, ca, ρ, D, A⟩ := X
  obtain ⟨hx, hb, -⟩ := hX
  intro H locs ls hP hS hl
  exact lv_idiv hx hb hd hne (k H locs ls hP hS hl)
theorem q_irem {x y : Int32} (hX : Cok X ids nL cc ret dep own) (hd : decode cc pc = .ok (.irem, 1)) (hne : ¬ y = 0) (k : Wg X ids nL Qp (pc + 1) L (.int (x - x / y * y) :: S) σ) : Wg X ids nL Qp pc L (.int y :: .int x :: S) σ := by
  obtain ⟨p, l, e, R, s, m, args, below, meth, c, ca, ρ, D, A⟩ := X
  obtain ⟨hx, hb, -⟩ := hX
  intro H locs ls hP hS hl
  exact lv_irem hx hb hd hne (k H locs ls hP hS hl)
theorem q_ineg {x : Int32} (hX : Cok X ids nL cc ret dep own) (hd : decode cc pc = .ok (.ineg, 1)) (k : Wg X ids nL Qp (pc + 1) L (.int (-x) :: S) σ) : Wg X ids nL Qp pc L (.int x :: S) σ := by
  obtain ⟨p, l, e, R, s, m, args, below, meth, c, ca, ρ, D, A⟩ := X
  obtain ⟨hx, hb, -⟩ := hX
  intro H locs ls hP hS hl
  exact lv_ineg hx hb hd (k H locs ls hP hS hl)
theorem q_i2b {x : Int32} (hX : Cok X ids nL cc ret dep own) (hd : decode cc pc = .ok (.i2b, 1)) (k : Wg X ids nL Qp (pc + 1) L (.int x.toInt8.toInt32 :: S) σ) : Wg X ids nL Qp pc L (.int x :: S) σ := by
  obtain ⟨p, l, e, R, s, m, args, below, meth, c, ca, ρ, D, A⟩ := X
  obtain ⟨hx, hb, -⟩ := hX
  intro H locs ls hP hS hl
  exact lv_i2b hx hb hd rfl (k H locs ls hP hS hl)
theorem q_i2s {x : Int32} (hX : Cok X ids nL cc ret dep own) (hd : decode cc pc = .ok (.i2s, 1)) (k : Wg X ids nL Qp (pc + 1) L (.int x.toInt16.toInt32 :: S) σ) : Wg X ids nL Qp pc L (.int x :: S) σ := by
  obtain ⟨p, l, e, R, s, m, args, below, meth, c, ca, ρ, D, A⟩ := X
  obtain ⟨hx, hb, -⟩ := hX
  intro H locs ls hP hS hl
  exact lv_i2s hx hb hd rfl (k H locs ls hP hS hl)
theorem q_i2c {x : Int32} (hX : Cok X ids nL cc ret dep own) (hd : decode cc pc = .ok (.i2c, 1)) (k : Wg X ids nL Qp (pc + 1) L (.int (x.toUInt32 % 65536).toInt32 :: S) σ) : Wg X ids nL Qp pc L (.int x :: S) σ := by
  obtain ⟨p, l, e, R, s, m, args, below, meth, c, ca, ρ, D, A⟩ := X
  obtain ⟨hx, hb, -⟩ := hX
  intro H locs ls hP hS hl
  exact lv_i2c hx hb hd rfl (k H locs ls hP hS hl)
theorem q_i2l {x : Int32} (hX : Cok X ids nL cc ret dep own) (hd : decode cc pc = .ok (.i2l, 1)) (k : Wg X ids nL Qp (pc + 1) L (.long x.toInt64 :: S) σ) : Wg X ids nL Qp pc L (.int x :: S) σ := by
  obtain ⟨p, l, e, R, s, m, args, below, meth, c, ca, ρ, D, A⟩ := X
  obtain ⟨hx, hb, -⟩ := hX
  intro H locs ls hP hS hl
  exact lv_i2l hx hb hd rfl (k H locs ls hP hS hl)
theorem q_l2i {x : Int64} (hX : Cok X ids nL cc ret dep own) (hd : decode cc pc = .ok (.l2i, 1)) (k : Wg X ids nL Qp (pc + 1) L (.int x.toInt32 :: S) σ) : Wg X ids nL Qp pc L (.long x :: S) σ := by
  obtain ⟨p, l, e, R, s, m, args, below, meth, c, ca, ρ, D, A⟩ := X
  obtain ⟨hx, hb, -⟩ := hX
  intro H locs ls hP hS hl
  exact lv_l2i hx hb hd rfl (k H locs ls hP hS hl)
theorem q_lcmp {x y : Int64} (hX : Cok X ids nL cc ret dep own) (hd : decode cc pc = .ok (.lcmp, 1)) (k : Wg X ids nL Qp (pc + 1) L (.int (lg_cmp x y) :: S) σ) : Wg X ids nL Qp pc L (.long y :: .long x :: S) σ := by
  obtain ⟨p, l, e, R, s, m, args, below, meth, c, ca, ρ, D, A⟩ := X
  obtain ⟨hx, hb, -⟩ := hX
  intro H locs ls hP hS hl
  exact W.lcmp hx hb hd (k H locs ls hP hS hl)
theorem q_dup {v : Value} (hX : Cok X ids nL cc ret dep own) (hd : decode cc pc = .ok (.dup, 1)) (hv : v.category = 1) (k : Wg X ids nL Qp (pc + 1) L (v :: v :: S) σ) : Wg X ids nL Qp pc L (v :: S) σ := by
  obtain ⟨p, l, e, R, s, m, args, below, meth, c, ca, ρ, D, A⟩ := X
  obtain ⟨hx, hb, -⟩ := hX
  intro H locs ls hP hS hl
  exact lv_dup hx hb hd (by rw [cv_cat]; exact hv) (k H locs ls hP hS hl)
theorem q_pop {v : Value} (hX : Cok X ids nL cc ret dep own) (hd : decode cc pc = .ok (.pop, 1)) (hv : v.category = 1) (k : Wg X ids nL Qp (pc + 1) L (S) σ) : Wg X ids nL Qp pc L (v :: S) σ := by
  obtain ⟨p, l, e, R, s, m, args, below, meth, c, ca, ρ, D, A⟩ := X
  obtain ⟨hx, hb, -⟩ := hX
  intro H locs ls hP hS hl
  exact lv_pop hx hb hd (by rw [cv_cat]; exact hv) (k H locs ls hP hS hl)
theorem q_dup2 {v w : Value} (hX : Cok X ids nL cc ret dep own) (hd : decode cc pc = .ok (.dup2, 1)) (hv : v.category = 1) (hw : w.category = 1) (k : Wg X ids nL Qp (pc + 1) L (v :: w :: v :: w :: S) σ) : Wg X ids nL Qp pc L (v :: w :: S) σ := by
  obtain ⟨p, l, e, R, s, m, args, below, meth, c, ca, ρ, D, A⟩ := X
  obtain ⟨hx, hb, -⟩ := hX
  intro H locs ls hP hS hl
  exact lv_dup2_11 hx hb hd (by rw [cv_cat]; exact hv) (by rw [cv_cat]; exact hw) (k H locs ls hP hS hl)
theorem q_null (hX : Cok X ids nL cc ret dep own) (hd : decode cc pc = .ok (.aconst_null, 1)) (k : Wg X ids nL Qp (pc + 1) L (.null :: S) σ) : Wg X ids nL Qp pc L (S) σ := by
  obtain ⟨p, l, e, R, s, m, args, below, meth, c, ca, ρ, D, A⟩ := X
  obtain ⟨hx, hb, -⟩ := hX
  intro H locs ls hP hS hl
  exact lv_null hx hb hd (k H locs ls hP hS hl)
theorem q_iload {x : Int32} {i : Nat} (j : Nat) (hX : Cok X ids nL cc ret dep own) (hd : decode cc pc = .ok (.iload i, 2)) (hj : L[j]? = some (i, .int x)) (k : Wg X ids nL Qp (pc + 2) L (.int x :: S) σ) : Wg X ids nL Qp pc L (S) σ := by
  obtain ⟨p, l, e, R, s, m, args, below, meth, c, ca, ρ, D, A⟩ := X
  obtain ⟨hx, hb, -⟩ := hX
  intro H locs ls hP hS hl
  exact lv_iload hx hb hd (lv_at hl j (cL_at hj)) (k H locs ls hP hS hl)
theorem q_iload_n {x : Int32} {i : Nat} {k0 : Fin 4} (j : Nat) (hX : Cok X ids nL cc ret dep own) (hd : decode cc pc = .ok (.iload_n k0, 1)) (hi : (k0 : Nat) = i) (hj : L[j]? = some (i, .int x)) (k : Wg X ids nL Qp (pc + 1) L (.int x :: S) σ) : Wg X ids nL Qp pc L (S) σ := by
  obtain ⟨p, l, e, R, s, m, args, below, meth, c, ca, ρ, D, A⟩ := X
  obtain ⟨hx, hb, -⟩ := hX
  intro H locs ls hP hS hl
  exact lv_iload_n hx hb hd hi (lv_at hl j (cL_at hj)) (k H locs ls hP hS hl)
theorem q_lload {x : Int64} {i : Nat} (j : Nat) (hX : Cok X ids nL cc ret dep own) (hd : decode cc pc = .ok (.lload i, 2)) (hj : L[j]? = some (i, .long x)) (k : Wg X ids nL Qp (pc + 2) L (.long x :: S) σ) : Wg X ids nL Qp pc L (S) σ := by
  obtain ⟨p, l, e, R, s, m, args, below, meth, c, ca, ρ, D, A⟩ := X
  obtain ⟨hx, hb, -⟩ := hX
  intro H locs ls hP hS hl
  exact lv_lload hx hb hd (lv_at hl j (cL_at hj)) (k H locs ls hP hS hl)
theorem q_lload_n {x : Int64} {i : Nat} {k0 : Fin 4} (j : Nat) (hX : Cok X ids nL cc ret dep own) (hd : decode cc pc = .ok (.lload_n k0, 1)) (hi : (k0 : Nat) = i) (hj : L[j]? = some (i, .long x)) (k : Wg X ids nL Qp (pc + 1) L (.long x :: S) σ) : Wg X ids nL Qp pc L (S) σ := by
  obtain ⟨p, l, e, R, s, m, args, below, meth, c, ca, ρ, D, A⟩ := X
  obtain ⟨hx, hb, -⟩ := hX
  intro H locs ls hP hS hl
  exact lv_lload_n hx hb hd hi (lv_at hl j (cL_at hj)) (k H locs ls hP hS hl)
theorem q_aload {x : Nat} {i : Nat} (j : Nat) (hX : Cok X ids nL cc ret dep own) (hd : decode cc pc = .ok (.aload i, 2)) (hj : L[j]? = some (i, .ref x)) (k : Wg X ids nL Qp (pc + 2) L (.ref x :: S) σ) : Wg X ids nL Qp pc L (S) σ := by
  obtain ⟨p, l, e, R, s, m, args, below, meth, c, ca, ρ, D, A⟩ := X
  obtain ⟨hx, hb, -⟩ := hX
  intro H locs ls hP hS hl
  exact lv_aload hx hb hd (lv_at hl j (cL_at hj)) (k H locs ls hP hS hl)
theorem q_aload_n {x : Nat} {i : Nat} {k0 : Fin 4} (j : Nat) (hX : Cok X ids nL cc ret dep own) (hd : decode cc pc = .ok (.aload_n k0, 1)) (hi : (k0 : Nat) = i) (hj : L[j]? = some (i, .ref x)) (k : Wg X ids nL Qp (pc + 1) L (.ref x :: S) σ) : Wg X ids nL Qp pc L (S) σ := by
  obtain ⟨p, l, e, R, s, m, args, below, meth, c, ca, ρ, D, A⟩ := X
  obtain ⟨hx, hb, -⟩ := hX
  intro H locs ls hP hS hl
  exact lv_aload_n hx hb hd hi (lv_at hl j (cL_at hj)) (k H locs ls hP hS hl)
theorem q_aloadN {i : Nat} (j : Nat) (hX : Cok X ids nL cc ret dep own) (hd : decode cc pc = .ok (.aload i, 2)) (hj : L[j]? = some (i, .null)) (k : Wg X ids nL Qp (pc + 2) L (.null :: S) σ) : Wg X ids nL Qp pc L (S) σ := by
  obtain ⟨p, l, e, R, s, m, args, below, meth, c, ca, ρ, D, A⟩ := X
  obtain ⟨hx, hb, -⟩ := hX
  intro H locs ls hP hS hl
  exact lv_aloadN hx hb hd (lv_at hl j (cL_at hj)) (k H locs ls hP hS hl)
theorem q_aload_nN {i : Nat} {k0 : Fin 4} (j : Nat) (hX : Cok X ids nL cc ret dep own) (hd : decode cc pc = .ok (.aload_n k0, 1)) (hi : (k0 : Nat) = i) (hj : L[j]? = some (i, .null)) (k : Wg X ids nL Qp (pc + 1) L (.null :: S) σ) : Wg X ids nL Qp pc L (S) σ := by
  obtain ⟨p, l, e, R, s, m, args, below, meth, c, ca, ρ, D, A⟩ := X
  obtain ⟨hx, hb, -⟩ := hX
  intro H locs ls hP hS hl
  exact lv_aload_nN hx hb hd hi (lv_at hl j (cL_at hj)) (k H locs ls hP hS hl)
theorem q_istore {x : Int32} {i : Nat} (hX : Cok X ids nL cc ret dep own) (hd : decode cc pc = .ok (.istore i, 2)) (hn : i < nL) (hL : stL i (.int x) L = L') (k : Wg X ids nL Qp (pc + 2) L' S σ) : Wg X ids nL Qp pc L (.int x :: S) σ := by
  obtain ⟨p, l, e, R, s, m, args, below, meth, c, ca, ρ, D, A⟩ := X
  obtain ⟨hx, hb, -⟩ := hX
  intro H locs ls hP hS hl
  refine lv_istore (lv' := cL ρ L') hx hb hd hl hn ?_ (fun ls' hl' => k H locs ls' hP hS hl')
  rw [← hL]
  exact cL_stL ρ i (.int x) L
theorem q_istore_n {x : Int32} {i : Nat} {k0 : Fin 4} (hX : Cok X ids nL cc ret dep own) (hd : decode cc pc = .ok (.istore_n k0, 1)) (hi : (k0 : Nat) = i) (hn : i < nL) (hL : stL i (.int x) L = L') (k : Wg X ids nL Qp (pc + 1) L' S σ) : Wg X ids nL Qp pc L (.int x :: S) σ := by
  obtain ⟨p, l, e, R, s, m, args, below, meth, c, ca, ρ, D, A⟩ := X
  obtain ⟨hx, hb, -⟩ := hX
  intro H locs ls hP hS hl
  refine lv_istore_n (lv' := cL ρ L') hx hb hd hi hl hn ?_ (fun ls' hl' => k H locs ls' hP hS hl')
  rw [← hL]
  exact cL_stL ρ i (.int x) L
theorem q_astore {x : Nat} {i : Nat} (hX : Cok X ids nL cc ret dep own) (hd : decode cc pc = .ok (.astore i, 2)) (hn : i < nL) (hL : stL i (.ref x) L = L') (k : Wg X ids nL Qp (pc + 2) L' S σ) : Wg X ids nL Qp pc L (.ref x :: S) σ := by
  obtain ⟨p, l, e, R, s, m, args, below, meth, c, ca, ρ, D, A⟩ := X
  obtain ⟨hx, hb, -⟩ := hX
  intro H locs ls hP hS hl
  refine lv_astore (lv' := cL ρ L') hx hb hd hl hn ?_ (fun ls' hl' => k H locs ls' hP hS hl')
  rw [← hL]
  exact cL_stL ρ i (.ref x) L
theorem q_astore_n {x : Nat} {i : Nat} {k0 : Fin 4} (hX : Cok X ids nL cc ret dep own) (hd : decode cc pc = .ok (.astore_n k0, 1)) (hi : (k0 : Nat) = i) (hn : i < nL) (hL : stL i (.ref x) L = L') (k : Wg X ids nL Qp (pc + 1) L' S σ) : Wg X ids nL Qp pc L (.ref x :: S) σ := by
  obtain ⟨p, l, e, R, s, m, args, below, meth, c, ca, ρ, D, A⟩ := X
  obtain ⟨hx, hb, -⟩ := hX
  intro H locs ls hP hS hl
  refine lv_astore_n (lv' := cL ρ L') hx hb hd hi hl hn ?_ (fun ls' hl' => k H locs ls' hP hS hl')
  rw [← hL]
  exact cL_stL ρ i (.ref x) L
theorem q_astoreN {i : Nat} (hX : Cok X ids nL cc ret dep own) (hd : decode cc pc = .ok (.astore i, 2)) (hn : i < nL) (hL : stL i .null L = L') (k : Wg X ids nL Qp (pc + 2) L' S σ) : Wg X ids nL Qp pc L (.null :: S) σ := by
  obtain ⟨p, l, e, R, s, m, args, below, meth, c, ca, ρ, D, A⟩ := X
  obtain ⟨hx, hb, -⟩ := hX
  intro H locs ls hP hS hl
  refine lv_astoreN (lv' := cL ρ L') hx hb hd hl hn ?_ (fun ls' hl' => k H locs ls' hP hS hl')
  rw [← hL]
  exact cL_stL ρ i .null L
theorem q_astore_nN {i : Nat} {k0 : Fin 4} (hX : Cok X ids nL cc ret dep own) (hd : decode cc pc = .ok (.astore_n k0, 1)) (hi : (k0 : Nat) = i) (hn : i < nL) (hL : stL i .null L = L') (k : Wg X ids nL Qp (pc + 1) L' S σ) : Wg X ids nL Qp pc L (.null :: S) σ := by
  obtain ⟨p, l, e, R, s, m, args, below, meth, c, ca, ρ, D, A⟩ := X
  obtain ⟨hx, hb, -⟩ := hX
  intro H locs ls hP hS hl
  refine lv_astore_nN (lv' := cL ρ L') hx hb hd hi hl hn ?_ (fun ls' hl' => k H locs ls' hP hS hl')
  rw [← hL]
  exact cL_stL ρ i .null L
theorem q_iinc {x v : Int32} {i : Nat} {n : Int} (j : Nat) (hX : Cok X ids nL cc ret dep own) (hd : decode cc pc = .ok (.iinc i n, 3)) (hj : L[j]? = some (i, .int x)) (hv : x + Int32.ofInt n = v) (hn : i < nL) (hL : stL i (.int v) L = L') (k : Wg X ids nL Qp (pc + 3) L' S σ) : Wg X ids nL Qp pc L S σ := by
  obtain ⟨p, l, e, R, s, m, args, below, meth, c, ca, ρ, D, A⟩ := X
  obtain ⟨hx, hb, -⟩ := hX
  intro H locs ls hP hS hl
  refine lv_iinc (lv' := cL ρ L') hx hb hd hl (cL_at hj) hv hn ?_ (fun ls' hl' => k H locs ls' hP hS hl')
  rw [← hL]
  exact cL_stL ρ i (.int v) L
theorem q_if_eq {x : Int32} {off : Int} (tgt : Nat) (hX : Cok X ids nL cc ret dep own) (hd : decode cc pc = .ok (.ifCond .eq off, 3)) (ht : (pc : Int) + off = (tgt : Int)) (kt : x = 0 → Wg X ids nL Qp tgt L S σ) (kf : ¬ (x = 0) → Wg X ids nL Qp (pc + 3) L S σ) : Wg X ids nL Qp pc L (.int x :: S) σ := by
  obtain ⟨p, l, e, R, s, m, args, below, meth, c, ca, ρ, D, A⟩ := X
  obtain ⟨hx, hb, -⟩ := hX
  intro H locs ls hP hS hl
  exact lv_if_eq hx hb hd ht (fun q => kt q H locs ls hP hS hl) (fun q => kf q H locs ls hP hS hl)
theorem q_icmp_eq {x y : Int32} {off : Int} (tgt : Nat) (hX : Cok X ids nL cc ret dep own) (hd : decode cc pc = .ok (.if_icmp .eq off, 3)) (ht : (pc : Int) + off = (tgt : Int)) (kt : x = y → Wg X ids nL Qp tgt L S σ) (kf : ¬ (x = y) → Wg X ids nL Qp (pc + 3) L S σ) : Wg X ids nL Qp pc L (.int y :: .int x :: S) σ := by
  obtain ⟨p, l, e, R, s, m, args, below, meth, c, ca, ρ, D, A⟩ := X
  obtain ⟨hx, hb, -⟩ := hX
  intro H locs ls hP hS hl
  exact lv_icmp_eq hx hb hd ht (fun q => kt q H locs ls hP hS hl) (fun q => kf q H locs ls hP hS hl)
theorem q_if_ne {x : Int32} {off : Int} (tgt : Nat) (hX : Cok X ids nL cc ret dep own) (hd : decode cc pc = .ok (.ifCond .ne off, 3)) (ht : (pc : Int) + off = (tgt : Int)) (kt : ¬ x = 0 → Wg X ids nL Qp tgt L S σ) (kf : x = 0 → Wg X ids nL Qp (pc + 3) L S σ) : Wg X ids nL Qp pc L (.int x :: S) σ := by
  obtain ⟨p, l, e, R, s, m, args, below, meth, c, ca, ρ, D, A⟩ := X
  obtain ⟨hx, hb, -⟩ := hX
  intro H locs ls hP hS hl
  exact lv_if_ne hx hb hd ht (fun q => kt q H locs ls hP hS hl) (fun q => kf q H locs ls hP hS hl)
theorem q_icmp_ne {x y : Int32} {off : Int} (tgt : Nat) (hX : Cok X ids nL cc ret dep own) (hd : decode cc pc = .ok (.if_icmp .ne off, 3)) (ht : (pc : Int) + off = (tgt : Int)) (kt : ¬ x = y → Wg X ids nL Qp tgt L S σ) (kf : x = y → Wg X ids nL Qp (pc + 3) L S σ) : Wg X ids nL Qp pc L (.int y :: .int x :: S) σ := by
  obtain ⟨p, l, e, R, s, m, args, below, meth, c, ca, ρ, D, A⟩ := X
  obtain ⟨hx, hb, -⟩ := hX
  intro H locs ls hP hS hl
  exact lv_icmp_ne hx hb hd ht (fun q => kt q H locs ls hP hS hl) (fun q => kf q H locs ls hP hS hl)
theorem q_if_lt {x : Int32} {off : Int} (tgt : Nat) (hX : Cok X ids nL cc ret dep own) (hd : decode cc pc = .ok (.ifCond .lt off, 3)) (ht : (pc : Int) + off = (tgt : Int)) (kt : x < 0 → Wg X ids nL Qp tgt L S σ) (kf : ¬ (x < 0) → Wg X ids nL Qp (pc + 3) L S σ) : Wg X ids nL Qp pc L (.int x :: S) σ := by
  obtain ⟨p, l, e, R, s, m, args, below, meth, c, ca, ρ, D, A⟩ := X
  obtain ⟨hx, hb, -⟩ := hX
  intro H locs ls hP hS hl
  exact lv_if_lt hx hb hd ht (fun q => kt q H locs ls hP hS hl) (fun q => kf q H locs ls hP hS hl)
theorem q_icmp_lt {x y : Int32} {off : Int} (tgt : Nat) (hX : Cok X ids nL cc ret dep own) (hd : decode cc pc = .ok (.if_icmp .lt off, 3)) (ht : (pc : Int) + off = (tgt : Int)) (kt : x < y → Wg X ids nL Qp tgt L S σ) (kf : ¬ (x < y) → Wg X ids nL Qp (pc + 3) L S σ) : Wg X ids nL Qp pc L (.int y :: .int x :: S) σ := by
  obtain ⟨p, l, e, R, s, m, args, below, meth, c, ca, ρ, D, A⟩ := X
  obtain ⟨hx, hb, -⟩ := hX
  intro H locs ls hP hS hl
  exact lv_icmp_lt hx hb hd ht (fun q => kt q H locs ls hP hS hl) (fun q => kf q H locs ls hP hS hl)
theorem q_if_ge {x : Int32} {off : Int} (tgt : Nat) (hX : Cok X ids nL cc ret dep own) (hd : decode cc pc = .ok (.ifCond .ge off, 3)) (ht : (pc : Int) + off = (tgt : Int)) (kt : 0 ≤ x → Wg X ids nL Qp tgt L S σ) (kf : ¬ (0 ≤ x) → Wg X ids nL Qp (pc + 3) L S σ) : Wg X ids nL Qp pc L (.int x :: S) σ := by
  obtain ⟨p, l, e, R, s, m, args, below, meth, c, ca, ρ, D, A⟩ := X
  obtain ⟨hx, hb, -⟩ := hX
  intro H locs ls hP hS hl
  exact lv_if_ge hx hb hd ht (fun q => kt q H locs ls hP hS hl) (fun q => kf q H locs ls hP hS hl)
theorem q_icmp_ge {x y : Int32} {off : Int} (tgt : Nat) (hX : Cok X ids nL cc ret dep own) (hd : decode cc pc = .ok (.if_icmp .ge off, 3)) (ht : (pc : Int) + off = (tgt : Int)) (kt : y ≤ x → Wg X ids nL Qp tgt L S σ) (kf : ¬ (y ≤ x) → Wg X ids nL Qp (pc + 3) L S σ) : Wg X ids nL Qp pc L (.int y :: .int x :: S) σ := by
  obtain ⟨p, l, e, R, s, m, args, below, meth, c, ca, ρ, D, A⟩ := X
  obtain ⟨hx, hb, -⟩ := hX
  intro H locs ls hP hS hl
  exact lv_icmp_ge hx hb hd ht (fun q => kt q H locs ls hP hS hl) (fun q => kf q H locs ls hP hS hl)
theorem q_if_gt {x : Int32} {off : Int} (tgt : Nat) (hX : Cok X ids nL cc ret dep own) (hd : decode cc pc = .ok (.ifCond .gt off, 3)) (ht : (pc : Int) + off = (tgt : Int)) (kt : 0 < x → Wg X ids nL Qp tgt L S σ) (kf : ¬ (0 < x) → Wg X ids nL Qp (pc + 3) L S σ) : Wg X ids nL Qp pc L (.int x :: S) σ := by
  obtain ⟨p, l, e, R, s, m, args, below, meth, c, ca, ρ, D, A⟩ := X
  obtain ⟨hx, hb, -⟩ := hX
  intro H locs ls hP hS hl
  exact lv_if_gt hx hb hd ht (fun q => kt q H locs ls hP hS hl) (fun q => kf q H locs ls hP hS hl)
theorem q_icmp_gt {x y : Int32} {off : Int} (tgt : Nat) (hX : Cok X ids nL cc ret dep own) (hd : decode cc pc = .ok (.if_icmp .gt off, 3)) (ht : (pc : Int) + off = (tgt : Int)) (kt : y < x → Wg X ids nL Qp tgt L S σ) (kf : ¬ (y < x) → Wg X ids nL Qp (pc + 3) L S σ) : Wg X ids nL Qp pc L (.int y :: .int x :: S) σ := by
  obtain ⟨p, l, e, R, s, m, args, below, meth, c, ca, ρ, D, A⟩ := X
  obtain ⟨hx, hb, -⟩ := hX
  intro H locs ls hP hS hl
  exact lv_icmp_gt hx hb hd ht (fun q => kt q H locs ls hP hS hl) (fun q => kf q H locs ls hP hS hl)
theorem q_if_le {x : Int32} {off : Int} (tgt : Nat) (hX : Cok X ids nL cc ret dep own) (hd : decode cc pc = .ok (.ifCond .le off, 3)) (ht : (pc : Int) + off = (tgt : Int)) (kt : x ≤ 0 → Wg X ids nL Qp tgt L S σ) (kf : ¬ (x ≤ 0) → Wg X ids nL Qp (pc + 3) L S σ) : Wg X ids nL Qp pc L (.int x :: S) σ := by
  obtain ⟨p, l, e, R, s, m, args, below, meth, c, ca, ρ, D, A⟩ := X
  obtain ⟨hx, hb, -⟩ := hX
  intro H locs ls hP hS hl
  exact lv_if_le hx hb hd ht (fun q => kt q H locs ls hP hS hl) (fun q => kf q H locs ls hP hS hl)
theorem q_icmp_le {x y : Int32} {off : Int} (tgt : Nat) (hX : Cok X ids nL cc ret dep own) (hd : decode cc pc = .ok (.if_icmp .le off, 3)) (ht : (pc : Int) + off = (tgt : Int)) (kt : x ≤ y → Wg X ids nL Qp tgt L S σ) (kf : ¬ (x ≤ y) → Wg X ids nL Qp (pc + 3) L S σ) : Wg X ids nL Qp pc L (.int y :: .int x :: S) σ := by
  obtain ⟨p, l, e, R, s, m, args, below, meth, c, ca, ρ, D, A⟩ := X
  obtain ⟨hx, hb, -⟩ := hX
  intro H locs ls hP hS hl
  exact lv_icmp_le hx hb hd ht (fun q => kt q H locs ls hP hS hl) (fun q => kf q H locs ls hP hS hl)
theorem q_goto {off : Int} (tgt : Nat) (hX : Cok X ids nL cc ret dep own) (hd : decode cc pc = .ok (.goto off, 3)) (ht : (pc : Int) + off = (tgt : Int)) (k : Wg X ids nL Qp tgt L S σ) : Wg X ids nL Qp pc L S σ := by
  obtain ⟨p, l, e, R, s, m, args, below, meth, c, ca, ρ, D, A⟩ := X
  obtain ⟨hx, hb, -⟩ := hX
  intro H locs ls hP hS hl
  exact lv_goto hx hb hd ht (k H locs ls hP hS hl)
theorem q_ifnull {o : Nat} {off : Int} (hX : Cok X ids nL cc ret dep own) (hd : decode cc pc = .ok (.ifnull off, 3)) (k : Wg X ids nL Qp (pc + 3) L S σ) : Wg X ids nL Qp pc L (.ref o :: S) σ := by
  obtain ⟨p, l, e, R, s, m, args, below, meth, c, ca, ρ, D, A⟩ := X
  obtain ⟨hx, hb, -⟩ := hX
  intro H locs ls hP hS hl
  exact lv_ifnull hx hb hd (k H locs ls hP hS hl)
theorem q_ifnonnull {o : Nat} {off : Int} (tgt : Nat) (hX : Cok X ids nL cc ret dep own) (hd : decode cc pc = .ok (.ifnonnull off, 3)) (ht : (pc : Int) + off = (tgt : Int)) (k : Wg X ids nL Qp tgt L S σ) : Wg X ids nL Qp pc L (.ref o :: S) σ := by
  obtain ⟨p, l, e, R, s, m, args, below, meth, c, ca, ρ, D, A⟩ := X
  obtain ⟨hx, hb, -⟩ := hX
  intro H locs ls hP hS hl
  exact lv_ifnonnull hx hb hd ht (k H locs ls hP hS hl)
theorem q_ifnullN {off : Int} (tgt : Nat) (hX : Cok X ids nL cc ret dep own) (hd : decode cc pc = .ok (.ifnull off, 3)) (ht : (pc : Int) + off = (tgt : Int)) (k : Wg X ids nL Qp tgt L S σ) : Wg X ids nL Qp pc L (.null :: S) σ := by
  obtain ⟨p, l, e, R, s, m, args, below, meth, c, ca, ρ, D, A⟩ := X
  obtain ⟨hx, hb, -⟩ := hX
  intro H locs ls hP hS hl
  exact lv_ifnullN hx hb hd ht (k H locs ls hP hS hl)
theorem q_ifnonnullN {off : Int} (hX : Cok X ids nL cc ret dep own) (hd : decode cc pc = .ok (.ifnonnull off, 3)) (k : Wg X ids nL Qp (pc + 3) L S σ) : Wg X ids nL Qp pc L (.null :: S) σ := by
  obtain ⟨p, l, e, R, s, m, args, below, meth, c, ca, ρ, D, A⟩ := X
  obtain ⟨hx, hb, -⟩ := hX
  intro H locs ls hP hS hl
  exact lv_ifnonnullN hx hb hd (k H locs ls hP hS hl)
theorem q_tableIn {x : Int32} {dflt lo hi : Int} {offs : Array Int} {len : Nat} {off : Int} (tgt : Nat) (hX : Cok X ids nL cc ret dep own) (hd : decode cc pc = .ok (.tableswitch dflt lo hi offs, len)) (h1 : ¬ x.toInt < lo) (h2 : ¬ hi < x.toInt) (ho : offs[(x.toInt - lo).toNat]? = some off) (ht : (pc : Int) + off = (tgt : Int)) (k : Wg X ids nL Qp tgt L S σ) : Wg X ids nL Qp pc L (.int x :: S) σ := by
  obtain ⟨p, l, e, R, s, m, args, below, meth, c, ca, ρ, D, A⟩ := X
  obtain ⟨hx, hb, -⟩ := hX
  intro H locs ls hP hS hl
  exact lv_tableIn hx hb hd h1 h2 ho ht (k H locs ls hP hS hl)
theorem q_tableOut {x : Int32} {dflt lo hi : Int} {offs : Array Int} {len : Nat} (tgt : Nat) (hX : Cok X ids nL cc ret dep own) (hd : decode cc pc = .ok (.tableswitch dflt lo hi offs, len)) (h : x.toInt < lo ∨ hi < x.toInt) (ht : (pc : Int) + dflt = (tgt : Int)) (k : Wg X ids nL Qp tgt L S σ) : Wg X ids nL Qp pc L (.int x :: S) σ := by
  obtain ⟨p, l, e, R, s, m, args, below, meth, c, ca, ρ, D, A⟩ := X
  obtain ⟨hx, hb, -⟩ := hX
  intro H locs ls hP hS hl
  exact lv_tableOut hx hb hd h ht (k H locs ls hP hS hl)
theorem q_lookup {x : Int32} {dflt : Int} {ps : Array (Int × Int)} {len : Nat} {off : Int} (tgt : Nat) (hX : Cok X ids nL cc ret dep own) (hd : decode cc pc = .ok (.lookupswitch dflt ps, len)) (hp : (ps.toList.zip (ps.toList.drop 1)).all (fun (a, next) => a.1 < next.1) = true) (ho : Op.lookupswitch.offset ps.toList dflt x.toInt = off) (ht : (pc : Int) + off = (tgt : Int)) (k : Wg X ids nL Qp tgt L S σ) : Wg X ids nL Qp pc L (.int x :: S) σ := by
  obtain ⟨p, l, e, R, s, m, args, below, meth, c, ca, ρ, D, A⟩ := X
  obtain ⟨hx, hb, -⟩ := hX
  intro H locs ls hP hS hl
  exact lv_lookup hx hb hd hp ho ht (k H locs ls hP hS hl)
end WR
end
section
/-! rows of fields, arrays, statics; returns; calls -/
theorem fv_int {ρ : Nat → Nat} {σ : St} {o c k : Nat} (h : fk c k = 0) : fv ρ σ o c k = .int (gi σ o k) := by rw [fv, if_pos h]
theorem fv_ref {ρ : Nat → Nat} {σ : St} {o c k : Nat} (h : fk c k = 1) : fv ρ σ o c k = .ref (ρ (rf o k)) := by rw [fv, if_neg (by rw [h]; decide), if_pos h]
theorem fv_nul {ρ : Nat → Nat} {σ : St} {o c k : Nat} (h : fk c k = 2) : fv ρ σ o c k = va_rf ((dc (gi σ o k)).map ρ) := by rw [fv, if_neg (by rw [h]; decide), if_neg (by rw [h]; decide)]
theorem ac_int {ρ : Nat → Nat} {σ : St} {o : Nat} : ac ρ σ o 1 = .inl (gi σ o) := rfl
theorem ac_boo {ρ : Nat → Nat} {σ : St} {o : Nat} : ac ρ σ o 3 = .inl (gi σ o) := rfl
theorem ac_lon {ρ : Nat → Nat} {σ : St} {o : Nat} : ac ρ σ o 2 = .inr (.inl (gl σ o)) := rfl
theorem wl_obj {ids : List Nat} (ca : Nat → ClassId) (ρ : Nat → Nat) (σ : St) {o c : Nat} (h : o ∈ ids) (hs : sh o = (0, c)) : ∃ i : Nat, ids[i]? = some o ∧ (wl ids ca ρ σ)[i]? = some (ρ o, .inr (c, fl ρ σ o c)) := by
  obtain ⟨i, h1, h2⟩ := wl_get ca ρ σ h
  exact ⟨i, h1, by rw [h2, ce_obj hs]⟩
theorem wl_arr {ids : List Nat} (ca : Nat → ClassId) (ρ : Nat → Nat) (σ : St) {o t n : Nat} (h : o ∈ ids) (hs : sh o = (t + 1, n)) : ∃ i : Nat, ids[i]? = some o ∧ (wl ids ca ρ σ)[i]? = some (ρ o, .inl (ca (t + 1), n, ac ρ σ o (t + 1))) := by
  obtain ⟨i, h1, h2⟩ := wl_get ca ρ σ h
  exact ⟨i, h1, by rw [h2, ce_arr hs]⟩
/-- a place that holds a reference for good -/
def isr (o k : Nat) : Bool := ((sh o).1 == 0 && fk (sh o).2 k == 1 && decide (k < fn (sh o).2)) || (decide (5 ≤ (sh o).1 ∧ (sh o).1 ≤ 8) && decide (k < (sh o).2))
def clo (ids : List Nat) : Prop := ∀ o, o ∈ ids → ∀ k, isr o k = true → rf o k ∈ ids
/-- o is there, an object of class c / an array of kind t and length n -/
def IO (ids : List Nat) (o c : Nat) : Prop := clo ids ∧ o ∈ ids ∧ sh o = (0, c)
def IA (ids : List Nat) (o t n : Nat) : Prop := clo ids ∧ o ∈ ids ∧ sh o = (t + 1, n)
theorem wl_D {ids : List Nat} {A : Nat → Prop} (ca : Nat → ClassId) (ρ : Nat → Nat) (σ : St) (hn : ids.Nodup) (hi : inj ids ρ) (hA : ∀ o, o ∈ ids → A (ρ o)) : va_D A (wl ids ca ρ σ) := by
  have key : ∀ (i : Nat) (p : Nat × va_E), (wl ids ca ρ σ)[i]? = some p → ∃ o, ids[i]? = some o ∧ p.1 = ρ o := by
    intro i p h
    rw [wl, List.getElem?_map] at h
    cases ho : ids[i]? with
    | none => rw [ho] at h; cases h
    | some o => rw [ho] at h; cases h; exact ⟨o, rfl, rfl⟩
  refine ⟨fun i j p q h1 h2 e => ?_, fun k q h => ?_⟩
  · obtain ⟨a, a1, a2⟩ := key i p h1
    obtain ⟨b, b1, b2⟩ := key j q h2
    have hab : a = b := hi a b (List.mem_of_getElem? a1) (List.mem_of_getElem? b1) (by rw [← a2, ← b2]; exact e)
    subst hab
    obtain ⟨c1, c2⟩ := List.getElem?_eq_some_iff.mp a1
    obtain ⟨d1, d2⟩ := List.getElem?_eq_some_iff.mp b1
    exact (List.getElem_inj (h₀ := c1) (h₁ := d1) hn).mp (c2.trans d2.symm)
  · obtain ⟨a, a1, a2⟩ := key k q h
    rw [a2]
    exact hA a (List.mem_of_getElem? a1)
section WR2
variable {X : CT} {ids : List Nat} {nL : Nat} {Qp : Option Value → St → Prop} {pc : Nat} {L L' : List (Nat × Value)} {S : List Value} {σ : St} {cc : ByteArray} {ret : Option FieldType} {dep : Nat} {own : String}
/-- a class's facts, by its number -/
def ClsOk (ci : Nat) (C : String) (T : u_T) (N : Nat) (ty : Nat → FieldType) : Prop := vwCl[ci]? = some (C, T, N) ∧ fn ci = N ∧ (∀ w ∈ u_ws C T N, w ∈ TB) ∧ (∀ k, k < N → parseFieldDescriptor (T k).2.2.1 = some (ty k)) ∧ (∀ a, a < N → ∀ b, b < N → a ≠ b → (T a).2.1 ≠ (T b).2.1)
theorem q_get {C ref : String} {T : u_T} {N ci index : Nat} {ty : Nat → FieldType} {o : Nat} {v : Value} (k0 : Nat) (hC : ClsOk ci C T N ty) (hk : k0 < N) (hl : Cond.fieldLink own index ref (T k0).2.1 (T k0).2.2.1 ∈ TB) (hre : (T k0).1 = ref) (hX : Cok X ids nL cc ret dep own) (ho : IO ids o ci) (hd : decode cc pc = .ok (.getfield index, 3)) (hv : ∀ ρ, fv ρ σ o ci k0 = cv ρ v) (k : Wg X ids nL Qp (pc + 3) L (v :: S) σ) : Wg X ids nL Qp pc L (.ref o :: S) σ := by
  obtain ⟨p, l, e, R, s, m, args, below, meth, c, ca, ρ, D, A⟩ := X
  obtain ⟨hx, hb, hown, hts, hK, -⟩ := hX
  obtain ⟨hc, hfn, hin, hty, hnm⟩ := hC
  intro H locs ls hP hS hl'
  obtain ⟨i, -, hi⟩ := wl_obj ca ρ σ ho.2.1 ho.2.2
  have hg := k H locs ls hP hS hl'
  exact va_get (Ts := TB) (D := D) hx hb hts hin hown hK hP i hi hc k0 hk (hts _ hl) (by subst hre; exact fun _ h => h) (by rw [fl_get _ _ _ _ _ (by rw [hfn]; exact hk), hv ρ]) hd hg
theorem q_put {C ref : String} {T : u_T} {N ci index : Nat} {ty : Nat → FieldType} {o : Nat} {v : Value} {x : Int32} (k0 : Nat) (hC : ClsOk ci C T N ty) (hk : k0 < N) (hl : Cond.fieldLink own index ref (T k0).2.1 (T k0).2.2.1 ∈ TB) (hre : (T k0).1 = ref) (hfin : (T k0).2.2.2 = false) (hX : Cok X ids nL cc ret dep own) (ho : IO ids o ci) (hd : decode cc pc = .ok (.putfield index, 3)) (hv : ∀ ρ, fv ρ (si σ o k0 x) o ci k0 = cv ρ v) (hn : ∀ ρ, narrow (ty k0) (cv ρ v) = cv ρ v) (hfit : ∀ ρ, fits (ty k0) (cv ρ v) = true) (k : Wg X ids nL Qp (pc + 3) L S (si σ o k0 x)) : Wg X ids nL Qp pc L (v :: .ref o :: S) σ := by
  obtain ⟨p, l, e, R, s, m, args, below, meth, c, ca, ρ, D, A⟩ := X
  obtain ⟨hx, hb, hown, hts, hK, hD, hnd, -⟩ := hX
  obtain ⟨hc, hfn, hin, hty, hnm⟩ := hC
  intro H locs ls hP hS hl'
  obtain ⟨i, hi0, hi⟩ := wl_obj ca ρ σ ho.2.1 ho.2.2
  have hk2 : k0 < fn ci := by rw [hfn]; exact hk
  refine va_put (Ts := TB) (D := D) hx hb hts hin ty hty hnm hown hK hP (hD σ) hS i hi hc k0 hk (hts _ hl) (by subst hre; exact fun _ h => h) hfin (hty k0 hk) (hn ρ) (hfit ρ) (by simp [fl, hk2]) hd (fun H1 locs1 hP1 hD1 hS1 => ?_)
  have e1 : (wl ids ca ρ σ).set i (ρ o, .inr (ci, (fl ρ σ o ci).set k0 (cv ρ v))) = wl ids ca ρ (si σ o k0 x) := by
    refine wl_set hnd ca ρ hi0 ?_ (fun q hq => ce_si q hq)
    rw [ce_obj ho.2.2, ← hv ρ, fl_si hk2]
  rw [e1] at hP1
  exact k H1 locs1 ls hP1 hS1 hl'
theorem q_iald {o n : Nat} {i : Int32} (hX : Cok X ids nL cc ret dep own) (hd : decode cc pc = .ok (.iaload, 1)) (ho : IA ids o 0 n) (hin : vp_in i n) (k : Wg X ids nL Qp (pc + 1) L (.int (gi σ o i.toNatClampNeg) :: S) σ) : Wg X ids nL Qp pc L (.int i :: .ref o :: S) σ := by
  obtain ⟨p, l, e, R, s, m, args, below, meth, c, ca, ρ, D, A⟩ := X
  obtain ⟨hx, hb, hown, hts, hK, -⟩ := hX
  intro H locs ls hP hS hl'
  obtain ⟨j, -, hj⟩ := wl_arr ca ρ σ ho.2.1 ho.2.2
  exact va_iald hx hb hK hP j 0 hj rfl hin hd (k H locs ls hP hS hl')
theorem q_zald {o n : Nat} {i : Int32} (hX : Cok X ids nL cc ret dep own) (hd : decode cc pc = .ok (.baload, 1)) (ho : IA ids o 2 n) (hin : vp_in i n) (k : Wg X ids nL Qp (pc + 1) L (.int (gi σ o i.toNatClampNeg) :: S) σ) : Wg X ids nL Qp pc L (.int i :: .ref o :: S) σ := by
  obtain ⟨p, l, e, R, s, m, args, below, meth, c, ca, ρ, D, A⟩ := X
  obtain ⟨hx, hb, hown, hts, hK, -⟩ := hX
  intro H locs ls hP hS hl'
  obtain ⟨j, -, hj⟩ := wl_arr ca ρ σ ho.2.1 ho.2.2
  exact va_zald hx hb hK hP j 2 hj rfl hin hd (k H locs ls hP hS hl')
theorem q_lald {o n : Nat} {i : Int32} (hX : Cok X ids nL cc ret dep own) (hd : decode cc pc = .ok (.laload, 1)) (ho : IA ids o 1 n) (hin : vp_in i n) (k : Wg X ids nL Qp (pc + 1) L (.long (gl σ o i.toNatClampNeg) :: S) σ) : Wg X ids nL Qp pc L (.int i :: .ref o :: S) σ := by
  obtain ⟨p, l, e, R, s, m, args, below, meth, c, ca, ρ, D, A⟩ := X
  obtain ⟨hx, hb, hown, hts, hK, -⟩ := hX
  intro H locs ls hP hS hl'
  obtain ⟨j, -, hj⟩ := wl_arr ca ρ σ ho.2.1 ho.2.2
  exact va_lald hx hb hK hP j 1 hj rfl hin hd (k H locs ls hP hS hl')
theorem q_iast {o n : Nat} {i x : Int32} (hX : Cok X ids nL cc ret dep own) (hd : decode cc pc = .ok (.iastore, 1)) (ho : IA ids o 0 n) (hin : vp_in i n) (k : Wg X ids nL Qp (pc + 1) L S (si σ o i.toNatClampNeg x)) : Wg X ids nL Qp pc L (.int x :: .int i :: .ref o :: S) σ := by
  obtain ⟨p, l, e, R, s, m, args, below, meth, c, ca, ρ, D, A⟩ := X
  obtain ⟨hx, hb, hown, hts, hK, hD, hnd, -⟩ := hX
  intro H locs ls hP hS hl'
  obtain ⟨j, hj0, hj⟩ := wl_arr ca ρ σ ho.2.1 ho.2.2
  refine va_iast hx hb hK hP (hD σ) hS j 0 hj rfl hin hd (fun H1 locs1 hP1 hD1 hS1 => ?_)
  have e1 : (wl ids ca ρ σ).set j (ρ o, .inl (ca 1, n, .inl (upd (gi σ o) i.toNatClampNeg x))) = wl ids ca ρ (si σ o i.toNatClampNeg x) := by
    refine wl_set hnd ca ρ hj0 ?_ (fun q hq => ce_si q hq)
    rw [ce_arr ho.2.2, ac_int, gi_si_row]
  rw [e1] at hP1
  exact k H1 locs1 ls hP1 hS1 hl'
theorem q_zast {o n : Nat} {i x : Int32} (hX : Cok X ids nL cc ret dep own) (hd : decode cc pc = .ok (.bastore, 1)) (ho : IA ids o 2 n) (hin : vp_in i n) (k : Wg X ids nL Qp (pc + 1) L S (si σ o i.toNatClampNeg (vp_nar .boolean x))) : Wg X ids nL Qp pc L (.int x :: .int i :: .ref o :: S) σ := by
  obtain ⟨p, l, e, R, s, m, args, below, meth, c, ca, ρ, D, A⟩ := X
  obtain ⟨hx, hb, hown, hts, hK, hD, hnd, -⟩ := hX
  intro H locs ls hP hS hl'
  obtain ⟨j, hj0, hj⟩ := wl_arr ca ρ σ ho.2.1 ho.2.2
  refine va_zast hx hb hK hP (hD σ) hS j 2 hj rfl hin hd (fun H1 locs1 hP1 hD1 hS1 => ?_)
  have e1 : (wl ids ca ρ σ).set j (ρ o, .inl (ca 3, n, .inl (upd (gi σ o) i.toNatClampNeg (vp_nar .boolean x)))) = wl ids ca ρ (si σ o i.toNatClampNeg (vp_nar .boolean x)) := by
    refine wl_set hnd ca ρ hj0 ?_ (fun q hq => ce_si q hq)
    rw [ce_arr ho.2.2, ac_boo, gi_si_row]
  rw [e1] at hP1
  exact k H1 locs1 ls hP1 hS1 hl'
theorem q_last {o n : Nat} {i : Int32} {x : Int64} (hX : Cok X ids nL cc ret dep own) (hd : decode cc pc = .ok (.lastore, 1)) (ho : IA ids o 1 n) (hin : vp_in i n) (k : Wg X ids nL Qp (pc + 1) L S (sl σ o i.toNatClampNeg x)) : Wg X ids nL Qp pc L (.long x :: .int i :: .ref o :: S) σ := by
  obtain ⟨p, l, e, R, s, m, args, below, meth, c, ca, ρ, D, A⟩ := X
  obtain ⟨hx, hb, hown, hts, hK, hD, hnd, -⟩ := hX
  intro H locs ls hP hS hl'
  obtain ⟨j, hj0, hj⟩ := wl_arr ca ρ σ ho.2.1 ho.2.2
  refine va_last hx hb hK hP (hD σ) hS j 1 hj rfl hin hd (fun H1 locs1 hP1 hD1 hS1 => ?_)
  have e1 : (wl ids ca ρ σ).set j (ρ o, .inl (ca 2, n, .inr (.inl (vp_updL (gl σ o) i.toNatClampNeg x)))) = wl ids ca ρ (sl σ o i.toNatClampNeg x) := by
    refine wl_set hnd ca ρ hj0 ?_ (fun q hq => ce_sl q hq)
    rw [ce_arr ho.2.2, ac_lon, gl_sl_row]
  rw [e1] at hP1
  exact k H1 locs1 ls hP1 hS1 hl'
/-- an array of references, whose places hold what they hold for good: Rules[], Stage[], int[][], long[][] -/
theorem q_aald {o t n : Nat} {i : Int32} (ht : 4 ≤ t ∧ t ≤ 7) (hX : Cok X ids nL cc ret dep own) (hd : decode cc pc = .ok (.aaload, 1)) (ho : IA ids o t n) (hin : vp_in i n) (k : Wg X ids nL Qp (pc + 1) L (.ref (rf o i.toNatClampNeg) :: S) σ) : Wg X ids nL Qp pc L (.int i :: .ref o :: S) σ := by
  obtain ⟨p, l, e, R, s, m, args, below, meth, c, ca, ρ, D, A⟩ := X
  obtain ⟨hx, hb, hown, hts, hK, -⟩ := hX
  intro H locs ls hP hS hl'
  obtain ⟨j, -, hj⟩ := wl_arr ca ρ σ ho.2.1 ho.2.2
  have hlt : i.toNatClampNeg < n := Nat.not_le.mp fun q => hin (Or.inr q)
  have ha : ac ρ σ o (t + 1) = .inr (.inr (.inr (.inr fun j => some (ρ (rf o j))))) := by
    rw [ac, if_neg (by omega), if_neg (by omega), if_neg (by omega)]
  rw [ha] at hj
  obtain ⟨ty, hty, hr⟩ : ∃ ty, (tl ca)[t]? = some (ca (t + 1), ty) ∧ ty.isReference = true := by
    rcases (by omega : t = 4 ∨ t = 5 ∨ t = 6 ∨ t = 7) with rfl | rfl | rfl | rfl <;> exact ⟨_, rfl, rfl⟩
  exact W.aald (v := .ref (ρ (rf o i.toNatClampNeg))) (ty := ty) hx hb (hP j _ hj) ((hK.2 t _ hty).1 n (fun j => va_rf (some (ρ (rf o j))))) hr (fun q => by cases q) (by show ¬ (i < 0 ∨ (arrV _ _ _).slots.size ≤ _); rw [arrV_size]; exact hin) (by show (arrV _ _ _).slots[_]? = _; rw [arrV_read _ _ hlt]; rfl) rfl rfl hd (k H locs ls hP hS hl')
/-- Case[]: its places may be empty -/
theorem q_cald {o n : Nat} {i : Int32} (hX : Cok X ids nL cc ret dep own) (hd : decode cc pc = .ok (.aaload, 1)) (ho : IA ids o 3 n) (hin : vp_in i n) (k0 : dc (gi σ o i.toNatClampNeg) = none → Wg X ids nL Qp (pc + 1) L (.null :: S) σ) (k1 : ∀ a, dc (gi σ o i.toNatClampNeg) = some a → Wg X ids nL Qp (pc + 1) L (.ref a :: S) σ) : Wg X ids nL Qp pc L (.int i :: .ref o :: S) σ := by
  obtain ⟨p, l, e, R, s, m, args, below, meth, c, ca, ρ, D, A⟩ := X
  obtain ⟨hx, hb, hown, hts, hK, -⟩ := hX
  intro H locs ls hP hS hl'
  obtain ⟨j, -, hj⟩ := wl_arr ca ρ σ ho.2.1 ho.2.2
  refine va_aldq hx hb hK hP j 3 hj rfl hin hd ?_
  cases hq : dc (gi σ o i.toNatClampNeg) with
  | none =>
    have h := k0 hq H locs ls hP hS hl'
    simpa [hq, va_rf, cS, cv] using h
  | some a =>
    have h := k1 a hq H locs ls hP hS hl'
    simpa [hq, va_rf, cS, cv] using h
theorem q_getnul {C ref : String} {T : u_T} {N ci index : Nat} {ty : Nat → FieldType} {o : Nat} (k0 : Nat) (hC : ClsOk ci C T N ty) (hk : k0 < N) (hl : Cond.fieldLink own index ref (T k0).2.1 (T k0).2.2.1 ∈ TB) (hre : (T k0).1 = ref) (hf : fk ci k0 = 2) (hX : Cok X ids nL cc ret dep own) (ho : IO ids o ci) (hd : decode cc pc = .ok (.getfield index, 3)) (kn : dc (gi σ o k0) = none → Wg X ids nL Qp (pc + 3) L (.null :: S) σ) (ks : ∀ a, dc (gi σ o k0) = some a → Wg X ids nL Qp (pc + 3) L (.ref a :: S) σ) : Wg X ids nL Qp pc L (.ref o :: S) σ := by
  cases hq : dc (gi σ o k0) with
  | none => exact q_get k0 hC hk hl hre hX ho hd (fun ρ => by rw [fv_nul hf, hq]; rfl) (kn hq)
  | some a => exact q_get k0 hC hk hl hre hX ho hd (fun ρ => by rw [fv_nul hf, hq]; rfl) (ks a hq)
end WR2
end
section
/-! statics, returns, calls, a method's start -/
section WR3
variable {X : CT} {ids : List Nat} {nL : Nat} {Qp : Option Value → St → Prop} {pc : Nat} {L L' : List (Nat × Value)} {S : List Value} {σ : St} {cc : ByteArray} {ret : Option FieldType} {dep : Nat} {own : String}
theorem q_ret {v : Int32} (hX : Cok X ids nL cc (some .int) dep own) (hd : decode cc pc = .ok (.ireturn, 1)) (k : Qp (some (.int v)) σ) : Wg X ids nL Qp pc L [.int v] σ := by
  obtain ⟨p, l, e, R, s, m, args, below, meth, c, ca, ρ, D, A⟩ := X
  obtain ⟨hx, hb, hown, hts, hK, hD, hnd, hml, hlocks, hr, -⟩ := hX
  intro H locs ls hP hS hl'
  exact W.iret hx hb hr (fun t ht hW => ⟨⟨some (.int v), σ, rfl, k, by rw [ht]; exact hP, va_K.moved hW.alike hK⟩, hS.F ht⟩) hS.2.2 hd hlocks
theorem q_zret {v : Int32} (hX : Cok X ids nL cc (some .boolean) dep own) (hd : decode cc pc = .ok (.ireturn, 1)) (hv : v = 0 ∨ v = 1) (k : Qp (some (.int v)) σ) : Wg X ids nL Qp pc L [.int v] σ := by
  obtain ⟨p, l, e, R, s, m, args, below, meth, c, ca, ρ, D, A⟩ := X
  obtain ⟨hx, hb, hown, hts, hK, hD, hnd, hml, hlocks, hr, -⟩ := hX
  intro H locs ls hP hS hl'
  exact W.zret hx hb hr (by rcases hv with rfl | rfl <;> rfl) (fun t ht hW => ⟨⟨some (.int v), σ, rfl, k, by rw [ht]; exact hP, va_K.moved hW.alike hK⟩, hS.F ht⟩) hS.2.2 hd hlocks
theorem q_lret {v : Int64} (hX : Cok X ids nL cc (some .long) dep own) (hd : decode cc pc = .ok (.lreturn, 1)) (k : Qp (some (.long v)) σ) : Wg X ids nL Qp pc L [.long v] σ := by
  obtain ⟨p, l, e, R, s, m, args, below, meth, c, ca, ρ, D, A⟩ := X
  obtain ⟨hx, hb, hown, hts, hK, hD, hnd, hml, hlocks, hr, -⟩ := hX
  intro H locs ls hP hS hl'
  exact W.lret hx hb hr (fun t ht hW => ⟨⟨some (.long v), σ, rfl, k, by rw [ht]; exact hP, va_K.moved hW.alike hK⟩, hS.F ht⟩) hS.2.2 hd hlocks
theorem q_vret (hX : Cok X ids nL cc none dep own) (hd : decode cc pc = .ok (.return_, 1)) (k : Qp none σ) : Wg X ids nL Qp pc L [] σ := by
  obtain ⟨p, l, e, R, s, m, args, below, meth, c, ca, ρ, D, A⟩ := X
  obtain ⟨hx, hb, hown, hts, hK, hD, hnd, hml, hlocks, hr, -⟩ := hX
  intro H locs ls hP hS hl'
  exact W.vret hx hb hr (fun t ht hW => ⟨⟨none, σ, rfl, k, by rw [ht]; exact hP, va_K.moved hW.alike hK⟩, hS.F ht⟩) hS.2.2 hd hlocks
theorem q_aret {C : String} {o : Nat} (hX : Cok X ids nL cc (some (.object C)) dep own) (hd : decode cc pc = .ok (.areturn, 1)) (k : Qp (some (.ref o)) σ) : Wg X ids nL Qp pc L [.ref o] σ := by
  obtain ⟨p, l, e, R, s, m, args, below, meth, c, ca, ρ, D, A⟩ := X
  obtain ⟨hx, hb, hown, hts, hK, hD, hnd, hml, hlocks, hr, -⟩ := hX
  intro H locs ls hP hS hl'
  exact W.aret (v := .ref (ρ o)) hx hb hr (Or.inl ⟨_, rfl⟩) (Or.inr ⟨_, rfl⟩) (fun t ht hW => ⟨⟨some (.ref o), σ, rfl, k, by rw [ht]; exact hP, va_K.moved hW.alike hK⟩, hS.F ht⟩) hS.2.2 hd hlocks
theorem q_aretN {C : String} (hX : Cok X ids nL cc (some (.object C)) dep own) (hd : decode cc pc = .ok (.areturn, 1)) (k : Qp (some .null) σ) : Wg X ids nL Qp pc L [.null] σ := by
  obtain ⟨p, l, e, R, s, m, args, below, meth, c, ca, ρ, D, A⟩ := X
  obtain ⟨hx, hb, hown, hts, hK, hD, hnd, hml, hlocks, hr, -⟩ := hX
  intro H locs ls hP hS hl'
  exact W.aret (v := .null) hx hb hr (Or.inl ⟨_, rfl⟩) (Or.inl rfl) (fun t ht hW => ⟨⟨some .null, σ, rfl, k, by rw [ht]; exact hP, va_K.moved hW.alike hK⟩, hS.F ht⟩) hS.2.2 hd hlocks
theorem q_gets {ref n d : String} {index : Nat} (a : Nat) (hX : Cok X ids nL cc ret dep own) (hd : decode cc pc = .ok (.getstatic index, 3)) (hl : Cond.fieldLink own index ref n d ∈ TB) (hZ : ∀ (A : Nat → Prop) (ρ : Nat → Nat) (U : State) (H : Heap), Sx A ρ U H → va_Z ref n d (.ref (ρ a)) A U H) (k : Wg X ids nL Qp (pc + 3) L (.ref a :: S) σ) : Wg X ids nL Qp pc L S σ := by
  obtain ⟨p, l, e, R, s, m, args, below, meth, c, ca, ρ, D, A⟩ := X
  obtain ⟨hx, hb, hown, hts, hK, hD, hnd, hml, hlocks, hr, hR, hSx, -⟩ := hX
  intro H locs ls hP hS hl'
  exact va_gets hx hb (hZ A ρ s s.heap hSx) hS hown (hts _ hl) (fun _ h => h) hd (k H locs ls hP hS hl')
theorem q_getsN {ref n d host : String} {index : Nat} (a : Nat) (hX : Cok X ids nL cc ret dep own) (hd : decode cc pc = .ok (.getstatic index, 3)) (hl : ∀ (A : Nat → Prop) (ρ : Nat → Nat) (U : State) (H : Heap), Sx A ρ U H → va_Nw (.fieldLinkNest own index ref n d host) U) (hZ : ∀ (A : Nat → Prop) (ρ : Nat → Nat) (U : State) (H : Heap), Sx A ρ U H → va_Z ref n d (.ref (ρ a)) A U H) (k : Wg X ids nL Qp (pc + 3) L (.ref a :: S) σ) : Wg X ids nL Qp pc L S σ := by
  obtain ⟨p, l, e, R, s, m, args, below, meth, c, ca, ρ, D, A⟩ := X
  obtain ⟨hx, hb, hown, hts, hK, hD, hnd, hml, hlocks, hr, hR, hSx, -⟩ := hX
  intro H locs ls hP hS hl'
  exact va_getsN hx hb (hZ A ρ s s.heap hSx) hS hown (va_Nw.use rfl (hl A ρ s s.heap hSx)) (fun _ h => h) hd (k H locs ls hP hS hl')
theorem q_tald {i : Int32} {a n : Nat} {f : Nat → Int32} (hX : Cok X ids nL cc ret dep own) (hd : decode cc pc = .ok (.iaload, 1)) (hT : ∀ (A : Nat → Prop) (ρ : Nat → Nat) (U : State) (H : Heap), Sx A ρ U H → va_T .int (ρ a) n (fun j => .int (f j)) A U H) (hin : vp_in i n) (k : Wg X ids nL Qp (pc + 1) L (.int (f i.toNatClampNeg) :: S) σ) : Wg X ids nL Qp pc L (.int i :: .ref a :: S) σ := by
  obtain ⟨p, l, e, R, s, m, args, below, meth, c, ca, ρ, D, A⟩ := X
  obtain ⟨hx, hb, hown, hts, hK, hD, hnd, hml, hlocks, hr, hR, hSx, -⟩ := hX
  intro H locs ls hP hS hl'
  exact va_ti hx hb (hT A ρ s s.heap hSx) hS hin rfl hd (k H locs ls hP hS hl')
theorem q_tlen {a n : Nat} {f : Nat → Int32} {v : Int32} (hX : Cok X ids nL cc ret dep own) (hd : decode cc pc = .ok (.arraylength, 1)) (hT : ∀ (A : Nat → Prop) (ρ : Nat → Nat) (U : State) (H : Heap), Sx A ρ U H → va_T .int (ρ a) n (fun j => .int (f j)) A U H) (hv : Int32.ofNat n = v) (k : Wg X ids nL Qp (pc + 1) L (.int v :: S) σ) : Wg X ids nL Qp pc L (.ref a :: S) σ := by
  obtain ⟨p, l, e, R, s, m, args, below, meth, c, ca, ρ, D, A⟩ := X
  obtain ⟨hx, hb, hown, hts, hK, hD, hnd, hml, hlocks, hr, hR, hSx, -⟩ := hX
  intro H locs ls hP hS hl'
  exact va_tlen hx hb (hT A ρ s s.heap hSx) hS hv hd (k H locs ls hP hS hl')
theorem q_ldc {v : Int32} {index : Nat} (hX : Cok X ids nL cc ret dep own) (hd : decode cc pc = .ok (.ldc index, 2)) (hl : Cond.constant own index v ∈ TB) (k : Wg X ids nL Qp (pc + 2) L (.int v :: S) σ) : Wg X ids nL Qp pc L S σ := by
  obtain ⟨p, l, e, R, s, m, args, below, meth, c, ca, ρ, D, A⟩ := X
  obtain ⟨hx, hb, hown, hts, -⟩ := hX
  intro H locs ls hP hS hl'
  exact lv_ldc hx hb hown (hts _ hl) hd (k H locs ls hP hS hl')
theorem q_ldc2 {v : Int64} {index : Nat} (hX : Cok X ids nL cc ret dep own) (hd : decode cc pc = .ok (.ldc2_w index, 3)) (hl : Cond.constantLong own index v ∈ TB) (k : Wg X ids nL Qp (pc + 3) L (.long v :: S) σ) : Wg X ids nL Qp pc L S σ := by
  obtain ⟨p, l, e, R, s, m, args, below, meth, c, ca, ρ, D, A⟩ := X
  obtain ⟨hx, hb, hown, hts, -⟩ := hX
  intro H locs ls hP hS hl'
  exact lv_ldc2 hx hb hown (hts _ hl) hd (k H locs ls hP hS hl')
/-- what a callee's contract wants of the caller's world -/
theorem Sx_pass {A : Nat → Prop} {ρ : Nat → Nat} {s U : State} {H : Heap} {locs : List Loc} {ids : List Nat} (hSx : Sx A ρ s s.heap) (hS : va_S A s.heap H locs) (hvm : s.WarmedH U.vm) (hH : U.heap = H) (hA : ∀ q, s.heap.size ≤ q → A q) (hI : ∀ o, o ∈ ids → A (ρ o)) : Sx (Af ids ρ H.size) ρ U U.heap := by
  rw [hH]
  refine ((hSx.kept hS.2.1).moved hvm).narrow (fun q hq => ?_)
  rcases hq with ⟨o, ho, rfl⟩ | hq
  · exact hI o ho
  · exact hA q (Nat.le_trans hS.1 hq)
theorem pre_blind {ids : List Nat} {ca : Nat → ClassId} {ρ : Nat → Nat} {D : va_G} {sz : Nat} {σ : St} {av : List Value} : FrameBlind (va_Pc av (preE ids ca ρ D sz σ)) := fun a U g mk h =>
  ⟨h.1, h.2.1, h.2.2.1, va_K.moved (u := U) (U := U.calling g mk a) (Vm.Alike.refl U.vm) h.2.2.2.1, h.2.2.2.2.same (u := U) (U := U.calling g mk a) rfl⟩
/-- behind a call -/
theorem q_back {p : Program} {l : Launch} {e : Env} {R : Room} {s : State} {m : MethodId} {args a : Array Value} {below : List Frame} {meth : Method} {c : Code} {H : Heap} {locs : List Loc} {ca : Nat → ClassId} {ρ : Nat → Nat} {D : va_G} {A : Nat → Prop} {ids : List Nat} {ls : Array Slot} {rest st0 : List Value} {F : Option Value → St → Prop} {Q : State → Prop} {pc : Nat}
    (hr : va_Run p l e R s m args below meth c H locs 0 0 0 0 (F0 m pc ls st0) rest (qcE ids ca ρ D (Af ids ρ H.size) F a) (Af ids ρ H.size)) (hS : va_S A s.heap H locs) (hA : ∀ q, s.heap.size ≤ q → A q) (hI : ∀ o, o ∈ ids → A (ρ o))
    (kk : ∀ (r : Option Value) (σ' : St) (H1 : Heap) (locs1 : List Loc), F r σ' → va_P D vwCl (wl ids ca ρ σ') H1 → va_S A s.heap H1 locs1 → W p l e R s m args below meth c H1 locs1 0 0 Q (F0 m (pc + 3) ls ((r.map (cv ρ)).toList ++ rest))) : W p l e R s m args below meth c H locs 0 0 Q (F0 m pc ls st0) := by
  have hF : ∀ q, Af ids ρ H.size q → A q := fun q hq => by
    rcases hq with ⟨o, ho, rfl⟩ | hq
    · exact hI o ho
    · exact hA q (Nat.le_trans hS.1 hq)
  intro T hT X
  obtain ⟨v, st₀, t, T', L, h0, X', hL, e1, e2, ⟨⟨r, σ', hv, hp, hP, -⟩, hz, hk⟩, st⟩ := hr T hT X
  cases hv
  rw [h0] at hz hk
  obtain ⟨t2, a1, b1⟩ := kk r σ' T'.heap (locs ++ L) hp (by rw [e1]; exact hP)
    ⟨Nat.le_trans hS.1 (by rw [e1]; exact hz), fun q h1 h2 => by rw [e1, hk q (Nat.lt_of_lt_of_le h1 hS.1) (fun z => h2 (hF q z))]; exact hS.2.1 q h1 h2, fun q hq => by
      rcases List.mem_append.mp hq with h | h
      · exact hS.2.2 q h
      · exact hF _ (hL q h)⟩ T' rfl X'
  exact ⟨t2, st t2 a1, b1⟩
/-- a method that may be called: plain, its code among the words -/
def YOk (y : MY) (n : Nat) : Prop := Cond.code y.1 y.2.1 y.2.2.1 y.2.2.2 ∈ TB ∧ Cond.initialized y.1.cls ∈ TB ∧ (y.1.cls ≠ "java/lang/invoke/MethodHandle" ∧ y.1.cls ≠ "java/lang/invoke/VarHandle" ∧ (parseMethodDescriptor y.1.desc).map (fun d => d.parameters.length) = some n) ∧ y.2.2.1 ≤ 45
theorem YOk.good {y : MY} {n : Nat} (h : YOk y n) : GoodIn TB (wsE y) := fun w hw => by
  rcases List.mem_cons.mp hw with rfl | hw
  · exact ⟨h.1, TB_good _ h.1⟩
  · exact ⟨hw, TB_good _ hw⟩
theorem q_callV {y : MY} {index n d ci : Nat} {C : String} {T : u_T} {N : Nat} {As : List Value} {st : List Value} {o : Nat} {F : Option Value → St → Prop} (hy : YOk y n) (hc : vwCl[ci]? = some (C, T, N)) (hC : y.1.cls = C) (hin : Cond.instanceMethod y.1 ∈ TB) (hse : Cond.selects C y.1 y.1 ∈ TB) (hl : Cond.methodLink own index y.1 ∈ TB) (hX : Cok X ids nL cc ret dep own) (hdep : d + 1 ≤ dep) (hd : decode cc pc = .ok (.invokevirtual index, 3)) (ho : IO ids o ci) (hn : As.length = n) (hst : st = As.reverse ++ .ref o :: S) (hW : (S.map fun v => v.category).sum ≤ 8)
    (hE : E d ids y (.ref o :: As) σ F) (kk : ∀ r σ', F r σ' → Wg X ids nL Qp (pc + 3) L (r.toList ++ S) σ') : Wg X ids nL Qp pc L st σ := by
  obtain ⟨p, l, e, R, s, m, args, below, meth, c, ca, ρ, D, A⟩ := X
  obtain ⟨hx, hb, hown, hts, hK, hD, hnd, hml, hlocks, hr, hR, hSx, hinj, hA, hI⟩ := hX
  intro H locs ls hP hS hl'
  subst hst
  obtain ⟨i, -, hi⟩ := wl_obj ca ρ σ ho.2.1 ho.2.2
  have hrec := va_recv hK hP (ci := ci) (q0 := i) hc hi
  have hcw : CallW R s args own C index y.1 y.2.1 y.2.2.1 y.2.2.2 (wsE y) (rmE d) 0 0 n := by
    refine ⟨callB_of (ws' := TB) n hts hy.good rfl rfl rfl (hts _ hy.2.1) (hts _ hl) hy.2.2.1 ?_, hts _ hin, hts _ hse⟩
    rw [hR]
    have h45 := hy.2.2.2
    simp only [rmE]
    omega
  refine q_back (va_runV (As := cS ρ As) (rest := cS ρ S) (Ts := TB) (C := C) ⟨hx, hb, hml, hown, hts⟩ (hE l ca ρ D H.size hnd hinj) hcw ⟨pre_blind, hrec, fun U hU hW => ⟨rfl, by rw [hU], by rw [hU]; exact hP, va_K.moved hW.alike hK, Sx_pass hSx hS hW hU hA hI⟩⟩ rfl (by rw [cS, List.length_map]; exact hn) hl'.1 (by simp [cS, cv, F0]) (lv_room (by rw [cS_cat]; exact hW)) hd ⟨Nat.zero_le _, Nat.zero_le _⟩) hS hA hI (fun r σ' H1 locs1 hF hP1 hS1 => ?_)
  have h := kk r σ' hF H1 locs1 ls hP1 hS1 hl'
  cases r <;> exact h
theorem q_callS {y : MY} {index n d : Nat} {As : List Value} {st : List Value} {F : Option Value → St → Prop} (hy : YOk y n) (hin : Cond.static y.1 ∈ TB) (hl : Cond.methodLink own index y.1 ∈ TB) (hX : Cok X ids nL cc ret dep own) (hdep : d + 1 ≤ dep) (hd : decode cc pc = .ok (.invokestatic index, 3)) (hn : As.length = n) (hst : st = As.reverse ++ S) (hW : (S.map fun v => v.category).sum ≤ 8)
    (hE : E d ids y As σ F) (kk : ∀ r σ', F r σ' → Wg X ids nL Qp (pc + 3) L (r.toList ++ S) σ') : Wg X ids nL Qp pc L st σ := by
  obtain ⟨p, l, e, R, s, m, args, below, meth, c, ca, ρ, D, A⟩ := X
  obtain ⟨hx, hb, hown, hts, hK, hD, hnd, hml, hlocks, hr, hR, hSx, hinj, hA, hI⟩ := hX
  intro H locs ls hP hS hl'
  subst hst
  have hcw : CallB R s args own index y.1 y.2.1 y.2.2.1 y.2.2.2 (wsE y) (rmE d) 0 0 n ∧ (Cond.static y.1).before args s = true := by
    refine ⟨callB_of (ws' := TB) n hts hy.good rfl rfl rfl (hts _ hy.2.1) (hts _ hl) hy.2.2.1 ?_, hts _ hin⟩
    rw [hR]
    have h45 := hy.2.2.2
    simp only [rmE]
    omega
  refine q_back (va_runS (As := cS ρ As) (rest := cS ρ S) (Ts := TB) ⟨hx, hb, hml, hown, hts⟩ (hE l ca ρ D H.size hnd hinj) hcw ⟨pre_blind, fun U hU hW => ⟨rfl, by rw [hU], by rw [hU]; exact hP, va_K.moved hW.alike hK, Sx_pass hSx hS hW hU hA hI⟩⟩ rfl (by rw [cS, List.length_map]; exact hn) hl'.1 (by simp [cS, F0]) (lv_room (by rw [cS_cat]; exact hW)) hd ⟨Nat.zero_le _, Nat.zero_le _⟩) hS hA hI (fun r σ' H1 locs1 hF hP1 hS1 => ?_)
  have h := kk r σ' hF H1 locs1 ls hP1 hS1 hl'
  cases r <;> exact h
end WR3
theorem lg_len (ρ : Nat → Nat) : ∀ av : List Value, (lg_sl (cS ρ av)).length = (lg_sl av).length
  | [] => rfl
  | v :: av => by
    show (List.append (if (cv ρ v).category = 2 then [.val (cv ρ v), .second] else [.val (cv ρ v)]) (lg_sl (cS ρ av))).length = (List.append (if v.category = 2 then [.val v, .second] else [.val v]) (lg_sl av)).length
    rw [cv_cat]
    simp only [List.append_eq, List.length_append, lg_len ρ av]
    split <;> simp
/-- A METHOD'S START: its contract out of the walk from pc 0 -/
theorem E_mk {d : Nat} {ids : List Nat} {y : MY} {av : List Value} {σ : St} {Qp : Option Value → St → Prop} (hp : plainName y.1.cls = true) (hlen : (lg_sl av).length ≤ y.2.2.1)
    (body : ∀ X : CT, Cok X ids y.2.2.1 y.2.1 y.2.2.2 d y.1.cls → Wg X ids y.2.2.1 Qp 0 (lv_args 0 av) [] σ) : E d ids y av σ Qp := by
  intro l ca ρ D sz hnd hinj
  refine Met.ofW (cc := y.2.1) (maxL := y.2.2.1) (ret := y.2.2.2) hp rfl ?_
  intro p e s m args below meth c s₁ B hml hv
  obtain ⟨rfl, hsz, hP, hK, hSx⟩ := hv
  subst hsz
  have hts := atoms_spec (ws := wsE y) B.pre
  have hI : ∀ o, o ∈ ids → Af ids ρ s.heap.size (ρ o) := fun o ho => Or.inl ⟨o, ho, rfl⟩
  have h := body (p, l, e, rmE d, s, m, (cS ρ av).toArray, below, meth, c, ca, ρ, D, Af ids ρ s.heap.size) ⟨B.exec, B.bytes, findClass_of_methodNamed B.named, fun w hw => hts w (List.mem_cons_of_mem _ hw), hK, fun σ => wl_D ca ρ σ hnd hinj hI, hnd, hml, B.notSynchronized, B.returns, rfl, hSx, hinj, fun q hq => Or.inr hq, hI⟩
  have hlen' : (lg_sl (cS ρ av)).length ≤ y.2.2.1 := by
    rw [lg_len]; exact hlen
  have hl := lv_entry (cS ρ av) hlen'
  rw [lg_entry_eq]
  rw [cL_args] at hl
  exact h s.heap [] _ hP va_S.rf hl
end
section
/-! what is found through a reference that is held for good; names for what is computed -/
theorem dc_nI {n : Nat} (h : n < 2 ^ 31) : dc (nI n) = some n := by rw [dc, if_neg (nI_pos h), nI_clamp h]
theorem sh_lt {o : Nat} {t n : Nat} (h : sh o = (t, n)) (ht : t < 9) : o < 440 := by
  rcases Nat.lt_or_ge o 440 with q | q
  · exact q
  · exfalso
    have e : sh o = (9, 0) := by
      unfold sh shC
      rw [if_neg (by omega), if_neg (by omega), if_neg (by omega), if_neg (by omega)]
    rw [e] at h
    cases h
    exact absurd ht (by decide)
theorem IO_lt {ids : List Nat} {o c : Nat} (h : IO ids o c) : o < 2 ^ 31 := by
  have h1 := sh_lt h.2.2 (by decide)
  omega
theorem ne_toInt {x : Int32} {k : Int} {y : Int32} (h : ¬ x = y) (hk : y.toInt = k) : x.toInt ≠ k := fun e => h (Int32.toInt_inj.mp (e.trans hk.symm))
theorem vp_lt {i : Int32} {n : Nat} (h : vp_in i n) : i.toNatClampNeg < n := Nat.not_le.mp fun q => h (Or.inr q)
theorem Wg.nmI {X : CT} {ids : List Nat} {nL : Nat} {Qp : Option Value → St → Prop} {pc : Nat} {L : List (Nat × Value)} {S : List Value} {σ : St} {x : Int32} (k : ∀ y : Int32, y = x → Wg X ids nL Qp pc L (.int y :: S) σ) : Wg X ids nL Qp pc L (.int x :: S) σ := k x rfl
theorem Wg.nmS {X : CT} {ids : List Nat} {nL : Nat} {Qp : Option Value → St → Prop} {pc : Nat} {L : List (Nat × Value)} {S : List Value} {σ0 : St} (k : ∀ σ : St, σ = σ0 → Wg X ids nL Qp pc L S σ) : Wg X ids nL Qp pc L S σ0 := k σ0 rfl
theorem rfO_0_1 {ids : List Nat} {o : Nat} (h : IO ids o 0) : IA ids (rf o 1) 0 20 := ⟨h.1, h.1 o h.2.1 1 (by rw [isr, h.2.2]; rfl), (show ∀ o, o < 440 → sh o = (0, 0) → sh (rf o 1) = (1, 20) by decide +kernel) o (sh_lt h.2.2 (by decide)) h.2.2⟩
theorem rfO_1_1 {ids : List Nat} {o : Nat} (h : IO ids o 1) : IA ids (rf o 1) 6 3 := ⟨h.1, h.1 o h.2.1 1 (by rw [isr, h.2.2]; rfl), (show ∀ o, o < 440 → sh o = (0, 1) → sh (rf o 1) = (7, 3) by decide +kernel) o (sh_lt h.2.2 (by decide)) h.2.2⟩
theorem rfO_2_0 {ids : List Nat} {o : Nat} (h : IO ids o 2) : IA ids (rf o 0) 0 5 := ⟨h.1, h.1 o h.2.1 0 (by rw [isr, h.2.2]; rfl), (show ∀ o, o < 440 → sh o = (0, 2) → sh (rf o 0) = (1, 5) by decide +kernel) o (sh_lt h.2.2 (by decide)) h.2.2⟩
theorem rfO_2_1 {ids : List Nat} {o : Nat} (h : IO ids o 2) : IA ids (rf o 1) 0 5 := ⟨h.1, h.1 o h.2.1 1 (by rw [isr, h.2.2]; rfl), (show ∀ o, o < 440 → sh o = (0, 2) → sh (rf o 1) = (1, 5) by decide +kernel) o (sh_lt h.2.2 (by decide)) h.2.2⟩
theorem rfO_2_2 {ids : List Nat} {o : Nat} (h : IO ids o 2) : IA ids (rf o 2) 5 6 := ⟨h.1, h.1 o h.2.1 2 (by rw [isr, h.2.2]; rfl), (show ∀ o, o < 440 → sh o = (0, 2) → sh (rf o 2) = (6, 6) by decide +kernel) o (sh_lt h.2.2 (by decide)) h.2.2⟩
theorem rfO_2_3 {ids : List Nat} {o : Nat} (h : IO ids o 2) : IA ids (rf o 3) 0 5 := ⟨h.1, h.1 o h.2.1 3 (by rw [isr, h.2.2]; rfl), (show ∀ o, o < 440 → sh o = (0, 2) → sh (rf o 3) = (1, 5) by decide +kernel) o (sh_lt h.2.2 (by decide)) h.2.2⟩
theorem rfO_2_4 {ids : List Nat} {o : Nat} (h : IO ids o 2) : IA ids (rf o 4) 0 8 := ⟨h.1, h.1 o h.2.1 4 (by rw [isr, h.2.2]; rfl), (show ∀ o, o < 440 → sh o = (0, 2) → sh (rf o 4) = (1, 8) by decide +kernel) o (sh_lt h.2.2 (by decide)) h.2.2⟩
theorem rfO_3_1 {ids : List Nat} {o : Nat} (h : IO ids o 3) : IA ids (rf o 1) 0 6 := ⟨h.1, h.1 o h.2.1 1 (by rw [isr, h.2.2]; rfl), (show ∀ o, o < 440 → sh o = (0, 3) → sh (rf o 1) = (1, 6) by decide +kernel) o (sh_lt h.2.2 (by decide)) h.2.2⟩
theorem rfO_3_2 {ids : List Nat} {o : Nat} (h : IO ids o 3) : IA ids (rf o 2) 0 6 := ⟨h.1, h.1 o h.2.1 2 (by rw [isr, h.2.2]; rfl), (show ∀ o, o < 440 → sh o = (0, 3) → sh (rf o 2) = (1, 6) by decide +kernel) o (sh_lt h.2.2 (by decide)) h.2.2⟩
theorem rfO_3_3 {ids : List Nat} {o : Nat} (h : IO ids o 3) : IA ids (rf o 3) 0 6 := ⟨h.1, h.1 o h.2.1 3 (by rw [isr, h.2.2]; rfl), (show ∀ o, o < 440 → sh o = (0, 3) → sh (rf o 3) = (1, 6) by decide +kernel) o (sh_lt h.2.2 (by decide)) h.2.2⟩
theorem rfO_3_5 {ids : List Nat} {o : Nat} (h : IO ids o 3) : IA ids (rf o 5) 0 100 := ⟨h.1, h.1 o h.2.1 5 (by rw [isr, h.2.2]; rfl), (show ∀ o, o < 440 → sh o = (0, 3) → sh (rf o 5) = (1, 100) by decide +kernel) o (sh_lt h.2.2 (by decide)) h.2.2⟩
theorem rfO_4_7 {ids : List Nat} {o : Nat} (h : IO ids o 4) : IA ids (rf o 7) 0 2 := ⟨h.1, h.1 o h.2.1 7 (by rw [isr, h.2.2]; rfl), (show ∀ o, o < 440 → sh o = (0, 4) → sh (rf o 7) = (1, 2) by decide +kernel) o (sh_lt h.2.2 (by decide)) h.2.2⟩
theorem rfO_5_0 {ids : List Nat} {o : Nat} (h : IO ids o 5) : IA ids (rf o 0) 0 100 := ⟨h.1, h.1 o h.2.1 0 (by rw [isr, h.2.2]; rfl), (show ∀ o, o < 440 → sh o = (0, 5) → sh (rf o 0) = (1, 100) by decide +kernel) o (sh_lt h.2.2 (by decide)) h.2.2⟩
theorem rfO_6_0 {ids : List Nat} {o : Nat} (h : IO ids o 6) : IA ids (rf o 0) 0 5 := ⟨h.1, h.1 o h.2.1 0 (by rw [isr, h.2.2]; rfl), (show ∀ o, o < 440 → sh o = (0, 6) → sh (rf o 0) = (1, 5) by decide +kernel) o (sh_lt h.2.2 (by decide)) h.2.2⟩
theorem rfO_6_1 {ids : List Nat} {o : Nat} (h : IO ids o 6) : IA ids (rf o 1) 0 5 := ⟨h.1, h.1 o h.2.1 1 (by rw [isr, h.2.2]; rfl), (show ∀ o, o < 440 → sh o = (0, 6) → sh (rf o 1) = (1, 5) by decide +kernel) o (sh_lt h.2.2 (by decide)) h.2.2⟩
theorem rfO_6_2 {ids : List Nat} {o : Nat} (h : IO ids o 6) : IA ids (rf o 2) 3 4 := ⟨h.1, h.1 o h.2.1 2 (by rw [isr, h.2.2]; rfl), (show ∀ o, o < 440 → sh o = (0, 6) → sh (rf o 2) = (4, 4) by decide +kernel) o (sh_lt h.2.2 (by decide)) h.2.2⟩
theorem rfO_6_4 {ids : List Nat} {o : Nat} (h : IO ids o 6) : IO ids (rf o 4) 5 := ⟨h.1, h.1 o h.2.1 4 (by rw [isr, h.2.2]; rfl), (show ∀ o, o < 440 → sh o = (0, 6) → sh (rf o 4) = (0, 5) by decide +kernel) o (sh_lt h.2.2 (by decide)) h.2.2⟩
theorem rfO_6_5 {ids : List Nat} {o : Nat} (h : IO ids o 6) : IA ids (rf o 5) 4 5 := ⟨h.1, h.1 o h.2.1 5 (by rw [isr, h.2.2]; rfl), (show ∀ o, o < 440 → sh o = (0, 6) → sh (rf o 5) = (5, 5) by decide +kernel) o (sh_lt h.2.2 (by decide)) h.2.2⟩
theorem rfO_6_7 {ids : List Nat} {o : Nat} (h : IO ids o 6) : IO ids (rf o 7) 2 := ⟨h.1, h.1 o h.2.1 7 (by rw [isr, h.2.2]; rfl), (show ∀ o, o < 440 → sh o = (0, 6) → sh (rf o 7) = (0, 2) by decide +kernel) o (sh_lt h.2.2 (by decide)) h.2.2⟩
theorem rfO_6_8 {ids : List Nat} {o : Nat} (h : IO ids o 6) : IO ids (rf o 8) 2 := ⟨h.1, h.1 o h.2.1 8 (by rw [isr, h.2.2]; rfl), (show ∀ o, o < 440 → sh o = (0, 6) → sh (rf o 8) = (0, 2) by decide +kernel) o (sh_lt h.2.2 (by decide)) h.2.2⟩
theorem rfO_6_9 {ids : List Nat} {o : Nat} (h : IO ids o 6) : IO ids (rf o 9) 0 := ⟨h.1, h.1 o h.2.1 9 (by rw [isr, h.2.2]; rfl), (show ∀ o, o < 440 → sh o = (0, 6) → sh (rf o 9) = (0, 0) by decide +kernel) o (sh_lt h.2.2 (by decide)) h.2.2⟩
theorem rfO_6_10 {ids : List Nat} {o : Nat} (h : IO ids o 6) : IA ids (rf o 10) 0 6 := ⟨h.1, h.1 o h.2.1 10 (by rw [isr, h.2.2]; rfl), (show ∀ o, o < 440 → sh o = (0, 6) → sh (rf o 10) = (1, 6) by decide +kernel) o (sh_lt h.2.2 (by decide)) h.2.2⟩
theorem rfO_6_11 {ids : List Nat} {o : Nat} (h : IO ids o 6) : IA ids (rf o 11) 0 6 := ⟨h.1, h.1 o h.2.1 11 (by rw [isr, h.2.2]; rfl), (show ∀ o, o < 440 → sh o = (0, 6) → sh (rf o 11) = (1, 6) by decide +kernel) o (sh_lt h.2.2 (by decide)) h.2.2⟩
theorem rfO_6_12 {ids : List Nat} {o : Nat} (h : IO ids o 6) : IA ids (rf o 12) 7 6 := ⟨h.1, h.1 o h.2.1 12 (by rw [isr, h.2.2]; rfl), (show ∀ o, o < 440 → sh o = (0, 6) → sh (rf o 12) = (8, 6) by decide +kernel) o (sh_lt h.2.2 (by decide)) h.2.2⟩
theorem rfO_7_1 {ids : List Nat} {o : Nat} (h : IO ids o 7) : IA ids (rf o 1) 0 6 := ⟨h.1, h.1 o h.2.1 1 (by rw [isr, h.2.2]; rfl), (show ∀ o, o < 440 → sh o = (0, 7) → sh (rf o 1) = (1, 6) by decide +kernel) o (sh_lt h.2.2 (by decide)) h.2.2⟩
theorem rfO_7_2 {ids : List Nat} {o : Nat} (h : IO ids o 7) : IA ids (rf o 2) 0 6 := ⟨h.1, h.1 o h.2.1 2 (by rw [isr, h.2.2]; rfl), (show ∀ o, o < 440 → sh o = (0, 7) → sh (rf o 2) = (1, 6) by decide +kernel) o (sh_lt h.2.2 (by decide)) h.2.2⟩
theorem rfO_7_3 {ids : List Nat} {o : Nat} (h : IO ids o 7) : IA ids (rf o 3) 0 4 := ⟨h.1, h.1 o h.2.1 3 (by rw [isr, h.2.2]; rfl), (show ∀ o, o < 440 → sh o = (0, 7) → sh (rf o 3) = (1, 4) by decide +kernel) o (sh_lt h.2.2 (by decide)) h.2.2⟩
theorem rfO_7_4 {ids : List Nat} {o : Nat} (h : IO ids o 7) : IA ids (rf o 4) 0 24 := ⟨h.1, h.1 o h.2.1 4 (by rw [isr, h.2.2]; rfl), (show ∀ o, o < 440 → sh o = (0, 7) → sh (rf o 4) = (1, 24) by decide +kernel) o (sh_lt h.2.2 (by decide)) h.2.2⟩
theorem rfO_7_5 {ids : List Nat} {o : Nat} (h : IO ids o 7) : IA ids (rf o 5) 0 24 := ⟨h.1, h.1 o h.2.1 5 (by rw [isr, h.2.2]; rfl), (show ∀ o, o < 440 → sh o = (0, 7) → sh (rf o 5) = (1, 24) by decide +kernel) o (sh_lt h.2.2 (by decide)) h.2.2⟩
theorem rfO_7_6 {ids : List Nat} {o : Nat} (h : IO ids o 7) : IA ids (rf o 6) 0 24 := ⟨h.1, h.1 o h.2.1 6 (by rw [isr, h.2.2]; rfl), (show ∀ o, o < 440 → sh o = (0, 7) → sh (rf o 6) = (1, 24) by decide +kernel) o (sh_lt h.2.2 (by decide)) h.2.2⟩
theorem rfO_7_7 {ids : List Nat} {o : Nat} (h : IO ids o 7) : IA ids (rf o 7) 2 384 := ⟨h.1, h.1 o h.2.1 7 (by rw [isr, h.2.2]; rfl), (show ∀ o, o < 440 → sh o = (0, 7) → sh (rf o 7) = (3, 384) by decide +kernel) o (sh_lt h.2.2 (by decide)) h.2.2⟩
theorem rfO_7_12 {ids : List Nat} {o : Nat} (h : IO ids o 7) : IA ids (rf o 12) 0 100 := ⟨h.1, h.1 o h.2.1 12 (by rw [isr, h.2.2]; rfl), (show ∀ o, o < 440 → sh o = (0, 7) → sh (rf o 12) = (1, 100) by decide +kernel) o (sh_lt h.2.2 (by decide)) h.2.2⟩
theorem rfO_7_13 {ids : List Nat} {o : Nat} (h : IO ids o 7) : IA ids (rf o 13) 0 5 := ⟨h.1, h.1 o h.2.1 13 (by rw [isr, h.2.2]; rfl), (show ∀ o, o < 440 → sh o = (0, 7) → sh (rf o 13) = (1, 5) by decide +kernel) o (sh_lt h.2.2 (by decide)) h.2.2⟩
theorem rfO_7_14 {ids : List Nat} {o : Nat} (h : IO ids o 7) : IA ids (rf o 14) 0 30 := ⟨h.1, h.1 o h.2.1 14 (by rw [isr, h.2.2]; rfl), (show ∀ o, o < 440 → sh o = (0, 7) → sh (rf o 14) = (1, 30) by decide +kernel) o (sh_lt h.2.2 (by decide)) h.2.2⟩
theorem rfO_7_15 {ids : List Nat} {o : Nat} (h : IO ids o 7) : IA ids (rf o 15) 0 30 := ⟨h.1, h.1 o h.2.1 15 (by rw [isr, h.2.2]; rfl), (show ∀ o, o < 440 → sh o = (0, 7) → sh (rf o 15) = (1, 30) by decide +kernel) o (sh_lt h.2.2 (by decide)) h.2.2⟩
theorem rfO_7_16 {ids : List Nat} {o : Nat} (h : IO ids o 7) : IA ids (rf o 16) 0 30 := ⟨h.1, h.1 o h.2.1 16 (by rw [isr, h.2.2]; rfl), (show ∀ o, o < 440 → sh o = (0, 7) → sh (rf o 16) = (1, 30) by decide +kernel) o (sh_lt h.2.2 (by decide)) h.2.2⟩
theorem rfO_7_17 {ids : List Nat} {o : Nat} (h : IO ids o 7) : IA ids (rf o 17) 0 30 := ⟨h.1, h.1 o h.2.1 17 (by rw [isr, h.2.2]; rfl), (show ∀ o, o < 440 → sh o = (0, 7) → sh (rf o 17) = (1, 30) by decide +kernel) o (sh_lt h.2.2 (by decide)) h.2.2⟩
theorem rfO_7_18 {ids : List Nat} {o : Nat} (h : IO ids o 7) : IA ids (rf o 18) 0 30 := ⟨h.1, h.1 o h.2.1 18 (by rw [isr, h.2.2]; rfl), (show ∀ o, o < 440 → sh o = (0, 7) → sh (rf o 18) = (1, 30) by decide +kernel) o (sh_lt h.2.2 (by decide)) h.2.2⟩
theorem rfO_7_19 {ids : List Nat} {o : Nat} (h : IO ids o 7) : IA ids (rf o 19) 0 500 := ⟨h.1, h.1 o h.2.1 19 (by rw [isr, h.2.2]; rfl), (show ∀ o, o < 440 → sh o = (0, 7) → sh (rf o 19) = (1, 500) by decide +kernel) o (sh_lt h.2.2 (by decide)) h.2.2⟩
theorem rfO_7_20 {ids : List Nat} {o : Nat} (h : IO ids o 7) : IA ids (rf o 20) 0 101 := ⟨h.1, h.1 o h.2.1 20 (by rw [isr, h.2.2]; rfl), (show ∀ o, o < 440 → sh o = (0, 7) → sh (rf o 20) = (1, 101) by decide +kernel) o (sh_lt h.2.2 (by decide)) h.2.2⟩
theorem rfO_7_27 {ids : List Nat} {o : Nat} (h : IO ids o 7) : IA ids (rf o 27) 0 8 := ⟨h.1, h.1 o h.2.1 27 (by rw [isr, h.2.2]; rfl), (show ∀ o, o < 440 → sh o = (0, 7) → sh (rf o 27) = (1, 8) by decide +kernel) o (sh_lt h.2.2 (by decide)) h.2.2⟩
theorem rfO_7_28 {ids : List Nat} {o : Nat} (h : IO ids o 7) : IA ids (rf o 28) 0 8 := ⟨h.1, h.1 o h.2.1 28 (by rw [isr, h.2.2]; rfl), (show ∀ o, o < 440 → sh o = (0, 7) → sh (rf o 28) = (1, 8) by decide +kernel) o (sh_lt h.2.2 (by decide)) h.2.2⟩
theorem rfO_7_29 {ids : List Nat} {o : Nat} (h : IO ids o 7) : IA ids (rf o 29) 0 8 := ⟨h.1, h.1 o h.2.1 29 (by rw [isr, h.2.2]; rfl), (show ∀ o, o < 440 → sh o = (0, 7) → sh (rf o 29) = (1, 8) by decide +kernel) o (sh_lt h.2.2 (by decide)) h.2.2⟩
theorem rfO_7_30 {ids : List Nat} {o : Nat} (h : IO ids o 7) : IA ids (rf o 30) 0 8 := ⟨h.1, h.1 o h.2.1 30 (by rw [isr, h.2.2]; rfl), (show ∀ o, o < 440 → sh o = (0, 7) → sh (rf o 30) = (1, 8) by decide +kernel) o (sh_lt h.2.2 (by decide)) h.2.2⟩
theorem rfO_7_31 {ids : List Nat} {o : Nat} (h : IO ids o 7) : IA ids (rf o 31) 0 8 := ⟨h.1, h.1 o h.2.1 31 (by rw [isr, h.2.2]; rfl), (show ∀ o, o < 440 → sh o = (0, 7) → sh (rf o 31) = (1, 8) by decide +kernel) o (sh_lt h.2.2 (by decide)) h.2.2⟩
theorem rfO_7_32 {ids : List Nat} {o : Nat} (h : IO ids o 7) : IA ids (rf o 32) 0 8 := ⟨h.1, h.1 o h.2.1 32 (by rw [isr, h.2.2]; rfl), (show ∀ o, o < 440 → sh o = (0, 7) → sh (rf o 32) = (1, 8) by decide +kernel) o (sh_lt h.2.2 (by decide)) h.2.2⟩
theorem rfO_7_33 {ids : List Nat} {o : Nat} (h : IO ids o 7) : IA ids (rf o 33) 0 8 := ⟨h.1, h.1 o h.2.1 33 (by rw [isr, h.2.2]; rfl), (show ∀ o, o < 440 → sh o = (0, 7) → sh (rf o 33) = (1, 8) by decide +kernel) o (sh_lt h.2.2 (by decide)) h.2.2⟩
theorem rfO_7_34 {ids : List Nat} {o : Nat} (h : IO ids o 7) : IA ids (rf o 34) 0 8 := ⟨h.1, h.1 o h.2.1 34 (by rw [isr, h.2.2]; rfl), (show ∀ o, o < 440 → sh o = (0, 7) → sh (rf o 34) = (1, 8) by decide +kernel) o (sh_lt h.2.2 (by decide)) h.2.2⟩
theorem rfO_7_35 {ids : List Nat} {o : Nat} (h : IO ids o 7) : IA ids (rf o 35) 0 8 := ⟨h.1, h.1 o h.2.1 35 (by rw [isr, h.2.2]; rfl), (show ∀ o, o < 440 → sh o = (0, 7) → sh (rf o 35) = (1, 8) by decide +kernel) o (sh_lt h.2.2 (by decide)) h.2.2⟩
theorem rfO_7_36 {ids : List Nat} {o : Nat} (h : IO ids o 7) : IA ids (rf o 36) 2 8 := ⟨h.1, h.1 o h.2.1 36 (by rw [isr, h.2.2]; rfl), (show ∀ o, o < 440 → sh o = (0, 7) → sh (rf o 36) = (3, 8) by decide +kernel) o (sh_lt h.2.2 (by decide)) h.2.2⟩
theorem rfO_7_37 {ids : List Nat} {o : Nat} (h : IO ids o 7) : IA ids (rf o 37) 2 100 := ⟨h.1, h.1 o h.2.1 37 (by rw [isr, h.2.2]; rfl), (show ∀ o, o < 440 → sh o = (0, 7) → sh (rf o 37) = (3, 100) by decide +kernel) o (sh_lt h.2.2 (by decide)) h.2.2⟩
theorem rfO_7_38 {ids : List Nat} {o : Nat} (h : IO ids o 7) : IA ids (rf o 38) 0 14 := ⟨h.1, h.1 o h.2.1 38 (by rw [isr, h.2.2]; rfl), (show ∀ o, o < 440 → sh o = (0, 7) → sh (rf o 38) = (1, 14) by decide +kernel) o (sh_lt h.2.2 (by decide)) h.2.2⟩
theorem rfO_7_39 {ids : List Nat} {o : Nat} (h : IO ids o 7) : IA ids (rf o 39) 0 8 := ⟨h.1, h.1 o h.2.1 39 (by rw [isr, h.2.2]; rfl), (show ∀ o, o < 440 → sh o = (0, 7) → sh (rf o 39) = (1, 8) by decide +kernel) o (sh_lt h.2.2 (by decide)) h.2.2⟩
theorem rfO_7_42 {ids : List Nat} {o : Nat} (h : IO ids o 7) : IA ids (rf o 42) 0 8 := ⟨h.1, h.1 o h.2.1 42 (by rw [isr, h.2.2]; rfl), (show ∀ o, o < 440 → sh o = (0, 7) → sh (rf o 42) = (1, 8) by decide +kernel) o (sh_lt h.2.2 (by decide)) h.2.2⟩
theorem rfO_7_43 {ids : List Nat} {o : Nat} (h : IO ids o 7) : IA ids (rf o 43) 0 8 := ⟨h.1, h.1 o h.2.1 43 (by rw [isr, h.2.2]; rfl), (show ∀ o, o < 440 → sh o = (0, 7) → sh (rf o 43) = (1, 8) by decide +kernel) o (sh_lt h.2.2 (by decide)) h.2.2⟩
theorem rfO_7_44 {ids : List Nat} {o : Nat} (h : IO ids o 7) : IA ids (rf o 44) 0 8 := ⟨h.1, h.1 o h.2.1 44 (by rw [isr, h.2.2]; rfl), (show ∀ o, o < 440 → sh o = (0, 7) → sh (rf o 44) = (1, 8) by decide +kernel) o (sh_lt h.2.2 (by decide)) h.2.2⟩
theorem rfO_7_46 {ids : List Nat} {o : Nat} (h : IO ids o 7) : IA ids (rf o 46) 0 20 := ⟨h.1, h.1 o h.2.1 46 (by rw [isr, h.2.2]; rfl), (show ∀ o, o < 440 → sh o = (0, 7) → sh (rf o 46) = (1, 20) by decide +kernel) o (sh_lt h.2.2 (by decide)) h.2.2⟩
theorem rfO_7_47 {ids : List Nat} {o : Nat} (h : IO ids o 7) : IA ids (rf o 47) 0 6 := ⟨h.1, h.1 o h.2.1 47 (by rw [isr, h.2.2]; rfl), (show ∀ o, o < 440 → sh o = (0, 7) → sh (rf o 47) = (1, 6) by decide +kernel) o (sh_lt h.2.2 (by decide)) h.2.2⟩
theorem rfO_7_48 {ids : List Nat} {o : Nat} (h : IO ids o 7) : IA ids (rf o 48) 0 6 := ⟨h.1, h.1 o h.2.1 48 (by rw [isr, h.2.2]; rfl), (show ∀ o, o < 440 → sh o = (0, 7) → sh (rf o 48) = (1, 6) by decide +kernel) o (sh_lt h.2.2 (by decide)) h.2.2⟩
theorem rfO_7_49 {ids : List Nat} {o : Nat} (h : IO ids o 7) : IA ids (rf o 49) 1 360 := ⟨h.1, h.1 o h.2.1 49 (by rw [isr, h.2.2]; rfl), (show ∀ o, o < 440 → sh o = (0, 7) → sh (rf o 49) = (2, 360) by decide +kernel) o (sh_lt h.2.2 (by decide)) h.2.2⟩
theorem rfO_7_50 {ids : List Nat} {o : Nat} (h : IO ids o 7) : IA ids (rf o 50) 1 60 := ⟨h.1, h.1 o h.2.1 50 (by rw [isr, h.2.2]; rfl), (show ∀ o, o < 440 → sh o = (0, 7) → sh (rf o 50) = (2, 60) by decide +kernel) o (sh_lt h.2.2 (by decide)) h.2.2⟩
theorem rfA_4 {ids : List Nat} {o n : Nat} {i : Int32} (h : IA ids o 4 n) (hin : vp_in i n) : IO ids (rf o i.toNatClampNeg) 3 := by
  have hk := vp_lt hin
  have key := (show ∀ o, o < 440 → (sh o).1 = 5 → (sh o).2 = 5 ∧ ∀ k, k < 5 → sh (rf o k) = (0, 3) by decide +kernel) o (sh_lt h.2.2 (by decide)) (by rw [h.2.2])
  have hn : n = 5 := by rw [← key.1, h.2.2]
  subst hn
  exact ⟨h.1, h.1 o h.2.1 _ (by rw [isr, h.2.2]; simp [hk]), key.2 _ hk⟩
theorem rfA_5 {ids : List Nat} {o n : Nat} {i : Int32} (h : IA ids o 5 n) (hin : vp_in i n) : IO ids (rf o i.toNatClampNeg) 4 := by
  have hk := vp_lt hin
  have key := (show ∀ o, o < 440 → (sh o).1 = 6 → (sh o).2 = 6 ∧ ∀ k, k < 6 → sh (rf o k) = (0, 4) by decide +kernel) o (sh_lt h.2.2 (by decide)) (by rw [h.2.2])
  have hn : n = 6 := by rw [← key.1, h.2.2]
  subst hn
  exact ⟨h.1, h.1 o h.2.1 _ (by rw [isr, h.2.2]; simp [hk]), key.2 _ hk⟩
theorem rfA_6 {ids : List Nat} {o n : Nat} {i : Int32} (h : IA ids o 6 n) (hin : vp_in i n) : IA ids (rf o i.toNatClampNeg) 0 5 := by
  have hk := vp_lt hin
  have key := (show ∀ o, o < 440 → (sh o).1 = 7 → (sh o).2 = 3 ∧ ∀ k, k < 3 → sh (rf o k) = (1, 5) by decide +kernel) o (sh_lt h.2.2 (by decide)) (by rw [h.2.2])
  have hn : n = 3 := by rw [← key.1, h.2.2]
  subst hn
  exact ⟨h.1, h.1 o h.2.1 _ (by rw [isr, h.2.2]; simp [hk]), key.2 _ hk⟩
theorem rfA_7 {ids : List Nat} {o n : Nat} {i : Int32} (h : IA ids o 7 n) (hin : vp_in i n) : IA ids (rf o i.toNatClampNeg) 1 60 := by
  have hk := vp_lt hin
  have key := (show ∀ o, o < 440 → (sh o).1 = 8 → (sh o).2 = 6 ∧ ∀ k, k < 6 → sh (rf o k) = (2, 60) by decide +kernel) o (sh_lt h.2.2 (by decide)) (by rw [h.2.2])
  have hn : n = 6 := by rw [← key.1, h.2.2]
  subst hn
  exact ⟨h.1, h.1 o h.2.1 _ (by rw [isr, h.2.2]; simp [hk]), key.2 _ hk⟩
end
