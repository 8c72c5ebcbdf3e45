/-! THE LAW'S BEGINNING: both constructors -/
def tuF (σ : St) : St := emp (si (si (si (si (si (si (si (si (si (si (si (si (si (si (si (si (si (si (si (si (si (si (si (si (si (si (si (si (si (si (si (si (si (si σ 0 0 (0)) 0 8 (0)) 0 9 (0)) 0 10 (0)) 0 11 (0)) 0 21 (0)) 0 22 (0)) 0 23 (0)) 0 24 (0)) 0 25 (-1)) 0 26 (0)) 38 0 (10)) 38 1 (20)) 38 2 (21)) 38 3 (22)) 38 4 (23)) 38 5 (24)) 38 6 (30)) 38 7 (40)) 38 8 (50)) 38 9 (51)) 38 10 (52)) 38 11 (53)) 38 12 (54)) 38 13 (60)) 0 40 (0)) 0 41 (0)) 0 45 (0)) 47 0 (-1)) 47 1 (-1)) 47 2 (-1)) 47 3 (-1)) 47 4 (-1)) 47 5 (-1))
theorem tuF_0 : tuF st0 = tuP := rfl
def ag (σ σ' : St) : Prop := ∀ z, z < 100 → gi σ z = gi σ' z
theorem ag.si {σ σ' : St} {o k : Nat} {v : Int32} (h : ag σ σ') : ag (si σ o k v) (si σ' o k v) := fun z hz => by
  funext b
  rw [gi_si, gi_si, h z hz]
theorem ag_tuF {σ σ' : St} (h : ag σ σ') : ag (tuF σ) (tuF σ') := by
  unfold tuF emp
  iterate 44 (refine ag.si ?_)
  exact h
def hg (σ σ' : St) : Prop := ∀ z, 100 ≤ z → gi σ z = gi σ' z
theorem hg.si {σ σ' : St} {o k : Nat} {v : Int32} (ho : o < 100) (h : hg σ σ') : hg (si σ o k v) σ' := fun z hz => by
  rw [gi_si_o _ _ _ (by omega)]
  exact h z hz
theorem hg_tuF (σ : St) : hg (tuF σ) σ := by
  unfold tuF emp
  iterate 44 (refine hg.si (by decide) ?_)
  exact fun _ _ => rfl
theorem ag_sgP : ag sgP st0 := fun z hz => by
  unfold sgP
  rw [gi_si_o _ _ _ (by omega), gi_si_o _ _ _ (by omega), gi_si_o _ _ _ (by omega), gi_si_o _ _ _ (by omega), gi_si_o _ _ _ (by omega), gi_si_o _ _ _ (by omega), gi_si_o _ _ _ (by omega), gi_si_o _ _ _ (by omega), gi_si_o _ _ _ (by omega), gi_si_o _ _ _ (by omega)]
theorem sgP_fresh {z : Nat} (hz : z < 100) : fresh sgP z := by
  refine ⟨fun k => ?_, fun k => rfl⟩
  rw [ag_sgP z hz]
  exact (fresh0 z).1 k
def nsP : List Nat := [101, 102, 103, 105, 120, 106, 108, 202, 203, 204, 210, 220, 211, 221, 212, 222, 213, 223, 214, 224, 215, 225, 109, 302, 303, 304, 310, 320, 311, 321, 312, 322, 313, 323, 314, 324, 315, 325, 110, 121, 111, 112, 113, 130, 131, 132, 133, 134, 135, 140, 151, 152, 153, 155, 141, 161, 162, 163, 165, 142, 171, 172, 173, 175, 143, 181, 182, 183, 185, 144, 191, 192, 193, 195]
def nsM : List Nat := [1, 2, 3, 4, 5, 6, 7, 12, 13, 14, 15, 16, 17, 18, 19, 20, 27, 28, 29, 30, 31, 32, 33, 34, 35, 36, 37, 38, 39, 42, 43, 44, 46, 47, 48, 49, 50]
theorem kcP : BE 4 74 1362 Y_X6_init [.ref 100] [] 100 nsP st0 sgP := kc_pleas (fun z _ => fresh0 z)
theorem kcM : BE 4 37 2006 Y_X7_init [.ref 0] [] 0 nsM sgP (tuF sgP) := kc_model (fun z hz => sgP_fresh ((show ∀ z ∈ (0 :: nsM : List Nat), z < 100 by decide +kernel) z hz))
def idsL : List Nat := ((([] ++ [100]) ++ nsP) ++ [0]) ++ nsM
theorem idsL_C : ∀ z, z ∈ idsC 0 → z ∈ idsL := by decide +kernel
theorem idsL_R : ∀ z, z ∈ idsR → z ∈ idsL := by decide +kernel
theorem wl_of {ids ids' : List Nat} {D : va_G} {ca : Nat → ClassId} {r : Nat → Nat} {σ σ' : St} {H : Heap} (hP : va_P D vwCl (pw ids [] ca r σ) H) (hm : ∀ z, z ∈ ids' → z ∈ ids) (h : ∀ z, z ∈ ids' → gi σ z = gi σ' z ∧ gl σ z = gl σ' z) : va_P D vwCl (wl ids' ca r σ') H := fun k y hy => by
  rw [← pw_nil] at hy
  obtain ⟨z, hz, rfl⟩ := pw_get hy
  have hz := List.mem_of_getElem? hz
  obtain ⟨i, -, hi⟩ := pw_in [] ca r σ (hm z hz)
  have h0 := hP i _ hi
  rw [pce_other (σ := σ') (σ' := σ) (h z hz).1 (h z hz).2] at h0
  exact h0
theorem BW_LWd {X : CT} {an : List (Nat × Nat)} {q1 q2 : Nat} {H : Heap} (h1 : (100, q1) ∈ an) (h2 : (0, q2) ∈ an) (h : BW X [] an idsL [] (tuF sgP) H) : LWd X (idsC 0) idsR 100 q1 0 q2 sgP tuP H := by
  obtain ⟨p, l, e, R, s, m, args, below, meth, c, ca, ρ, D, A⟩ := X
  obtain ⟨hBc, r, han, hth, hD, hP⟩ := h
  obtain ⟨i1, i2⟩ := D_of hBc.1 hD
  have lo : ∀ z, z ∈ idsR → z < 100 := by decide +kernel
  have hi : ∀ z, z ∈ idsC 0 → 100 ≤ z := by decide +kernel
  refine ⟨r, r, ⟨(han _ h1).1, (han _ h2).1⟩, fun z hz => ⟨hth z hz, hth z hz⟩, ⟨fun a b ha hb e => i1 a b (idsL_C a ha) (idsL_C b hb) e, fun a b ha hb e => i1 a b (idsL_R a ha) (idsL_R b hb) e⟩, fun a b ha hb e => ?_, ⟨fun a ha => i2 a (idsL_C a ha), fun b hb => i2 b (idsL_R b hb)⟩, wl_of hP idsL_C (fun z hz => ⟨hg_tuF sgP z (hi z hz), rfl⟩), wl_of hP idsL_R (fun z hz => ⟨?_, rfl⟩)⟩
  · have e1 := i1 a b (idsL_C a ha) (idsL_R b hb) e
    have := lo b hb
    have := hi a ha
    omega
  · rw [← tuF_0]
    exact ag_tuF ag_sgP z (lo z hz)
theorem lwf_87 : Cond.classLink RL 7 RX6 ∈ TB := TB_in (List.mem_of_getElem? (i := 87) (by decide +kernel)) (by decide +kernel)
theorem lwf_88 : Cond.instantiable RX6 13 ∈ TB := TB_in (List.mem_of_getElem? (i := 88) (by decide +kernel)) (by decide +kernel)
theorem lwf_89 : Cond.methodLink RL 9 yX6_init ∈ TB := TB_in (List.mem_of_getElem? (i := 89) (by decide +kernel)) (by decide +kernel)
theorem lwf_90 : Cond.instanceMethod yX6_init ∈ TB := TB_in (List.mem_of_getElem? (i := 90) (by decide +kernel)) (by decide +kernel)
theorem lwf_910 : Cond.classLink RL 10 RX7 ∈ TB := TB_in (List.mem_of_getElem? (i := 910) (by decide +kernel)) (by decide +kernel)
theorem lwf_805 : Cond.instantiable RX7 51 ∈ TB := TB_in (List.mem_of_getElem? (i := 805) (by decide +kernel)) (by decide +kernel)
theorem lwf_911 : Cond.methodLink RL 12 yX7_init ∈ TB := TB_in (List.mem_of_getElem? (i := 911) (by decide +kernel)) (by decide +kernel)
theorem lwf_912 : Cond.instanceMethod yX7_init ∈ TB := TB_in (List.mem_of_getElem? (i := 912) (by decide +kernel)) (by decide +kernel)
set_option maxHeartbeats 1000000 in
theorem law_go {X : CT} {Z : State → Prop} {b Ln : Nat} {xs : Nat → Int32} (hX : Dok X 4 cL_law ret room_1 RL) (hNo : Nok X) (hXs : Xs X b Ln xs) (hL : Ln ≤ 3072) (hend : ∀ (cells slots : Nat) (L : List (Nat × Value)) (Wd : Heap → Prop), cells ≤ 679924 → slots ≤ 7062475 → Bw X 4 Z cells slots 1145 L [.int 1] Wd) :
    Bw X 4 Z 0 0 0 [(0, .ref b)] [] (BW X [] [] [] [] st0) := by
  refine b_new (ci := 6) (C := RX6) (T := TX6) (N := 13) 100 cls6 lwf_87 lwf_88 tw_71 hX dL_law_0 rfl (by decide) (by decide) dfX6 ((fresh0 100).obj rfl rfl) (Nat.le_of_ble_eq_true rfl) (Nat.le_of_ble_eq_true rfl) (fun q1 => ?_)
  refine b_dup hX dL_law_3 rfl ?_
  refine b_ctor (q := q1) (As := []) (Vs := []) kcP Yok_X6_init rfl rfl lwf_90 (Or.inl lwf_89) hX hNo dL_law_4 rfl rfl (Nat.le_of_ble_eq_true rfl) (fun r h => ?_) (by decide) (fun k h => List.mem_append_left _ h) (fun z hz => absurd hz List.not_mem_nil) (by decide +kernel) (fun z hz hne => absurd (List.mem_singleton.mp hz) hne) (Nat.le_of_ble_eq_true rfl) (Nat.le_of_ble_eq_true rfl) (Nat.le_of_ble_eq_true rfl) (Nat.le_of_ble_eq_true rfl) ?_
  · show [Value.ref (r 100)] = _
    rw [h (100, q1) (by simp)]
  rw [dro_nh]
  refine b_astore_n (i := 1) (L' := [(1, .ref q1), (0, .ref b)]) hX dL_law_7 rfl (by decide) rfl ?_
  refine b_new (ci := 7) (C := RX7) (T := TX7) (N := 51) 0 cls7 lwf_910 lwf_805 tw_77 hX dL_law_8 rfl (by decide +kernel) (by decide) dfX7 ((sgP_fresh (by decide)).obj rfl rfl) (Nat.le_of_ble_eq_true rfl) (Nat.le_of_ble_eq_true rfl) (fun q2 => ?_)
  refine b_dup hX dL_law_11 rfl ?_
  refine b_ctor (q := q2) (As := []) (Vs := []) kcM Yok_X7_init rfl rfl lwf_912 (Or.inl lwf_911) hX hNo dL_law_12 rfl rfl (Nat.le_of_ble_eq_true rfl) (fun r h => ?_) (by decide) (fun k h => List.mem_append_left _ h) (fun z hz => absurd hz List.not_mem_nil) (by decide +kernel) (fun z hz hne => ?_) (Nat.le_of_ble_eq_true rfl) (Nat.le_of_ble_eq_true rfl) (Nat.le_of_ble_eq_true rfl) (Nat.le_of_ble_eq_true rfl) ?_
  · show [Value.ref (r 0)] = _
    rw [h (0, q2) (by simp)]
  · have hz1 : z = 0 ∨ 100 ≤ z := (show ∀ z ∈ ((([] ++ [100]) ++ nsP) ++ [0] : List Nat), z = 0 ∨ 100 ≤ z by decide +kernel) z hz
    exact ⟨hg_tuF sgP z (by omega), rfl⟩
  rw [dro_nh]
  refine b_astore_n (i := 2) (L' := [(2, .ref q2), (1, .ref q1), (0, .ref b)]) hX dL_law_15 rfl (by decide) rfl ?_
  refine b_iconst (v := nI 0) hX dL_law_16 (by decide) ?_
  refine b_istore_n (i := 3) (L' := [(3, .int (nI 0)), (2, .ref q2), (1, .ref q1), (0, .ref b)]) hX dL_law_17 rfl (by decide) rfl ?_
  refine Bw.sub [3, 2, 1, 0] (L' := LL b q1 q2 (nI 0)) rfl ?_
  refine Bw.mono (fun H h => BW_LWd (q1 := q1) (q2 := q2) (by simp) (by simp) h) ?_
  exact law_loop hX hNo hXs hL hend (Ln + 1) 0 0 _ _ sgP tuP (Nat.zero_le _) (by omega) (by omega) (by omega) inv0
