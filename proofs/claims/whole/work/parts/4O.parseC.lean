/-! PURE: the class's reader: texts of the JDK, one sign, words, steps -/
theorem kls_kbs : ∀ i, i < 10 → kls.getD i 0 = (kbs.getD i []).length := by decide +kernel
theorem kJ_len {d i : Nat} {ids : List Nat} {σ : St} {Q : Int32 → St → Prop} (hi : i < 10) (h : Q (nI (kls.getD i 0)) σ) : EI (d + 2) ids Y_J0_length_8abf5 [.ref (1010 + i)] σ Q := by
  refine fl_J0_length_8abf5 hi (fl_J0_coder_7d493 hi ⟨fun c => absurd c (by decide), fun _ => ⟨rfl, ?_⟩⟩)
  rw [(by decide +kernel : ∀ i, i < 10 → nI (kls.getD i 0) >>> ((0 : Int32) &&& 31) = nI (kls.getD i 0)) i hi]
  exact h
theorem kJ_latin {d i : Nat} {ids : List Nat} {σ : St} {Q : Int32 → St → Prop} (hi : i < 10) (h : Q 1 σ) : EI (d + 1) ids Y_J0_isLatin1_aae02 [.ref (1010 + i)] σ Q :=
  fl_J0_isLatin1_aae02 hi ⟨fun c => absurd c (by decide), fun _ => ⟨fun c => absurd rfl c, fun _ => h⟩⟩
theorem kJ_checkIndex {d : Nat} {ids : List Nat} {σ : St} {Q : St → Prop} {a n : Int32} (h1 : ¬ a < 0) (h2 : a < n) (h : Q σ) : EV (d + 2) ids Y_J0_checkIndex_df160 [.int a, .int n] σ Q :=
  fl_J0_checkIndex_df160 ⟨fl_J3_checkIndex_8e157_n (fun P H => ⟨fun c => absurd c h1, fun _ => ⟨fun _ => h, fun c => absurd h2 c⟩⟩), fl_J3_checkIndex_8e157_r (fun P H => ⟨fun c => absurd c h1, fun _ => ⟨fun _ => h, fun c => absurd h2 c⟩⟩)⟩
def kch (i j : Nat) : Nat := ((kbs.getD i []).getD j 0).toNatClampNeg
theorem kch_ok : ∀ i, i < 10 → ∀ j, j < 10 → (kbs.getD i []).getD j 0 = nI (kch i j) ∧ kch i j < 128 ∧ (UInt32.toInt32 (Int32.toUInt32 (((kbs.getD i []).getD j 0) &&& 255) % 65536)) = nI (kch i j) ∧
    narrow .char (.int (nI (kch i j))) = .int (nI (kch i j)) := by
  intro i hi j hj
  have h := (by decide +kernel : ∀ i, i < 10 → ∀ j, j < 10 → (kbs.getD i []).getD j 0 = nI (kch i j) ∧ kch i j < 128 ∧ (UInt32.toInt32 (Int32.toUInt32 (((kbs.getD i []).getD j 0) &&& 255) % 65536)) = nI (kch i j) ∧ (nI (kch i j)).toUInt32.toUInt16.toUInt32.toInt32 = nI (kch i j)) i hi j hj
  exact ⟨h.1, h.2.1, h.2.2.1, congrArg Value.int h.2.2.2⟩
theorem kls_10 : ∀ i, i < 10 → kls.getD i 0 ≤ 10 ∧ 0 < kls.getD i 0 := by decide +kernel
theorem kJ_charAt {d i j : Nat} {ids : List Nat} {σ : St} {Q : Int32 → St → Prop} (hi : i < 10) (hj : j < kls.getD i 0) (h : Q (nI (kch i j)) σ) : EI (d + 4) ids Y_J0_charAt_5068e [.ref (1010 + i), .int (nI j)] σ Q := by
  have hk := (kls_10 i hi).1
  obtain ⟨c1, c2, c3, c4⟩ := kch_ok i hi j (by omega)
  refine fl_J0_charAt_5068e hi (kJ_latin hi ⟨fun c => absurd c (by decide), fun _ => ?_⟩)
  refine fl_J1_charAt_3b067 hi (kJ_checkIndex (nI_pos (by omega)) (nI_lt hj (by omega)) ⟨vp_in_nI hj (by omega), ?_⟩)
  rw [cl_ix j (by omega), c3]
  exact ⟨c4, c4, h⟩
theorem ixL_at : ∀ (l : List Int32) (c : Int32) (j : Nat), (∀ m, m < j → l.getD m 0 ≠ c) → j < l.length → l.getD j 0 = c → ixL l c = some j
  | [], _, j, _, h, _ => absurd h (Nat.not_lt_zero _)
  | a :: l, c, 0, _, _, h3 => by
    have h3 : a = c := h3
    rw [ixL, if_pos h3]
  | a :: l, c, j + 1, h1, h2, h3 => by
    have h0 : a ≠ c := h1 0 (Nat.zero_lt_succ _)
    rw [ixL, if_neg h0, ixL_at l c j (fun m hm => h1 (m + 1) (Nat.succ_lt_succ hm)) (Nat.lt_of_succ_lt_succ h2) h3]
    rfl
theorem ixL_no : ∀ (l : List Int32) (c : Int32), (∀ m, m < l.length → l.getD m 0 ≠ c) → ixL l c = none
  | [], _, _ => rfl
  | a :: l, c, h1 => by
    have h0 : a ≠ c := h1 0 (Nat.zero_lt_succ _)
    rw [ixL, if_neg h0, ixL_no l c (fun m hm => h1 (m + 1) (Nat.succ_lt_succ hm))]
    rfl
theorem b8_ch : ∀ c, c < 128 → ∀ b, b < 256 → (nI c = Int8.toInt32 (Int32.toInt8 (nI b)) ↔ nI c = nI b) := by decide +kernel
def ixV (o : Option Nat) : Int32 := match o with | some k => nI k | none => -1
theorem kJ_indexOf {d i b : Nat} {ids : List Nat} {σ : St} {Q : Int32 → St → Prop} (hi : i < 10) (hb : b < 256) (h : Q (ixV (ixL (kbs.getD i []) (nI b))) σ) : EI (d + 6) ids Y_J0_indexOf_0f7a4 [.ref (1010 + i), .int (nI b)] σ Q := by
  obtain ⟨hk, hk0⟩ := kls_10 i hi
  have hkb := kls_kbs i hi
  refine fl_J0_indexOf_0f7a4 hi (fl_J0_indexOf_7cf53 hi (kJ_latin hi ⟨fun c => absurd c (by decide), fun _ => kJ_len hi ?_⟩))
  refine fl_J1_indexOf_4cfef hi (fl_J1_canEncode_9a6ad ⟨fun c => absurd c (nI_pos (by omega)), fun _ => ⟨fun c => absurd ((nI_ltI (a := 255) (by decide) (by omega)).mp c) (by omega), fun _ => ⟨fun _ x4 e4 x5 e5 => ?_, fun c => absurd c (by decide)⟩⟩⟩)
  rw [if_neg (by decide)] at e4
  rw [ite_self] at e5
  subst e4 e5
  refine ⟨fun _ => fl_J1_indexOfChar_4cfef hi (fun P7 H7 x5 e5 => ?_), fun c => absurd (nI_lt (a := 0) hk0 (by omega)) c⟩
  subst e5
  have loop : ∀ m j, kls.getD i 0 - j = m → j ≤ kls.getD i 0 → (∀ t, t < j → (kbs.getD i []).getD t 0 ≠ nI b) → P7 (Int8.toInt32 (Int32.toInt8 (nI b))) (nI j) σ := by
    intro m
    induction m with
    | zero =>
      intro j q1 q2 q3
      have : j = kls.getD i 0 := by omega
      subst this
      rw [ixL_no _ _ (fun t ht => q3 t (by omega))] at h
      exact H7 _ _ _ ⟨fun _ => h, fun z => absurd (nI_le (Nat.le_refl _) (by omega)) z⟩
    | succ m ih =>
      intro j q1 q2 q3
      have hj : j < kls.getD i 0 := by omega
      refine H7 _ _ _ ⟨fun z => absurd ((nI_leI (by omega) (by omega)).mp z) (by omega), fun _ => ⟨vp_in_nI hj (by omega), ?_⟩⟩
      obtain ⟨c1, c2, -, -⟩ := kch_ok i hi j (by omega)
      rw [cl_ix j (by omega)]
      have hc : (kbs.getD i []).getD j 0 = Int8.toInt32 (Int32.toInt8 (nI b)) ↔ (kbs.getD i []).getD j 0 = nI b := by rw [c1]; exact b8_ch _ c2 b hb
      refine ⟨fun z x ex => ?_, fun z => ?_⟩
      · rw [ex, ← nI_succ]
        refine ih (j + 1) (by omega) (by omega) (fun t ht => ?_)
        by_cases htj : t = j
        · subst htj; exact fun y => z (hc.mpr y)
        · exact q3 t (by omega)
      · rw [ixL_at _ _ j q3 (by omega) (hc.mp z)] at h
        exact h
  exact loop _ 0 rfl (Nat.zero_le _) (fun t ht => absurd ht (Nat.not_lt_zero _))
