/-! PURE: the small helpers of both -/
section HLP
variable {d : Nat} {τ σ : St} {Q : Int32 → St → Prop}
theorem kR_in {a b c : Int32} (h : Q (bI (b ≤ a ∧ a ≤ c)) τ) : EI (d + 1) idsR Y_X7_in [.ref 0, .int a, .int b, .int c] τ Q := by
  refine fl_X7_in hR ⟨fun c1 => ?_, fun c1 => ⟨fun c2 => ?_, fun c2 => ?_⟩⟩
  · rwa [bI_f (fun z => Int32.not_le.mpr c1 z.1)] at h
  · rwa [bI_f (fun z => Int32.not_le.mpr c2 z.2)] at h
  · rwa [bI_t ⟨Int32.not_lt.mp c1, Int32.not_lt.mp c2⟩] at h
theorem kR_has {a b : Int32} (h : Q (bI ((a >>> (b &&& 31)) &&& 1 = 1)) τ) : EI (d + 1) idsR Y_X7_has [.ref 0, .int a, .int b] τ Q := by
  refine fl_X7_has hR ⟨fun c1 => ?_, fun c1 => ?_⟩
  · rwa [bI_f c1] at h
  · rwa [bI_t c1] at h
theorem kR_isPoint {a : Int32} (h : Q (bI (0 ≤ a ∧ a ≤ 4)) τ) : EI (d + 2) idsR Y_X7_isPoint [.ref 0, .int a] τ Q := fl_X7_isPoint hR (kR_in ⟨bI_or, h⟩)
theorem kR_isCase {a : Int32} (h : Q (bI (0 ≤ a ∧ a ≤ gi τ 0 0 - 1)) τ) : EI (d + 2) idsR Y_X7_isCase [.ref 0, .int a] τ Q := fl_X7_isCase hR (kR_in ⟨bI_or, h⟩)
theorem kR_isRules {a : Int32} (h : Q (bI (0 ≤ a ∧ a ≤ gi τ 0 8 - 1)) τ) : EI (d + 2) idsR Y_X7_isRules [.ref 0, .int a] τ Q := fl_X7_isRules hR (kR_in ⟨bI_or, h⟩)
theorem kR_isTape {a : Int32} (h : Q (bI (0 ≤ a ∧ a ≤ 5)) τ) : EI (d + 2) idsR Y_X7_isTape [.ref 0, .int a] τ Q := fl_X7_isTape hR (kR_in ⟨bI_or, h⟩)
theorem lt5 {a : Int32} : ¬ (5 ≤ a) ↔ a ≤ 4 := by
  simp only [i32_le]
  have h5 : (5 : Int32).toInt = 5 := rfl
  have h4 : (4 : Int32).toInt = 4 := rfl
  omega
theorem lt6 {a : Int32} : ¬ (6 ≤ a) ↔ a ≤ 5 := by
  simp only [i32_le]
  have h5 : (5 : Int32).toInt = 5 := rfl
  have h6 : (6 : Int32).toInt = 6 := rfl
  omega
theorem kC_isPoint {ids : List Nat} {a : Int32} (h : Q (bI (0 ≤ a ∧ a ≤ 4)) σ) : EI (d + 1) ids Y_X6_isPoint [.int a] σ Q := by
  refine fl_X6_isPoint ⟨fun c1 => ?_, fun c1 => ⟨fun c2 => ?_, fun c2 => ?_⟩⟩
  · rwa [bI_f (fun z => Int32.not_le.mpr c1 z.1)] at h
  · rwa [bI_f (fun z => lt5.mpr z.2 c2)] at h
  · rwa [bI_t ⟨Int32.not_lt.mp c1, lt5.mp c2⟩] at h
theorem kC_isTape {ids : List Nat} {a : Int32} (h : Q (bI (0 ≤ a ∧ a ≤ 5)) σ) : EI (d + 1) ids Y_X6_isTape [.int a] σ Q := by
  refine fl_X6_isTape ⟨fun c1 => ?_, fun c1 => ⟨fun c2 => ?_, fun c2 => ?_⟩⟩
  · rwa [bI_f (fun z => Int32.not_le.mpr c1 z.1)] at h
  · rwa [bI_f (fun z => lt6.mpr z.2 c2)] at h
  · rwa [bI_t ⟨Int32.not_lt.mp c1, lt6.mp c2⟩] at h
theorem kC_asNumber {ids : List Nat} {a : Int32} (h : Q (bI (¬ a = 0)) σ) : EI (d + 1) ids Y_X6_asNumber [.int a] σ Q := by
  refine fl_X6_asNumber ?_
  refine ⟨fun c1 => ?_, fun c1 => ?_⟩
  · rwa [bI_f (fun z => z c1)] at h
  · rwa [bI_t c1] at h
end HLP
