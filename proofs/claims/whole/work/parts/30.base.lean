/-! PURE: the ids that there are; truth as a number; small facts -/
theorem clo_of {ids : List Nat} (h : ∀ o, o ∈ ids → ∀ k, k < 60 → isr o k = true → rf o k ∈ ids) : clo ids := by
  intro o ho k hk
  refine h o ho k ?_ hk
  have hs : (sh o).1 < 9 → o < 440 := fun q => sh_lt (o := o) (t := (sh o).1) (n := (sh o).2) rfl q
  simp only [isr, Bool.or_eq_true, Bool.and_eq_true, beq_iff_eq, decide_eq_true_eq] at hk
  rcases hk with ⟨⟨h1, -⟩, h3⟩ | ⟨⟨h1, h2⟩, h3⟩
  · have hf : ∀ c, fn c ≤ 51 := by
      intro c
      unfold fn
      split <;> omega
    have := hf (sh o).2
    omega
  · have key := (show ∀ o, o < 440 → 5 ≤ (sh o).1 → (sh o).1 ≤ 8 → (sh o).2 ≤ 6 by decide +kernel) o (hs (by omega)) h1 h2
    omega
def idsR : List Nat := [0, 1, 2, 3, 4, 5, 6, 7, 12, 13, 14, 15, 16, 17, 18, 19, 20, 27, 28, 29, 30, 31, 32, 33, 34, 35, 36, 37, 38, 39, 42, 43, 44, 46, 47, 48, 49, 50]
theorem idsR_clo : clo idsR := clo_of (by decide +kernel)
theorem idsR_nodup : idsR.Nodup := by decide +kernel
def idsB : List Nat := [100, 101, 102, 103, 105, 106, 108, 109, 110, 111, 112, 113, 120, 121, 130, 131, 132, 133, 134, 135, 140, 141, 142, 143, 144,
  151, 152, 153, 155, 161, 162, 163, 165, 171, 172, 173, 175, 181, 182, 183, 185, 191, 192, 193, 195,
  202, 203, 204, 210, 211, 212, 213, 214, 215, 220, 221, 222, 223, 224, 225, 302, 303, 304, 310, 311, 312, 313, 314, 315, 320, 321, 322, 323, 324, 325]
def idsC (nc : Nat) : List Nat := idsB ++ (List.range nc).flatMap fun k => [400 + 10 * k, 401 + 10 * k, 402 + 10 * k, 403 + 10 * k, 404 + 10 * k]
theorem idsC_clo : ∀ nc, nc < 5 → clo (idsC nc) := by
  intro nc h
  rcases (by omega : nc = 0 ∨ nc = 1 ∨ nc = 2 ∨ nc = 3 ∨ nc = 4) with rfl | rfl | rfl | rfl | rfl <;> exact clo_of (by decide +kernel)
theorem idsC_nodup : ∀ nc, nc < 5 → (idsC nc).Nodup := by
  intro nc h
  rcases (by omega : nc = 0 ∨ nc = 1 ∨ nc = 2 ∨ nc = 3 ∨ nc = 4) with rfl | rfl | rfl | rfl | rfl <;> decide +kernel
theorem hR : IO idsR 0 7 := ⟨idsR_clo, by decide +kernel, rfl⟩
theorem hB {nc o c : Nat} (hn : nc < 5) (ho : o ∈ idsB) (hs : sh o = (0, c)) : IO (idsC nc) o c := ⟨idsC_clo nc hn, List.mem_append_left _ ho, hs⟩
theorem hBA {nc o t n : Nat} (hn : nc < 5) (ho : o ∈ idsB) (hs : sh o = (t + 1, n)) : IA (idsC nc) o t n := ⟨idsC_clo nc hn, List.mem_append_left _ ho, hs⟩
theorem hCase {nc k : Nat} (hn : nc < 5) (hk : k < nc) : IO (idsC nc) (400 + 10 * k) 1 := by
  refine ⟨idsC_clo nc hn, List.mem_append_right _ (List.mem_flatMap.mpr ⟨k, List.mem_range.mpr hk, by simp⟩), ?_⟩
  rcases (by omega : k = 0 ∨ k = 1 ∨ k = 2 ∨ k = 3) with rfl | rfl | rfl | rfl <;> rfl
def bI (p : Prop) [Decidable p] : Int32 := if p then 1 else 0
theorem bI_t {p : Prop} [Decidable p] (h : p) : bI p = 1 := if_pos h
theorem bI_f {p : Prop} [Decidable p] (h : ¬ p) : bI p = 0 := if_neg h
theorem bI_0 {p : Prop} [Decidable p] : bI p = 0 ↔ ¬ p := by
  by_cases h : p <;> simp [bI, h]
theorem bI_1 {p : Prop} [Decidable p] : bI p = 1 ↔ p := by
  by_cases h : p <;> simp [bI, h]
theorem bI_n {p : Prop} [Decidable p] : ¬ bI p = 0 ↔ p := by
  by_cases h : p <;> simp [bI, h]
theorem bI_or {p : Prop} [Decidable p] : bI p = 0 ∨ bI p = 1 := by
  by_cases h : p <;> simp [bI, h]
theorem bI_congr {p q : Prop} [Decidable p] [Decidable q] (h : p ↔ q) : bI p = bI q := by
  by_cases hp : p
  · rw [bI_t hp, bI_t (h.mp hp)]
  · rw [bI_f hp, bI_f (fun z => hp (h.mpr z))]
theorem bI_bit (x : Int32) (p : Prop) [Decidable p] (h : x = bI p) : (¬ x = 0 ↔ p) ∧ (x = 0 ↔ ¬ p) := by
  subst h; exact ⟨bI_n, bI_0⟩
theorem i32_lt {a b : Int32} : a < b ↔ a.toInt < b.toInt := Int32.lt_iff_toInt_lt
theorem i32_le {a b : Int32} : a ≤ b ↔ a.toInt ≤ b.toInt := Int32.le_iff_toInt_le
theorem i32_eq {a b : Int32} : a = b ↔ a.toInt = b.toInt := Int32.toInt_inj.symm
/-- an int that is found between 0 and n -/
theorem rng {a : Int32} {n : Nat} (hn : n < 2 ^ 31) (h1 : 0 ≤ a) (h2 : a ≤ nI n) : ∃ j : Nat, j ≤ n ∧ a = nI j := by
  have h3 := i32_le.mp h1
  have h4 := i32_le.mp h2
  rw [nI_toInt hn] at h4
  have h0 : (0 : Int32).toInt = 0 := rfl
  rw [h0] at h3
  refine ⟨a.toInt.toNat, by omega, i32_eq.mpr ?_⟩
  rw [nI_toInt (by omega)]
  omega
