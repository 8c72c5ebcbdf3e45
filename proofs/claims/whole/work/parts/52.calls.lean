/-! PURE: calls of both sides: which case, which rules, which PLEA; the roll */
-/
def isCs (nc : Nat) (a : Int32) : Prop := ∃ k, k < nc ∧ a = nI k
section CA
variable {d nc : Nat} {σ τ : St}
theorem rng_lt {n : Nat} {a : Int32} (hn : n < 1000) : (0 ≤ a ∧ a ≤ nI n - 1) ↔ ∃ k, k < n ∧ a = nI k := by
  constructor
  · rintro ⟨h1, h2⟩
    cases n with
    | zero =>
      have := i32_le.mp h1
      have := i32_le.mp h2
      have e0 : (0 : Int32).toInt = 0 := rfl
      have e1 : (nI 0 - 1).toInt = -1 := rfl
      omega
    | succ n =>
      rw [nI_pred] at h2
      obtain ⟨j, h3, h4⟩ := rng (n := n) (by omega) h1 h2
      exact ⟨j, by omega, h4⟩
  · rintro ⟨k, h1, rfl⟩
    refine ⟨nI_pos' (by omega), ?_⟩
    obtain ⟨m, rfl⟩ : ∃ m, n = m + 1 := ⟨n - 1, by omega⟩
    rw [nI_pred]
    exact nI_le (by omega) (by omega)
theorem r_isCase {Q : Int32 → St → Prop} {a : Int32} (hn : nc < 5) (e : gi τ 0 0 = nI nc) (h0 : ¬ isCs nc a → Q 0 τ) (h1 : isCs nc a → Q 1 τ) : EI (d + 2) idsR Y_X7_isCase [.ref 0, .int a] τ Q := by
  refine kR_isCase ?_
  rw [e, bI_congr (rng_lt (by omega))]
  by_cases h : ∃ k, k < nc ∧ a = nI k
  · rw [bI_t h]; exact h1 h
  · rw [bI_f h]; exact h0 h
theorem r_isRules {Q : Int32 → St → Prop} {a : Int32} {n : Nat} (hn : n ≤ 5) (e : gi τ 0 8 = nI n) (h0 : ¬ isCs n a → Q 0 τ) (h1 : isCs n a → Q 1 τ) : EI (d + 2) idsR Y_X7_isRules [.ref 0, .int a] τ Q := by
  refine kR_isRules ?_
  rw [e, bI_congr (rng_lt (by omega))]
  by_cases h : ∃ k, k < n ∧ a = nI k
  · rw [bI_t h]; exact h1 h
  · rw [bI_f h]; exact h0 h
theorem h100 (hn : nc < 5) : IO (idsC nc) 100 6 := hB hn (by decide) rfl
theorem c_caseAt {Q : Option Nat → St → Prop} {a : Int32} (h : Inv nc σ τ) (h0 : ¬ isCs nc a → Q none σ) (h1 : ∀ k, k < nc → a = nI k → Q (some (400 + 10 * k)) σ) : EO (d + 1) (idsC nc) Y_X6_caseAt [.ref 100, .int a] σ Q := by
  have hn := h.nc
  obtain ⟨-, ⟨e1, -, e3⟩, -⟩ := h
  refine fl_X6_caseAt (h100 hn) (fun P12 H12 => ?_)
  rw [e1]
  have no : ¬ isCs nc a → P12 σ := fun z => H12 _ (h0 z)
  refine ⟨fun z => no (fun ⟨k, _, e⟩ => ?_), fun z => ⟨fun z2 => ?_, fun z2 => no (fun ⟨k, hk, e⟩ => z2 ?_)⟩⟩
  · rw [e] at z; exact nI_pos (by omega) z
  · obtain ⟨k, hk, rfl⟩ := nI_of z
    have hkn := (nI_ltI hk (by omega)).mp z2
    rw [cl_ix k hk, show rf 100 2 = 103 from rfl, (e3 k hkn).1]
    exact ⟨vp_in_nI (by omega) (by decide), fun y => (by cases y), fun r4 e4 => (by cases e4; exact ⟨hCase hn hkn, h1 k hkn rfl⟩)⟩
  · rw [e]; exact nI_lt hk (by omega)
theorem rf_all {r : Nat} : rf (rf 100 5) r = 140 + r := rfl
theorem c_rulesAt {Q : Option Nat → St → Prop} {a : Int32} {n : Nat} (hn : nc < 5) (hn5 : n ≤ 5) (e : gi σ 100 6 = nI n) (h0 : ¬ isCs n a → Q none σ) (h1 : ∀ k, k < n → a = nI k → Q (some (140 + k)) σ) : EO (d + 1) (idsC nc) Y_X6_rulesAt [.ref 100, .int a] σ Q := by
  refine fl_X6_rulesAt (h100 hn) (fun P12 H12 => ?_)
  rw [e]
  have no : ¬ isCs n a → P12 σ := fun z => H12 _ (h0 z)
  refine ⟨fun z => no (fun ⟨k, _, e⟩ => ?_), fun z => ⟨fun z2 => ?_, fun z2 => no (fun ⟨k, hk, e⟩ => z2 ?_)⟩⟩
  · rw [e] at z; exact nI_pos (by omega) z
  · obtain ⟨k, hk, rfl⟩ := nI_of z
    have hkn := (nI_ltI hk (by omega)).mp z2
    rw [cl_ix k hk, rf_all]
    exact ⟨vp_in_nI (by omega) (by decide), h1 k hkn rfl⟩
  · rw [e]; exact nI_lt hk (by omega)
def isPl (a : Int32) : Prop := ∃ p, p < 14 ∧ a = nI (PLa p)
theorem c_placeOf {ids : List Nat} {Q : Int32 → St → Prop} {a : Int32} (h0 : ¬ isPl a → Q (-1) σ) (h1 : ∀ p, p < 14 → a = nI (PLa p) → Q (nI p) σ) : EI (d + 1) ids Y_X6_placeOf [.int a] σ Q := by
  refine fl_X6_placeOf (fun P2 H2 => ?_)
  have loop : ∀ m k, 14 - k = m → k ≤ 14 → (∀ p, p < k → ¬ a = nI (PLa p)) → P2 (nI k) σ := by
    intro m
    induction m with
    | zero =>
      intro k q1 q2 q3
      have : k = 14 := by omega
      subst this
      exact H2 _ _ ⟨fun _ => h0 (fun ⟨p, hp, e⟩ => q3 p hp e), fun z => absurd (nI_le (Nat.le_refl 14) (by decide)) z⟩
    | succ m ih =>
      intro k q1 q2 q3
      have hk : k < 14 := by omega
      refine H2 _ _ ⟨fun z => absurd ((nI_leI (a := 14) (by decide) (by omega)).mp z) (by omega), fun _ => ⟨vp_in_nI hk (by decide), ?_⟩⟩
      rw [tPl_at hk]
      refine ⟨fun z x4 e4 => ?_, fun z => h1 k hk z.symm⟩
      rw [e4, ← nI_succ]
      refine ih (k + 1) (by omega) (by omega) (fun p hp => ?_)
      by_cases hpk : p = k
      · subst hpk; exact fun y => z y.symm
      · exact q3 p (by omega)
  exact loop 14 0 rfl (by decide) (fun p hp => absurd hp (Nat.not_lt_zero _))
theorem PLa_v : ∀ p, p < 14 → (p = 0 ∧ PLa p = 10) ∨ (1 ≤ p ∧ p ≤ 5 ∧ PLa p = 19 + p) ∨ (p = 6 ∧ PLa p = 30) ∨ (p = 7 ∧ PLa p = 40) ∨ (8 ≤ p ∧ p ≤ 12 ∧ PLa p = 42 + p) ∨ (p = 13 ∧ PLa p = 60) := by decide +kernel
theorem in_nI {a : Int32} {lo hi : Nat} (hl : lo < 1000) (hh : hi < 1000) : (nI lo ≤ a ∧ a ≤ nI hi) ↔ ∃ j, lo ≤ j ∧ j ≤ hi ∧ a = nI j := by
  constructor
  · rintro ⟨h1, h2⟩
    have h3 : ¬ a < 0 := by
      intro y
      have q1 := i32_le.mp h1
      have q2 := i32_lt.mp y
      rw [nI_toInt (by omega)] at q1
      have e0 : (0 : Int32).toInt = 0 := rfl
      omega
    obtain ⟨j, hj, rfl⟩ := nI_of h3
    exact ⟨j, (nI_leI (by omega) hj).mp h1, (nI_leI hj (by omega)).mp h2, rfl⟩
  · rintro ⟨j, h1, h2, rfl⟩
    exact ⟨nI_le h1 (by omega), nI_le h2 (by omega)⟩
theorem r_isPlea {Q : Int32 → St → Prop} {a : Int32} (h0 : ¬ isPl a → Q 0 τ) (h1 : isPl a → Q 1 τ) : EI (d + 2) idsR Y_X7_isPlea [.ref 0, .int a] τ Q := by
  refine fl_X7_isPlea hR (fun P48 H48 => ?_)
  have yes : ∀ p, p < 14 → a = nI (PLa p) → P48 τ := fun p hp e => H48 _ (h1 ⟨p, hp, e⟩)
  refine ⟨fun z => yes 0 (by decide) z, fun z0 => kR_in ?_⟩
  have in20 := in_nI (a := a) (lo := 20) (hi := 24) (by decide) (by decide)
  refine ⟨fun z => ?_, fun z1 => ⟨fun z => yes 6 (by decide) z, fun z2 => ⟨fun z => yes 7 (by decide) z, fun z3 => kR_in ?_⟩⟩⟩
  · obtain ⟨j, j1, j2, e⟩ := in20.mp (bI_n.mp z)
    refine yes (j - 19) (by omega) ?_
    rw [e]
    congr 1
    have := PLa_v (j - 19) (by omega)
    omega
  · have in50 := in_nI (a := a) (lo := 50) (hi := 54) (by decide) (by decide)
    refine ⟨fun z => ?_, fun z4 => ⟨fun z5 => h0 ?_, fun z => yes 13 (by decide) z⟩⟩
    · obtain ⟨j, j1, j2, e⟩ := in50.mp (bI_n.mp z)
      refine yes (j - 42) (by omega) ?_
      rw [e]
      congr 1
      have := PLa_v (j - 42) (by omega)
      omega
    · rintro ⟨p, hp, rfl⟩
      have n1 := bI_0.mp z1
      have n4 := bI_0.mp z4
      rcases PLa_v p hp with ⟨-, e⟩ | ⟨q1, q2, e⟩ | ⟨-, e⟩ | ⟨-, e⟩ | ⟨q1, q2, e⟩ | ⟨-, e⟩
      · exact z0 (by rw [e]; rfl)
      · exact n1 (in20.mpr ⟨19 + p, by omega, by omega, by rw [e]⟩)
      · exact z2 (by rw [e]; rfl)
      · exact z3 (by rw [e]; rfl)
      · exact n4 (in50.mpr ⟨42 + p, by omega, by omega, by rw [e]⟩)
      · exact z5 (by rw [e]; rfl)
end CA
