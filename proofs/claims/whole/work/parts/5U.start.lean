/-! THE START: what the constructors leave -/
def sgP : St := (si (si (si (si (si (si (si (si (si (si st0 210 4 (1)) 210 6 (1)) 310 4 (1)) 310 6 (1)) 111 0 (-1)) 111 1 (-1)) 111 2 (-1)) 111 3 (-1)) 111 4 (-1)) 111 5 (-1))
def tuP : St := (emp (si (si (si (si (si (si (si (si (si (si (si (si (si (si (si (si (si (si (si (si (si (si (si (si (si (si (si (si (si (si (si (si (si (si st0 0 0 (0)) 0 8 (0)) 0 9 (0)) 0 10 (0)) 0 11 (0)) 0 21 (0)) 0 22 (0)) 0 23 (0)) 0 24 (0)) 0 25 (-1)) 0 26 (0)) 38 0 (10)) 38 1 (20)) 38 2 (21)) 38 3 (22)) 38 4 (23)) 38 5 (24)) 38 6 (30)) 38 7 (40)) 38 8 (50)) 38 9 (51)) 38 10 (52)) 38 11 (53)) 38 12 (54)) 38 13 (60)) 0 40 (0)) 0 41 (0)) 0 45 (0)) 47 0 (-1)) 47 1 (-1)) 47 2 (-1)) 47 3 (-1)) 47 4 (-1)) 47 5 (-1)))
theorem inv0 : Inv 0 sgP tuP := by
  refine ⟨by decide, ⟨by decide +kernel, by decide +kernel, fun k hk => absurd hk (Nat.not_lt_zero k)⟩, fun p hp => ?_, ⟨[], ⟨by decide +kernel, by decide, fun i b h => by simp at h⟩, ⟨by decide +kernel, by decide, fun i b h => by simp at h⟩⟩, ⟨fun i hi => (show ∀ i, i < 7 → gi sgP 310 i = sg0 i by decide +kernel) i (by omega), by decide +kernel, by decide +kernel⟩, fun i hi => (show ∀ i, i < 14 → gi tuP 38 i = nI (PLa i) by decide +kernel) i hi, ⟨0, by decide, by decide +kernel, by decide +kernel, fun i _ h => absurd h (Nat.not_lt_zero i)⟩, ⟨fun t ht => ?_, fun t ht _ => (show ∀ t, t < 6 → gi tuP 48 t = 0 by decide +kernel) t ht⟩, [], ⟨by decide, by decide +kernel, by decide +kernel, fun r R h => by simp at h⟩, ⟨none, [], ⟨rfl, by decide +kernel, by decide +kernel, ⟨fun i hi => (show ∀ i, i < 7 → gi sgP 210 i = sg0 i by decide +kernel) i (by omega), by decide +kernel, by decide +kernel⟩⟩, ⟨rfl, by decide +kernel, by decide +kernel, ?_⟩, rfl, by decide +kernel, fun _ => by decide +kernel⟩⟩
  · obtain ⟨h1, h2, h3, h4⟩ := (show ∀ p, p < 5 → gi sgP 101 p = 0 ∧ gi sgP 102 p = 0 ∧ gi tuP 1 p = 0 ∧ gi tuP 2 p = 0 by decide +kernel) p hp
    rw [h1, h2, h3, h4]
    exact ⟨rfl, rfl, ⟨0, by decide, rfl⟩, ⟨0, by decide, rfl⟩⟩
  · obtain ⟨h1, h2, h3, h4⟩ := (show ∀ t, t < 6 → gi sgP 111 t = -1 ∧ gi sgP 112 t = 0 ∧ gi tuP 47 t = -1 ∧ gi tuP 48 t = 0 by decide +kernel) t ht
    rw [h1, h2, h3, h4]
    exact ⟨rfl, rfl, ⟨0, by decide, rfl⟩, by decide, fun i hi => rfl⟩
  · unfold StR
    decide +kernel
