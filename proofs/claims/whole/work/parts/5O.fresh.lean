/-! FRESH: the state's row of a cell that isn't there yet -/
def fresh (σ : St) (o : Nat) : Prop := (∀ k, gi σ o k = if isd o k = true then -1 else 0) ∧ ∀ k, gl σ o k = 0
theorem fresh.si {σ : St} {o a k : Nat} {v : Int32} (h : fresh σ a) (hne : a ≠ o) : fresh (si σ o k v) a := by
  unfold fresh
  rw [gi_si_o σ k v hne, gl_si_o]
  exact h
def st0 : St := (fun o k => if isd o k = true then -1 else 0, fun _ _ => 0)
theorem fresh0 (o : Nat) : fresh st0 o := ⟨fun _ => rfl, fun _ => rfl⟩
theorem fresh.obj {σ : St} {o ci N : Nat} (h : fresh σ o) (hs0 : sh o = (0, ci)) (hfn : fn ci = N) : ∀ k, k < N → (fk ci k = 0 → gi σ o k = 0) ∧ (¬ fk ci k = 0 → ¬ fk ci k = 1 → gi σ o k < 0) := by
  intro k hk
  rw [h.1 k]
  have hk2 : k < fn ci := by rw [hfn]; exact hk
  refine ⟨fun h0 => if_neg (by simp [isd, hs0, h0]), fun h0 h1 => ?_⟩
  rw [if_pos (by simp [isd, hs0, h0, h1, hk2])]
  decide
theorem fresh.int {σ : St} {o t n : Nat} (h : fresh σ o) (hs0 : sh o = (t, n)) (ht : t = 1 ∨ t = 3) : ∀ j, j < n → gi σ o j = 0 := by
  intro j hj
  rw [h.1 j, if_neg]
  have h0 : ¬ t = 0 := by omega
  have h4 : ¬ t = 4 := by omega
  simp [isd, hs0, h0, h4]
theorem fresh.q {σ : St} {o n : Nat} (h : fresh σ o) (hs0 : sh o = (4, n)) : ∀ j, j < n → gi σ o j < 0 := by
  intro j hj
  rw [h.1 j, if_pos (by simp [isd, hs0, hj])]
  decide
theorem Bc_fresh {xs ids : List Nat} {hs : List (Nat × Nat)} {σ : St} (h : bcb xs ids hs = true) (hf : ∀ o, o ∈ ids → fresh σ o) : Bc xs ids hs σ :=
  Bc_neg h fun o ho k hk => by
    rw [(hf o ho).1 k, if_pos hk]
    decide
