/-! BEHIND A CONSTRUCTOR: the caller's world with what was made -/
def dro (hs : List (Nat × Nat)) (o : Nat) : List (Nat × Nat) := hs.filter (fun p => !(p.1 == o))
theorem mem_dro {hs : List (Nat × Nat)} {o : Nat} {p : Nat × Nat} : p ∈ dro hs o ↔ p ∈ hs ∧ p.1 ≠ o := by
  simp [dro, List.mem_filter]
theorem BW_join {xs ids : List Nat} {hs : List (Nat × Nat)} {σ σ' : St} {an : List (Nat × Nat)} {ρ r r' : Nat → Nat} {D : va_G} {A : Nat → Prop} {ca : Nat → ClassId} {o : Nat} {ns cxs : List Nat} {H H1 : Heap}
    (hBc : Bc xs ids hs σ) (hB' : Bc cxs (o :: ns) [] σ') (hoi : o ∈ ids) (hcx : ∀ z, z ∈ cxs → z ∈ ids ∨ z ∈ xs) (hdis : ∀ z, z ∈ ns → z ∉ ids ∧ z ∉ xs) (hσ : ∀ z, z ∈ ids → z ≠ o → gi σ' z = gi σ z ∧ gl σ' z = gl σ z)
    (han : ∀ q ∈ an, r q.1 = q.2 ∧ (q.1 ∈ ids ∨ q.1 ∈ xs)) (hth : ∀ o, 1000 ≤ o → r o = ρ o) (hD : va_D A (pw ids hs ca r σ)) (hP : va_P D vwCl (pw ids hs ca r σ) H) (hr' : ∀ z, z ∈ o :: cxs → r' z = r z) (hD' : va_D (Af [o] r H.size) (pw (o :: ns) [] ca r' σ')) (hP' : va_P D vwCl (pw (o :: ns) [] ca r' σ') H1)
    (hA : ∀ q, H.size ≤ q → A q) (hk : ∀ q : Nat, q < H.size → ¬ Af [o] r H.size q → H1[q]? = H[q]?) :
    Bc xs (ids ++ ns) (dro hs o) σ' ∧ ∃ r2 : Nat → Nat, (∀ p ∈ an, r2 p.1 = p.2 ∧ (p.1 ∈ ids ++ ns ∨ p.1 ∈ xs)) ∧ (∀ o, 1000 ≤ o → r2 o = ρ o) ∧ va_D A (pw (ids ++ ns) (dro hs o) ca r2 σ') ∧ va_P D vwCl (pw (ids ++ ns) (dro hs o) ca r2 σ') H1 := by
  obtain ⟨b1, b2, b3, b4, b5⟩ := hBc
  obtain ⟨c1, c2, c3, c4, c5⟩ := hB'
  obtain ⟨i1, i2⟩ := D_of b1 hD
  obtain ⟨j1, j2⟩ := D_of c1 hD'
  have hon : o ∉ ns := (List.nodup_cons.mp c1).1
  have hnsn : ns.Nodup := (List.nodup_cons.mp c1).2
  have kn : ∀ z, z ∈ ids ∨ z ∈ xs → z ∉ ns := fun z hz h => hz.elim (hdis z h).1 (hdis z h).2
  have e1 : ∀ z, z ∈ ids ∨ z ∈ xs → (if z ∈ ns then r' z else r z) = r z := fun z hz => if_neg (kn z hz)
  have e2 : ∀ z, z ∈ o :: ns ∨ z ∈ cxs → (if z ∈ ns then r' z else r z) = r' z := fun z hz => by
    by_cases h : z ∈ ns
    · exact if_pos h
    · rw [if_neg h]
      rcases hz with hz | hz
      · rcases List.mem_cons.mp hz with rfl | hz
        · exact (hr' _ (by simp)).symm
        · exact absurd hz h
      · exact (hr' z (List.mem_cons_of_mem _ hz)).symm
  have lt : ∀ z, z ∈ ids → r z < H.size := fun z hz => by
    obtain ⟨i, -, hi⟩ := pw_in hs ca r σ hz
    exact (hP i _ hi).lt
  have nsA : ∀ z, z ∈ ns → H.size ≤ r' z := fun z hz => by
    rcases j2 z (List.mem_cons_of_mem _ hz) with ⟨a, ha, e⟩ | h
    · rw [List.mem_singleton.mp ha] at e
      have e' : r' z = r' o := e.trans (hr' o (by simp)).symm
      have := j1 z o (List.mem_cons_of_mem _ hz) (by simp) e'
      subst this
      exact absurd hz hon
    · exact h
  have hb4' : ∀ p ∈ dro hs o, isr p.1 p.2 = true ∧ p.1 ∈ ids ++ ns := fun p hp => ⟨(b4 p (mem_dro.mp hp).1).1, List.mem_append_left _ (b4 p (mem_dro.mp hp).1).2⟩
  have hnd : (ids ++ ns).Nodup := List.nodup_append.mpr ⟨b1, hnsn, fun a ha b hb e => (hdis b hb).1 (e ▸ ha)⟩
  refine ⟨⟨hnd, fun z hz => ?_, fun z hz k hk' => ?_, hb4', fun z hz k hk' v hv => ?_⟩, fun z => if z ∈ ns then r' z else r z, fun p hp => ?_, fun z hz => ?_, ?_, fun k y hy => ?_⟩
  · rcases List.mem_append.mp hz with h | h
    · exact b2 z h
    · exact c2 z (List.mem_cons_of_mem _ h)
  · by_cases hzo : z ∈ o :: ns
    · rcases c3 z hzo k hk' with h | h | h
      · exact absurd h List.not_mem_nil
      · rcases List.mem_cons.mp h with h | h
        · exact Or.inr (Or.inl (List.mem_append_left _ (by rw [h]; exact hoi)))
        · exact Or.inr (Or.inl (List.mem_append_right _ h))
      · exact Or.inr ((hcx _ h).imp (fun q => List.mem_append_left _ q) id)
    · have hzi : z ∈ ids := (List.mem_append.mp hz).resolve_right (fun h => hzo (List.mem_cons_of_mem _ h))
      have hne : z ≠ o := fun e => hzo (by rw [e]; simp)
      rcases b3 z hzi k hk' with h | h | h
      · exact Or.inl (mem_dro.mpr ⟨h, hne⟩)
      · exact Or.inr (Or.inl (List.mem_append_left _ h))
      · exact Or.inr (Or.inr h)
  · by_cases hzo : z ∈ o :: ns
    · rcases c5 z hzo k hk' v hv with h | h
      · rcases List.mem_cons.mp h with h | h
        · exact Or.inl (List.mem_append_left _ (by rw [h]; exact hoi))
        · exact Or.inl (List.mem_append_right _ h)
      · exact (hcx _ h).imp (fun q => List.mem_append_left _ q) id
    · have hzi : z ∈ ids := (List.mem_append.mp hz).resolve_right (fun h => hzo (List.mem_cons_of_mem _ h))
      have hne : z ≠ o := fun e => hzo (by rw [e]; simp)
      rw [(hσ z hzi hne).1] at hv
      exact (b5 z hzi k hk' v hv).imp (fun q => List.mem_append_left _ q) id
  · obtain ⟨h1, h2⟩ := han p hp
    exact ⟨(e1 _ h2).trans h1, h2.imp (fun q => List.mem_append_left _ q) id⟩
  · have hzn : z ∉ ns := fun h => by
      have := sh8_lt (c2 z (List.mem_cons_of_mem _ h))
      omega
    exact (if_neg hzn).trans (hth z hz)
  · refine to_D _ ca σ' hnd (fun a b ha hb e => ?_) (fun a ha => ?_)
    · rcases List.mem_append.mp ha with h1 | h1 <;> rcases List.mem_append.mp hb with h2 | h2
      · exact i1 a b h1 h2 (by rw [← e1 a (Or.inl h1), ← e1 b (Or.inl h2)]; exact e)
      · have l1 := lt a h1
        have l2 := nsA b h2
        have e3 : r a = r' b := by rw [← e1 a (Or.inl h1), ← e2 b (Or.inl (List.mem_cons_of_mem _ h2))]; exact e
        omega
      · have l1 := lt b h2
        have l2 := nsA a h1
        have e3 : r' a = r b := by rw [← e1 b (Or.inl h2), ← e2 a (Or.inl (List.mem_cons_of_mem _ h1))]; exact e
        omega
      · exact j1 a b (List.mem_cons_of_mem _ h1) (List.mem_cons_of_mem _ h2) (by rw [← e2 a (Or.inl (List.mem_cons_of_mem _ h1)), ← e2 b (Or.inl (List.mem_cons_of_mem _ h2))]; exact e)
    · rcases List.mem_append.mp ha with h1 | h1
      · show A (if a ∈ ns then r' a else r a)
        rw [e1 a (Or.inl h1)]
        exact i2 a h1
      · show A (if a ∈ ns then r' a else r a)
        rw [if_pos h1]
        exact hA _ (nsA a h1)
  · obtain ⟨z, hz, rfl⟩ := pw_get hy
    have hz := List.mem_of_getElem? hz
    by_cases hzo : z ∈ o :: ns
    · obtain ⟨i, -, hi⟩ := pw_in [] ca r' σ' hzo
      refine at_same (c2 z hzo) (e2 z (Or.inl hzo)) (fun k hk' => absurd hk' List.not_mem_nil) (fun k hk' => (hb4' _ hk').1) (fun k hk' => ⟨⟨fun h => ?_, fun h => absurd h List.not_mem_nil⟩, fun _ => ?_⟩) (fun k hk' => ?_) (hP' i _ hi)
      · obtain ⟨h1, h2⟩ := mem_dro.mp h
        rcases List.mem_cons.mp hzo with h3 | h3
        · exact absurd h3 h2
        · exact absurd (b4 _ h1).2 (hdis z h3).1
      · rcases c3 z hzo k hk' with h | h
        · exact absurd h List.not_mem_nil
        · exact e2 _ h
      · cases hv : dc (gi σ' z k) with
        | none => rfl
        | some v => exact congrArg some (e2 v (c5 z hzo k hk' v hv))
    · have hzi : z ∈ ids := (List.mem_append.mp hz).resolve_right (fun h => hzo (List.mem_cons_of_mem _ h))
      have hne : z ≠ o := fun e => hzo (by rw [e]; simp)
      obtain ⟨i, -, hi⟩ := pw_in hs ca r σ hzi
      have hnA : ¬ Af [o] r H.size (r z) := fun h => by
        rcases h with ⟨a, ha, e⟩ | h
        · rw [List.mem_singleton.mp ha] at e
          exact hne (i1 z o hzi hoi e)
        · have := lt z hzi
          omega
      have h0 := (hP i _ hi).kept (hk _ (lt z hzi) hnA)
      rw [← pce_other (σ := σ) (σ' := σ') (hσ z hzi hne).1 (hσ z hzi hne).2] at h0
      refine at_same (b2 z hzi) (e1 z (Or.inl hzi)) (fun k hk' => (b4 _ hk').1) (fun k hk' => (hb4' _ hk').1) (fun k hk' => ⟨⟨fun h => (mem_dro.mp h).1, fun h => mem_dro.mpr ⟨h, hne⟩⟩, fun hh => ?_⟩) (fun k hk' => ?_) h0
      · rcases b3 z hzi k hk' with h | h
        · exact absurd h hh
        · exact e1 _ h
      · rw [(hσ z hzi hne).1]
        cases hv : dc (gi σ z k) with
        | none => rfl
        | some v => exact congrArg some (e1 v (b5 z hzi k hk' v hv))
