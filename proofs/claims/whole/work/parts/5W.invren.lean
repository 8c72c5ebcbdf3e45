/-! what holds between calls doesn't look at numbers of their own -/
theorem isd_what {o k : Nat} (h : isd o k = true) : o = 103 ∨ (o = 105 ∧ k = 2) ∨ (o = 108 ∧ k = 5) ∨ (o = 109 ∧ k = 5) := by
  have h8 : (sh o).1 ≤ 8 := by
    simp only [isd, Bool.or_eq_true, Bool.and_eq_true, decide_eq_true_eq, beq_iff_eq] at h
    rcases h with ⟨⟨⟨h, -⟩, -⟩, -⟩ | ⟨h, -⟩ <;> omega
  obtain ⟨w1, w2, w3⟩ := isd_where h h8
  have hb := (show ∀ x, x < 110 → ∀ k, k < 10 → (!isd x k || (x == 103) || (x == 105 && k == 2) || (x == 108 && k == 5) || (x == 109 && k == 5)) = true by decide +kernel) o w2 k w3
  simp only [h, Bool.not_true, Bool.false_or, Bool.or_eq_true, Bool.and_eq_true, beq_iff_eq] at hb
  omega
theorem ren_no {ids : List Nat} {σ : St} {o k : Nat} (h : ¬ (o = 103 ∨ (o = 105 ∧ k = 2) ∨ (o = 108 ∧ k = 5) ∨ (o = 109 ∧ k = 5))) : gi (ren ids σ) o k = gi σ o k := by
  have hf : isd o k = false := by
    cases hv : isd o k with
    | false => rfl
    | true => exact absurd (isd_what hv) h
  rw [ren_gi, hf, Bool.and_false, Bool.false_and, if_neg (by decide)]
theorem ren_in {ids : List Nat} {σ : St} {o k : Nat} (h : ∀ z, dc (gi σ o k) = some z → z ∈ ids) : gi (ren ids σ) o k = gi σ o k := by
  have : outb ids (gi σ o k) = false := by
    unfold outb
    cases hv : dc (gi σ o k) with
    | none => rfl
    | some z => simp [h z hv]
  rw [ren_gi, this, Bool.and_false, if_neg (by decide)]
theorem RlC_rules {σ : St} {G : Gm} {ps : List Nat} (h : RlC σ 108 G ps) : ∀ z, dc (gi σ 108 5) = some z → z ∈ idsB := by
  intro z hz
  cases G with
  | none =>
    have := h.2.1
    rw [this] at hz
    cases hz
  | some g =>
    obtain ⟨r, R, wo⟩ := g
    have h1 : RoC σ 108 r R wo ps := h.1
    have h2 : r < 5 := h.2.1
    have h3 : dc (gi σ 108 5) = some (140 + r) := h1.2.1
    rw [h3] at hz
    cases hz
    exact (show ∀ r, r < 5 → 140 + r ∈ idsB by decide +kernel) r h2
theorem inv_ren {nc : Nat} {σ τ : St} (h : Inv nc σ τ) : Inv nc (ren (idsC nc) σ) τ := by
  obtain ⟨h0, hc, h2, h3, h4, h5, h6, h7, Rs, h8, h9⟩ := h
  have hro : gi (ren (idsC nc) σ) 108 5 = gi σ 108 5 := by
    obtain ⟨G, ps, hl, -⟩ := h9
    exact ren_in (fun z hz => List.mem_append_left _ (RlC_rules hl z hz))
  refine ⟨h0, ⟨by rw [ren_no (by omega)]; exact hc.1, hc.2.1, fun k hk => ?_⟩, h2.same (fun x k hx => ren_no (by omega)) (fun _ _ _ => rfl), h3.same (fun x k hx => ren_no (by omega)) (fun _ _ _ => rfl), h4.same (fun x k hx => ren_no (by omega)), h5, h6.same (fun x k hx => ren_no (by omega)) (fun _ _ _ => rfl), h7.same (fun x k hx => ren_no (by omega)) (fun _ _ _ => rfl) (fun _ => rfl) (fun _ => rfl), Rs, h8.same (fun x k hx => ren_no (by omega)) (fun _ _ _ => rfl), h9.same (fun x k hx => ?_) (fun _ _ _ => rfl)⟩
  · obtain ⟨h1, ⟨S, q2, q3, q4⟩, cs, q5, q6⟩ := hc.2.2 k hk
    refine ⟨?_, ⟨S, q2, by rw [ren_no (by omega)]; exact q3, q4⟩, cs, fun w p hw hp => by rw [ren_no (by omega)]; exact q5 w p hw hp, q6⟩
    rw [ren_in (fun z hz => by
      rw [h1] at hz
      cases hz
      exact List.mem_append_right _ (List.mem_flatMap.mpr ⟨k, List.mem_range.mpr hk, by simp⟩))]
    exact h1
  · by_cases e : x = 108 ∧ k = 5
    · rw [e.1, e.2]; exact hro
    · exact ren_no (by omega)
