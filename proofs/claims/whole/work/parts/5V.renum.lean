/-! RENUMBER: numbers that stand for what isn't in the world get numbers of their own -/
/-- a cell's picture tells the same with other addresses, if they are the same where the cell looks -/
theorem at_same2 {D : va_G} {H : Heap} {hs hs' : List (Nat × Nat)} {ca : Nat → ClassId} {r r' : Nat → Nat} {σ σ' : St} {o : Nat} (h8 : (sh o).1 ≤ 8) (h0 : r' o = r o)
    (c0 : ∀ k, (o, k) ∈ hs → isr o k = true) (c0' : ∀ k, (o, k) ∈ hs' → isr o k = true)
    (c1 : ∀ k, isr o k = true → ((o, k) ∈ hs' ↔ (o, k) ∈ hs) ∧ ((o, k) ∉ hs → r' (rf o k) = r (rf o k)))
    (c2 : ∀ k, isd o k = true → (dc (gi σ' o k)).map r' = (dc (gi σ o k)).map r) (c3 : ∀ k, isd o k = false → gi σ' o k = gi σ o k) (c4 : gl σ' o = gl σ o) (h : va_at D vwCl (r o, pce hs ca r σ o) H) : va_at D vwCl (r' o, pce hs' ca r' σ' o) H := by
  rw [h0]
  generalize hs2 : sh o = s2
  obtain ⟨t, n⟩ := s2
  unfold pce at h ⊢
  rw [hs2] at h ⊢ h8
  by_cases ht : t = 0
  · subst ht
    rw [if_pos rfl] at h ⊢
    have e : pfl hs' r' σ' o n = pfl hs r σ o n := by
      unfold pfl
      apply List.map_congr_left
      intro k hk
      have hk := List.mem_range.mp hk
      unfold pfv
      by_cases hr : isr o k = true
      · obtain ⟨i1, i2⟩ := c1 k hr
        by_cases hm : (o, k) ∈ hs
        · rw [if_pos hm, if_pos (i1.mpr hm)]
        · rw [if_neg hm, if_neg (fun z => hm (i1.mp z))]
          unfold fv
          rw [(isr_obj hs2).mp hr |>.1]
          simp [i2 hm]
      · rw [if_neg (fun z => hr (c0 k z)), if_neg (fun z => hr (c0' k z))]
        unfold fv
        have h1 : ¬ fk n k = 1 := fun z => hr ((isr_obj hs2).mpr ⟨z, hk⟩)
        by_cases hf : fk n k = 0
        · rw [if_pos hf, if_pos hf, c3 k (by simp [isd, hs2, hf])]
        · rw [if_neg hf, if_neg hf, if_neg h1, if_neg h1, c2 k (by simp [isd, hs2, hf, h1, hk])]
    rw [e]
    exact h
  · rw [if_neg ht] at h ⊢
    show H[r o]? = some (vp_cell (ca t) (n, pac hs' r' σ' o t))
    have e : vp_cell (ca t) (n, pac hs' r' σ' o t) = vp_cell (ca t) (n, pac hs r σ o t) := by
      by_cases h5 : 5 ≤ t
      · unfold pac
        rw [if_pos h5, if_pos h5, vp_cell_q, vp_cell_q]
        refine mx_same fun j hj => ?_
        have hr : isr o j = true := (isr_arr hs2 ⟨h5, h8⟩).mpr hj
        obtain ⟨i1, i2⟩ := c1 j hr
        by_cases hm : (o, j) ∈ hs
        · rw [if_pos hm, if_pos (i1.mpr hm)]
        · rw [if_neg hm, if_neg (fun z => hm (i1.mp z)), i2 hm]
      · unfold pac
        rw [if_neg h5, if_neg h5]
        by_cases h4 : t = 4
        · subst h4
          unfold ac
          rw [if_neg (by omega), if_neg (by omega), if_pos rfl, if_neg (by omega), if_neg (by omega), if_pos rfl, vp_cell_q, vp_cell_q]
          refine mx_same fun j hj => ?_
          rw [c2 j (by simp [isd, hs2, hj])]
        · unfold ac
          by_cases h1 : t = 1 ∨ t = 3
          · rw [if_pos h1, if_pos h1, show gi σ' o = gi σ o from funext fun k => c3 k (by simp [isd, hs2, ht, h4])]
          · rw [if_neg h1, if_neg h1, if_pos (by omega), if_pos (by omega), c4]
    rw [e]
    exact h
def nbr (o k : Nat) : Nat := 500 + 10 * (o - 100) + k
def outb (ids : List Nat) (x : Int32) : Bool := match dc x with
  | none => false
  | some z => !ids.contains z
def ren (ids : List Nat) (σ : St) : St := (fun o k => if (ids.contains o && isd o k && outb ids (gi σ o k)) = true then nI (nbr o k) else gi σ o k, σ.2)
def rho (ρ : Nat → Nat) (σ : St) : Nat → Nat := fun z => if 500 ≤ z ∧ z < 600 then (match dc (gi σ (100 + (z - 500) / 10) ((z - 500) % 10)) with
  | some w => ρ w
  | none => 0) else ρ z
theorem isd_where {o k : Nat} (h : isd o k = true) (h8 : (sh o).1 ≤ 8) : 100 ≤ o ∧ o < 110 ∧ k < 10 := by
  have hk : k < 60 := by
    have h1 : fn (sh o).2 ≤ 60 ∧ ((sh o).1 = 4 → (sh o).2 ≤ 60) := (show ∀ o, o < 440 → fn (sh o).2 ≤ 60 ∧ ((sh o).1 = 4 → (sh o).2 ≤ 60) by decide +kernel) o (sh8_lt h8)
    simp only [isd, Bool.or_eq_true, Bool.and_eq_true, decide_eq_true_eq, beq_iff_eq] at h
    rcases h with ⟨-, h⟩ | ⟨h, h2⟩
    · omega
    · have := h1.2 h
      omega
  exact (show ∀ o, o < 440 → ∀ k, k < 60 → isd o k = true → 100 ≤ o ∧ o < 110 ∧ k < 10 by decide +kernel) o (sh8_lt h8) k hk h
def x5 : List Nat := (List.range 100).map (fun j => 500 + j)
theorem mem_x5 {z : Nat} : z ∈ x5 ↔ 500 ≤ z ∧ z < 600 := by
  unfold x5
  constructor
  · intro h
    obtain ⟨j, hj, rfl⟩ := List.mem_map.mp h
    have := List.mem_range.mp hj
    omega
  · intro h
    exact List.mem_map.mpr ⟨z - 500, List.mem_range.mpr (by omega), by omega⟩
theorem rho_low (ρ : Nat → Nat) (σ : St) {z : Nat} (h : (sh z).1 ≤ 8 ∨ 1000 ≤ z) : rho ρ σ z = ρ z := by
  unfold rho
  have hz : ¬ (500 ≤ z ∧ z < 600) := by
    rcases h with h | h
    · have := sh8_lt h
      omega
    · omega
  rw [if_neg hz]
theorem ren_gi (ids : List Nat) (σ : St) (o k : Nat) : gi (ren ids σ) o k = if (ids.contains o && isd o k && outb ids (gi σ o k)) = true then nI (nbr o k) else gi σ o k := rfl
theorem ren_dc {ids : List Nat} {ρ : Nat → Nat} {σ : St} {o k : Nat} (hin : o ∈ ids) (h8 : ∀ o, o ∈ ids → (sh o).1 ≤ 8) (hd : isd o k = true) : (dc (gi (ren ids σ) o k)).map (rho ρ σ) = (dc (gi σ o k)).map ρ ∧ ∀ a, dc (gi (ren ids σ) o k) = some a → a ∈ ids ∨ a ∈ x5 := by
  obtain ⟨w1, w2, w3⟩ := isd_where hd (h8 o hin)
  rw [ren_gi]
  have hc : ids.contains o = true := by simpa using hin
  rw [hc, hd, Bool.true_and, Bool.true_and]
  cases hv : dc (gi σ o k) with
  | none =>
    have : outb ids (gi σ o k) = false := by unfold outb; rw [hv]
    rw [this, if_neg (by decide), hv]
    exact ⟨rfl, fun a ha => by cases ha⟩
  | some z =>
    by_cases hz : z ∈ ids
    · have : outb ids (gi σ o k) = false := by
        unfold outb; rw [hv]; simp [hz]
      rw [this, if_neg (by decide), hv]
      exact ⟨congrArg some (rho_low ρ σ (Or.inl (h8 z hz))), fun a ha => by cases ha; exact Or.inl hz⟩
    · have : outb ids (gi σ o k) = true := by
        unfold outb; rw [hv]; simp [hz]
      have hn : nbr o k = 500 + 10 * (o - 100) + k := rfl
      rw [this, if_pos rfl, dc_nI (by omega)]
      refine ⟨?_, fun a ha => by cases ha; exact Or.inr (mem_x5.mpr (by omega))⟩
      show some (rho ρ σ (nbr o k)) = some (ρ z)
      congr 1
      unfold rho
      rw [if_pos (by omega), show 100 + (nbr o k - 500) / 10 = o by omega, show (nbr o k - 500) % 10 = k by omega, hv]
theorem ren_P {D : va_G} {H : Heap} {ca : Nat → ClassId} {ids : List Nat} {ρ : Nat → Nat} {σ : St} (hc : clo ids) (h8 : ∀ o, o ∈ ids → (sh o).1 ≤ 8) (hP : va_P D vwCl (wl ids ca ρ σ) H) : va_P D vwCl (pw ids [] ca (rho ρ σ) (ren ids σ)) H := fun k y hy => by
  obtain ⟨z, hz, rfl⟩ := pw_get hy
  have hzi := List.mem_of_getElem? hz
  rw [← pw_nil] at hP
  obtain ⟨i, -, hi⟩ := pw_in [] ca ρ σ hzi
  refine at_same2 (h8 z hzi) (rho_low ρ σ (Or.inl (h8 z hzi))) (fun k hk => absurd hk List.not_mem_nil) (fun k hk => absurd hk List.not_mem_nil) (fun k hk => ⟨Iff.rfl, fun _ => rho_low ρ σ (Or.inl (h8 _ (hc z hzi k hk)))⟩) (fun k hk => (ren_dc hzi h8 hk).1) (fun k hk => ?_) rfl (hP i _ hi)
  rw [ren_gi, hk, Bool.and_false, Bool.false_and, if_neg (by decide)]
theorem ren_Bc {ids : List Nat} {σ : St} (hn : ids.Nodup) (hc : clo ids) (h8 : ∀ o, o ∈ ids → (sh o).1 ≤ 8) : Bc x5 ids [] (ren ids σ) :=
  ⟨hn, h8, fun o ho k hk => Or.inr (Or.inl (hc o ho k hk)), fun p hp => absurd hp List.not_mem_nil, fun o ho k hk a ha => (ren_dc (ρ := id) ho h8 hk).2 a ha⟩
