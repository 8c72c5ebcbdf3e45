/-! BUILDING: the picture with HOLES: places of reference that aren't filled yet. -/
def isd (o k : Nat) : Bool := ((sh o).1 == 0 && !(fk (sh o).2 k == 0) && !(fk (sh o).2 k == 1) && decide (k < fn (sh o).2)) || ((sh o).1 == 4 && decide (k < (sh o).2))
def pfv (hs : List (Nat × Nat)) (ρ : Nat → Nat) (σ : St) (o c k : Nat) : Value := if (o, k) ∈ hs then .null else fv ρ σ o c k
def pfl (hs : List (Nat × Nat)) (ρ : Nat → Nat) (σ : St) (o c : Nat) : List Value := (List.range (fn c)).map (pfv hs ρ σ o c)
def pac (hs : List (Nat × Nat)) (ρ : Nat → Nat) (σ : St) (o t : Nat) : (Nat → Int32) ⊕ (Nat → Int64) ⊕ (Nat → UInt32) ⊕ (Nat → UInt64) ⊕ (Nat → Option Nat) :=
  if 5 ≤ t then .inr (.inr (.inr (.inr fun j => if (o, j) ∈ hs then none else some (ρ (rf o j))))) else ac ρ σ o t
def pce (hs : List (Nat × Nat)) (ca : Nat → ClassId) (ρ : Nat → Nat) (σ : St) (o : Nat) : va_E := if (sh o).1 = 0 then .inr ((sh o).2, pfl hs ρ σ o (sh o).2) else .inl (ca (sh o).1, (sh o).2, pac hs ρ σ o (sh o).1)
def pw (ids : List Nat) (hs : List (Nat × Nat)) (ca : Nat → ClassId) (ρ : Nat → Nat) (σ : St) : va_W := ids.map fun o => (ρ o, pce hs ca ρ σ o)
theorem pce_nil (ca : Nat → ClassId) (ρ : Nat → Nat) (σ : St) (o : Nat) : pce [] ca ρ σ o = ce ca ρ σ o := by
  unfold pce ce
  split
  · rw [show pfl [] ρ σ o (sh o).2 = fl ρ σ o (sh o).2 from by
      unfold pfl fl
      exact List.map_congr_left fun k _ => by simp [pfv]]
  · congr 3
    unfold pac
    split
    · rename_i h
      unfold ac
      rw [if_neg (by omega), if_neg (by omega), if_neg (by omega)]
      simp
    · rfl
theorem pw_nil (ids : List Nat) (ca : Nat → ClassId) (ρ : Nat → Nat) (σ : St) : pw ids [] ca ρ σ = wl ids ca ρ σ := by
  unfold pw wl
  congr 1
  funext o
  rw [pce_nil]
theorem isr_obj {o c k : Nat} (h : sh o = (0, c)) : isr o k = true ↔ fk c k = 1 ∧ k < fn c := by
  simp [isr, h]
theorem isr_arr {o t n k : Nat} (h : sh o = (t, n)) (ht : 5 ≤ t ∧ t ≤ 8) : isr o k = true ↔ k < n := by
  have h0 : ¬ t = 0 := by omega
  simp [isr, h, ht, h0]
theorem isr_not {o t n k : Nat} (h : sh o = (t, n)) (ht : 1 ≤ t ∧ t ≤ 4) : isr o k = false := by
  have h0 : ¬ t = 0 := by omega
  have h1 : ¬ (5 ≤ t ∧ t ≤ 8) := by omega
  simp [isr, h, h0, h1]
/-- a cell's picture tells the same with other addresses, if they are the same where the cell looks -/
theorem at_same {D : va_G} {H : Heap} {hs hs' : List (Nat × Nat)} {ca : Nat → ClassId} {r r' : Nat → Nat} {σ : St} {o : Nat} (h8 : (sh o).1 ≤ 8) (h0 : r' o = r o)
    (c0 : ∀ k, (o, k) ∈ hs → isr o k = true) (c0' : ∀ k, (o, k) ∈ hs' → isr o k = true)
    (c1 : ∀ k, isr o k = true → ((o, k) ∈ hs' ↔ (o, k) ∈ hs) ∧ ((o, k) ∉ hs → r' (rf o k) = r (rf o k)))
    (c2 : ∀ k, isd o k = true → (dc (gi σ o k)).map r' = (dc (gi σ o k)).map r) (h : va_at D vwCl (r o, pce hs ca r σ o) H) : va_at D vwCl (r' o, pce hs' ca r' σ o) H := by
  rw [h0]
  generalize hs2 : sh o = s2
  obtain ⟨t, n⟩ := s2
  unfold pce at h ⊢
  rw [hs2] at h ⊢ h8
  by_cases ht : t = 0
  · subst ht
    rw [if_pos rfl] at h ⊢
    have e : pfl hs' r' σ o n = pfl hs r σ o n := by
      unfold pfl
      apply List.map_congr_left
      intro k hk
      have hk := List.mem_range.mp hk
      unfold pfv
      by_cases hr : isr o k = true
      · obtain ⟨i1, i2⟩ := c1 k hr
        by_cases hm : (o, k) ∈ hs
        · rw [if_pos hm, if_pos (i1.mpr hm)]
        · rw [if_neg hm, if_neg (fun z => hm (i1.mp z))]
          unfold fv
          rw [(isr_obj hs2).mp hr |>.1]
          simp [i2 hm]
      · rw [if_neg (fun z => hr (c0 k z)), if_neg (fun z => hr (c0' k z))]
        unfold fv
        have h1 : ¬ fk n k = 1 := fun z => hr ((isr_obj hs2).mpr ⟨z, hk⟩)
        by_cases hf : fk n k = 0
        · rw [if_pos hf, if_pos hf]
        · rw [if_neg hf, if_neg hf, if_neg h1, if_neg h1, c2 k (by simp [isd, hs2, hf, h1, hk])]
    rw [e]
    exact h
  · rw [if_neg ht] at h ⊢
    show H[r o]? = some (vp_cell (ca t) (n, pac hs' r' σ o t))
    have e : vp_cell (ca t) (n, pac hs' r' σ o t) = vp_cell (ca t) (n, pac hs r σ o t) := by
      by_cases h5 : 5 ≤ t
      · unfold pac
        rw [if_pos h5, if_pos h5, vp_cell_q, vp_cell_q]
        refine mx_same fun j hj => ?_
        have hr : isr o j = true := (isr_arr hs2 ⟨h5, h8⟩).mpr hj
        obtain ⟨i1, i2⟩ := c1 j hr
        by_cases hm : (o, j) ∈ hs
        · rw [if_pos hm, if_pos (i1.mpr hm)]
        · rw [if_neg hm, if_neg (fun z => hm (i1.mp z)), i2 hm]
      · unfold pac
        rw [if_neg h5, if_neg h5]
        by_cases h4 : t = 4
        · subst h4
          unfold ac
          rw [if_neg (by omega), if_neg (by omega), if_pos rfl, if_neg (by omega), if_neg (by omega), if_pos rfl, vp_cell_q, vp_cell_q]
          refine mx_same fun j hj => ?_
          rw [c2 j (by simp [isd, hs2, hj])]
        · unfold ac
          by_cases h1 : t = 1 ∨ t = 3
          · rw [if_pos h1, if_pos h1]
          · rw [if_neg h1, if_neg h1, if_pos (by omega), if_pos (by omega)]
    rw [e]
    exact h
/-- the holes of a new cell -/
def nh (o : Nat) : List (Nat × Nat) := ((List.range 60).filter (fun k => isr o k)).map (fun k => (o, k))
theorem isr_lt {o k : Nat} (h : isr o k = true) : k < 60 := by
  have h8 : o < 440 := by
    rcases Nat.lt_or_ge o 440 with q | q
    · exact q
    · exfalso
      have e : sh o = (9, 0) := by
        unfold sh shC
        rw [if_neg (by omega), if_neg (by omega), if_neg (by omega), if_neg (by omega)]
      simp [isr, e] at h
  have h1 : (fn (sh o).2 ≤ 60) ∧ (5 ≤ (sh o).1 → (sh o).2 ≤ 60) := (show ∀ o, o < 440 → fn (sh o).2 ≤ 60 ∧ (5 ≤ (sh o).1 → (sh o).2 ≤ 60) by decide +kernel) o h8
  simp only [isr, Bool.or_eq_true, Bool.and_eq_true, decide_eq_true_eq] at h
  rcases h with ⟨-, h⟩ | ⟨⟨h, -⟩, h2⟩
  · omega
  · have := h1.2 h
    omega
theorem nh_mem {o : Nat} {p : Nat × Nat} : p ∈ nh o ↔ p.1 = o ∧ isr o p.2 = true := by
  unfold nh
  constructor
  · intro h
    obtain ⟨k, hk, rfl⟩ := List.mem_map.mp h
    exact ⟨rfl, (List.mem_filter.mp hk).2⟩
  · rintro ⟨h1, h2⟩
    obtain ⟨a, b⟩ := p
    subst h1
    exact List.mem_map.mpr ⟨b, List.mem_filter.mpr ⟨List.mem_range.mpr (isr_lt h2), h2⟩, rfl⟩
/-- ids are closed, but for holes and for what is known from outside -/
def Bc (xs ids : List Nat) (hs : List (Nat × Nat)) (σ : St) : Prop :=
  ids.Nodup ∧ (∀ o ∈ ids, (sh o).1 ≤ 8) ∧ (∀ o ∈ ids, ∀ k, isr o k = true → (o, k) ∈ hs ∨ rf o k ∈ ids ∨ rf o k ∈ xs) ∧ (∀ p ∈ hs, isr p.1 p.2 = true ∧ p.1 ∈ ids) ∧ ∀ o ∈ ids, ∀ k, isd o k = true → ∀ a, dc (gi σ o k) = some a → a ∈ ids ∨ a ∈ xs
/-- the world that is built: an = ids with their addresses, xs = ids known from outside -/
def BW (X : CT) (xs : List Nat) (an : List (Nat × Nat)) (ids : List Nat) (hs : List (Nat × Nat)) (σ : St) (H : Heap) : Prop :=
  match X with
  | (p, l, e, R, s, m, args, below, meth, c, ca, ρ, D, A) => Bc xs ids hs σ ∧ ∃ r : Nat → Nat, (∀ q ∈ an, r q.1 = q.2 ∧ (q.1 ∈ ids ∨ q.1 ∈ xs)) ∧ (∀ o, 1000 ≤ o → r o = ρ o) ∧ va_D A (pw ids hs ca r σ) ∧ va_P D vwCl (pw ids hs ca r σ) H
theorem sh8_lt {o : Nat} (h : (sh o).1 ≤ 8) : o < 440 := sh_lt (t := (sh o).1) (n := (sh o).2) rfl (by omega)
theorem pw_get {ids : List Nat} {hs : List (Nat × Nat)} {ca : Nat → ClassId} {r : Nat → Nat} {σ : St} {k : Nat} {q : Nat × va_E} (h : (pw ids hs ca r σ)[k]? = some q) : ∃ o, ids[k]? = some o ∧ q = (r o, pce hs ca r σ o) := by
  rw [pw, List.getElem?_map] at h
  cases ho : ids[k]? with
  | none => rw [ho] at h; cases h
  | some o => rw [ho] at h; cases h; exact ⟨o, rfl, rfl⟩
theorem pw_in (hs : List (Nat × Nat)) (ca : Nat → ClassId) (r : Nat → Nat) (σ : St) {ids : List Nat} {o : Nat} (h : o ∈ ids) : ∃ i : Nat, ids[i]? = some o ∧ (pw ids hs ca r σ)[i]? = some (r o, pce hs ca r σ o) := by
  obtain ⟨i, hi⟩ := List.getElem?_of_mem h
  exact ⟨i, hi, by rw [pw, List.getElem?_map, hi]; rfl⟩
theorem pw_fst (ids : List Nat) (hs : List (Nat × Nat)) (ca : Nat → ClassId) (r : Nat → Nat) (σ : St) : (pw ids hs ca r σ).map Prod.fst = ids.map r := by
  unfold pw
  generalize pce hs ca r σ = g
  induction ids with
  | nil => rfl
  | cons a l ih => exact congrArg (r a :: ·) ih
/-- the same addresses, in the same order -/
theorem vaD_fst {A : Nat → Prop} {w w' : va_W} (h : w'.map Prod.fst = w.map Prod.fst) (hD : va_D A w) : va_D A w' := by
  have key : ∀ (i : Nat) (p : Nat × va_E), w'[i]? = some p → ∃ q, w[i]? = some q ∧ q.1 = p.1 := by
    intro i p hp
    have h1 : (w'.map Prod.fst)[i]? = some p.1 := by rw [List.getElem?_map, hp]; rfl
    rw [h, List.getElem?_map] at h1
    cases hq : w[i]? with
    | none => rw [hq] at h1; cases h1
    | some q => rw [hq] at h1; exact ⟨q, rfl, Option.some.inj h1⟩
  refine ⟨fun i j p q hp hq e => ?_, fun k q hq => ?_⟩
  · obtain ⟨p', a1, a2⟩ := key i p hp
    obtain ⟨q', b1, b2⟩ := key j q hq
    exact hD.1 i j p' q' a1 b1 (by rw [a2, b2, e])
  · obtain ⟨q', b1, b2⟩ := key k q hq
    rw [← b2]
    exact hD.2 k q' b1
/-- A NEW CELL is there: it gets a number -/
theorem BW_add {xs : List Nat} {an : List (Nat × Nat)} {ids : List Nat} {hs : List (Nat × Nat)} {σ : St} {ca : Nat → ClassId} {ρ r : Nat → Nat} {D : va_G} {A : Nat → Prop} {H1 : Heap} {q : Nat} {x : va_E} (o : Nat) (h8 : (sh o).1 ≤ 8) (hno : o ∉ ids) (hnx : o ∉ xs) (hd0 : ∀ k, isd o k = true → dc (gi σ o k) = none)
    (hBc : Bc xs ids hs σ) (han : ∀ q ∈ an, r q.1 = q.2 ∧ (q.1 ∈ ids ∨ q.1 ∈ xs)) (hth : ∀ o, 1000 ≤ o → r o = ρ o) (hD1 : va_D A (pw ids hs ca r σ ++ [(q, x)])) (hP1 : va_P D vwCl (pw ids hs ca r σ ++ [(q, x)]) H1)
    (hx : ∀ r', va_at D vwCl (q, x) H1 → va_at D vwCl (q, pce (nh o ++ hs) ca r' σ o) H1) :
    Bc xs (ids ++ [o]) (nh o ++ hs) σ ∧ ∃ r' : Nat → Nat, (∀ p ∈ (o, q) :: an, r' p.1 = p.2 ∧ (p.1 ∈ ids ++ [o] ∨ p.1 ∈ xs)) ∧ (∀ o, 1000 ≤ o → r' o = ρ o) ∧ va_D A (pw (ids ++ [o]) (nh o ++ hs) ca r' σ) ∧ va_P D vwCl (pw (ids ++ [o]) (nh o ++ hs) ca r' σ) H1 := by
  obtain ⟨b1, b2, b3, b4, b5⟩ := hBc
  have hin : ∀ a, a ∈ ids ∨ a ∈ xs → a ≠ o := fun a h z => by
    subst z
    rcases h with h | h
    · exact hno h
    · exact hnx h
  have e0 : ∀ a, a ∈ ids → (if a = o then q else r a) = r a := fun a h => if_neg (hin a (Or.inl h))
  have hb4' : ∀ p ∈ nh o ++ hs, isr p.1 p.2 = true ∧ p.1 ∈ ids ++ [o] := fun p hp => by
    rcases List.mem_append.mp hp with h | h
    · obtain ⟨h1, h2⟩ := nh_mem.mp h
      exact ⟨by rw [h1]; exact h2, by rw [h1]; simp⟩
    · exact ⟨(b4 p h).1, List.mem_append_left _ (b4 p h).2⟩
  have hob : ∀ a k, a ∈ ids → ((a, k) ∈ nh o ++ hs ↔ (a, k) ∈ hs) := fun a k ha => by
    rw [List.mem_append]
    exact ⟨fun h => h.elim (fun h => absurd (nh_mem.mp h).1 (hin a (Or.inl ha))) id, Or.inr⟩
  refine ⟨⟨?_, fun a ha => ?_, fun a ha k hk => ?_, hb4', fun a ha k hk v hv => ?_⟩, fun y => if y = o then q else r y, fun p hp => ?_, fun a ha => ?_, ?_, fun k y hy => ?_⟩
  · exact List.nodup_append.mpr ⟨b1, by simp, fun a ha b hb => by rw [List.mem_singleton.mp hb]; exact hin a (Or.inl ha)⟩
  · rcases List.mem_append.mp ha with h | h
    · exact b2 a h
    · rw [List.mem_singleton.mp h]; exact h8
  · rcases List.mem_append.mp ha with h | h
    · rcases b3 a h k hk with z | z | z
      · exact Or.inl (List.mem_append_right _ z)
      · exact Or.inr (Or.inl (List.mem_append_left _ z))
      · exact Or.inr (Or.inr z)
    · have e := List.mem_singleton.mp h
      subst e
      exact Or.inl (List.mem_append_left _ (nh_mem.mpr ⟨rfl, hk⟩))
  · rcases List.mem_append.mp ha with h | h
    · rcases b5 a h k hk v hv with z | z
      · exact Or.inl (List.mem_append_left _ z)
      · exact Or.inr z
    · have e := List.mem_singleton.mp h
      subst e
      rw [hd0 k hk] at hv
      cases hv
  · rcases List.mem_cons.mp hp with rfl | h
    · exact ⟨if_pos rfl, Or.inl (by simp)⟩
    · obtain ⟨h1, h2⟩ := han p h
      exact ⟨(if_neg (hin _ h2)).trans h1, h2.imp (fun z => List.mem_append_left _ z) id⟩
  · have h9 := sh8_lt h8
    exact (if_neg (by omega)).trans (hth a ha)
  · refine vaD_fst ?_ hD1
    rw [List.map_append, pw_fst, pw_fst, List.map_append, List.map_congr_left e0]
    show ids.map r ++ [if o = o then q else r o] = ids.map r ++ [q]
    rw [if_pos rfl]
  · obtain ⟨a, ha, rfl⟩ := pw_get hy
    by_cases hl : k < ids.length
    · rw [List.getElem?_append_left hl] at ha
      have ham := List.mem_of_getElem? ha
      have h1 := hP1 k (r a, pce hs ca r σ a) (by
        have hl2 : k < (pw ids hs ca r σ).length := by rw [pw, List.length_map]; exact hl
        rw [List.getElem?_append_left hl2, pw, List.getElem?_map, ha]; rfl)
      refine at_same (b2 a ham) (e0 a ham) (fun k hk => (b4 _ hk).1) (fun k hk => (hb4' _ hk).1) (fun k hk => ⟨hob a k ham, fun hh => ?_⟩) (fun k hk => ?_) h1
      · rcases b3 a ham k hk with z | z
        · exact absurd z hh
        · exact if_neg (hin _ z)
      · cases hv : dc (gi σ a k) with
        | none => rfl
        | some v => 
          show some (if v = o then q else r v) = some (r v)
          rw [if_neg (hin v (b5 a ham k hk v hv))]
    · have hl2 : (pw ids hs ca r σ).length = ids.length := by rw [pw, List.length_map]
      rw [List.getElem?_append_right (by omega)] at ha
      have hz : k - ids.length < 1 := (List.getElem?_eq_some_iff.mp ha).1
      have hk0 : k = ids.length := by omega
      subst hk0
      rw [Nat.sub_self] at ha
      have ea : o = a := Option.some.inj ha
      have h1 := hP1 ids.length (q, x) (by rw [List.getElem?_append_right (by omega), hl2, Nat.sub_self]; rfl)
      rw [← ea]
      have h2 := hx (fun y => if y = o then q else r y) h1
      have h3 : (if o = o then q else r o) = q := if_pos rfl
      generalize pce (nh o ++ hs) ca (fun y => if y = o then q else r y) σ o = g at h2
      rw [h3]
      exact h2
