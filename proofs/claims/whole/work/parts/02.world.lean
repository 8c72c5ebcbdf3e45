/-! THE PURE PICTURE. Objects and arrays have numbers (ids); what they hold is a pure state: ints (booleans too) by id and place, longs by id and place.
    The ids of the reference are 0 .., those of the class 100 .., static arrays and texts 1000 ... -/
abbrev St : Type := (Nat → Nat → Int32) × (Nat → Nat → Int64)
def gi (σ : St) (o k : Nat) : Int32 := σ.1 o k
def gl (σ : St) (o k : Nat) : Int64 := σ.2 o k
def si (σ : St) (o k : Nat) (v : Int32) : St := (fun a b => if a = o then (if b = k then v else σ.1 a b) else σ.1 a b, σ.2)
def sl (σ : St) (o k : Nat) (v : Int64) : St := (σ.1, fun a b => if a = o then (if b = k then v else σ.2 a b) else σ.2 a b)
theorem gi_si (σ : St) (o k : Nat) (v : Int32) (a b : Nat) : gi (si σ o k v) a b = if a = o ∧ b = k then v else gi σ a b := by
  unfold gi si
  by_cases h1 : a = o <;> by_cases h2 : b = k <;> simp [h1, h2]
theorem gi_same (σ : St) (o k : Nat) (v : Int32) : gi (si σ o k v) o k = v := by rw [gi_si]; simp
theorem gi_ne_o (σ : St) {o a : Nat} (k : Nat) (v : Int32) (b : Nat) (h : a ≠ o) : gi (si σ o k v) a b = gi σ a b := by rw [gi_si]; simp [h]
theorem gi_ne_k (σ : St) (o a : Nat) {k b : Nat} (v : Int32) (h : b ≠ k) : gi (si σ o k v) a b = gi σ a b := by rw [gi_si]; simp [h]
theorem gl_si (σ : St) (o k : Nat) (v : Int32) (a b : Nat) : gl (si σ o k v) a b = gl σ a b := rfl
theorem gi_sl (σ : St) (o k : Nat) (v : Int64) (a b : Nat) : gi (sl σ o k v) a b = gi σ a b := rfl
theorem gl_sl (σ : St) (o k : Nat) (v : Int64) (a b : Nat) : gl (sl σ o k v) a b = if a = o ∧ b = k then v else gl σ a b := by
  unfold gl sl
  by_cases h1 : a = o <;> by_cases h2 : b = k <;> simp [h1, h2]
theorem gi_si_row (σ : St) (o k : Nat) (v : Int32) : gi (si σ o k v) o = upd (gi σ o) k v := by
  funext b
  rw [gi_si]
  by_cases h : b = k <;> simp [upd, h]
theorem gl_sl_row (σ : St) (o k : Nat) (v : Int64) : gl (sl σ o k v) o = vp_updL (gl σ o) k v := by
  funext b
  rw [gl_sl]
  by_cases h : b = k <;> simp [vp_updL, h]
theorem gi_si_o (σ : St) {o a : Nat} (k : Nat) (v : Int32) (h : a ≠ o) : gi (si σ o k v) a = gi σ a := funext fun b => gi_ne_o σ k v b h
theorem gl_sl_o (σ : St) {o a : Nat} (k : Nat) (v : Int64) (h : a ≠ o) : gl (sl σ o k v) a = gl σ a := funext fun b => by rw [gl_sl]; simp [h]
theorem gi_sl_o (σ : St) (o a k : Nat) (v : Int64) : gi (sl σ o k v) a = gi σ a := rfl
theorem gl_si_o (σ : St) (o a k : Nat) (v : Int32) : gl (si σ o k v) a = gl σ a := rfl
/-- a number that stands for a reference: below 0 none -/
def dc (x : Int32) : Option Nat := if x < 0 then none else some x.toNatClampNeg
-- SHAPES: (0, class number), (1, n) int[n], (2, n) long[n], (3, n) boolean[n], (4, n) Case[n], (5, n) Rules[n], (6, n) Stage[n], (7, n) int[n][], (8, n) long[n][]
/-- the reference's: 0 itself, the array in field k is k -/
def shM (o : Nat) : Nat × Nat := match o with
  | 0 => (0, 7) | 1 => (1, 6) | 2 => (1, 6) | 3 => (1, 4) | 4 => (1, 24) | 5 => (1, 24) | 6 => (1, 24) | 7 => (3, 384)
  | 12 => (1, 100) | 13 => (1, 5) | 14 => (1, 30) | 15 => (1, 30) | 16 => (1, 30) | 17 => (1, 30) | 18 => (1, 30) | 19 => (1, 500) | 20 => (1, 101)
  | 27 => (1, 8) | 28 => (1, 8) | 29 => (1, 8) | 30 => (1, 8) | 31 => (1, 8) | 32 => (1, 8) | 33 => (1, 8) | 34 => (1, 8) | 35 => (1, 8) | 36 => (3, 8)
  | 37 => (3, 100) | 38 => (1, 14) | 39 => (1, 8) | 42 => (1, 8) | 43 => (1, 8) | 44 => (1, 8) | 46 => (1, 20) | 47 => (1, 6) | 48 => (1, 6) | 49 => (2, 360) | 50 => (2, 60)
  | _ => (9, 0)
/-- the class's: 100 itself, what its field k holds is 101 + k; texts' bytes 120, traced 121, tapes 130 + t, rules 140 + r with arrays 150 + 10 r + field; rolls 108, 109 with 200 + .. and 300 + ..: arrays by fields, stages 10 + i, their days 20 + i; cases 400 + 10 k, surely 401 + 10 k, its rows 402 + 10 k + w -/
def shC (o : Nat) : Nat × Nat :=
  if o < 200 then
    if o < 130 then
      (match o with
      | 100 => (0, 6) | 101 => (1, 5) | 102 => (1, 5) | 103 => (4, 4) | 105 => (0, 5) | 106 => (5, 5) | 108 => (0, 2) | 109 => (0, 2) | 110 => (0, 0)
      | 111 => (1, 6) | 112 => (1, 6) | 113 => (8, 6) | 120 => (1, 100) | 121 => (1, 20) | _ => (9, 0))
    else if o < 136 then (2, 60) else if o < 140 then (9, 0) else if o < 145 then (0, 3) else if o < 150 then (9, 0)
    else (match o % 10 with | 1 => (1, 6) | 2 => (1, 6) | 3 => (1, 6) | 5 => (1, 100) | _ => (9, 0))
  else if o < 400 then
    (if o % 100 = 2 then (6, 6) else if o % 100 = 3 then (1, 5) else if o % 100 = 4 then (1, 8) else if o % 100 < 10 then (9, 0) else if o % 100 < 16 then (0, 4) else if o % 100 < 20 then (9, 0) else if o % 100 < 26 then (1, 2) else (9, 0))
  else if o < 440 then (match o % 10 with | 0 => (0, 1) | 1 => (7, 3) | 2 => (1, 5) | 3 => (1, 5) | 4 => (1, 5) | _ => (9, 0))
  else (9, 0)
def sh (o : Nat) : Nat × Nat := if o < 100 then shM o else shC o
/-- what a field, or a place of an array of references, holds for good -/
def rf (o k : Nat) : Nat :=
  if o < 100 then k
  else if o < 200 then
    if o = 100 then 101 + k else if o = 105 then 120 else if o = 106 then 140 + k else if o = 110 then 121 else if o = 113 then 130 + k
    else if o < 110 then (if k = 0 then 101 else if k = 1 then 102 else 200 + 100 * (o - 108) + k)
    else 150 + 10 * (o - 140) + k
  else if o < 400 then (if o % 100 = 2 then o + 8 + k else o + 10)
  else if o % 10 = 0 then o + 1 else o + 1 + k
/-- a field's kind: 0 an int, 1 a reference for good, 2 a reference that its number tells -/
def fk (c k : Nat) : Nat := match c with
  | 0 => if k = 1 then 1 else 0
  | 1 => k
  | 2 => if k < 5 then 1 else if k = 5 then 2 else 0
  | 3 => if k = 0 then 0 else if k = 4 then 0 else 1
  | 4 => if k = 7 then 1 else 0
  | 5 => if k = 0 then 1 else if k = 2 then 2 else 0
  | 6 => if k = 3 then 0 else if k = 6 then 0 else 1
  | _ => if k < 8 then (if k = 0 then 0 else 1) else if k < 12 then 0 else if k < 21 then 1 else if k < 27 then 0 else if k < 40 then 1 else if k < 42 then 0 else if k = 45 then 0 else 1
def fn (c : Nat) : Nat := match c with | 0 => 4 | 1 => 2 | 2 => 11 | 3 => 6 | 4 => 11 | 5 => 5 | 6 => 13 | _ => 51
def fv (ρ : Nat → Nat) (σ : St) (o c k : Nat) : Value := if fk c k = 0 then .int (gi σ o k) else if fk c k = 1 then .ref (ρ (rf o k)) else va_rf ((dc (gi σ o k)).map ρ)
def fl (ρ : Nat → Nat) (σ : St) (o c : Nat) : List Value := (List.range (fn c)).map (fv ρ σ o c)
def ac (ρ : Nat → Nat) (σ : St) (o t : Nat) : (Nat → Int32) ⊕ (Nat → Int64) ⊕ (Nat → UInt32) ⊕ (Nat → UInt64) ⊕ (Nat → Option Nat) :=
  if t = 1 ∨ t = 3 then .inl (gi σ o) else if t = 2 then .inr (.inl (gl σ o)) else if t = 4 then .inr (.inr (.inr (.inr fun j => (dc (gi σ o j)).map ρ))) else .inr (.inr (.inr (.inr fun j => some (ρ (rf o j)))))
def ce (ca : Nat → ClassId) (ρ : Nat → Nat) (σ : St) (o : Nat) : va_E := if (sh o).1 = 0 then .inr ((sh o).2, fl ρ σ o (sh o).2) else .inl (ca (sh o).1, (sh o).2, ac ρ σ o (sh o).1)
def wl (ids : List Nat) (ca : Nat → ClassId) (ρ : Nat → Nat) (σ : St) : va_W := ids.map fun o => (ρ o, ce ca ρ σ o)
/-- the types of the arrays, by the first number of a shape less 1 -/
def tl (ca : Nat → ClassId) : List (ClassId × FieldType) := [(ca 1, .int), (ca 2, .long), (ca 3, .boolean), (ca 4, .object RX1), (ca 5, .object RX3), (ca 6, .object RX4), (ca 7, .array .int), (ca 8, .array .long)]
theorem ce_obj {ca : Nat → ClassId} {ρ : Nat → Nat} {σ : St} {o c : Nat} (h : sh o = (0, c)) : ce ca ρ σ o = .inr (c, fl ρ σ o c) := by simp [ce, h]
theorem ce_arr {ca : Nat → ClassId} {ρ : Nat → Nat} {σ : St} {o t n : Nat} (h : sh o = (t + 1, n)) : ce ca ρ σ o = .inl (ca (t + 1), n, ac ρ σ o (t + 1)) := by simp [ce, h]
theorem fl_get (ρ : Nat → Nat) (σ : St) (o c k : Nat) (h : k < fn c) : (fl ρ σ o c)[k]? = some (fv ρ σ o c k) := by simp [fl, h]
theorem wl_get {ids : List Nat} (ca : Nat → ClassId) (ρ : Nat → Nat) (σ : St) {o : Nat} (h : o ∈ ids) : ∃ i : Nat, ids[i]? = some o ∧ (wl ids ca ρ σ)[i]? = some (ρ o, ce ca ρ σ o) := by
  obtain ⟨i, hi⟩ := List.getElem?_of_mem h
  exact ⟨i, hi, by simp [wl, hi]⟩
theorem map_set {α : Type} {ids : List Nat} (hn : ids.Nodup) {f g : Nat → α} {o i : Nat} {x : α} (hi : ids[i]? = some o) (he : x = g o) (hne : ∀ q, q ≠ o → g q = f q) : (ids.map f).set i x = ids.map g := by
  apply List.ext_getElem?
  intro j
  have hl := (List.getElem?_eq_some_iff.mp hi).1
  rw [List.getElem?_set]
  by_cases h : i = j
  · subst h
    have h1 : i < (ids.map f).length := by rw [List.length_map]; exact hl
    rw [if_pos rfl, if_pos h1, List.getElem?_map, hi, Option.map_some, he]
  · rw [if_neg h, List.getElem?_map, List.getElem?_map]
    cases hj : ids[j]? with
    | none => rfl
    | some q =>
      have hq : q ≠ o := by
        rintro rfl
        obtain ⟨h1, h2⟩ := List.getElem?_eq_some_iff.mp hi
        obtain ⟨h3, h4⟩ := List.getElem?_eq_some_iff.mp hj
        exact h ((List.getElem_inj (h₀ := h1) (h₁ := h3) hn).mp (h2.trans h4.symm))
      rw [Option.map_some, Option.map_some, hne q hq]
theorem wl_set {ids : List Nat} (hn : ids.Nodup) (ca : Nat → ClassId) (ρ : Nat → Nat) {σ σ' : St} {o i : Nat} {e : va_E} (hi : ids[i]? = some o) (he : e = ce ca ρ σ' o) (hne : ∀ q, q ≠ o → ce ca ρ σ' q = ce ca ρ σ q) : (wl ids ca ρ σ).set i (ρ o, e) = wl ids ca ρ σ' := by
  unfold wl
  exact map_set hn hi (by rw [he]) (fun q hq => by rw [hne q hq])
theorem ce_other {ca : Nat → ClassId} {ρ : Nat → Nat} {σ σ' : St} {q : Nat} (h1 : gi σ' q = gi σ q) (h2 : gl σ' q = gl σ q) : ce ca ρ σ' q = ce ca ρ σ q := by
  have e1 : ∀ c, fv ρ σ' q c = fv ρ σ q c := fun c => funext fun k => by rw [fv, fv, h1]
  have e2 : ∀ c, fl ρ σ' q c = fl ρ σ q c := fun c => by rw [fl, fl, e1]
  have e3 : ∀ t, ac ρ σ' q t = ac ρ σ q t := fun t => by rw [ac, ac, h1, h2]
  rw [ce, ce, e2, e3]
theorem ce_si {ca : Nat → ClassId} {ρ : Nat → Nat} {σ : St} {o k : Nat} {v : Int32} (q : Nat) (h : q ≠ o) : ce ca ρ (si σ o k v) q = ce ca ρ σ q := ce_other (gi_si_o σ k v h) (gl_si_o σ o q k v)
theorem ce_sl {ca : Nat → ClassId} {ρ : Nat → Nat} {σ : St} {o k : Nat} {v : Int64} (q : Nat) (h : q ≠ o) : ce ca ρ (sl σ o k v) q = ce ca ρ σ q := ce_other (gi_sl_o σ o q k v) (gl_sl_o σ k v h)
theorem fl_si {ρ : Nat → Nat} {σ : St} {o c k : Nat} {v : Int32} (h : k < fn c) : (fl ρ σ o c).set k (fv ρ (si σ o k v) o c k) = fl ρ (si σ o k v) o c := by
  apply List.ext_getElem?
  intro j
  rw [List.getElem?_set]
  by_cases hj : k = j
  · subst hj
    simp [fl, h]
  · rw [if_neg hj]
    by_cases hc : j < fn c
    · rw [fl_get _ _ _ _ _ hc, fl_get _ _ _ _ _ hc]
      simp only [fv, gi_ne_k σ o o v (Ne.symm hj)]
    · simp [fl, hc]
