/-! PURE: tapes: items, reading, shifting; how both hold the tapes -/
def RTp (σ τ : St) : Prop := ∀ t : Nat, t < 6 → gi σ 111 t = gi τ 47 t ∧ gi σ 112 t = gi τ 48 t ∧ (∃ n : Nat, n ≤ 60 ∧ gi τ 48 t = nI n) ∧ (-1 ≤ gi τ 47 t ∧ gi τ 47 t ≤ 4) ∧ ∀ i : Nat, i < 60 → gl σ (130 + t) i = gl τ 49 (60 * t + i)
theorem rf100_12 {t : Nat} : rf (rf 100 12) t = 130 + t := rfl
theorem rf100_10 : rf 100 10 = 111 := rfl
theorem rf100_11 : rf 100 11 = 112 := rfl
/-- what an item of a sort becomes of v -/
def tpIt (s : Int32) (v : Int64) : Int64 := if s = 0 then Int32.toInt64 (Int8.toInt32 (Int32.toInt8 (Int64.toInt32 v))) else if s = 1 then Int32.toInt64 (Int16.toInt32 (Int32.toInt16 (Int64.toInt32 v))) else if s = 2 then Int32.toInt64 (Int64.toInt32 v) else if s = 4 then (if lg_cmp v 0 = 0 then 0 else 1) else v
theorem kR_narrow {d : Nat} {τ : St} {Q : Int64 → St → Prop} {s : Int32} {v : Int64} (h : Q (tpIt s v) τ) : EL (d + 1) idsR Y_X7_narrow [.ref 0, .int s, .long v] τ Q := by
  refine fl_X7_narrow hR ⟨fun c0 => ⟨fun c1 => ⟨fun c2 => ⟨fun c4 => ?_, fun c4 => ⟨fun c5 => ?_, fun c5 => ?_⟩⟩, fun c2 => ?_⟩, fun c1 => ?_⟩, fun c0 => ?_⟩
  · rwa [tpIt, if_neg c0, if_neg c1, if_neg c2, if_neg c4] at h
  · rwa [tpIt, if_neg c0, if_neg c1, if_neg c2, if_pos c4, if_pos c5] at h
  · rwa [tpIt, if_neg c0, if_neg c1, if_neg c2, if_pos c4, if_neg c5] at h
  · rwa [tpIt, if_neg c0, if_neg c1, if_pos c2] at h
  · rwa [tpIt, if_neg c0, if_pos c1] at h
  · rwa [tpIt, if_pos c0] at h
theorem kC_asItem {d : Nat} {ids : List Nat} {σ : St} {Q : Int64 → St → Prop} {s : Int32} {v : Int64} (h0 : 0 ≤ s) (h5 : s ≤ 4) (h : Q (tpIt s v) σ) : EL (d + 1) ids Y_X6_asItem [.int s, .long v] σ Q := by
  obtain ⟨n, hn, rfl⟩ := rng (n := 4) (by decide) h0 h5
  refine fl_X6_asItem ⟨fun c0 => ?_, fun c1 => ?_, fun c2 => ?_, fun c3 => ?_, fun c0 c1 c2 c3 => ?_⟩
  · rwa [tpIt, if_pos c0] at h
  · rw [c1] at h; exact h
  · rw [c2] at h; exact h
  · rw [c3] at h; exact h
  · have h4 : nI n = 4 := by
      rcases (by omega : n = 0 ∨ n = 1 ∨ n = 2 ∨ n = 3 ∨ n = 4) with rfl | rfl | rfl | rfl | rfl
      · exact absurd rfl c0
      · exact absurd rfl c1
      · exact absurd rfl c2
      · exact absurd rfl c3
      · rfl
    rw [tpIt, if_neg c0, if_neg c1, if_neg c2, if_pos h4] at h
    exact ⟨fun c5 => by rwa [if_pos c5] at h, fun c5 => by rwa [if_neg c5] at h⟩
/-- a place of a row of n -/
theorem in_row {a : Int32} {n : Nat} (hn : n ≤ 60) : (0 ≤ a ∧ a ≤ nI n - 1) ↔ (¬ a < 0 ∧ a < nI n) := by
  rcases Nat.eq_zero_or_pos n with rfl | hp
  · have e : nI 0 - 1 = -1 := rfl
    rw [e, nlt]
    constructor
    · rintro ⟨h, h2⟩
      have := Int32.le_trans h h2
      exact absurd this (by decide)
    · rintro ⟨h, h2⟩
      exact absurd h2 (nlt.mpr h)
  · obtain ⟨m, rfl⟩ : ∃ m, n = m + 1 := ⟨n - 1, by omega⟩
    rw [nI_pred, nlt]
    refine and_congr_right (fun _ => ?_)
    rw [i32_le, i32_lt, nI_toInt (by omega), nI_toInt (by omega)]
    omega
theorem s_item {d nc : Nat} (hn : nc < 5) {σ τ : St} {a0 a1 : Int32} {a2 : Int64} (h : RTp σ τ) {Q : Int32 → St → Int32 → St → Prop}
    (h1 : ∀ x, Q x σ x τ) (h2 : ∀ (t i : Nat) v, t < 6 → i < 60 → Q 1 (sl σ (130 + t) i v) 1 (sl τ 49 (60 * t + i) v)) :
    EI (d + 2) (idsC nc) Y_X6_item [.ref 100, .int a0, .int a1, .long a2] σ (fun x σ' => EI (d + 3) idsR Y_X7_item [.ref 0, .int a0, .int a1, .long a2] τ (fun y τ' => Q x σ' y τ')) := by
  refine fl_X6_item (hB hn (by decide) rfl) ?_
  by_cases v0 : Tp a0
  · obtain ⟨t, ht, rfl⟩ := tp_of v0
    have hin : vp_in (nI t) 6 := vp_in_nI ht (by decide)
    obtain ⟨e1, e2, ⟨n, hn60, e3⟩, ⟨s1, s2⟩, -⟩ := h t ht
    rw [rf100_10, rf100_11, rf100_12]
    have ref : ∀ x σ', (¬ (0 ≤ gi τ 47 t) → Q x σ' (-11) τ) → ((0 ≤ gi τ 47 t) → ¬ (¬ a1 < 0 ∧ a1 < nI n) → Q x σ' (-13) τ) → ((0 ≤ gi τ 47 t) → ∀ i : Nat, i < n → a1 = nI i → Q x σ' 1 (sl τ 49 (60 * t + i) (tpIt (gi τ 47 t) a2))) → EI (d + 3) idsR Y_X7_item [.ref 0, .int (nI t), .int a1, .long a2] τ (fun y τ' => Q x σ' y τ') := by
      intro x σ' k1 k2 k3
      refine fl_X7_item hR (kR_isTape ⟨fun _ => ⟨hin, ?_⟩, fun c => absurd v0 (bI_0.mp c)⟩)
      rw [rf0, rf0, rf0, cl_ix t (by omega)]
      refine ⟨fun c => ⟨hin, kR_in (d := d + 1) ?_⟩, fun c => k1 c⟩
      rw [e3]
      refine ⟨fun c2 => ⟨hin, ?_⟩, fun c2 => k2 c (fun z => bI_0.mp c2 ((in_row hn60).mpr z))⟩
      have v2 := (in_row hn60).mp (bI_n.mp c2)
      obtain ⟨i, hi, rfl⟩ := nI_of v2.1
      have hi2 : i < n := (nI_ltI hi (by omega)).mp v2.2
      refine kR_narrow ?_
      rw [tp_ix ht (by omega)]
      refine ⟨vp_in_nI (by omega) (by decide), fun s es => ?_⟩
      rw [cl_ix _ (by omega)] at es
      subst es
      exact k3 c i hi2 rfl
    refine kC_isTape ⟨fun _ => ⟨hin, ?_⟩, fun c => absurd v0 (bI_0.mp c)⟩
    rw [cl_ix t (by omega), e1, e2, e3]
    refine ⟨fun c => ⟨fun c2 => ?_, fun c2 => ⟨hin, fun c3 => ⟨hin, hin, ?_⟩, fun c3 => ?_⟩⟩, fun c => ?_⟩
    · exact ref _ _ (fun q => absurd c q) (fun _ _ => h1 _) (fun _ i hi e => absurd c2 (by rw [e]; exact nI_pos (by omega)))
    · obtain ⟨i, hi, rfl⟩ := nI_of c2
      have hi2 : i < n := (nI_ltI hi (by omega)).mp c3
      refine kC_asItem c s2 ⟨vp_in_nI (by omega) (by decide), fun s es => ?_⟩
      rw [cl_ix i (by omega)] at es
      subst es
      exact ref _ _ (fun q => absurd c q) (fun _ q => absurd ⟨c2, c3⟩ q) (fun _ j hj e => by
        have : i = j := (nI_eq (by omega) (by omega)).mp e
        subst this
        exact h2 t i _ ht (by omega))
    · exact ref _ _ (fun q => absurd c q) (fun _ _ => h1 _) (fun _ i hi e => absurd (by rw [e]; exact nI_lt hi (by omega)) c3)
    · exact ref _ _ (fun _ => h1 _) (fun q => absurd q c) (fun q => absurd q c)
  · refine kC_isTape ⟨fun c => absurd (bI_n.mp c) v0, fun _ => ?_⟩
    refine fl_X7_item hR (kR_isTape ⟨fun c => absurd (bI_n.mp c) v0, fun _ => h1 _⟩)
theorem s_read {d nc : Nat} (hn : nc < 5) {σ τ : St} {a0 a1 : Int32} (h : RTp σ τ) {Q : Int64 → St → Int64 → St → Prop}
    (h1 : ∀ x, Q x σ x τ) :
    EL (d + 2) (idsC nc) Y_X6_read [.ref 100, .int a0, .int a1] σ (fun x σ' => EL (d + 3) idsR Y_X7_read [.ref 0, .int a0, .int a1] τ (fun y τ' => Q x σ' y τ')) := by
  refine fl_X6_read (hB hn (by decide) rfl) (fun P30 H30 => ?_)
  by_cases v0 : Tp a0
  · obtain ⟨t, ht, rfl⟩ := tp_of v0
    have hin : vp_in (nI t) 6 := vp_in_nI ht (by decide)
    obtain ⟨e1, e2, ⟨n, hn60, e3⟩, -, e5⟩ := h t ht
    rw [rf100_10, rf100_11, rf100_12]
    have ref : ∀ x σ', (gi τ 47 t < 0 → Q x σ' (-9223372036854775808) τ) → (¬ (gi τ 47 t < 0) → ¬ (¬ a1 < 0 ∧ a1 < nI n) → Q x σ' (-9223372036854775808) τ) → (¬ (gi τ 47 t < 0) → ∀ i : Nat, i < n → a1 = nI i → Q x σ' (gl τ 49 (60 * t + i)) τ) → EL (d + 3) idsR Y_X7_read [.ref 0, .int (nI t), .int a1] τ (fun y τ' => Q x σ' y τ') := by
      intro x σ' k1 k2 k3
      refine fl_X7_read hR (fun P34 H34 => kR_isTape ⟨fun c => absurd v0 (bI_0.mp c), fun _ => ⟨hin, ?_⟩⟩)
      rw [rf0, rf0, rf0, cl_ix t (by omega)]
      refine ⟨fun c => H34 _ (k1 c), fun c => ⟨hin, kR_in (d := d + 1) ?_⟩⟩
      rw [e3]
      refine ⟨fun c2 => ?_, fun c2 => H34 _ (k2 c (fun z => bI_0.mp c2 ((in_row hn60).mpr z)))⟩
      have v2 := (in_row hn60).mp (bI_n.mp c2)
      obtain ⟨i, hi, rfl⟩ := nI_of v2.1
      have hi2 : i < n := (nI_ltI hi (by omega)).mp v2.2
      rw [tp_ix ht (by omega), cl_ix _ (by omega)]
      exact ⟨vp_in_nI (by omega) (by decide), k3 c i hi2 rfl⟩
    refine kC_isTape ⟨fun c => absurd v0 (bI_0.mp c), fun _ => ⟨hin, ?_⟩⟩
    rw [cl_ix t (by omega), e1, e2, e3]
    refine ⟨fun c => H30 _ ?_, fun c => ⟨fun c2 => H30 _ ?_, fun c2 => ⟨hin, fun c3 => ⟨hin, ?_⟩, fun c3 => H30 _ ?_⟩⟩⟩
    · exact ref _ _ (fun _ => h1 _) (fun q => absurd c q) (fun q => absurd c q)
    · exact ref _ _ (fun q => absurd q c) (fun _ _ => h1 _) (fun _ i hi e => absurd c2 (by rw [e]; exact nI_pos (by omega)))
    · obtain ⟨i, hi, rfl⟩ := nI_of c2
      have hi2 : i < n := (nI_ltI hi (by omega)).mp c3
      refine ⟨vp_in_nI (by omega) (by decide), ?_⟩
      rw [cl_ix i (by omega), e5 i (by omega)]
      exact ref _ _ (fun q => absurd q c) (fun _ q => absurd ⟨c2, c3⟩ q) (fun _ j hj e => by
        have : i = j := (nI_eq (by omega) (by omega)).mp e
        subst this
        exact h1 _)
    · exact ref _ _ (fun q => absurd q c) (fun _ _ => h1 _) (fun _ i hi e => absurd (by rw [e]; exact nI_lt hi (by omega)) c3)
  · refine kC_isTape ⟨fun _ => H30 _ ?_, fun c => absurd (bI_n.mp c) v0⟩
    refine fl_X7_read hR (fun P34 H34 => kR_isTape ⟨fun _ => H34 _ (h1 _), fun c => absurd (bI_n.mp c) v0⟩)
theorem RTp_item {σ τ : St} (h : RTp σ τ) {t i : Nat} (v : Int64) (ht : t < 6) (hi : i < 60) : RTp (sl σ (130 + t) i v) (sl τ 49 (60 * t + i) v) := by
  intro u hu
  obtain ⟨e1, e2, e3, e4, e5⟩ := h u hu
  refine ⟨e1, e2, e3, e4, fun j hj => ?_⟩
  rw [gl_sl, gl_sl]
  by_cases hc : u = t ∧ j = i
  · rw [if_pos ⟨by omega, hc.2⟩, if_pos ⟨rfl, by omega⟩]
  · rw [if_neg (fun z => hc ⟨by omega, z.2⟩), if_neg (fun z => hc (by omega))]
    exact e5 j hj
