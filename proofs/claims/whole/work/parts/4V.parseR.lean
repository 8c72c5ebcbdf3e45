/-! PURE: the reference's reader: its state, one sign, numbers, the pile of what waits -/
/-- a byte of the reference's text -/
def sx (b : Nat) : Int32 := Int8.toInt32 (Int32.toInt8 (nI b))
def nxR (r : List Nat) : Int32 := match r with | [] => -1 | b :: _ => sx b
theorem sx_c : ∀ c, c < 128 → ∀ b, b < 256 → (sx b = nI c ↔ b = c) := by
  intro c hc b hb
  rw [eq_comm, sx, b8_ch c hc b hb, nI_eq (by omega) (by omega), eq_comm]
theorem sx_1 : ∀ b, b < 128 → sx b = nI b := fun b hb => (sx_c b hb b (by omega)).mpr rfl
def MT (τ : St) (bs : List Nat) : Prop := gi τ 0 9 = nI bs.length ∧ bs.length ≤ 100 ∧ ∀ (i b : Nat), bs[i]? = some b → gi τ 12 i = sx b ∧ b < 256
/-- where the reference's reader stands, and the steps that it made -/
def MO (τ : St) (bs : List Nat) (rr : Nat) (r : List Nat) (o : List Int32) : Prop :=
  MT τ bs ∧ rr < 5 ∧ (∃ u, bs = u ++ r) ∧ gi τ 0 10 = nI (bs.length - r.length) ∧ gi τ 0 21 = nI (100 * rr + o.length) ∧ (∀ (i : Nat) t, o[i]? = some t → gi τ 19 (100 * rr + i) = trR t) ∧ o.length + r.length ≤ bs.length
def opS (stk : List Nat) : Nat := stk.countP (fun c => decide (c = 33) || decide (c = 40))
/-- .. and what waits, the latest first -/
def MS (τ : St) (bs : List Nat) (rr : Nat) (r stk : List Nat) (o : List Int32) : Prop :=
  MO τ bs rr r o ∧ gi τ 0 22 = nI stk.length ∧ (∀ i c : Nat, stk.reverse[i]? = some c → gi τ 20 i = nI c ∧ c < 128) ∧ gi τ 0 23 = nI (opS stk) ∧ o.length + stk.length + r.length ≤ bs.length
/-- what reading clause c (of all) writes -/
def frQ (rr c : Nat) (τ τ' : St) : Prop := (∀ x k, ¬ (x = 0 ∧ (k = 10 ∨ k = 11 ∨ (21 ≤ k ∧ k ≤ 23))) → ¬ (14 ≤ x ∧ x ≤ 18 ∧ k = c) → ¬ (x = 19 ∧ 100 * rr ≤ k ∧ k < 100 * rr + 100) → x ≠ 20 → gi τ' x k = gi τ x k) ∧ ∀ x, gl τ' x = gl τ x
/-- .. all but the clause's own numbers -/
def frE (rr : Nat) (τ τ' : St) : Prop := (∀ x k, ¬ (x = 0 ∧ (k = 10 ∨ k = 11 ∨ (21 ≤ k ∧ k ≤ 23))) → ¬ (x = 19 ∧ 100 * rr ≤ k ∧ k < 100 * rr + 100) → x ≠ 20 → gi τ' x k = gi τ x k) ∧ ∀ x, gl τ' x = gl τ x
theorem frQ.rf (rr c : Nat) (τ : St) : frQ rr c τ τ := ⟨fun _ _ _ _ _ _ => rfl, fun _ => rfl⟩
theorem frQ.tr {rr c : Nat} {x y z : St} (h : frQ rr c x y) (h2 : frQ rr c y z) : frQ rr c x z := ⟨fun a k e1 e2 e3 e4 => (h2.1 a k e1 e2 e3 e4).trans (h.1 a k e1 e2 e3 e4), fun a => (h2.2 a).trans (h.2 a)⟩
theorem frE.rf (rr : Nat) (τ : St) : frE rr τ τ := ⟨fun _ _ _ _ _ => rfl, fun _ => rfl⟩
theorem frE.tr {rr : Nat} {x y z : St} (h : frE rr x y) (h2 : frE rr y z) : frE rr x z := ⟨fun a k e1 e2 e3 => (h2.1 a k e1 e2 e3).trans (h.1 a k e1 e2 e3), fun a => (h2.2 a).trans (h.2 a)⟩
theorem frE.Q {rr : Nat} {x y : St} (h : frE rr x y) (c : Nat) : frQ rr c x y := ⟨fun a k e1 _ e3 e4 => h.1 a k e1 e3 e4, h.2⟩
theorem frE.si {rr : Nat} {a b : St} (h : frE rr a b) {x k : Nat} (v : Int32) (hx : (x = 0 ∧ (k = 10 ∨ k = 11 ∨ (21 ≤ k ∧ k ≤ 23))) ∨ (x = 19 ∧ 100 * rr ≤ k ∧ k < 100 * rr + 100) ∨ x = 20) : frE rr a (si b x k v) := ⟨fun y j e1 e2 e3 => by
  rw [gi_si, if_neg (fun z => by omega)]; exact h.1 y j e1 e2 e3, h.2⟩
theorem frQ.si {rr c : Nat} {a b : St} (h : frQ rr c a b) {x k : Nat} (v : Int32) (hx : (x = 0 ∧ (k = 10 ∨ k = 11 ∨ (21 ≤ k ∧ k ≤ 23))) ∨ (14 ≤ x ∧ x ≤ 18 ∧ k = c) ∨ (x = 19 ∧ 100 * rr ≤ k ∧ k < 100 * rr + 100) ∨ x = 20) : frQ rr c a (si b x k v) := ⟨fun y j e1 e2 e3 e4 => by
  rw [gi_si, if_neg (fun z => by omega)]; exact h.1 y j e1 e2 e3 e4, h.2⟩
theorem MT_frE {rr : Nat} {τ τ' : St} {bs : List Nat} (h : MT τ bs) (f : frE rr τ τ') : MT τ' bs :=
  ⟨by rw [f.1 0 9 (by omega) (by omega) (by omega)]; exact h.1, h.2.1, fun i b hb => by rw [f.1 12 i (by omega) (by omega) (by omega)]; exact h.2.2 i b hb⟩
theorem MO.le {τ : St} {bs : List Nat} {rr : Nat} {r : List Nat} {o : List Int32} (h : MO τ bs rr r o) : r.length ≤ bs.length ∧ bs.length ≤ 100 := ⟨by have := h.2.2.2.2.2.2; omega, h.1.2.1⟩
theorem MO.byte {τ : St} {bs : List Nat} {rr c : Nat} {r : List Nat} {o : List Int32} (h : MO τ bs rr (c :: r) o) : gi τ 12 (bs.length - (r.length + 1)) = sx c ∧ c < 256 ∧ r.length + 1 ≤ bs.length := by
  obtain ⟨hT, -, ⟨u, hu⟩, -⟩ := h
  have hl := congrArg List.length hu
  rw [List.length_append, List.length_cons] at hl
  have e1 : bs.length - (r.length + 1) = u.length := by omega
  have hb : bs[u.length]? = some c := by rw [hu, List.getElem?_append_right (Nat.le_refl _), Nat.sub_self]; rfl
  rw [e1]
  exact ⟨(hT.2.2 _ _ hb).1, (hT.2.2 _ _ hb).2, by omega⟩
section RP
variable {rr : Nat} {bs : List Nat} {τ : St} {r : List Nat} {o : List Int32}
/-- a change that leaves what MO tells, but for the place -/
theorem MO.put {τ' : St} (h : MO τ bs rr r o) (e : ∀ x k, ¬ (x = 0 ∧ (k = 11 ∨ k = 22 ∨ k = 23)) → ¬ (14 ≤ x ∧ x ≤ 18) → x ≠ 20 → x ≠ 13 → gi τ' x k = gi τ x k) : MO τ' bs rr r o := by
  obtain ⟨⟨t1, t2, t3⟩, h1, h2, h3, h4, h5, h6⟩ := h
  exact ⟨⟨by rw [e 0 9 (by omega) (by omega) (by omega) (by omega)]; exact t1, t2, fun i b hb => by rw [e 12 i (by omega) (by omega) (by omega) (by omega)]; exact t3 i b hb⟩, h1, h2, by rw [e 0 10 (by omega) (by omega) (by omega) (by omega)]; exact h3, by rw [e 0 21 (by omega) (by omega) (by omega) (by omega)]; exact h4, fun i t ht => by rw [e 19 _ (by omega) (by omega) (by omega) (by omega)]; exact h5 i t ht, h6⟩
theorem MO.adv {c : Nat} (h : MO τ bs rr (c :: r) o) {τ' : St} (e : τ' = si τ 0 10 (gi τ 0 10 + 1)) : MO τ' bs rr r o ∧ frE rr τ τ' ∧ o.length + r.length + 1 ≤ bs.length := by
  have hle := h.le
  obtain ⟨hT, h1, ⟨u, hu⟩, h3, h4, h5, h6⟩ := h
  subst e
  have fr : frE rr τ (si τ 0 10 (gi τ 0 10 + 1)) := (frE.rf rr τ).si _ (by omega)
  rw [List.length_cons] at h3 h6 hle
  refine ⟨⟨MT_frE hT fr, h1, ⟨u ++ [c], by rw [hu, List.append_assoc]; rfl⟩, ?_, by rw [gi_ne_k _ _ _ _ (by decide)]; exact h4, fun i t ht => by rw [gi_ne_o _ _ _ _ (by decide)]; exact h5 i t ht, by omega⟩, fr, by omega⟩
  rw [gi_same, h3, nI_1]
  congr 1; omega
theorem r_next {d : Nat} {Q : Int32 → St → Prop} (hM : MO τ bs rr r o) (h : Q (nxR r) τ) : EI (d + 1) idsR Y_X7_next [.ref 0] τ Q := by
  have hle := hM.le
  refine fl_X7_next hR ?_
  rw [hM.1.1, hM.2.2.2.1]
  cases r with
  | nil => exact ⟨fun _ => h, fun z => absurd (nI_le (by show bs.length ≤ bs.length - 0; omega) (by omega)) z⟩
  | cons b r =>
    obtain ⟨b1, b2, b3⟩ := hM.byte
    rw [List.length_cons]
    refine ⟨fun z => absurd ((nI_leI (by omega) (by omega)).mp z) (by omega), fun _ => ⟨vp_in_nI (by omega) (by decide), ?_⟩⟩
    rw [cl_ix _ (by omega), rf0, b1]
    exact h
theorem nx_hd {c : Nat} (hc : c < 128) (hM : MO τ bs rr r o) : nxR r = nI c ↔ r.head? = some c := by
  cases r with
  | nil => exact ⟨fun z => absurd (show (-1 : Int32) = nI c from z) (fun y => by
      have := nI_pos (n := c) (by omega)
      rw [← y] at this
      exact this (by decide)), fun z => by cases z⟩
  | cons b r =>
    obtain ⟨b1, b2, b3⟩ := hM.byte
    exact (sx_c c hc b b2).trans ⟨fun z => congrArg some z, fun z => Option.some.inj z⟩
theorem r_takes {d c : Nat} {Q : Int32 → St → Prop} (hc : c < 128) (hM : MO τ bs rr r o) (h1 : r.head? = some c → ∀ τ', MO τ' bs rr r.tail o → frE rr τ τ' → τ' = si τ 0 10 (gi τ 0 10 + 1) → Q 1 τ') (h0 : ¬ r.head? = some c → Q 0 τ) : EI (d + 2) idsR Y_X7_takes [.ref 0, .int (nI c)] τ Q := by
  refine fl_X7_takes hR (r_next hM ⟨fun z s4 e4 => ?_, fun z => h0 (fun y => z ((nx_hd hc hM).mpr y))⟩)
  have hh := (nx_hd hc hM).mp z
  have e := head_tail hh
  rw [e] at hM
  obtain ⟨a1, a2, -⟩ := hM.adv e4
  exact h1 hh s4 a1 a2 e4
theorem MO.step {t u : Int32} (h : MO τ bs rr r o) (hl : o.length + r.length + 1 ≤ bs.length) (ht : t = trR u) {s2 s3 : St} (e2 : s2 = si τ 19 (100 * rr + o.length) t) (e3 : s3 = si s2 0 21 (nI (100 * rr + o.length) + 1)) : MO s3 bs rr r (o ++ [u]) ∧ frE rr τ s3 ∧ (∀ x k, ¬ (x = 0 ∧ k = 21) → x ≠ 19 → gi s3 x k = gi τ x k) := by
  have hle := h.le
  obtain ⟨hT, h1, h2, h3, h4, h5, h6⟩ := h
  have fr : frE rr τ s3 := by rw [e3, e2]; exact ((frE.rf rr τ).si _ (by omega)).si _ (by omega)
  have out : ∀ x k, ¬ (x = 0 ∧ k = 21) → x ≠ 19 → gi s3 x k = gi τ x k := by
    intro x k a1 a2
    rw [e3, gi_si, if_neg a1, e2, gi_ne_o _ _ _ _ a2]
  refine ⟨⟨MT_frE hT fr, h1, h2, by rw [out 0 10 (by omega) (by omega)]; exact h3, ?_, fun i t' hi => ?_, ?_⟩, fr, out⟩
  · rw [e3, gi_same, nI_1, List.length_append]; rfl
  · rw [e3, gi_ne_o _ _ _ _ (by decide), e2, gi_si]
    by_cases hi2 : i < o.length
    · rw [if_neg (by omega)]
      rw [List.getElem?_append_left hi2] at hi
      exact h5 i t' hi
    · have hi3 : i = o.length := by
        have := (List.getElem?_eq_some_iff.mp hi).1
        rw [List.length_append, List.length_singleton] at this
        omega
      subst hi3
      rw [List.getElem?_append_right (Nat.le_refl _), Nat.sub_self] at hi
      have hi : some u = some t' := hi
      cases hi
      rw [if_pos ⟨rfl, rfl⟩]
      exact ht
  · rw [List.length_append, List.length_singleton]; omega
theorem r_put {d : Nat} {t u : Int32} {Q : St → Prop} (h : MO τ bs rr r o) (hl : o.length + r.length + 1 ≤ bs.length) (ht : t = trR u) (k : ∀ τ', MO τ' bs rr r (o ++ [u]) → frE rr τ τ' → (∀ x k, ¬ (x = 0 ∧ k = 21) → x ≠ 19 → gi τ' x k = gi τ x k) → Q τ') : EV (d + 1) idsR Y_X7_put_ [.ref 0, .int t] τ Q := by
  refine fl_X7_put_ hR ?_
  have hle := h.le
  have h4 := h.2.2.2.2.1
  have hr := h.2.1
  rw [h4]
  refine ⟨vp_in_nI (by omega) (by decide), fun s2 e2 s3 e3 => ?_⟩
  rw [rf0, cl_ix _ (by omega)] at e2
  have : gi s2 0 21 = nI (100 * rr + o.length) := by rw [e2, gi_ne_o _ _ _ _ (by decide)]; exact h4
  rw [this] at e3
  obtain ⟨a1, a2, a3⟩ := h.step hl ht e2 e3
  exact k s3 a1 a2 a3
end RP
