/-! PURE: the reference reads an E with its pile as it is read from the outside in -/
/-- what reading the steps of clause c writes, but for their beginning -/
def frF (rr c : Nat) (τ τ' : St) : Prop := (∀ x k, ¬ (x = 0 ∧ (k = 10 ∨ k = 11 ∨ (21 ≤ k ∧ k ≤ 23))) → ¬ (x = 18 ∧ k = c) → ¬ (x = 19 ∧ 100 * rr ≤ k ∧ k < 100 * rr + 100) → x ≠ 20 → gi τ' x k = gi τ x k) ∧ ∀ x, gl τ' x = gl τ x
theorem frF.rf (rr c : Nat) (τ : St) : frF rr c τ τ := ⟨fun _ _ _ _ _ _ => rfl, fun _ => rfl⟩
theorem frF.tr {rr c : Nat} {x y z : St} (h : frF rr c x y) (h2 : frF rr c y z) : frF rr c x z := ⟨fun a k e1 e2 e3 e4 => (h2.1 a k e1 e2 e3 e4).trans (h.1 a k e1 e2 e3 e4), fun a => (h2.2 a).trans (h.2 a)⟩
theorem frE.F {rr : Nat} {x y : St} (h : frE rr x y) (c : Nat) : frF rr c x y := ⟨fun a k e1 _ e3 e4 => h.1 a k e1 e3 e4, h.2⟩
theorem frF.Q {rr c : Nat} {x y : St} (h : frF rr c x y) : frQ rr c x y := ⟨fun a k e1 e2 e3 e4 => h.1 a k e1 (by omega) e3 e4, h.2⟩
theorem frF.si {rr c : Nat} {a b : St} (h : frF rr c a b) {x k : Nat} (v : Int32) (hx : (x = 0 ∧ (k = 10 ∨ k = 11 ∨ (21 ≤ k ∧ k ≤ 23))) ∨ (x = 18 ∧ k = c) ∨ (x = 19 ∧ 100 * rr ≤ k ∧ k < 100 * rr + 100) ∨ x = 20) : frF rr c a (si b x k v) := ⟨fun y j e1 e2 e3 e4 => by
  rw [gi_si, if_neg (fun z => by omega)]; exact h.1 y j e1 e2 e3 e4, h.2⟩
theorem opS_rep (n : Nat) (st : List Nat) : opS (List.replicate n 33 ++ st) = opS st + n := by
  induction n with
  | zero => rfl
  | succ n ih =>
    show opS (33 :: (List.replicate n 33 ++ st)) = _
    rw [opS_t _ (Or.inl rfl), ih]; rfl
theorem pz_pos {f m w : Nat} {r : List Nat} (hm : m ≤ 4) : (pz f m w r).2.1.length ≤ r.length := (sfR_pz f m w r hm).len
section RY
variable {rr : Nat} {bs : List Nat}
theorem MS.push {τ τ' : St} {r stk : List Nat} {o : List Int32} {b : Nat} (h : MS τ bs rr (b :: r) stk o) (hb : b < 128) (e10 : gi τ' 0 10 = gi τ 0 10 + 1) (e22 : gi τ' 0 22 = gi τ 0 22 + 1) (e23 : gi τ' 0 23 = nI (opS (b :: stk))) (e20 : gi τ' 20 stk.length = nI b)
    (e : ∀ x k, ¬ (x = 0 ∧ (k = 10 ∨ k = 22 ∨ k = 23)) → ¬ (x = 20 ∧ k = stk.length) → gi τ' x k = gi τ x k) (el : ∀ x, gl τ' x = gl τ x) : MS τ' bs rr r (b :: stk) o ∧ frE rr τ τ' := by
  obtain ⟨a1, a2, a3⟩ := h.1.adv rfl
  have hM : MO τ' bs rr r o := a1.put (fun x k b1 b2 b3 b4 => by
    by_cases hz : x = 0 ∧ k = 10
    · obtain ⟨rfl, rfl⟩ := hz
      rw [e10, gi_same]
    · rw [gi_si, if_neg hz, e x k (by omega) (by omega)])
  refine ⟨⟨hM, by rw [e22, h.2.1, nI_1]; rfl, fun i c hc => ?_, e23, ?_⟩, ⟨fun x k c1 c2 c3 => e x k (by omega) (by omega), el⟩⟩
  · rw [List.reverse_cons] at hc
    by_cases hi : i < stk.length
    · rw [List.getElem?_append_left (by rw [List.length_reverse]; exact hi)] at hc
      rw [e 20 i (by omega) (by omega)]
      exact h.2.2.1 i c hc
    · have hi2 : i = stk.length := by
        have := (List.getElem?_eq_some_iff.mp hc).1
        rw [List.length_append, List.length_singleton, List.length_reverse] at this
        omega
      subst hi2
      rw [List.getElem?_append_right (by rw [List.length_reverse]; exact Nat.le_refl _), List.length_reverse, Nat.sub_self] at hc
      have hc : some b = some c := hc
      cases hc
      exact ⟨e20, hb⟩
  · have := h.2.2.2.2
    rw [List.length_cons] at this ⊢
    omega
theorem r_takesE {d c : Nat} {τ : St} {r : List Nat} {o : List Int32} {Q : Int32 → St → Prop} (hc : c < 30) (hM : MO τ bs rr r o)
    (h1 : (pz FU 0 0 r).1 = true → ∀ τ', MO τ' bs rr (pz FU 0 0 r).2.1 (o ++ (pz FU 0 0 r).2.2) → frQ rr c τ τ' → gi τ' 17 c = nI (100 * rr + o.length) → gi τ' 18 c = nI (100 * rr + (o ++ (pz FU 0 0 r).2.2).length) → (∀ x, 14 ≤ x → x ≤ 16 → gi τ' x c = gi τ x c) → Q 1 τ')
    (h0 : (pz FU 0 0 r).1 = false → ∀ τ', gi τ' 0 10 = nI (bs.length - (pz FU 0 0 r).2.1.length) → frQ rr c τ τ' → Q 0 τ') : EI (d + 5) idsR Y_X7_takesE [.ref 0, .int (nI c)] τ Q := by
  refine fl_X7_takesE hR (fun P22 P43 P122 H22 H43 H122 s31 e31 s32 e32 => ?_)
  have hle0 := hM.le
  have hr5 := hM.2.1
  refine ⟨vp_in_nI hc (by decide), fun s34 e34 => ?_⟩
  rw [cl_ix c (by omega)] at e34 H22
  simp only [rf0] at H22 H43 H122 e34
  -- the start
  have h21 : gi s32 0 21 = nI (100 * rr + o.length) := by rw [e32, gi_ne_k _ _ _ _ (by decide), e31, gi_ne_k _ _ _ _ (by decide)]; exact hM.2.2.2.2.1
  rw [h21] at e34
  have out34 : ∀ x k, ¬ (x = 0 ∧ (k = 22 ∨ k = 23)) → ¬ (x = 17 ∧ k = c) → gi s34 x k = gi τ x k := by
    intro x k b1 b2
    rw [e34, gi_si, if_neg (by omega), e32, gi_si, if_neg (by omega), e31, gi_si, if_neg (by omega)]
  have g17 : gi s34 17 c = nI (100 * rr + o.length) := by rw [e34, gi_same]
  have hM34 : MO s34 bs rr r o := hM.put (fun x k b1 b2 b3 b4 => out34 x k (by omega) (by omega))
  have hS34 : MS s34 bs rr r [] o := ⟨hM34, by rw [e34, gi_ne_o _ _ _ _ (by decide), e32, gi_ne_k _ _ _ _ (by decide), e31, gi_same]; rfl, fun i b hb => (by cases hb), by rw [e34, gi_ne_o _ _ _ _ (by decide), e32, gi_same]; rfl, by have := hM.2.2.2.2.2.2; show o.length + 0 + r.length ≤ bs.length; omega⟩
  have fQ34 : frQ rr c τ s34 := ⟨fun x k b1 b2 b3 b4 => out34 x k (by omega) (by omega), fun x => by rw [e34, gl_si_o, e32, gl_si_o, e31, gl_si_o]⟩
  generalize hx0 : pz FU 0 0 r = x0 at h1 h0
  -- what fails
  have bad : x0.1 = false → ∀ τ2, gi τ2 0 10 = nI (bs.length - x0.2.1.length) → frF rr c s34 τ2 → Q 0 τ2 := fun z τ2 a1 a2 => h0 z τ2 a1 (fQ34.tr a2.Q)
  -- one waits
  have push43 : ∀ (b : Nat) (r1 stk : List Nat) (o1 : List Int32) (τ1 : St), (b = 33 ∨ b = 40) → MS τ1 bs rr (b :: r1) stk o1 → opS stk ≤ 4 → (opS stk = 4 → Q 0 τ1) → (opS stk < 4 → ∀ τ2, MS τ2 bs rr r1 (b :: stk) o1 → frE rr τ1 τ2 → P22 1 τ2) → P43 1 (nI b) τ1 := by
    intro b r1 stk o1 τ1 hb q1 q2 q3 q4
    have hlen := q1.len
    rw [List.length_cons] at hlen
    refine H43 _ _ _ ?_
    rw [q1.2.2.2.1]
    refine ⟨fun z s21 e21 => ?_, fun z => q3 ((nI_eq (b := 4) (by omega) (by decide)).mp z)⟩
    have hlt : opS stk < 4 := by
      have : opS stk ≠ 4 := fun y => z (by rw [y]; rfl)
      omega
    have g22 : gi s21 0 22 = nI stk.length := by rw [e21, gi_ne_k _ _ _ _ (by decide)]; exact q1.2.1
    rw [g22]
    refine ⟨vp_in_nI (by omega) (by decide), fun s23 e23 s24 e24 s25 e25 => ?_⟩
    rw [cl_ix _ (by omega)] at e23
    have g22' : gi s23 0 22 = nI stk.length := by rw [e23, gi_ne_o _ _ _ _ (by decide)]; exact g22
    rw [g22', nI_1] at e24
    obtain ⟨p1, p2⟩ := q1.push (τ' := s25) (by omega) (by rw [e25, gi_same, e24, gi_ne_k _ _ _ _ (by decide), e23, gi_ne_o _ _ _ _ (by decide), e21, gi_ne_k _ _ _ _ (by decide)])
      (by rw [e25, gi_ne_k _ _ _ _ (by decide), e24, gi_same, q1.2.1, nI_1]) (by rw [opS_t _ hb, e25, gi_ne_k _ _ _ _ (by decide), e24, gi_ne_k _ _ _ _ (by decide), e23, gi_ne_o _ _ _ _ (by decide), e21, gi_same, nI_1])
      (by rw [e25, gi_ne_o _ _ _ _ (by decide), e24, gi_ne_o _ _ _ _ (by decide), e23, gi_same])
      (fun x k b1 b2 => by rw [e25, gi_si, if_neg (by omega), e24, gi_si, if_neg (by omega), e23, gi_si, if_neg b2, e21, gi_si, if_neg (by omega)]) (fun x => by rw [e25, gl_si_o, e24, gl_si_o, e23, gl_si_o, e21, gl_si_o])
    exact q4 hlt s25 p1 p2
  have push122 : ∀ (b : Nat) (r1 st ops : List Nat) (o1 : List Int32) (τ1 : St), (b = 38 ∨ b = 124) → MS τ1 bs rr (b :: r1) (ops ++ st) o1 → (∀ q, q ∈ ops → q = 38 ∨ (q = 124 ∧ b ≠ 38)) → (∀ q, st.head? = some q → ¬ (q = 38 ∨ (q = 124 ∧ b ≠ 38))) → (∀ τ2, MS τ2 bs rr r1 (b :: st) (o1 ++ ops.map ng) → frE rr τ1 τ2 → P22 1 τ2) → P122 (nI b) τ1 := by
    intro b r1 st ops o1 τ1 hb q1 q2 q3 q4
    refine H122 _ _ (r_settle (by omega) q1 q2 q3 (fun s26 a1 a2 => ?_))
    have hlen := a1.len
    rw [List.length_cons] at hlen
    rw [a1.2.1]
    refine ⟨vp_in_nI (by omega) (by decide), fun s28 e28 s29 e29 s30 e30 => ?_⟩
    rw [cl_ix _ (by omega)] at e28
    have g22' : gi s28 0 22 = nI st.length := by rw [e28, gi_ne_o _ _ _ _ (by decide)]; exact a1.2.1
    rw [g22', nI_1] at e29
    have hnot : ¬ (b = 33 ∨ b = 40) := by omega
    obtain ⟨p1, p2⟩ := a1.push (τ' := s30) (by omega) (by rw [e30, gi_same, e29, gi_ne_k _ _ _ _ (by decide), e28, gi_ne_o _ _ _ _ (by decide)])
      (by rw [e30, gi_ne_k _ _ _ _ (by decide), e29, gi_same, a1.2.1, nI_1]) (by rw [opS_f _ hnot, e30, gi_ne_k _ _ _ _ (by decide), e29, gi_ne_k _ _ _ _ (by decide), e28, gi_ne_o _ _ _ _ (by decide)]; exact a1.2.2.2.1)
      (by rw [e30, gi_ne_o _ _ _ _ (by decide), e29, gi_ne_o _ _ _ _ (by decide), e28, gi_same])
      (fun x k b1 b2 => by rw [e30, gi_si, if_neg (by omega), e29, gi_si, if_neg (by omega), e28, gi_si, if_neg b2]) (fun x => by rw [e30, gl_si_o, e29, gl_si_o, e28, gl_si_o])
    exact q4 s30 p1 (a2.tr p2)
  have opb : ∀ {ops : List Nat}, (ops = [] ∨ ops = [38]) → ∀ q, q ∈ ops → q = 38 := by
    rintro ops (rfl | rfl) q hq
    · cases hq
    · exact List.mem_singleton.mp hq
  -- by the fuel
  have main : ∀ f : Nat,
    (∀ (st : List Nat) (r1 : List Nat) (o1 : List Int32) (τ1 : St), MS τ1 bs rr r1 st o1 → (∀ q, st.head? = some q → q = 40) → frF rr c s34 τ1 → opS st ≤ 4 → 4 * r1.length + 3 ≤ f →
      ((pz f 0 (opS st) r1).1 = true → ∀ τ2 ops out, MS τ2 bs rr (pz f 0 (opS st) r1).2.1 (ops ++ st) out → (∀ q, q ∈ ops → q = 38 ∨ q = 124) → out ++ ops.map ng = o1 ++ (pz f 0 (opS st) r1).2.2 → ¬ (pz f 0 (opS st) r1).2.1.head? = some 38 → ¬ (pz f 0 (opS st) r1).2.1.head? = some 124 → frF rr c s34 τ2 → P22 0 τ2) →
      ((pz f 0 (opS st) r1).1 = false → ∀ τ2, gi τ2 0 10 = nI (bs.length - (pz f 0 (opS st) r1).2.1.length) → frF rr c s34 τ2 → Q 0 τ2) → P22 1 τ1) ∧
    (∀ (st ops : List Nat) (r1 : List Nat) (out : List Int32) (τ1 : St), MS τ1 bs rr r1 (ops ++ st) out → (∀ q, q ∈ ops → q = 38 ∨ q = 124) → (∀ q, st.head? = some q → q = 40) → ¬ r1.head? = some 38 → frF rr c s34 τ1 → opS st ≤ 4 → 4 * r1.length + 1 ≤ f →
      ((pz f 1 (opS st) r1).1 = true → ∀ τ2 ops2 out2, MS τ2 bs rr (pz f 1 (opS st) r1).2.1 (ops2 ++ st) out2 → (∀ q, q ∈ ops2 → q = 38 ∨ q = 124) → out2 ++ ops2.map ng = out ++ ops.map ng ++ (pz f 1 (opS st) r1).2.2 → ¬ (pz f 1 (opS st) r1).2.1.head? = some 38 → ¬ (pz f 1 (opS st) r1).2.1.head? = some 124 → frF rr c s34 τ2 → P22 0 τ2) →
      ((pz f 1 (opS st) r1).1 = false → ∀ τ2, gi τ2 0 10 = nI (bs.length - (pz f 1 (opS st) r1).2.1.length) → frF rr c s34 τ2 → Q 0 τ2) → P22 0 τ1) ∧
    (∀ (st : List Nat) (r1 : List Nat) (o1 : List Int32) (τ1 : St), MS τ1 bs rr r1 st o1 → (∀ q, st.head? = some q → q = 40 ∨ q = 124) → frF rr c s34 τ1 → opS st ≤ 4 → 4 * r1.length + 2 ≤ f →
      ((pz f 2 (opS st) r1).1 = true → ∀ τ2 ops out, MS τ2 bs rr (pz f 2 (opS st) r1).2.1 (ops ++ st) out → (ops = [] ∨ ops = [38]) → out ++ ops.map ng = o1 ++ (pz f 2 (opS st) r1).2.2 → ¬ (pz f 2 (opS st) r1).2.1.head? = some 38 → frF rr c s34 τ2 → P22 0 τ2) →
      ((pz f 2 (opS st) r1).1 = false → ∀ τ2, gi τ2 0 10 = nI (bs.length - (pz f 2 (opS st) r1).2.1.length) → frF rr c s34 τ2 → Q 0 τ2) → P22 1 τ1) ∧
    (∀ (st ops : List Nat) (r1 : List Nat) (out : List Int32) (τ1 : St), MS τ1 bs rr r1 (ops ++ st) out → (ops = [] ∨ ops = [38]) → (∀ q, st.head? = some q → q = 40 ∨ q = 124) → frF rr c s34 τ1 → opS st ≤ 4 → 4 * r1.length + 1 ≤ f →
      ((pz f 3 (opS st) r1).1 = true → ∀ τ2 ops2 out2, MS τ2 bs rr (pz f 3 (opS st) r1).2.1 (ops2 ++ st) out2 → (ops2 = [] ∨ ops2 = [38]) → out2 ++ ops2.map ng = out ++ ops.map ng ++ (pz f 3 (opS st) r1).2.2 → ¬ (pz f 3 (opS st) r1).2.1.head? = some 38 → frF rr c s34 τ2 → P22 0 τ2) →
      ((pz f 3 (opS st) r1).1 = false → ∀ τ2, gi τ2 0 10 = nI (bs.length - (pz f 3 (opS st) r1).2.1.length) → frF rr c s34 τ2 → Q 0 τ2) → P22 0 τ1) ∧
    (∀ (n : Nat) (st : List Nat) (r1 : List Nat) (o1 : List Int32) (τ1 : St), MS τ1 bs rr r1 (List.replicate n 33 ++ st) o1 → ¬ st.head? = some 33 → frF rr c s34 τ1 → opS st + n ≤ 4 → 4 * r1.length + 1 ≤ f →
      ((pz f 4 (opS st + n) r1).1 = true → ∀ τ2, MS τ2 bs rr (pz f 4 (opS st + n) r1).2.1 st (o1 ++ (pz f 4 (opS st + n) r1).2.2 ++ List.replicate n (-3)) → frF rr c s34 τ2 → P22 0 τ2) →
      ((pz f 4 (opS st + n) r1).1 = false → ∀ τ2, gi τ2 0 10 = nI (bs.length - (pz f 4 (opS st + n) r1).2.1.length) → frF rr c s34 τ2 → Q 0 τ2) → P22 1 τ1) := by
    intro f
    induction f with
    | zero => exact ⟨fun st r1 o1 τ1 _ _ _ _ q => by omega, fun st ops r1 out τ1 _ _ _ _ _ _ q => by omega, fun st r1 o1 τ1 _ _ _ _ q => by omega, fun st ops r1 out τ1 _ _ _ _ _ q => by omega, fun n st r1 o1 τ1 _ _ _ _ q => by omega⟩
    | succ f ih =>
      obtain ⟨i0, i1, i2, i3, i4⟩ := ih
      refine ⟨?_, ?_, ?_, ?_, ?_⟩
      · intro st r1 o1 τ1 q1 q2 q3 q4 q5 k1 k0
        rw [pz_0] at k1 k0
        have hl2 := pz_pos (f := f) (m := 2) (w := opS st) (r := r1) (by decide)
        refine i2 st r1 o1 τ1 q1 (fun q hq => Or.inl (q2 q hq)) q3 q4 (by omega) (fun z τ2 ops out w1 w2 w3 w4 w5 => ?_) (fun z τ2 w1 w2 => k0 ?_ τ2 ?_ w2)
        · generalize pz f 2 (opS st) r1 = x at k1 k0 hl2 z w1 w3 w4
          obtain ⟨b, r2, s2⟩ := x
          have z : b = true := z
          subst z
          rw [bnd_t] at k1 k0
          refine i1 st ops r2 out τ2 w1 (fun q hq => Or.inl (opb w2 q hq)) q2 w4 w5 q4 (by have hl2 : r2.length ≤ r1.length := hl2; omega) (fun y τ3 ops2 out2 v1 v2 v3 v4 v5 v6 => k1 y τ3 ops2 out2 v1 v2 ?_ v4 v5 v6) (fun y τ3 v1 v2 => k0 y τ3 v1 v2)
          rw [v3, w3, List.append_assoc]
        · unfold bnd; rw [if_neg (by rw [z]; decide)]; exact z
        · unfold bnd; rw [if_neg (by rw [z]; decide)]; exact w1
      · intro st ops r1 out τ1 q1 q2 q3 q4 q5 q6 q7 k1 k0
        rw [pz_1] at k1 k0
        by_cases hh : r1.head? = some 124
        · rw [if_pos hh] at k1 k0
          have e := head_tail hh
          generalize r1.tail = r2 at e k1 k0
          subst e
          rw [List.length_cons] at q7
          refine H22 _ _ (r_next q1.1 ⟨fun _ => ⟨fun z => absurd ((nx_hd (c := 38) (by decide) q1.1).mp z) q4, fun _ => ⟨fun z => absurd ((nx_hd (c := 124) (by decide) q1.1).mpr rfl) z, fun z => ?_⟩⟩, fun z => absurd rfl z⟩)
          rw [show nxR (124 :: r2) = nI 124 from z]
          refine push122 124 r2 st ops out τ1 (Or.inr rfl) q1 (fun q hq => (q2 q hq).imp id (fun y => ⟨y, by decide⟩)) (fun q hq y => by have := q3 q hq; omega) (fun τ2 w1 w2 => ?_)
          have ho : opS (124 :: st) = opS st := opS_f _ (by decide)
          have hl2 := pz_pos (f := f) (m := 2) (w := opS st) (r := r2) (by decide)
          have i2' := i2 (124 :: st) r2 (out ++ ops.map ng) τ2 w1 (fun q hq => Or.inr (Option.some.inj hq).symm) (q5.tr (w2.F c)) (by rw [ho]; exact q6) (by omega)
          rw [ho] at i2'
          refine i2' (fun z τ3 ops2 out2 v1 v2 v3 v4 v5 => ?_) (fun z τ3 v1 v2 => k0 ?_ τ3 ?_ v2)
          · generalize pz f 2 (opS st) r2 = x at k1 k0 hl2 z v1 v3 v4
            obtain ⟨b, r3, s3⟩ := x
            have z : b = true := z
            subst z
            have e3 : bnd (bnd (true, r3, s3) fun r => (true, r, [-2])) (pz f 1 (opS st)) = ((pz f 1 (opS st) r3).1, (pz f 1 (opS st) r3).2.1, (s3 ++ [-2]) ++ (pz f 1 (opS st) r3).2.2) := rfl
            rw [e3] at k1 k0
            refine i1 st (ops2 ++ [124]) r3 out2 τ3 (by rw [List.append_assoc]; exact v1) (fun q hq => ?_) q3 v4 v5 q6 (by have hl2 : r3.length ≤ r2.length := hl2; omega) (fun y τ4 ops3 out3 u1 u2 u3 u4 u5 u6 => k1 y τ4 ops3 out3 u1 u2 ?_ u4 u5 u6) (fun y τ4 u1 u2 => k0 y τ4 u1 u2)
            · rcases List.mem_append.mp hq with y | y
              · exact Or.inl (opb v2 q y)
              · exact Or.inr (List.mem_singleton.mp y)
            · rw [u3, List.map_append, ← List.append_assoc, v3]
              simp only [List.append_assoc]
              rfl
          · unfold bnd; rw [if_neg (by rw [if_neg (by rw [z]; decide), z]; decide), if_neg (by rw [z]; decide)]; exact z
          · unfold bnd; rw [if_neg (by rw [if_neg (by rw [z]; decide), z]; decide), if_neg (by rw [z]; decide)]; exact v1
        · rw [if_neg hh] at k1
          exact k1 rfl τ1 ops out q1 q2 (List.append_nil _).symm q4 hh q5
      · intro st r1 o1 τ1 q1 q2 q3 q4 q5 k1 k0
        rw [pz_2] at k1 k0
        have hl2 := pz_pos (f := f) (m := 4) (w := opS st) (r := r1) (by decide)
        have i4' := i4 0 st r1 o1 τ1 q1 (fun y => by have := q2 33 y; omega) q3 q4 (by omega)
        rw [Nat.add_zero] at i4'
        refine i4' (fun z τ2 w1 w2 => ?_) (fun z τ2 w1 w2 => k0 ?_ τ2 ?_ w2)
        · generalize pz f 4 (opS st) r1 = x at k1 k0 hl2 z w1
          obtain ⟨b, r2, s2⟩ := x
          have z : b = true := z
          subst z
          rw [bnd_t] at k1 k0
          rw [show ((true, r2, s2) : PR).2.2 = s2 from rfl, show List.replicate 0 (-3 : Int32) = [] from rfl, List.append_nil] at w1
          refine i3 st [] r2 (o1 ++ s2) τ2 w1 (Or.inl rfl) q2 w2 q4 (by have hl2 : r2.length ≤ r1.length := hl2; omega) (fun y τ3 ops2 out2 v1 v2 v3 v4 v5 => k1 y τ3 ops2 out2 v1 v2 ?_ v4 v5) (fun y τ3 v1 v2 => k0 y τ3 v1 v2)
          rw [v3, List.map_nil, List.append_nil, List.append_assoc]
        · unfold bnd; rw [if_neg (by rw [z]; decide)]; exact z
        · unfold bnd; rw [if_neg (by rw [z]; decide)]; exact w1
      · intro st ops r1 out τ1 q1 q2 q3 q5 q6 q7 k1 k0
        rw [pz_3] at k1 k0
        by_cases hh : r1.head? = some 38
        · rw [if_pos hh] at k1 k0
          have e := head_tail hh
          generalize r1.tail = r2 at e k1 k0
          subst e
          rw [List.length_cons] at q7
          refine H22 _ _ (r_next q1.1 ⟨fun _ => ⟨fun z => ?_, fun z => absurd ((nx_hd (c := 38) (by decide) q1.1).mpr rfl) z⟩, fun z => absurd rfl z⟩)
          rw [show nxR (38 :: r2) = nI 38 from z]
          refine push122 38 r2 st ops out τ1 (Or.inl rfl) q1 (fun q hq => Or.inl (opb q2 q hq)) (fun q hq y => by have := q3 q hq; omega) (fun τ2 w1 w2 => ?_)
          have ho : opS (38 :: st) = opS st := opS_f _ (by decide)
          have hl2 := pz_pos (f := f) (m := 4) (w := opS st) (r := r2) (by decide)
          have i4' := i4 0 (38 :: st) r2 (out ++ ops.map ng) τ2 w1 (fun y => by cases y) (q5.tr (w2.F c)) (by rw [ho]; exact q6) (by omega)
          rw [ho, Nat.add_zero] at i4'
          refine i4' (fun z τ3 v1 v2 => ?_) (fun z τ3 v1 v2 => k0 ?_ τ3 ?_ v2)
          · generalize pz f 4 (opS st) r2 = x at k1 k0 hl2 z v1
            obtain ⟨b, r3, s3⟩ := x
            have z : b = true := z
            subst z
            have e3 : bnd (bnd (true, r3, s3) fun r => (true, r, [-1])) (pz f 3 (opS st)) = ((pz f 3 (opS st) r3).1, (pz f 3 (opS st) r3).2.1, (s3 ++ [-1]) ++ (pz f 3 (opS st) r3).2.2) := rfl
            rw [e3] at k1 k0
            rw [show ((true, r3, s3) : PR).2.2 = s3 from rfl, show List.replicate 0 (-3 : Int32) = [] from rfl, List.append_nil] at v1
            refine i3 st [38] r3 (out ++ ops.map ng ++ s3) τ3 v1 (Or.inr rfl) q3 v2 q6 (by have hl2 : r3.length ≤ r2.length := hl2; omega) (fun y τ4 ops3 out3 u1 u2 u3 u4 u5 => k1 y τ4 ops3 out3 u1 u2 ?_ u4 u5) (fun y τ4 u1 u2 => k0 y τ4 u1 u2)
            rw [u3]
            simp only [List.append_assoc]
            rfl
          · unfold bnd; rw [if_neg (by rw [if_neg (by rw [z]; decide), z]; decide), if_neg (by rw [z]; decide)]; exact z
          · unfold bnd; rw [if_neg (by rw [if_neg (by rw [z]; decide), z]; decide), if_neg (by rw [z]; decide)]; exact v1
        · rw [if_neg hh] at k1
          exact k1 rfl τ1 ops out q1 q2 (List.append_nil _).symm hh q5
      · intro n st r1 o1 τ1 q1 q2 q3 q4 q5 k1 k0
        rw [pz_4] at k1 k0
        have hop : opS (List.replicate n 33 ++ st) = opS st + n := opS_rep n st
        by_cases h33 : r1.head? = some 33
        · rw [if_pos h33] at k1 k0
          have e := head_tail h33
          generalize r1.tail = r2 at e k1 k0
          subst e
          rw [List.length_cons] at q5
          refine H22 _ _ (r_next q1.1 ⟨fun z => absurd z (by decide), fun _ => ⟨fun z => ?_, fun z => absurd ((nx_hd (c := 33) (by decide) q1.1).mpr rfl) z⟩⟩)
          rw [show nxR (33 :: r2) = nI 33 from z]
          refine push43 33 r2 _ o1 τ1 (Or.inl rfl) q1 (by rw [hop]; exact q4) (fun y => ?_) (fun y τ2 w1 w2 => ?_)
          · rw [if_pos (by omega)] at k0
            exact k0 rfl τ1 q1.1.2.2.2.1 q3
          · rw [if_neg (by omega)] at k1 k0
            refine i4 (n + 1) st r2 o1 τ2 w1 q2 (q3.tr (w2.F c)) (by omega) (by omega) (fun z τ3 v1 v2 => ?_) (fun z τ3 v1 v2 => k0 ?_ τ3 ?_ v2)
            · rw [← Nat.add_assoc] at z v1
              generalize pz f 4 (opS st + n + 1) r2 = x at k1 k0 z v1
              obtain ⟨b, r3, s3⟩ := x
              have z : b = true := z
              subst z
              refine k1 rfl τ3 ?_ v2
              show MS τ3 bs rr r3 st (o1 ++ (s3 ++ [-3]) ++ List.replicate n (-3))
              have e : o1 ++ (s3 ++ [-3]) ++ List.replicate n (-3 : Int32) = o1 ++ s3 ++ List.replicate (n + 1) (-3) := by
                simp only [List.append_assoc]
                rfl
              rw [e]
              exact v1
            · rw [← Nat.add_assoc] at z
              unfold bnd; rw [if_neg (by rw [z]; decide)]; exact z
            · rw [← Nat.add_assoc] at z v1
              unfold bnd; rw [if_neg (by rw [z]; decide)]; exact v1
        · rw [if_neg h33] at k1 k0
          by_cases h40 : r1.head? = some 40
          · rw [if_pos h40] at k1 k0
            have e := head_tail h40
            generalize r1.tail = r2 at e k1 k0
            subst e
            rw [List.length_cons] at q5
            refine H22 _ _ (r_next q1.1 ⟨fun z => absurd z (by decide), fun _ => ⟨fun z => absurd ((nx_hd (c := 33) (by decide) q1.1).mp z) h33, fun _ => ⟨fun z => absurd ((nx_hd (c := 40) (by decide) q1.1).mpr rfl) z, fun z => ?_⟩⟩⟩)
            rw [show nxR (40 :: r2) = nI 40 from z]
            refine push43 40 r2 _ o1 τ1 (Or.inr rfl) q1 (by rw [hop]; exact q4) (fun y => ?_) (fun y τ2 w1 w2 => ?_)
            · rw [if_pos (by omega)] at k0
              exact k0 rfl τ1 q1.1.2.2.2.1 q3
            · rw [if_neg (by omega)] at k1 k0
              have ho : opS (40 :: (List.replicate n 33 ++ st)) = opS st + n + 1 := by rw [opS_t _ (Or.inr rfl), hop]
              have i0' := i0 (40 :: (List.replicate n 33 ++ st)) r2 o1 τ2 w1 (fun q hq => (Option.some.inj hq).symm) (q3.tr (w2.F c)) (by omega) (by omega)
              rw [ho] at i0'
              refine i0' (fun z τ3 ops out v1 v2 v3 v4 v5 v6 => ?_) (fun z τ3 v1 v2 => k0 ?_ τ3 ?_ v2)
              · generalize pz f 0 (opS st + n + 1) r2 = x at k1 k0 z v1 v3 v4 v5
                obtain ⟨b, r3, s3⟩ := x
                have z : b = true := z
                subst z
                have v1 : MS τ3 bs rr r3 (ops ++ 40 :: (List.replicate n 33 ++ st)) out := v1
                have v3 : out ++ ops.map ng = o1 ++ s3 := v3
                have v4 : ¬ r3.head? = some 38 := v4
                have v5 : ¬ r3.head? = some 124 := v5
                refine H22 _ _ (r_next v1.1 ⟨fun _ => ⟨fun y => absurd ((nx_hd (c := 38) (by decide) v1.1).mp y) v4, fun _ => ⟨fun _ => ?_, fun y => absurd ((nx_hd (c := 124) (by decide) v1.1).mp y) v5⟩⟩, fun y => absurd rfl y⟩)
                refine r_settle (a := 124) (by decide) v1 (fun q hq => (v2 q hq).imp id (fun y => ⟨y, by decide⟩)) (fun q hq y => by have hq : some 40 = some q := hq; cases hq; omega) (fun s6 u1 u2 => ⟨vp_in_nI hc (by decide), fun s8 e8 => ?_⟩)
                rw [v3] at u1
                have hlen := u1.len
                rw [List.length_cons] at hlen
                have f8 : frF rr c s34 s8 := by rw [e8]; exact (v6.tr (u2.F c)).si _ (by omega)
                have u8 : MS s8 bs rr r3 (40 :: (List.replicate n 33 ++ st)) (o1 ++ s3) := u1.mo (u1.1.put (fun x k b1 b2 b3 b4 => by rw [e8, gi_si, if_neg (by omega)])) (fun x k hx => by rw [e8, gi_si, if_neg (by omega)]) (Nat.le_refl _)
                rw [u8.2.1]
                refine ⟨fun _ => ⟨fun y s11 e11 s12 e12 s13 e13 => ?_, fun y => ?_⟩, fun y => absurd y (nI_ne0 (by rw [List.length_cons]; omega) (by rw [List.length_cons]; omega))⟩
                · have h41 := (nx_hd (c := 41) (by decide) u8.1).mp y
                  have e := head_tail h41
                  have k1' : (bnd (true, r3, s3) fun r => if r.head? = some 41 then (true, r.tail, []) else (false, r, [])) = (true, r3.tail, s3 ++ []) := by rw [bnd_t, if_pos h41]
                  rw [k1', List.append_nil] at k1
                  generalize r3.tail = r4 at e k1
                  subst e
                  have hlow := u8.low
                  rw [List.length_cons, nI_pred] at e11
                  have g23 : gi s11 0 23 = nI (opS st + n + 1) := by rw [e11, gi_ne_k _ _ _ _ (by decide), u8.2.2.2.1, ho]
                  rw [g23, nI_pred] at e12
                  have e13' : s13 = si s12 0 10 (gi s8 0 10 + 1) := by rw [e13, e12, gi_ne_k _ _ _ _ (by decide), e11, gi_ne_k _ _ _ _ (by decide)]
                  obtain ⟨m1, m2, m3⟩ := u8.1.adv rfl
                  have hM13 : MO s13 bs rr r4 (o1 ++ s3) := m1.put (fun x k b1 b2 b3 b4 => by
                    by_cases hz : x = 0 ∧ k = 10
                    · obtain ⟨rfl, rfl⟩ := hz
                      rw [e13', gi_same, gi_same]
                    · rw [e13', gi_si, if_neg hz, e12, gi_si, if_neg (by omega), e11, gi_si, if_neg (by omega), gi_si, if_neg hz])
                  have hS13 : MS s13 bs rr r4 (List.replicate n 33 ++ st) (o1 ++ s3) := by
                    refine ⟨hM13, ?_, fun i b hb => ?_, ?_, ?_⟩
                    · rw [e13', gi_ne_k _ _ _ _ (by decide), e12, gi_ne_k _ _ _ _ (by decide), e11, gi_same]
                    · rw [e13', gi_ne_o _ _ _ _ (by decide), e12, gi_ne_o _ _ _ _ (by decide), e11, gi_ne_o _ _ _ _ (by decide)]; exact hlow i b hb
                    · rw [e13', gi_ne_k _ _ _ _ (by decide), e12, gi_same, hop]
                    · rw [List.length_cons] at hlen; omega
                  have f13 : frF rr c s34 s13 := by
                    rw [e13', e12, e11]
                    exact ((f8.si _ (by omega)).si _ (by omega)).si _ (by omega)
                  refine r_whole hS13 q2 (fun τ4 t1 t2 => k1 rfl τ4 t1 (f13.tr (t2.F c)))
                · have h41 : ¬ r3.head? = some 41 := fun y2 => y ((nx_hd (c := 41) (by decide) u8.1).mpr y2)
                  have k0' : (bnd (true, r3, s3) fun r => if r.head? = some 41 then (true, r.tail, []) else (false, r, [])) = (false, r3, s3 ++ []) := by rw [bnd_t, if_neg h41]
                  rw [k0'] at k0
                  exact k0 rfl s8 u8.1.2.2.2.1 f8
              · unfold bnd; rw [if_neg (by rw [z]; decide)]; exact z
              · unfold bnd; rw [if_neg (by rw [z]; decide)]; exact v1
          · rw [if_neg h40] at k1 k0
            refine H22 _ _ (r_next q1.1 ⟨fun z => absurd z (by decide), fun _ => ⟨fun z => absurd ((nx_hd (c := 33) (by decide) q1.1).mp z) h33, fun _ => ⟨fun _ => ?_, fun z => absurd ((nx_hd (c := 40) (by decide) q1.1).mp z) h40⟩⟩⟩)
            refine r_takesTest q1 q2 (fun z τ2 w1 w2 => ⟨fun y => absurd y (by decide), fun _ => k1 z τ2 w1 (q3.tr (w2.F c))⟩) (fun z τ2 w1 w2 => ⟨fun _ => k0 z τ2 w1 (q3.tr (w2.F c)), fun y => absurd rfl y⟩)
  obtain ⟨m0, -⟩ := main FU
  have m0 := m0 [] r o s34 hS34 (fun q hq => by cases hq) (frF.rf _ _ _) (by decide) (by unfold FU; omega)
  rw [show opS [] = 0 from rfl, hx0] at m0
  refine m0 (fun z τ2 ops out v1 v2 v3 v4 v5 v6 => ?_) bad
  rw [List.append_nil] at v1
  refine H22 _ _ (r_next v1.1 ⟨fun _ => ⟨fun y => absurd ((nx_hd (c := 38) (by decide) v1.1).mp y) v4, fun _ => ⟨fun _ => ?_, fun y => absurd ((nx_hd (c := 124) (by decide) v1.1).mp y) v5⟩⟩, fun y => absurd rfl y⟩)
  refine r_settle (a := 124) (st := []) (by decide) (by rw [List.append_nil]; exact v1) (fun q hq => (v2 q hq).imp id (fun y => ⟨y, by decide⟩)) (fun q hq y => by cases hq) (fun s6 u1 u2 => ⟨vp_in_nI hc (by decide), fun s8 e8 => ?_⟩)
  rw [v3] at u1
  have f6 : frF rr c s34 s6 := v6.tr (u2.F c)
  have f8 : frF rr c s34 s8 := by rw [e8]; exact f6.si _ (by omega)
  have u8 : MO s8 bs rr x0.2.1 (o ++ x0.2.2) := u1.1.put (fun x k b1 b2 b3 b4 => by rw [e8, gi_si, if_neg (by omega)])
  have g22 : gi s8 0 22 = 0 := by rw [e8, gi_ne_o _ _ _ _ (by decide)]; exact u1.2.1
  refine ⟨fun y => absurd g22 y, fun _ => h1 z s8 u8 (fQ34.tr f8.Q) ?_ ?_ (fun x a1 a2 => ?_)⟩
  · rw [f8.1 17 c (by omega) (by omega) (by omega) (by omega)]; exact g17
  · rw [e8, gi_same]; exact u1.1.2.2.2.2.1
  · rw [f8.1 x c (by omega) (by omega) (by omega) (by omega)]; exact out34 x c (by omega) (by omega)
end RY
