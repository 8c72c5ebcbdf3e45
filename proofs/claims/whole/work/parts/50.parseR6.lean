/-! PURE: the reference reads clauses, rules -/
/-- a clause as it lies in the reference; f: where its steps begin -/
def CLR (τ : St) (c : Nat) (cl : Cl) (f : Nat) : Prop := gi τ 14 c = cl.1 ∧ ((cl.1 = 0 ∨ cl.1 = 1) → gi τ 15 c = cl.2.1 ∧ gi τ 17 c = nI f ∧ gi τ 18 c = nI (f + cl.2.2.length)) ∧ (¬ (cl.1 = 0 ∨ cl.1 = 1) → gi τ 16 c = cl.2.1)
theorem CLR.same {τ τ' : St} {c f : Nat} {cl : Cl} (h : CLR τ c cl f) (e : ∀ x, 14 ≤ x → x ≤ 18 → gi τ' x c = gi τ x c) : CLR τ' c cl f := by
  unfold CLR at *
  rw [e 14 (by decide) (by decide), e 15 (by decide) (by decide), e 16 (by decide) (by decide), e 17 (by decide) (by decide), e 18 (by decide) (by decide)]
  exact h
theorem pcP_b {r : List Nat} (h : hdI r 98 ∨ hdI r 115) : pcP r = bnd (wd (kbs.getD (wdN r) []) r) kP := by unfold pcP; rw [if_pos h]; rfl
theorem pcP_l {r : List Nat} (h : ¬ (hdI r 98 ∨ hdI r 115)) : pcP r = bnd (wd (kbs.getD (wdN r) []) r) (oneP 6) := by unfold pcP; rw [if_neg h]
theorem pcW_b {r : List Nat} (h : hdI r 98 ∨ hdI r 115) : pcW r = (soN r, nI (1 + oneV 2 (wd (kbs.getD (wdN r) []) r).2.1)) := by unfold pcW; rw [if_pos h]
theorem pcW_l {r : List Nat} (h : ¬ (hdI r 98 ∨ hdI r 115)) : pcW r = (soN r, nI (oneV 6 (wd (kbs.getD (wdN r) []) r).2.1)) := by unfold pcW; rw [if_neg h]
theorem cod0 : ∀ m, m < 3 → (96 + (((2098 : Int32) >>> ((5 * nI m) &&& 31)) &&& 31)) = nI (kch 0 (3 - 1 - m)) := by decide +kernel
theorem cod1 : ∀ m, m < 4 → (96 + (((635184 : Int32) >>> ((5 * nI m) &&& 31)) &&& 31)) = nI (kch 1 (4 - 1 - m)) := by decide +kernel
theorem cod8 : ∀ m, m < 4 → (96 + (((394868 : Int32) >>> ((5 * nI m) &&& 31)) &&& 31)) = nI (kch 8 (4 - 1 - m)) := by decide +kernel
theorem cod9 : ∀ m, m < 4 → (96 + (((132915 : Int32) >>> ((5 * nI m) &&& 31)) &&& 31)) = nI (kch 9 (4 - 1 - m)) := by decide +kernel
section RA
variable {rr : Nat} {bs : List Nat}
theorem r_takesClause {d c : Nat} {τ : St} {r : List Nat} {o : List Int32} {Q : Int32 → St → Prop} (hc : c < 30) (hM : MO τ bs rr r o)
    (h1 : (pcP r).1 = true → ∀ τ', MO τ' bs rr (pcP r).2.1 (o ++ (pcP r).2.2) → frQ rr c τ τ' → CLR τ' c (pcC r) (100 * rr + o.length) → Q 1 τ')
    (h0 : (pcP r).1 = false → ∀ τ', gi τ' 0 10 = nI (bs.length - (pcP r).2.1.length) → frQ rr c τ τ' → Q 0 τ') : EI (d + 7) idsR Y_X7_takesClause [.ref 0, .int (nI c)] τ Q := by
  refine fl_X7_takesClause hR (fun P157 H157 => r_next hM ?_)
  have pcCe : pcC r = ((pcW r).1, (pcW r).2, (pcP r).2.2) := rfl
  rw [cl_ix c (by omega)]
  rw [cl_ix c (by omega)] at H157
  simp only [rf0] at H157 ⊢
  -- what is written first
  have st : ∀ (w : Int32) (s : St), s = si τ 14 c w → MO s bs rr r o ∧ frQ rr c τ s ∧ gi s 14 c = w := by
    intro w s e
    exact ⟨hM.put (fun x k b1 b2 b3 b4 => by rw [e, gi_si, if_neg (by omega)]), by rw [e]; exact (frQ.rf rr c τ).si _ (by omega), by rw [e, gi_same]⟩
  -- bar, slip
  have bars : ∀ (t L : Nat) (a0 w : Int32), (t = 0 ∨ t = 1) → (hdI r 98 ∨ hdI r 115) → wdN r = t → soN r = w → L ≤ 4 → (kbs.getD t []).length = L + 1 → kch t L = 32 → (∀ m, m < L → (96 + ((a0 >>> ((5 * nI m) &&& 31)) &&& 31)) = nI (kch t (L - 1 - m))) → (w = 0 ∨ w = 1) →
      vp_in (nI c) 30 ∧ ∀ s7 : St, s7 = si τ 14 c w → EI (d + 6) idsR Y_X7_takesWord [.ref 0, .int a0, .int (nI L)] s7 (fun x9 s8 => ((x9 = 0 → Q 0 s8) ∧ (¬ x9 = 0 → EI (d + 6) idsR Y_X7_takesKind [.ref 0, .int (nI c)] s8 (fun x12 s11 => ((x12 = 0 → Q 0 s11) ∧ (¬ x12 = 0 → Q 1 s11)))))) := by
    intro t L a0 w ht hb hw hs hL hlen hsp hcode hw01
    refine ⟨vp_in_nI hc (by decide), fun s7 e7 => ?_⟩
    obtain ⟨m7, f7, g7⟩ := st w s7 e7
    rw [pcCe, pcP_b hb, pcW_b hb, hw, hs] at h1
    rw [pcP_b hb, hw] at h0
    have hws := wd_s (kbs.getD t []) r
    generalize hx : wd (kbs.getD t []) r = x at h1 h0 hws
    refine r_takesWord (d := d + 3) (i := t) (by omega) hL hlen hsp hcode m7 (fun z τ2 a1 a2 => ⟨fun y => absurd y (by decide), fun _ => ?_⟩) (fun z τ2 a1 a2 => ⟨fun _ => ?_, fun y => absurd rfl y⟩)
    · rw [hx] at z a1
      rw [bnd_e z hws] at h1 h0
      have f2 := f7.tr (a2.Q c)
      refine r_takesKind (c := c) hc a1 (fun y τ3 b1 b2 b3 b4 b5 b6 => ⟨fun y => absurd y (by decide), fun _ => h1 y τ3 b1 (f2.tr b2) ⟨?_, fun _ => ⟨b4, b5, ?_⟩, fun y => absurd hw01 y⟩⟩) (fun y τ3 b1 b2 => ⟨fun _ => h0 y τ3 b1 (f2.tr b2), fun y => absurd rfl y⟩)
      · rw [b3, a2.1 14 c (by omega) (by omega) (by omega)]; exact g7
      · rw [b6, List.length_append, Nat.add_assoc]
    · rw [hx] at z a1
      rw [bnd_0 z] at h0
      exact h0 z τ2 a1 (f7.tr (a2.Q c))
  -- last, days
  have lasts : ∀ (t L : Nat) (a0 w : Int32), (t = 8 ∨ t = 9) → ¬ (hdI r 98 ∨ hdI r 115) → wdN r = t → soN r = w → L ≤ 4 → (kbs.getD t []).length = L + 1 → kch t L = 32 → (∀ m, m < L → (96 + ((a0 >>> ((5 * nI m) &&& 31)) &&& 31)) = nI (kch t (L - 1 - m))) → ¬ (w = 0 ∨ w = 1) →
      vp_in (nI c) 30 ∧ ∀ s15 : St, s15 = si τ 14 c w → EI (d + 6) idsR Y_X7_takesWord [.ref 0, .int a0, .int (nI L)] s15 (fun x17 s16 => ((x17 = 0 → Q 0 s16) ∧ (¬ x17 = 0 → EI (d + 6) idsR Y_X7_takesNumber [.ref 0, .int 1] s16 (fun x20 s19 => ((¬ x20 = 0 → P157 s19) ∧ (x20 = 0 → Q 0 s19)))))) := by
    intro t L a0 w ht hb hw hs hL hlen hsp hcode hw01
    refine ⟨vp_in_nI hc (by decide), fun s7 e7 => ?_⟩
    obtain ⟨m7, f7, g7⟩ := st w s7 e7
    rw [pcCe, pcP_l hb, pcW_l hb, hw, hs] at h1
    rw [pcP_l hb, hw] at h0
    have hws := wd_s (kbs.getD t []) r
    generalize hx : wd (kbs.getD t []) r = x at h1 h0 hws
    refine r_takesWord (d := d + 3) (i := t) (by omega) hL hlen hsp hcode m7 (fun z τ2 a1 a2 => ⟨fun y => absurd y (by decide), fun _ => ?_⟩) (fun z τ2 a1 a2 => ⟨fun _ => ?_, fun y => absurd rfl y⟩)
    · rw [hx] at z a1
      rw [bnd_e z hws] at h1 h0
      have f2 := f7.tr (a2.Q c)
      refine r_takesNumber (d := d + 3) (m := 1) (Or.inl rfl) a1 (fun y => ⟨fun y => absurd rfl y, fun _ => ?_⟩) (fun n r1 hn τ3 b1 b2 b3 b4 b5 => ⟨fun _ => H157 _ ⟨vp_in_nI hc (by decide), fun s2 e2 => ?_⟩, fun y => absurd y (by decide)⟩)
      · have ho : oneP 6 x.2.1 = (false, x.2.1, []) := by unfold oneP; rw [y]
        rw [ho] at h0
        exact h0 rfl τ2 a1.2.2.2.1 f2
      · rw [if_pos rfl] at b1 b2
        have ho : oneP 6 x.2.1 = (true, r1, []) := by unfold oneP; rw [hn]
        have hv : oneV 6 x.2.1 = n := by unfold oneV; rw [hn]
        rw [ho, hv] at h1
        rw [b2] at e2
        refine h1 rfl s2 ?_ ?_ ⟨?_, fun y => absurd y hw01, fun _ => ?_⟩
        · show MO s2 bs rr r1 (o ++ [])
          rw [List.append_nil]
          exact b1.put (fun x k b1 b2 b3 b4 => by rw [e2, gi_si, if_neg (by omega)])
        · rw [e2]
          refine (f2.tr ⟨fun x k c1 c2 c3 c4 => b3 x k (by omega), b4⟩).si _ (by omega)
        · rw [e2, gi_ne_o _ _ _ _ (by decide), b3 14 c (by omega), a2.1 14 c (by omega) (by omega) (by omega)]; exact g7
        · rw [e2, gi_same]
    · rw [hx] at z a1
      rw [bnd_0 z] at h0
      exact h0 z τ2 a1 (f7.tr (a2.Q c))
  have n98 := nx_hd (c := 98) (by decide) hM
  have n115 := nx_hd (c := 115) (by decide) hM
  have n108 := nx_hd (c := 108) (by decide) hM
  refine ⟨fun z => ?_, fun z => ?_, fun z => ?_, fun z1 z2 z3 => ?_⟩
  · have h := n98.mp z
    exact bars 0 3 2098 0 (Or.inl rfl) (Or.inl h) (by unfold wdN; rw [if_pos h]) (by unfold soN; rw [if_pos h]) (by decide) rfl (by decide +kernel) cod0 (Or.inl rfl)
  · have h := n108.mp z
    have m98 : ¬ hdI r 98 := fun y => by rw [hdI, h] at y; cases y
    have m115 : ¬ hdI r 115 := fun y => by rw [hdI, h] at y; cases y
    exact lasts 8 4 394868 2 (Or.inl rfl) (fun y => y.elim m98 m115) (by unfold wdN; rw [if_neg m98, if_neg m115, if_pos h]) (by unfold soN; rw [if_neg m98, if_neg m115, if_pos h]) (by decide) rfl (by decide +kernel) cod8 (by decide)
  · have h := n115.mp z
    have m98 : ¬ hdI r 98 := fun y => by rw [hdI, h] at y; cases y
    exact bars 1 4 635184 1 (Or.inr rfl) (Or.inr h) (by unfold wdN; rw [if_neg m98, if_pos h]) (by unfold soN; rw [if_neg m98, if_pos h]) (by decide) rfl (by decide +kernel) cod1 (Or.inr rfl)
  · have m98 : ¬ hdI r 98 := fun y => z1 (n98.mpr y)
    have m108 : ¬ hdI r 108 := fun y => z2 (n108.mpr y)
    have m115 : ¬ hdI r 115 := fun y => z3 (n115.mpr y)
    exact lasts 9 4 132915 3 (Or.inr rfl) (fun y => y.elim m98 m115) (by unfold wdN; rw [if_neg m98, if_neg m115, if_neg m108]) (by unfold soN; rw [if_neg m98, if_neg m115, if_neg m108]) (by decide) rfl (by decide +kernel) cod9 (by decide)
/-- where the steps of rules lie -/
def RuB (τ : St) (r : Nat) (R : Ru) : Prop := ∀ (c : Nat) w x l, R[c]? = some (w, x, l) → (w = 0 ∨ w = 1) → ∃ f : Nat, gi τ 17 (6 * r + c) = nI f ∧ 100 * r ≤ f ∧ f + l.length ≤ 100 * r + 100
/-- what reading rules rr writes -/
def frG (rr : Nat) (τ τ' : St) : Prop := (∀ x k, ¬ (x = 0 ∧ (k = 10 ∨ k = 11 ∨ (21 ≤ k ∧ k ≤ 23))) → ¬ (x = 13 ∧ k = rr) → ¬ (14 ≤ x ∧ x ≤ 18 ∧ 6 * rr ≤ k ∧ k < 6 * rr + 6) → ¬ (x = 19 ∧ 100 * rr ≤ k ∧ k < 100 * rr + 100) → x ≠ 20 → gi τ' x k = gi τ x k) ∧ ∀ x, gl τ' x = gl τ x
theorem frG.tr {rr : Nat} {x y z : St} (h : frG rr x y) (h2 : frG rr y z) : frG rr x z := ⟨fun a k e1 e2 e3 e4 e5 => (h2.1 a k e1 e2 e3 e4 e5).trans (h.1 a k e1 e2 e3 e4 e5), fun a => (h2.2 a).trans (h.2 a)⟩
theorem frG.rf (rr : Nat) (τ : St) : frG rr τ τ := ⟨fun _ _ _ _ _ _ _ => rfl, fun _ => rfl⟩
theorem frQ.G {rr c : Nat} {x y : St} (h : frQ rr c x y) (hc : 6 * rr ≤ c ∧ c < 6 * rr + 6) : frG rr x y := ⟨fun a k e1 e2 e3 e4 e5 => h.1 a k e1 (by omega) e4 e5, h.2⟩
theorem frE.G {rr : Nat} {x y : St} (h : frE rr x y) : frG rr x y := ⟨fun a k e1 e2 e3 e4 e5 => h.1 a k e1 e4 e5, h.2⟩
theorem frG.si {rr : Nat} {a b : St} (h : frG rr a b) {x k : Nat} (v : Int32) (hx : (x = 0 ∧ (k = 10 ∨ k = 11 ∨ (21 ≤ k ∧ k ≤ 23))) ∨ (x = 13 ∧ k = rr)) : frG rr a (si b x k v) := ⟨fun y j e1 e2 e3 e4 e5 => by
  rw [gi_si, if_neg (fun z => by omega)]; exact h.1 y j e1 e2 e3 e4 e5, h.2⟩
theorem r_goes {d : Nat} {τ : St} {Q : Int32 → St → Prop} (hr : rr < 5) (hT : MT τ bs)
    (h1 : (rdT bs).1 = true → ∀ τ', RuR τ' rr (rdT bs).2.2 → RuB τ' rr (rdT bs).2.2 → frG rr τ τ' → Q 1 τ')
    (h0 : (rdT bs).1 = false → ∀ τ', gi τ' 0 10 = nI (bs.length - (rdT bs).2.1.length) → frG rr τ τ' → Q 0 τ') : EI (d + 8) idsR Y_X7_goes [.ref 0, .int (nI rr)] τ Q := by
  have h100 := hT.2.1
  refine fl_X7_goes hR (fun P15 H15 s12 e12 s13 e13 => ?_)
  simp only [rf0] at H15
  rw [cl_ix rr (by omega)] at H15
  have e100 : (100 : Int32) * nI rr = nI (100 * rr) := (Int32.ofNat_mul 100 rr).symm
  rw [e100] at e13
  have hM0 : MO s13 bs rr bs [] := by
    refine ⟨⟨?_, h100, fun i b hb => ?_⟩, hr, ⟨[], rfl⟩, ?_, ?_, fun i t ht => (by cases ht), by show 0 + bs.length ≤ bs.length; omega⟩
    · rw [e13, gi_ne_k _ _ _ _ (by decide), e12, gi_ne_k _ _ _ _ (by decide)]; exact hT.1
    · rw [e13, gi_ne_o _ _ _ _ (by decide), e12, gi_ne_o _ _ _ _ (by decide)]; exact hT.2.2 i b hb
    · rw [e13, gi_ne_k _ _ _ _ (by decide), e12, gi_same, Nat.sub_self]; rfl
    · rw [e13, gi_same]; rfl
  have f13 : frG rr τ s13 := by rw [e13, e12]; exact ((frG.rf rr τ).si _ (by omega)).si _ (by omega)
  -- as many clauses as there are, each in its place
  let RQ : St → Ru → Prop := fun τ1 R => ∀ c cl, R[c]? = some cl → CLR τ1 (6 * rr + c) cl (100 * rr + (flat (R.take c)).length)
  have fin : ∀ (R : Ru) (x : PR) (τ1 : St), 1 ≤ R.length → R.length ≤ 6 → x.1 = true → MO τ1 bs rr x.2.1 x.2.2 → x.2.2 = flat R → RQ τ1 R → gi τ1 13 rr = nI R.length → RuR τ1 rr R ∧ RuB τ1 rr R := by
    intro R x τ1 l1 l6 z hM hf hQ h13
    have hol : (flat R).length ≤ 100 := by
      have := hM.2.2.2.2.2.2
      rw [hf] at this
      omega
    refine ⟨⟨l6, h13, fun c w v l hcl => ?_⟩, fun c w v l hcl hw => ?_⟩
    rotate_left
    · obtain ⟨q1, q2, q3⟩ := hQ c _ hcl
      obtain ⟨rest, hrest⟩ := flat_at hcl
      have hlen := congrArg List.length hrest
      rw [List.length_append, List.length_append] at hlen
      exact ⟨_, (q2 hw).2.1, by omega, by omega⟩
    obtain ⟨q1, q2, q3⟩ := hQ c _ hcl
    obtain ⟨rest, hrest⟩ := flat_at hcl
    have hlen := congrArg List.length hrest
    rw [List.length_append, List.length_append] at hlen
    refine ⟨q1, fun hw => ?_, q3⟩
    obtain ⟨p1, p2, p3⟩ := q2 hw
    refine ⟨p1, _, p2, p3, by omega, fun i t ht => ?_⟩
    have hi := (List.getElem?_eq_some_iff.mp ht).1
    have := hM.2.2.2.2.2.1 ((flat (R.take c)).length + i) t (by
      rw [hf, hrest, List.append_assoc, List.getElem?_append_right (Nat.le_add_right _ _), Nat.add_sub_cancel_left, List.getElem?_append_left hi]
      exact ht)
    rw [← Nat.add_assoc] at this
    exact this
  have loop : ∀ (m j : Nat) (R : Ru) (r : List Nat) (o : List Int32) (τ1 : St), j + m = 5 → R.length = j → MO τ1 bs rr r o → o = flat R → RQ τ1 R → frG rr τ τ1 → rdT bs = pru m (bnd (true, r, o) pcP) (R ++ [pcC r]) → P15 (nI j) τ1 := by
    intro m
    induction m with
    | zero =>
      intro j R r o τ1 q1 q2 q3 q4 q5 q6 q7
      have hj : j = 5 := by omega
      rw [bnd_t] at q7
      refine H15 _ _ ?_
      rw [k6]
      refine r_takesClause (by omega) q3 (fun z τ2 a1 a2 a3 => ⟨fun _ x4 e4 => ⟨vp_in_nI hr (by decide), fun s6 e6 => ?_⟩, fun y => absurd y (by decide)⟩) (fun z τ2 a1 a2 => ⟨fun y => absurd rfl y, fun _ => ?_⟩)
      · rw [nI_1] at e4
        subst e4
        have f6 : frG rr τ s6 := by rw [e6]; exact (q6.tr (a2.G (by omega))).si _ (by omega)
        have m6 : MO s6 bs rr (pcP r).2.1 (o ++ (pcP r).2.2) := a1.put (fun x k b1 b2 b3 b4 => by rw [e6, gi_si, if_neg (by omega)])
        have hfl : o ++ (pcP r).2.2 = flat (R ++ [pcC r]) := by rw [flat_app, q4]; rfl
        have hRQ : RQ s6 (R ++ [pcC r]) := by
          intro c cl hcl
          by_cases hcR : c < R.length
          · rw [List.getElem?_append_left hcR] at hcl
            rw [List.take_append_of_le_length (by omega)]
            refine (q5 c cl hcl).same (fun x x1 x2 => ?_)
            rw [e6, gi_si, if_neg (by omega), a2.1 x _ (by omega) (by omega) (by omega) (by omega)]
          · have hc2 : c = R.length := by
              have := (List.getElem?_eq_some_iff.mp hcl).1
              rw [List.length_append, List.length_singleton] at this
              omega
            subst hc2
            rw [List.getElem?_append_right (Nat.le_refl _), Nat.sub_self] at hcl
            have hcl : some (pcC r) = some cl := hcl
            cases hcl
            rw [List.take_append_of_le_length (Nat.le_refl _), List.take_length, ← q4, q2]
            exact a3.same (fun x x1 x2 => by rw [e6, gi_si, if_neg (by omega)])
        have hlen1 : (R ++ [pcC r]).length = j + 1 := by rw [List.length_append, q2]; rfl
        have h13 : gi s6 13 rr = nI (R ++ [pcC r]).length := by rw [hlen1, e6, gi_same]
        have q7' : rdT bs = ((pcP r).1 && decide ((pcP r).2.1 = []), (pcP r).2.1, R ++ [pcC r]) := q7
        rw [q7', z] at h1 h0
        have hle := m6.le
        rw [m6.2.2.2.1, m6.1.1]
        refine ⟨fun y => ⟨fun _ => h0 ?_ s6 m6.2.2.2.1 f6, fun y2 => absurd (by rw [hj]; rfl) y2⟩, fun y => h1 ?_ s6 (fin (R ++ [pcC r]) (true, (pcP r).2.1, o ++ (pcP r).2.2) s6 (by omega) (by omega) rfl m6 hfl hRQ h13).1 (fin (R ++ [pcC r]) (true, (pcP r).2.1, o ++ (pcP r).2.2) s6 (by omega) (by omega) rfl m6 hfl hRQ h13).2 f6⟩
        · cases hp : (pcP r).2.1 with
          | nil => rw [hp] at y; exact absurd rfl y
          | cons b r2 => rfl
        · have := (nI_eq (by omega) (by omega)).mp y
          cases hp : (pcP r).2.1 with
          | nil => rfl
          | cons b r2 => rw [hp, List.length_cons] at this; rw [hp, List.length_cons] at hle; omega
      · have q7' : rdT bs = ((pcP r).1 && decide ((pcP r).2.1 = []), (pcP r).2.1, R ++ [pcC r]) := q7
        rw [q7', z] at h0
        exact h0 rfl τ2 a1 (q6.tr (a2.G (by omega)))
    | succ m ih =>
      intro j R r o τ1 q1 q2 q3 q4 q5 q6 q7
      rw [bnd_t] at q7
      unfold pru at q7
      refine H15 _ _ ?_
      rw [k6]
      refine r_takesClause (by omega) q3 (fun z τ2 a1 a2 a3 => ⟨fun _ x4 e4 => ⟨vp_in_nI hr (by decide), fun s6 e6 => ?_⟩, fun y => absurd y (by decide)⟩) (fun z τ2 a1 a2 => ⟨fun y => absurd rfl y, fun _ => ?_⟩)
      · rw [nI_1] at e4
        subst e4
        have f6 : frG rr τ s6 := by rw [e6]; exact (q6.tr (a2.G (by omega))).si _ (by omega)
        have m6 : MO s6 bs rr (pcP r).2.1 (o ++ (pcP r).2.2) := a1.put (fun x k b1 b2 b3 b4 => by rw [e6, gi_si, if_neg (by omega)])
        have hfl : o ++ (pcP r).2.2 = flat (R ++ [pcC r]) := by rw [flat_app, q4]; rfl
        have hRQ : RQ s6 (R ++ [pcC r]) := by
          intro c cl hcl
          by_cases hcR : c < R.length
          · rw [List.getElem?_append_left hcR] at hcl
            rw [List.take_append_of_le_length (by omega)]
            refine (q5 c cl hcl).same (fun x x1 x2 => ?_)
            rw [e6, gi_si, if_neg (by omega), a2.1 x _ (by omega) (by omega) (by omega) (by omega)]
          · have hc2 : c = R.length := by
              have := (List.getElem?_eq_some_iff.mp hcl).1
              rw [List.length_append, List.length_singleton] at this
              omega
            subst hc2
            rw [List.getElem?_append_right (Nat.le_refl _), Nat.sub_self] at hcl
            have hcl : some (pcC r) = some cl := hcl
            cases hcl
            rw [List.take_append_of_le_length (Nat.le_refl _), List.take_length, ← q4, q2]
            exact a3.same (fun x x1 x2 => by rw [e6, gi_si, if_neg (by omega)])
        have hlen1 : (R ++ [pcC r]).length = j + 1 := by rw [List.length_append, q2]; rfl
        have h13 : gi s6 13 rr = nI (R ++ [pcC r]).length := by rw [hlen1, e6, gi_same]
        have hle := m6.le
        rw [m6.2.2.2.1, m6.1.1]
        refine ⟨fun y => ⟨fun y2 => ?_, fun _ => ?_⟩, fun y => ?_⟩
        · have := (nI_eq (b := 6) (by omega) (by decide)).mp y2
          omega
        · refine r_takes (c := 59) (by decide) m6 (fun hh τ3 b1 b2 b3 => ⟨fun _ => ?_, fun y => absurd y (by decide)⟩) (fun hh => ⟨fun y => absurd rfl y, fun _ => ?_⟩)
          · rw [if_pos ⟨z, hh⟩] at q7
            refine ih (j + 1) (R ++ [pcC r]) _ _ τ3 (by omega) hlen1 b1 hfl (fun c cl hcl => (hRQ c cl hcl).same (fun x x1 x2 => b2.1 x _ (by omega) (by omega) (by omega))) (f6.tr b2.G) q7
          · rw [if_neg (fun y => hh y.2)] at q7
            have q7' : rdT bs = ((pcP r).1 && decide ((pcP r).2.1 = []), (pcP r).2.1, R ++ [pcC r]) := q7
            rw [q7', z] at h0
            refine h0 ?_ s6 m6.2.2.2.1 f6
            cases hp : (pcP r).2.1 with
            | nil => rw [hp] at y; exact absurd rfl y
            | cons b r2 => rfl
        · have := (nI_eq (by omega) (by omega)).mp y
          have hnil : (pcP r).2.1 = [] := by
            cases hp : (pcP r).2.1 with
            | nil => rfl
            | cons b r2 => rw [hp, List.length_cons] at this; rw [hp, List.length_cons] at hle; omega
          rw [if_neg (fun y => by have y2 := y.2; rw [hdI, hnil] at y2; cases y2)] at q7
          have q7' : rdT bs = ((pcP r).1 && decide ((pcP r).2.1 = []), (pcP r).2.1, R ++ [pcC r]) := q7
          rw [q7', z] at h1
          refine h1 ?_ s6 (fin (R ++ [pcC r]) (true, (pcP r).2.1, o ++ (pcP r).2.2) s6 (by omega) (by omega) rfl m6 hfl hRQ h13).1 (fin (R ++ [pcC r]) (true, (pcP r).2.1, o ++ (pcP r).2.2) s6 (by omega) (by omega) rfl m6 hfl hRQ h13).2 f6
          rw [hnil]; rfl
      · rw [if_neg (fun y => by have y1 : (pcP r).1 = true := y.1; rw [z] at y1; cases y1)] at q7
        have q7' : rdT bs = ((pcP r).1 && decide ((pcP r).2.1 = []), (pcP r).2.1, R ++ [pcC r]) := q7
        rw [q7', z] at h0
        exact h0 rfl τ2 a1 (q6.tr (a2.G (by omega)))
  refine loop 5 0 [] bs [] s13 rfl rfl hM0 rfl (fun c cl hcl => (by cases hcl)) f13 ?_
  rw [bnd_n]
  rfl
end RA
