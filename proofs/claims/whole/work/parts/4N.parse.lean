/-! PURE: how a text is read. A reading: whether it went well, what is left (from the fault on), the steps -/
abbrev PR : Type := Bool × List Nat × List Int32
def bnd (a : PR) (k : List Nat → PR) : PR := if a.1 = true then ((k a.2.1).1, (k a.2.1).2.1, a.2.2 ++ (k a.2.1).2.2) else a
theorem ff {P : Prop} (h : false = true) : P := by cases h
theorem bnd_t (r : List Nat) (s : List Int32) (k : List Nat → PR) : bnd (true, r, s) k = ((k r).1, (k r).2.1, s ++ (k r).2.2) := rfl
theorem bnd_f (r : List Nat) (s : List Int32) (k : List Nat → PR) : bnd (false, r, s) k = (false, r, s) := rfl
theorem bnd_bnd (a : PR) (k g : List Nat → PR) : bnd (bnd a k) g = bnd a (fun r => bnd (k r) g) := by
  obtain ⟨b, r, s⟩ := a
  cases b
  · rfl
  · rw [bnd_t, bnd_t]
    rcases hk : k r with ⟨b2, r2, s2⟩
    cases b2
    · rfl
    · show bnd (true, r2, s ++ s2) g = _
      rw [bnd_t, bnd_t, List.append_assoc]
theorem bnd_congr {a : PR} {k g : List Nat → PR} (h : a.1 = true → k a.2.1 = g a.2.1) : bnd a k = bnd a g := by
  unfold bnd
  split
  · rename_i z; rw [h z]
  · rfl
/-- the place of a sign in one of the texts, 0 .. -/
def ixL : List Int32 → Int32 → Option Nat
  | [], _ => none
  | a :: l, c => if a = c then some 0 else (ixL l c).map (· + 1)
def one (i : Nat) (r : List Nat) : Option (Nat × List Nat) := match r with
  | [] => none
  | b :: r' => (ixL (kbs.getD i []) (nI b)).map (fun k => (k, r'))
def oneP (i : Nat) (r : List Nat) : PR := match one i r with | some (_, r') => (true, r', []) | none => (false, r, [])
def oneV (i : Nat) (r : List Nat) : Nat := match one i r with | some (k, _) => k | none => 0
def wd : List Int32 → List Nat → PR
  | [], r => (true, r, [])
  | c :: w, r => match r with
    | [] => (false, [], [])
    | b :: r' => if nI b = c then wd w r' else (false, b :: r', [])
/-- the second figure, if there is one -/
def fig2 (n : Nat) (r : List Nat) : Nat × List Nat := match one 6 r with | some (k, r') => (10 * n + k, r') | none => (n, r)
def tst1 (r : List Nat) : PR := bnd (oneP 4 r) (fun r1 => bnd (oneP 5 r1) (fun r2 => bnd (oneP 6 r2) (fun r3 => (true, (fig2 (oneV 6 r2) r3).2, [nI (1000 * oneV 4 r + 100 * oneV 5 r1 + (fig2 (oneV 6 r2) r3).1)]))))
/-- modes: 0 an E, 1 what comes behind a T of it, 2 a T, 3 what comes behind an F of it, 4 an F; w: how many others it stands in -/
def pz : Nat → Nat → Nat → List Nat → PR
  | 0, _, _, r => (false, r, [])
  | f + 1, m, w, r =>
    if m = 0 then bnd (pz f 2 w r) (pz f 1 w)
    else if m = 1 then (if r.head? = some 124 then bnd (bnd (pz f 2 w r.tail) (fun r => (true, r, [-2]))) (pz f 1 w) else (true, r, []))
    else if m = 2 then bnd (pz f 4 w r) (pz f 3 w)
    else if m = 3 then (if r.head? = some 38 then bnd (bnd (pz f 4 w r.tail) (fun r => (true, r, [-1]))) (pz f 3 w) else (true, r, []))
    else if r.head? = some 33 then (if 4 ≤ w then (false, r, []) else bnd (pz f 4 (w + 1) r.tail) (fun r => (true, r, [-3])))
    else if r.head? = some 40 then (if 4 ≤ w then (false, r, []) else bnd (pz f 0 (w + 1) r.tail) (fun r => if r.head? = some 41 then (true, r.tail, []) else (false, r, [])))
    else tst1 r
theorem pz_0 (f w : Nat) (r : List Nat) : pz (f + 1) 0 w r = bnd (pz f 2 w r) (pz f 1 w) := by rw [pz, if_pos rfl]
theorem pz_1 (f w : Nat) (r : List Nat) : pz (f + 1) 1 w r = if r.head? = some 124 then bnd (bnd (pz f 2 w r.tail) (fun r => (true, r, [-2]))) (pz f 1 w) else (true, r, []) := by rw [pz, if_neg (by decide), if_pos rfl]
theorem pz_2 (f w : Nat) (r : List Nat) : pz (f + 1) 2 w r = bnd (pz f 4 w r) (pz f 3 w) := by rw [pz, if_neg (by decide), if_neg (by decide), if_pos rfl]
theorem pz_3 (f w : Nat) (r : List Nat) : pz (f + 1) 3 w r = if r.head? = some 38 then bnd (bnd (pz f 4 w r.tail) (fun r => (true, r, [-1]))) (pz f 3 w) else (true, r, []) := by rw [pz, if_neg (by decide), if_neg (by decide), if_neg (by decide), if_pos rfl]
theorem pz_4 (f w : Nat) (r : List Nat) : pz (f + 1) 4 w r = if r.head? = some 33 then (if 4 ≤ w then (false, r, []) else bnd (pz f 4 (w + 1) r.tail) (fun r => (true, r, [-3])))
    else if r.head? = some 40 then (if 4 ≤ w then (false, r, []) else bnd (pz f 0 (w + 1) r.tail) (fun r => if r.head? = some 41 then (true, r.tail, []) else (false, r, [])))
    else tst1 r := by rw [pz, if_neg (by decide), if_neg (by decide), if_neg (by decide), if_neg (by decide)]
/-- what is left is the end of what there was; there are no more steps than bytes read, by e -/
def sfR (e : Nat) (r : List Nat) (x : PR) : Prop := (∃ u, r = u ++ x.2.1) ∧ (x.1 = true → x.2.2.length + x.2.1.length + e ≤ r.length)
theorem sfR.len {e : Nat} {r : List Nat} {x : PR} (h : sfR e r x) : x.2.1.length ≤ r.length := by
  obtain ⟨⟨u, hu⟩, -⟩ := h
  rw [hu, List.length_append]; omega
theorem sfR_bnd {e e2 : Nat} {r : List Nat} {a : PR} {k : List Nat → PR} (h : sfR e r a) (h2 : a.1 = true → sfR e2 a.2.1 (k a.2.1)) : sfR (e + e2) r (bnd a k) := by
  obtain ⟨b, r1, s⟩ := a
  cases b
  · exact ⟨h.1, fun z => ff z⟩
  · obtain ⟨⟨u, hu⟩, hl⟩ := h
    obtain ⟨⟨v, hv⟩, hl2⟩ := h2 rfl
    rw [bnd_t]
    refine ⟨⟨u ++ v, ?_⟩, fun z => ?_⟩
    · show r = (u ++ v) ++ (k r1).2.1
      rw [List.append_assoc, ← hv]; exact hu
    · have h1 := hl rfl
      have h3 := hl2 z
      show (s ++ (k r1).2.2).length + (k r1).2.1.length + (e + e2) ≤ r.length
      rw [List.length_append]
      have h1 : s.length + r1.length + e ≤ r.length := h1
      have h3 : (k r1).2.2.length + (k r1).2.1.length + e2 ≤ r1.length := h3
      omega
theorem sfR.le {e e2 : Nat} {r : List Nat} {x : PR} (h : sfR e r x) (he : e2 ≤ e) : sfR e2 r x := ⟨h.1, fun z => by have := h.2 z; omega⟩
theorem sfR_oneP (i : Nat) (r : List Nat) : sfR 1 r (oneP i r) := by
  unfold oneP
  cases h : one i r with
  | none => exact ⟨⟨[], rfl⟩, fun z => ff z⟩
  | some q =>
    obtain ⟨k, r'⟩ := q
    cases r with
    | nil => cases h
    | cons b r1 =>
      have : r' = r1 := by
        unfold one at h
        dsimp only at h
        cases hz : ixL (kbs.getD i []) (nI b) with
        | none => rw [hz] at h; cases h
        | some j => rw [hz] at h; cases h; rfl
      subst this
      exact ⟨⟨[b], rfl⟩, fun _ => by show 0 + r'.length + 1 ≤ (b :: r').length; rw [List.length_cons]; omega⟩
theorem fig2_suf (n : Nat) (r : List Nat) : ∃ u, r = u ++ (fig2 n r).2 := by
  have := sfR_oneP 6 r
  unfold fig2
  unfold oneP at this
  cases h : one 6 r with
  | none => exact ⟨[], rfl⟩
  | some q =>
    rw [h] at this
    exact this.1
theorem sfR_num (r2 : List Nat) (n : Nat) (t : List Nat → Int32) : sfR 0 r2 (bnd (oneP 6 r2) (fun r3 => (true, (fig2 n r3).2, [t r3]))) := by
  have h6 := sfR_oneP 6 r2
  rcases hz : oneP 6 r2 with ⟨b, r3, s3⟩
  rw [hz] at h6
  cases b
  · exact ⟨h6.1, fun z => ff z⟩
  · obtain ⟨⟨v, hv⟩, hl⟩ := h6
    have hl : s3.length + r3.length + 1 ≤ r2.length := hl rfl
    have hv : r2 = v ++ r3 := hv
    obtain ⟨u, hu⟩ := fig2_suf n r3
    have hul := congrArg List.length hu
    rw [List.length_append] at hul
    rw [bnd_t]
    refine ⟨⟨v ++ u, by show r2 = _; rw [List.append_assoc, ← hu]; exact hv⟩, fun _ => ?_⟩
    show (s3 ++ [t r3]).length + (fig2 n r3).2.length + 0 ≤ r2.length
    rw [List.length_append, List.length_singleton]
    omega
theorem sfR_tst1 (r : List Nat) : sfR 0 r (tst1 r) := by
  unfold tst1
  exact sfR.le (sfR_bnd (sfR_oneP 4 r) (fun _ => sfR_bnd (sfR_oneP 5 _) (fun _ => sfR_num _ _ _))) (Nat.zero_le _)
theorem head_tail {r : List Nat} {c : Nat} (h : r.head? = some c) : r = c :: r.tail := by
  cases r with
  | nil => cases h
  | cons b r => cases h; rfl
theorem sfR_step (r : List Nat) (t : Int32) {c : Nat} {x : PR} (h : r.head? = some c) (hx : sfR 0 r.tail x) : sfR 0 r (bnd x (fun r => (true, r, [t]))) := by
  have e := head_tail h
  generalize r.tail = r1 at e hx
  subst e
  obtain ⟨b, r2, s⟩ := x
  obtain ⟨⟨u, hu⟩, hl⟩ := hx
  have hu : r1 = u ++ r2 := hu
  cases b
  · exact ⟨⟨c :: u, by show _ = (c :: u) ++ r2; rw [hu]; rfl⟩, fun z => ff z⟩
  · have hl : s.length + r2.length + 0 ≤ r1.length := hl rfl
    refine ⟨⟨c :: u, by show _ = (c :: u) ++ r2; rw [hu]; rfl⟩, fun _ => ?_⟩
    show (s ++ [t]).length + r2.length + 0 ≤ (c :: r1).length
    rw [List.length_append, List.length_singleton, List.length_cons]
    omega
theorem sfR_tail {r : List Nat} {c : Nat} {x : PR} (h : r.head? = some c) (hx : sfR 0 r.tail x) : sfR 0 r x := by
  have e := head_tail h
  generalize r.tail = r1 at e hx
  subst e
  obtain ⟨⟨u, hu⟩, hl⟩ := hx
  exact ⟨⟨c :: u, by rw [hu]; rfl⟩, fun z => by have := hl z; rw [List.length_cons]; omega⟩
theorem sfR_self (b : Bool) (r : List Nat) : sfR 0 r (b, r, []) := ⟨⟨[], rfl⟩, fun _ => by show 0 + r.length + 0 ≤ r.length; omega⟩
theorem sfR_pz : ∀ f m w r, m ≤ 4 → sfR 0 r (pz f m w r) := by
  intro f
  induction f with
  | zero => intro m w r _; exact sfR_self false r
  | succ f ih =>
    intro m w r hm
    rcases (by omega : m = 0 ∨ m = 1 ∨ m = 2 ∨ m = 3 ∨ m = 4) with rfl | rfl | rfl | rfl | rfl
    · rw [pz_0]; exact sfR_bnd (ih 2 w r (by decide)) (fun _ => ih 1 w _ (by decide))
    · rw [pz_1]
      split
      · rename_i h
        exact sfR_bnd (sfR_step r _ h (ih 2 w _ (by decide))) (fun _ => ih 1 w _ (by decide))
      · exact sfR_self true r
    · rw [pz_2]; exact sfR_bnd (ih 4 w r (by decide)) (fun _ => ih 3 w _ (by decide))
    · rw [pz_3]
      split
      · rename_i h
        exact sfR_bnd (sfR_step r _ h (ih 4 w _ (by decide))) (fun _ => ih 3 w _ (by decide))
      · exact sfR_self true r
    · rw [pz_4]
      split
      · rename_i h
        split
        · exact sfR_self false r
        · exact sfR_step r _ h (ih 4 (w + 1) _ (by decide))
      · split
        · rename_i h
          split
          · exact sfR_self false r
          · refine sfR_tail h (sfR_bnd (e := 0) (e2 := 0) (ih 0 (w + 1) _ (by decide)) (fun _ => ?_))
            split
            · rename_i h2; exact sfR_tail h2 (sfR_self true _)
            · exact sfR_self false _
        · exact sfR_tst1 r
/-- the steps of a reading leave one truth more, and never more than 20 -/
def okS (n : Nat) (x : PR) : Prop := x.1 = true → dpl x.2.2 n = some (n + 1) ∧ ∀ t, t ∈ x.2.2 → t = -1 ∨ t = -2 ∨ t = -3 ∨ tok t
/-- .. or as many -/
def okZ (n : Nat) (x : PR) : Prop := x.1 = true → dpl x.2.2 n = some n ∧ ∀ t, t ∈ x.2.2 → t = -1 ∨ t = -2 ∨ t = -3 ∨ tok t
theorem dpl_app : ∀ (l l2 : List Int32) (n : Nat), dpl (l ++ l2) n = (dpl l n).bind (dpl l2)
  | [], _, _ => rfl
  | t :: l, l2, n => by
    show (dps t n).bind (dpl (l ++ l2)) = ((dps t n).bind (dpl l)).bind (dpl l2)
    cases dps t n with
    | none => rfl
    | some k => exact dpl_app l l2 k
theorem ok_bnd {n k m : Nat} {a : PR} {g : List Nat → PR} (h : a.1 = true → dpl a.2.2 n = some k ∧ ∀ t, t ∈ a.2.2 → t = -1 ∨ t = -2 ∨ t = -3 ∨ tok t)
    (h2 : a.1 = true → (g a.2.1).1 = true → dpl (g a.2.1).2.2 k = some m ∧ ∀ t, t ∈ (g a.2.1).2.2 → t = -1 ∨ t = -2 ∨ t = -3 ∨ tok t) :
    (bnd a g).1 = true → dpl (bnd a g).2.2 n = some m ∧ ∀ t, t ∈ (bnd a g).2.2 → t = -1 ∨ t = -2 ∨ t = -3 ∨ tok t := by
  obtain ⟨b, r, s⟩ := a
  cases b
  · intro z; exact ff z
  · intro z
    obtain ⟨h3, h4⟩ := h rfl
    obtain ⟨h5, h6⟩ := h2 rfl z
    have h3 : dpl s n = some k := h3
    rw [bnd_t]
    refine ⟨?_, fun t ht => ?_⟩
    · show dpl (s ++ (g r).2.2) n = some m
      rw [dpl_app, h3]
      exact h5
    · rcases List.mem_append.mp ht with q | q
      · exact h4 t q
      · exact h6 t q
theorem oneV_lt (i : Nat) (r : List Nat) : oneV i r < (kbs.getD i []).length + 1 := by
  have key : ∀ (l : List Int32) c k, ixL l c = some k → k < l.length := by
    intro l
    induction l with
    | nil => intro c k h; cases h
    | cons a l ih =>
      intro c k h
      unfold ixL at h
      split at h
      · cases h; exact Nat.zero_lt_succ _
      · cases hz : ixL l c with
        | none => rw [hz] at h; cases h
        | some j => rw [hz] at h; cases h; exact Nat.succ_lt_succ (ih c j hz)
  unfold oneV
  cases r with
  | nil => exact Nat.zero_lt_succ _
  | cons b r' =>
    unfold one
    dsimp only
    cases hz : ixL (kbs.getD i []) (nI b) with
    | none => exact Nat.zero_lt_succ _
    | some k => exact Nat.lt_succ_of_lt (key _ _ _ hz)
theorem oneP_s (i : Nat) (r : List Nat) : (oneP i r).2.2 = [] := by
  unfold oneP
  cases one i r with
  | none => rfl
  | some q => rfl
theorem oneV_ltS {i : Nat} {r : List Nat} (h : (oneP i r).1 = true) : oneV i r < (kbs.getD i []).length := by
  have key : ∀ (l : List Int32) c k, ixL l c = some k → k < l.length := by
    intro l
    induction l with
    | nil => intro c k h; cases h
    | cons a l ih =>
      intro c k h
      unfold ixL at h
      split at h
      · cases h; exact Nat.zero_lt_succ _
      · cases hz : ixL l c with
        | none => rw [hz] at h; cases h
        | some j => rw [hz] at h; cases h; exact Nat.succ_lt_succ (ih c j hz)
  unfold oneP at h
  unfold oneV
  cases hq : one i r with
  | none => rw [hq] at h; cases h
  | some q =>
    obtain ⟨k, r'⟩ := q
    cases r with
    | nil => cases hq
    | cons b r1 =>
      unfold one at hq
      dsimp only at hq
      cases hz : ixL (kbs.getD i []) (nI b) with
      | none => rw [hz] at hq; cases hq
      | some j => rw [hz] at hq; cases hq; exact key _ _ _ hz
theorem fig2_lt {n : Nat} {r : List Nat} (hn : n < 10) : (fig2 n r).1 < 100 := by
  unfold fig2
  cases hq : one 6 r with
  | none => show n < 100; omega
  | some q =>
    have h := oneV_ltS (i := 6) (r := r) (by unfold oneP; rw [hq])
    unfold oneV at h
    rw [hq] at h
    have h : q.1 < 10 := h
    show 10 * n + q.1 < 100
    omega
theorem okS_tst1 {n : Nat} {r : List Nat} (hn : n < 20) : okS n (tst1 r) := by
  have e0 : ∀ (i : Nat) (r : List Nat), (oneP i r).1 = true → dpl (oneP i r).2.2 n = some n ∧ ∀ t, t ∈ (oneP i r).2.2 → t = -1 ∨ t = -2 ∨ t = -3 ∨ tok t := by
    intro i r _
    rw [oneP_s]
    exact ⟨rfl, fun t ht => by cases ht⟩
  unfold okS tst1
  refine ok_bnd (e0 4 r) (fun h4 => ok_bnd (e0 5 _) (fun h5 => ok_bnd (e0 6 _) (fun h6 _ => ?_)))
  have v4 := oneV_ltS h4
  have v5 := oneV_ltS h5
  have v6 := oneV_ltS h6
  have v4 : oneV 4 r < 5 := v4
  have v5 : oneV 5 (oneP 4 r).2.1 < 3 := v5
  have v6 : oneV 6 (oneP 5 (oneP 4 r).2.1).2.1 < 10 := v6
  have ht : tok (nI (1000 * oneV 4 r + 100 * oneV 5 (oneP 4 r).2.1 + (fig2 (oneV 6 (oneP 5 (oneP 4 r).2.1).2.1) (oneP 6 (oneP 5 (oneP 4 r).2.1).2.1).2.1).1)) := ⟨_, _, _, v4, v5, fig2_lt v6, rfl⟩
  refine ⟨?_, fun t h => ?_⟩
  · show (dps _ n).bind (dpl []) = some (n + 1)
    obtain ⟨n1, n2, n3, -⟩ := tok_ne ht
    unfold dps
    rw [if_neg n3, if_neg n1, if_neg n2, if_pos hn]
    rfl
  · rcases List.mem_singleton.mp h with rfl
    exact Or.inr (Or.inr (Or.inr ht))
theorem ok_push {n : Nat} {x : PR} {t : Int32} {k : Nat} (h : okS n x) (hd : dps t (n + 1) = some k) (ht : t = -1 ∨ t = -2 ∨ t = -3) : (bnd x (fun r => (true, r, [t]))).1 = true → dpl (bnd x (fun r => (true, r, [t]))).2.2 n = some k ∧ ∀ u, u ∈ (bnd x (fun r => (true, r, [t]))).2.2 → u = -1 ∨ u = -2 ∨ u = -3 ∨ tok u := by
  refine ok_bnd h (fun _ _ => ⟨?_, fun u hu => ?_⟩)
  · show (dps t (n + 1)).bind (dpl []) = some k
    rw [hd]; rfl
  · rcases List.mem_singleton.mp hu with rfl
    rcases ht with h | h | h
    · exact Or.inl h
    · exact Or.inr (Or.inl h)
    · exact Or.inr (Or.inr (Or.inl h))
theorem ok_pz : ∀ f w, w ≤ 4 → (∀ n r, n + 2 * (4 - w) + 3 ≤ 20 → okS n (pz f 0 w r)) ∧ (∀ n r, n + 2 * (4 - w) + 3 ≤ 20 → okZ (n + 1) (pz f 1 w r)) ∧
    (∀ n r, n + 2 * (4 - w) + 2 ≤ 20 → okS n (pz f 2 w r)) ∧ (∀ n r, n + 2 * (4 - w) + 2 ≤ 20 → okZ (n + 1) (pz f 3 w r)) ∧ (∀ n r, n + 2 * (4 - w) + 1 ≤ 20 → okS n (pz f 4 w r)) := by
  intro f
  induction f with
  | zero => intro w _; exact ⟨fun _ _ _ z => ff z, fun _ _ _ z => ff z, fun _ _ _ z => ff z, fun _ _ _ z => ff z, fun _ _ _ z => ff z⟩
  | succ f ih =>
    intro w hw
    obtain ⟨i0, i1, i2, i3, i4⟩ := ih w hw
    have stop : ∀ n r, okZ n (true, r, []) := fun n r _ => ⟨rfl, fun t ht => by cases ht⟩
    refine ⟨fun n r hn => ?_, fun n r hn => ?_, fun n r hn => ?_, fun n r hn => ?_, fun n r hn => ?_⟩
    · rw [pz_0]; exact ok_bnd (i2 n r (by omega)) (fun _ => i1 n _ hn)
    · rw [pz_1]
      split
      · refine ok_bnd (k := n + 1) (ok_push (n := n + 1) (i2 (n + 1) _ (by omega)) ?_ (Or.inr (Or.inl rfl))) (fun _ => i1 n _ hn)
        unfold dps
        rw [if_neg (by decide), if_neg (by decide), if_pos rfl, if_pos (by omega)]; rfl
      · exact stop _ r
    · rw [pz_2]; exact ok_bnd (i4 n r (by omega)) (fun _ => i3 n _ hn)
    · rw [pz_3]
      split
      · refine ok_bnd (k := n + 1) (ok_push (n := n + 1) (i4 (n + 1) _ (by omega)) ?_ (Or.inl rfl)) (fun _ => i3 n _ hn)
        unfold dps
        rw [if_neg (by decide), if_pos rfl, if_pos (by omega)]; rfl
      · exact stop _ r
    · rw [pz_4]
      split
      · split
        · exact fun z => ff z
        · rename_i h4
          obtain ⟨-, -, -, -, j4⟩ := ih (w + 1) (by omega)
          refine ok_push (j4 n _ (by omega)) ?_ (Or.inr (Or.inr rfl))
          unfold dps
          rw [if_pos rfl, if_pos (by omega)]
      · split
        · split
          · exact fun z => ff z
          · rename_i h4
            obtain ⟨j0, -, -, -, -⟩ := ih (w + 1) (by omega)
            refine ok_bnd (j0 n _ (by omega)) (fun _ => ?_)
            split
            · exact fun _ => ⟨rfl, fun t ht => by cases ht⟩
            · exact fun z => ff z
        · exact okS_tst1 (by omega)
/-- fuel that is enough -/
def FU : Nat := 500
theorem okc_pz {r : List Nat} (h : (pz FU 0 0 r).1 = true) : okc (pz FU 0 0 r).2.2 := ((ok_pz FU 0 (by decide)).1 0 r (by decide)) h
