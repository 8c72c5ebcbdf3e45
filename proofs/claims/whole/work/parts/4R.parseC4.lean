/-! PURE: the class's reader: what stands within others -/
def lnX (x : PR) : Nat := if x.1 = true then x.2.1.length else 0
theorem bnd_cons {c : Nat} {r : List Nat} {s : List Int32} {k g : List Nat → PR} (h : k (c :: r) = g r) : bnd (true, c :: r, s) k = bnd (true, r, s) g := by rw [bnd_t, bnd_t, h]
theorem lnX_bnd {a : PR} {k : List Nat → PR} (h : a.1 = true → (k a.2.1).2.1.length ≤ a.2.1.length) : lnX (bnd a k) ≤ lnX a := by
  obtain ⟨b, r, s⟩ := a
  cases b
  · exact Nat.le_refl _
  · have h := h rfl
    rw [bnd_t]
    unfold lnX
    rw [if_pos rfl]
    split
    · exact h
    · exact Nat.zero_le _
theorem lnX_pz (f m w : Nat) (hm : m ≤ 4) (a : PR) : lnX (bnd a (pz f m w)) ≤ lnX a := lnX_bnd (fun _ => (sfR_pz f m w _ hm).len)
theorem lnX_st (a : PR) (t : Int32) : lnX (bnd a (fun r => (true, r, [t]))) ≤ lnX a := lnX_bnd (fun _ => Nat.le_refl _)
theorem bnd_stop {x : PR} {k : List Nat → PR} (h : x.1 = true → k x.2.1 = (true, x.2.1, [])) : bnd x k = x := by
  obtain ⟨b, r, s⟩ := x
  cases b
  · rfl
  · rw [bnd_t, h rfl, List.append_nil]
/-- what is next -/
theorem nx_0 {x : PR} {c : Nat} (h : nI (x.1 && decide (x.2.1.head? = some c)).toNat = 0) : x.1 = true → ¬ x.2.1.head? = some c := by
  intro h1 h2
  have := tn0 h
  rw [h1, decide_eq_true h2] at this
  cases this
theorem nx_1 {x : PR} {c : Nat} (h : ¬ nI (x.1 && decide (x.2.1.head? = some c)).toNat = 0) : ∃ r s, x = (true, c :: r, s) := by
  obtain ⟨b, r, s⟩ := x
  have := tn1 h
  cases b
  · cases this
  · have h2 : r.head? = some c := of_decide_eq_true this
    exact ⟨r.tail, s, by rw [← head_tail h2]⟩
section PE
variable {nc rr : Nat} {bs : List Nat}
/-- what the readers of one fuel do -/
def SPa (nc rr : Nat) (bs : List Nat) (f : Nat) : Prop := ∀ (d w e : Nat) (σ : St) (x : PR) (Q : St → Prop), w ≤ 4 → PX e σ bs rr x →
  (4 * lnX x + 3 ≤ f → (∀ σ', frP rr σ σ' → PX e σ' bs rr (bnd x (pz f 0 w)) → Q σ') → EV (d + f + 8) (idsC nc) Y_X5_takeEither [.ref 105, .int (nI w)] σ Q) ∧
  (4 * lnX x + 2 ≤ f → (∀ σ', frP rr σ σ' → PX e σ' bs rr (bnd x (pz f 2 w)) → Q σ') → EV (d + f + 8) (idsC nc) Y_X5_takeBoth [.ref 105, .int (nI w)] σ Q) ∧
  (4 * lnX x + 1 ≤ f → (∀ σ', frP rr σ σ' → PX e σ' bs rr (bnd x (pz f 4 w)) → Q σ') → EV (d + f + 8) (idsC nc) Y_X5_takePart [.ref 105, .int (nI w)] σ Q)
theorem m1n (left : Nat) (h : 0 < left) : nI left + (-1) = nI (left - 1) := by
  rw [← Int32.sub_eq_add_neg]
  obtain ⟨k, rfl⟩ : ∃ k, left = k + 1 := ⟨left - 1, by omega⟩
  exact nI_pred k
theorem c_pz (hn : nc < 5) : ∀ f, SPa nc rr bs f := by
  intro f
  induction f using Nat.strongRecOn with
  | _ f IH =>
  intro d w e σ x Q hw hX
  have h100 := hX.1.2.1
  refine ⟨fun hf h => ?_, fun hf h => ?_, fun hf h => ?_⟩
  · obtain ⟨f, rfl⟩ : ∃ g, f = g + 1 := ⟨f - 1, by omega⟩
    refine fl_X5_takeEither (hTx hn) (fun P8 H8 => ?_)
    have hlx : lnX x ≤ 100 := by
      have := hX.le
      unfold lnX
      split <;> omega
    have loop : ∀ g left y σ1, g ≤ f → PX e σ1 bs rr y → frP rr σ σ1 → lnX y ≤ left → left ≤ 100 → 4 * lnX y + 1 ≤ g → bnd y (pz g 1 w) = bnd x (pz (f + 1) 0 w) → P8 (nI left) σ1 := by
      intro g
      induction g with
      | zero => intro left y σ1 q1 q2 q3 q4 q5 q6; omega
      | succ g ihg =>
        intro left y σ1 q1 q2 q3 q4 q5 q6 q7
        have stop : (y.1 = true → ¬ y.2.1.head? = some 124) → Q σ1 := by
          intro hs
          refine h σ1 q3 ?_
          rw [← q7, bnd_stop (fun z => by rw [pz_1, if_neg (hs z)])]
          exact q2
        refine H8 _ _ ⟨fun z => stop (fun z1 z2 => ?_), fun z => ?_⟩
        · have hl0 : left = 0 := Classical.byContradiction (fun y => nI_nle (by omega) (by omega) z)
          rw [hl0] at q4
          unfold lnX at q4
          rw [if_pos z1, head_tail z2, List.length_cons] at q4
          omega
        · have hl0 : 0 < left := by
            refine Nat.pos_of_ne_zero (fun y => z ?_)
            rw [y]; decide
          refine c_isNext (c := 124) hn q2 ⟨fun z => stop (nx_0 z), fun z s5 e5 => ?_⟩ (by decide)
          obtain ⟨r, s, rfl⟩ := nx_1 z
          obtain ⟨a1, a2⟩ := q2.adv
          rw [← e5] at a1 a2
          have hl1 : lnX (true, r, s) + 1 = lnX (true, 124 :: r, s) := rfl
          have hd : d + f + 8 = (d + (f - g)) + g + 8 := by omega
          show EV (d + f + 8) _ _ _ _ _
          rw [hd]
          refine (IH g (by omega) (d + (f - g)) w (e + 1) s5 (true, r, s) _ hw a1).2.1 (by omega) (fun σ2 b1 b2 => ?_)
          rw [b2.2.2.1]
          refine ⟨fun z => (by cases z), fun r7 er => ?_⟩
          cases er
          refine ⟨hRu hn b2.2.1, c_addStep hn b2 (fun σ3 t1 t2 x9 e9 => ?_)⟩
          rw [e9, m1n left hl0]
          have hl2 := Nat.le_trans (lnX_st (bnd (true, r, s) (pz g 2 w)) (-2)) (lnX_pz g 2 w (by decide) (true, r, s))
          refine ihg (left - 1) _ σ3 (by omega) t2 (((q3.tr a2).tr b1).tr t1) (by omega) (by omega) (by omega) (Eq.trans ?_ q7)
          refine Eq.trans ?_ (bnd_cons (g := fun r => bnd (bnd (pz g 2 w r) (fun r => (true, r, [-2]))) (pz g 1 w)) ?_).symm
          · rw [bnd_bnd, bnd_bnd]
            congr 1
            funext r
            rw [bnd_bnd]
          · rw [pz_1, if_pos (show (124 :: r).head? = some 124 from rfl)]; rfl
    refine (IH f (by omega) d w e σ x _ hw hX).2.1 (by omega) (fun σ1 b1 b2 => ?_)
    have hl2 := lnX_pz f 2 w (by decide) x
    refine loop f 100 _ σ1 (Nat.le_refl _) b2 b1 (by omega) (Nat.le_refl _) (by omega) ?_
    rw [bnd_bnd]
    rfl
  · obtain ⟨f, rfl⟩ : ∃ g, f = g + 1 := ⟨f - 1, by omega⟩
    refine fl_X5_takeBoth (hTx hn) (fun P8 H8 => ?_)
    have hlx : lnX x ≤ 100 := by
      have := hX.le
      unfold lnX
      split <;> omega
    have loop : ∀ g left y σ1, g ≤ f → PX e σ1 bs rr y → frP rr σ σ1 → lnX y ≤ left → left ≤ 100 → 4 * lnX y + 1 ≤ g → bnd y (pz g 3 w) = bnd x (pz (f + 1) 2 w) → P8 (nI left) σ1 := by
      intro g
      induction g with
      | zero => intro left y σ1 q1 q2 q3 q4 q5 q6; omega
      | succ g ihg =>
        intro left y σ1 q1 q2 q3 q4 q5 q6 q7
        have stop : (y.1 = true → ¬ y.2.1.head? = some 38) → Q σ1 := by
          intro hs
          refine h σ1 q3 ?_
          rw [← q7, bnd_stop (fun z => by rw [pz_3, if_neg (hs z)])]
          exact q2
        refine H8 _ _ ⟨fun z => stop (fun z1 z2 => ?_), fun z => ?_⟩
        · have hl0 : left = 0 := Classical.byContradiction (fun y => nI_nle (by omega) (by omega) z)
          rw [hl0] at q4
          unfold lnX at q4
          rw [if_pos z1, head_tail z2, List.length_cons] at q4
          omega
        · have hl0 : 0 < left := by
            refine Nat.pos_of_ne_zero (fun y => z ?_)
            rw [y]; decide
          refine c_isNext (c := 38) hn q2 ⟨fun z => stop (nx_0 z), fun z s5 e5 => ?_⟩ (by decide)
          obtain ⟨r, s, rfl⟩ := nx_1 z
          obtain ⟨a1, a2⟩ := q2.adv
          rw [← e5] at a1 a2
          have hl1 : lnX (true, r, s) + 1 = lnX (true, 38 :: r, s) := rfl
          have hd : d + f + 8 = (d + (f - g)) + g + 8 := by omega
          show EV (d + f + 8) _ _ _ _ _
          rw [hd]
          refine (IH g (by omega) (d + (f - g)) w (e + 1) s5 (true, r, s) _ hw a1).2.2 (by omega) (fun σ2 b1 b2 => ?_)
          rw [b2.2.2.1]
          refine ⟨fun z => (by cases z), fun r7 er => ?_⟩
          cases er
          refine ⟨hRu hn b2.2.1, c_addStep hn b2 (fun σ3 t1 t2 x9 e9 => ?_)⟩
          rw [e9, m1n left hl0]
          have hl2 := Nat.le_trans (lnX_st (bnd (true, r, s) (pz g 4 w)) (-1)) (lnX_pz g 4 w (by decide) (true, r, s))
          refine ihg (left - 1) _ σ3 (by omega) t2 (((q3.tr a2).tr b1).tr t1) (by omega) (by omega) (by omega) (Eq.trans ?_ q7)
          refine Eq.trans ?_ (bnd_cons (g := fun r => bnd (bnd (pz g 4 w r) (fun r => (true, r, [-1]))) (pz g 3 w)) ?_).symm
          · rw [bnd_bnd, bnd_bnd]
            congr 1
            funext r
            rw [bnd_bnd]
          · rw [pz_3, if_pos (show (38 :: r).head? = some 38 from rfl)]; rfl
    refine (IH f (by omega) d w e σ x _ hw hX).2.2 (by omega) (fun σ1 b1 b2 => ?_)
    have hl2 := lnX_pz f 4 w (by decide) x
    refine loop f 100 _ σ1 (Nat.le_refl _) b2 b1 (by omega) (Nat.le_refl _) (by omega) ?_
    rw [bnd_bnd]
    rfl
  · obtain ⟨f, rfl⟩ : ∃ g, f = g + 1 := ⟨f - 1, by omega⟩
    refine fl_X5_takePart (hTx hn) (fun P27 H27 => ?_)
    have e1 : nI w + 1 = nI (w + 1) := nI_1 w
    refine c_isNext (c := 33) hn hX ⟨fun z => H27 _ _ ?_, fun z => c_isNext (c := 40) hn hX ⟨fun z2 => H27 _ _ ?_, fun z2 => ?_⟩ (by decide)⟩ (by decide)
    · obtain ⟨r, s, rfl⟩ := nx_1 z
      have hl1 : lnX (true, r, s) + 1 = lnX (true, 33 :: r, s) := rfl
      refine ⟨fun c => ⟨fun z0 => absurd z0 z, fun _ s6 e6 => ?_⟩, fun c s10 e10 => ?_⟩
      · have hw4 : w < 4 := (nI_ltI (b := 4) (by omega) (by decide)).mp c
        obtain ⟨a1, a2⟩ := hX.adv
        rw [← e6] at a1 a2
        rw [e1]
        refine (IH f (by omega) d (w + 1) (e + 1) s6 (true, r, s) _ (by omega) a1).2.2 (by omega) (fun σ2 b1 b2 => ?_)
        rw [b2.2.2.1]
        refine ⟨fun z => (by cases z), fun r7 er => ?_⟩
        cases er
        refine ⟨hRu hn b2.2.1, c_addStep hn b2 (fun σ3 t1 t2 => h σ3 ((a2.tr b1).tr t1) ?_)⟩
        rw [bnd_cons (g := fun r => bnd (pz f 4 (w + 1) r) (fun r => (true, r, [-3]))) (by rw [pz_4, if_pos (show (33 :: r).head? = some 33 from rfl), if_neg (by omega)]; rfl), ← bnd_bnd]
        exact t2
      · have hw4 : 4 ≤ w := Classical.byContradiction (fun y => c (nI_lt (b := 4) (by omega) (by decide)))
        obtain ⟨a1, a2⟩ := hX.flt (e2 := e) (s ++ [])
        rw [← e10] at a1 a2
        refine h s10 a2 ?_
        rw [bnd_t, pz_4, if_pos (show (33 :: r).head? = some 33 from rfl), if_pos hw4]
        exact a1
    · obtain ⟨r, s, rfl⟩ := nx_1 z2
      have hl1 : lnX (true, r, s) + 1 = lnX (true, 40 :: r, s) := rfl
      have h33 : ¬ (40 :: r).head? = some 33 := by
        intro y
        cases y
      refine ⟨fun c => ⟨fun _ s3 e3 => ?_, fun z0 => absurd z z0⟩, fun c s10 e10 => ?_⟩
      · have hw4 : w < 4 := (nI_ltI (b := 4) (by omega) (by decide)).mp c
        obtain ⟨a1, a2⟩ := hX.adv
        rw [← e3] at a1 a2
        rw [e1]
        refine (IH f (by omega) d (w + 1) (e + 1) s3 (true, r, s) _ (by omega) a1).1 (by omega) (fun σ2 b1 b2 => ?_)
        show EV (d + f + 8) _ _ _ _ _
        rw [show d + f + 8 = (d + f + 3) + 5 by omega]
        refine c_take hn (by decide) (b2.weak (Nat.le_succ e)) (fun σ3 t1 t2 => h σ3 ((a2.tr b1).tr t1) ?_)
        rw [bnd_cons (g := fun r => bnd (pz f 0 (w + 1) r) (fun r => if r.head? = some 41 then (true, r.tail, []) else (false, r, []))) (by rw [pz_4, if_neg h33, if_pos (show (40 :: r).head? = some 40 from rfl), if_neg (by omega)]; rfl), ← bnd_bnd]
        rw [bnd_congr (g := wd (kbs.getD 7 [])) (fun _ => ?_)]
        · exact t2
        · generalize bnd (true, r, s) (pz f 0 (w + 1)) = y at b2
          obtain ⟨y1, y2, y3⟩ := y
          cases y2 with
          | nil => rfl
          | cons b r2 =>
            obtain ⟨-, g2, -⟩ := b2.byte (s2 := []) rfl
            rw [show (b :: r2).head? = some b from rfl]
            show (if some b = some 41 then (true, r2, []) else (false, b :: r2, [])) = (if nI b = 41 then (true, r2, []) else (false, b :: r2, []))
            by_cases h41 : b = 41
            · rw [if_pos (congrArg some h41), if_pos (by rw [h41]; rfl)]
            · rw [if_neg (fun z => h41 (Option.some.inj z)), if_neg (show ¬ nI b = 41 from fun z => h41 ((nI_eq (b := 41) (by omega) (by decide)).mp z))]
      · have hw4 : 4 ≤ w := Classical.byContradiction (fun y => c (nI_lt (b := 4) (by omega) (by decide)))
        obtain ⟨a1, a2⟩ := hX.flt (e2 := e) (s ++ [])
        rw [← e10] at a1 a2
        refine h s10 a2 ?_
        rw [bnd_t, pz_4, if_neg h33, if_pos (show (40 :: r).head? = some 40 from rfl), if_pos hw4]
        exact a1
    · have n1 := nx_0 z
      have n2 := nx_0 z2
      show EV (d + f + 8) _ _ _ _ _
      refine c_takeTest hn hX (fun σ' f1 g1 => h σ' f1 ?_)
      rw [bnd_congr (g := tst1) (fun z => by rw [pz_4, if_neg (n1 z), if_neg (n2 z)])]
      exact g1
end PE
