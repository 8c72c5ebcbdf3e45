/-! PURE: the reference reads clauses -/
theorem wd_hit {k : Nat} {w : List Int32} {r : List Nat} (h : r.head? = some k) : wd (nI k :: w) r = wd w r.tail := by
  have e := head_tail h
  generalize r.tail = r1 at e
  subst e
  show (if nI k = nI k then wd w r1 else _) = _
  rw [if_pos rfl]
theorem drop_getD {l : List Int32} {j : Nat} (h : j < l.length) : l.drop j = l.getD j 0 :: l.drop (j + 1) := by
  rw [List.drop_eq_getElem_cons h, List.getD_eq_getElem?_getD, List.getElem?_eq_getElem h]
  rfl
section RZ
variable {rr : Nat} {bs : List Nat}
theorem wd_miss {τ : St} {o : List Int32} {k : Nat} {w : List Int32} {r : List Nat} (hM : MO τ bs rr r o) (hk : k < 128) (h : ¬ r.head? = some k) : wd (nI k :: w) r = (false, r, []) := by
  cases r with
  | nil => rfl
  | cons b r =>
    obtain ⟨-, b2, -⟩ := hM.byte
    show (if nI b = nI k then wd w r else (false, b :: r, [])) = _
    rw [if_neg (fun z => h (congrArg some ((nI_eq (by omega) (by omega)).mp z)))]
theorem bnd_e {a : PR} {k : List Nat → PR} (h : a.1 = true) (hs : a.2.2 = []) : bnd a k = k a.2.1 := by
  obtain ⟨b, r, s⟩ := a
  have h : b = true := h
  have hs : s = [] := hs
  subst h hs
  rfl
theorem bnd_n (r : List Nat) (k : List Nat → PR) : bnd (true, r, []) k = k r := by
  rw [bnd_t]
  rcases k r with ⟨a, b, c⟩
  rfl
theorem bnd_0 {a : PR} {k : List Nat → PR} (h : a.1 = false) : bnd a k = a := by
  obtain ⟨b, r, s⟩ := a
  have h : b = false := h
  subst h
  rfl
theorem r_takesWord {d i L : Nat} {a0 : Int32} {τ : St} {r : List Nat} {o : List Int32} {Q : Int32 → St → Prop} (hi : i < 10) (hL : L ≤ 4) (hlen : (kbs.getD i []).length = L + 1) (hsp : kch i L = 32) (hcode : ∀ m, m < L → (96 + ((a0 >>> ((5 * nI m) &&& 31)) &&& 31)) = nI (kch i (L - 1 - m)))
    (hM : MO τ bs rr r o) (h1 : (wd (kbs.getD i []) r).1 = true → ∀ τ', MO τ' bs rr (wd (kbs.getD i []) r).2.1 o → frE rr τ τ' → Q 1 τ') (h0 : (wd (kbs.getD i []) r).1 = false → ∀ τ', gi τ' 0 10 = nI (bs.length - (wd (kbs.getD i []) r).2.1.length) → frE rr τ τ' → Q 0 τ') : EI (d + 3) idsR Y_X7_takesWord [.ref 0, .int a0, .int (nI L)] τ Q := by
  refine fl_X7_takesWord hR (fun P4 H4 x8 e8 => ?_)
  subst e8
  have hdr : ∀ j, j ≤ L → (kbs.getD i []).drop j = nI (kch i j) :: (kbs.getD i []).drop (j + 1) ∧ kch i j < 128 := by
    intro j hj
    have hjl : j < (kbs.getD i []).length := by omega
    obtain ⟨c1, c2, -, -⟩ := kch_ok i hi j (by omega)
    refine ⟨?_, c2⟩
    rw [drop_getD hjl, c1]
  have loop : ∀ m r1 τ1, m ≤ L → MO τ1 bs rr r1 o → frE rr τ τ1 → wd ((kbs.getD i []).drop (L - m)) r1 = wd (kbs.getD i []) r → P4 (nI m - 1) τ1 := by
    intro m
    induction m with
    | zero =>
      intro r1 τ1 q1 q2 q3 q4
      obtain ⟨e1, -⟩ := hdr L (Nat.le_refl _)
      have e2 : (kbs.getD i []).drop (L + 1) = [] := List.drop_of_length_le (by omega)
      rw [Nat.sub_zero, e1, e2, hsp] at q4
      refine H4 _ _ ⟨fun _ => ?_, fun z => absurd (by decide) z⟩
      refine r_takes (c := 32) (by decide) q2 (fun z τ2 a1 a2 a3 => ⟨Or.inr rfl, ?_⟩) (fun z => ⟨Or.inl rfl, ?_⟩)
      · rw [wd_hit z] at q4
        rw [← q4] at h1
        exact h1 rfl τ2 a1 (q3.tr a2)
      · rw [wd_miss q2 (by decide) z] at q4
        rw [← q4] at h0
        exact h0 rfl τ1 q2.2.2.2.1 q3
    | succ m ih =>
      intro r1 τ1 q1 q2 q3 q4
      obtain ⟨e1, e3⟩ := hdr (L - (m + 1)) (by omega)
      rw [e1] at q4
      rw [nI_pred]
      refine H4 _ _ ⟨fun z => absurd z (nI_pos (by omega)), fun _ => ?_⟩
      rw [hcode m (by omega), show L - 1 - m = L - (m + 1) by omega]
      refine r_takes e3 q2 (fun z τ2 a1 a2 a3 => ⟨fun _ x7 e7 => ?_, fun y => absurd y (by decide)⟩) (fun z => ⟨fun y => absurd rfl y, fun _ => ?_⟩)
      · rw [e7, ← Int32.sub_eq_add_neg]
        refine ih _ τ2 (by omega) a1 (q3.tr a2) ?_
        rw [← q4, wd_hit z]
        congr 2; omega
      · rw [wd_miss q2 e3 z] at q4
        rw [← q4] at h0
        exact h0 rfl τ1 q2.2.2.2.1 q3
  exact loop L r τ (Nat.le_refl _) hM (frE.rf _ _) (by rw [Nat.sub_self]; rfl)
theorem kdc : ∀ b, b < 256 → (if sx b = 100 then (1 : Int32) else if sx b = 120 then 2 else if sx b = 108 then 3 else if sx b = 102 then 4 else if sx b = 110 then 5 else if sx b = 116 then 6 else 0) = (match ixL (kbs.getD 2 []) (nI b) with | some k => nI (1 + k) | none => 0) := by decide +kernel
/-- a KIND, a blank, an E -/
def kP (r : List Nat) : PR := bnd (oneP 2 r) (fun r2 => bnd (wd (kbs.getD 3 []) r2) (pz FU 0 0))
theorem r_takesKind {d c : Nat} {τ : St} {r : List Nat} {o : List Int32} {Q : Int32 → St → Prop} (hc : c < 30) (hM : MO τ bs rr r o)
    (h1 : (kP r).1 = true → ∀ τ', MO τ' bs rr (kP r).2.1 (o ++ (kP r).2.2) → frQ rr c τ τ' → gi τ' 14 c = gi τ 14 c → gi τ' 15 c = nI (1 + oneV 2 r) → gi τ' 17 c = nI (100 * rr + o.length) → gi τ' 18 c = nI (100 * rr + (o ++ (kP r).2.2).length) → Q 1 τ')
    (h0 : (kP r).1 = false → ∀ τ', gi τ' 0 10 = nI (bs.length - (kP r).2.1.length) → frQ rr c τ τ' → Q 0 τ') : EI (d + 6) idsR Y_X7_takesKind [.ref 0, .int (nI c)] τ Q := by
  refine fl_X7_takesKind hR (fun P72 H72 => r_next hM ?_)
  -- the kind is known
  have key : ∀ t : Int32, (t = match one 2 r with | some (k, _) => nI (1 + k) | none => 0) → P72 t (nI c) 15 τ := by
    intro t ht
    refine H72 _ _ _ _ (fun hA => ⟨vp_in_nI hc (by decide), fun s2 e2 => ⟨vp_in_nI hc (by decide), ?_⟩⟩)
    rw [cl_ix c (by omega)] at e2
    rw [cl_ix c (by omega), rf0]
    have g15 : gi s2 15 c = t := by rw [e2, gi_same]
    have f2 : frQ rr c τ s2 := by rw [e2]; exact (frQ.rf rr c τ).si _ (by omega)
    have hM2 : MO s2 bs rr r o := hM.put (fun x k b1 b2 b3 b4 => by rw [e2, gi_si, if_neg (by omega)])
    rw [g15]
    cases hz : one 2 r with
    | none =>
      rw [hz] at ht
      have ho : kP r = (false, r, []) := by
        have h2 : oneP 2 r = (false, r, []) := by unfold oneP; rw [hz]
        unfold kP
        rw [h2, bnd_f]
      rw [ho] at h0
      exact ⟨fun z => absurd ht z, fun _ => h0 rfl s2 hM2.2.2.2.1 f2⟩
    | some q =>
      obtain ⟨k, r1⟩ := q
      rw [hz] at ht
      have ht : t = nI (1 + k) := ht
      cases r with
      | nil => cases hz
      | cons b r =>
      obtain ⟨rfl, -⟩ := one_tail hz
      have hk : k < 6 := by
        have := oneV_ltS (i := 2) (r := b :: r1) (by unfold oneP; rw [hz])
        unfold oneV at this
        rw [hz] at this
        exact this
      have hv : oneV 2 (b :: r1) = k := by unfold oneV; rw [hz]
      have hkP : kP (b :: r1) = bnd (wd (kbs.getD 3 []) r1) (pz FU 0 0) := by
        have h2 : oneP 2 (b :: r1) = (true, r1, []) := by unfold oneP; rw [hz]
        unfold kP
        rw [h2, bnd_n]
      rw [hv] at h1
      rw [hkP] at h1 h0
      refine ⟨fun _ s5 e5 => ?_, fun z => absurd z (by rw [ht]; exact nI_ne0 (by omega) (by omega))⟩
      obtain ⟨a1, a2, a3⟩ := hM2.adv e5
      have hw3 : kbs.getD 3 [] = [nI 32] := rfl
      rw [hw3] at h1 h0
      refine r_takes (c := 32) (by decide) a1 (fun z τ3 b1 b2 b3 => ⟨fun y => absurd y (by decide), fun _ => ?_⟩) (fun z => ⟨fun _ => ?_, fun y => absurd rfl y⟩)
      · have ew : bnd (wd [nI 32] r1) (pz FU 0 0) = pz FU 0 0 r1.tail := by
          rw [wd_hit z, wd, bnd_n]
        rw [ew] at h1 h0
        have f3 : frQ rr c τ τ3 := (f2.tr (a2.Q c)).tr (b2.Q c)
        have g3 : ∀ x, 14 ≤ x → x ≤ 16 → gi τ3 x c = gi s2 x c := fun x x1 x2 => by
          rw [b2.1 x c (by omega) (by omega) (by omega), a2.1 x c (by omega) (by omega) (by omega)]
        refine r_takesE (c := c) hc b1 (fun y τ4 c1 c2 c3 c4 c5 => ⟨fun y => absurd y (by decide), fun _ => h1 y τ4 c1 (f3.tr c2) ?_ ?_ c3 c4⟩) (fun y τ4 c1 c2 => ⟨fun _ => h0 y τ4 c1 (f3.tr c2), fun y => absurd rfl y⟩)
        · rw [c5 14 (by decide) (by decide), g3 14 (by decide) (by decide), e2, gi_ne_o _ _ _ _ (by decide)]
        · rw [c5 15 (by decide) (by decide), g3 15 (by decide) (by decide), g15, ht]
      · rw [wd_miss a1 (by decide) z, bnd_f] at h0
        exact h0 rfl s5 a1.2.2.2.1 (f2.tr (a2.Q c))
  have key2 : ∀ t : Int32, t = (if nxR r = 100 then (1 : Int32) else if nxR r = 120 then 2 else if nxR r = 108 then 3 else if nxR r = 102 then 4 else if nxR r = 110 then 5 else if nxR r = 116 then 6 else 0) → P72 t (nI c) 15 τ := by
    intro t ht
    refine key t (ht.trans ?_)
    cases r with
    | nil => rfl
    | cons b r =>
      obtain ⟨-, b2, -⟩ := hM.byte
      refine (kdc b b2).trans ?_
      unfold one
      dsimp only
      cases ixL (kbs.getD 2 []) (nI b) <;> rfl
  refine ⟨fun n1 => ⟨fun n2 => ⟨fun n3 => ⟨fun n4 => ⟨fun n5 => ⟨fun n6 => key2 0 ?_, fun n6 => key2 6 ?_⟩, fun n5 => key2 5 ?_⟩, fun n4 => key2 4 ?_⟩, fun n3 => key2 3 ?_⟩, fun n2 => key2 2 ?_⟩, fun n1 => key2 1 ?_⟩
  · rw [if_neg n1, if_neg n2, if_neg n3, if_neg n4, if_neg n5, if_neg n6]
  · rw [if_neg n1, if_neg n2, if_neg n3, if_neg n4, if_neg n5, if_pos n6]
  · rw [if_neg n1, if_neg n2, if_neg n3, if_neg n4, if_pos n5]
  · rw [if_neg n1, if_neg n2, if_neg n3, if_pos n4]
  · rw [if_neg n1, if_neg n2, if_pos n3]
  · rw [if_neg n1, if_pos n2]
  · rw [if_pos n1]
end RZ
