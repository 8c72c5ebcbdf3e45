/-! PURE: the class reads a text -/
theorem okR_app {R : Ru} {c : Cl} (h : okR R) (hc : ((c.1 = 0 ∨ c.1 = 1) ∧ (∃ k : Nat, 1 ≤ k ∧ k ≤ 6 ∧ c.2.1 = nI k) ∧ okc c.2.2) ∨ ((c.1 = 2 ∨ c.1 = 3) ∧ ∃ k : Nat, k ≤ 9 ∧ c.2.1 = nI k)) : okR (R ++ [c]) := by
  intro i w x l hi
  by_cases hl : i < R.length
  · rw [List.getElem?_append_left hl] at hi
    exact h i w x l hi
  · have hc2 : i = R.length := by
      have := (List.getElem?_eq_some_iff.mp hi).1
      rw [List.length_append, List.length_singleton] at this
      omega
    subst hc2
    rw [List.getElem?_append_right (Nat.le_refl _), Nat.sub_self] at hi
    have hi : some c = some (w, x, l) := hi
    cases hi
    exact hc
theorem okCl_pc {r : List Nat} (h : (pcP r).1 = true) : (((pcC r).1 = 0 ∨ (pcC r).1 = 1) ∧ (∃ k : Nat, 1 ≤ k ∧ k ≤ 6 ∧ (pcC r).2.1 = nI k) ∧ okc (pcC r).2.2) ∨ (((pcC r).1 = 2 ∨ (pcC r).1 = 3) ∧ ∃ k : Nat, k ≤ 9 ∧ (pcC r).2.1 = nI k) := by
  unfold pcP at h
  unfold pcC pcW
  by_cases hb : hdI r 98 ∨ hdI r 115
  · rw [if_pos hb] at h
    obtain ⟨h1, h2, -⟩ := bnd_1 h
    obtain ⟨h3, h4, -⟩ := bnd_1 h2
    obtain ⟨h5, h6, -⟩ := bnd_1 h4
    refine Or.inl ⟨?_, ⟨1 + oneV 2 (wd (kbs.getD (wdN r) []) r).2.1, by omega, ?_, by dsimp only; rw [if_pos hb]⟩, ?_⟩
    · unfold soN
      dsimp only
      rcases hb with hb | hb
      · rw [if_pos hb]; exact Or.inl rfl
      · rw [if_pos hb]; split
        · exact Or.inl rfl
        · exact Or.inr rfl
    · have := oneV_ltS h3
      have : oneV 2 (wd (kbs.getD (wdN r) []) r).2.1 < 6 := this
      omega
    · have e : (pcP r).2.2 = (pz FU 0 0 (wd (kbs.getD 3 []) (oneP 2 (wd (kbs.getD (wdN r) []) r).2.1).2.1).2.1).2.2 := by
        unfold pcP
        rw [if_pos hb]
        have e1 : ∀ (a : PR) (k : List Nat → PR), a.1 = true → a.2.2 = [] → (bnd a k).2.2 = (k a.2.1).2.2 := by
          rintro ⟨b, r, s⟩ k z1 z2
          have z1 : b = true := z1
          have z2 : s = [] := z2
          subst z1 z2
          rfl
        rw [e1 _ _ h1 (wd_s _ _), e1 _ _ h3 (oneP_s _ _), e1 _ _ h5 (wd_s _ _)]
      show okc (pcP r).2.2
      rw [e]
      exact okc_pz h6
  · rw [if_neg hb] at h
    obtain ⟨h1, h2, -⟩ := bnd_1 h
    refine Or.inr ⟨?_, oneV 6 (wd (kbs.getD (wdN r) []) r).2.1, ?_, by dsimp only; rw [if_neg hb]⟩
    · unfold soN
      dsimp only
      rw [if_neg (fun z => hb (Or.inl z)), if_neg (fun z => hb (Or.inr z))]
      split
      · exact Or.inl rfl
      · exact Or.inr rfl
    · have := oneV_ltS h2
      have : oneV 6 (wd (kbs.getD (wdN r) []) r).2.1 < 10 := this
      omega
theorem okR_pru : ∀ m x R, (x.1 = true → okR R) → (pru m x R).1 = true → okR (pru m x R).2.2 := by
  intro m
  induction m with
  | zero =>
    intro x R h1 h2
    have h2 : (x.1 && decide (x.2.1 = [])) = true := h2
    exact h1 (by cases hx : x.1; rw [hx] at h2; cases h2; rfl)
  | succ m ih =>
    intro x R h1 h2
    unfold pru at h2 ⊢
    by_cases hc : x.1 = true ∧ hdI x.2.1 59
    · rw [if_pos hc] at h2 ⊢
      refine ih _ _ (fun z => ?_) h2
      exact okR_app (h1 hc.1) (okCl_pc (bnd_1 z).2.1)
    · rw [if_neg hc] at h2 ⊢
      have h2 : (x.1 && decide (x.2.1 = [])) = true := h2
      exact h1 (by cases hx : x.1; rw [hx] at h2; cases h2; rfl)
theorem okR_nil : okR [] := by
  intro i w x l h
  cases h
theorem okR_rd {bs : List Nat} (h : (rdT bs).1 = true) : okR (rdT bs).2.2 := okR_pru 5 _ _ (fun z => okR_app okR_nil (okCl_pc z)) h
theorem flat_take {R : Ru} {c : Nat} {w x : Int32} {l : List Int32} (h : R[c]? = some (w, x, l)) : flat (R.take (c + 1)) = flat (R.take c) ++ l := by
  rw [List.take_add_one, h]
  exact flat_app _ _
theorem flat_at {R : Ru} {c : Nat} {w x : Int32} {l : List Int32} (h : R[c]? = some (w, x, l)) : ∃ rest, flat R = flat (R.take c) ++ l ++ rest := by
  refine ⟨flat (R.drop (c + 1)), ?_⟩
  rw [← flat_take h]
  unfold flat
  rw [← List.flatMap_append, List.take_append_drop]
section PH
variable {nc rr : Nat} {bs : List Nat}
theorem RuC_of {σ : St} {x : PR} {R : Ru} (hX : PX 0 σ bs rr x) (h1 : x.1 = true) (hS : RuS σ rr R) (hf : x.2.2 = flat R) : RuC σ rr R := by
  obtain ⟨s1, s2, s3⟩ := hS
  obtain ⟨p1, p2, p3⟩ := hX.2.2.2.2.2.2.1 h1
  refine ⟨s2, s1, fun c w x' l hc => ?_⟩
  obtain ⟨u1, u2, u3⟩ := s3 c w x' l hc
  obtain ⟨rest, hr⟩ := flat_at hc
  have h100 := hX.1.2.1
  have hlen := congrArg List.length hr
  rw [List.length_append, List.length_append] at hlen
  refine ⟨u1, u2, (flat (R.take c)).length, ?_, ?_, ?_, fun i t ht => ?_⟩
  · cases c with
    | zero => rfl
    | succ c =>
      rw [if_neg (by omega), Nat.add_sub_cancel]
      have hcl : c < R.length := by
        have := (List.getElem?_eq_some_iff.mp hc).1
        omega
      obtain ⟨⟨w2, x2, l2⟩, hz⟩ : ∃ q, R[c]? = some q := ⟨_, List.getElem?_eq_getElem hcl⟩
      exact (s3 c w2 x2 l2 hz).2.2
  · rw [u3, flat_take hc, List.length_append]
  · rw [hf] at p2
    omega
  · refine p3 _ t ?_
    have hi := (List.getElem?_eq_some_iff.mp ht).1
    rw [hf, hr, List.append_assoc, List.getElem?_append_right (Nat.le_add_right _ _), Nat.add_sub_cancel_left, List.getElem?_append_left hi]
    exact ht
theorem c_faultOf {d : Nat} {σ : St} {Q : Int32 → St → Prop} (hn : nc < 5) (hr : rr < 5) (hT : PT σ bs)
    (h : ∀ σ', frC rr σ σ' → ((rdT bs).1 = true → RuC σ' rr (rdT bs).2.2) → (rdT bs).2.1.length ≤ bs.length → Q (if (rdT bs).1 = true then -1 else nI (bs.length - (rdT bs).2.1.length)) σ') : EI (d + 511) (idsC nc) Y_X5_faultOf [.ref 105, .ref (140 + rr)] σ Q := by
  refine fl_X5_faultOf (hTx hn) (hRu hn hr) (fun P25 P60 P78 H25 H60 H78 s10 e10 => ?_)
  have h100 := hT.2.1
  -- the end
  have fin : ∀ x R σ1, CX σ1 bs rr x R → frC rr σ σ1 → rdT bs = (x.1 && decide (x.2.1 = []), x.2.1, R) → P60 σ1 := by
    intro x R σ1 hC hf e
    have hle := hC.1.le
    rw [e] at h
    refine H60 _ ?_
    rw [hC.1.2.2.2.2.2.1, hC.1.2.2.2.2.1, hC.1.1.1]
    have bad : (x.1 && decide (x.2.1 = [])) = false → P78 σ1 := by
      intro z
      refine H78 _ ?_
      rw [hC.1.2.2.2.2.1]
      have := h σ1 hf (fun y => by rw [show (x.1 && decide (x.2.1 = [])) = true from y] at z; cases z) hle
      rw [if_neg (by show ¬ (x.1 && decide (x.2.1 = [])) = true; rw [z]; decide)] at this
      exact this
    obtain ⟨b, r, s⟩ := x
    cases b
    · exact ⟨fun _ => bad rfl, fun z => absurd z n1_0⟩
    · refine ⟨fun z => absurd rfl z, fun _ => ⟨fun z => ?_, fun z => bad ?_⟩⟩
      · have hl0 := (nI_leI (by omega) (by omega)).mp z
        have hle : r.length ≤ bs.length := hle
        have hl0 : bs.length ≤ bs.length - r.length := hl0
        have hC2 := hC.2.2 rfl
        cases r with
        | nil =>
          have := h σ1 hf (fun _ => RuC_of hC.1 rfl hC2.1 hC2.2) hle
          rw [if_pos (by rfl)] at this
          exact this
        | cons a r => rw [List.length_cons] at hl0 hle; omega
      · cases r with
        | nil => exact absurd (nI_le (Nat.le_refl _) (by omega)) z
        | cons a r => rfl
  have loop : ∀ m j x R σ1, j + m = 6 → CX σ1 bs rr x R → frC rr σ σ1 → R.length = j → rdT bs = pru m x R → P25 (nI j) σ1 := by
    intro m
    induction m with
    | zero =>
      intro j x R σ1 q1 q2 q3 q4 q5
      have : j = 6 := by omega
      subst this
      exact H25 _ _ ⟨fun _ => fin x R σ1 q2 q3 q5, fun z => absurd (nI_le (a := 6) (Nat.le_refl _) (by decide)) z⟩
    | succ m ih =>
      intro j x R σ1 q1 q2 q3 q4 q5
      unfold pru at q5
      refine H25 _ _ ⟨fun z => absurd ((nI_leI (a := 6) (by decide) (by omega)).mp z) (by omega), fun _ => ?_⟩
      show EI (d + 510) _ _ _ _ _
      refine c_isNext (c := 59) hn q2.1 ⟨fun z => fin x R σ1 q2 q3 ?_, fun z s5 e5 => ?_⟩ (by decide)
      · rw [q5, if_neg (fun y => nx_0 z y.1 y.2)]
      · obtain ⟨r, s, rfl⟩ := nx_1 z
        rw [if_pos ⟨rfl, rfl⟩] at q5
        obtain ⟨a1, a2⟩ := q2.1.adv
        rw [← e5] at a1 a2
        have hC5 : CX s5 bs rr (true, r, s) R := ⟨a1.weak (Nat.zero_le _), by obtain ⟨k, k1, k2⟩ := q2.2.1; exact ⟨k, k1, by rw [a2.1 _ 0 (by omega) (by omega) (by omega)]; exact k2⟩, fun _ => ⟨RuS_fr hr (q2.2.2 rfl).1 a2, (q2.2.2 rfl).2⟩⟩
        refine c_takeClause (d := d) hn hC5 (fun _ => by omega) (fun σ2 f2 g2 x7 e7 => ?_)
        rw [e7, ← nI_succ]
        exact ih (j + 1) _ _ σ2 (by omega) g2 ((q3.tr a2.C).tr f2) (by rw [List.length_append, q4]; rfl) q5
  have f10 : frC rr σ s10 := by rw [e10]; exact (frC.rf rr σ).si _ (by omega)
  show EV (d + 510) _ _ _ _ _
  refine fl_X3_clear (hRu hn hr) (fun s1 e1 s2 e2 s12 e12 s13 e13 => ?_)
  have f13 : frC rr σ s13 := by
    rw [e13, e12, e2, e1]
    exact (((f10.si _ (by omega)).si _ (by omega)).si _ (by omega)).si _ (by omega)
  have hC : CX s13 bs rr (true, bs, []) [] := by
    refine ⟨⟨PT_frC hr hT f13, hr, ?_, ⟨[], rfl⟩, ?_, ?_, fun _ => ⟨?_, ?_, fun i t ht => by cases ht⟩, 0, by decide, ?_⟩, ⟨0, by decide, ?_⟩, fun _ => ⟨⟨?_, by decide, fun c w x l hc => by cases hc⟩, rfl⟩⟩
    · rw [e13, gi_ne_k _ _ _ _ (by decide), e12, gi_ne_k _ _ _ _ (by decide), e2, gi_ne_o _ _ _ _ (by omega), e1, gi_ne_o _ _ _ _ (by omega), e10, gi_same]
      exact dc_nI (by omega)
    · rw [e13, gi_ne_k _ _ _ _ (by decide), e12, gi_same]
      show (0 : Int32) = nI (bs.length - bs.length)
      rw [Nat.sub_self]; rfl
    · rw [e13, gi_same]; rfl
    · rw [e13, gi_ne_o _ _ _ _ (by omega), e12, gi_ne_o _ _ _ _ (by omega), e2, gi_same]; rfl
    · show 0 + bs.length + 0 ≤ bs.length
      omega
    · rw [e13, gi_ne_o _ _ _ _ (by omega), e12, gi_ne_o _ _ _ _ (by omega), e2, gi_same]; rfl
    · rw [e13, gi_ne_o _ _ _ _ (by omega), e12, gi_ne_o _ _ _ _ (by omega), e2, gi_ne_k _ _ _ _ (by decide), e1, gi_same]; rfl
    · rw [e13, gi_ne_o _ _ _ _ (by omega), e12, gi_ne_o _ _ _ _ (by omega), e2, gi_ne_k _ _ _ _ (by decide), e1, gi_same]; rfl
  show EV (d + 510) _ _ _ _ _
  refine c_takeClause (d := d) hn hC (fun _ => by decide) (fun σ2 f2 g2 => ?_)
  refine loop 5 1 _ _ σ2 rfl g2 (f13.tr f2) rfl ?_
  rfl
end PH
