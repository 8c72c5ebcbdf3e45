/-! PURE: the class's reader: its state, one sign, words, steps -/
def PT (σ : St) (bs : List Nat) : Prop := gi σ 105 1 = nI bs.length ∧ bs.length ≤ 100 ∧ ∀ (i b : Nat), bs[i]? = some b → gi σ 120 i = nI b ∧ b < 256
/-- the reader as it stands, with reading x of text bs into rules rr; e: so many more bytes were read than steps made -/
def PX (e : Nat) (σ : St) (bs : List Nat) (rr : Nat) (x : PR) : Prop :=
  PT σ bs ∧ rr < 5 ∧ dc (gi σ 105 2) = some (140 + rr) ∧ (∃ u, bs = u ++ x.2.1) ∧ gi σ 105 3 = nI (bs.length - x.2.1.length) ∧ gi σ 105 4 = nI (!x.1).toNat ∧
  (x.1 = true → gi σ (140 + rr) 4 = nI x.2.2.length ∧ x.2.2.length + x.2.1.length + e ≤ bs.length ∧ ∀ (i : Nat) t, x.2.2[i]? = some t → gi σ (155 + 10 * rr) i = t) ∧ (∃ n : Nat, n ≤ 100 ∧ gi σ (140 + rr) 4 = nI n)
/-- what reading writes -/
def frP (rr : Nat) (σ σ' : St) : Prop := (∀ x k, ¬ (x = 105 ∧ (k = 3 ∨ k = 4)) → ¬ (x = 140 + rr ∧ k = 4) → x ≠ 155 + 10 * rr → gi σ' x k = gi σ x k) ∧ ∀ x, gl σ' x = gl σ x
theorem frP.rf (rr : Nat) (σ : St) : frP rr σ σ := ⟨fun _ _ _ _ _ => rfl, fun _ => rfl⟩
theorem frP.tr {rr : Nat} {a b c : St} (h : frP rr a b) (h2 : frP rr b c) : frP rr a c := ⟨fun x k e1 e2 e3 => (h2.1 x k e1 e2 e3).trans (h.1 x k e1 e2 e3), fun x => (h2.2 x).trans (h.2 x)⟩
theorem frP.si {rr : Nat} {a b : St} (h : frP rr a b) {x k : Nat} (v : Int32) (hx : (x = 105 ∧ (k = 3 ∨ k = 4)) ∨ (x = 140 + rr ∧ k = 4) ∨ x = 155 + 10 * rr) : frP rr a (si b x k v) := ⟨fun y j e1 e2 e3 => by
  rw [gi_si, if_neg (fun z => by omega)]; exact h.1 y j e1 e2 e3, h.2⟩
theorem PT_fr {rr : Nat} {σ σ' : St} {bs : List Nat} (hr : rr < 5) (h : PT σ bs) (f : frP rr σ σ') : PT σ' bs :=
  ⟨by rw [f.1 105 1 (by omega) (by omega) (by omega)]; exact h.1, h.2.1, fun i b hb => by rw [f.1 120 i (by omega) (by omega) (by omega)]; exact h.2.2 i b hb⟩
theorem bnd_id (x : PR) : bnd x (fun r => (true, r, [])) = x := by
  obtain ⟨b, r, s⟩ := x
  cases b
  · rfl
  · rw [bnd_t, List.append_nil]
theorem PX.byte {e rr c : Nat} {σ : St} {bs r s2 : List Nat} {x : PR} (h : PX e σ bs rr x) (hc : x.2.1 = c :: r) : gi σ 120 (bs.length - x.2.1.length) = nI c ∧ c < 256 ∧ bs.length - x.2.1.length < bs.length ∧ x.2.1.length ≤ bs.length := by
  obtain ⟨hT, -, -, ⟨u, hu⟩, -⟩ := h
  have hl := congrArg List.length hu
  rw [List.length_append] at hl
  have hcl : x.2.1.length = r.length + 1 := by rw [hc, List.length_cons]
  have e1 : bs.length - x.2.1.length = u.length := by omega
  have hb : bs[u.length]? = some c := by rw [hu, List.getElem?_append_right (Nat.le_refl _), Nat.sub_self, hc]; rfl
  rw [e1]
  exact ⟨(hT.2.2 _ _ hb).1, (hT.2.2 _ _ hb).2, by omega, by omega⟩
theorem n1_0 : ¬ nI 1 = 0 := by decide
theorem PX.le {e rr : Nat} {σ : St} {bs : List Nat} {x : PR} (h : PX e σ bs rr x) : x.2.1.length ≤ bs.length := by
  obtain ⟨-, -, -, ⟨u, hu⟩, -⟩ := h
  rw [hu, List.length_append]; omega
theorem PX.weak {e e2 rr : Nat} {σ : St} {bs : List Nat} {x : PR} (h : PX e σ bs rr x) (he : e2 ≤ e) : PX e2 σ bs rr x :=
  ⟨h.1, h.2.1, h.2.2.1, h.2.2.2.1, h.2.2.2.2.1, h.2.2.2.2.2.1, fun z => ⟨(h.2.2.2.2.2.2.1 z).1, by have := (h.2.2.2.2.2.2.1 z).2.1; omega, (h.2.2.2.2.2.2.1 z).2.2⟩, h.2.2.2.2.2.2.2⟩
theorem PX.adv {e rr c : Nat} {σ : St} {bs r : List Nat} {s : List Int32} (h : PX e σ bs rr (true, c :: r, s)) : PX (e + 1) (si σ 105 3 (gi σ 105 3 + 1)) bs rr (true, r, s) ∧ frP rr σ (si σ 105 3 (gi σ 105 3 + 1)) := by
  have hle := h.le
  obtain ⟨hT, hr, h2, ⟨u, hu⟩, h3, h4, h5, n, hn, h6⟩ := h
  have fr : frP rr σ (si σ 105 3 (gi σ 105 3 + 1)) := (frP.rf rr σ).si _ (by omega)
  have hle : r.length + 1 ≤ bs.length := hle
  have h3 : gi σ 105 3 = nI (bs.length - (r.length + 1)) := h3
  obtain ⟨q1, q2, q3⟩ := h5 rfl
  refine ⟨⟨PT_fr hr hT fr, hr, by rw [gi_ne_k _ _ _ _ (by decide)]; exact h2, ⟨u ++ [c], by rw [hu, List.append_assoc]; rfl⟩, ?_, by rw [gi_ne_k _ _ _ _ (by decide)]; exact h4, fun _ => ⟨?_, ?_, fun i t ht => ?_⟩, n, hn, ?_⟩, fr⟩
  · rw [gi_same, h3, nI_1]
    show nI _ = nI (bs.length - r.length)
    congr 1; omega
  · rw [gi_ne_o _ _ _ _ (by omega)]; exact q1
  · have q2 : s.length + (r.length + 1) + e ≤ bs.length := q2
    show s.length + r.length + (e + 1) ≤ bs.length
    omega
  · rw [gi_ne_o _ _ _ _ (by omega)]; exact q3 i t ht
  · rw [gi_ne_o _ _ _ _ (by omega)]; exact h6
theorem PX.flt {e e2 rr : Nat} {σ : St} {bs : List Nat} {x : PR} (h : PX e σ bs rr x) (s : List Int32) : PX e2 (si σ 105 4 1) bs rr (false, x.2.1, s) ∧ frP rr σ (si σ 105 4 1) := by
  obtain ⟨hT, hr, h2, hu, h3, h4, h5, n, hn, h6⟩ := h
  have fr : frP rr σ (si σ 105 4 1) := (frP.rf rr σ).si _ (by omega)
  exact ⟨⟨PT_fr hr hT fr, hr, by rw [gi_ne_k _ _ _ _ (by decide)]; exact h2, hu, by rw [gi_ne_k _ _ _ _ (by decide)]; exact h3, gi_same _ _ _ _, fun z => ff z, n, hn, by rw [gi_ne_o _ _ _ _ (by omega)]; exact h6⟩, fr⟩
section PC
variable {nc rr : Nat} {bs : List Nat}
theorem hTx (hn : nc < 5) : IO (idsC nc) 105 5 := hB hn (by decide) rfl
theorem c_isNext {d e c : Nat} {σ : St} {x : PR} {Q : Int32 → St → Prop} (hn : nc < 5) (hX : PX e σ bs rr x) (h : Q (nI (x.1 && decide (x.2.1.head? = some c)).toNat) σ) (hc : c < 256) : EI (d + 1) (idsC nc) Y_X5_isNext [.ref 105, .int (nI c)] σ Q := by
  refine fl_X5_isNext (hTx hn) ?_
  have hle := hX.le
  have h100 := hX.1.2.1
  rw [hX.2.2.2.2.2.1, hX.2.2.2.2.1, hX.1.1]
  obtain ⟨b, r, s⟩ := x
  cases b
  · exact ⟨fun _ => h, fun z => absurd z n1_0⟩
  · refine ⟨fun z => absurd rfl z, fun _ => ?_⟩
    cases r with
    | nil =>
      refine ⟨fun _ => h, fun z => absurd (nI_le ?_ (by omega)) z⟩
      show bs.length ≤ bs.length - 0
      omega
    | cons a r =>
      obtain ⟨b1, b2, b3, b4⟩ := hX.byte (s2 := []) rfl
      refine ⟨fun z => absurd ((nI_leI (by omega) (by omega)).mp z) (by omega), fun _ => ⟨vp_in_nI (by omega) (by decide), ?_⟩⟩
      rw [cl_ix _ (by omega), show rf 105 0 = 120 from rfl, b1, nI_eq (by omega) (by omega)]
      have h : Q (nI (true && decide (some a = some c)).toNat) σ := h
      refine ⟨fun z => ?_, fun z => ?_⟩
      · rw [decide_eq_false (fun y => z (Option.some.inj y))] at h; exact h
      · rw [decide_eq_true (congrArg some z)] at h; exact h
theorem c_addStep {d e : Nat} {σ : St} {x : PR} {t : Int32} {Q : St → Prop} (hn : nc < 5) (hX : PX (e + 1) σ bs rr x) (h : ∀ σ', frP rr σ σ' → PX e σ' bs rr (bnd x (fun r => (true, r, [t]))) → Q σ') : EV (d + 1) (idsC nc) Y_X3_addStep [.ref (140 + rr), .int t] σ Q := by
  have hr := hX.2.1
  refine fl_X3_addStep (hRu hn hr) ?_
  obtain ⟨hT, -, h2, hu, h3, h4, h5, n, hn1, h6⟩ := id hX
  rw [h6, rf_rul hr]
  refine ⟨fun c => ?_, fun c => ⟨vp_in_nI ?_ (by decide), fun s3 e3 s4 e4 => ?_⟩⟩
  · refine h σ (frP.rf _ _) ?_
    obtain ⟨b, r, s⟩ := x
    cases b
    · exact hX.weak (by omega)
    · exfalso
      obtain ⟨q1, q2, -⟩ := h5 rfl
      have q1 : gi σ (140 + rr) 4 = nI s.length := q1
      have q2 : s.length + r.length + (e + 1) ≤ bs.length := q2
      have h100 := hT.2.1
      rw [h6] at q1
      have := (nI_eq (by omega) (by omega)).mp q1
      have := (nI_leI (a := 100) (by decide) (by omega)).mp c
      omega
  · have : ¬ 100 ≤ n := fun z => c (nI_le z (by omega))
    omega
  · have hn100 : ¬ 100 ≤ n := fun z => c (nI_le z (by omega))
    have e3' : s3 = si σ (155 + 10 * rr) n t := by rw [e3, cl_ix n (by omega)]; congr 1; omega
    have g4 : gi s3 (140 + rr) 4 = nI n := by rw [e3', gi_ne_o _ _ _ _ (by omega)]; exact h6
    rw [g4, nI_1] at e4
    have fr : frP rr σ s4 := by rw [e4, e3']; exact ((frP.rf rr σ).si _ (by omega)).si _ (by omega)
    have k4 : gi s4 (140 + rr) 4 = nI (n + 1) := by rw [e4, gi_same]
    refine h s4 fr ⟨PT_fr hr hT fr, hr, ?_, ?_, ?_, ?_, fun z => ?_, n + 1, by omega, k4⟩
    · rw [fr.1 105 2 (by omega) (by omega) (by omega)]; exact h2
    · obtain ⟨b, r, s⟩ := x
      cases b <;> exact hu
    · have : gi s4 105 3 = gi σ 105 3 := by rw [e4, e3', gi_ne_o _ _ _ _ (by omega), gi_ne_o _ _ _ _ (by omega)]
      rw [this]
      obtain ⟨b, r, s⟩ := x
      cases b <;> exact h3
    · have : gi s4 105 4 = gi σ 105 4 := by rw [e4, e3', gi_ne_o _ _ _ _ (by omega), gi_ne_o _ _ _ _ (by omega)]
      rw [this]
      obtain ⟨b, r, s⟩ := x
      cases b <;> exact h4
    · obtain ⟨b, r, s⟩ := x
      cases b
      · exact ff z
      · obtain ⟨q1, q2, q3⟩ := h5 rfl
        have q1 : gi σ (140 + rr) 4 = nI s.length := q1
        have q2 : s.length + r.length + (e + 1) ≤ bs.length := q2
        have h100 := hT.2.1
        have hns : n = s.length := by rw [h6] at q1; exact (nI_eq (by omega) (by omega)).mp q1
        refine ⟨?_, ?_, fun i u hu2 => ?_⟩
        · rw [k4, hns]
          show _ = nI (s ++ [t]).length
          rw [List.length_append]; rfl
        · show (s ++ [t]).length + r.length + e ≤ bs.length
          rw [List.length_append, List.length_singleton]; omega
        · have hu2 : (s ++ [t])[i]? = some u := hu2
          rw [e4, gi_ne_o _ _ _ _ (by omega), e3', gi_si]
          by_cases hi : i < s.length
          · rw [if_neg (by omega)]
            rw [List.getElem?_append_left hi] at hu2
            exact q3 i u hu2
          · have hi2 : i = s.length := by
              have := (List.getElem?_eq_some_iff.mp hu2).1
              rw [List.length_append, List.length_singleton] at this
              omega
            subst hi2
            rw [List.getElem?_append_right (Nat.le_refl _), Nat.sub_self] at hu2
            cases hu2
            rw [if_pos ⟨rfl, hns.symm⟩]
theorem byte_ch : ∀ b, b < 256 → (UInt32.toInt32 (Int32.toUInt32 (nI b) % 65536)) = nI b := by decide +kernel
theorem c_takeOneOf {d e i : Nat} {σ : St} {x : PR} {Q : Int32 → St → Prop} (hn : nc < 5) (hi : i < 10) (hX : PX e σ bs rr x)
    (h : ∀ v σ', frP rr σ σ' → PX (e + 1) σ' bs rr (bnd x (oneP i)) → (x.1 = true → (oneP i x.2.1).1 = true → v = nI (oneV i x.2.1)) → Q v σ') : EI (d + 7) (idsC nc) Y_X5_takeOneOf [.ref 105, .ref (1010 + i)] σ Q := by
  refine fl_X5_takeOneOf (hTx hn) hi (fun P35 P36 H35 H36 => ?_)
  have hle := hX.le
  have h100 := hX.1.2.1
  have bad : (bnd x (oneP i)).1 = false → ∀ σ1, (∃ s, PX e σ1 bs rr (x.1, (bnd x (oneP i)).2.1, s)) → frP rr σ σ1 → P36 (-1) σ1 := by
    rintro hb σ1 ⟨s, h1⟩ h2
    refine H36 _ _ ⟨fun z => absurd z (by decide), fun _ s3 e3 => ?_⟩
    obtain ⟨f1, f2⟩ := h1.flt (e2 := e + 1) (bnd x (oneP i)).2.2
    subst e3
    refine h 0 _ (h2.tr f2) ?_ (fun z1 z2 => ?_)
    · have : bnd x (oneP i) = (false, (bnd x (oneP i)).2.1, (bnd x (oneP i)).2.2) := by rw [← hb]
      rw [this]; exact f1
    · exfalso
      obtain ⟨b, r, s⟩ := x
      have z1 : b = true := z1
      subst z1
      rw [bnd_t] at hb
      have hb : (oneP i r).1 = false := hb
      have z2 : (oneP i r).1 = true := z2
      rw [hb] at z2
      exact ff z2
  rw [hX.2.2.2.2.2.1, hX.2.2.2.2.1, hX.1.1]
  obtain ⟨b, r, s⟩ := x
  cases b
  · exact ⟨fun _ => H35 _ (bad rfl σ ⟨s, hX⟩ (frP.rf _ _)), fun z => absurd z n1_0⟩
  · refine ⟨fun z => absurd rfl z, fun _ => ?_⟩
    cases r with
    | nil =>
      refine ⟨fun _ => H35 _ (bad rfl σ ⟨s, hX⟩ (frP.rf _ _)), fun z => absurd (nI_le ?_ (by omega)) z⟩
      show bs.length ≤ bs.length - 0
      omega
    | cons a r =>
      obtain ⟨b1, b2, b3, b4⟩ := hX.byte (s2 := []) rfl
      refine ⟨fun z => absurd ((nI_leI (by omega) (by omega)).mp z) (by omega), fun _ => ⟨vp_in_nI (by omega) (by decide), ?_⟩⟩
      rw [cl_ix _ (by omega), show rf 105 0 = 120 from rfl, b1, byte_ch a b2]
      refine kJ_indexOf hi b2 ?_
      cases hz : ixL (kbs.getD i []) (nI a) with
      | none =>
        have ho : oneP i (a :: r) = (false, a :: r, []) := by unfold oneP one; dsimp only; rw [hz]; rfl
        refine bad ?_ σ ⟨s, ?_⟩ (frP.rf _ _)
        · rw [bnd_t, ho]
        · rw [bnd_t, ho]; exact hX
      | some k =>
        have hk : k < 10 := by
          have := oneV_ltS (i := i) (r := a :: r) (by unfold oneP one; dsimp only; rw [hz]; rfl)
          have e : oneV i (a :: r) = k := by unfold oneV one; dsimp only; rw [hz]; rfl
          have := (by decide +kernel : ∀ i, i < 10 → (kbs.getD i []).length ≤ 10) i hi
          omega
        have ho : oneP i (a :: r) = (true, r, []) := by unfold oneP one; dsimp only; rw [hz]; rfl
        refine H36 _ _ ⟨fun _ s2 e2 => ?_, fun z => absurd (nI_pos' (by omega)) z⟩
        obtain ⟨f1, f2⟩ := hX.adv
        subst e2
        refine h _ _ f2 ?_ (fun _ _ => ?_)
        · rw [bnd_t, ho]
          show PX (e + 1) _ bs rr (true, r, s ++ [])
          rw [List.append_nil]; exact f1
        · show nI k = nI (oneV i (a :: r))
          unfold oneV one; dsimp only; rw [hz]; rfl
theorem c_take {d e i : Nat} {σ : St} {x : PR} {Q : St → Prop} (hn : nc < 5) (hi : i < 10) (hX : PX e σ bs rr x)
    (h : ∀ σ', frP rr σ σ' → PX e σ' bs rr (bnd x (wd (kbs.getD i []))) → Q σ') : EV (d + 5) (idsC nc) Y_X5_take [.ref 105, .ref (1010 + i)] σ Q := by
  refine fl_X5_take (hTx hn) hi (fun P2 P47 H2 H47 => ?_)
  obtain ⟨hk, -⟩ := kls_10 i hi
  have hkb := kls_kbs i hi
  generalize hw : kbs.getD i [] = w at h hkb
  have loop : ∀ m j y σ1, kls.getD i 0 - j = m → j ≤ kls.getD i 0 → PX e σ1 bs rr y → frP rr σ σ1 → bnd y (wd (w.drop j)) = bnd x (wd w) → P2 (nI j) σ1 := by
    intro m
    induction m with
    | zero =>
      intro j y σ1 q1 q2 q3 q4 q5
      have : j = kls.getD i 0 := by omega
      subst this
      refine H2 _ _ (kJ_len hi ⟨fun _ => ?_, fun z => absurd (nI_le (Nat.le_refl _) (by omega)) z⟩)
      refine h σ1 q4 ?_
      rw [← q5, hkb, List.drop_length]
      show PX e σ1 bs rr (bnd y (fun r => (true, r, [])))
      rw [bnd_id]; exact q3
    | succ m ih =>
      intro j y σ1 q1 q2 q3 q4 q5
      have hj : j < kls.getD i 0 := by omega
      refine H2 _ _ (kJ_len hi ⟨fun z => absurd ((nI_leI (by omega) (by omega)).mp z) (by omega), fun _ => ?_⟩)
      rw [q3.2.2.2.2.2.1]
      obtain ⟨b, r, s⟩ := y
      cases b
      · exact ⟨fun _ => h σ1 q4 (by rw [← q5]; exact q3), fun z => absurd z n1_0⟩
      · refine ⟨fun z => absurd rfl z, fun _ => kJ_charAt hi hj ?_⟩
        obtain ⟨c1, c2, -, -⟩ := kch_ok i hi j (by omega)
        have hd : w.drop j = nI (kch i j) :: w.drop (j + 1) := by
          have hjl : j < w.length := by omega
          rw [List.drop_eq_getElem_cons hjl]
          congr 1
          rw [← c1, hw, List.getD_eq_getElem?_getD, List.getElem?_eq_getElem hjl]
          rfl
        refine c_isNext hn q3 ?_ (by omega)
        have next : ∀ y σ2, PX e σ2 bs rr y → frP rr σ σ2 → bnd y (wd (w.drop (j + 1))) = bnd (true, r, s) (wd (w.drop j)) → P47 (nI j) σ2 := by
          intro y σ2 u1 u2 u3
          refine H47 _ _ (fun x12 e12 => ?_)
          rw [e12, ← nI_succ]
          exact ih (j + 1) y σ2 (by omega) (by omega) u1 u2 (u3.trans q5)
        cases r with
        | nil =>
          refine ⟨fun _ s10 e10 => ?_, fun z => absurd rfl z⟩
          obtain ⟨f1, f2⟩ := q3.flt (e2 := e) s
          subst e10
          refine next _ _ f1 (q4.tr f2) ?_
          rw [hd, bnd_t, bnd_f]
          show _ = (false, [], s ++ [])
          rw [List.append_nil]
        | cons a r =>
          obtain ⟨b1, b2, b3, b4⟩ := q3.byte (s2 := []) rfl
          refine ⟨fun z s10 e10 => ?_, fun z s11 e11 => ?_⟩
          · have hne : ¬ nI a = nI (kch i j) := fun y => by
              have : a = kch i j := (nI_eq (by omega) (by omega)).mp y
              rw [this] at z
              rw [show decide ((kch i j :: r).head? = some (kch i j)) = true from decide_eq_true rfl] at z
              exact absurd z n1_0
            obtain ⟨f1, f2⟩ := q3.flt (e2 := e) s
            subst e10
            refine next _ _ f1 (q4.tr f2) ?_
            rw [hd, bnd_t, bnd_f, wd]
            dsimp only
            rw [if_neg hne, List.append_nil]
          · have heq : a = kch i j := by
              have := of_decide_eq_true (tn1 z)
              exact Option.some.inj this
            obtain ⟨f1, f2⟩ := q3.adv
            subst e11
            refine next _ _ (f1.weak (by omega)) (q4.tr f2) ?_
            rw [hd, bnd_t, bnd_t, wd]
            rw [if_pos (by rw [heq])]
  exact loop _ 0 x σ rfl (Nat.zero_le _) hX (frP.rf _ _) rfl
end PC
