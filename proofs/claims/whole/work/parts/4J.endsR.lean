/-! PURE: the reference's ends, one after another -/
def sfx (C : Cx) (qs : List Nat) (i : Nat) : List (List Nat) := (List.range' i (14 - i)).flatMap (kf C (endsL C (4 - qs.length)) qs)
def remL (C : Cx) (ps : List Nat) (go : Nat → Nat) : List Nat → List (List Nat)
  | [] => sfx C ps (go ps.length)
  | m :: q => sfx C (m :: q ++ ps) (go (m :: q ++ ps).length) ++ remL C ps go q
def lowL (C : Cx) (ps : List Nat) (go : Nat → Nat) : List Nat → List (List Nat)
  | [] => []
  | _ :: q => remL C ps go q
theorem remL_low (C : Cx) (ps : List Nat) (go : Nat → Nat) (q : List Nat) : remL C ps go q = sfx C (q ++ ps) (go (q ++ ps).length) ++ lowL C ps go q := by
  cases q with
  | nil => rw [remL, lowL, List.append_nil]; rfl
  | cons m q => rfl
theorem sfx_14 (C : Cx) (qs : List Nat) : sfx C qs 14 = [] := rfl
theorem sfx_step (C : Cx) (qs : List Nat) {i : Nat} (hi : i < 14) : sfx C qs i = kf C (endsL C (4 - qs.length)) qs i ++ sfx C qs (i + 1) := by
  unfold sfx
  rw [show 14 - i = (14 - (i + 1)) + 1 by omega, List.range'_succ, List.flatMap_cons]
theorem sfx_skip {C : Cx} {qs : List Nat} {i : Nat} : ∀ m t, t - i = m → i ≤ t → t ≤ 14 → (∀ j, i ≤ j → j < t → cb C qs j = false) → sfx C qs i = sfx C qs t := by
  intro m
  induction m generalizing i with
  | zero => intro t h1 h2 _ _; rw [show i = t by omega]
  | succ m ih =>
    intro t h1 h2 h3 h4
    rw [sfx_step C qs (show i < 14 by omega), kf, h4 i (Nat.le_refl _) (by omega), if_neg (by decide), List.nil_append]
    exact ih t (by omega) (by omega) h3 (fun j j1 j2 => h4 j (by omega) j2)
theorem sfx_leaf {C : Cx} {qs : List Nat} (h : leaf C qs = true) {i : Nat} (hi : i ≤ 14) : sfx C qs i = [] := by
  rw [sfx_skip _ 14 rfl hi (Nat.le_refl _) (fun j _ j2 => leaf_iff.mp h j j2), sfx_14]
theorem endsL_sfx {C : Cx} {qs : List Nat} (h : ¬ leaf C qs = true) (hl : qs.length < 5) : endsL C (5 - qs.length) qs = sfx C qs 0 := by
  rw [show 5 - qs.length = (4 - qs.length) + 1 by omega, endsL, if_neg h]
  unfold sfx
  rw [List.range_eq_range']
theorem RlR_pop {τ : St} {G : Gm} {m : Nat} {qs : List Nat} (h : RlR τ G (m :: qs)) : RlR (si τ 0 26 (nI qs.length)) G qs := by
  match G, h with
  | none, h => cases h.1
  | some (r, R, wo), h =>
    obtain ⟨⟨⟨k1, k2, k3, k4, k5⟩, hr, hRR, hok, hwo, hlgl⟩, h8⟩ := h
    refine ⟨⟨⟨by rw [gi_ne_k _ _ _ _ (by decide)]; exact k1, by rw [gi_ne_k _ _ _ _ (by decide)]; exact k2, by rw [gi_same], fun j hj => ?_, fun j x hx => ?_⟩, hr, RuR_same hRR (fun x h1 h2 => by rw [gi_si_o _ _ _ (by omega)]), hok, hwo, hlgl.1⟩, by rw [gi_ne_k _ _ _ _ (by decide)]; exact h8⟩
    · have := k4 j (by rw [List.length_cons]; omega)
      rw [drop_cons_sub m qs hj] at this
      exact this.same (fun x h1 h2 => by rw [gi_ne_o _ _ _ _ (by omega)])
    · rw [gi_ne_o _ _ _ _ (by decide)]
      refine k5 j x ?_
      rw [List.reverse_cons, List.getElem?_append_left (List.getElem?_eq_some_iff.mp hx).1]
      exact hx
/-- ends are gone through, now at one, or on the way -/
def EW (τ0 τ : St) (C : Cx) (ps q : List Nat) (go : Nat → Nat) : Prop := fmR ps.length τ0 τ ∧ RlR τ C.1 (q ++ ps) ∧ ∀ j, ps.length ≤ j → j ≤ (q ++ ps).length → gi τ 42 j = nI (go j) ∧ go j ≤ 14
def EN (τ0 τ : St) (C : Cx) (ps q : List Nat) (go : Nat → Nat) : Prop := EW τ0 τ C ps q go ∧ leaf C (q ++ ps) = true
theorem EW.eqP {τ0 τ τ' : St} {C : Cx} {ps q : List Nat} {go : Nat → Nat} (h : EW τ0 τ C ps q go) (e : eqP τ τ') : EW τ0 τ' C ps q go := ⟨h.1.tr (e.fm _), RlR_eqP h.2.1 e, fun j h1 h2 => by rw [e.1 42 (by decide)]; exact h.2.2 j h1 h2⟩
theorem app_len (q ps : List Nat) : ps.length ≤ (q ++ ps).length := by rw [List.length_append]; omega
theorem r_nextEnd {d : Nat} {C : Cx} {ps : List Nat} {τ0 τ : St} {Q : Int32 → St → Prop} {fst : Bool} {q : List Nat} {go : Nat → Nat} {L : List (List Nat)} (hlk : lkR τ0 C) (ha : allR τ0)
    (hst : if fst = true then RlR τ C.1 ps ∧ fmR ps.length τ0 τ ∧ L = endsL C (5 - ps.length) ps else EN τ0 τ C ps q go ∧ L = lowL C ps go q)
    (h1 : ∀ e r q' go' τ', L = e :: r → e = q' ++ ps → EN τ0 τ' C ps q' go' → r = lowL C ps go' q' → Q 1 τ') (h0 : ∀ τ', L = [] → fmR ps.length τ0 τ' → gi τ' 0 26 = nI ps.length → Q 0 τ') :
    EI (d + 7) idsR Y_X7_nextEnd [.ref 0, .int (nI ps.length), .int (nI fst.toNat)] τ Q := by
  refine fl_X7_nextEnd hR (fun P13 P27 P41 H13 H27 H41 => ?_)
  simp only [rf0] at H41 ⊢
  -- on to a child
  have push : ∀ (q : List Nat) (go : Nat → Nat) (t : Nat) (τ1 : St) (v3 : Int32) (x7 : Int32), EW τ0 τ1 C ps q go → t < 14 → cb C (q ++ ps) t = true → x7 = nI t → (∀ τ2, EW τ0 τ2 C ps (PLa t :: q) (fun j => if j = (q ++ ps).length + 1 then 0 else if j = (q ++ ps).length then t + 1 else go j) → P41 1 τ2) →
      vp_in (gi τ1 0 26) 8 ∧ ∀ s13 : St, s13 = si τ1 42 (Int32.toNatClampNeg (gi τ1 0 26)) (x7 + 1) → vp_in x7 14 ∧ EV (d + 6) idsR Y_X7_make [.ref 0, .int (gi s13 38 (Int32.toNatClampNeg x7))] s13 (fun s15 => vp_in (gi s15 0 26) 8 ∧ ∀ s17 : St, s17 = si s15 42 (Int32.toNatClampNeg (gi s15 0 26)) 0 → P41 1 s17) := by
    rintro q go t τ1 v3 x7 ⟨g1, g2, g3⟩ ht hct rfl hP
    have hlq := g2.lg.len
    have hl4 := cb_len g2.lg hct
    have hpl := app_len q ps
    rw [g2.made, cl_ix _ (by omega)]
    refine ⟨vp_in_nI (by omega) (by decide), fun s13 e13 => ⟨vp_in_nI ht (by decide), ?_⟩⟩
    have f13 : fmR ps.length τ0 s13 := by rw [e13]; exact g1.si _ (by omega)
    have m13 : gi s13 0 26 = nI (q ++ ps).length := by rw [e13, gi_ne_o _ _ _ _ (by decide)]; exact g2.made
    have f13b : fmR (q ++ ps).length τ1 s13 := by rw [e13]; exact (fmR.rf _ _).si _ (by omega)
    have hT13 := RlR_fm g2 f13b m13
    rw [cl_ix t (by omega), allR_fm ha f13 t ht]
    refine r_make (C := C) hT13 ht hct (fun s15 w1 w2 w3 w4 => ?_)
    rw [w1.made, List.length_cons, cl_ix _ (by omega)]
    refine ⟨vp_in_nI (by omega) (by decide), fun s17 e17 => hP s17 ?_⟩
    have f17 : fmR ((q ++ ps).length + 1) s15 s17 := by rw [e17]; exact (fmR.rf _ _).si _ (by omega)
    refine ⟨(f13.tr (fmR.up hpl w2)).tr (fmR.up (by omega) f17), RlR_fm w1 f17 (by rw [e17, gi_ne_o _ _ _ _ (by decide)]; exact w1.made), fun j j1 j2 => ?_⟩
    have j2 : j ≤ (q ++ ps).length + 1 := j2
    dsimp only
    by_cases hj1 : j = (q ++ ps).length + 1
    · rw [if_pos hj1, e17, hj1, gi_same]; exact ⟨rfl, by decide⟩
    · rw [if_neg hj1, e17, gi_ne_k _ _ _ _ hj1, w4 42 (by decide), e13]
      by_cases hj2 : j = (q ++ ps).length
      · rw [if_pos hj2, hj2, gi_same, nI_succ]; exact ⟨rfl, by omega⟩
      · rw [if_neg hj2, gi_ne_k _ _ _ _ hj2]; exact g3 j j1 (by omega)
  have lowgo : ∀ (q : List Nat) (go go2 : Nat → Nat), (∀ j, ps.length ≤ j → j ≤ (q ++ ps).length → go2 j = go j) → remL C ps go2 q = remL C ps go q := by
    intro q
    induction q with
    | nil => intro go go2 hg; rw [remL, remL, hg _ (Nat.le_refl _) (Nat.le_refl _)]
    | cons m q ih =>
      intro go go2 hg
      rw [remL, remL, hg _ (app_len _ _) (Nat.le_refl _), ih go go2 (fun j j1 j2 => hg j j1 (by rw [List.cons_append, List.length_cons]; omega))]
  have lowgo2 : ∀ (q : List Nat) (go go2 : Nat → Nat), (∀ j, ps.length ≤ j → j < (q ++ ps).length → go2 j = go j) → lowL C ps go2 q = lowL C ps go q := by
    intro q go go2 hg
    cases q with
    | nil => rfl
    | cons m q => exact lowgo q go go2 (fun j j1 j2 => hg j j1 (by rw [List.cons_append, List.length_cons]; omega))
  -- down to an end
  have down : ∀ (m : Nat) (q : List Nat) (go : Nat → Nat) (τ1 : St), 5 - (q ++ ps).length = m → EW τ0 τ1 C ps q go → go (q ++ ps).length = 0 → L = endsL C (5 - (q ++ ps).length) (q ++ ps) ++ lowL C ps go q → P41 1 τ1 := by
    intro m
    induction m with
    | zero =>
      intro q go τ1 q1 q2 q3 q4
      have hlq := q2.2.1.lg.len
      have lf := leaf_5 q2.2.1.lg (by omega)
      refine H41 _ _ ?_
      rw [q2.2.1.made, cl_ix _ (by omega), (q2.2.2 _ (app_len _ _) (Nat.le_refl _)).1, q3]
      refine ⟨vp_in_nI (by omega) (by decide), r_nextMay (C := C) (i := 0) q2.2.1 (lkR_fm hlk q2.1) (allR_fm ha q2.1) (by decide) (fun t k1 k2 k3 k4 τ2 hE => ⟨fun c => ⟨fun z => absurd z (by decide), fun _ => ?_⟩, fun c => ?_⟩)⟩
      · rw [endsL_leaf lf] at q4
        exact h1 _ _ q go τ2 q4 rfl ⟨q2.eqP hE, lf⟩ rfl
      · exfalso
        have ht : t < 14 := (nI_ltI (b := 14) (by omega) (by decide)).mp (nle.mp c)
        have := leaf_iff.mp lf t ht
        rw [k4 ht] at this
        cases this
    | succ m ih =>
      intro q go τ1 q1 q2 q3 q4
      have hlq := q2.2.1.lg.len
      refine H41 _ _ ?_
      rw [q2.2.1.made, cl_ix _ (by omega), (q2.2.2 _ (app_len _ _) (Nat.le_refl _)).1, q3]
      refine ⟨vp_in_nI (by omega) (by decide), r_nextMay (C := C) (i := 0) q2.2.1 (lkR_fm hlk q2.1) (allR_fm ha q2.1) (by decide) (fun t k1 k2 k3 k4 τ2 hE => ⟨fun c => ⟨fun z => absurd z (by decide), fun _ => ?_⟩, fun c => ?_⟩)⟩
      · have ht : t = 14 := by
          have := (nI_leI (a := 14) (by decide) (by omega)).mp c
          omega
        subst ht
        have lf : leaf C (q ++ ps) = true := leaf_iff.mpr (fun i hi => k3 i (Nat.zero_le _) hi)
        rw [endsL_leaf lf] at q4
        exact h1 _ _ q go τ2 q4 rfl ⟨q2.eqP hE, lf⟩ rfl
      · have ht : t < 14 := (nI_ltI (b := 14) (by omega) (by decide)).mp (nle.mp c)
        have hct := k4 ht
        have nlf : ¬ leaf C (q ++ ps) = true := fun z => by
          have := leaf_iff.mp z t ht
          rw [hct] at this
          cases this
        refine push q go t τ2 1 _ (q2.eqP hE) ht hct rfl (fun τ3 g => ih (PLa t :: q) _ τ3 (by rw [List.cons_append, List.length_cons]; omega) g ?_ ?_)
        · rw [List.cons_append, List.length_cons, if_pos rfl]
        · have e1 : endsL C (5 - (q ++ ps).length) (q ++ ps) = endsL C (5 - (PLa t :: q ++ ps).length) (PLa t :: q ++ ps) ++ sfx C (q ++ ps) (t + 1) := by
            rw [endsL_sfx nlf (by omega), sfx_skip _ t rfl (Nat.zero_le _) (by omega) k3, sfx_step C _ ht, kf, if_pos hct]
            congr 2
            rw [List.cons_append, List.length_cons]; omega
          rw [q4, e1, List.append_assoc]
          congr 1
          show _ = remL C ps _ q
          rw [remL_low, if_neg (by omega), if_pos rfl]
          congr 1
          exact (lowgo2 q _ _ (fun j j1 j2 => by rw [if_neg (by omega), if_neg (by omega)])).symm
  -- back to where one goes on
  have up : ∀ (q : List Nat) (go : Nat → Nat) (τ1 : St), EW τ0 τ1 C ps q go → L = remL C ps go q → P41 0 τ1 := by
    intro q
    induction q with
    | nil =>
      intro go τ1 q2 q4
      have hT1 : RlR τ1 C.1 ps := q2.2.1
      have hlq := hT1.lg.len
      refine H41 _ _ ?_
      have hgo : gi τ1 42 ps.length = nI (go ps.length) ∧ go ps.length ≤ 14 := q2.2.2 _ (Nat.le_refl _) (Nat.le_refl _)
      rw [hT1.made, cl_ix _ (by omega), hgo.1]
      refine ⟨vp_in_nI (by omega) (by decide), r_nextMay (C := C) hT1 (lkR_fm hlk q2.1) (allR_fm ha q2.1) hgo.2 (fun t k1 k2 k3 k4 τ2 hE => ⟨fun c => ⟨fun _ => ?_, fun z => absurd rfl z⟩, fun c => ?_⟩)⟩
      · have ht : t = 14 := by
          have := (nI_leI (a := 14) (by decide) (by omega)).mp c
          omega
        subst ht
        have m2 : gi τ2 0 26 = nI ps.length := by rw [hE.1 0 (by decide)]; exact hT1.made
        refine ⟨fun z => absurd m2 z, fun _ => h0 τ2 ?_ (q2.1.tr (hE.fm _)) m2⟩
        rw [q4, remL]
        exact (sfx_skip _ 14 rfl hgo.2 (Nat.le_refl _) k3).trans (sfx_14 C _)
      · have ht : t < 14 := (nI_ltI (b := 14) (by omega) (by decide)).mp (nle.mp c)
        have hct := k4 ht
        refine push [] go t τ2 0 _ (q2.eqP hE) ht hct rfl (fun τ3 g => down _ [PLa t] _ τ3 rfl g ?_ ?_)
        · exact if_pos rfl
        · rw [q4, remL]
          refine (sfx_skip _ t rfl k1 (by omega) k3).trans ?_
          rw [sfx_step C _ ht, kf, if_pos hct]
          have e2 : ∀ g' : Nat → Nat, lowL C ps g' [PLa t] = sfx C ps (g' ps.length) := fun _ => rfl
          have e3 : 5 - ([PLa t] ++ ps).length = 4 - ps.length := by show 5 - (ps.length + 1) = _; omega
          rw [e2, e3]
          rw [if_neg (by show ¬ ps.length = ps.length + 1; omega), if_pos (by rfl)]
          rfl
    | cons m q ih =>
      intro go τ1 q2 q4
      have hlq := q2.2.1.lg.len
      refine H41 _ _ ?_
      have hgo := q2.2.2 _ (app_len (m :: q) ps) (Nat.le_refl _)
      have hcl : (m :: q ++ ps).length = (q ++ ps).length + 1 := rfl
      rw [q2.2.1.made, cl_ix _ (by omega), hgo.1]
      refine ⟨vp_in_nI (by omega) (by decide), r_nextMay (C := C) q2.2.1 (lkR_fm hlk q2.1) (allR_fm ha q2.1) hgo.2 (fun t k1 k2 k3 k4 τ2 hE => ⟨fun c => ⟨fun _ => ?_, fun z => absurd rfl z⟩, fun c => ?_⟩)⟩
      · have ht : t = 14 := by
          have := (nI_leI (a := 14) (by decide) (by omega)).mp c
          omega
        subst ht
        have q2' := q2.eqP hE
        have m2 : gi τ2 0 26 = nI (m :: q ++ ps).length := q2'.2.1.made
        have hpl := app_len q ps
        rw [m2]
        refine ⟨fun _ s11 e11 => ?_, fun z => ?_⟩
        · rw [List.cons_append, List.length_cons, nI_pred] at e11
          have hT : RlR s11 C.1 (q ++ ps) := by rw [e11]; exact RlR_pop q2'.2.1
          refine ih go s11 ⟨by rw [e11]; exact q2'.1.si _ (by omega), hT, fun j j1 j2 => by rw [e11, gi_ne_o _ _ _ _ (by decide)]; exact q2'.2.2 j j1 (by rw [List.cons_append, List.length_cons]; omega)⟩ ?_
          rw [q4, remL, sfx_skip _ 14 rfl hgo.2 (Nat.le_refl _) k3, sfx_14, List.nil_append]
        · exfalso
          have := (nI_eq (by omega) (by omega)).mp z
          rw [List.cons_append, List.length_cons] at this
          omega
      · have ht : t < 14 := (nI_ltI (b := 14) (by omega) (by decide)).mp (nle.mp c)
        have hct := k4 ht
        refine push (m :: q) go t τ2 0 _ (q2.eqP hE) ht hct rfl (fun τ3 g => down _ (PLa t :: m :: q) _ τ3 rfl g ?_ ?_)
        · rw [List.cons_append, List.length_cons, if_pos rfl]
        · rw [q4, remL_low, sfx_skip _ t rfl k1 (by omega) k3, sfx_step C _ ht, kf, if_pos hct, List.append_assoc]
          rw [show ∀ g' : Nat → Nat, lowL C ps g' (PLa t :: m :: q) = remL C ps g' (m :: q) from fun _ => rfl]
          rw [remL_low, if_neg (by omega), if_pos rfl]
          have e5 : 4 - (m :: q ++ ps).length = 5 - (PLa t :: m :: q ++ ps).length := by show _ = 5 - ((m :: q ++ ps).length + 1); omega
          rw [e5, lowgo2 (m :: q) go (fun j => if j = (m :: q ++ ps).length + 1 then 0 else if j = (m :: q ++ ps).length then t + 1 else go j) (fun j j1 j2 => by rw [if_neg (by omega), if_neg (by omega)])]
          rfl
  cases fst with
  | true =>
    rw [if_pos rfl] at hst
    obtain ⟨g1, g2, g3⟩ := hst
    have hl := g1.lg.len
    refine ⟨fun z => absurd z (by decide), fun _ => ⟨vp_in_nI (by omega) (by decide), fun s20 e20 => ?_⟩⟩
    rw [cl_ix _ (by omega)] at e20
    refine H13 _ _ ⟨fun _ => H27 _ _ ⟨fun _ => ?_, fun z => absurd z (by decide)⟩, fun z => absurd z (by decide)⟩
    have f20 : fmR ps.length τ s20 := by rw [e20]; exact (fmR.rf _ _).si _ (by omega)
    have hEW : EW τ0 s20 C ps [] (fun _ => 0) := by
      refine ⟨g2.tr f20, RlR_fm g1 f20 (by rw [e20, gi_ne_o _ _ _ _ (by decide)]; exact g1.made), fun j j1 j2 => ?_⟩
      have j2 : j ≤ ps.length := j2
      have : j = ps.length := by omega
      rw [this, e20, gi_same]
      exact ⟨rfl, Nat.zero_le _⟩
    exact down _ [] (fun _ => 0) s20 rfl hEW rfl (by rw [g3, lowL, List.append_nil]; rfl)
  | false =>
    rw [if_neg (by decide)] at hst
    obtain ⟨⟨g1, g2⟩, g3⟩ := hst
    refine ⟨fun _ => H13 _ _ ⟨fun z => absurd rfl z, fun _ => ?_⟩, fun z => absurd rfl z⟩
    have hlq := g1.2.1.lg.len
    cases q with
    | nil =>
      have m2 : gi τ 0 26 = nI ps.length := g1.2.1.made
      exact ⟨fun z => absurd m2 z, fun _ => h0 τ g3 g1.1 m2⟩
    | cons m q =>
      have hpl := app_len q ps
      have m2 : gi τ 0 26 = nI (m :: q ++ ps).length := g1.2.1.made
      rw [m2]
      have hcl : (m :: q ++ ps).length = (q ++ ps).length + 1 := rfl
      refine ⟨fun _ => H27 _ _ ⟨fun z => absurd rfl z, fun _ s4 e4 => ?_⟩, fun z => ?_⟩
      · rw [m2, hcl, nI_pred] at e4
        refine up q go s4 ⟨by rw [e4]; exact g1.1.si _ (by omega), by rw [e4]; exact RlR_pop g1.2.1, fun j j1 j2 => by rw [e4, gi_ne_o _ _ _ _ (by decide)]; exact g1.2.2 j j1 (by omega)⟩ g3
      · exfalso
        have := (nI_eq (by omega) (by omega)).mp z
        omega
