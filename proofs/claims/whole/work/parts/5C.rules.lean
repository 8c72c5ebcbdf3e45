/-! PURE: rules: the call of both sides -/
section RS
variable {d e nc : Nat} {σ τ : St} {Q : Int32 → St → Int32 → St → Prop}
theorem RlC_fine {σ' : St} {G : Gm} {ps : List Nat} (h : RlC σ 108 G ps) (e : ∀ x k, x = 108 ∨ (200 ≤ x ∧ x < 300) → gi σ' x k = gi σ x k) (eu : ∀ r R wo, G = some (r, R, wo) → RuC σ' r R) : RlC σ' 108 G ps := by
  have hB : Bo 108 = 200 := rfl
  match G, h with
  | none, h =>
    obtain ⟨h1, h2, h3, h4⟩ := h
    exact ⟨h1, by rw [e 108 5 (by omega)]; exact h2, by rw [e 108 10 (by omega)]; exact h3, h4.same (fun i _ => e _ i (by omega)) (funext fun k => e _ k (by omega))⟩
  | some (r, R, wo), h =>
    obtain ⟨⟨k1, k2, k3, k4, k5, k6, k7⟩, hr, hRC, hG⟩ := h
    have hl := lgl_len hG.1 hG.2.2
    refine ⟨⟨by rw [e 108 10 (by omega)]; exact k1, by rw [e 108 5 (by omega)]; exact k2, by rw [e 108 6 (by omega)]; exact k3, by rw [e 108 7 (by omega)]; exact k4, by rw [e 108 8 (by omega)]; exact k5, fun j hj => (k6 j hj).same (fun i _ => e _ i (by omega)) (funext fun k => e _ k (by omega)), fun j hj1 hj2 ho => ?_⟩, hr, eu r R wo rfl, hG⟩
    have := k7 j hj1 hj2 ho
    unfold wgd at this ⊢
    rw [e _ 8 (by omega), e _ 9 (by omega)]
    exact this
theorem RlR_fine {τ' : St} {G : Gm} {ps : List Nat} (h : RlR τ G ps) (e0 : ∀ k, 24 ≤ k ∧ k ≤ 26 → gi τ' 0 k = gi τ 0 k) (e8 : (G = none → gi τ' 0 8 = 0) ∧ (¬ G = none → ¬ gi τ' 0 8 = 0)) (e : ∀ x, 27 ≤ x ∧ x ≤ 36 → gi τ' x = gi τ x) (eu : ∀ r R wo, G = some (r, R, wo) → RuR τ' r R) : RlR τ' G ps := by
  match G, h with
  | none, h => exact ⟨h.1, e8.1 rfl, by rw [e0 26 (by decide)]; exact h.2.2.1, h.2.2.2.same (fun x h1 h2 => by rw [e x (by omega)])⟩
  | some (r, R, wo), h =>
    exact ⟨⟨RoR_same h.1.1 (fun k h1 h2 => e0 k (by omega)) (fun x h1 h2 => e x (by omega)), h.1.2.1, eu r R wo rfl, h.1.2.2.2⟩, e8.2 (fun z => by cases z)⟩
/-- rules beside those that are read anew -/
theorem IRu_beside {Rs : List Ru} {σ' τ' : St} (hu : IRu Rs σ τ) (h5 : Rs.length < 5) (f1 : frC Rs.length σ σ') (f2 : frG Rs.length τ τ') : ∀ (r : Nat) R, Rs[r]? = some R → RuC σ' r R ∧ (RuR τ' r R ∧ RuB τ' r R) ∧ okR R := by
  intro r R hR
  obtain ⟨h1, ⟨h2, h3⟩, h4⟩ := hu.2.2.2 r R hR
  have hr := (List.getElem?_eq_some_iff.mp hR).1
  refine ⟨RuC_fine h1 (f1.1 _ 0 (by omega) (by omega) (by omega)) (fun x k x1 x2 => f1.1 x k (by omega) (by omega) (by omega)), RuR_fine (by omega) h2 h3 (f2.1 13 r (by omega) (by omega) (by omega) (by omega) (by omega)) (fun x k x1 x2 k1 k2 => f2.1 x k (by omega) (by omega) (by omega) (by omega) (by omega)) (fun k k1 k2 => f2.1 19 k (by omega) (by omega) (by omega) (by omega) (by omega)), h4⟩
theorem s_rules (h : Inv nc σ τ) (hQ : ∀ x σ' τ', Inv nc σ' τ' → Q x σ' x τ') : BI (d + 512) (e + 9) nc Y_X6_rules Y_X7_rules [] σ τ Q := by
  have hn := h.nc
  obtain ⟨Rs, G, ps, hi⟩ := h.op
  obtain ⟨hu, hC, hT, hg, h25, h24⟩ := id hi
  obtain ⟨bs, hp, hm⟩ := h.2.2.2.1
  have hu5 := hu.1
  have r4 : rf 100 4 = 105 := rfl
  have hB : Bo 108 = 200 := rfl
  refine fl_X6_rules (h100 hn) (fun P75 H75 => ?_)
  rw [hu.2.1, r4]
  by_cases h5 : Rs.length = 5
  · refine ⟨fun z => absurd ((nI_ltI (b := 5) (by omega) (by decide)).mp z) (by omega), fun _ => fl_X7_rules hR ?_⟩
    rw [hu.2.2.1, h5]
    exact ⟨fun y => absurd rfl y, fun _ => hQ _ _ _ h⟩
  · have hlt : Rs.length < 5 := by omega
    refine ⟨fun _ => ⟨vp_in_nI hlt (by decide), ?_⟩, fun z => absurd (nI_lt (b := 5) hlt (by decide)) z⟩
    rw [cl_ix _ (by omega), rf_all, r7]
    refine c_faultOf (d := d) (bs := bs) hn hlt hp (fun s3 f3 hok3 hle s5 e5 => ?_)
    have hbs := hp.2.1
    -- the class's, behind it
    have f5 : ∀ x k, ¬ (x = 105 ∧ (k = 1 ∨ k = 2 ∨ k = 3 ∨ k = 4)) → x ≠ 140 + Rs.length → ¬ (150 + 10 * Rs.length ≤ x ∧ x < 160 + 10 * Rs.length) → gi s5 x k = gi σ x k := fun x k b1 b2 b3 => by rw [e5, gi_si, if_neg (by omega), f3.1 x k (by omega) b2 b3]
    have l5 : ∀ x, gl s5 x = gl σ x := fun x => by rw [e5, gl_si_o, f3.2]
    have fC5 : ∀ r, r ≠ Rs.length → ∀ R, RuC s3 r R → RuC s5 r R := fun r hr R hR => RuC_fine hR (by rw [e5, gi_ne_o _ _ _ _ (by omega)]) (fun x k x1 x2 => by rw [e5, gi_ne_o _ _ _ _ (by omega)])
    have p5 : PT s5 [] := ⟨by rw [e5, gi_same]; rfl, by decide, fun i b hb => by cases hb⟩
    have gk : gi s5 100 6 = nI Rs.length := by rw [f5 100 6 (by omega) (by omega) (by omega)]; exact hu.2.1
    -- the reference's, in front
    have ref : ∀ F : Int32 → St → Prop,
        ((rdT bs).1 = true → ∀ s2 s4, RuR s2 Rs.length (rdT bs).2.2 → RuB s2 Rs.length (rdT bs).2.2 → frG Rs.length τ s2 → s4 = si s2 0 9 0 → ∀ s6, s6 = si s4 0 8 (nI (Rs.length + 1)) → F (nI Rs.length) s6) →
        ((rdT bs).1 = false → ∀ s2 s4, frG Rs.length τ s2 → s4 = si s2 0 9 0 → F (-10 - nI (bs.length - (rdT bs).2.1.length)) s4) → EI (e + 9) idsR Y_X7_rules [.ref 0] τ F := by
      intro F F1 F0
      refine fl_X7_rules hR ?_
      rw [hu.2.2.1]
      refine ⟨fun _ => r_goes hlt hm (fun z s2 g1 g2 g3 s4 e4 => ⟨fun _ s6 e6 => ?_, fun y => absurd y (by decide)⟩) (fun z s2 g1 g3 s4 e4 => ⟨fun y => absurd rfl y, fun _ => ?_⟩), fun y => absurd ((nI_eq (b := 5) (by omega) (by decide)).mp y) h5⟩
      · have g8 : gi s4 0 8 = nI Rs.length := by rw [e4, gi_ne_k _ _ _ _ (by decide), g3.1 0 8 (by omega) (by omega) (by omega) (by omega) (by omega)]; exact hu.2.2.1
        rw [g8, nI_1] at e6
        rw [e6, gi_same, nI_pred, ← e6]
        exact F1 z s2 s4 g1 g2 g3 e4 s6 e6
      · rw [e4, gi_ne_k _ _ _ _ (by decide), g1, ← e4]
        exact F0 z s2 s4 g3 e4
    -- what of the reference stays
    have r4f : ∀ s2 s4, frG Rs.length τ s2 → s4 = si s2 0 9 0 → (∀ x k, ¬ (x = 0 ∧ (k = 9 ∨ k = 10 ∨ k = 11 ∨ (21 ≤ k ∧ k ≤ 23))) → ¬ (13 ≤ x ∧ x ≤ 20) → gi s4 x k = gi τ x k) ∧ (∀ x, gl s4 x = gl τ x) ∧ MT s4 [] := by
      intro s2 s4 g3 e4
      refine ⟨fun x k b1 b2 => by rw [e4, gi_si, if_neg (by omega), g3.1 x k (by omega) (by omega) (by omega) (by omega) (by omega)], fun x => by rw [e4, gl_si_o, g3.2], by rw [e4, gi_same]; rfl, by decide, fun i b hb => by cases hb⟩
    have RuR4 : ∀ s2 s4, s4 = si s2 0 9 0 → ∀ r R, RuR s2 r R → RuR s4 r R := fun s2 s4 e4 r R hR => RuR_same hR (fun x x1 x2 => funext fun k => by rw [e4, gi_ne_o _ _ _ _ (by omega)])
    have RuB4 : ∀ s2 s4, s4 = si s2 0 9 0 → ∀ r R, RuB s2 r R → RuB s4 r R := fun s2 s4 e4 r R hR c w x l hc hw => by rw [e4, gi_ne_o _ _ _ _ (by decide)]; exact hR c w x l hc hw
    by_cases hok : (rdT bs).1 = true
    · rw [if_pos hok]
      have hokR := okR_rd hok
      have ap1r : ∀ R : Ru, (Rs ++ [R]).length = Rs.length + 1 := fun R => by rw [List.length_append]; rfl
      generalize hRR : (rdT bs).2.2 = R at hok3 ref hokR
      have hRC := hok3 hok
      have hRC5 : RuC s5 Rs.length R := RuC_fine hRC (by rw [e5, gi_ne_o _ _ _ _ (by omega)]) (fun x k x1 x2 => by rw [e5, gi_ne_o _ _ _ _ (by omega)])
      -- both sides at the end: the class's state is told by what stays
      have fin : ∀ σ' s2 s4 s6, (∀ x k, ¬ (x = 105 ∧ (k = 1 ∨ k = 2 ∨ k = 3 ∨ k = 4)) → ¬ (x = 100 ∧ k = 6) → x ≠ 140 + Rs.length → ¬ (150 + 10 * Rs.length ≤ x ∧ x < 160 + 10 * Rs.length) → x ≠ 108 → ¬ (200 ≤ x ∧ x < 300) → gi σ' x k = gi σ x k) → (∀ x, gl σ' x = gl σ x) → PT σ' [] → gi σ' 100 6 = nI (Rs.length + 1) → (∀ r R', (Rs ++ [R])[r]? = some R' → RuC σ' r R') →
          RuR s2 Rs.length R → RuB s2 Rs.length R → frG Rs.length τ s2 → s4 = si s2 0 9 0 → s6 = si s4 0 8 (nI (Rs.length + 1)) → (∃ G' ps', RlC σ' 108 G' ps' ∧ ((∀ x k, ¬ (x = 0 ∧ (k = 8 ∨ k = 9 ∨ k = 10 ∨ k = 11 ∨ (21 ≤ k ∧ k ≤ 23))) → ¬ (13 ≤ x ∧ x ≤ 20) → gi s6 x k = gi τ x k) → gi s6 0 8 = nI (Rs.length + 1) → RuR s6 Rs.length R → (∀ (r : Nat) R', Rs[r]? = some R' → RuR s6 r R') → RlR s6 G' ps') ∧ GOk G' (Rs ++ [R]) ∧ ¬ G' = none) → Q (nI Rs.length) σ' (nI Rs.length) s6 := by
        intro σ' s2 s4 s6 b1 b2 b3 b4 b5 g1 g2 g3 e4 e6 hro
        obtain ⟨q1, q2, q3⟩ := r4f s2 s4 g3 e4
        have q16 : ∀ x k, ¬ (x = 0 ∧ (k = 8 ∨ k = 9 ∨ k = 10 ∨ k = 11 ∨ (21 ≤ k ∧ k ≤ 23))) → ¬ (13 ≤ x ∧ x ≤ 20) → gi s6 x k = gi τ x k := fun x k c1 c2 => by rw [e6, gi_si, if_neg (by omega), q1 x k (by omega) c2]
        have l6 : ∀ x, gl s6 x = gl τ x := fun x => by rw [e6, gl_si_o, q2]
        have u6 : ∀ r R', RuR s4 r R' → RuR s6 r R' := fun r R' hR => RuR_same hR (fun x x1 x2 => funext fun k => by rw [e6, gi_ne_o _ _ _ _ (by omega)])
        have ub6 : ∀ r R', RuB s4 r R' → RuB s6 r R' := fun r R' hR c w x l hc hw => by rw [e6, gi_ne_o _ _ _ _ (by decide)]; exact hR c w x l hc hw
        have m6 : MT s6 [] := ⟨by rw [e6, gi_ne_k _ _ _ _ (by decide)]; exact q3.1, by decide, fun i b hb => by cases hb⟩
        have old : ∀ (r : Nat) R', Rs[r]? = some R' → RuR s2 r R' ∧ RuB s2 r R' := fun r R' hr => by
          obtain ⟨-, ⟨h2, h3⟩, -⟩ := hu.2.2.2 r R' hr
          have hrl := (List.getElem?_eq_some_iff.mp hr).1
          exact RuR_fine (by omega) h2 h3 (g3.1 13 r (by omega) (by omega) (by omega) (by omega) (by omega)) (fun x k x1 x2 k1 k2 => g3.1 x k (by omega) (by omega) (by omega) (by omega) (by omega)) (fun k k1 k2 => g3.1 19 k (by omega) (by omega) (by omega) (by omega) (by omega))
        obtain ⟨G', ps', w1, w2, w3, w4⟩ := hro
        have hRl : RlR s6 G' ps' := w2 q16 (by rw [e6, gi_same]) (u6 _ _ (RuR4 s2 s4 e4 _ _ g1)) (fun r R' hr => u6 _ _ (RuR4 s2 s4 e4 _ _ (old r R' hr).1))
        obtain ⟨i0, i1, i2, i3, i4, i5, i6, i7, -⟩ := h
        refine hQ _ _ _ ⟨i0, i1.same (fun x k hx => b1 x k (by omega) (by omega) (by omega) (by omega) (by omega) (by omega)) (fun x k hx => q16 x k (by omega) (by omega)), i2.same (fun x k hx => b1 x k (by omega) (by omega) (by omega) (by omega) (by omega) (by omega)) (fun x k hx => q16 x k (by omega) (by omega)), ⟨[], b3, m6⟩, i4.same (fun x k hx => b1 x k (by omega) (by omega) (by omega) (by omega) (by omega) (by omega)), fun i hi => by rw [q16 38 i (by omega) (by omega)]; exact i5 i hi, i6.same (fun x k hx => b1 x k (by omega) (by omega) (by omega) (by omega) (by omega) (by omega)) (fun x k hx => q16 x k (by omega) (by omega)), i7.same (fun x k hx => b1 x k (by omega) (by omega) (by omega) (by omega) (by omega) (by omega)) (fun x k hx => q16 x k (by omega) (by omega)) b2 l6, Rs ++ [R], ⟨by rw [ap1r]; omega, by rw [ap1r]; exact b4, by rw [ap1r, e6, gi_same], fun r R' hr => ⟨b5 r R' hr, ?_, ?_⟩⟩, G', ps', w1, hRl, w3, ?_, fun z => absurd z w4⟩
        · by_cases hrl : r < Rs.length
          · rw [List.getElem?_append_left hrl] at hr
            exact ⟨u6 _ _ (RuR4 s2 s4 e4 _ _ (old r R' hr).1), ub6 _ _ (RuB4 s2 s4 e4 _ _ (old r R' hr).2)⟩
          · have hr2 : r = Rs.length := by
              have := (List.getElem?_eq_some_iff.mp hr).1
              rw [List.length_append, List.length_singleton] at this
              omega
            subst hr2
            rw [List.getElem?_append_right (Nat.le_refl _), Nat.sub_self] at hr
            have hr : some R = some R' := hr
            cases hr
            exact ⟨u6 _ _ (RuR4 s2 s4 e4 _ _ g1), ub6 _ _ (RuB4 s2 s4 e4 _ _ g2)⟩
        · by_cases hrl : r < Rs.length
          · rw [List.getElem?_append_left hrl] at hr
            exact (hu.2.2.2 r R' hr).2.2
          · have hr2 : r = Rs.length := by
              have := (List.getElem?_eq_some_iff.mp hr).1
              rw [List.length_append, List.length_singleton] at this
              omega
            subst hr2
            rw [List.getElem?_append_right (Nat.le_refl _), Nat.sub_self] at hr
            have hr : some R = some R' := hr
            cases hr
            exact hokR
        · rw [q16 0 25 (by omega) (by omega)]; exact h25
      refine ⟨fun _ s7 e7 => ?_, fun y => absurd rfl y⟩
      rw [gk, nI_1] at e7
      have g7 : gi s7 100 6 = nI (Rs.length + 1) := by rw [e7, gi_same]
      have f7 : ∀ x k, ¬ (x = 105 ∧ (k = 1 ∨ k = 2 ∨ k = 3 ∨ k = 4)) → ¬ (x = 100 ∧ k = 6) → x ≠ 140 + Rs.length → ¬ (150 + 10 * Rs.length ≤ x ∧ x < 160 + 10 * Rs.length) → gi s7 x k = gi σ x k := fun x k b1 b2 b3 b4 => by rw [e7, gi_si, if_neg b2, f5 x k b1 b3 b4]
      have l7 : ∀ x, gl s7 x = gl σ x := fun x => by rw [e7, gl_si_o, l5]
      have p7 : PT s7 [] := ⟨by rw [e7, gi_ne_o _ _ _ _ (by decide)]; exact p5.1, by decide, fun i b hb => by cases hb⟩
      have RC7 : ∀ (r : Nat) R', (Rs ++ [R])[r]? = some R' → RuC s7 r R' := by
        intro r R' hr
        have s57 : RuC s5 r R' → RuC s7 r R' := fun hz => RuC_fine hz (by rw [e7, gi_ne_o _ _ _ _ (by omega)]) (fun x k x1 x2 => by rw [e7, gi_ne_o _ _ _ _ (by omega)])
        by_cases hrl : r < Rs.length
        · rw [List.getElem?_append_left hrl] at hr
          exact s57 (RuC_fine (hu.2.2.2 r R' hr).1 (f5 _ 0 (by omega) (by omega) (by omega)) (fun x k x1 x2 => f5 x k (by omega) (by omega) (by omega)))
        · have hr2 : r = Rs.length := by
            have := (List.getElem?_eq_some_iff.mp hr).1
            rw [List.length_append, List.length_singleton] at this
            omega
          subst hr2
          rw [List.getElem?_append_right (Nat.le_refl _), Nat.sub_self] at hr
          have hr : some R = some R' := hr
          cases hr
          exact s57 hRC5
      have Rlast : (Rs ++ [R])[Rs.length]? = some R := by rw [List.getElem?_append_right (Nat.le_refl _), Nat.sub_self]; rfl
      have hG0 : Rs.length = 0 → G = none := by
        intro z
        match G, hg with
        | none, _ => rfl
        | some (r, R', wo), hg =>
          have := (List.getElem?_eq_some_iff.mp hg.2).1
          omega
      refine ⟨fun z => H75 _ ?_, fun z => ?_⟩
      · have hz : Rs.length ≠ 0 := fun y => z (by rw [g7, y]; rfl)
        rw [g7, nI_pred]
        refine ref _ (fun _ s2 s4 q1 q2 q3 e4 s6 e6 => fin s7 s2 s4 s6 (fun x k b1 b2 b3 b4 _ _ => f7 x k b1 b2 b3 b4) l7 p7 g7 RC7 q1 q2 q3 e4 e6 ?_) (fun y => absurd hok (by rw [y]; decide))
        have hGn : ¬ G = none := fun y => by
          subst y
          exact hz (by rw [show Rs = [] from hg]; rfl)
        refine ⟨G, ps, RlC_fine hC (fun x k hx => f7 x k (by omega) (by omega) (by omega) (by omega)) (fun r R' wo eG => ?_), fun w1 w2 w3 w4 => RlR_fine hT (fun k hk => w1 0 k (by omega) (by omega)) ⟨fun y => absurd y hGn, fun _ => by rw [w2]; exact nI_ne0 (by omega) (by omega)⟩ (fun x hx => funext fun k => w1 x k (by omega) (by omega)) (fun r R' wo eG => ?_), ?_, hGn⟩
        · subst eG
          exact RC7 r R' (by rw [List.getElem?_append_left (List.getElem?_eq_some_iff.mp hg.2).1]; exact hg.2)
        · subst eG
          exact w4 r R' hg.2
        · match G, hg with
          | none, hg => exact absurd rfl hGn
          | some (r, R', wo), hg => exact ⟨hg.1, by rw [List.getElem?_append_left (List.getElem?_eq_some_iff.mp hg.2).1]; exact hg.2⟩
      · have hz : Rs.length = 0 := by
          have : nI (Rs.length + 1) = nI 1 := by rw [← g7]; exact z
          have := (nI_eq (by omega) (by omega)).mp this
          omega
        have hGn := hG0 hz
        have h7z : StC s7 (Bo 108 + 10) sg0 := hC.zero.same (fun i _ => f7 _ i (by omega) (by omega) (by omega) (by omega)) (funext fun k => f7 _ k (by omega) (by omega) (by omega) (by omega))
        refine kC_restart (wo := none) (d := d + 507) hn b108 hlt (RC7 _ _ Rlast) hokR (fun c hc => by cases hc) h7z (fun s9 a1 a2 a3 a4 a5 => H75 _ ?_)
        have g9 : gi s9 100 6 = nI (Rs.length + 1) := by rw [a3 100 (by omega) (by omega) (by omega)]; exact g7
        rw [g9, nI_pred]
        refine ref _ (fun _ s2 s4 q1 q2 q3 e4 s6 e6 => fin s9 s2 s4 s6 (fun x k b1 b2 b3 b4 b5 b6 => by rw [a3 x (by omega) (by omega) (by omega)]; exact f7 x k b1 b2 b3 b4) (fun x => by rw [a5, l7]) ⟨by rw [a3 105 (by omega) (by omega) (by omega)]; exact p7.1, by decide, fun i b hb => by cases hb⟩ g9 (fun r R' hr => ?_) q1 q2 q3 e4 e6 ?_) (fun y => absurd hok (by rw [y]; decide))
        · have hr6 : r < 5 := by
            have := (List.getElem?_eq_some_iff.mp hr).1
            rw [ap1r] at this
            omega
          exact RuC_fine (RC7 r R' hr) (by rw [a3 (140 + r) (by omega) (by omega) (by omega)]) (fun x k x1 x2 => by rw [a3 x (by omega) (by omega) (by omega)])
        · refine ⟨some (Rs.length, R, none), [], ⟨a1, a2⟩, fun w1 w2 w3 w4 => ?_, ⟨rfl, Rlast⟩, fun y => by cases y⟩
          refine ⟨⟨⟨?_, ?_, ?_, fun j hj => ?_, fun j m hm => by cases hm⟩, hlt, w3, hokR, fun c hc => (by cases hc), trivial⟩, by rw [w2]; exact nI_ne0 (by omega) (by omega)⟩
          · rw [w1 0 24 (by omega) (by omega), h24 hGn, hz]; rfl
          · rw [w1 0 25 (by omega) (by omega)]; exact h25
          · rw [w1 0 26 (by omega) (by omega)]
            subst hGn
            exact hT.2.2.1
          · have hj0 : j = 0 := Nat.le_zero.mp hj
            subst hj0
            have t0 : StR τ 0 sg0 := hT.zero
            exact t0.same (fun x x1 x2 => w1 x 0 (by omega) (by omega))
    · have hokf : (rdT bs).1 = false := by
        cases hz : (rdT bs).1
        · rfl
        · exact absurd hz hok
      rw [if_neg hok]
      refine ⟨fun y => absurd y (m1_nI (by omega)), fun _ => ref _ (fun y => absurd y hok) (fun _ s2 s4 g3 e4 => ?_)⟩
      obtain ⟨q1, q2, q3⟩ := r4f s2 s4 g3 e4
      obtain ⟨i0, i1, i2, i3, i4, i5, i6, i7, -⟩ := h
      have all := IRu_beside hu hlt f3 g3
      have RC5 : ∀ (r : Nat) R', Rs[r]? = some R' → RuC s5 r R' := fun r R' hr => fC5 r (by have := (List.getElem?_eq_some_iff.mp hr).1; omega) R' (all r R' hr).1
      refine hQ _ _ _ ⟨i0, i1.same (fun x k hx => f5 x k (by omega) (by omega) (by omega)) (fun x k hx => q1 x k (by omega) (by omega)), i2.same (fun x k hx => f5 x k (by omega) (by omega) (by omega)) (fun x k hx => q1 x k (by omega) (by omega)), ⟨[], p5, q3⟩, i4.same (fun x k hx => f5 x k (by omega) (by omega) (by omega)), fun i hi => by rw [q1 38 i (by omega) (by omega)]; exact i5 i hi, i6.same (fun x k hx => f5 x k (by omega) (by omega) (by omega)) (fun x k hx => q1 x k (by omega) (by omega)), i7.same (fun x k hx => f5 x k (by omega) (by omega) (by omega)) (fun x k hx => q1 x k (by omega) (by omega)) l5 q2, Rs, ⟨hu5, gk, by rw [q1 0 8 (by omega) (by omega)]; exact hu.2.2.1, fun r R' hr => ⟨RC5 r R' hr, ⟨RuR4 s2 s4 e4 _ _ (all r R' hr).2.1.1, RuB4 s2 s4 e4 _ _ (all r R' hr).2.1.2⟩, (all r R' hr).2.2⟩⟩, G, ps, RlC_fine hC (fun x k hx => f5 x k (by omega) (by omega) (by omega)) (fun r R' wo eG => ?_), RlR_fine hT (fun k hk => q1 0 k (by omega) (by omega)) ⟨fun y => ?_, fun y => ?_⟩ (fun x hx => funext fun k => q1 x k (by omega) (by omega)) (fun r R' wo eG => ?_), hg, by rw [q1 0 25 (by omega) (by omega)]; exact h25, fun y => by rw [q1 0 24 (by omega) (by omega)]; exact h24 y⟩
      · subst eG
        exact RC5 r R' hg.2
      · rw [q1 0 8 (by omega) (by omega), hu.2.2.1]
        subst y
        rw [show Rs = [] from hg]; rfl
      · rw [q1 0 8 (by omega) (by omega), hu.2.2.1]
        refine nI_ne0 ?_ (by omega)
        match G, hg with
        | none, _ => exact absurd rfl y
        | some (r, R', wo), hg =>
          have := (List.getElem?_eq_some_iff.mp hg.2).1
          omega
      · subst eG
        exact RuR4 s2 s4 e4 _ _ (all r R' hg.2).2.1.1
end RS
