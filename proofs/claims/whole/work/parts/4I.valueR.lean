/-! PURE: the reference's values -/
theorem cR_fm {n k : Nat} {τ τ' : St} {cs : Cs} (h : fmR n τ τ') (hc : cR τ k cs) : cR τ' k cs := by
  intro w p hw hp
  rw [h.1 _ _ (by omega) (by omega) (by omega) (by omega) (by omega)]
  exact hc w p hw hp
theorem r_below {τ : St} {G : Gm} {ps : List Nat} (h : RlR τ G ps) (hp : 0 < ps.length) : gi τ 36 (ps.length - 1) = nI (slG G ps.tail).toNat := by
  match G, h with
  | none, h => rw [h.1] at hp; exact absurd hp (Nat.lt_irrefl 0)
  | some (r, R, wo), h =>
    have := (h.1.1.2.2.2.1 (ps.length - 1) (by omega)).2.2.2.2.2.2.2.2
    rw [this, show ps.length - (ps.length - 1) = 1 by omega, List.drop_one]
    exact slG_e (G := some (r, R, wo))
theorem r_worthOf {d k : Nat} {C : Cx} {cs : Cs} {ps : List Nat} {τ : St} {Q : Int32 → St → Prop} (hk : k < 4) (hT : RlR τ C.1 ps) (hc : cR τ k cs) (h : Q (nI (wth C cs ps)) τ) : EI (d + 1) idsR Y_X7_worthOf [.ref 0, .int (nI k)] τ Q := by
  have hl := hT.lg.len
  obtain ⟨hp, ep, h4⟩ := gs_p hT.lg.gs
  obtain ⟨t6, t3, t4, t5, t1, t33, -⟩ := hT.top
  have hbel := fun hz => r_below hT hz
  have hs1 : sgG C.1 ps 1 = 4 → 0 < ps.length := kind_cons
  unfold wth at h
  refine fl_X7_worthOf hR (fun P67 P162 P180 H67 H162 H180 x14 e14 => ?_)
  rw [hT.made] at e14
  subst e14
  simp only [rf0] at H67 H162 H180 ⊢
  have en : (nI ps.length).toNatClampNeg = ps.length := cl_ix _ (by omega)
  have hin : vp_in (nI ps.length) 8 := vp_in_nI (by omega) (by decide)
  rw [en, t3, t4]
  generalize hsl : slG C.1 ps.tail = sl at h hbel
  generalize hs : sgG C.1 ps = s at *
  generalize hpp : (s 3).toNatClampNeg = p at hp ep
  rw [ep, k6]
  refine ⟨hin, fun x16 e16 => ⟨hin, fun x18 e18 => ?_⟩⟩
  subst e16
  have hin2 : vp_in (nI (6 * k + p)) 24 := vp_in_nI (by omega) (by decide)
  have c0 := hc 0 p (by decide) hp
  have c1 := hc 1 p (by decide) hp
  have c2 := hc 2 p (by decide) hp
  have o0 : (4 + 0 : Nat) = 4 := rfl
  have o1 : (4 + 1 : Nat) = 5 := rfl
  have o2 : (4 + 2 : Nat) = 6 := rfl
  rw [o0] at c0
  rw [o1] at c1
  rw [o2] at c2
  have E20 : (20 : Int32) = nI 20 := rfl
  have main : ∀ (a : Int32) (V : Nat), a = 1 - s 4 → V ≤ 20 → (s 1 = 1 → 10 + cs 0 p - cs 1 p = if s 4 = 0 then 20 - V else V) → P67 (nI ps.length) (nI (6 * k + p)) a (nI V) τ := by
    rintro a V rfl hV hd
    have h0 : (1 - s 4 = 0) ↔ s 4 = 1 := by
      rcases h4 with e | e <;> rw [e] <;> decide
    refine H67 _ _ _ _ _ ⟨hin, fun x2 e2 => ?_⟩
    rw [en, t33] at e2
    rw [cl_ix (6 * k + p) (by omega), c2.1]
    have kinds : (x2 = 1 ↔ s 1 = 1) ∧ (x2 = 3 ↔ s 1 = 3) ∧ (x2 = 4 ↔ s 1 = 4) ∧ ¬ x2 = 2 := by
      rw [e2, enM]
      by_cases z1 : s 1 = 1
      · rw [if_pos z1, z1]; decide
      · rw [if_neg z1]
        by_cases z3 : s 1 = 3
        · rw [if_pos z3, z3]; decide
        · rw [if_neg z3]
          by_cases z4 : s 1 = 4
          · rw [if_pos z4, z4]; decide
          · rw [if_neg z4]
            exact ⟨⟨fun z => absurd z (by decide), fun z => absurd z z1⟩, ⟨fun z => absurd z (by decide), fun z => absurd z z3⟩, ⟨fun z => absurd z (by decide), fun z => absurd z z4⟩, by decide⟩
    obtain ⟨k1, k3, k4, k2⟩ := kinds
    refine ⟨fun q => ?_, fun q => absurd q k2, fun q => ?_, fun q => ⟨hin, ?_⟩, fun q1 q2 q3 q4 => ?_⟩
    · have q := k1.mp q
      have hW : wM cs s sl = if s 4 = 0 then 20 - V else V := by rw [wM, if_pos q, hpp]; exact hd q
      rw [hW] at h
      refine ⟨fun c => ?_, fun c => ?_⟩
      · rw [if_pos (h4.resolve_right (fun z => c (h0.mpr z)))] at h
        rw [E20, pk_sub hV]; exact h
      · rw [if_neg (by rw [h0.mp c]; decide)] at h; exact h
    · have q := k3.mp q
      have hW : wM cs s sl = if s 4 = 0 then 20 - 2 * cs 2 p else 2 * cs 2 p := by rw [wM, if_neg (by rw [q]; decide), if_pos q, hpp]
      rw [hW] at h
      refine ⟨fun c => ⟨hin2, ?_⟩, fun c => ⟨hin2, ?_⟩⟩
      · rw [if_pos (h4.resolve_right (fun z => c (h0.mpr z)))] at h
        rw [show (2 : Int32) = nI 2 from rfl, pk_mul, E20, pk_sub (by omega)]; exact h
      · rw [if_neg (by rw [h0.mp c]; decide)] at h
        rw [show (2 : Int32) = nI 2 from rfl, pk_mul]; exact h
    · have q := k4.mp q
      have hpos := hs1 q
      have hW : wM cs s sl = if s 4 = 0 then 20 * sl.toNat else 20 - 20 * sl.toNat := by rw [wM, if_neg (by rw [q]; decide), if_neg (by rw [q]; decide), if_pos q]
      rw [hW] at h
      rw [en, t4]
      have e1 : nI ps.length - 1 = nI (ps.length - 1) := pk_sub (b := 1) hpos
      have hin3 : vp_in (nI (ps.length - 1)) 8 := vp_in_nI (by omega) (by decide)
      have ee : gi τ 36 (nI ps.length - 1).toNatClampNeg = nI sl.toNat := by rw [e1, cl_ix _ (by omega), hbel hpos]
      refine ⟨fun c => H162 _ _ _ ⟨by rw [e1]; exact hin3, ?_⟩, fun c => H162 _ _ _ ⟨by rw [e1]; exact hin3, ?_⟩⟩
      · rw [if_neg c] at h
        rw [ee]
        cases sl
        · exact ⟨fun z => absurd rfl z, fun _ => h⟩
        · exact ⟨fun _ => h, fun z => absurd z (by decide)⟩
      · rw [if_pos c] at h
        rw [ee]
        cases sl
        · exact ⟨fun _ => h, fun z => absurd z (by decide)⟩
        · exact ⟨fun z => absurd rfl z, fun _ => h⟩
    · have hW : wM cs s sl = if s 4 = 0 then 0 else 20 := by rw [wM, if_neg (fun z => q1 (k1.mpr z)), if_neg (fun z => q3 (k3.mpr z)), if_neg (fun z => q4 (k4.mpr z))]
      rw [hW] at h
      refine H180 _ _ ⟨hin, ?_⟩
      rw [en, t4]
      refine ⟨fun c => ?_, fun c => ?_⟩
      · rw [if_neg c] at h; exact h
      · rw [if_pos c] at h; exact h
  rw [cl_ix (6 * k + p) (by omega), c0.1, c1.1, show (10 : Int32) = nI 10 from rfl, nI_add, nI_add]
  refine ⟨fun c => ⟨hin2, hin2, ?_⟩, fun c => ⟨hin2, hin2, ?_⟩⟩
  · rw [pk_sub (by omega)]
    refine main _ _ e18 (by omega) (fun _ => ?_)
    have : s 4 = 0 := h4.resolve_right (fun z => c (by rw [e18, z]; decide))
    rw [if_pos this]
    omega
  · rw [pk_sub (by omega)]
    refine main _ _ e18 (by omega) (fun _ => ?_)
    have : ¬ s 4 = 0 := fun z => by rw [e18, z] at c; exact absurd c (by decide)
    rw [if_neg this]
    omega
/-- what was found best so far, of the reference's level n -/
def accR (τ : St) (n : Nat) (acc : Option (Nat × Nat)) : Prop := match acc with
  | none => gi τ 44 n = 0
  | some (v, j) => gi τ 44 n = nI (PLa j) ∧ gi τ 43 n = nI v
theorem PLa_0 {j : Nat} (hj : j < 14) : ¬ nI (PLa j) = 0 := (by decide +kernel : ∀ j, j < 14 → ¬ nI (PLa j) = 0) j hj
theorem r_comesUp {d n v i : Nat} {τ : St} {Q : St → Prop} {w0 : Bool} {c : Nat → Bool} {vf : Nat → Nat} {acc : Option (Nat × Nat)} (hn : n < 8) (hv : v ≤ 20) (e26 : gi τ 0 26 = nI n) (ha : accR τ n acc) (hj : ∀ x j, acc = some (x, j) → x ≤ 20 ∧ j < 14) (hw : w0 = decide (gi τ 30 n = 0)) (hc : c i = true) (hvf : vf i = v)
    (h : ∀ τ', accR τ' n (stp w0 c vf acc i) → (∀ x k, ¬ (43 ≤ x ∧ x ≤ 44 ∧ k = n) → gi τ' x k = gi τ x k) → (∀ x, gl τ' x = gl τ x) → Q τ') : EV (d + 1) idsR Y_X7_comesUp [.ref 0, .int (nI v), .int (nI (PLa i))] τ Q := by
  refine fl_X7_comesUp hR (fun P46 P50 P51 H46 H50 H51 x6 e6 => ?_)
  rw [e26] at e6
  subst e6
  simp only [rf0] at H51 ⊢
  have en : (nI n).toNatClampNeg = n := cl_ix _ (by omega)
  have hin : vp_in (nI n) 8 := vp_in_nI hn (by decide)
  rw [en]
  have yes : stp w0 c vf acc i = some (v, i) → P46 (nI n) τ := by
    intro hs
    refine H46 _ _ (H51 _ _ _ ⟨fun _ => ⟨hin, fun s3 e3 => ⟨hin, fun s5 e5 => ?_⟩⟩, fun z => absurd z (by decide)⟩)
    rw [en] at e3 e5
    subst e3 e5
    refine h _ ?_ (fun x k hx => ?_) (fun x => rfl)
    · rw [hs]
      exact ⟨by rw [gi_same], by rw [gi_ne_o _ _ _ _ (by decide), gi_same]⟩
    · rw [gi_si, if_neg (fun z => hx (by omega)), gi_si, if_neg (fun z => hx (by omega))]
  have no : stp w0 c vf acc i = acc → P50 (nI n) τ := by
    intro hs
    refine H50 _ _ (H51 _ _ _ ⟨fun z => absurd rfl z, fun _ => ?_⟩)
    refine h τ ?_ (fun _ _ _ => rfl) (fun _ => rfl)
    rw [hs]; exact ha
  cases acc with
  | none =>
    have ha : gi τ 44 n = 0 := ha
    rw [ha]
    exact ⟨hin, fun _ => yes (by rw [stp_none hc, hvf]), fun z => absurd rfl z⟩
  | some q =>
    obtain ⟨x, j⟩ := q
    obtain ⟨a1, a2⟩ := ha
    obtain ⟨b1, b2⟩ := hj x j rfl
    rw [a1, a2]
    refine ⟨hin, fun z => absurd z (PLa_0 b2), fun _ => ⟨hin, fun z => ⟨hin, fun q => no ?_, fun q => yes ?_⟩, fun z => ⟨hin, fun q => no ?_, fun q => yes ?_⟩⟩⟩
    · have hw0 : w0 = false := by rw [hw, decide_eq_false z]
      subst hw0
      have : ¬ v < x := fun y => absurd ((nI_leI (by omega) (by omega)).mp q) (by omega)
      rw [stp.eq_def, if_pos hc]
      dsimp only
      rw [hvf, if_neg (fun y => y.elim (fun y => absurd y.1 (by decide)) (fun y => this y.2))]
    · have hw0 : w0 = false := by rw [hw, decide_eq_false z]
      subst hw0
      have : v < x := (nI_ltI (by omega) (by omega)).mp (nle.mp q)
      rw [stp.eq_def, if_pos hc]
      dsimp only
      rw [hvf, if_pos (Or.inr ⟨by decide, this⟩)]
    · have hw0 : w0 = true := by rw [hw, decide_eq_true z]
      subst hw0
      have : ¬ x < v := fun y => absurd ((nI_leI (by omega) (by omega)).mp q) (by omega)
      rw [stp.eq_def, if_pos hc]
      dsimp only
      rw [hvf, if_neg (fun y => y.elim (fun y => this y.2) (fun y => absurd rfl y.1))]
    · have hw0 : w0 = true := by rw [hw, decide_eq_true z]
      subst hw0
      have : x < v := (nI_ltI (by omega) (by omega)).mp (nle.mp q)
      rw [stp.eq_def, if_pos hc]
      dsimp only
      rw [hvf, if_pos (Or.inl ⟨rfl, this⟩)]
theorem bst_skip {w0 : Bool} {c : Nat → Bool} {vf : Nat → Nat} {i : Nat} : ∀ k, i ≤ k → (∀ j, i ≤ j → j < k → c j = false) → bst w0 c vf k = bst w0 c vf i := by
  intro k
  induction k with
  | zero => intro h _; rw [show i = 0 by omega]
  | succ k ih =>
    intro h1 h2
    by_cases he : i = k + 1
    · rw [he]
    · rw [bst, stp_skip (h2 k (by omega) (Nat.lt_succ_self k))]
      exact ih (by omega) (fun j j1 j2 => h2 j j1 (by omega))
theorem r_valueOf {d k : Nat} {C : Cx} {cs : Cs} {ps : List Nat} {τ : St} {Q : Int32 → St → Prop} (hk : k < 4) (hT : RlR τ C.1 ps) (hlk : lkR τ C) (ha : allR τ) (hc : cR τ k cs)
    (h : ∀ τ', fmR ps.length τ τ' → gi τ' 0 26 = nI ps.length → gi τ' 44 ps.length = (match bsG C cs ps with | none => 0 | some j => nI (PLa j)) → Q (nI (vlG C cs ps)) τ') : EI (d + 7) idsR Y_X7_valueOf [.ref 0, .int (nI k)] τ Q := by
  have hl := hT.lg.len
  refine fl_X7_valueOf hR (fun P19 P113 H19 H113 x22 e22 => ?_)
  rw [hT.made] at e22
  subst e22
  simp only [rf0] at H19 H113 ⊢
  have hle20 : ∀ ps, lgG C.1 ps → wth C cs ps ≤ 20 := fun ps hl => wth_le (fun w p hw hp => (hc w p hw hp).2) hl
  have walk : ∀ (f : Nat) (qs : List Nat) (τ1 : St), qs.length + f = 5 → RlR τ1 C.1 qs → lkR τ1 C → allR τ1 → cR τ1 k cs → gi τ1 42 qs.length = 0 → gi τ1 44 qs.length = 0 →
      (∀ τ2, fmR qs.length τ1 τ2 → gi τ2 0 26 = nI qs.length → gi τ2 44 qs.length = (match bso C (wth C cs) f qs with | none => 0 | some (_, j) => nI (PLa j)) → P113 (nI ps.length) (nI (val C (wth C cs) f qs)) τ2) → ps.length ≤ qs.length → P19 (nI ps.length) τ1 := by
    intro f
    induction f with
    | zero =>
      intro qs τ1 hf q1 q2 q3 q4 q5 q6 hQ hps
      have lf := leaf_5 q1.lg hf
      have hin : vp_in (nI qs.length) 8 := vp_in_nI (by omega) (by decide)
      have en : (nI qs.length).toNatClampNeg = qs.length := cl_ix _ (by omega)
      refine H19 _ _ ?_
      rw [q1.made, en, q5]
      refine ⟨hin, r_nextMay (i := 0) q1 q2 q3 (by decide) (fun t k1 k2 k3 k4 τ2 hE => ⟨fun c => ?_, fun c => ?_⟩)⟩
      · rw [hE.1 0 (by decide), hE.1 44 (by decide), q1.made, en, q6]
        refine ⟨hin, fun z => absurd rfl z, fun _ => ?_⟩
        exact r_worthOf hk (RlR_eqP q1 hE) (cR_fm (hE.fm 0) q4) (hQ τ2 (hE.fm _) (by rw [hE.1 0 (by decide)]; exact q1.made) (by rw [hE.1 44 (by decide)]; exact q6))
      · exfalso
        have ht : t < 14 := (nI_ltI (b := 14) (by omega) (by decide)).mp (nle.mp c)
        have := leaf_iff.mp lf t ht
        rw [k4 ht] at this
        cases this
    | succ f ih =>
      intro qs τ1 hf q1 q2 q3 q4 q5 q6 hQ hps
      have hin : vp_in (nI qs.length) 8 := vp_in_nI (by omega) (by decide)
      have hin1 : vp_in (nI (qs.length + 1)) 8 := vp_in_nI (by omega) (by decide)
      have en : (nI qs.length).toNatClampNeg = qs.length := cl_ix _ (by omega)
      have en1 : (nI (qs.length + 1)).toNatClampNeg = qs.length + 1 := cl_ix _ (by omega)
      have hbso : bso C (wth C cs) (f + 1) qs = bst (w0G C.1 qs) (cb C qs) (fun i => val C (wth C cs) f (PLa i :: qs)) 14 := rfl
      have hval := val_bso C (wth C cs) (f + 1) qs
      rw [hbso] at hval hQ
      generalize hvf : (fun i => val C (wth C cs) f (PLa i :: qs)) = vf at *
      have hvfi : ∀ i, val C (wth C cs) f (PLa i :: qs) = vf i := fun i => by rw [← hvf]
      have hvf20 : ∀ i, i < 14 → cb C qs i = true → vf i ≤ 20 := fun i hi hci => by rw [← hvfi]; exact val_le hle20 f _ (q1.lg.cons hi hci)
      have loop : ∀ m i τ2, 14 - i = m → i ≤ 14 → fmR qs.length τ1 τ2 → gi τ2 0 26 = nI qs.length → gi τ2 42 qs.length = nI i → accR τ2 qs.length (bst (w0G C.1 qs) (cb C qs) vf i) → P19 (nI ps.length) τ2 := by
        intro m
        induction m using Nat.strongRecOn with
        | _ m ihm =>
          intro i τ2 r1 r2 r3 r4 r5 r6
          have hT2 := RlR_fm q1 r3 r4
          have hlk2 := lkR_fm q2 r3
          have ha2 := allR_fm q3 r3
          refine H19 _ _ ?_
          rw [r4, en, r5]
          refine ⟨hin, r_nextMay hT2 hlk2 ha2 r2 (fun t k1 k2 k3 k4 τ3 hE => ⟨fun c => ?_, fun c => ?_⟩)⟩
          · have ht : t = 14 := by
              have := (nI_leI (a := 14) (by decide) (by omega)).mp c
              omega
            subst ht
            have r7 := r3.tr (hE.fm _)
            have e26 : gi τ3 0 26 = nI qs.length := by rw [hE.1 0 (by decide)]; exact r4
            rw [e26, en]
            have hb14 : bst (w0G C.1 qs) (cb C qs) vf 14 = bst (w0G C.1 qs) (cb C qs) vf i := bst_skip 14 r2 k3
            rw [hb14] at hval hQ
            refine ⟨hin, ?_⟩
            rw [hE.1 44 (by decide), hE.1 43 (by decide)]
            cases hz : bst (w0G C.1 qs) (cb C qs) vf i with
            | none =>
              rw [hz] at r6 hval hQ
              have r6 : gi τ2 44 qs.length = 0 := r6
              rw [r6]
              refine ⟨fun z => absurd rfl z, fun _ => r_worthOf hk (RlR_fm q1 r7 e26) (cR_fm r7 q4) ?_⟩
              have := hQ τ3 r7 e26 (by rw [hE.1 44 (by decide)]; exact r6)
              rw [hval] at this
              exact this
            | some vj =>
              obtain ⟨v, j⟩ := vj
              rw [hz] at r6 hval hQ
              obtain ⟨r6, r8⟩ := r6
              obtain ⟨s1, s2, s3⟩ := bst_some hz
              rw [r6, r8]
              refine ⟨fun _ => ⟨hin, ?_⟩, fun z => absurd z (PLa_0 (by omega))⟩
              have := hQ τ3 r7 e26 (by rw [hE.1 44 (by decide)]; exact r6)
              rw [hval] at this
              exact this
          · have ht : t < 14 := (nI_ltI (b := 14) (by omega) (by decide)).mp (nle.mp c)
            have hct := k4 ht
            have r7 := r3.tr (hE.fm _)
            have e26 : gi τ3 0 26 = nI qs.length := by rw [hE.1 0 (by decide)]; exact r4
            rw [e26, en]
            refine ⟨hin, fun s11 e11 => ⟨vp_in_nI ht (by decide), ?_⟩⟩
            have r11 : fmR qs.length τ1 s11 := by rw [e11]; exact r7.si _ (by omega)
            have e26b : gi s11 0 26 = nI qs.length := by rw [e11, gi_ne_o _ _ _ _ (by decide)]; exact e26
            have hT11 := RlR_fm q1 r11 e26b
            rw [cl_ix t (by omega), allR_fm q3 r11 t ht]
            refine r_make (C := C) hT11 ht hct (fun s13 w1 w2 w3 w4 => ?_)
            rw [w1.made, List.length_cons, en1]
            refine ⟨hin1, fun s15 e15 => ?_⟩
            have z26 : gi s15 0 26 = nI (qs.length + 1) := by rw [e15, gi_ne_o _ _ _ _ (by decide), w1.made]; rfl
            rw [z26, en1]
            refine ⟨hin1, fun s17 e17 => ?_⟩
            have f17 : fmR (qs.length + 1) s13 s17 := by
              rw [e17, e15]
              exact ((fmR.rf _ _).si _ (by omega)).si _ (by omega)
            have f17b : fmR qs.length τ1 s17 := (r11.tr w2).tr (fmR.up (by omega) f17)
            have z26b : gi s17 0 26 = nI (qs.length + 1) := by rw [e17, gi_ne_o _ _ _ _ (by decide)]; exact z26
            have hT17 : RlR s17 C.1 (PLa t :: qs) := RlR_fm w1 f17 z26b
            refine ih (PLa t :: qs) s17 (by rw [List.length_cons]; omega) hT17 (lkR_fm q2 f17b) (allR_fm q3 f17b) (cR_fm f17b q4) (by rw [e17, gi_ne_o _ _ _ _ (by decide), e15, List.length_cons, gi_same]) (by rw [e17, List.length_cons, gi_same]) (fun τ4 x1 x2 x3 => ?_) (by rw [List.length_cons]; omega)
            rw [hvfi, List.length_cons] at *
            refine H113 _ _ _ ⟨fun _ s19 e19 => ?_, fun z => ?_⟩
            · rw [x2, nI_pred] at e19
              have f19 : fmR qs.length τ1 s19 := by rw [e19]; exact (f17b.tr (fmR.up (by omega) x1)).si _ (by omega)
              have y26 : gi s19 0 26 = nI qs.length := by rw [e19, gi_same]
              have hT19 := RlR_fm q1 f19 y26
              rw [y26, en]
              refine ⟨hin, ?_⟩
              have y27 : gi s19 27 qs.length = nI (PLa t) := by
                rw [e19, gi_ne_o _ _ _ _ (by decide), x1.1 27 _ (by decide) (by omega) (by omega) (by omega) (by omega), f17.1 27 _ (by decide) (by omega) (by omega) (by omega) (by omega), w3]
              have lowk : ∀ x, 42 ≤ x → x ≤ 44 → gi s19 x qs.length = gi s11 x qs.length := by
                intro x h1 h2
                rw [e19, gi_ne_o _ _ _ _ (by omega), x1.1 x _ (by omega) (by omega) (by omega) (by omega) (by omega), f17.1 x _ (by omega) (by omega) (by omega) (by omega) (by omega), w4 x (by omega)]
              rw [y27]
              refine r_comesUp (w0 := w0G C.1 qs) (c := cb C qs) (vf := vf) (acc := bst (w0G C.1 qs) (cb C qs) vf t) (by omega) (hvf20 t ht hct) y26 ?_ (fun x j hx => ?_) ?_ hct rfl (fun τ5 v1 v2 v3 => ?_)
              · rw [bst_skip t k1 k3]
                have e44 : gi s19 44 qs.length = gi τ2 44 qs.length := by rw [lowk 44 (by decide) (by decide), e11, gi_ne_o _ _ _ _ (by decide), hE.1 44 (by decide)]
                have e43 : gi s19 43 qs.length = gi τ2 43 qs.length := by rw [lowk 43 (by decide) (by decide), e11, gi_ne_o _ _ _ _ (by decide), hE.1 43 (by decide)]
                unfold accR at r6 ⊢
                rw [e44, e43]
                exact r6
              · obtain ⟨s1, s2, s3⟩ := bst_some hx
                exact ⟨by rw [s3]; exact hvf20 j (by omega) s2, by omega⟩
              · rw [hT19.top.2.2.1]; rfl
              · have f5 : fmR qs.length τ1 τ5 := ⟨fun x j g1 g2 g3 g4 g5 => by rw [v2 x j (fun z => by omega)]; exact f19.1 x j g1 g2 g3 g4 g5, fun x => (v3 x).trans (f19.2 x)⟩
                refine ihm (14 - (t + 1)) (by omega) (t + 1) τ5 rfl (by omega) f5 (by rw [v2 0 26 (by omega)]; exact y26) ?_ v1
                rw [v2 42 _ (by omega), lowk 42 (by decide) (by decide), e11, gi_same, nI_succ]
            · exfalso
              rw [x2] at z
              have := (nI_eq (by omega) (by omega)).mp z
              omega
      exact loop 14 0 τ1 rfl (by decide) (fmR.rf _ _) q1.made q5 q6
  have en : (nI ps.length).toNatClampNeg = ps.length := cl_ix _ (by omega)
  have hin : vp_in (nI ps.length) 8 := vp_in_nI (by omega) (by decide)
  rw [en]
  refine ⟨hin, fun s24 e24 => ⟨hin, fun s26 e26 => ?_⟩⟩
  have f26 : fmR ps.length τ s26 := by rw [e26, e24]; exact ((fmR.rf _ _).si _ (by omega)).si _ (by omega)
  have m26 : gi s26 0 26 = nI ps.length := by rw [e26, gi_ne_o _ _ _ _ (by decide), e24, gi_ne_o _ _ _ _ (by decide)]; exact hT.made
  refine walk (5 - ps.length) ps s26 (by omega) (RlR_fm hT f26 m26) (lkR_fm hlk f26) (allR_fm ha f26) (cR_fm f26 hc) (by rw [e26, gi_ne_o _ _ _ _ (by decide), e24, gi_same]) (by rw [e26, gi_same]) (fun τ2 g1 g2 g3 => ?_) (Nat.le_refl _)
  refine H113 _ _ _ ⟨fun z => absurd g2 z, fun _ => h τ2 (f26.tr g1) g2 ?_⟩
  rw [g3, bsG]
  cases bso C (wth C cs) (5 - ps.length) ps <;> rfl
