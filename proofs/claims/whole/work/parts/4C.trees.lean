/-! PURE: all ways on from PLEAS, in order -/
def leaf (C : Cx) (ps : List Nat) : Bool := !(List.range 14).any (cb C ps)
def kf {α : Type} (C : Cx) (g : List Nat → List α) (ps : List Nat) (i : Nat) : List α := if cb C ps i = true then g (PLa i :: ps) else []
def endsL (C : Cx) : Nat → List Nat → List (List Nat)
  | 0, ps => [ps]
  | f + 1, ps => if leaf C ps = true then [ps] else (List.range 14).flatMap (kf C (endsL C f) ps)
theorem leaf_iff {C : Cx} {ps : List Nat} : leaf C ps = true ↔ ∀ i, i < 14 → cb C ps i = false := by
  rw [← any_cb, leaf]
  cases (List.range 14).any (cb C ps) <;> simp
theorem leaf_5 {C : Cx} {ps : List Nat} (hl : lgG C.1 ps) (h : ps.length = 5) : leaf C ps = true := leaf_iff.mpr (fun i hi => by
  cases hz : cb C ps i
  · rfl
  · have := cb_len hl hz; omega)
theorem endsL_leaf {C : Cx} {ps : List Nat} (h : leaf C ps = true) : ∀ f, endsL C f ps = [ps]
  | 0 => rfl
  | f + 1 => by rw [endsL, if_pos h]
theorem esG_leaf {C : Cx} {ps : List Nat} (h : leaf C ps = true) : ∃ j : Nat, (j = 1 ∨ j = 3 ∨ j = 4 ∨ j = 7) ∧ esG C ps = nI j := by
  rw [leaf_iff, ← any_cb] at h
  unfold esG
  rw [h]
  by_cases h1 : enM (sgG C.1 ps) = 0
  · rw [if_pos h1, if_neg (by decide)]; exact ⟨7, by decide, rfl⟩
  · rw [if_neg h1]
    have hc : clM (sgG C.1 ps) := Classical.byContradiction (fun z => h1 (enM_0.mpr z))
    rw [enM_c hc]
    rcases hc with e | e | e
    · exact ⟨1, by decide, e⟩
    · exact ⟨3, by decide, e⟩
    · exact ⟨4, by decide, e⟩
theorem c_bit {N i : Nat} (hN : N < 16384) (hi : i < 14) : ((nI N >>> (nI i &&& 31)) &&& 1) = nI (N.testBit i).toNat := by
  have hs : ((nI i &&& 31).toBitVec.smod 32).toNat = i := by
    rcases (by omega : i = 0 ∨ i = 1 ∨ i = 2 ∨ i = 3 ∨ i = 4 ∨ i = 5 ∨ i = 6 ∨ i = 7 ∨ i = 8 ∨ i = 9 ∨ i = 10 ∨ i = 11 ∨ i = 12 ∨ i = 13) with rfl | rfl | rfl | rfl | rfl | rfl | rfl | rfl | rfl | rfl | rfl | rfl | rfl | rfl <;> decide +kernel
  rw [pk_shrN (by omega) _ i hs, n_and1, Nat.testBit_eq_decide_div_mod_eq]
  rcases Nat.mod_two_eq_zero_or_one (N / 2 ^ i) with e | e <;> rw [e] <;> rfl
theorem tPl_at {i : Nat} (hi : i < 14) : tPl (nI i).toNatClampNeg = nI (PLa i) := by
  rw [cl_ix i (by omega)]
  exact (by decide +kernel : ∀ i, i < 14 → tPl i = nI (PLa i)) i hi
def cntE (C : Cx) (l : List (List Nat)) (k : Nat) : Nat := l.countP fun e => decide (k = 0) || decide (esG C e = nI k)
theorem cntE_app (C : Cx) (l l2 : List (List Nat)) (k : Nat) : cntE C (l ++ l2) k = cntE C l k + cntE C l2 k := List.countP_append
theorem fm_r4 {nc b : Nat} (hb : isB b) : rf b 4 = Bo b + 4 := rfb hb (by decide)
theorem c_endHere {d nc b : Nat} {C : Cx} {ps : List Nat} {σ : St} {Q : St → Prop} (hn : nc < 5) (hb : isB b) (hR : RlC σ b C.1 ps) (hlk : lkC σ C) (hlf : leaf C ps = true)
    (h : ∀ σ', fmN b ps.length σ σ' → gi σ' b 10 = nI ps.length → (∀ k, k < 8 → gi σ' (Bo b + 4) k = gi σ (Bo b + 4) k + nI (cntE C [ps] k)) → Q σ') :
    ∀ s1 : St, s1 = si σ (rf b 4) (Int32.toNatClampNeg 0) ((gi σ (rf b 4) (Int32.toNatClampNeg 0)) + 1) → EI (d + 3) (idsC nc) Y_X2_endSort [.ref b] s1 (fun x3 s2 => vp_in x3 8 ∧ vp_in x3 8 ∧ ∀ s6 : St, s6 = si s2 (rf b 4) (Int32.toNatClampNeg x3) ((gi s2 (rf b 4) (Int32.toNatClampNeg x3)) + 1) → Q s6) := by
  rintro s1 e1
  have hBo := Bo_v hb
  have hb1 := isB_lt hb
  rw [rfb hb (by decide)] at e1 ⊢
  have z0 : (0 : Int32).toNatClampNeg = 0 := rfl
  rw [z0] at e1
  have f1 : fmN b ps.length σ s1 := by rw [e1]; exact (fmN.rf _ _ _).si _ (by unfold exc; omega)
  have m1 : gi s1 b 10 = nI ps.length := by rw [e1, gi_ne_o _ _ _ _ (by omega)]; exact hR.made
  refine c_endSort hn hb (RlC_fm hb hR f1 m1) (lkC_fm hb f1 hlk) ?_
  obtain ⟨j, hj, ej⟩ := esG_leaf hlf
  have hin : vp_in (nI j) 8 := vp_in_nI (by omega) (by decide)
  rw [ej, cl_ix j (by omega)]
  refine ⟨hin, hin, fun s6 e6 => h s6 ?_ ?_ (fun k hk => ?_)⟩
  · rw [e6]; exact f1.si _ (by unfold exc; omega)
  · rw [e6, gi_ne_o _ _ _ _ (by omega)]; exact m1
  · have hc : cntE C [ps] k = if k = 0 then 1 else if k = j then 1 else 0 := by
      unfold cntE
      rw [List.countP_singleton, ej]
      by_cases h0 : k = 0
      · simp [h0]
      · by_cases h1 : k = j
        · simp [h1]
        · rw [if_neg h0, if_neg h1, if_neg]
          simp only [Bool.or_eq_true, decide_eq_true_eq, not_or]
          exact ⟨h0, fun z => h1 ((nI_eq (by omega) (by omega)).mp z).symm⟩
    rw [hc, e6, e1]
    simp only [gi_si]
    by_cases h0 : k = 0
    · subst h0
      simp [show ¬ (0 = j) by omega]
      rfl
    · by_cases h1 : k = j
      · subst h1
        simp [h0]
        rfl
      · simp [h0, h1]
        exact (Int32.add_zero _).symm
theorem RlC_dn {b m : Nat} {σ σ' : St} {G : Gm} {ps : List Nat} (hb : isB b) (hR : RlC σ b G ps) (h : fmN b ps.length σ σ') (hm : gi σ' b 10 = nI ps.length) : RlC σ' b G ps := RlC_fm hb hR h hm
theorem nI_sum (x : Int32) (a b : Nat) : x + nI a + nI b = x + nI (a + b) := by rw [Int32.add_assoc, nI_add]
theorem c_walkEnds {nc b : Nat} {C : Cx} (hn : nc < 5) (hb : isB b) : ∀ (f d : Nat) (ps : List Nat) (σ : St) (Q : St → Prop), ps.length + f = 5 → RlC σ b C.1 ps → lkC σ C →
    (∀ σ', fmN b ps.length σ σ' → gi σ' b 10 = nI ps.length → (∀ k, k < 8 → gi σ' (Bo b + 4) k = gi σ (Bo b + 4) k + nI (cntE C (endsL C f ps) k)) → Q σ') →
    EV (d + f + 5) (idsC nc) Y_X2_walkEnds [.ref b, .int (nI ps.length)] σ Q := by
  have hBo := Bo_v hb
  have hb1 := isB_lt hb
  intro f
  induction f with
  | zero =>
    intro d ps σ Q hf hR hlk h
    refine fl_X2_walkEnds (hRo hn hb) (fun P14 P40 P78 H14 H40 H78 => ?_)
    have lf := leaf_5 hR.lg hf
    have done : P14 σ := H14 _ (c_endHere hn hb hR hlk lf h)
    exact c_open hn hb hR hlk (fun N hN hbit => ⟨fun _ => done, fun _ => ⟨fun c => absurd ((nI_ltI (b := 5) (by omega) (by decide)).mp c) (by omega), fun _ => done⟩⟩)
  | succ f ih =>
    intro d ps σ Q hf hR hlk h
    refine fl_X2_walkEnds (hRo hn hb) (fun P14 P40 P78 H14 H40 H78 => ?_)
    refine c_open hn hb hR hlk (fun N hN hbit => ⟨fun c => ?_, fun c => ⟨fun _ => ?_, fun c2 => absurd (nI_lt (b := 5) (by omega) (by decide)) c2⟩⟩)
    · have lf : leaf C ps = true := leaf_iff.mpr ((open_zero hN hbit).mp c)
      rw [endsL_leaf lf] at h
      exact H14 _ (c_endHere hn hb hR hlk lf h)
    · have nlf : ¬ leaf C ps = true := fun z => c ((open_zero hN hbit).mpr (leaf_iff.mp z))
      have loop : ∀ m i, 14 - i = m → i ≤ 14 → ∀ σ1, fmN b ps.length σ σ1 → gi σ1 b 10 = nI ps.length → (∀ k, k < 8 → gi σ1 (Bo b + 4) k = gi σ (Bo b + 4) k + nI (cntE C ((List.range i).flatMap (kf C (endsL C f) ps)) k)) → P40 (nI N) (nI i) σ1 := by
        intro m
        induction m with
        | zero =>
          intro i h1 h2 σ1 g1 g2 g3
          have : i = 14 := by omega
          subst this
          refine H40 _ _ _ ⟨fun _ => h σ1 g1 g2 ?_, fun q => absurd (nI_le (Nat.le_refl 14) (by decide)) q⟩
          rw [endsL, if_neg nlf]
          exact g3
        | succ m ihm =>
          intro i h1 h2 σ1 g1 g2 g3
          have hi : i < 14 := by omega
          have next : ∀ σ2, fmN b ps.length σ σ2 → gi σ2 b 10 = nI ps.length → (∀ k, k < 8 → gi σ2 (Bo b + 4) k = gi σ1 (Bo b + 4) k + nI (cntE C (kf C (endsL C f) ps i) k)) → P78 (nI N) (nI i) σ2 := by
            intro σ2 j1 j2 j3
            refine H78 _ _ _ (fun x ex => ?_)
            rw [ex, ← nI_succ]
            refine ihm (i + 1) (by omega) (by omega) σ2 j1 j2 (fun k hk => ?_)
            rw [j3 k hk, g3 k hk, nI_sum, ← cntE_app, List.range_succ, List.flatMap_append]
            simp
          refine H40 _ _ _ ⟨fun q => absurd ((nI_leI (a := 14) (by decide) (by omega)).mp q) (by omega), fun _ => ?_⟩
          rw [c_bit hN hi, hbit i hi]
          have hR1 := RlC_fm hb hR g1 g2
          have hlk1 := lkC_fm hb g1 hlk
          refine ⟨fun q => next σ1 g1 g2 (fun k hk => ?_), fun q => ⟨vp_in_nI hi (by decide), ?_⟩⟩
          · have : cb C ps i = false := by
              cases hz : cb C ps i
              · rfl
              · exact absurd (by rw [hz]; rfl) q
            rw [kf, this, if_neg (by decide)]
            exact (Int32.add_zero _).symm
          · have hci : cb C ps i = true := by
              cases hz : cb C ps i
              · rw [hz] at q; exact absurd q (by decide)
              · rfl
            rw [tPl_at hi, ← nI_succ]
            refine c_make hn hb hR1 hi hci (fun σ2 j1 j2 j3 j4 => ?_)
            have hlk2 := lkC_fm hb j2 hlk1
            rw [show d + (f + 1) + 4 = d + f + 5 by omega]
            refine ih d (PLa i :: ps) σ2 _ (by rw [List.length_cons]; omega) j1 hlk2 (fun σ3 q1 q2 q3 s e => ?_)
            have f3 : fmN b ps.length σ σ3 := (g1.tr j2).tr (fmN.up (by omega) q1)
            refine next s ?_ ?_ (fun k hk => ?_)
            · rw [e]; exact f3.si _ (by unfold exc; omega)
            · rw [e, gi_same]
            · rw [e, gi_ne_o _ _ _ _ (by omega), q3 k hk, j4 (Bo b + 4) (by omega) (by omega) (by omega) (by omega), kf, if_pos hci]
      exact loop 14 0 rfl (by decide) σ (fmN.rf _ _ _) hR.made (fun k hk => (Int32.add_zero _).symm)
theorem c_countEnds {d nc b : Nat} {C : Cx} {ps : List Nat} {σ : St} {Q : Int32 → St → Prop} {w : Nat} (hn : nc < 5) (hb : isB b) (hR : RlC σ b C.1 ps) (hlk : lkC σ C) (hw : w < 8)
    (h : ∀ σ', fmN b ps.length σ σ' → gi σ' b 10 = nI ps.length → Q (nI (cntE C (endsL C (5 - ps.length) ps) w)) σ') : EI (d + 11) (idsC nc) Y_X2_countEnds [.ref b, .int (nI w)] σ Q := by
  have hBo := Bo_v hb
  have hb1 := isB_lt hb
  have hl := hR.lg.len
  refine fl_X2_countEnds (hRo hn hb) (fun P2 H2 => ?_)
  rw [rfb hb (by decide)] at H2
  refine up_loop (P := P2) 8 (fun k σ1 => fmN b ps.length σ σ1 ∧ gi σ1 b 10 = nI ps.length ∧ ∀ j, j < k → gi σ1 (Bo b + 4) j = 0) ?_ ?_ 0 σ (by decide) ⟨fmN.rf _ _ _, hR.made, fun j hj => by omega⟩
  · rintro k σ1 hk ⟨g1, g2, g3⟩ nx
    refine H2 _ _ ⟨fun q => absurd ((nI_ltI (a := 7) (by decide) (by omega)).mp q) (by omega), fun _ => ⟨vp_in_nI hk (by decide), fun s e x ex => ?_⟩⟩
    rw [ex, ← nI_succ]
    rw [cl_ix k (by omega)] at e
    subst e
    refine nx _ ⟨g1.si _ (by unfold exc; omega), by rw [gi_ne_o _ _ _ _ (by omega)]; exact g2, fun j hj => ?_⟩
    rw [gi_si]
    by_cases hjk : j = k
    · rw [if_pos ⟨rfl, hjk⟩]
    · rw [if_neg (fun z => hjk z.2)]; exact g3 j (by omega)
  · rintro σ1 ⟨g1, g2, g3⟩
    refine H2 _ _ ⟨fun _ => ?_, fun q => absurd (nI_lt (a := 7) (b := 8) (by decide) (by decide)) q⟩
    rw [g2]
    have e5 : d + 10 = (d + ps.length) + (5 - ps.length) + 5 := by omega
    rw [e5]
    refine c_walkEnds hn hb (5 - ps.length) (d + ps.length) ps σ1 _ (by omega) (RlC_fm hb hR g1 g2) (lkC_fm hb g1 hlk) (fun σ2 q1 q2 q3 => ⟨vp_in_nI hw (by decide), ?_⟩)
    rw [cl_ix w (by omega), q3 w hw, g3 w hw, Int32.zero_add]
    exact h σ2 (g1.tr q1) q2
