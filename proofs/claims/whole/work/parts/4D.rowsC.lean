/-! PURE: the class's rows to their ends -/
theorem flat_split {α : Type} (g : Nat → List α) {i : Nat} (hi : i < 14) : ∃ rest, (List.range 14).flatMap g = (List.range i).flatMap g ++ (g i ++ rest) := by
  refine ⟨((List.range (13 - i)).map (fun x => i + 1 + x)).flatMap g, ?_⟩
  have e : List.range 14 = List.range i ++ (i :: (List.range (13 - i)).map (fun x => i + 1 + x)) := by
    have h : (14 : Nat) = (i + 1) + (13 - i) := by omega
    rw [h, List.range_add, List.range_succ, List.append_assoc]
    rfl
  rw [e, List.flatMap_append, List.flatMap_cons]
theorem c_seekRow {nc b : Nat} {C : Cx} (hn : nc < 5) (hb : isB b) : ∀ (f d : Nat) (ps : List Nat) (j : Nat) (σ : St) (Q : Int32 → St → Prop), ps.length + f = 5 → RlC σ b C.1 ps → lkC σ C → gi σ b 9 = nI j → j < 2 ^ 31 →
    (∀ e σ', (endsL C f ps)[j]? = some e → fmN b ps.length σ σ' → RlC σ' b C.1 e → (∃ q, e = q ++ ps) → Q 1 σ') →
    (∀ σ', (endsL C f ps).length ≤ j → fmN b ps.length σ σ' → gi σ' b 10 = nI ps.length → gi σ' b 9 = nI (j - (endsL C f ps).length) → Q 0 σ') →
    EI (d + f + 5) (idsC nc) Y_X2_seekRow [.ref b, .int (nI ps.length)] σ Q := by
  have hBo := Bo_v hb
  have hb1 := isB_lt hb
  have here : ∀ (ps : List Nat) (j : Nat) (σ : St) (Q : Int32 → St → Prop), RlC σ b C.1 ps → gi σ b 9 = nI j → j < 2 ^ 31 →
      (∀ e σ', ([ps] : List (List Nat))[j]? = some e → fmN b ps.length σ σ' → RlC σ' b C.1 e → (∃ q, e = q ++ ps) → Q 1 σ') →
      (∀ σ', ([ps] : List (List Nat)).length ≤ j → fmN b ps.length σ σ' → gi σ' b 10 = nI ps.length → gi σ' b 9 = nI (j - ([ps] : List (List Nat)).length) → Q 0 σ') →
      ∀ s1 : St, s1 = si σ b 9 ((gi σ b 9) - 1) → ((0 ≤ (gi s1 b 9) → Q 0 s1) ∧ (¬ (0 ≤ (gi s1 b 9)) → Q 1 s1)) := by
    rintro ps j σ Q hR h9 hj h1 h0 s1 e1
    have f1 : fmN b ps.length σ s1 := by rw [e1]; exact (fmN.rf _ _ _).si _ (by unfold exc; omega)
    have m1 : gi s1 b 10 = nI ps.length := by rw [e1, gi_ne_k _ _ _ _ (by decide)]; exact hR.made
    have e9 : gi s1 b 9 = nI j - 1 := by rw [e1, gi_same, h9]
    rcases Nat.eq_zero_or_pos j with hz | hz
    · subst hz
      rw [e9]
      exact ⟨fun c => absurd c (by decide), fun _ => h1 ps s1 rfl f1 (RlC_fm hb hR f1 m1) ⟨[], rfl⟩⟩
    · have ep : nI j - 1 = nI (j - 1) := by
        have := nI_pred (j - 1)
        rwa [Nat.sub_add_cancel hz] at this
      rw [e9, ep]
      exact ⟨fun _ => h0 s1 hz f1 m1 (by rw [e9, ep]; rfl), fun c => absurd (nI_pos' (by omega)) c⟩
  intro f
  induction f with
  | zero =>
    intro d ps j σ Q hf hR hlk h9 hj h1 h0
    refine fl_X2_seekRow (hRo hn hb) (fun P14 P39 P82 H14 H39 H82 => ?_)
    have done : P14 σ := H14 _ (here ps j σ Q hR h9 hj h1 h0)
    exact c_open hn hb hR hlk (fun N hN hbit => ⟨fun _ => done, fun _ => ⟨fun c => absurd ((nI_ltI (b := 5) (by omega) (by decide)).mp c) (by omega), fun _ => done⟩⟩)
  | succ f ih =>
    intro d ps j σ Q hf hR hlk h9 hj h1 h0
    refine fl_X2_seekRow (hRo hn hb) (fun P14 P39 P82 H14 H39 H82 => ?_)
    refine c_open hn hb hR hlk (fun N hN hbit => ⟨fun c => ?_, fun c => ⟨fun _ => ?_, fun c2 => absurd (nI_lt (b := 5) (by omega) (by decide)) c2⟩⟩)
    · have lf : leaf C ps = true := leaf_iff.mpr ((open_zero hN hbit).mp c)
      rw [endsL_leaf lf] at h1 h0
      exact H14 _ (here ps j σ Q hR h9 hj h1 h0)
    · have nlf : ¬ leaf C ps = true := fun z => c ((open_zero hN hbit).mpr (leaf_iff.mp z))
      rw [endsL, if_neg nlf] at h1 h0
      have loop : ∀ m i, 14 - i = m → i ≤ 14 → ∀ σ1, fmN b ps.length σ σ1 → gi σ1 b 10 = nI ps.length → ((List.range i).flatMap (kf C (endsL C f) ps)).length ≤ j → gi σ1 b 9 = nI (j - ((List.range i).flatMap (kf C (endsL C f) ps)).length) → P39 (nI N) (nI i) σ1 := by
        intro m
        induction m with
        | zero =>
          intro i q1 q2 σ1 g1 g2 g3 g4
          have : i = 14 := by omega
          subst this
          exact H39 _ _ _ ⟨fun _ => h0 σ1 g3 g1 g2 g4, fun q => absurd (nI_le (Nat.le_refl 14) (by decide)) q⟩
        | succ m ihm =>
          intro i q1 q2 σ1 g1 g2 g3 g4
          have hi : i < 14 := by omega
          have hpre : (List.range (i + 1)).flatMap (kf C (endsL C f) ps) = (List.range i).flatMap (kf C (endsL C f) ps) ++ kf C (endsL C f) ps i := by
            rw [List.range_succ, List.flatMap_append]; simp
          have next : ∀ σ2, fmN b ps.length σ σ2 → gi σ2 b 10 = nI ps.length → ((List.range (i + 1)).flatMap (kf C (endsL C f) ps)).length ≤ j → gi σ2 b 9 = nI (j - ((List.range (i + 1)).flatMap (kf C (endsL C f) ps)).length) → P82 (nI N) (nI i) σ2 := by
            intro σ2 j1 j2 j3 j4
            refine H82 _ _ _ (fun x ex => ?_)
            rw [ex, ← nI_succ]
            exact ihm (i + 1) (by omega) (by omega) σ2 j1 j2 j3 j4
          refine H39 _ _ _ ⟨fun q => absurd ((nI_leI (a := 14) (by decide) (by omega)).mp q) (by omega), fun _ => ?_⟩
          rw [c_bit hN hi, hbit i hi]
          have hR1 := RlC_fm hb hR g1 g2
          have hlk1 := lkC_fm hb g1 hlk
          refine ⟨fun q => ?_, fun q => ⟨vp_in_nI hi (by decide), ?_⟩⟩
          · have : cb C ps i = false := by
              cases hz : cb C ps i
              · rfl
              · exact absurd (by rw [hz]; rfl) q
            have e0 : kf C (endsL C f) ps i = [] := by rw [kf, this, if_neg (by decide)]
            refine next σ1 g1 g2 ?_ ?_
            · rw [hpre, e0, List.append_nil]; exact g3
            · rw [hpre, e0, List.append_nil]; exact g4
          · have hci : cb C ps i = true := by
              cases hz : cb C ps i
              · rw [hz] at q; exact absurd q (by decide)
              · rfl
            have e0 : kf C (endsL C f) ps i = endsL C f (PLa i :: ps) := by rw [kf, if_pos hci]
            rw [e0] at hpre
            rw [tPl_at hi, ← nI_succ]
            refine c_make hn hb hR1 hi hci (fun σ2 j1 j2 j3 j4 => ?_)
            have hlk2 := lkC_fm hb j2 hlk1
            rw [show d + (f + 1) + 4 = d + f + 5 by omega]
            refine ih d (PLa i :: ps) (j - ((List.range i).flatMap (kf C (endsL C f) ps)).length) σ2 _ (by rw [List.length_cons]; omega) j1 hlk2 (by rw [j3 9 (by decide), g4]) (by omega) (fun e σ3 w1 w2 w3 w4 => ⟨fun z => absurd z (by decide), fun _ => ?_⟩) (fun σ3 w1 w2 w3 w4 => ⟨fun _ s e => ?_, fun z => absurd rfl z⟩)
            · have f3 : fmN b ps.length σ σ3 := (g1.tr j2).tr (fmN.up (by omega) w2)
              refine h1 e σ3 ?_ f3 w3 (by obtain ⟨q, rfl⟩ := w4; exact ⟨q ++ [PLa i], by simp⟩)
              obtain ⟨rest, er⟩ := flat_split (kf C (endsL C f) ps) hi
              rw [er, List.getElem?_append_right g3, e0]
              have hlt := (List.getElem?_eq_some_iff.mp w1).1
              rw [List.getElem?_append_left hlt]
              exact w1
            · have f3 : fmN b ps.length σ σ3 := (g1.tr j2).tr (fmN.up (by omega) w2)
              refine next s ?_ ?_ ?_ ?_
              · rw [e]; exact f3.si _ (by unfold exc; omega)
              · rw [e, gi_same]
              · rw [hpre, List.length_append]; omega
              · rw [e, gi_ne_k _ _ _ _ (by decide), w4, hpre, List.length_append, Nat.sub_sub]
      exact loop 14 0 rfl (by decide) σ (fmN.rf _ _ _) hR.made (Nat.zero_le _) h9
/-- the PLEA at a place of a roll, -1: there is none -/
def plA (e : List Nat) (x : Int32) : Int32 := if 0 ≤ x ∧ x < nI e.length then nI (e.reverse.getD x.toNatClampNeg 0) else -1
theorem rev_drop {e : List Nat} {j : Nat} (hj : j < e.length) : e.drop (e.length - (j + 1)) = e.reverse.getD j 0 :: e.drop (e.length - j) := by
  have h1 : e.length - (j + 1) < e.length := by omega
  rw [List.drop_eq_getElem_cons h1, show e.length - (j + 1) + 1 = e.length - j by omega]
  congr 1
  rw [List.getD_eq_getElem?_getD, List.getElem?_reverse hj]
  rw [List.getElem?_eq_getElem (by omega)]
  simp only [Option.getD_some]
  congr 1
  omega
theorem c_pleaAt {d nc b : Nat} {G : Gm} {e : List Nat} {σ : St} {Q : Int32 → St → Prop} {x : Int32} (hn : nc < 5) (hb : isB b) (hR : RlC σ b G e) (h : Q (plA e x) σ) : EI (d + 1) (idsC nc) Y_X2_pleaAt [.ref b, .int x] σ Q := by
  have hl := hR.lg.len
  refine fl_X2_pleaAt (hRo hn hb) (fun P12 H12 => ?_)
  rw [hR.made, rfb hb (by decide)]
  refine ⟨fun c => H12 _ ?_, fun c => ⟨fun c2 => ?_, fun c2 => H12 _ ?_⟩⟩
  · rwa [plA, if_neg (fun z => absurd c (nlt.mpr z.1))] at h
  · obtain ⟨j, hj, rfl⟩ := nI_of c
    have hj2 : j < e.length := (nI_ltI hj (by omega)).mp c2
    rw [← nI_succ, rfs hb, cl_ix (j + 1) (by omega)]
    refine ⟨vp_in_nI (by omega) (by decide), ?_⟩
    rw [plA, if_pos ⟨nI_pos' hj, c2⟩, cl_ix j hj] at h
    match G, hR with
    | none, hR =>
      rw [hR.1] at hj2
      exact absurd hj2 (Nat.not_lt_zero _)
    | some (r, R, wo), hR =>
      have hs := (hR.1.2.2.2.2.2.1 (j + 1) (by omega)).1 0 (by decide)
      rw [rev_drop hj2] at hs
      rw [hs]
      exact h
  · rwa [plA, if_neg (fun z => c2 z.2)] at h
theorem nI_wrap {n k m : Nat} (hn : n ≤ 5) (hk : k < 2 ^ 31) (hm : m ≤ 5) : (0 ≤ nI n + nI k ∧ nI n + nI k < nI m) ↔ n + k < m := by
  rw [nI_add]
  constructor
  · rintro ⟨h1, h2⟩
    obtain ⟨j, hj, e⟩ := nI_of (nlt.mpr h1)
    rw [e, nI_ltI hj (by omega)] at h2
    have := congrArg Int32.toInt e
    rw [nI_toInt hj] at this
    have e2 : (nI (n + k)).toInt = ((n + k : Nat) : Int).bmod (2 ^ 32) := Int32.toInt_ofNat
    rw [e2] at this
    rw [Int.bmod_def] at this
    split at this <;> omega
  · intro h
    exact ⟨nI_pos' (by omega), nI_lt h (by omega)⟩
/-- the answer of row at an end -/
def rowA (n : Nat) (o : Option (List Nat)) (k : Int32) : Int32 := match o with
  | none => -1
  | some e => if k = -1 then nI (e.length - n) else plA e (nI n + k)
theorem c_pleaOfRow {d nc b : Nat} {C : Cx} {ps : List Nat} {σ : St} {Q : Int32 → St → Prop} {i : Nat} {k : Int32} (hn : nc < 5) (hb : isB b) (hR : RlC σ b C.1 ps) (hlk : lkC σ C) (hi : i < 2 ^ 31) (hk : -1 ≤ k)
    (h : ∀ σ', fmN b ps.length σ σ' → gi σ' b 10 = nI ps.length → Q (rowA ps.length ((endsL C (5 - ps.length) ps)[i]?) k) σ') : EI (d + 11) (idsC nc) Y_X2_pleaOfRow [.ref b, .int (nI i), .int k] σ Q := by
  have hBo := Bo_v hb
  have hb1 := isB_lt hb
  have hl := hR.lg.len
  refine fl_X2_pleaOfRow (hRo hn hb) (fun P49 H49 x2 e2 s3 e3 => ?_)
  rw [hR.made] at e2
  subst e2
  have f3 : fmN b ps.length σ s3 := by rw [e3]; exact (fmN.rf _ _ _).si _ (by unfold exc; omega)
  have m3 : gi s3 b 10 = nI ps.length := by rw [e3, gi_ne_k _ _ _ _ (by decide)]; exact hR.made
  rw [m3]
  have fin : ∀ σ', fmN b ps.length σ σ' → ∀ v, v = rowA ps.length ((endsL C (5 - ps.length) ps)[i]?) k → P49 (nI ps.length) v σ' := by
    rintro σ' g v rfl
    refine H49 _ _ _ (fun s e => h s ?_ ?_)
    · rw [e]; exact g.si _ (by unfold exc; omega)
    · rw [e, gi_same]
  rw [show d + 10 = (d + ps.length) + (5 - ps.length) + 5 by omega]
  refine c_seekRow hn hb (5 - ps.length) (d + ps.length) ps i s3 _ (by omega) (RlC_fm hb hR f3 m3) (lkC_fm hb f3 hlk) (by rw [e3, gi_same]) hi (fun e σ' w1 w2 w3 w4 => ⟨fun _ => ⟨fun c => ?_, fun c => ?_⟩, fun z => absurd z (by decide)⟩) (fun σ' w1 w2 w3 w4 => ⟨fun z => absurd rfl z, fun _ => fin σ' (f3.tr w2) _ ?_⟩)
  · refine c_pleaAt (d := (d + ps.length) + (5 - ps.length) + 4) hn hb w3 (fin σ' (f3.tr w2) _ ?_)
    rw [w1, rowA, if_neg (fun z => by rw [z] at c; exact absurd c (by decide))]
  · have hk1 : k = -1 := Int32.le_antisymm (by
      have := nle.mp c
      rw [i32_lt] at this
      rw [i32_le]
      have h0 : (0 : Int32).toInt = 0 := rfl
      have h1 : (-1 : Int32).toInt = -1 := rfl
      omega) hk
    refine fin σ' (f3.tr w2) _ ?_
    obtain ⟨q, rfl⟩ := w4
    rw [w1, rowA, if_pos hk1, w3.made, pk_sub (by rw [List.length_append]; omega)]
  · rw [List.getElem?_eq_none w1]
    rfl
