/-! PURE: the class's search with bounds tells the value -/
def okV (V lo hi x : Int) : Prop := 0 ≤ x ∧ x ≤ 20 ∧ (x ≤ lo → V ≤ x) ∧ (lo < x → x < hi → V = x) ∧ (hi ≤ x → x ≤ V)
def wmx (W V : Nat) : Nat := if W < V then V else W
def wmn (W V : Nat) : Nat := if V < W then V else W
theorem ab_max_no {W V : Nat} {lo hi x v fr : Int} (h1 : okV W lo hi x) (hf : fr = max lo x) (h3 : okV V fr hi v) (h : v ≤ x) (hlt : fr < hi) : okV (wmx W V : Nat) lo hi x ∧ (lo = -1 → hi = 21 → ¬ W < V) := by
  unfold okV at *
  unfold wmx
  obtain ⟨a1, a2, a3, a4, a5⟩ := h1
  obtain ⟨b1, b2, b3, b4, b5⟩ := h3
  refine ⟨⟨a1, a2, fun q => ?_, fun q1 q2 => ?_, fun q => ?_⟩, fun q1 q2 => ?_⟩
  · have := a3 q; have := b3 (by omega); split <;> omega
  · have := a4 q1 q2; have := b3 (by omega); split <;> omega
  · omega
  · have := a4 (by omega) (by omega); have := b3 (by omega); omega
theorem ab_max_yes {W V : Nat} {lo hi x v fr : Int} (h1 : okV W lo hi x) (hf : fr = max lo x) (h3 : okV V fr hi v) (h : x < v) (hlt : fr < hi) : okV (wmx W V : Nat) lo hi v ∧ (lo = -1 → hi = 21 → W < V) := by
  unfold okV at *
  unfold wmx
  obtain ⟨a1, a2, a3, a4, a5⟩ := h1
  obtain ⟨b1, b2, b3, b4, b5⟩ := h3
  refine ⟨⟨b1, b2, fun q => ?_, fun q1 q2 => ?_, fun q => ?_⟩, fun q1 q2 => ?_⟩
  · have := a3 (by omega); have := b3 (by omega); split <;> omega
  · have := b4 (by omega) q2
    by_cases hx : x ≤ lo
    · have := a3 hx; split <;> omega
    · have := a4 (by omega) (by omega); split <;> omega
  · have := b5 q; split <;> omega
  · have := a4 (by omega) (by omega); have := b4 (by omega) (by omega); omega
theorem ab_min_no {W V : Nat} {lo hi x v to : Int} (h1 : okV W lo hi x) (hf : to = min hi x) (h3 : okV V lo to v) (h : x ≤ v) (hlt : lo < to) : okV (wmn W V : Nat) lo hi x ∧ (lo = -1 → hi = 21 → ¬ V < W) := by
  unfold okV at *
  unfold wmn
  obtain ⟨a1, a2, a3, a4, a5⟩ := h1
  obtain ⟨b1, b2, b3, b4, b5⟩ := h3
  refine ⟨⟨a1, a2, fun q => ?_, fun q1 q2 => ?_, fun q => ?_⟩, fun q1 q2 => ?_⟩
  · omega
  · have := a4 q1 q2; have := b5 (by omega); split <;> omega
  · have := a5 q; have := b5 (by omega); split <;> omega
  · have := a4 (by omega) (by omega); have := b5 (by omega); omega
theorem ab_min_yes {W V : Nat} {lo hi x v to : Int} (h1 : okV W lo hi x) (hf : to = min hi x) (h3 : okV V lo to v) (h : v < x) (hlt : lo < to) : okV (wmn W V : Nat) lo hi v ∧ (lo = -1 → hi = 21 → V < W) := by
  unfold okV at *
  unfold wmn
  obtain ⟨a1, a2, a3, a4, a5⟩ := h1
  obtain ⟨b1, b2, b3, b4, b5⟩ := h3
  refine ⟨⟨b1, b2, fun q => ?_, fun q1 q2 => ?_, fun q => ?_⟩, fun q1 q2 => ?_⟩
  · have := b3 q; split <;> omega
  · have := b4 q1 (by omega)
    by_cases hx : hi ≤ x
    · have := a5 hx; split <;> omega
    · have := a4 (by omega) (by omega); split <;> omega
  · have := a5 (by omega); have := b5 (by omega); split <;> omega
  · have := a4 (by omega) (by omega); have := b4 (by omega) (by omega); omega
theorem stp_none {w0 : Bool} {c : Nat → Bool} {vf : Nat → Nat} {i : Nat} (hc : c i = true) : stp w0 c vf none i = some (vf i, i) := by rw [stp.eq_def, if_pos hc]
theorem stp_skip {w0 : Bool} {c : Nat → Bool} {vf : Nat → Nat} {acc : Option (Nat × Nat)} {i : Nat} (hc : c i = false) : stp w0 c vf acc i = acc := by rw [stp.eq_def, if_neg (by rw [hc]; decide)]
theorem stp_max {c : Nat → Bool} {vf : Nat → Nat} {x j i : Nat} (hc : c i = true) : ∃ k, stp true c vf (some (x, j)) i = some (wmx x (vf i), k) ∧ (x < vf i → k = i) ∧ (¬ x < vf i → k = j) := by
  rw [stp.eq_def, if_pos hc]
  dsimp only
  unfold wmx
  by_cases h : x < vf i
  · rw [if_pos (Or.inl ⟨rfl, h⟩), if_pos h]; exact ⟨i, rfl, fun _ => rfl, fun z => absurd h z⟩
  · rw [if_neg (fun z => z.elim (fun z => h z.2) (fun z => absurd rfl z.1)), if_neg h]; exact ⟨j, rfl, fun z => absurd z h, fun _ => rfl⟩
theorem stp_min {c : Nat → Bool} {vf : Nat → Nat} {x j i : Nat} (hc : c i = true) : ∃ k, stp false c vf (some (x, j)) i = some (wmn x (vf i), k) ∧ (vf i < x → k = i) ∧ (¬ vf i < x → k = j) := by
  rw [stp.eq_def, if_pos hc]
  dsimp only
  unfold wmn
  by_cases h : vf i < x
  · rw [if_pos (Or.inr ⟨by decide, h⟩), if_pos h]; exact ⟨i, rfl, fun _ => rfl, fun z => absurd h z⟩
  · rw [if_neg (fun z => z.elim (fun z => absurd z.1 (by decide)) (fun z => h z.2)), if_neg h]; exact ⟨j, rfl, fun z => absurd z h, fun _ => rfl⟩
theorem cC_fm {b n k : Nat} {σ σ' : St} {cs : Cs} (hb : isB b) (h : fmN b n σ σ') (hc : cC σ k cs) : cC σ' k cs := by
  have hBo := Bo_v hb
  have hb1 := isB_lt hb
  intro w p hw hp
  rw [h.1 _ p (fun z => by unfold exc at z; omega)]
  exact hc w p hw hp
/-- what is known of a search midway -/
def mid (σ : St) (b n : Nat) (w0 : Bool) (acc : Option (Nat × Nat)) (lo hi x fr to : Int) : Prop :=
  (if w0 = true then to = hi ∧ fr = max lo x else fr = lo ∧ to = min hi x) ∧
  match acc with
  | none => x = (if w0 = true then -1 else 21)
  | some (W, j) => okV W lo hi x ∧ (lo = -1 → hi = 21 → gi σ (Bo b + 10 + n) 10 = nI (PLa j))
theorem c_valueFrom {nc b k : Nat} {C : Cx} {cs : Cs} (hn : nc < 5) (hb : isB b) (hk : k < nc) : ∀ (f d : Nat) (ps : List Nat) (lo hi : Int32) (σ : St) (Q : Int32 → St → Prop), ps.length + f = 5 → RlC σ b C.1 ps → lkC σ C → cC σ k cs → -1 ≤ lo.toInt → hi.toInt ≤ 21 → lo.toInt < hi.toInt →
    (∀ x σ', fmN b ps.length σ σ' → gi σ' b 10 = nI ps.length → okV (val C (wth C cs) f ps : Nat) lo.toInt hi.toInt x.toInt → (∀ v j, bso C (wth C cs) f ps = some (v, j) → lo.toInt = -1 → hi.toInt = 21 → gi σ' (Bo b + 10 + ps.length) 10 = nI (PLa j)) → Q x σ') →
    EI (d + f + 5) (idsC nc) Y_X2_valueFrom [.ref b, .ref (400 + 10 * k), .int lo, .int hi, .int (nI ps.length)] σ Q := by
  have hBo := Bo_v hb
  have hb1 := isB_lt hb
  have here : ∀ (f : Nat) (d : Nat) (ps : List Nat) (lo hi : Int32) (σ : St) (Q : Int32 → St → Prop), leaf C ps = true → RlC σ b C.1 ps → cC σ k cs →
      (∀ x σ', fmN b ps.length σ σ' → gi σ' b 10 = nI ps.length → okV (val C (wth C cs) f ps : Nat) lo.toInt hi.toInt x.toInt → (∀ v j, bso C (wth C cs) f ps = some (v, j) → lo.toInt = -1 → hi.toInt = 21 → gi σ' (Bo b + 10 + ps.length) 10 = nI (PLa j)) → Q x σ') →
      EI (d + 2) (idsC nc) Y_X2_worthIn [.ref b, .ref (400 + 10 * k)] σ Q := by
    intro f d ps lo hi σ Q hlf hR hc h
    refine c_worthIn hn hb hk hR hc (h _ σ (fmN.rf _ _ _) hR.made ?_ (fun v j e => by rw [bso_leaf hlf] at e; cases e))
    rw [val_leaf hlf]
    have := wth_le (fun w p hw hp => (hc w p hw hp).2) hR.lg
    rw [nI_toInt (by omega)]
    unfold okV
    omega
  intro f
  induction f with
  | zero =>
    intro d ps lo hi σ Q hf hR hlk hc hlo hhi hlt h
    refine fl_X2_valueFrom (hRo hn hb) (hCase hn hk) (fun P17 P45 P58 P69 P151 P166 P192 H17 H45 H58 H69 H151 H166 H192 => ?_)
    have done : P17 σ := H17 _ (here 0 _ ps lo hi σ Q (leaf_5 hR.lg hf) hR hc h)
    exact c_open hn hb hR hlk (fun N hN hbit => ⟨fun _ => done, fun _ => ⟨fun c => absurd ((nI_ltI (b := 5) (by omega) (by decide)).mp c) (by omega), fun _ => done⟩⟩)
  | succ f ih =>
    intro d ps lo hi σ Q hf hR hlk hc hlo hhi hlt h
    have h5 : ps.length ≤ 5 := by omega
    refine fl_X2_valueFrom (hRo hn hb) (hCase hn hk) (fun P17 P45 P58 P69 P151 P166 P192 H17 H45 H58 H69 H151 H166 H192 => ?_)
    refine c_open hn hb hR hlk (fun N hN hbit => ⟨fun c => ?_, fun c => ⟨fun _ => ?_, fun c2 => absurd (nI_lt (b := 5) (by omega) (by decide)) c2⟩⟩)
    · have lf : leaf C ps = true := leaf_iff.mpr ((open_zero hN hbit).mp c)
      exact H17 _ (here (f + 1) (d + (f + 1) + 2) ps lo hi σ Q lf hR hc h)
    have nlf : ¬ leaf C ps = true := fun z => c ((open_zero hN hbit).mpr (leaf_iff.mp z))
    have hIO := hSt (nc := nc) hn hb h5
    rw [rfb hb (by decide), cl_ix ps.length (by omega), rfs hb, hR.top.1 4 (by decide)]
    have em1 : (-1 : Int32).toInt = -1 := rfl
    have e21 : (21 : Int32).toInt = 21 := rfl
    have hbso : bso C (wth C cs) (f + 1) ps = bst (w0G C.1 ps) (cb C ps) (fun i => val C (wth C cs) f (PLa i :: ps)) 14 := rfl
    have hval := val_bso C (wth C cs) (f + 1) ps
    rw [hbso] at hval
    rw [hbso] at h
    generalize hvf : (fun i => val C (wth C cs) f (PLa i :: ps)) = vf at *
    have hvfi : ∀ i, vf i = val C (wth C cs) f (PLa i :: ps) := fun i => by rw [← hvf]
    generalize hw0 : w0G C.1 ps = w0 at *
    have loop : ∀ m i, 14 - i = m → i ≤ 14 → ∀ (x fr to : Int32) σ1, fmN b ps.length σ σ1 → gi σ1 b 10 = nI ps.length → mid σ1 b ps.length w0 (bst w0 (cb C ps) vf i) lo.toInt hi.toInt x.toInt fr.toInt to.toInt → P69 (nI N) (Bo b + 10 + ps.length) (nI w0.toNat) x fr to (nI i) σ1 := by
      intro m
      induction m with
      | zero =>
        intro i q1 q2 x fr to σ1 g1 g2 g3
        have : i = 14 := by omega
        subst this
        refine H69 _ _ _ _ _ _ _ _ (fun _ => ⟨fun _ => ?_, fun q => absurd (nI_le (Nat.le_refl 14) (by decide)) q⟩)
        cases hz : bst w0 (cb C ps) vf 14 with
        | none => exact absurd (leaf_iff.mpr (bst_none.mp hz)) nlf
        | some Wj =>
          obtain ⟨W, j⟩ := Wj
          rw [hz] at g3 hval
          refine h x σ1 g1 g2 ?_ (fun v j2 e => ?_)
          · rw [hval]; exact g3.2.1
          · rw [hz] at e; cases e; exact g3.2.2
      | succ m ihm =>
        intro i q1 q2 x fr to σ1 g1 g2 g3
        have hi14 : i < 14 := by omega
        have next : ∀ (x fr to : Int32) σ2, fmN b ps.length σ σ2 → gi σ2 b 10 = nI ps.length → mid σ2 b ps.length w0 (bst w0 (cb C ps) vf (i + 1)) lo.toInt hi.toInt x.toInt fr.toInt to.toInt → P192 (nI N) (Bo b + 10 + ps.length) (nI w0.toNat) x fr to (nI i) σ2 := by
          intro x fr to σ2 j1 j2 j3
          refine H192 _ _ _ _ _ _ _ _ (fun _ y ey => ?_)
          rw [ey, ← nI_succ]
          exact ihm (i + 1) (by omega) (by omega) x fr to σ2 j1 j2 j3
        refine H69 _ _ _ _ _ _ _ _ (fun _ => ⟨fun q => absurd ((nI_leI (a := 14) (by decide) (by omega)).mp q) (by omega), fun _ => ⟨fun q => ?_, fun q => ?_⟩⟩)
        · -- the bounds have met
          have q := i32_le.mp q
          cases hz : bst w0 (cb C ps) vf i with
          | none =>
            rw [hz] at g3
            exfalso
            obtain ⟨g3, g4⟩ := g3
            have g4 : x.toInt = if w0 = true then -1 else 21 := g4
            cases w0
            · rw [if_neg (by decide)] at g3 g4; omega
            · rw [if_pos rfl] at g3 g4; omega
          | some Wj =>
            obtain ⟨W, j⟩ := Wj
            rw [hz] at g3
            obtain ⟨g3, g4, g5⟩ := g3
            obtain ⟨y, i2, e1, e2, e3⟩ := bst_mono hz 14 q2
            rw [e1] at hval
            obtain ⟨a1, a2, a3, a4, a5⟩ := id g4
            refine h x σ1 g1 g2 ?_ (fun v j2 e f1 f2 => ?_)
            · rw [hval]
              refine ⟨a1, a2, ?_⟩
              dsimp only
              cases w0
              · rw [if_neg (by decide)] at g3
                have := e3 (by decide)
                have := a3 (by omega)
                omega
              · rw [if_pos rfl] at g3
                have := e2 rfl
                have := a5 (by omega)
                omega
            · exfalso
              cases w0
              · rw [if_neg (by decide)] at g3; omega
              · rw [if_pos rfl] at g3; omega
        have q := i32_lt.mp (nle.mp q)
        rw [c_bit hN hi14, hbit i hi14]
        refine ⟨fun q3 => ⟨vp_in_nI hi14 (by decide), ?_⟩, fun q3 => next x fr to σ1 g1 g2 (by rw [bst, stp_skip (tn0 q3)]; exact g3)⟩
        have hci : cb C ps i = true := tn1 q3
        rw [tPl_at hi14, ← nI_succ]
        have hR1 := RlC_fm hb hR g1 g2
        refine c_make hn hb hR1 hi14 hci (fun σ2 j1 j2 j3 j4 => ?_)
        rw [show d + (f + 1) + 4 = d + f + 5 by omega]
        have hfr : -1 ≤ fr.toInt ∧ to.toInt ≤ 21 := by
          obtain ⟨g3, -⟩ := g3
          cases w0
          · rw [if_neg (by decide)] at g3; omega
          · rw [if_pos rfl] at g3; omega
        refine ih d (PLa i :: ps) fr to σ2 _ (by rw [List.length_cons]; omega) j1 (lkC_fm hb j2 (lkC_fm hb g1 hlk)) (cC_fm hb j2 (cC_fm hb g1 hc)) hfr.1 hfr.2 q (fun v σ3 w1 w2 w3 w4 s es => ?_)
        rw [← hvfi i] at w3
        have f3 : fmN b ps.length σ s := by rw [es]; exact ((g1.tr j2).tr (fmN.up h5 w1)).si _ (by unfold exc; omega)
        have m3 : gi s b 10 = nI ps.length := by rw [es, gi_same]
        have best3 : gi s (Bo b + 10 + ps.length) 10 = gi σ1 (Bo b + 10 + ps.length) 10 := by
          rw [es, gi_ne_o _ _ _ _ (by omega), w1.1 _ 10 (fun z => by unfold exc at z; rw [List.length_cons] at z; omega), j4 _ (by omega) (by omega) (by omega) (by omega)]
        obtain ⟨g3, g4⟩ := g3
        -- with the best one written
        have yes : ∀ acc : Nat × Nat, bst w0 (cb C ps) vf (i + 1) = some acc → okV acc.1 lo.toInt hi.toInt v.toInt → (lo.toInt = -1 → hi.toInt = 21 → acc.2 = i) → (if w0 = true then to.toInt = hi.toInt ∧ ∃ t, fr.toInt = max lo.toInt t ∧ t ≤ v.toInt else fr.toInt = lo.toInt ∧ ∃ t, to.toInt = min hi.toInt t ∧ v.toInt ≤ t) → P151 (nI N) (Bo b + 10 + ps.length) (nI w0.toNat) fr to (nI i) v s := by
          rintro ⟨W, j⟩ hacc hok hj hb3
          refine H151 _ _ _ _ _ _ _ _ (fun _ => ⟨vp_in_nI hi14 (by decide), fun s16 e16 => ?_⟩)
          rw [tPl_at hi14] at e16
          have f16 : fmN b ps.length σ s16 := by rw [e16]; exact f3.si _ (by unfold exc; omega)
          have m16 : gi s16 b 10 = nI ps.length := by rw [e16, gi_ne_o _ _ _ _ (by omega)]; exact m3
          have b16 : lo.toInt = -1 → hi.toInt = 21 → gi s16 (Bo b + 10 + ps.length) 10 = nI (PLa j) := fun z1 z2 => by rw [e16, gi_same, ← hj z1 z2]
          refine H166 _ _ _ _ _ _ _ _ (fun _ => ⟨fun z y ey => ?_, fun z y ey => ?_⟩)
          · have hw : w0 = false := tn0 z
            subst hw
            rw [if_neg (by decide)] at hb3
            refine next v fr y s16 f16 m16 ?_
            rw [hacc]
            refine ⟨?_, hok, b16⟩
            rw [if_neg (by decide)]
            obtain ⟨b1, t, b2, b4⟩ := hb3
            refine ⟨b1, ?_⟩
            rw [ey]
            by_cases hv : v < to
            · rw [if_pos hv]; have := i32_lt.mp hv; omega
            · rw [if_neg hv]; have := i32_le.mp (nlt.mp hv); omega
          · have hw : w0 = true := tn1 z
            subst hw
            rw [if_pos rfl] at hb3
            refine next v y to s16 f16 m16 ?_
            rw [hacc]
            refine ⟨?_, hok, b16⟩
            rw [if_pos rfl]
            obtain ⟨b1, t, b2, b4⟩ := hb3
            refine ⟨b1, ?_⟩
            rw [ey]
            by_cases hv : fr < v
            · rw [if_pos hv]; have := i32_lt.mp hv; omega
            · rw [if_neg hv]; have := i32_le.mp (nlt.mp hv); omega
        have no : mid s b ps.length w0 (bst w0 (cb C ps) vf (i + 1)) lo.toInt hi.toInt x.toInt fr.toInt to.toInt → P166 (nI N) (Bo b + 10 + ps.length) (nI w0.toNat) x fr to (nI i) s := by
          intro hm
          refine H166 _ _ _ _ _ _ _ _ (fun _ => ⟨fun z y ey => next x fr y s f3 m3 ?_, fun z y ey => next x y to s f3 m3 ?_⟩)
          · have hw : w0 = false := tn0 z
            subst hw
            refine ⟨?_, hm.2⟩
            have h1 := hm.1
            rw [if_neg (by decide)] at h1 ⊢
            refine ⟨h1.1, ?_⟩
            rw [ey]
            by_cases hv : x < to
            · rw [if_pos hv]; have := i32_lt.mp hv; omega
            · rw [if_neg hv]; exact h1.2
          · have hw : w0 = true := tn1 z
            subst hw
            refine ⟨?_, hm.2⟩
            have h1 := hm.1
            rw [if_pos rfl] at h1 ⊢
            refine ⟨h1.1, ?_⟩
            rw [ey]
            by_cases hv : fr < x
            · rw [if_pos hv]; have := i32_lt.mp hv; omega
            · rw [if_neg hv]; exact h1.2
        have hstep : bst w0 (cb C ps) vf (i + 1) = stp w0 (cb C ps) vf (bst w0 (cb C ps) vf i) i := rfl
        cases hz : bst w0 (cb C ps) vf i with
        | none =>
          rw [hz] at g4 hstep
          rw [stp_none hci] at hstep
          have g4 : x.toInt = if w0 = true then -1 else 21 := g4
          have r0 := w3.1
          have r20 := w3.2.1
          cases w0
          · rw [if_neg (by decide)] at g3 g4
            refine ⟨fun _ => ⟨fun z => absurd (i32_le.mp z) (by omega), fun _ => yes _ hstep ?_ (fun _ _ => rfl) ?_⟩, fun z => absurd rfl z⟩
            · dsimp only
              rw [g3.1, show to.toInt = hi.toInt by omega] at w3
              exact w3
            · rw [if_neg (by decide)]; exact ⟨g3.1, x.toInt, g3.2, by omega⟩
          · rw [if_pos rfl] at g3 g4
            refine ⟨fun z => absurd z (by decide), fun _ => ⟨fun z => absurd (i32_le.mp z) (by omega), fun _ => yes _ hstep ?_ (fun _ _ => rfl) ?_⟩⟩
            · dsimp only
              rw [g3.1, show fr.toInt = lo.toInt by omega] at w3
              exact w3
            · rw [if_pos rfl]; exact ⟨g3.1, x.toInt, g3.2, by omega⟩
        | some Wj =>
          obtain ⟨W, j⟩ := Wj
          rw [hz] at g4 hstep
          obtain ⟨g4, g5⟩ := g4
          cases w0
          · rw [if_neg (by decide)] at g3
            obtain ⟨j', e1, e2, e3⟩ := stp_min (x := W) (j := j) hci (vf := vf)
            rw [e1] at hstep
            rw [g3.1] at w3
            refine ⟨fun _ => ⟨fun z => no ?_, fun z => ?_⟩, fun z => absurd rfl z⟩
            · rw [hstep]
              obtain ⟨k1, k2⟩ := ab_min_no g4 g3.2 w3 (i32_le.mp z) (by omega)
              refine ⟨?_, k1, fun f1 f2 => ?_⟩
              · rw [if_neg (by decide)]; exact g3
              · rw [best3, e3 (k2 f1 f2)]; exact g5 f1 f2
            · have z := i32_lt.mp (nle.mp z)
              obtain ⟨k1, k2⟩ := ab_min_yes g4 g3.2 w3 z (by omega)
              refine yes _ hstep k1 (fun f1 f2 => e2 (k2 f1 f2)) ?_
              rw [if_neg (by decide)]; exact ⟨g3.1, x.toInt, g3.2, by omega⟩
          · rw [if_pos rfl] at g3
            obtain ⟨j', e1, e2, e3⟩ := stp_max (x := W) (j := j) hci (vf := vf)
            rw [e1] at hstep
            rw [g3.1] at w3
            refine ⟨fun z => absurd z (by decide), fun _ => ⟨fun z => no ?_, fun z => ?_⟩⟩
            · rw [hstep]
              obtain ⟨k1, k2⟩ := ab_max_no g4 g3.2 w3 (i32_le.mp z) (by omega)
              refine ⟨?_, k1, fun f1 f2 => ?_⟩
              · rw [if_pos rfl]; exact g3
              · rw [best3, e3 (k2 f1 f2)]; exact g5 f1 f2
            · have z := i32_lt.mp (nle.mp z)
              obtain ⟨k1, k2⟩ := ab_max_yes g4 g3.2 w3 z (by omega)
              refine yes _ hstep k1 (fun f1 f2 => e2 (k2 f1 f2)) ?_
              rw [if_pos rfl]; exact ⟨g3.1, x.toInt, g3.2, by omega⟩
    have e4 : w0 = decide (sgG C.1 ps 4 = 0) := hw0.symm
    have start : ∀ (x : Int32), x.toInt = (if w0 = true then -1 else 21) → P69 (nI N) (Bo b + 10 + ps.length) (nI w0.toNat) x lo hi 0 σ := by
      intro x hx
      refine loop 14 0 rfl (by decide) x lo hi σ (fmN.rf _ _ _) hR.made ⟨?_, hx⟩
      cases w0
      · rw [if_neg (by decide)] at hx ⊢; omega
      · rw [if_pos rfl] at hx ⊢; omega
    refine ⟨vp_in_nI (by omega) (by decide), fun z => ?_, fun z => ?_⟩
    · rw [decide_eq_false z] at e4
      subst e4
      exact H45 _ _ _ _ (fun _ => ⟨fun _ => H58 _ _ _ _ _ (fun _ => start 21 rfl), fun z => absurd rfl z⟩)
    · rw [decide_eq_true z] at e4
      subst e4
      exact H45 _ _ _ _ (fun _ => ⟨fun z => absurd z (by decide), fun _ => H58 _ _ _ _ _ (fun _ => start (-1) rfl)⟩)
