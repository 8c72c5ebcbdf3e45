/-! PURE: begin, of, ought, right, reform, told: both sides -/
def rsN (ok : Nat → Bool) : Nat → Nat
  | 0 => 0
  | k + 1 => if ok k = true then rsN ok k ||| 2 ^ k else rsN ok k
theorem rsN_lt (ok : Nat → Bool) : ∀ k, k ≤ 5 → rsN ok k < 32
  | 0, _ => Nat.zero_lt_succ 31
  | k + 1, h => by
    have ih := rsN_lt ok k (by omega)
    unfold rsN
    split
    · exact (lk_or _ ih k (by omega)).2
    · exact ih
def okk (C : Cx) (CS : Nat → Cs) (SS : Nat → Nat) (E : Nat → Nat) (k : Nat) : Bool := decide (10 ≤ vlG C (CS k) []) == ouB (CS k) (SS k) E
def aC (nc : Nat) (σ : St) (CS : Nat → Cs) (SS : Nat → Nat) (E : Nat → Nat) : Prop := gi σ 100 3 = nI nc ∧ (∀ k, k < nc → dc (gi σ 103 k) = some (400 + 10 * k) ∧ gi σ (400 + 10 * k) 0 = nI (SS k) ∧ SS k < 32 ∧ cC σ k (CS k)) ∧ ∀ p, p < 5 → gi σ 101 p = nI (E p) ∧ E p < 32
def aR (nc : Nat) (τ : St) (CS : Nat → Cs) (SS : Nat → Nat) (E : Nat → Nat) : Prop := gi τ 0 0 = nI nc ∧ (∀ k, k < nc → gi τ 3 k = nI (SS k) ∧ SS k < 32 ∧ cR τ k (CS k)) ∧ ∀ p, p < 5 → gi τ 1 p = nI (E p) ∧ E p < 32
theorem aC.T {nc : Nat} {σ σ' : St} {CS : Nat → Cs} {SS E : Nat → Nat} (h : aC nc σ CS SS E) (f : frT σ σ') : aC nc σ' CS SS E := by
  refine ⟨by rw [f.1 100 3 (by omega) (by omega)]; exact h.1, fun k hk => ?_, fun p hp => by rw [f.1 101 p (by omega) (by omega)]; exact h.2.2 p hp⟩
  obtain ⟨h1, h2, h3, h4⟩ := h.2.1 k hk
  exact ⟨by rw [f.1 103 k (by omega) (by omega)]; exact h1, by rw [f.1 _ 0 (by omega) (by omega)]; exact h2, h3, fun w p hw hp => by rw [f.1 _ p (by omega) (by omega)]; exact h4 w p hw hp⟩
theorem aR.Y {nc : Nat} {τ τ' : St} {CS : Nat → Cs} {SS E : Nat → Nat} (h : aR nc τ CS SS E) (f : frY τ τ') : aR nc τ' CS SS E := by
  refine ⟨by rw [f.1 0 0 (by omega) (by omega) (by omega) (by omega)]; exact h.1, fun k hk => ?_, fun p hp => by rw [f.1 1 p (by omega) (by omega) (by omega) (by omega)]; exact h.2.2 p hp⟩
  obtain ⟨h1, h3, h4⟩ := h.2.1 k hk
  exact ⟨by rw [f.1 3 k (by omega) (by omega) (by omega) (by omega)]; exact h1, h3, fun w p hw hp => by rw [f.1 _ _ (by omega) (by omega) (by omega) (by omega)]; exact h4 w p hw hp⟩
theorem lkC.T {σ σ' : St} {C : Cx} (h : lkC σ C) (f : frT σ σ') : lkC σ' C := fun p hp => by rw [f.1 101 p (by omega) (by omega), f.1 102 p (by omega) (by omega)]; exact h p hp
theorem lkR.Y {τ τ' : St} {C : Cx} (h : lkR τ C) (f : frY τ τ') : lkR τ' C := fun p hp => by rw [f.1 1 p (by omega) (by omega) (by omega) (by omega), f.1 2 p (by omega) (by omega) (by omega) (by omega)]; exact h p hp
theorem allR.Y {τ τ' : St} (h : allR τ) (f : frY τ τ') : allR τ' := fun i hi => by rw [f.1 38 i (by omega) (by omega) (by omega) (by omega)]; exact h i hi
theorem ITr.T {σ σ' : St} (h : ITr σ) (f : frT σ σ') : ITr σ' := h.same (fun x k hx => f.1 x k (by omega) (by omega))
theorem Inv.aa {nc : Nat} {σ τ : St} (h : Inv nc σ τ) : ∃ CS SS E, aC nc σ CS SS E ∧ aR nc τ CS SS E := by
  obtain ⟨hn, ⟨e1, e2, e3⟩, hlk, -⟩ := h
  have h1 : ∀ k, ∃ q : Cs × Nat, k < nc → (gi σ (400 + 10 * k) 0 = nI q.2 ∧ gi τ 3 k = nI q.2 ∧ q.2 < 32 ∧ cC σ k q.1 ∧ cR τ k q.1) := by
    intro k
    by_cases hk : k < nc
    · obtain ⟨-, ⟨S, s1, s2, s3⟩, cs, c1, c2⟩ := e3 k hk
      exact ⟨(cs, S), fun _ => ⟨s2, s3, s1, c1, c2⟩⟩
    · exact ⟨(fun _ _ => 0, 0), fun z => absurd z hk⟩
  obtain ⟨q, hq⟩ := Classical.axiomOfChoice h1
  have h2 : ∀ p, ∃ n : Nat, p < 5 → (gi τ 1 p = nI n ∧ n < 32) := by
    intro p
    by_cases hp : p < 5
    · obtain ⟨-, -, ⟨n, n1, n2⟩, -⟩ := hlk p hp
      exact ⟨n, fun _ => ⟨n2, n1⟩⟩
    · exact ⟨0, fun z => absurd z hp⟩
  obtain ⟨E, hE⟩ := Classical.axiomOfChoice h2
  refine ⟨fun k => (q k).1, fun k => (q k).2, E, ⟨e1, fun k hk => ⟨(e3 k hk).1, (hq k hk).1, (hq k hk).2.2.1, (hq k hk).2.2.2.1⟩, fun p hp => ⟨?_, (hE p hp).2⟩⟩, e2, fun k hk => ⟨(hq k hk).2.1, (hq k hk).2.2.1, (hq k hk).2.2.2.2⟩, fun p hp => hE p hp⟩
  rw [(hlk p hp).1]
  exact (hE p hp).1
section RG
variable {d e nc : Nat} {σ τ : St} {CS : Nat → Cs} {SS E : Nat → Nat}
/-- the class's second roll is begun -/
theorem c_tried {Q : St → Prop} {r : Nat} {R : Ru} {wo : Option Nat} (hn : nc < 5) (hr : r < 5) (hRC : RuC σ r R) (hok : okR R) (hwo : woOk wo) (h0 : ITr σ) (h : ∀ σ', RlC σ' 109 (some (r, R, wo)) [] → frT σ σ' → Q σ') : EV (d + 4) (idsC nc) Y_X2_restart [.ref 109, .ref (140 + r), .int (woC wo)] σ Q := by
  have hB : Bo 109 = 300 := rfl
  refine kC_restart hn b109 hr hRC hok hwo h0 (fun σ' a1 a2 a3 a4 a5 => ?_)
  have hR : RlC σ' 109 (some (r, R, wo)) [] := ⟨a1, a2⟩
  refine h σ' hR ⟨fun x k b1 b2 => ?_, a5⟩
  by_cases hx : x = 310
  · subst hx
    have hk : k ≤ 6 := by omega
    have z1 : StC σ' 310 sg0 := hR.zero
    have z0 : StC σ 310 sg0 := h0
    rw [z1.1 k hk, z0.1 k hk]
  · rw [a3 x b1 (by omega) (by omega)]
theorem RuC.T {σ' : St} {r : Nat} {R : Ru} (hr : r < 5) (h : RuC σ r R) (f : frT σ σ') : RuC σ' r R := RuC_same h hr (fun x x1 x2 => funext fun k => f.1 x k (by omega) (by omega))
theorem c_rightCases {Q : Int32 → St → Prop} {r : Nat} {R : Ru} {wo : Option Nat} {le la : Nat → Int32} (hn : nc < 5) (hr : r < 5) (hRC : RuC σ r R) (hok : okR R) (hwo : woOk wo) (h0 : ITr σ) (hA : aC nc σ CS SS E) (hlk : lkC σ (some (r, R, wo), le, la))
    (h : ∀ σ', frT σ σ' → Q (nI (rsN (okk (some (r, R, wo), le, la) CS SS E) nc)) σ') : EI (d + 36) (idsC nc) Y_X6_rightCases [.ref 100, .ref (140 + r), .int (woC wo)] σ Q := by
  refine fl_X6_rightCases (h100 hn) (hRu hn hr) (fun P5 P51 P74 H5 H51 H74 => ?_)
  have r2 : rf 100 2 = 103 := rfl
  rw [r8, r2] at H5
  rw [r_0] at H51
  generalize hok' : okk (some (r, R, wo), le, la) CS SS E = ok at h
  have loop : ∀ m k σ1, nc - k = m → k ≤ nc → frT σ σ1 → P5 (nI (rsN ok k)) (nI k) σ1 := by
    intro m
    induction m with
    | zero =>
      intro k σ1 q1 q2 q3
      have hk : k = nc := by omega
      refine H5 _ _ _ ?_
      rw [(hA.T q3).1, hk]
      exact ⟨fun _ => h σ1 q3, fun z => absurd (nI_le (Nat.le_refl _) (by omega)) z⟩
    | succ m ih =>
      intro k σ1 q1 q2 q3
      have hk : k < nc := by omega
      have hA1 := hA.T q3
      obtain ⟨d1, d2, d3, d4⟩ := hA1.2.1 k hk
      refine H5 _ _ _ ?_
      rw [hA1.1, cl_ix k (by omega), d1]
      refine ⟨fun z => absurd ((nI_leI (by omega) (by omega)).mp z) (by omega), fun _ => ⟨vp_in_nI (by omega) (by decide), fun y => (by cases y), fun r3 e3 => ?_⟩⟩
      cases e3
      refine ⟨hCase hn hk, c_tried (d := d + 31) hn hr (hRC.T hr q3) hok hwo (h0.T q3) (fun σ2 a1 a2 => ?_)⟩
      have q32 := q3.tr a2
      refine c_valueIn' (C := (some (r, R, wo), le, la)) (d := d + 24) hn b109 hk a1 (hlk.T q32) (((hA.T q32).2.1 k hk).2.2.2) (fun σ3 f3 m3 => ?_)
      have q33 := q32.tr (f3.T (Nat.zero_le _))
      have hA3 := hA.T q33
      obtain ⟨d1, d2, d3, d4⟩ := hA3.2.1 k hk
      have hv : vlG (some (r, R, wo), le, la) (CS k) [] ≤ 20 := vlG_le (fun w p hw hp => (d4 w p hw hp).2) a1.lg
      have hlt := rsN_lt ok k (by omega)
      have on : ∀ σ4, frT σ σ4 → ∀ b, b = rsN ok (k + 1) → P74 (nI b) (nI k) σ4 := by
        rintro σ4 q4 b rfl
        refine H74 _ _ _ (fun x ex => ?_)
        rw [ex, ← nI_succ]
        exact ih (k + 1) σ4 (by omega) (by omega) q4
      have after : ∀ t : Bool, decide (10 ≤ vlG (some (r, R, wo), le, la) (CS k) []) = t → P51 (nI (rsN ok k)) (nI k) (400 + 10 * k) (nI t.toNat) σ3 := by
        intro t ht
        refine H51 _ _ _ _ _ (fun _ => c_ought (d := d) hn hk d4 d2 d3 hA3.2.2 ?_)
        have eok : ok k = (t == ouB (CS k) (SS k) E) := by rw [← hok', okk, ht]
        refine ⟨fun z => on σ3 q33 _ ?_, fun z x12 e12 => ?_⟩
        · have : ok k = false := by
            rw [eok]
            cases t <;> cases hb : ouB (CS k) (SS k) E
            · rw [hb] at z; exact absurd rfl z
            · rfl
            · rfl
            · rw [hb] at z; exact absurd rfl z
          rw [rsN, if_neg (by rw [this]; decide)]
        · have : ok k = true := by
            rw [eok]
            cases t <;> cases hb : ouB (CS k) (SS k) E
            · rfl
            · rw [hb] at z; exact absurd z (by decide)
            · rw [hb] at z; exact absurd z (by decide)
            · rfl
          rw [e12, (lk_or _ hlt k (by omega)).1]
          refine on σ3 q33 _ ?_
          rw [rsN, if_pos this]
      refine ⟨fun z => after false (decide_eq_false (fun y => ?_)), fun z => after true (decide_eq_true ?_)⟩
      · have := (nI_ltI (b := 10) (by omega) (by decide)).mp z
        omega
      · have : ¬ vlG (some (r, R, wo), le, la) (CS k) [] < 10 := fun y => z (nI_lt y (by decide))
        omega
  exact loop nc 0 σ rfl (Nat.zero_le _) (frT.rf _)
theorem RlR_Y {τ' : St} {G : Gm} {ps : List Nat} (h : RlR τ G ps) (e : eq7 τ τ') : RlR τ' G ps := RlR_same h (fun k _ => by rw [e.1 0 (by decide)]) (fun x hx => e.1 x (by omega))
theorem r_rightNow {Q : Int32 → St → Prop} {G : Gm} {le la : Nat → Int32} (hn : nc < 5) (hT : RlR τ G []) (ha : allR τ) (hA : aR nc τ CS SS E) (hlk : lkR τ (G, le, la))
    (h : ∀ τ', RlR τ' G [] → frY τ τ' → (∀ k, k ≠ 26 → gi τ' 0 k = gi τ 0 k) → (∀ j, gi τ' 39 j = gi τ 39 j) → Q (nI (rsN (okk (G, le, la) CS SS E) nc)) τ') : EI (d + 8) idsR Y_X7_rightNow [.ref 0] τ Q := by
  refine fl_X7_rightNow hR (fun P4 P28 P43 H4 H28 H43 => ?_)
  generalize hok' : okk (G, le, la) CS SS E = ok at h
  have loop : ∀ m k τ1, nc - k = m → k ≤ nc → RlR τ1 G [] → frY τ τ1 → (∀ k, k ≠ 26 → gi τ1 0 k = gi τ 0 k) → (∀ j, gi τ1 39 j = gi τ 39 j) → P4 (nI (rsN ok k)) (nI k) τ1 := by
    intro m
    induction m with
    | zero =>
      intro k τ1 q1 q2 q3 q4 q5 q6
      have hk : k = nc := by omega
      refine H4 _ _ _ ?_
      rw [(hA.Y q4).1, hk]
      exact ⟨fun _ => h τ1 q3 q4 q5 q6, fun z => absurd (nI_le (Nat.le_refl _) (by omega)) z⟩
    | succ m ih =>
      intro k τ1 q1 q2 q3 q4 q5 q6
      have hk : k < nc := by omega
      have hA1 := hA.Y q4
      refine H4 _ _ _ ?_
      rw [hA1.1]
      refine ⟨fun z => absurd ((nI_leI (by omega) (by omega)).mp z) (by omega), fun _ => ?_⟩
      refine r_valueOf (C := (G, le, la)) (by omega) q3 (hlk.Y q4) (ha.Y q4) ((hA1.2.1 k hk).2.2) (fun τ2 f2 m2 m3 => ?_)
      have q42 := q4.tr f2.Y
      have hT2 := RlR_fm q3 f2 m2
      have hA2 := hA.Y q42
      obtain ⟨d2, d3, d4⟩ := hA2.2.1 k hk
      have hv : vlG (G, le, la) (CS k) [] ≤ 20 := vlG_le (fun w p hw hp => (d4 w p hw hp).2) q3.lg
      have hlt := rsN_lt ok k (by omega)
      have q52 : ∀ k, k ≠ 26 → gi τ2 0 k = gi τ 0 k := fun k hk => by rw [f2.1 0 k (by omega) (by omega) (by omega) (by omega) (by omega)]; exact q5 k hk
      have q62 : ∀ j, gi τ2 39 j = gi τ 39 j := fun j => by rw [f2.1 39 j (by omega) (by omega) (by omega) (by omega) (by omega)]; exact q6 j
      have after : ∀ t : Bool, decide (10 ≤ vlG (G, le, la) (CS k) []) = t → P28 (nI k) (nI t.toNat) (nI (rsN ok k)) τ2 := by
        intro t ht
        refine H28 _ _ _ _ (r_isOught (d := d + 4) (by omega) d4 d2 d3 hA2.2.2 (fun τ3 e7 => ?_))
        have eok : ok k = (t == ouB (CS k) (SS k) E) := by rw [← hok', okk, ht]
        have on : ∀ x : Int32, (nI (rsN ok k) ||| x) = nI (rsN ok (k + 1)) → P43 (nI k) x (nI (rsN ok k)) τ3 := by
          intro x hx
          refine H43 _ _ _ _ (fun x8 e8 x9 e9 => ?_)
          rw [e8, hx, e9, ← nI_succ]
          exact ih (k + 1) τ3 (by omega) (by omega) (RlR_Y hT2 e7) (q42.tr e7.Y) (fun k hk => by rw [e7.1 0 (by decide)]; exact q52 k hk) (fun j => by rw [e7.1 39 (by decide)]; exact q62 j)
        refine ⟨fun z => on _ ?_, fun z => on _ ?_⟩
        · have : ok k = false := by
            rw [eok]
            cases t <;> cases hb : ouB (CS k) (SS k) E
            · rw [hb] at z; exact absurd rfl z
            · rfl
            · rfl
            · rw [hb] at z; exact absurd rfl z
          rw [rsN, if_neg (by rw [this]; decide)]
          exact nI_or0
        · have : ok k = true := by
            rw [eok]
            cases t <;> cases hb : ouB (CS k) (SS k) E
            · rfl
            · rw [hb] at z; exact absurd z (by decide)
            · rw [hb] at z; exact absurd z (by decide)
            · rfl
          rw [(lk_or _ hlt k (by omega)).1, rsN, if_pos this]
      refine ⟨fun z => after false (decide_eq_false (fun y => ?_)), fun z => after true (decide_eq_true ?_)⟩
      · have := (nI_ltI (b := 10) (by omega) (by decide)).mp z
        omega
      · have : ¬ vlG (G, le, la) (CS k) [] < 10 := fun y => z (nI_lt y (by decide))
        omega
  exact loop nc 0 τ rfl (Nat.zero_le _) hT (frY.rf _) (fun _ _ => rfl) (fun _ => rfl)
end RG
