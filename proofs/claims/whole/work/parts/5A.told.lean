/-! PURE: told, feed, rules: the calls of both sides -/
def pOf (x : Int32) : Option Nat := (List.range 14).find? (fun p => decide (x = nI (PLa p)))
theorem pOf_some : ∀ p, p < 14 → pOf (nI (PLa p)) = some p := by decide +kernel
theorem pOf_none {x : Int32} (h : ¬ isPl x) : pOf x = none := by
  unfold pOf
  rw [List.find?_eq_none]
  intro p hp z
  exact h ⟨p, List.mem_range.mp hp, of_decide_eq_true z⟩
/-- what is told from the k-th on, f at most; m: how many there are, v: what they are -/
def tdA (C : Cx) (m : Nat) (a1 : Int32) (v : Nat → Int32) : Nat → Nat → List Nat → Int32
  | 0, _, _ => -5
  | f + 1, k, ps => if a1 < 0 ∨ ¬ (a1.toNatClampNeg + k < m) then nI (100 + k) else match pOf (v k) with
    | none => nI k
    | some p => if cb C ps p = true then tdA C m a1 v f (k + 1) (PLa p :: ps) else nI k
section TD
variable {d e nc : Nat} {σ τ : St} {Q : Int32 → St → Int32 → St → Prop}
theorem c_told {F : Int32 → St → Prop} {P60 P83 : Int32 → St → Prop} {C : Cx} {G : Gm} {t n m : Nat} {a1 : Int32} {v : Nat → Int32} (hn : nc < 5) (hC : C.1 = G) (hlk : lkC σ C) (ht : t < 6) (hn20 : n ≤ 20) (hm : m ≤ 60)
    (hsz : gi σ 112 t = nI m) (hv : ∀ k, a1.toNatClampNeg + k < m → Int64.toInt32 (gl σ (130 + t) (a1.toNatClampNeg + k)) = v k)
    (H60 : ∀ (v6 : Int32) (σ : St), (((nI n ≤ v6 → F (-5) σ) ∧ (¬ (nI n ≤ v6) → ((a1 < 0 → P83 v6 σ) ∧ (¬ (a1 < 0) → vp_in (nI t) 6 ∧ (((a1 + v6) < (gi σ (rf 100 11) (Int32.toNatClampNeg (nI t))) → vp_in (nI t) 6 ∧ vp_in (a1 + v6) 60 ∧ ∀ x7 : Int32, x7 = (Int64.toInt32 (gl σ (rf (rf 100 12) (Int32.toNatClampNeg (nI t))) (Int32.toNatClampNeg (a1 + v6)))) → EI (d + 7) (idsC nc) Y_X6_placeOf [.int x7] σ (fun x9 s8 => ((x9 = (-1) → F v6 s8) ∧ (¬ x9 = (-1) → EI (d + 7) (idsC nc) Y_X2_open [.ref (rf 100 8)] s8 (fun x12 s11 => ((¬ ((x12 >>> (x9 &&& 31)) &&& 1) = 0 → EV (d + 7) (idsC nc) Y_X2_make [.ref (rf 100 8), .int x7] s11 (fun s14 => ∀ x15 : Int32, x15 = v6 + 1 → P60 x15 s14)) ∧ (((x12 >>> (x9 &&& 31)) &&& 1) = 0 → F v6 s11))))))) ∧ (¬ ((a1 + v6) < (gi σ (rf 100 11) (Int32.toNatClampNeg (nI t)))) → P83 v6 σ))))))) → P60 v6 σ)
    (H83 : ∀ (v6 : Int32) (σ : St), (F (100 + v6) σ) → P83 v6 σ) {X : Int32} (hF : ∀ σ', frT σ σ' → F X σ') :
    ∀ f k ps σ1, n - k = f → k ≤ n → (k = 0 ∨ (¬ a1 < 0 ∧ a1.toNatClampNeg < 60)) → RlC σ1 109 G ps → frT σ σ1 → tdA C m a1 v f k ps = X → P60 (nI k) σ1 := by
  intro f
  induction f with
  | zero =>
    intro k ps σ1 q1 q2 q3 q4 q5 q6
    have : k = n := by omega
    have q6 : -5 = X := q6
    rw [this]
    exact H60 _ _ ⟨fun _ => by rw [q6]; exact hF σ1 q5, fun y => absurd (nI_le (Nat.le_refl _) (by omega)) y⟩
  | succ f ih =>
    intro k ps σ1 q1 q2 q3 q4 q5 q6
    have hk : k < n := by omega
    unfold tdA at q6
    have bey : (a1 < 0 ∨ ¬ (a1.toNatClampNeg + k < m)) → P83 (nI k) σ1 := by
      intro z
      rw [if_pos z] at q6
      refine H83 _ _ ?_
      have : (100 : Int32) + nI k = X := by rw [← q6]; exact nI_add 100 k
      rw [this]
      exact hF σ1 q5
    refine H60 _ _ ⟨fun y => absurd ((nI_leI (by omega) (by omega)).mp y) (by omega), fun _ => ⟨fun z => bey (Or.inl z), fun z => ⟨vp_in_nI ht (by decide), ?_⟩⟩⟩
    obtain ⟨i, hi, rfl⟩ := nI_of z
    rw [cl_ix i hi] at q3 q6 hv bey
    have r11 : rf 100 11 = 112 := rfl
    rw [cl_ix t (by omega), r11, q5.1 112 t (by omega) (by omega), hsz, nI_add, rf100_12]
    have hlt : nI (i + k) < nI m ↔ i + k < m := by
      rcases q3 with q3 | q3
      · subst q3
        exact nI_ltI hi (by omega)
      · exact nI_ltI (by omega) (by omega)
    refine ⟨fun y => ?_, fun y => bey (Or.inr (fun q => y (hlt.mpr q)))⟩
    have hikm := hlt.mp y
    rw [cl_ix _ (by omega), q5.2, hv k hikm]
    rw [if_neg (fun q => q.elim z (fun q => q hikm))] at q6
    refine ⟨vp_in_nI ht (by decide), vp_in_nI (by omega) (by decide), fun x7 e7 => ?_⟩
    subst e7
    refine c_placeOf (fun z2 => ⟨fun _ => ?_, fun y => absurd rfl y⟩) (fun p hp ep => ⟨fun y => absurd y (m1_nI (by omega)), fun _ => ?_⟩)
    · rw [pOf_none z2] at q6
      have q6 : nI k = X := q6
      rw [q6]; exact hF σ1 q5
    · rw [ep, pOf_some p hp] at q6
      have q6 : (if cb C ps p = true then tdA C m (nI i) v f (k + 1) (PLa p :: ps) else nI k) = X := q6
      rw [r8, ep]
      have q4' : RlC σ1 109 C.1 ps := by rw [hC]; exact q4
      refine c_open (C := C) hn b109 q4' (hlk.T q5) (fun N hN hb => ?_)
      rw [c_bit hN hp, hb p hp]
      cases hc : cb C ps p with
      | false =>
        rw [if_neg (by rw [hc]; decide)] at q6
        exact ⟨fun y => absurd rfl y, fun _ => by rw [q6]; exact hF σ1 q5⟩
      | true =>
        rw [if_pos hc] at q6
        refine ⟨fun _ => c_make (C := C) hn b109 q4' hp hc (fun σ2 w1 w2 w3 w4 x15 e15 => ?_), fun y => absurd y n1_0⟩
        rw [e15, ← nI_succ]
        rw [hC] at w1
        exact ih (k + 1) (PLa p :: ps) σ2 (by omega) (by omega) (Or.inr ⟨z, by rw [cl_ix i hi]; omega⟩) w1 (q5.tr (w2.T q4.lg.len)) q6
theorem s_told {a0 a1 a2 a3 : Int32} (h : Inv nc σ τ) (hQ : ∀ x σ' τ', Inv nc σ' τ' → Q x σ' x τ') : BI (d + 8) (e + 8) nc Y_X6_told Y_X7_told [.int a0, .int a1, .int a2, .int a3] σ τ Q := by
  have hn := h.nc
  obtain ⟨Rs, G, ps, hi⟩ := h.op
  obtain ⟨hu, hC, hT, hg, h25, h24⟩ := id hi
  -- the reference, where it is refused
  have no1 : ¬ (Tp a0 ∧ isCs Rs.length a3) → EI (e + 8) idsR Y_X7_told [.ref 0, .int a0, .int a1, .int a2, .int a3] τ (fun y τ' => Q (-1) σ y τ') := by
    intro z
    refine fl_X7_told hR (fun P62 P103 P157 P161 P167 _ _ _ _ _ => kR_isTape ⟨fun _ => hQ _ _ _ h, fun z1 => r_isRules hu.1 hu.2.2.1 (fun _ => ⟨fun y => absurd rfl y, fun _ => hQ _ _ _ h⟩) (fun z2 => absurd ⟨bI_n.mp z1, z2⟩ z)⟩)
  refine fl_X6_told (h100 hn) (fun P60 P83 H60 H83 => c_rulesAt hn hu.1 hu.2.1 (fun z => ⟨fun _ => kC_isTape ⟨fun _ => no1 (fun y => z y.2), fun _ => no1 (fun y => z y.2)⟩, fun r2 y => (by cases y)⟩) (fun r hr er => ⟨fun y => (by cases y), fun r2 e2 => ?_⟩))
  cases e2
  have hr5 : r < 5 := by have := hu.1; omega
  obtain ⟨R, hR1⟩ : ∃ R, Rs[r]? = some R := ⟨_, List.getElem?_eq_getElem hr⟩
  obtain ⟨hRC, ⟨hRR, -⟩, hok⟩ := hu.2.2.2 r R hR1
  refine ⟨hRu hn hr5, kC_isTape ⟨fun z => no1 (fun y => bI_0.mp z y.1), fun z => ?_⟩⟩
  have htp := bI_n.mp z
  have no2 : ¬ (0 ≤ a2 ∧ a2 ≤ 20) → EI (e + 8) idsR Y_X7_told [.ref 0, .int a0, .int a1, .int a2, .int a3] τ (fun y τ' => Q (-2) σ y τ') := by
    intro z3
    refine fl_X7_told hR (fun P62 P103 P157 P161 P167 _ _ _ _ _ => kR_isTape ⟨fun y => absurd htp (bI_0.mp y), fun _ => r_isRules hu.1 hu.2.2.1 (fun y => absurd ⟨r, hr, er⟩ y) (fun _ => ⟨fun _ => kR_in ⟨fun y => absurd (bI_n.mp y) z3, fun _ => hQ _ _ _ h⟩, fun y => absurd y (by decide)⟩)⟩)
  refine ⟨fun z1 => no2 (fun y => Int32.not_le.mpr z1 y.1), fun z1 => ⟨fun z2 => ?_, fun z2 => no2 (fun y => z2 y.2)⟩⟩
  obtain ⟨t, ht, rfl⟩ := tp_of htp
  have h020 : 0 ≤ a2 ∧ a2 ≤ 20 := ⟨nlt.mp z1, z2⟩
  obtain ⟨n, hn20, rfl⟩ := rng (n := 20) (by decide) h020.1 h020.2
  obtain ⟨t1, t2, ⟨m, hm, t3⟩, t4, t5⟩ := h.rt t ht
  have t6 := h.2.2.2.2.2.2.2.1.2 t ht
  obtain ⟨r0, R0, hG0, e24⟩ := hi.game (by omega)
  obtain ⟨lk1, lk2⟩ := h.lk (some (r, R, none))
  have r10 : rf 100 10 = 111 := rfl
  rw [cl_ix t (by omega), r10, t1]
  -- the reference's beginning
  have ref : ∀ F : Int32 → St → Prop, (∀ (P62 : Int32 → Int32 → St → Prop) (P103 : Int32 → St → Prop) (P157 : Int32 → St → Prop) (P161 : Int32 → Int32 → St → Prop) (P167 : Int32 → St → Prop), (∀ (v5 : Int32) (v6 : Int32) (σ : St), (((nI n ≤ v6 → P167 v5 σ) ∧ (¬ (nI n ≤ v6) → ((¬ v5 = (-5) → P167 v5 σ) ∧ (v5 = (-5) → vp_in (nI t) 6 ∧ (((gi σ (rf 0 47) (Int32.toNatClampNeg (nI t))) < 0 → P103 v6 σ) ∧ (¬ ((gi σ (rf 0 47) (Int32.toNatClampNeg (nI t))) < 0) → ((a1 < 0 → P103 v6 σ) ∧ (¬ (a1 < 0) → vp_in (nI t) 6 ∧ ((a1 ≤ (((gi σ (rf 0 48) (Int32.toNatClampNeg (nI t))) - v6) - 1) → vp_in (((60 * (nI t)) + a1) + v6) 360 ∧ ∀ x9 : Int32, x9 = (Int64.toInt32 (gl σ (rf 0 49) (Int32.toNatClampNeg (((60 * (nI t)) + a1) + v6)))) → EI (e + 7) idsR Y_X7_isPlea [.ref 0, .int x9] σ (fun x11 s10 => ((x11 = 0 → P157 v6 s10) ∧ (¬ x11 = 0 → EI (e + 7) idsR Y_X7_can [.ref 0, .int x9] s10 (fun x14 s13 => ((x14 = 0 → P157 v6 s13) ∧ (¬ x14 = 0 → EV (e + 7) idsR Y_X7_make [.ref 0, .int x9] s13 (fun s16 => P161 v5 v6 s16)))))))) ∧ (¬ (a1 ≤ (((gi σ (rf 0 48) (Int32.toNatClampNeg (nI t))) - v6) - 1)) → P103 v6 σ))))))))))) → P62 v5 v6 σ) → (∀ (v6 : Int32) (σ : St), (∀ x17 : Int32, x17 = (100 + v6) → P161 x17 v6 σ) → P103 v6 σ) → (∀ (v6 : Int32) (σ : St), (P161 v6 v6 σ) → P157 v6 σ) → (∀ (v5 : Int32) (v6 : Int32) (σ : St), (∀ x18 : Int32, x18 = v6 + 1 → P62 v5 x18 σ) → P161 v5 v6 σ) → (∀ (v5 : Int32) (σ : St), (EV (e + 7) idsR Y_X7_putBack [.ref 0] σ (fun s19 => F v5 s19)) → P167 v5 σ) →
      ((gi τ 47 t ≤ 0 → EV (e + 7) idsR Y_X7_keepRoll [.ref 0] τ (fun s31 => EV (e + 7) idsR Y_X7_beginBy [.ref 0, .int (nI r)] s31 (fun s32 => P62 (-5) 0 s32))) ∧ (¬ (gi τ 47 t ≤ 0) → F (-12) τ))) → EI (e + 8) idsR Y_X7_told [.ref 0, .int (nI t), .int a1, .int (nI n), .int a3] τ F := by
    intro F hF
    refine fl_X7_told hR (fun P62 P103 P157 P161 P167 H62 H103 H157 H161 H167 => kR_isTape ⟨fun y => absurd htp (bI_0.mp y), fun _ => r_isRules hu.1 hu.2.2.1 (fun y => absurd ⟨r, hr, er⟩ y) (fun _ => ⟨fun _ => kR_in ⟨fun _ => ⟨vp_in_nI ht (by decide), ?_⟩, fun y => absurd h020 (bI_0.mp y)⟩, fun y => absurd y (by decide)⟩)⟩)
    rw [cl_ix t (by omega), er]
    exact hF P62 P103 P157 P161 P167 H62 H103 H157 H161 H167
  refine ⟨vp_in_nI ht (by decide), fun z4 => ?_, fun z4 => ?_⟩
  · -- it is told
    let C : Cx := CxI (some (r, R, none)) σ
    let v : Nat → Int32 := fun k => Int64.toInt32 (gl σ (130 + t) (a1.toNatClampNeg + k))
    have fin : ∀ σ', frT σ σ' → EI (e + 8) idsR Y_X7_told [.ref 0, .int (nI t), .int a1, .int (nI n), .int a3] τ (fun y τ' => Q (tdA C m a1 v n 0 []) σ' y τ') := by
      intro σ' f1
      refine ref _ (fun P62 P103 P157 P161 P167 H62 H103 H157 H161 H167 => ⟨fun _ => ?_, fun y => absurd z4 y⟩)
      refine r_open (d := e + 5) hi hG0 e24 hR1 (fun τ2 b1 b2 b3 b4 => ?_)
      rw [cl_ix t (by omega)] at H62
      simp only [rf0] at H62
      generalize hX : tdA C m a1 v n 0 [] = X
      have done : ∀ τ3, frY τ τ3 → KP τ3 r0 ps → P167 X τ3 := by
        intro τ3 q1 q2
        refine H167 _ _ (r_close (d := e + 1) hi hG0 q1 q2 (fun τ4 g1 g2 g3 g4 => ?_))
        rw [hX]
        exact hQ _ _ _ (h.anew hi f1 g1 g2 g3 (by rw [g4, e24]))
      have stop : ∀ x k τ3, x = X → ¬ x = -5 → frY τ τ3 → KP τ3 r0 ps → P161 x (nI k) τ3 := by
        rintro x k τ3 rfl hx q1 q2
        refine H161 _ _ _ (fun x18 e18 => H62 _ _ _ ⟨fun _ => done τ3 q1 q2, fun _ => ⟨fun _ => done τ3 q1 q2, fun y => absurd y hx⟩⟩)
      have n5 : ∀ k : Nat, k < 1000 → ¬ nI k = -5 := fun k hk y => by
        have := nI_pos (n := k) (by omega)
        rw [y] at this
        exact this (by decide)
      have loop : ∀ f k ps1 τ3, n - k = f → k ≤ n → (k = 0 ∨ (¬ a1 < 0 ∧ a1.toNatClampNeg < 60)) → RlR τ3 (some (r, R, none)) ps1 → frY τ τ3 → KP τ3 r0 ps → tdA C m a1 v f k ps1 = X → P62 (-5) (nI k) τ3 := by
        intro f
        induction f with
        | zero =>
          intro k ps1 τ3 q1 q2 q3 q4 q5 q6 q7
          have : k = n := by omega
          have q7 : -5 = X := q7
          rw [this, q7]
          exact H62 _ _ _ ⟨fun _ => done τ3 q5 q6, fun y => absurd (nI_le (Nat.le_refl _) (by omega)) y⟩
        | succ f ih =>
          intro k ps1 τ3 q1 q2 q3 q4 q5 q6 q7
          have hk : k < n := by omega
          unfold tdA at q7
          have g47 : gi τ3 47 t = gi τ 47 t := q5.1 47 t (by omega) (by omega) (by omega) (by omega)
          have g48 : gi τ3 48 t = nI m := by rw [q5.1 48 t (by omega) (by omega) (by omega) (by omega)]; exact t3
          have bey : (a1 < 0 ∨ ¬ (a1.toNatClampNeg + k < m)) → P103 (nI k) τ3 := by
            intro y
            rw [if_pos y] at q7
            refine H103 _ _ (fun x17 e17 => stop x17 k τ3 ?_ ?_ q5 q6)
            · rw [e17, ← q7]; exact nI_add 100 k
            · rw [e17]
              have : (100 : Int32) + nI k = nI (100 + k) := nI_add 100 k
              rw [this]
              exact n5 _ (by omega)
          refine H62 _ _ _ ⟨fun y => absurd ((nI_leI (by omega) (by omega)).mp y) (by omega), fun _ => ⟨fun y => absurd rfl y, fun _ => ⟨vp_in_nI ht (by decide), fun y => bey ?_, fun y => ⟨fun y2 => bey (Or.inl y2), fun y2 => ⟨vp_in_nI ht (by decide), ?_⟩⟩⟩⟩⟩
          · rw [g47] at y
            have hm0 := t6 y
            rw [t3] at hm0
            have : m = 0 := (nI_eq (b := 0) (by omega) (by decide)).mp hm0
            exact Or.inr (by omega)
          · obtain ⟨i, hi31, ei⟩ := nI_of y2
            have hcl : a1.toNatClampNeg = i := by rw [ei, cl_ix i hi31]
            rw [hcl] at q3 q7 bey
            have hle : a1 ≤ nI m - nI k - 1 ↔ i + k < m := by
              have d1 : (nI m - nI k).toInt = (m : Int) - k := by
                rw [i_sub (by rw [nI_toInt (by omega), nI_toInt (by omega)]; omega) (by rw [nI_toInt (by omega), nI_toInt (by omega)]; omega), nI_toInt (by omega), nI_toInt (by omega)]
              have one1 : (1 : Int32).toInt = 1 := rfl
              have d2 : (nI m - nI k - 1).toInt = (m : Int) - k - 1 := by
                rw [i_sub (by rw [d1, one1]; omega) (by rw [d1, one1]; omega), d1, one1]
              rw [ei, i32_le, d2, nI_toInt hi31]
              omega
            rw [g48]
            refine ⟨fun y3 => ?_, fun y3 => bey (Or.inr (fun q => y3 (hle.mpr q)))⟩
            have hikm := hle.mp y3
            rw [if_neg (fun q => q.elim y2 (fun q => q hikm))] at q7
            have ev : v k = Int64.toInt32 (gl σ (130 + t) (i + k)) := by show Int64.toInt32 (gl σ (130 + t) (a1.toNatClampNeg + k)) = _; rw [hcl]
            rw [ei, sh_ix, cl_ix _ (by omega), q5.2, Nat.add_assoc, ← t5 (i + k) (by omega), ← ev]
            refine ⟨vp_in_nI (by omega) (by decide), fun x9 e9 => ?_⟩
            subst e9
            refine r_isPlea (fun z5 => ⟨fun _ => H157 _ _ ?_, fun y => absurd rfl y⟩) (fun z5 => ⟨fun y => absurd y (by decide), fun _ => ?_⟩)
            · rw [pOf_none z5] at q7
              exact stop _ k τ3 q7 (n5 k (by omega)) q5 q6
            · obtain ⟨p, hp, ep⟩ := z5
              rw [ep, pOf_some p hp] at q7
              have q7 : (if cb C ps1 p = true then tdA C m a1 v f (k + 1) (PLa p :: ps1) else nI k) = X := q7
              rw [ep]
              refine r_can (C := C) q4 (lk2.Y q5) hp (fun τ4 hE => ?_)
              have f4 : frY τ τ4 := q5.tr (hE.fm 0).Y
              have k4 : KP τ4 r0 ps := ⟨by rw [hE.1 0 (by decide)]; exact q6.1, by rw [hE.1 0 (by decide)]; exact q6.2.1, fun j hj => by rw [hE.1 39 (by decide)]; exact q6.2.2 j hj⟩
              cases hc : cb C ps1 p with
              | false =>
                rw [if_neg (by rw [hc]; decide)] at q7
                rw [bI_f (by decide)]
                exact ⟨fun _ => H157 _ _ (stop _ k τ4 q7 (n5 k (by omega)) f4 k4), fun y => absurd rfl y⟩
              | true =>
                rw [if_pos hc] at q7
                rw [bI_t rfl]
                refine ⟨fun y => absurd y (by decide), fun _ => r_make (C := C) (RlR_eqP q4 hE) hp hc (fun τ5 w1 w2 w3 w4 => H161 _ _ _ (fun x18 e18 => ?_))⟩
                rw [e18, ← nI_succ]
                refine ih (k + 1) (PLa p :: ps1) τ5 (by omega) (by omega) (Or.inr ⟨y2, by omega⟩) w1 (f4.tr w2.Y) ⟨?_, ?_, fun j hj => ?_⟩ q7
                · rw [w2.1 0 40 (by omega) (by omega) (by omega) (by omega) (by omega)]; exact k4.1
                · rw [w2.1 0 41 (by omega) (by omega) (by omega) (by omega) (by omega)]; exact k4.2.1
                · rw [w4 39 (by decide)]; exact k4.2.2 j hj
      exact loop n 0 [] τ2 rfl (Nat.zero_le _) (Or.inl rfl) b1 b2 b4 hX
    rw [r8]
    refine c_tried (d := d + 3) (wo := none) hn hr5 hRC hok (fun c hc => by cases hc) h.2.2.2.2.1 (fun σ' a1' a2' => ?_)
    exact c_told (d := d) (C := C) (F := fun x σ' => EI (e + 8) idsR Y_X7_told [.ref 0, .int (nI t), .int a1, .int (nI n), .int a3] τ (fun y τ' => Q x σ' y τ')) hn rfl lk1 ht hn20 hm (by rw [t2]; exact t3) (fun k hk => rfl) H60 H83 fin n 0 [] σ' rfl (Nat.zero_le _) (Or.inl rfl) a1' a2' rfl
  · exact ref _ (fun P62 P103 P157 P161 P167 _ _ _ _ _ => ⟨fun y => absurd y z4, fun _ => hQ _ _ _ h⟩)
end TD
