/-! PURE: begin, ought, of, right, reform: the calls of both sides -/
/-- the roll put aside -/
def KP (τ : St) (r : Nat) (ps : List Nat) : Prop := gi τ 0 40 = nI ps.length ∧ gi τ 0 41 = nI r ∧ ∀ j, j < ps.length → gi τ 39 j = nI (ps.reverse.getD j 0)
section MO
variable {d e nc : Nat} {σ τ : St} {Q : Int32 → St → Int32 → St → Prop}
theorem InR.game {Rs : List Ru} {G : Gm} {ps : List Nat} (hi : InR Rs G ps σ τ) (h : 0 < Rs.length) : ∃ r0 R0, G = some (r0, R0, none) ∧ gi τ 0 24 = nI r0 := by
  obtain ⟨hu, hC, hT, hg, h25, h24⟩ := hi
  match G, hg, hT with
  | none, hg, _ => rw [show Rs = [] from hg] at h; exact absurd h (Nat.lt_irrefl 0)
  | some (r0, R0, wo), hg, hT =>
    obtain ⟨rfl, -⟩ := hg
    exact ⟨r0, R0, rfl, hT.1.1.1⟩
theorem r_open {F : St → Prop} {Rs : List Ru} {G : Gm} {ps : List Nat} {r r0 : Nat} {R R0 : Ru} (hi : InR Rs G ps σ τ) (hG : G = some (r0, R0, none)) (e24 : gi τ 0 24 = nI r0) (hr : Rs[r]? = some R)
    (h : ∀ τ2, RlR τ2 (some (r, R, none)) [] → frY τ τ2 → gi τ2 0 25 = -1 → KP τ2 r0 ps → F τ2) : EV (d + 2) idsR Y_X7_keepRoll [.ref 0] τ (fun s4 => EV (d + 2) idsR Y_X7_beginBy [.ref 0, .int (nI r)] s4 F) := by
  obtain ⟨hu, hC, hT, hg, h25, h24⟩ := hi
  have hl := hT.lg.len
  obtain ⟨-, ⟨hRR, -⟩, hok⟩ := hu.2.2.2 r R hr
  have hr5 : r < 5 := by
    have := (List.getElem?_eq_some_iff.mp hr).1
    have := hu.1
    omega
  have hlen : 0 < Rs.length := by have := (List.getElem?_eq_some_iff.mp hr).1; omega
  refine r_keepRoll (d := d + 1) hl hT.made (fun τ1 a1 a2 a3 a4 a5 => ?_)
  refine r_beginBy (d := d) (wo := none) hr5 (RuR_same hRR (fun x x1 x2 => funext fun k => a4 x k (by omega) (by omega))) hok (fun c hc => by cases hc) ?_ (by rw [a4 0 25 (by omega) (by omega)]; exact h25) (fun τ2 b1 b2 b3 b4 => ?_)
  · rw [a4 0 8 (by omega) (by omega), hu.2.2.1]
    exact nI_ne0 hlen (by have := hu.1; omega)
  · refine h τ2 b1 ⟨fun x k c1 c2 c3 c4 => by rw [b2 x k (by omega) (by omega), a4 x k (by omega) (by omega)], fun x => by rw [b3, a5]⟩ ?_ ⟨?_, ?_, fun j hj => ?_⟩
    · rw [b2 0 25 (by omega) (by omega), a4 0 25 (by omega) (by omega)]; exact h25
    · rw [b2 0 40 (by omega) (by omega)]; exact a1
    · rw [b2 0 41 (by omega) (by omega), a2]; exact e24
    · rw [b2 39 j (by omega) (by omega), a3 j hj]; exact hT.at27 hj
theorem r_close {F : St → Prop} {Rs : List Ru} {G : Gm} {ps : List Nat} {r0 : Nat} {R0 : Ru} {τ3 : St} (hi : InR Rs G ps σ τ) (hG : G = some (r0, R0, none)) (f : frY τ τ3) (hk : KP τ3 r0 ps)
    (h : ∀ τ4, frY τ τ4 → RlR τ4 G ps → gi τ4 0 25 = -1 → gi τ4 0 24 = nI r0 → F τ4) : EV (d + 6) idsR Y_X7_putBack [.ref 0] τ3 F := by
  obtain ⟨hu, hC, hT, hg, h25, h24⟩ := hi
  subst hG
  obtain ⟨-, hgr⟩ := hg
  obtain ⟨-, ⟨hRR, -⟩, hok⟩ := hu.2.2.2 r0 R0 hgr
  have hr5 := hT.1.2.1
  refine r_putBack hr5 (RuR_same hRR (fun x x1 x2 => funext fun k => f.1 x k (by omega) (by omega) (by omega) (by omega))) hok hT.1.2.2.2.2.2 ?_ hk.1 hk.2.1 hk.2.2 (fun τ4 a1 a2 a3 a4 => h τ4 (f.tr a2) a1 a3 a4)
  rw [f.1 0 8 (by omega) (by omega) (by omega) (by omega)]
  exact hT.2
theorem s_begin {a0 : Int32} (h : Inv nc σ τ) (hQ : ∀ x σ' τ', Inv nc σ' τ' → Q x σ' x τ') : BI (d + 5) (e + 3) nc Y_X6_begin Y_X7_begin [.int a0] σ τ Q := by
  have hn := h.nc
  obtain ⟨Rs, G, ps, hi⟩ := h.op
  obtain ⟨hu, hC, hT, hg, h25, h24⟩ := id hi
  have hB : Bo 108 = 200 := rfl
  refine fl_X6_begin (h100 hn) (c_rulesAt hn hu.1 hu.2.1 (fun z => ⟨fun _ => ?_, fun r2 y => (by cases y)⟩) (fun r hr er => ⟨fun y => (by cases y), fun r2 e2 => ?_⟩))
  · exact fl_X7_begin hR (r_isRules hu.1 hu.2.2.1 (fun _ => ⟨fun y => absurd rfl y, fun _ => hQ _ _ _ h⟩) (fun y => absurd y z))
  · cases e2
    have hr5 : r < 5 := by have := hu.1; omega
    obtain ⟨R, hR1⟩ : ∃ R, Rs[r]? = some R := ⟨_, List.getElem?_eq_getElem hr⟩
    obtain ⟨hRC, ⟨hRR, -⟩, hok⟩ := hu.2.2.2 r R hR1
    refine ⟨hRu hn hr5, ?_⟩
    rw [r7, er]
    refine kC_restart (wo := none) hn b108 hr5 hRC hok (fun c hc => by cases hc) hC.zero (fun σ' a1 a2 a3 a4 a5 => ?_)
    refine fl_X7_begin hR (r_isRules hu.1 hu.2.2.1 (fun y => absurd ⟨r, hr, rfl⟩ y) (fun _ => ⟨fun _ => ?_, fun y => absurd y (by decide)⟩))
    refine r_beginBy (wo := none) hr5 hRR hok (fun c hc => by cases hc) (by rw [hu.2.2.1]; exact nI_ne0 (by omega) (by have := hu.1; omega)) h25 (fun τ' b1 b2 b3 b4 => ?_)
    refine hQ _ _ _ (h.walk (fun x k c1 c2 c3 c4 c5 c6 c7 => by rw [a3 x (by omega) (by omega) (by omega)]) a5 (fun x k c1 c2 c3 c4 => b2 x k (by omega) (by omega)) b3 hu ⟨some (r, R, none), [], ⟨a1, a2⟩, b1, ⟨rfl, hR1⟩, ?_, fun z => by cases z⟩)
    rw [b2 0 25 (by omega) (by omega)]; exact h25
theorem s_ought {a0 : Int32} (h : Inv nc σ τ) (hQ : ∀ x σ' τ', Inv nc σ' τ' → Q x σ' x τ') : BI (d + 36) (e + 4) nc Y_X6_ought Y_X7_ought [.int a0] σ τ Q := by
  have hn := h.nc
  obtain ⟨CS, SS, E, hA1, hA2⟩ := h.aa
  obtain ⟨Rs, G, ps, hi⟩ := h.op
  refine fl_X6_ought (h100 hn) (c_caseAt h (fun z => ⟨fun _ => ?_, fun r2 y => (by cases y)⟩) (fun k hk ek => ⟨fun y => (by cases y), fun r2 e2 => ?_⟩))
  · exact fl_X7_ought hR (r_isCase hn h.r0 (fun _ => ⟨fun y => absurd rfl y, fun _ => hQ _ _ _ h⟩) (fun y => absurd y z))
  · cases e2
    obtain ⟨c1, c2, c3, c4⟩ := hA1.2.1 k hk
    obtain ⟨d1, -, d3⟩ := hA2.2.1 k hk
    refine ⟨hCase hn hk, c_ought hn hk c4 c2 c3 hA1.2.2 (kC_asNumber ?_)⟩
    rw [ek]
    refine fl_X7_ought hR (r_isCase hn h.r0 (fun y => absurd ⟨k, hk, rfl⟩ y) (fun _ => ⟨fun _ => r_isOught (by omega) d3 d1 c3 hA2.2.2 (fun τ' e7 => ?_), fun y => absurd y (by decide)⟩))
    have hI := h.anew hi (frT.rf σ) e7.Y (RlR_Y hi.2.2.1 e7) (by rw [e7.1 0 (by decide)]; exact hi.2.2.2.2.1) (by rw [e7.1 0 (by decide)])
    cases hb : ouB (CS k) (SS k) E with
    | false => exact ⟨fun _ => hQ _ _ _ hI, fun y => absurd rfl y⟩
    | true => exact ⟨fun y => absurd y n1_0, fun _ => hQ _ _ _ hI⟩
theorem s_of {a0 a1 a2 : Int32} (h : Inv nc σ τ) (hQ : ∀ x σ' τ', Inv nc σ' τ' → Q x σ' x τ') : BI (d + 35) (e + 4) nc Y_X6_of Y_X7_of [.int a0, .int a1, .int a2] σ τ Q := by
  have hn := h.nc
  obtain ⟨CS, SS, E, hA1, hA2⟩ := h.aa
  obtain ⟨Rs, G, ps, hi⟩ := h.op
  -- the reference, where it is refused
  have ref : ¬ (isCs nc a0 ∧ Pt a1 ∧ (0 ≤ a2 ∧ a2 ≤ 4)) → EI (e + 4) idsR Y_X7_of [.ref 0, .int a0, .int a1, .int a2] τ (fun y τ' => Q (-1) σ y τ') := by
    intro z
    refine fl_X7_of hR (fun P46 H46 => r_isCase hn h.r0 (fun _ => ⟨fun _ => hQ _ _ _ h, fun y => absurd rfl y⟩) (fun z1 => ⟨fun y => absurd y (by decide), fun _ => kR_isPoint ⟨fun _ => hQ _ _ _ h, fun z2 => kR_in ⟨fun z3 => ?_, fun _ => hQ _ _ _ h⟩⟩⟩))
    exact absurd ⟨z1, bI_n.mp z2, bI_n.mp z3⟩ z
  refine fl_X6_of (h100 hn) (c_caseAt h (fun z => ⟨fun _ => ref (fun y => z y.1), fun r2 y => (by cases y)⟩) (fun k hk ek => ⟨fun y => (by cases y), fun r2 e2 => ?_⟩))
  cases e2
  obtain ⟨c1, c2, c3, c4⟩ := hA1.2.1 k hk
  obtain ⟨d1, -, d3⟩ := hA2.2.1 k hk
  refine ⟨hCase hn hk, kC_isPoint ⟨fun z => ref (fun y => bI_0.mp z y.2.1), fun z => ⟨fun z1 => ref (fun y => Int32.not_le.mpr z1 y.2.2.1), fun z1 => ⟨fun z2 => ?_, fun z2 => ref (fun y => z2 y.2.2.2)⟩⟩⟩⟩
  have hp := bI_n.mp z
  obtain ⟨p, p5, rfl⟩ := pt_of hp
  have h02 : 0 ≤ a2 ∧ a2 ≤ 4 := ⟨nlt.mp z1, z2⟩
  rw [ek, r_0]
  -- .. where it isn't
  have yes : ∀ F : Int32 → St → Prop, (∀ P46 : Int32 → St → Prop, (∀ (v4 : Int32) (σ : St), (((a2 = 0 → vp_in v4 24 ∧ F (gi σ (rf 0 4) (Int32.toNatClampNeg v4)) σ) ∧ (a2 = 1 → vp_in v4 24 ∧ F (gi σ (rf 0 5) (Int32.toNatClampNeg v4)) σ) ∧ (a2 = 2 → vp_in v4 24 ∧ F (gi σ (rf 0 6) (Int32.toNatClampNeg v4)) σ) ∧ (a2 = 3 → vp_in (nI k) 4 ∧ F (((gi σ (rf 0 3) (Int32.toNatClampNeg (nI k))) >>> (nI p &&& 31)) &&& 1) σ) ∧ (¬ a2 = 0 → ¬ a2 = 1 → ¬ a2 = 2 → ¬ a2 = 3 → vp_in ((6 * ((1 : Int32) <<< (nI p &&& 31))) + nI p) 384 ∧ (((gi σ (rf 0 7) (Int32.toNatClampNeg ((6 * ((1 : Int32) <<< (nI p &&& 31))) + nI p))) = 0 → F 0 σ) ∧ (¬ (gi σ (rf 0 7) (Int32.toNatClampNeg ((6 * ((1 : Int32) <<< (nI p &&& 31))) + nI p))) = 0 → F 1 σ))))) → P46 v4 σ) → (¬ a2 = 4 → P46 (nI (6 * k + p)) τ) ∧ (a2 = 4 → EV (e + 3) idsR Y_X7_findUp [.ref 0, .int (nI k)] τ (fun s19 => P46 (nI (6 * k + p)) s19))) → EI (e + 4) idsR Y_X7_of [.ref 0, .int (nI k), .int (nI p), .int a2] τ F := by
    intro F hF
    refine fl_X7_of hR (fun P46 H46 => r_isCase hn h.r0 (fun y => absurd ⟨k, hk, rfl⟩ y) (fun _ => ⟨fun y => absurd y (by decide), fun _ => kR_isPoint ⟨fun y => absurd hp (bI_0.mp y), fun _ => kR_in ⟨fun _ x17 e17 => ?_, fun y => absurd h02 (bI_0.mp y)⟩⟩⟩))
    rw [k6] at e17
    subst e17
    exact hF P46 H46
  have w5 : a2 = 0 ∨ a2 = 1 ∨ a2 = 2 ∨ a2 = 3 ∨ a2 = 4 := by
    obtain ⟨j, hj, rfl⟩ := rng (n := 4) (by decide) h02.1 h02.2
    rcases (by omega : j = 0 ∨ j = 1 ∨ j = 2 ∨ j = 3 ∨ j = 4) with rfl | rfl | rfl | rfl | rfl
    · exact Or.inl rfl
    · exact Or.inr (Or.inl rfl)
    · exact Or.inr (Or.inr (Or.inl rfl))
    · exact Or.inr (Or.inr (Or.inr (Or.inl rfl)))
    · exact Or.inr (Or.inr (Or.inr (Or.inr rfl)))
  have hin24 : vp_in (nI (6 * k + p)) 24 := vp_in_nI (by omega) (by decide)
  have surely : ∀ w : Nat, w < 3 → a2 = nI w → gi τ (4 + w) (6 * k + p) = nI (CS k w p) ∧ gi σ (rf (rf (400 + 10 * k) 1) (Int32.toNatClampNeg a2)) (Int32.toNatClampNeg (nI p)) = nI (CS k w p) := by
    intro w hw ew
    refine ⟨(d3 w p hw p5).1, ?_⟩
    rw [ew, cl_ix w (by omega), cl_ix p (by omega), rf_cs (by omega), rf_cs2 (by omega)]
    exact (c4 w p hw p5).1
  rcases w5 with rfl | rfl | rfl | rfl | rfl
  · obtain ⟨s1, s2⟩ := surely 0 (by decide) rfl
    refine ⟨fun y => absurd y (by decide), fun _ => ⟨(show vp_in (nI 0) 3 from vp_in_nI (by decide) (by decide)), vp_in_nI p5 (by decide), yes _ (fun P46 H46 => ⟨fun _ => H46 _ _ ⟨fun _ => ⟨hin24, ?_⟩, fun y => absurd y (by decide), fun y => absurd y (by decide), fun y => absurd y (by decide), fun y => absurd rfl y⟩, fun y => absurd y (by decide)⟩)⟩⟩
    rw [s2, cl_ix _ (by omega), rf0, s1]
    exact hQ _ _ _ h
  · obtain ⟨s1, s2⟩ := surely 1 (by decide) rfl
    refine ⟨fun y => absurd y (by decide), fun _ => ⟨(show vp_in (nI 1) 3 from vp_in_nI (by decide) (by decide)), vp_in_nI p5 (by decide), yes _ (fun P46 H46 => ⟨fun _ => H46 _ _ ⟨fun y => absurd y (by decide), fun _ => ⟨hin24, ?_⟩, fun y => absurd y (by decide), fun y => absurd y (by decide), fun _ y => absurd rfl y⟩, fun y => absurd y (by decide)⟩)⟩⟩
    rw [s2, cl_ix _ (by omega), rf0, s1]
    exact hQ _ _ _ h
  · obtain ⟨s1, s2⟩ := surely 2 (by decide) rfl
    refine ⟨fun y => absurd y (by decide), fun _ => ⟨(show vp_in (nI 2) 3 from vp_in_nI (by decide) (by decide)), vp_in_nI p5 (by decide), yes _ (fun P46 H46 => ⟨fun _ => H46 _ _ ⟨fun y => absurd y (by decide), fun y => absurd y (by decide), fun _ => ⟨hin24, ?_⟩, fun y => absurd y (by decide), fun _ _ y => absurd rfl y⟩, fun y => absurd y (by decide)⟩)⟩⟩
    rw [s2, cl_ix _ (by omega), rf0, s1]
    exact hQ _ _ _ h
  · refine ⟨fun _ => ⟨fun y => absurd rfl y, fun _ => yes _ (fun P46 H46 => ⟨fun _ => H46 _ _ ⟨fun y => absurd y (by decide), fun y => absurd y (by decide), fun y => absurd y (by decide), fun _ => ⟨vp_in_nI (by omega) (by decide), ?_⟩, fun _ _ _ y => absurd rfl y⟩, fun y => absurd y (by decide)⟩)⟩, fun y => absurd (by decide) y⟩
    rw [cl_ix _ (by omega), rf0, d1, c2]
    exact hQ _ _ _ h
  · refine ⟨fun _ => ⟨fun _ => c_standsUp (d := d) hn hk p5 c2 c3 hA1.2.2 (kC_asNumber ?_), fun y => absurd y (by decide)⟩, fun y => absurd (by decide) y⟩
    refine yes _ (fun P46 H46 => ⟨fun y => absurd rfl y, fun _ => r_findUp (d := e + 1) (by omega) d1 c3 hA2.2.2 (fun τ' e7 hU => H46 _ _ ⟨fun y => absurd y (by decide), fun y => absurd y (by decide), fun y => absurd y (by decide), fun y => absurd y (by decide), fun _ _ _ _ => ?_⟩)⟩)
    have e1 : ((1 : Int32) <<< (nI p &&& 31)) = nI (2 ^ p) ∧ 2 ^ p < 32 ∧ 0 < 2 ^ p := (by decide +kernel : ∀ p, p < 5 → ((1 : Int32) <<< (nI p &&& 31)) = nI (2 ^ p) ∧ 2 ^ p < 32 ∧ 0 < 2 ^ p) p p5
    have hI := h.anew hi (frT.rf σ) e7.Y (RlR_Y hi.2.2.1 e7) (by rw [e7.1 0 (by decide)]; exact hi.2.2.2.2.1) (by rw [e7.1 0 (by decide)])
    rw [e1.1, k6, cl_ix _ (by omega), rf0, hU _ p e1.2.2 e1.2.1 p5, uT_one p5]
    refine ⟨vp_in_nI (by omega) (by decide), ?_⟩
    cases hb : sbW (SS k) E p (2 ^ p) with
    | false => exact ⟨fun _ => hQ _ _ _ hI, fun y => absurd rfl y⟩
    | true => exact ⟨fun y => absurd y n1_0, fun _ => hQ _ _ _ hI⟩
theorem s_right {a0 : Int32} (h : Inv nc σ τ) (hQ : ∀ x σ' τ', Inv nc σ' τ' → Q x σ' x τ') : BI (d + 37) (e + 9) nc Y_X6_right Y_X7_right [.int a0] σ τ Q := by
  have hn := h.nc
  obtain ⟨CS, SS, E, hA1, hA2⟩ := h.aa
  obtain ⟨Rs, G, ps, hi⟩ := h.op
  obtain ⟨hu, hC, hT, hg, h25, h24⟩ := id hi
  refine fl_X6_right (h100 hn) (c_rulesAt hn hu.1 hu.2.1 (fun z => ⟨fun _ => ?_, fun r2 y => (by cases y)⟩) (fun r hr er => ⟨fun y => (by cases y), fun r2 e2 => ?_⟩))
  · exact fl_X7_right hR (r_isRules hu.1 hu.2.2.1 (fun _ => ⟨fun y => absurd rfl y, fun _ => hQ _ _ _ h⟩) (fun y => absurd y z))
  · cases e2
    have hr5 : r < 5 := by have := hu.1; omega
    obtain ⟨R, hR1⟩ : ∃ R, Rs[r]? = some R := ⟨_, List.getElem?_eq_getElem hr⟩
    obtain ⟨hRC, ⟨hRR, -⟩, hok⟩ := hu.2.2.2 r R hR1
    obtain ⟨lk1, lk2⟩ := h.lk (some (r, R, none))
    obtain ⟨r0, R0, hG0, e24⟩ := hi.game (by omega)
    refine ⟨hRu hn hr5, ?_⟩
    rw [er]
    refine c_rightCases (d := d) (wo := none) hn hr5 hRC hok (fun c hc => by cases hc) h.2.2.2.2.1 hA1 lk1 (fun σ' f1 => ?_)
    refine fl_X7_right hR (r_isRules hu.1 hu.2.2.1 (fun y => absurd ⟨r, hr, rfl⟩ y) (fun _ => ⟨fun _ => ?_, fun y => absurd y (by decide)⟩))
    refine r_open (d := e + 6) hi hG0 e24 hR1 (fun τ2 b1 b2 b3 b4 => ?_)
    refine r_rightNow (d := e) hn b1 (h.all.Y b2) (hA2.Y b2) (lk2.Y b2) (fun τ3 c1 c2 c3 c4 => ?_)
    refine r_close (d := e + 2) hi hG0 (b2.tr c2) ⟨by rw [c3 40 (by decide)]; exact b4.1, by rw [c3 41 (by decide)]; exact b4.2.1, fun j hj => by rw [c4]; exact b4.2.2 j hj⟩ (fun τ4 g1 g2 g3 g4 => ?_)
    exact hQ _ _ _ (h.anew hi f1 g1 g2 g3 (by rw [g4, e24]))
/-- the most that are right, and without which clause, n of them tried -/
def rfm (ok : Option Nat → Nat) : Nat → Nat × Int32
  | 0 => (pc (ok none), -5)
  | n + 1 => if (rfm ok n).1 < pc (ok (some n)) then (pc (ok (some n)), nI n) else rfm ok n
theorem pc_le : ∀ n, n < 32 → pc n ≤ 5 := by decide +kernel
theorem rfm_le {ok : Option Nat → Nat} (h : ∀ wo, ok wo < 32) : ∀ n, (rfm ok n).1 ≤ 5
  | 0 => pc_le _ (h _)
  | n + 1 => by
    unfold rfm
    split
    · exact pc_le _ (h _)
    · exact rfm_le h n
theorem s_reform {a0 : Int32} (h : Inv nc σ τ) (hQ : ∀ x σ' τ', Inv nc σ' τ' → Q x σ' x τ') : BI (d + 37) (e + 9) nc Y_X6_reform Y_X7_reform [.int a0] σ τ Q := by
  have hn := h.nc
  obtain ⟨CS, SS, E, hA1, hA2⟩ := h.aa
  obtain ⟨Rs, G, ps, hi⟩ := h.op
  obtain ⟨hu, hC, hT, hg, h25, h24⟩ := id hi
  refine fl_X6_reform (h100 hn) (fun P29 P63 H29 H63 => c_rulesAt hn hu.1 hu.2.1 (fun z => ⟨fun _ => ?_, fun r2 y => (by cases y)⟩) (fun r hr er => ⟨fun y => (by cases y), fun r2 e2 => ?_⟩))
  · exact fl_X7_reform hR (fun P34 P81 _ _ => r_isRules hu.1 hu.2.2.1 (fun _ => ⟨fun y => absurd rfl y, fun _ => hQ _ _ _ h⟩) (fun y => absurd y z))
  · cases e2
    have hr5 : r < 5 := by have := hu.1; omega
    obtain ⟨R, hR1⟩ : ∃ R, Rs[r]? = some R := ⟨_, List.getElem?_eq_getElem hr⟩
    obtain ⟨hRC, ⟨hRR, -⟩, hok⟩ := hu.2.2.2 r R hR1
    obtain ⟨r0, R0, hG0, e24⟩ := hi.game (by omega)
    have hR6 := hRC.1
    have lk := fun wo => h.lk (some (r, R, wo))
    let ok : Option Nat → Nat := fun wo => rsN (okk (CxI (some (r, R, wo)) σ) CS SS E) nc
    have okE : ∀ wo, rsN (okk (some (r, R, wo), gi σ 101, gi σ 102) CS SS E) nc = ok wo := fun _ => rfl
    have ok32 : ∀ wo, ok wo < 32 := fun wo => rsN_lt _ nc (by omega)
    refine ⟨hRu hn hr5, ?_⟩
    -- the reference's end, at the same answer
    have fin : ∀ σ', frT σ σ' → EI (e + 9) idsR Y_X7_reform [.ref 0, .int a0] τ (fun y τ' => Q ((rfm ok R.length).2) σ' y τ') := by
      intro σ' f1
      rw [er]
      refine fl_X7_reform hR (fun P34 P81 H34 H81 => r_isRules hu.1 hu.2.2.1 (fun y => absurd ⟨r, hr, rfl⟩ y) (fun _ => ⟨fun _ => ?_, fun y => absurd y (by decide)⟩))
      rw [cl_ix r (by omega)] at H34
      refine r_open (d := e + 6) hi hG0 e24 hR1 (fun τ2 b1 b2 b3 b4 => ?_)
      refine r_rightNow (d := e) hn b1 (h.all.Y b2) (hA2.Y b2) ((lk none).2.Y b2) (fun τ3 c1 c2 c3 c4 => ?_)
      rw [okE]
      refine kR_ones (ok32 none) ?_
      have loop : ∀ m k wo τ4, R.length - k = m → k ≤ R.length → RlR τ4 (some (r, R, wo)) [] → frY τ τ4 → KP τ4 r0 ps → P34 (nI (rfm ok k).1) (rfm ok k).2 (nI k) τ4 := by
        intro m
        induction m with
        | zero =>
          intro k wo τ4 q1 q2 q3 q4 q5
          have hk : k = R.length := by omega
          refine H34 _ _ _ _ ⟨vp_in_nI hr5 (by decide), ?_⟩
          rw [rf0, q3.1.2.2.1.2.1, hk]
          refine ⟨fun _ => r_close (d := e + 2) hi hG0 q4 q5 (fun τ5 g1 g2 g3 g4 => ?_), fun y => absurd (nI_le (Nat.le_refl _) (by omega)) y⟩
          exact hQ _ _ _ (h.anew hi f1 g1 g2 g3 (by rw [g4, e24]))
        | succ m ih =>
          intro k wo τ4 q1 q2 q3 q4 q5
          have hk : k < R.length := by omega
          refine H34 _ _ _ _ ⟨vp_in_nI hr5 (by decide), ?_⟩
          rw [rf0, q3.1.2.2.1.2.1]
          refine ⟨fun y => absurd ((nI_leI (by omega) (by omega)).mp y) (by omega), fun _ s4 es4 => ?_⟩
          rw [k6] at es4
          have o4 : ∀ x j, ¬ (x = 0 ∧ j = 25) → gi s4 x j = gi τ4 x j := fun x j hx => by rw [es4, gi_si, if_neg hx]
          have f4 : frY τ s4 := by rw [es4]; exact q4.si _ (by omega)
          have hT4 : RlR s4 (some (r, R, some k)) [] := by
            obtain ⟨⟨⟨t1, t2, t3, t4, t5⟩, t6, t7, t8, t9, t10⟩, t11⟩ := q3
            refine ⟨⟨⟨by rw [o4 0 24 (by omega)]; exact t1, by rw [es4, gi_same]; rfl, by rw [o4 0 26 (by omega)]; exact t3, fun j hj => ?_, fun j m hm => by cases hm⟩, t6, RuR_same t7 (fun x x1 x2 => funext fun j => o4 x j (by omega)), t8, fun c hc => by cases hc; omega, trivial⟩, by rw [o4 0 8 (by omega)]; exact t11⟩
            have hj0 : j = 0 := Nat.le_zero.mp hj
            subst hj0
            have t40 : StR τ4 0 sg0 := t4 0 (Nat.le_refl _)
            exact t40.same (fun x x1 x2 => o4 x 0 (by omega))
          have hK4 : KP s4 r0 ps := ⟨by rw [o4 0 40 (by omega)]; exact q5.1, by rw [o4 0 41 (by omega)]; exact q5.2.1, fun j hj => by rw [o4 39 j (by omega)]; exact q5.2.2 j hj⟩
          refine r_rightNow (d := e) hn hT4 (h.all.Y f4) (hA2.Y f4) ((lk (some k)).2.Y f4) (fun τ5 c1 c2 c3 c4 => ?_)
          rw [okE]
          refine kR_ones (ok32 (some k)) ?_
          have hK5 : KP τ5 r0 ps := ⟨by rw [c3 40 (by decide)]; exact hK4.1, by rw [c3 41 (by decide)]; exact hK4.2.1, fun j hj => by rw [c4]; exact hK4.2.2 j hj⟩
          have l1 := rfm_le ok32 k
          have l2 := pc_le _ (ok32 (some k))
          have on : ∀ a b, (a, b) = rfm ok (k + 1) → P81 (nI a) b (nI k) τ5 := by
            intro a b hab
            refine H81 _ _ _ _ (fun x10 e10 => ?_)
            have := ih (k + 1) (some k) τ5 (by omega) (by omega) c1 (f4.tr c2) hK5
            rw [← hab] at this
            rw [e10, ← nI_succ]
            exact this
          refine ⟨fun y => on _ _ ?_, fun y => on _ _ ?_⟩
          · rw [rfm, if_pos ((nI_ltI (by omega) (by omega)).mp y)]
          · rw [rfm, if_neg (fun q => y (nI_lt q (by omega)))]
      refine loop _ 0 none τ3 rfl (Nat.zero_le _) c1 (b2.tr c2) ⟨by rw [c3 40 (by decide)]; exact b4.1, by rw [c3 41 (by decide)]; exact b4.2.1, fun j hj => by rw [c4]; exact b4.2.2 j hj⟩
    have loop : ∀ m k σ1, R.length - k = m → k ≤ R.length → frT σ σ1 → P29 (140 + r) (nI (rfm ok k).1) (rfm ok k).2 (nI k) σ1 := by
      intro m
      induction m with
      | zero =>
        intro k σ1 q1 q2 q3
        have hk : k = R.length := by omega
        refine H29 _ _ _ _ _ (fun _ => ?_)
        rw [(hRC.T hr5 q3).2.1, hk]
        exact ⟨fun _ => fin σ1 q3, fun y => absurd (nI_le (Nat.le_refl _) (by omega)) y⟩
      | succ m ih =>
        intro k σ1 q1 q2 q3
        have hk : k < R.length := by omega
        refine H29 _ _ _ _ _ (fun hI => ?_)
        rw [(hRC.T hr5 q3).2.1]
        refine ⟨fun y => absurd ((nI_leI (by omega) (by omega)).mp y) (by omega), fun _ => ?_⟩
        refine c_rightCases (d := d) (wo := some k) hn hr5 (hRC.T hr5 q3) hok (fun c hc => by cases hc; omega) (ITr.T h.2.2.2.2.1 q3) (hA1.T q3) ((lk (some k)).1.T q3) (fun σ2 f2 => ?_)
        rw [okE]
        refine kJ_bits (ok32 (some k)) ?_
        have l1 := rfm_le ok32 k
        have l2 := pc_le _ (ok32 (some k))
        have on : ∀ a b, (a, b) = rfm ok (k + 1) → P63 (140 + r) (nI a) b (nI k) σ2 := by
          intro a b hab
          refine H63 _ _ _ _ _ (fun _ x7 e7 => ?_)
          have := ih (k + 1) σ2 (by omega) (by omega) (q3.tr f2)
          rw [← hab] at this
          rw [e7, ← nI_succ]
          exact this
        refine ⟨fun y => on _ _ ?_, fun y => on _ _ ?_⟩
        · rw [rfm, if_neg (fun q => by have := (nI_leI (by omega) (by omega)).mp y; omega)]
        · rw [rfm, if_pos (by
            have : ¬ pc (ok (some k)) ≤ (rfm ok k).1 := fun q => y (nI_le q (by omega))
            omega)]
    refine c_rightCases (d := d) (wo := none) hn hr5 hRC hok (fun c hc => by cases hc) h.2.2.2.2.1 hA1 (lk none).1 (fun σ' f1 => ?_)
    rw [okE]
    exact kJ_bits (ok32 none) (loop _ 0 σ' rfl (Nat.zero_le _) f1)
end MO
