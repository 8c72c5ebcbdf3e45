/-! PURE: rolls of both sides under one name. G: none (no rules yet), or the rules' number, the rules, the clause left out; C: G and the links -/
abbrev Gm : Type := Option (Nat × Ru × Option Nat)
abbrev Cx : Type := Gm × (Nat → Int32) × (Nat → Int32)
def sgG (G : Gm) (ps : List Nat) : SF := match G with | none => sg0 | some (_, R, wo) => stg R wo ps
def canP_dec (le la : Nat → Int32) (R : Ru) (wo : Option Nat) (ps : List Nat) (m : Nat) : Decidable (canP le la R wo ps m) := by unfold canP opn clM; infer_instance
def cb (C : Cx) (ps : List Nat) (i : Nat) : Bool := match C.1 with | none => false | some (_, R, wo) => @decide (canP C.2.1 C.2.2 R wo ps (PLa i)) (canP_dec _ _ _ _ _ _)
def lkC (σ : St) (C : Cx) : Prop := ∀ p, p < 5 → gi σ 101 p = C.2.1 p ∧ gi σ 102 p = C.2.2 p ∧ P32 (C.2.1 p) ∧ P32 (C.2.2 p)
def lkR (τ : St) (C : Cx) : Prop := ∀ p, p < 5 → gi τ 1 p = C.2.1 p ∧ gi τ 2 p = C.2.2 p ∧ P32 (C.2.1 p) ∧ P32 (C.2.2 p)
def lgG (G : Gm) (ps : List Nat) : Prop := match G with | none => ps = [] | some (r, R, wo) => r < 5 ∧ okR R ∧ woOk wo ∧ lgl R wo ps
def RlC (σ : St) (b : Nat) (G : Gm) (ps : List Nat) : Prop := match G with
  | none => ps = [] ∧ dc (gi σ b 5) = none ∧ gi σ b 10 = 0 ∧ StC σ (Bo b + 10) sg0
  | some (r, R, wo) => RoC σ b r R wo ps ∧ RoG σ r R wo ps
def RlR (τ : St) (G : Gm) (ps : List Nat) : Prop := match G with
  | none => ps = [] ∧ gi τ 0 8 = 0 ∧ gi τ 0 26 = 0 ∧ StR τ 0 sg0
  | some (r, R, wo) => (RoR τ r R wo ps ∧ RgR τ r R wo ps) ∧ ¬ gi τ 0 8 = 0
theorem RlC.lg {σ : St} {b : Nat} {G : Gm} {ps : List Nat} (h : RlC σ b G ps) : lgG G ps := by
  match G, h with
  | none, h => exact h.1
  | some (r, R, wo), h => exact ⟨h.2.1, h.2.2.2.1, h.2.2.2.2.1, h.2.2.2.2.2⟩
theorem RlR.lg {τ : St} {G : Gm} {ps : List Nat} (h : RlR τ G ps) : lgG G ps := by
  match G, h with
  | none, h => exact h.1
  | some (r, R, wo), h => exact ⟨h.1.2.1, h.1.2.2.2.1, h.1.2.2.2.2.1, h.1.2.2.2.2.2⟩
theorem lgG.len {G : Gm} {ps : List Nat} (h : lgG G ps) : ps.length ≤ 5 := by
  match G, h with
  | none, h => rw [show ps = [] from h]; exact Nat.zero_le _
  | some (r, R, wo), h => exact lgl_len h.2.1 h.2.2.2
theorem lgG.gs {G : Gm} {ps : List Nat} (h : lgG G ps) : gs ps.length (sgG G ps) := by
  match G, h with
  | none, h => rw [show ps = [] from h]; exact gs0
  | some (r, R, wo), h => exact lgl_gs h.2.2.2
theorem RlC.made {σ : St} {b : Nat} {G : Gm} {ps : List Nat} (h : RlC σ b G ps) : gi σ b 10 = nI ps.length := by
  match G, h with
  | none, h => rw [h.1]; exact h.2.2.1
  | some (r, R, wo), h => exact h.1.1
theorem RlR.made {τ : St} {G : Gm} {ps : List Nat} (h : RlR τ G ps) : gi τ 0 26 = nI ps.length := by
  match G, h with
  | none, h => rw [h.1]; exact h.2.2.1
  | some (r, R, wo), h => exact h.1.1.2.2.1
theorem RlC.top {σ : St} {b : Nat} {G : Gm} {ps : List Nat} (h : RlC σ b G ps) : StC σ (Bo b + 10 + ps.length) (sgG G ps) := by
  match G, h with
  | none, h =>
    obtain ⟨rfl, -, -, h4⟩ := h
    rw [List.length_nil, Nat.add_zero]
    exact h4
  | some (r, R, wo), h => exact h.1.top
theorem RlR.top {τ : St} {G : Gm} {ps : List Nat} (h : RlR τ G ps) : StR τ ps.length (sgG G ps) := by
  match G, h with
  | none, h =>
    obtain ⟨rfl, -, -, h4⟩ := h
    exact h4
  | some (r, R, wo), h => exact h.1.1.top
theorem cb_opn {G : Gm} {le la : Nat → Int32} {ps : List Nat} {i : Nat} (h : cb (G, le, la) ps i = true) : ∃ r R wo, G = some (r, R, wo) ∧ canP le la R wo ps (PLa i) := by
  match G, h with
  | none, h => cases h
  | some (r, R, wo), h => exact ⟨r, R, wo, rfl, @of_decide_eq_true _ (canP_dec _ _ _ _ _ _) h⟩
theorem cb_len {C : Cx} {ps : List Nat} {i : Nat} (hl : lgG C.1 ps) (h : cb C ps i = true) : ps.length < 5 := by
  obtain ⟨G, le, la⟩ := C
  obtain ⟨r, R, wo, rfl, hc⟩ := cb_opn h
  exact opn_len hl.2.1 hc.1 hl.len
theorem PLa_in : ∀ i, i < 14 → PLa i ∈ PLn := by decide
theorem lgG.cons {C : Cx} {ps : List Nat} {i : Nat} (hl : lgG C.1 ps) (hi : i < 14) (h : cb C ps i = true) : lgG C.1 (PLa i :: ps) := by
  obtain ⟨G, le, la⟩ := C
  obtain ⟨r, R, wo, rfl, hc⟩ := cb_opn h
  exact ⟨hl.1, hl.2.1, hl.2.2.1, lgl_cons hl.2.2.2 hc.1 (PLa_in i hi)⟩
theorem canP_congr {le la le' la' : Nat → Int32} {R : Ru} {wo : Option Nat} {ps : List Nat} {m : Nat} (hl : lgl R wo ps) (h : ∀ p, p < 5 → le' p = le p ∧ la' p = la p) : canP le' la' R wo ps m ↔ canP le la R wo ps m := by
  obtain ⟨⟨p, sd, hp, hsd, e3, e6, hpb⟩, -⟩ := lgl_gs hl
  unfold canP
  rw [e3, cl_ix p (by omega), (h p hp).1, (h p hp).2]
theorem open_zero {C : Cx} {ps : List Nat} {N : Nat} (hN : N < 16384) (h : ∀ i, i < 14 → N.testBit i = cb C ps i) : nI N = 0 ↔ ∀ i, i < 14 → cb C ps i = false := by
  rw [show (0 : Int32) = nI 0 from rfl, nI_eq (by omega) (by decide)]
  constructor
  · rintro rfl i hi
    rw [← h i hi, Nat.zero_testBit]
  · intro hz
    apply Nat.eq_of_testBit_eq
    intro i
    rw [Nat.zero_testBit]
    rcases Nat.lt_or_ge i 14 with q | q
    · rw [h i q, hz i q]
    · exact Nat.testBit_lt_two_pow (Nat.lt_of_lt_of_le hN (Nat.pow_le_pow_right (n := 2) (by decide) q))
/-! frames -/
def exc (b n x k : Nat) : Prop := x = b ∧ (k = 9 ∨ k = 10) ∨ x = Bo b + 3 ∨ x = Bo b + 4 ∨ (Bo b + 10 + n < x ∧ x < Bo b + 20) ∨ (Bo b + 20 + n < x ∧ x < Bo b + 30) ∨ (x = Bo b + 10 + n ∧ k = 10)
/-- what a walk from n PLEAS on leaves -/
def fmN (b n : Nat) (σ σ' : St) : Prop := (∀ x k, ¬ exc b n x k → gi σ' x k = gi σ x k) ∧ ∀ x, gl σ' x = gl σ x
theorem fmN.rf (b n : Nat) (σ : St) : fmN b n σ σ := ⟨fun _ _ _ => rfl, fun _ => rfl⟩
theorem fmN.tr {b n : Nat} {σ σ' σ2 : St} (h : fmN b n σ σ') (h2 : fmN b n σ' σ2) : fmN b n σ σ2 := ⟨fun x k hx => (h2.1 x k hx).trans (h.1 x k hx), fun x => (h2.2 x).trans (h.2 x)⟩
theorem exc.up {b n x k : Nat} (hn : n ≤ 5) (h : exc b (n + 1) x k) : exc b n x k := by unfold exc at *; omega
theorem fmN.up {b n : Nat} {σ σ' : St} (hn : n ≤ 5) (h : fmN b (n + 1) σ σ') : fmN b n σ σ' := ⟨fun x k hx => h.1 x k (fun z => hx (z.up hn)), h.2⟩
theorem fmN.si {b n : Nat} {σ σ' : St} (h : fmN b n σ σ') {x k : Nat} (v : Int32) (hx : exc b n x k) : fmN b n σ (si σ' x k v) := ⟨fun y j hy => by rw [gi_si, if_neg (fun z => hy (by rw [z.1, z.2]; exact hx))]; exact h.1 y j hy, h.2⟩
theorem fmN.row {b n : Nat} {σ σ' : St} (h : fmN b n σ σ') {x : Nat} (hx : ∀ k, ¬ exc b n x k) : gi σ' x = gi σ x := funext fun k => h.1 x k (hx k)
theorem StC_fm {b n j : Nat} {σ σ' : St} {s : SF} (hb : isB b) (h : fmN b n σ σ') (hj : j ≤ n) (hn : n ≤ 5) (hs : StC σ (Bo b + 10 + j) s) : StC σ' (Bo b + 10 + j) s := by
  have hBo := Bo_v hb
  have hb1 := isB_lt hb
  exact hs.same (fun i hi => h.1 _ _ (fun z => by unfold exc at z; omega)) (h.row (fun k z => by unfold exc at z; omega))
theorem RlC_fm {b : Nat} {σ σ' : St} {G : Gm} {ps : List Nat} (hb : isB b) (hR : RlC σ b G ps) (h : fmN b ps.length σ σ') (hm : gi σ' b 10 = nI ps.length) : RlC σ' b G ps := by
  have hBo := Bo_v hb
  have hb1 := isB_lt hb
  have hl := hR.lg.len
  have f : ∀ k, k ≠ 9 → k ≠ 10 → gi σ' b k = gi σ b k := fun k h9 h10 => h.1 b k (fun z => by unfold exc at z; omega)
  match G, hR with
  | none, hR =>
    obtain ⟨rfl, h2, h3, h4⟩ := hR
    exact ⟨rfl, by rw [f 5 (by decide) (by decide)]; exact h2, hm, StC_fm (n := 0) (j := 0) hb h (Nat.le_refl _) (by decide) h4⟩
  | some (r, R, wo), hR =>
    obtain ⟨⟨k1, k2, k3, k4, k5, k6, k7⟩, hr, hRC, hok, hwo, hlg⟩ := hR
    refine ⟨⟨hm, by rw [f 5 (by decide) (by decide)]; exact k2, by rw [f 6 (by decide) (by decide)]; exact k3, by rw [f 7 (by decide) (by decide)]; exact k4, by rw [f 8 (by decide) (by decide)]; exact k5, fun j hj => StC_fm hb h hj hl (k6 j hj), fun j hj1 hj2 ho => ?_⟩, hr, RuC_same hRC hr (fun x h1 h2 => h.row (fun k z => by unfold exc at z; omega)), hok, hwo, hlg⟩
    have := k7 j hj1 hj2 ho
    unfold wgd at this ⊢
    rw [h.1 _ 8 (fun z => by unfold exc at z; omega), h.1 _ 9 (fun z => by unfold exc at z; omega)]
    exact this
theorem lkC_fm {b n : Nat} {σ σ' : St} {C : Cx} (hb : isB b) (h : fmN b n σ σ') (hl : lkC σ C) : lkC σ' C := by
  have hBo := Bo_v hb
  have hb1 := isB_lt hb
  intro p hp
  rw [h.1 101 p (fun z => by unfold exc at z; omega), h.1 102 p (fun z => by unfold exc at z; omega)]
  exact hl p hp
/-! the class's steps -/
theorem c_now {d nc : Nat} {σ : St} {Q : Nat → St → Prop} {b : Nat} {G : Gm} {ps : List Nat} (hn : nc < 5) (hb : isB b) (hR : RlC σ b G ps) (h : IO (idsC nc) (Bo b + 10 + ps.length) 4 → Q (Bo b + 10 + ps.length) σ) : ER (d + 1) (idsC nc) Y_X2_now [.ref b] σ Q :=
  kC_now hn hb hR.made hR.lg.len (h (hSt hn hb hR.lg.len))
theorem c_open {d nc : Nat} {σ : St} {Q : Int32 → St → Prop} {b : Nat} {C : Cx} {ps : List Nat} (hn : nc < 5) (hb : isB b) (hR : RlC σ b C.1 ps) (hlk : lkC σ C)
    (h : ∀ N : Nat, N < 16384 → (∀ i, i < 14 → N.testBit i = cb C ps i) → Q (nI N) σ) : EI (d + 2) (idsC nc) Y_X2_open [.ref b] σ Q := by
  obtain ⟨G, le, la⟩ := C
  match G, hR with
  | none, hR =>
    refine fl_X2_open (hRo hn hb) (fun P79 P94 P126 P153 H79 H94 H126 H153 => c_now hn hb (G := none) hR (fun hI => ⟨hI, ?_⟩))
    rw [hR.2.1]
    exact ⟨fun _ => h 0 (by decide) (fun i _ => Nat.zero_testBit i), fun r16 e16 => (by cases e16)⟩
  | some (r, R, wo), hR =>
    refine kC_open hn hb hR.1 hR.2 (fun p hp => ?_) (fun N hN hbit => h N hN (fun i hi => ?_))
    · obtain ⟨e1, e2, e3, e4⟩ := hlk p hp
      exact ⟨by rw [e1]; exact e3, by rw [e2]; exact e4⟩
    · have h1 := (hbit i hi).trans (canP_congr hR.2.2.2.2.2 (fun p hp => ⟨(hlk p hp).1, (hlk p hp).2.1⟩))
      show N.testBit i = @decide (canP le la R wo ps (PLa i)) (canP_dec _ _ _ _ _ _)
      by_cases hc : canP le la R wo ps (PLa i)
      · rw [h1.mpr hc, @decide_eq_true _ (canP_dec _ _ _ _ _ _) hc]
      · rw [@decide_eq_false _ (canP_dec _ _ _ _ _ _) hc]
        cases hz : N.testBit i
        · rfl
        · exact absurd (h1.mp hz) hc
theorem c_make {d nc : Nat} {σ : St} {Q : St → Prop} {b i : Nat} {C : Cx} {ps : List Nat} (hn : nc < 5) (hb : isB b) (hR : RlC σ b C.1 ps) (hi : i < 14) (hc : cb C ps i = true)
    (h : ∀ σ', RlC σ' b C.1 (PLa i :: ps) → fmN b ps.length σ σ' → (∀ k, k ≠ 10 → gi σ' b k = gi σ b k) → (∀ x, x ≠ b → x ≠ Bo b + 3 → x ≠ Bo b + 11 + ps.length → x ≠ Bo b + 21 + ps.length → gi σ' x = gi σ x) → Q σ') : EV (d + 4) (idsC nc) Y_X2_make [.ref b, .int (nI (PLa i))] σ Q := by
  have hlg := hR.lg
  obtain ⟨G, le, la⟩ := C
  obtain ⟨r, R, wo, rfl, hcan⟩ := cb_opn hc
  have hBo := Bo_v hb
  have hb1 := isB_lt hb
  have hl4 := opn_len hlg.2.1 hcan.1 hlg.len
  refine kC_make hn hb hR.1 hR.2 hcan.1 (PLa_in i hi) (fun σ' g1 g2 g3 g4 g5 => h σ' ⟨g1, g2⟩ ⟨fun x k hx => ?_, g5⟩ g4 g3)
  by_cases hxb : x = b
  · subst hxb
    exact g4 k (fun z => hx (Or.inl ⟨rfl, Or.inr z⟩))
  · rw [g3 x hxb (fun z => hx (Or.inr (Or.inl z))) (fun z => hx (by unfold exc; omega)) (fun z => hx (by unfold exc; omega))]
/-- where the roll ends -/
def esG (C : Cx) (ps : List Nat) : Int32 := if enM (sgG C.1 ps) = 0 then (if (List.range 14).any (cb C ps) = true then 0 else 7) else enM (sgG C.1 ps)
theorem any_cb {C : Cx} {ps : List Nat} : (List.range 14).any (cb C ps) = false ↔ ∀ i, i < 14 → cb C ps i = false := by
  rw [List.any_eq_false]
  exact ⟨fun h i hi => by have := h i (List.mem_range.mpr hi); simpa using this, fun h i hi => by rw [h i (List.mem_range.mp hi)]; decide⟩
theorem c_endSort {d nc : Nat} {σ : St} {Q : Int32 → St → Prop} {b : Nat} {C : Cx} {ps : List Nat} (hn : nc < 5) (hb : isB b) (hR : RlC σ b C.1 ps) (hlk : lkC σ C) (h : Q (esG C ps) σ) : EI (d + 3) (idsC nc) Y_X2_endSort [.ref b] σ Q := by
  refine fl_X2_endSort (hRo hn hb) (c_now hn hb hR (fun hI => ⟨hI, kC_isClosed hI hR.top (fun hc => ⟨fun z => absurd z (by decide), fun _ => ?_⟩) (fun hc => ⟨fun _ => ?_, fun z => absurd rfl z⟩)⟩))
  · refine c_now hn hb hR (fun hI => ⟨hI, ?_⟩)
    rw [hR.top.1 1 (by decide)]
    rw [esG, if_neg (fun z => enM_0.mp z hc), enM_c hc] at h
    exact h
  · rw [esG, if_pos (enM_0.mpr hc)] at h
    refine c_open hn hb hR hlk (fun N hN hbit => ⟨fun c => ?_, fun c => ?_⟩)
    · cases ha : (List.range 14).any (cb C ps)
      · exact absurd ((open_zero hN hbit).mpr (any_cb.mp ha)) c
      · rw [ha, if_pos rfl] at h; exact h
    · rw [any_cb.mpr ((open_zero hN hbit).mp c), if_neg (by decide)] at h; exact h
/-! the reference's steps -/
theorem RlR_same {τ τ' : St} {G : Gm} {ps : List Nat} (h : RlR τ G ps) (e0 : ∀ k, k = 8 ∨ (24 ≤ k ∧ k ≤ 26) → gi τ' 0 k = gi τ 0 k) (e : ∀ x, (13 ≤ x ∧ x ≤ 19) ∨ (27 ≤ x ∧ x ≤ 36) → gi τ' x = gi τ x) : RlR τ' G ps := by
  match G, h with
  | none, h => exact ⟨h.1, by rw [e0 8 (by decide)]; exact h.2.1, by rw [e0 26 (by decide)]; exact h.2.2.1, h.2.2.2.same (fun x h1 h2 => by rw [e x (by omega)])⟩
  | some (r, R, wo), h =>
    exact ⟨⟨RoR_same h.1.1 (fun k h1 h2 => e0 k (by omega)) (fun x h1 h2 => e x (by omega)), h.1.2.1, RuR_same h.1.2.2.1 (fun x h1 h2 => e x (by omega)), h.1.2.2.2⟩, by rw [e0 8 (by decide)]; exact h.2⟩
theorem RlR_eqP {τ τ' : St} {G : Gm} {ps : List Nat} (h : RlR τ G ps) (e : eqP τ τ') : RlR τ' G ps := RlR_same h (fun k _ => by rw [e.1 0 (by decide)]) (fun x hx => e.1 x (by omega))
theorem lkR_eqP {τ τ' : St} {C : Cx} (h : lkR τ C) (e : eqP τ τ') : lkR τ' C := fun p hp => by rw [e.1 1 (by decide), e.1 2 (by decide)]; exact h p hp
theorem r_can {d : Nat} {τ : St} {Q : Int32 → St → Prop} {C : Cx} {ps : List Nat} {i : Nat} (hT : RlR τ C.1 ps) (hlk : lkR τ C) (hi : i < 14) (h : ∀ τ', eqP τ τ' → Q (bI (cb C ps i = true)) τ') : EI (d + 5) idsR Y_X7_can [.ref 0, .int (nI (PLa i))] τ Q := by
  obtain ⟨G, le, la⟩ := C
  match G, hT with
  | none, hT =>
    refine fl_X7_can hR (fun P211 H211 x4 e4 => ⟨fun _ => ?_, fun c => absurd hT.2.1 c⟩)
    have := h τ (eqP.rf τ)
    rwa [bI_f (by show ¬ (false = true); decide)] at this
  | some (r, R, wo), hT =>
    refine kR_can hT.1.1 hT.1.2 hT.2 (fun p hp => ?_) (PLa_in i hi) (fun hc τ' hE => ?_) (fun hc τ' hE => ?_)
    · obtain ⟨e1, e2, e3, e4⟩ := hlk p hp
      exact ⟨by rw [e1]; exact e3, by rw [e2]; exact e4⟩
    · have := h τ' hE
      have e : cb (some (r, R, wo), le, la) ps i = true := @decide_eq_true _ (canP_dec _ _ _ _ _ _) ((canP_congr hT.1.2.2.2.2.2 (fun p hp => ⟨(hlk p hp).1, (hlk p hp).2.1⟩)).mp hc)
      rwa [bI_t e] at this
    · have := h τ' hE
      have e : ¬ cb (some (r, R, wo), le, la) ps i = true := fun z => hc ((canP_congr hT.1.2.2.2.2.2 (fun p hp => ⟨(hlk p hp).1, (hlk p hp).2.1⟩)).mpr (@of_decide_eq_true _ (canP_dec _ _ _ _ _ _) z))
      rwa [bI_f e] at this
