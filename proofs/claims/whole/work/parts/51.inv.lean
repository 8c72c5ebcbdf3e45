/-! PURE: what holds between the two sides between calls -/
def ICs (nc : Nat) (σ τ : St) : Prop := gi σ 100 3 = nI nc ∧ gi τ 0 0 = nI nc ∧ ∀ k, k < nc → dc (gi σ 103 k) = some (400 + 10 * k) ∧ (∃ S : Nat, S < 32 ∧ gi σ (400 + 10 * k) 0 = nI S ∧ gi τ 3 k = nI S) ∧ ∃ cs : Cs, cC σ k cs ∧ cR τ k cs
def IRu (Rs : List Ru) (σ τ : St) : Prop := Rs.length ≤ 5 ∧ gi σ 100 6 = nI Rs.length ∧ gi τ 0 8 = nI Rs.length ∧ ∀ (r : Nat) R, Rs[r]? = some R → RuC σ r R ∧ (RuR τ r R ∧ RuB τ r R) ∧ okR R
def ITx (σ τ : St) : Prop := ∃ bs, PT σ bs ∧ MT τ bs
def GOk (G : Gm) (Rs : List Ru) : Prop := match G with | none => Rs = [] | some (r, R, wo) => wo = none ∧ Rs[r]? = some R
def IRo (Rs : List Ru) (σ τ : St) : Prop := ∃ G ps, RlC σ 108 G ps ∧ RlR τ G ps ∧ GOk G Rs ∧ gi τ 0 25 = -1 ∧ (G = none → gi τ 0 24 = 0)
def ITr (σ : St) : Prop := StC σ 310 sg0
def IAc (σ τ : St) : Prop := ∃ n : Nat, n < 1000 ∧ gi σ 110 0 = nI n ∧ gi τ 0 45 = nI n ∧ ∀ i, i < 20 → i < n → gi σ 121 i = gi τ 46 i
/-- tapes; one that holds nothing has no size -/
def ITp (σ τ : St) : Prop := RTp σ τ ∧ ∀ t : Nat, t < 6 → gi τ 47 t < 0 → gi τ 48 t = 0
def Inv (nc : Nat) (σ τ : St) : Prop := nc < 5 ∧ ICs nc σ τ ∧ RLk σ τ ∧ ITx σ τ ∧ ITr σ ∧ allR τ ∧ IAc σ τ ∧ ITp σ τ ∧ ∃ Rs, IRu Rs σ τ ∧ IRo Rs σ τ
theorem ICs.same {nc : Nat} {σ τ σ' τ' : St} (h : ICs nc σ τ) (e1 : ∀ x k, (x = 100 ∧ k = 3) ∨ x = 103 ∨ 400 ≤ x → gi σ' x k = gi σ x k) (e2 : ∀ x k, (x = 0 ∧ k = 0) ∨ (3 ≤ x ∧ x ≤ 6) → gi τ' x k = gi τ x k) : ICs nc σ' τ' := by
  refine ⟨by rw [e1 100 3 (by omega)]; exact h.1, by rw [e2 0 0 (by omega)]; exact h.2.1, fun k hk => ?_⟩
  obtain ⟨h1, ⟨S, h2, h3, h4⟩, cs, h5, h6⟩ := h.2.2 k hk
  refine ⟨by rw [e1 103 k (by omega)]; exact h1, ⟨S, h2, by rw [e1 _ 0 (by omega)]; exact h3, by rw [e2 3 k (by omega)]; exact h4⟩, cs, fun w p hw hp => ?_, fun w p hw hp => ?_⟩
  · rw [e1 _ p (by omega)]; exact h5 w p hw hp
  · rw [e2 _ _ (by omega)]; exact h6 w p hw hp
theorem RLk.same {σ τ σ' τ' : St} (h : RLk σ τ) (e1 : ∀ x k, x = 101 ∨ x = 102 → gi σ' x k = gi σ x k) (e2 : ∀ x k, x = 1 ∨ x = 2 → gi τ' x k = gi τ x k) : RLk σ' τ' := fun p hp => by
  rw [e1 101 p (by omega), e1 102 p (by omega), e2 1 p (by omega), e2 2 p (by omega)]; exact h p hp
theorem IRu.same {Rs : List Ru} {σ τ σ' τ' : St} (h : IRu Rs σ τ) (e1 : ∀ x k, (x = 100 ∧ k = 6) ∨ (140 ≤ x ∧ x < 200) → gi σ' x k = gi σ x k) (e2 : ∀ x k, (x = 0 ∧ k = 8) ∨ (13 ≤ x ∧ x ≤ 19) → gi τ' x k = gi τ x k) : IRu Rs σ' τ' := by
  refine ⟨h.1, by rw [e1 100 6 (by omega)]; exact h.2.1, by rw [e2 0 8 (by omega)]; exact h.2.2.1, fun r R hR => ?_⟩
  obtain ⟨h1, ⟨h2, h2b⟩, h3⟩ := h.2.2.2 r R hR
  have hr : r < 5 := by
    have := (List.getElem?_eq_some_iff.mp hR).1
    have := h.1
    omega
  exact ⟨RuC_same h1 hr (fun x x1 x2 => funext fun k => e1 x k (by omega)), ⟨RuR_same h2 (fun x x1 x2 => funext fun k => e2 x k (by omega)), fun c w x l hc hw => by rw [e2 17 _ (by omega)]; exact h2b c w x l hc hw⟩, h3⟩
theorem ITx.same {σ τ σ' τ' : St} (h : ITx σ τ) (e1 : ∀ x k, (x = 105 ∧ k = 1) ∨ x = 120 → gi σ' x k = gi σ x k) (e2 : ∀ x k, (x = 0 ∧ k = 9) ∨ x = 12 → gi τ' x k = gi τ x k) : ITx σ' τ' := by
  obtain ⟨bs, ⟨p1, p2, p3⟩, m1, m2, m3⟩ := h
  exact ⟨bs, ⟨by rw [e1 105 1 (by omega)]; exact p1, p2, fun i b hb => by rw [e1 120 i (by omega)]; exact p3 i b hb⟩, by rw [e2 0 9 (by omega)]; exact m1, m2, fun i b hb => by rw [e2 12 i (by omega)]; exact m3 i b hb⟩
theorem ITr.same {σ σ' : St} (h : ITr σ) (e1 : ∀ x k, (x = 310 ∧ k ≤ 6) ∨ x = 320 → gi σ' x k = gi σ x k) : ITr σ' := StC.same h (fun i hi => e1 310 i (by omega)) (funext fun k => e1 320 k (by omega))
theorem IAc.same {σ τ σ' τ' : St} (h : IAc σ τ) (e1 : ∀ x k, (x = 110 ∧ k = 0) ∨ x = 121 → gi σ' x k = gi σ x k) (e2 : ∀ x k, (x = 0 ∧ k = 45) ∨ x = 46 → gi τ' x k = gi τ x k) : IAc σ' τ' := by
  obtain ⟨n, h0, h1, h2, h3⟩ := h
  exact ⟨n, h0, by rw [e1 110 0 (by omega)]; exact h1, by rw [e2 0 45 (by omega)]; exact h2, fun i a b => by rw [e1 121 i (by omega), e2 46 i (by omega)]; exact h3 i a b⟩
theorem RTp.same {σ τ σ' τ' : St} (h : RTp σ τ) (e1 : ∀ x k, x = 111 ∨ x = 112 → gi σ' x k = gi σ x k) (e2 : ∀ x k, x = 47 ∨ x = 48 → gi τ' x k = gi τ x k) (l1 : ∀ x, gl σ' x = gl σ x) (l2 : ∀ x, gl τ' x = gl τ x) : RTp σ' τ' := fun t ht => by
  rw [e1 111 t (by omega), e1 112 t (by omega), e2 47 t (by omega), e2 48 t (by omega), l1, l2]; exact h t ht
theorem ITp.same {σ τ σ' τ' : St} (h : ITp σ τ) (e1 : ∀ x k, x = 111 ∨ x = 112 → gi σ' x k = gi σ x k) (e2 : ∀ x k, x = 47 ∨ x = 48 → gi τ' x k = gi τ x k) (l1 : ∀ x, gl σ' x = gl σ x) (l2 : ∀ x, gl τ' x = gl τ x) : ITp σ' τ' := ⟨h.1.same e1 e2 l1 l2, fun t ht z => by
  rw [e2 47 t (by omega)] at z
  rw [e2 48 t (by omega)]; exact h.2 t ht z⟩
theorem RlC_same {σ σ' : St} {G : Gm} {ps : List Nat} (h : RlC σ 108 G ps) (e : ∀ x k, x = 108 ∨ (140 ≤ x ∧ x < 300) → gi σ' x k = gi σ x k) : RlC σ' 108 G ps := by
  have hB : Bo 108 = 200 := rfl
  match G, h with
  | none, h =>
    obtain ⟨h1, h2, h3, h4⟩ := h
    exact ⟨h1, by rw [e 108 5 (by omega)]; exact h2, by rw [e 108 10 (by omega)]; exact h3, h4.same (fun i _ => e _ i (by omega)) (funext fun k => e _ k (by omega))⟩
  | some (r, R, wo), h =>
    obtain ⟨⟨k1, k2, k3, k4, k5, k6, k7⟩, hr, hRC, hG⟩ := h
    have hl := lgl_len hG.1 hG.2.2
    refine ⟨⟨by rw [e 108 10 (by omega)]; exact k1, by rw [e 108 5 (by omega)]; exact k2, by rw [e 108 6 (by omega)]; exact k3, by rw [e 108 7 (by omega)]; exact k4, by rw [e 108 8 (by omega)]; exact k5, fun j hj => (k6 j hj).same (fun i _ => e _ i (by omega)) (funext fun k => e _ k (by omega)), fun j hj1 hj2 ho => ?_⟩, hr, RuC_same hRC hr (fun x h1 h2 => funext fun k => e x k (by omega)), hG⟩
    have := k7 j hj1 hj2 ho
    unfold wgd at this ⊢
    rw [e _ 8 (by omega), e _ 9 (by omega)]
    exact this
theorem IRo.same {Rs : List Ru} {σ τ σ' τ' : St} (h : IRo Rs σ τ) (e1 : ∀ x k, x = 108 ∨ (140 ≤ x ∧ x < 300) → gi σ' x k = gi σ x k) (e2 : ∀ x k, (x = 0 ∧ (k = 8 ∨ (24 ≤ k ∧ k ≤ 26))) ∨ (13 ≤ x ∧ x ≤ 19) ∨ (27 ≤ x ∧ x ≤ 36) → gi τ' x k = gi τ x k) : IRo Rs σ' τ' := by
  obtain ⟨G, ps, h1, h2, h3, h4, h5⟩ := h
  exact ⟨G, ps, RlC_same h1 e1, RlR_same h2 (fun k hk => e2 0 k (by omega)) (fun x hx => funext fun k => e2 x k (by omega)), h3, by rw [e2 0 25 (by omega)]; exact h4, fun z => by rw [e2 0 24 (by omega)]; exact h5 z⟩
/-- where rolls alone are walked, or tables made -/
theorem Inv.walk {nc : Nat} {σ τ σ' τ' : St} (h : Inv nc σ τ) (e1 : ∀ x k, ¬ (x = 105 ∧ k ≠ 1) → x ≠ 108 → x ≠ 109 → ¬ (200 ≤ x ∧ x < 310) → ¬ (x = 310 ∧ 6 < k) → ¬ (311 ≤ x ∧ x < 320) → ¬ (320 < x ∧ x < 400) → gi σ' x k = gi σ x k) (l1 : ∀ x, gl σ' x = gl σ x)
    (e2 : ∀ x k, ¬ (x = 0 ∧ (24 ≤ k ∧ k ≤ 26 ∨ k = 40 ∨ k = 41)) → x ≠ 7 → ¬ (27 ≤ x ∧ x ≤ 37) → ¬ (39 ≤ x ∧ x ≤ 44) → gi τ' x k = gi τ x k) (l2 : ∀ x, gl τ' x = gl τ x)
    {Rs : List Ru} (h8 : IRu Rs σ τ) (hr : IRo Rs σ' τ') : Inv nc σ' τ' := by
  obtain ⟨h0, h1, h2, h3, h4, h5, h6, h7, -⟩ := h
  refine ⟨h0, h1.same (fun x k hx => e1 x k (by omega) (by omega) (by omega) (by omega) (by omega) (by omega) (by omega)) (fun x k hx => e2 x k (by omega) (by omega) (by omega) (by omega)), h2.same (fun x k hx => e1 x k (by omega) (by omega) (by omega) (by omega) (by omega) (by omega) (by omega)) (fun x k hx => e2 x k (by omega) (by omega) (by omega) (by omega)), h3.same (fun x k hx => e1 x k (by omega) (by omega) (by omega) (by omega) (by omega) (by omega) (by omega)) (fun x k hx => e2 x k (by omega) (by omega) (by omega) (by omega)), h4.same (fun x k hx => e1 x k (by omega) (by omega) (by omega) (by omega) (by omega) (by omega) (by omega)), fun i hi => ?_, h6.same (fun x k hx => e1 x k (by omega) (by omega) (by omega) (by omega) (by omega) (by omega) (by omega)) (fun x k hx => e2 x k (by omega) (by omega) (by omega) (by omega)), h7.same (fun x k hx => e1 x k (by omega) (by omega) (by omega) (by omega) (by omega) (by omega) (by omega)) (fun x k hx => e2 x k (by omega) (by omega) (by omega) (by omega)) l1 l2, Rs, h8.same (fun x k hx => e1 x k (by omega) (by omega) (by omega) (by omega) (by omega) (by omega) (by omega)) (fun x k hx => e2 x k (by omega) (by omega) (by omega) (by omega)), hr⟩
  rw [e2 38 i (by omega) (by omega) (by omega) (by omega)]; exact h5 i hi
/-- a call's two walks, one behind the other -/
abbrev BI (d e nc : Nat) (yC yR : MY) (as : List Value) (σ τ : St) (Q : Int32 → St → Int32 → St → Prop) : Prop :=
  EI d (idsC nc) yC (.ref 100 :: as) σ (fun x σ' => EI e idsR yR (.ref 0 :: as) τ (fun y τ' => Q x σ' y τ'))
theorem Inv.nc {nc : Nat} {σ τ : St} (h : Inv nc σ τ) : nc < 5 := h.1
def CxI (G : Gm) (σ : St) : Cx := (G, gi σ 101, gi σ 102)
theorem RLk.C {σ τ : St} (h : RLk σ τ) (G : Gm) : lkC σ (CxI G σ) ∧ lkR τ (CxI G σ) := by
  refine ⟨fun p hp => ?_, fun p hp => ?_⟩
  · obtain ⟨h1, h2, h3, h4⟩ := h p hp
    exact ⟨rfl, rfl, by show P32 (gi σ 101 p); rw [h1]; exact h3, by show P32 (gi σ 102 p); rw [h2]; exact h4⟩
  · obtain ⟨h1, h2, h3, h4⟩ := h p hp
    exact ⟨h1.symm, h2.symm, by show P32 (gi σ 101 p); rw [h1]; exact h3, by show P32 (gi σ 102 p); rw [h2]; exact h4⟩
theorem RlC.zero {σ : St} {b : Nat} {G : Gm} {ps : List Nat} (h : RlC σ b G ps) : StC σ (Bo b + 10) sg0 := by
  match G, h with
  | none, h => exact h.2.2.2
  | some (r, R, wo), h =>
    have := h.1.2.2.2.2.2.1 0 (Nat.zero_le _)
    rw [Nat.sub_zero, List.drop_length] at this
    exact this
theorem RlR.zero {τ : St} {G : Gm} {ps : List Nat} (h : RlR τ G ps) : StR τ 0 sg0 := by
  match G, h with
  | none, h => exact h.2.2.2
  | some (r, R, wo), h =>
    have := h.1.1.2.2.2.1 0 (Nat.zero_le _)
    rw [Nat.sub_zero, List.drop_length] at this
    exact this
/-- the roll that is kept, opened -/
def InR (Rs : List Ru) (G : Gm) (ps : List Nat) (σ τ : St) : Prop := IRu Rs σ τ ∧ RlC σ 108 G ps ∧ RlR τ G ps ∧ GOk G Rs ∧ gi τ 0 25 = -1 ∧ (G = none → gi τ 0 24 = 0)
theorem Inv.op {nc : Nat} {σ τ : St} (h : Inv nc σ τ) : ∃ Rs G ps, InR Rs G ps σ τ := by
  obtain ⟨-, -, -, -, -, -, -, -, Rs, h8, G, ps, h9⟩ := h
  exact ⟨Rs, G, ps, h8, h9⟩
theorem Inv.all {nc : Nat} {σ τ : St} (h : Inv nc σ τ) : allR τ := h.2.2.2.2.2.1
theorem Inv.lk {nc : Nat} {σ τ : St} (h : Inv nc σ τ) (G : Gm) : lkC σ (CxI G σ) ∧ lkR τ (CxI G σ) := h.2.2.1.C G
theorem Inv.cs {nc : Nat} {σ τ : St} (h : Inv nc σ τ) {k : Nat} (hk : k < nc) : ∃ cs, cC σ k cs ∧ cR τ k cs := (h.2.1.2.2 k hk).2.2
theorem Inv.r0 {nc : Nat} {σ τ : St} (h : Inv nc σ τ) : gi τ 0 0 = nI nc := h.2.1.2.1
theorem b108 : isB 108 := Or.inl rfl
theorem b109 : isB 109 := Or.inr rfl
/-- both rolls were walked, and are back where they were -/
theorem Inv.fm {nc : Nat} {σ τ σ' τ' : St} (h : Inv nc σ τ) {Rs : List Ru} {G : Gm} {ps : List Nat} (hi : InR Rs G ps σ τ) (f1 : fmN 108 ps.length σ σ') (m1 : gi σ' 108 10 = nI ps.length) (f2 : fmR ps.length τ τ') (m2 : gi τ' 0 26 = nI ps.length) : Inv nc σ' τ' := by
  obtain ⟨hu, hC, hT, hg, h25, h24⟩ := hi
  have hl := hC.lg.len
  have hB : Bo 108 = 200 := rfl
  refine h.walk (fun x k a1 a2 a3 a4 a5 a6 a7 => f1.1 x k (fun z => by unfold exc at z; omega)) f1.2 (fun x k a1 a2 a3 a4 => f2.1 x k (by omega) (by omega) (by omega) (by omega) (by omega)) f2.2 hu ⟨G, ps, RlC_fm b108 hC f1 m1, RlR_fm hT f2 m2, hg, ?_, fun z => ?_⟩
  · rw [f2.1 0 25 (by omega) (by omega) (by omega) (by omega) (by omega)]; exact h25
  · rw [f2.1 0 24 (by omega) (by omega) (by omega) (by omega) (by omega)]; exact h24 z
theorem Inv.eqP {nc : Nat} {σ τ τ' : St} (h : Inv nc σ τ) (e : eqP τ τ') : Inv nc σ τ' := by
  obtain ⟨Rs, G, ps, hi⟩ := h.op
  exact h.fm hi (fmN.rf _ _ _) hi.2.1.made (e.fm _) (by rw [e.1 0 (by decide)]; exact hi.2.2.1.made)
theorem RlC_pop {σ : St} {b : Nat} {G : Gm} {m : Nat} {qs : List Nat} (hb : isB b) (h : RlC σ b G (m :: qs)) : RlC (si σ b 10 (nI qs.length)) b G qs := by
  have hBo := Bo_v hb
  have hb1 := isB_lt hb
  match G, h with
  | none, h => cases h.1
  | some (r, R, wo), h =>
    obtain ⟨⟨k1, k2, k3, k4, k5, k6, k7⟩, hr, hRC, hok, hwo, hlgl⟩ := h
    refine ⟨⟨by rw [gi_same], by rw [gi_ne_k _ _ _ _ (by decide)]; exact k2, by rw [gi_ne_k _ _ _ _ (by decide)]; exact k3, by rw [gi_ne_k _ _ _ _ (by decide)]; exact k4, by rw [gi_ne_k _ _ _ _ (by decide)]; exact k5, fun j hj => ?_, fun j hj1 hj2 ho => ?_⟩, hr, RuC_same hRC hr (fun x h1 h2 => by rw [gi_si_o _ _ _ (by omega)]), hok, hwo, hlgl.1⟩
    · have := k6 j (by rw [List.length_cons]; omega)
      rw [drop_cons_sub m qs hj] at this
      exact this.same (fun i _ => by rw [gi_ne_o _ _ _ _ (by omega)]) (by rw [gi_si_o _ _ _ (by omega)])
    · have := k7 j (by rw [List.length_cons]; omega) (by rw [List.length_cons]; omega)
      rw [drop_cons_sub m qs hj2] at this
      have := this ho
      unfold wgd at this ⊢
      rw [gi_ne_o _ _ _ _ (by omega), gi_ne_o _ _ _ _ (by omega)]
      exact this
