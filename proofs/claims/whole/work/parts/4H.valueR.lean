/-! PURE: the class's edge -/
def csE (cs : Cs) (p e : Nat) : Cs := fun w q => if w = 2 ∧ q = p then e else cs w q
def edP (C : Cx) (cs : Cs) (ps : List Nat) (p e : Nat) : Prop := e ≤ 11 ∧ (∀ e', e' < e → bsG C (csE cs p e') ps = some 6) ∧ (e ≤ 10 → ¬ bsG C (csE cs p e) ps = some 6)
theorem edP_one {C : Cx} {cs : Cs} {ps : List Nat} {p e e2 : Nat} (h : edP C cs ps p e) (h2 : edP C cs ps p e2) : e = e2 := by
  rcases Nat.lt_trichotomy e e2 with q | q | q
  · exact absurd (h2.2.1 e q) (h.2.2 (by have := h2.1; omega))
  · exact q
  · exact absurd (h.2.1 e2 q) (h2.2.2 (by have := h.1; omega))
theorem bsI_30 {o : Option Nat} (h : ∀ j, o = some j → j < 14) : bsI o = 30 ↔ o = some 6 := by
  cases o with
  | none => exact ⟨fun z => absurd z (by decide), fun z => by cases z⟩
  | some j =>
    have e := (by decide +kernel : ∀ j, j < 14 → (nI (PLa j) = 30 ↔ j = 6)) j (h j rfl)
    exact e.trans ⟨fun z => by rw [z], fun z => Option.some.inj z⟩
theorem bsG_lt {C : Cx} {cs : Cs} {ps : List Nat} {j : Nat} (h : bsG C cs ps = some j) : j < 14 ∧ cb C ps j = true := by
  unfold bsG at h
  cases hz : bso C (wth C cs) (5 - ps.length) ps with
  | none => rw [hz] at h; cases h
  | some q =>
    obtain ⟨v, i⟩ := q
    rw [hz] at h
    have e : i = j := Option.some.inj h
    subst e
    cases hf : 5 - ps.length with
    | zero => rw [hf] at hz; cases hz
    | succ f =>
      rw [hf] at hz
      obtain ⟨h1, h2, -⟩ := bst_some hz
      exact ⟨h1, h2⟩
theorem c_edgeIn {d nc b k : Nat} {C : Cx} {cs : Cs} {ps : List Nat} {σ : St} {Q : Int32 → St → Prop} (hn : nc < 5) (hb : isB b) (hk : k < nc) (hR : RlC σ b C.1 ps) (hlk : lkC σ C) (hc : cC σ k cs)
    (h : ∀ e σ', edP C cs ps (sgG C.1 ps 3).toNatClampNeg e → fmN b ps.length σ σ' → gi σ' b 10 = nI ps.length → Q (nI e) σ') : EI (d + 12) (idsC nc) Y_X2_edgeIn [.ref b, .ref (400 + 10 * k)] σ Q := by
  have hBo := Bo_v hb
  have hb1 := isB_lt hb
  have hl := hR.lg.len
  obtain ⟨hp, ep, -⟩ := gs_p hR.lg.gs
  refine fl_X2_edgeIn (hRo hn hb) (hCase hn hk) (fun P23 P54 H23 H54 => c_now hn hb hR (fun hI => ⟨hI, ?_⟩))
  have z2 : ((2 : Int32).toNatClampNeg) = 2 := rfl
  rw [hR.top.1 3 (by decide), rf_cs (by omega), z2, rf_cs2 (by omega)]
  generalize hpp : (sgG C.1 ps 3).toNatClampNeg = p at hp ep h ⊢
  rw [ep]
  rintro x12 rfl
  rw [cl_ix p (by omega)]
  have hin : vp_in (nI p) 5 := vp_in_nI hp (by decide)
  have o2 : 402 + 10 * k + 2 = 404 + 10 * k := by omega
  rw [o2]
  have hIA : IA (idsC nc) (404 + 10 * k) 0 5 := by
    refine ⟨idsC_clo nc hn, List.mem_append_right _ (List.mem_flatMap.mpr ⟨k, List.mem_range.mpr hk, by simp⟩), ?_⟩
    rcases (by omega : k = 0 ∨ k = 1 ∨ k = 2 ∨ k = 3) with rfl | rfl | rfl | rfl <;> rfl
  have hcE : ∀ e σ1 v, e ≤ 10 → fmN b ps.length (si σ (404 + 10 * k) p v) σ1 → cC (si σ1 (404 + 10 * k) p (nI e)) k (csE cs p e) := by
    intro e σ1 v he g w q hw hq
    rw [gi_si, csE]
    by_cases hc2 : w = 2 ∧ q = p
    · rw [if_pos ⟨by omega, hc2.2⟩, if_pos hc2]; exact ⟨rfl, he⟩
    · rw [if_neg (fun z => hc2 (by omega)), if_neg hc2, g.1 _ _ (fun z => by unfold exc at z; omega), gi_si, if_neg (fun z => hc2 (by omega))]
      exact hc w q hw hq
  have fE : ∀ σ1 v u, fmN b ps.length (si σ (404 + 10 * k) p v) σ1 → fmN b ps.length (si σ (404 + 10 * k) p u) (si σ1 (404 + 10 * k) p u) := by
    intro σ1 v u g
    refine ⟨fun x j hx => ?_, fun x => g.2 x⟩
    rw [gi_si, gi_si]
    by_cases hz : x = 404 + 10 * k ∧ j = p
    · rw [if_pos hz, if_pos hz]
    · rw [if_neg hz, if_neg hz, g.1 x j hx, gi_si, if_neg hz]
  have self : ∀ x j, gi (si σ (404 + 10 * k) p (gi σ (404 + 10 * k) p)) x j = gi σ x j := by
    intro x j
    rw [gi_si]
    split
    · rename_i hz; rw [hz.1, hz.2]
    · rfl
  have RE : ∀ v, RlC (si σ (404 + 10 * k) p v) b C.1 ps := by
    intro v
    have hG := hR
    match hGG : C.1, hG with
    | none, hG =>
      obtain ⟨q1, q2, q3, q4⟩ := hG
      exact ⟨q1, by rw [gi_ne_o _ _ _ _ (by omega)]; exact q2, by rw [gi_ne_o _ _ _ _ (by omega)]; exact q3, q4.same (fun i _ => by rw [gi_ne_o _ _ _ _ (by omega)]) (by rw [gi_si_o _ _ _ (by omega)])⟩
    | some (r, R, wo), hG =>
      obtain ⟨⟨k1, k2, k3, k4, k5, k6, k7⟩, hr, hRC, hG⟩ := hG
      refine ⟨⟨by rw [gi_ne_o _ _ _ _ (by omega)]; exact k1, by rw [gi_ne_o _ _ _ _ (by omega)]; exact k2, by rw [gi_ne_o _ _ _ _ (by omega)]; exact k3, by rw [gi_ne_o _ _ _ _ (by omega)]; exact k4, by rw [gi_ne_o _ _ _ _ (by omega)]; exact k5, fun j hj => (k6 j hj).same (fun i _ => by rw [gi_ne_o _ _ _ _ (by omega)]) (by rw [gi_si_o _ _ _ (by omega)]), fun j hj1 hj2 ho => ?_⟩, hr, RuC_same hRC hr (fun x h1 h2 => by rw [gi_si_o _ _ _ (by omega)]), hG⟩
      have := k7 j hj1 hj2 ho
      unfold wgd at this ⊢
      rw [gi_ne_o _ _ _ _ (by omega), gi_ne_o _ _ _ _ (by omega)]
      exact this
  have LE : ∀ v, lkC (si σ (404 + 10 * k) p v) C := fun v q hq => by rw [gi_ne_o _ _ _ _ (by omega), gi_ne_o _ _ _ _ (by omega)]; exact hlk q hq
  refine ⟨hin, fun x14 e14 => ?_⟩
  subst e14
  have stop : ∀ e σ1 v, edP C cs ps p e → fmN b ps.length (si σ (404 + 10 * k) p v) σ1 → gi σ1 b 10 = nI ps.length → P54 (404 + 10 * k) (nI p) (gi σ (404 + 10 * k) p) (nI e) σ1 := by
    intro e σ1 v he g hm
    refine H54 _ _ _ _ _ (fun _ => ⟨hin, fun s es => h e s he ?_ ?_⟩)
    · rw [cl_ix p (by omega)] at es
      have g2 := fE σ1 v (gi σ (404 + 10 * k) p) g
      rw [← es] at g2
      exact ⟨fun x j hx => by rw [g2.1 x j hx]; exact self x j, fun x => g2.2 x⟩
    · rw [es, gi_ne_o _ _ _ _ (by omega)]; exact hm
  have loop : ∀ m e σ1, 11 - e = m → e ≤ 11 → (∃ v, fmN b ps.length (si σ (404 + 10 * k) p v) σ1) → gi σ1 b 10 = nI ps.length → (∀ e', e' < e → bsG C (csE cs p e') ps = some 6) → P23 (404 + 10 * k) (nI p) (gi σ (404 + 10 * k) p) (nI e) σ1 := by
    intro m
    induction m with
    | zero =>
      rintro e σ1 q1 q2 ⟨v, g⟩ hm q5
      have : e = 11 := by omega
      subst this
      refine H23 _ _ _ _ _ (fun _ => ⟨fun _ => stop 11 σ1 v ⟨Nat.le_refl _, q5, fun z => absurd z (by decide)⟩ g hm, fun c => absurd (nI_lt (a := 10) (b := 11) (by decide) (by decide)) c⟩)
    | succ m ih =>
      rintro e σ1 q1 q2 ⟨v, g⟩ hm q5
      refine H23 _ _ _ _ _ (fun _ => ⟨fun c => absurd ((nI_ltI (a := 10) (by decide) (by omega)).mp c) (by omega), fun _ => ⟨hin, fun s es => ?_⟩⟩)
      rw [cl_ix p (by omega)] at es
      have g2 := fE σ1 v (nI e) g
      have c2 := hcE e σ1 v (by omega) g
      have m2 : gi (si σ1 (404 + 10 * k) p (nI e)) b 10 = nI ps.length := by rw [gi_ne_o _ _ _ _ (by omega)]; exact hm
      rw [← es] at g2 c2 m2
      refine c_bestNow hn hb hk (RlC_fm hb (RE (nI e)) g2 m2) (lkC_fm hb g2 (LE _)) c2 (fun σ3 w1 w2 => ⟨fun c3 x ex => ?_, fun c3 => ?_⟩)
      · rw [ex, ← nI_succ]
        refine ih (e + 1) σ3 (by omega) (by omega) ⟨_, g2.tr w1⟩ w2 (fun e' he' => ?_)
        by_cases hee : e' = e
        · subst hee; exact (bsI_30 (fun j hj => (bsG_lt hj).1)).mp c3
        · exact q5 e' (by omega)
      · exact stop e σ3 _ ⟨by omega, q5, fun _ z => c3 ((bsI_30 (fun j hj => (bsG_lt hj).1)).mpr z)⟩ (g2.tr w1) w2
  exact loop 11 0 σ rfl (by decide) ⟨gi σ (404 + 10 * k) p, ⟨fun x j _ => (self x j).symm, fun x => rfl⟩⟩ hR.made (fun e' he' => by omega)
