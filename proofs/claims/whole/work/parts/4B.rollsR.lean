/-! PURE: the reference's steps -/
/-- the PLEAS by their places, as the reference has them -/
def allR (τ : St) : Prop := ∀ i, i < 14 → gi τ 38 i = nI (PLa i)
theorem r_nextMay {d : Nat} {τ : St} {Q : Int32 → St → Prop} {C : Cx} {ps : List Nat} {i : Nat} (hT : RlR τ C.1 ps) (hlk : lkR τ C) (ha : allR τ) (hi : i ≤ 14)
    (h : ∀ k, i ≤ k → k ≤ 14 → (∀ j, i ≤ j → j < k → cb C ps j = false) → (k < 14 → cb C ps k = true) → ∀ τ', eqP τ τ' → Q (nI k) τ') : EI (d + 6) idsR Y_X7_nextMay [.ref 0, .int (nI i)] τ Q := by
  refine fl_X7_nextMay hR (fun P2 H2 => ?_)
  rw [rf0] at H2
  have loop : ∀ m k, 14 - k = m → i ≤ k → k ≤ 14 → (∀ j, i ≤ j → j < k → cb C ps j = false) → ∀ τ1, eqP τ τ1 → P2 (nI k) τ1 := by
    intro m
    induction m with
    | zero =>
      intro k h1 h2 h3 h4 τ1 hE
      have : k = 14 := by omega
      subst this
      exact H2 _ _ ⟨fun _ => h 14 h2 h3 h4 (fun z => absurd z (by decide)) τ1 hE, fun c => absurd (nI_le (Nat.le_refl 14) (by decide)) c⟩
    | succ m ih =>
      intro k h1 h2 h3 h4 τ1 hE
      have hk : k < 14 := by omega
      refine H2 _ _ ⟨fun c => absurd ((nI_leI (a := 14) (by decide) (by omega)).mp c) (by omega), fun _ => ⟨vp_in_nI (by omega) (by decide), ?_⟩⟩
      rw [cl_ix k (by omega), hE.1 38 (by decide), ha k hk]
      refine r_can (RlR_eqP hT hE) (lkR_eqP hlk hE) hk (fun τ2 hE2 => ⟨fun c => ?_, fun c x ex => ?_⟩)
      · exact h k h2 h3 h4 (fun _ => bI_n.mp c) τ2 (hE.tr hE2)
      · rw [ex, ← nI_succ]
        refine ih (k + 1) (by omega) (by omega) (by omega) (fun j j1 j2 => ?_) τ2 (hE.tr hE2)
        by_cases hj : j = k
        · subst hj
          cases hz : cb C ps j
          · rfl
          · exact absurd hz (bI_0.mp c)
        · exact h4 j j1 (by omega)
  exact loop _ i rfl (Nat.le_refl _) hi (fun j j1 j2 => by omega) τ (eqP.rf τ)
theorem r_endSort {d : Nat} {τ : St} {Q : Int32 → St → Prop} {C : Cx} {ps : List Nat} (hT : RlR τ C.1 ps) (hlk : lkR τ C) (ha : allR τ) (h : ∀ τ', eqP τ τ' → Q (esG C ps) τ') : EI (d + 7) idsR Y_X7_endSort [.ref 0] τ Q := by
  have hl := hT.lg.len
  refine fl_X7_endSort hR ?_
  rw [hT.made, rf0, cl_ix ps.length (by omega), hT.top.2.2.2.2.2.1]
  have hin : vp_in (nI ps.length) 8 := vp_in_nI (by omega) (by decide)
  refine ⟨hin, fun c => ?_, fun c => ⟨hin, ?_⟩⟩
  · refine r_nextMay (i := 0) hT hlk ha (by decide) (fun k k1 k2 k3 k4 τ' hE => ?_)
    have h' := h τ' hE
    rw [esG, if_pos c] at h'
    refine ⟨fun c2 => ?_, fun c2 => ?_⟩
    · have hk : k < 14 := by
        rcases Nat.lt_or_ge k 14 with q | q
        · exact q
        · exact absurd (show nI k = 14 by rw [show k = 14 by omega]; rfl) c2
      rw [if_pos (List.any_eq_true.mpr ⟨k, List.mem_range.mpr hk, k4 hk⟩)] at h'
      exact h'
    · have hk : k = 14 := (nI_eq (b := 14) (by omega) (by decide)).mp c2
      subst hk
      rw [if_neg (by rw [any_cb.mpr (fun i hi => k3 i (Nat.zero_le _) hi)]; decide)] at h'
      exact h'
  · have h' := h τ (eqP.rf τ)
    rw [esG, if_neg c] at h'
    exact h'
/-- what a walk of the reference may write: the pile, what goes on, values, best pleas, its roll's arrays above n -/
def fmR (n : Nat) (τ τ' : St) : Prop := (∀ x k, x ≠ 37 → ¬ (x = 0 ∧ k = 26) → ¬ (28 ≤ x ∧ x ≤ 36 ∧ n < k) → ¬ (x = 27 ∧ n ≤ k) → ¬ (42 ≤ x ∧ x ≤ 44 ∧ n ≤ k) → gi τ' x k = gi τ x k) ∧ ∀ x, gl τ' x = gl τ x
theorem fmR.rf (n : Nat) (τ : St) : fmR n τ τ := ⟨fun _ _ _ _ _ _ _ => rfl, fun _ => rfl⟩
theorem fmR.tr {n : Nat} {a b c : St} (h : fmR n a b) (h2 : fmR n b c) : fmR n a c := ⟨fun x k e1 e2 e3 e4 e5 => (h2.1 x k e1 e2 e3 e4 e5).trans (h.1 x k e1 e2 e3 e4 e5), fun x => (h2.2 x).trans (h.2 x)⟩
theorem fmR.up {n m : Nat} {a b : St} (hm : n ≤ m) (h : fmR m a b) : fmR n a b := ⟨fun x k e1 e2 e3 e4 e5 => h.1 x k e1 e2 (fun z => e3 (by omega)) (fun z => e4 (by omega)) (fun z => e5 (by omega)), h.2⟩
theorem eqP.fm {a b : St} (h : eqP a b) (n : Nat) : fmR n a b := ⟨fun x k e1 _ _ _ _ => by rw [h.1 x e1], h.2⟩
theorem fmR.si {n : Nat} {a b : St} (h : fmR n a b) {x k : Nat} (v : Int32) (hx : (x = 0 ∧ k = 26) ∨ (x = 37) ∨ (28 ≤ x ∧ x ≤ 36 ∧ n < k) ∨ (x = 27 ∧ n ≤ k) ∨ (42 ≤ x ∧ x ≤ 44 ∧ n ≤ k)) : fmR n a (si b x k v) := ⟨fun y j e1 e2 e3 e4 e5 => by
  rw [gi_si, if_neg (fun z => by omega)]; exact h.1 y j e1 e2 e3 e4 e5, h.2⟩
theorem RlR_fm {τ τ' : St} {G : Gm} {ps : List Nat} (hT : RlR τ G ps) (h : fmR ps.length τ τ') (hm : gi τ' 0 26 = nI ps.length) : RlR τ' G ps := by
  have hl := hT.lg.len
  have f0 : ∀ k, k ≠ 26 → gi τ' 0 k = gi τ 0 k := fun k hk => h.1 0 k (by decide) (by omega) (by omega) (by omega) (by omega)
  have fs : ∀ j, j ≤ ps.length → ∀ x, 28 ≤ x → x ≤ 36 → gi τ' x j = gi τ x j := fun j hj x h1 h2 => h.1 x j (by omega) (by omega) (by omega) (by omega) (by omega)
  match G, hT with
  | none, hT =>
    obtain ⟨rfl, h2, h3, h4⟩ := hT
    exact ⟨rfl, by rw [f0 8 (by decide)]; exact h2, hm, h4.same (fun x h1 h2 => fs 0 (Nat.le_refl _) x h1 h2)⟩
  | some (r, R, wo), hT =>
    obtain ⟨⟨⟨k1, k2, k3, k4, k5⟩, hr, hRR, hG⟩, h8⟩ := hT
    refine ⟨⟨⟨by rw [f0 24 (by decide)]; exact k1, by rw [f0 25 (by decide)]; exact k2, hm, fun j hj => (k4 j hj).same (fun x h1 h2 => fs j hj x h1 h2), fun j m hm => ?_⟩, hr, RuR_same hRR (fun x h1 h2 => funext fun k => h.1 x k (by omega) (by omega) (by omega) (by omega) (by omega)), hG⟩, by rw [f0 8 (by decide)]; exact h8⟩
    have hj := (List.getElem?_eq_some_iff.mp hm).1
    rw [List.length_reverse] at hj
    rw [h.1 27 j (by decide) (by omega) (by omega) (by omega) (by omega)]
    exact k5 j m hm
theorem lkR_fm {n : Nat} {τ τ' : St} {C : Cx} (hl : lkR τ C) (h : fmR n τ τ') : lkR τ' C := by
  intro p hp
  rw [h.1 1 p (by decide) (by omega) (by omega) (by omega) (by omega), h.1 2 p (by decide) (by omega) (by omega) (by omega) (by omega)]
  exact hl p hp
theorem allR_fm {n : Nat} {τ τ' : St} (ha : allR τ) (h : fmR n τ τ') : allR τ' := by
  intro i hi
  rw [h.1 38 i (by decide) (by omega) (by omega) (by omega) (by omega)]
  exact ha i hi
theorem r_make {d : Nat} {τ : St} {Q : St → Prop} {C : Cx} {ps : List Nat} {i : Nat} (hT : RlR τ C.1 ps) (hi : i < 14) (hc : cb C ps i = true)
    (h : ∀ τ', RlR τ' C.1 (PLa i :: ps) → fmR ps.length τ τ' → gi τ' 27 ps.length = nI (PLa i) → (∀ x, 37 < x → gi τ' x = gi τ x) → Q τ') : EV (d + 5) idsR Y_X7_make [.ref 0, .int (nI (PLa i))] τ Q := by
  have hlg := hT.lg
  obtain ⟨G, le, la⟩ := C
  obtain ⟨r, R, wo, rfl, hcan⟩ := cb_opn hc
  have hl := hlg.len
  obtain ⟨⟨hK, hG⟩, h8⟩ := id hT
  refine kR_make hK hG (by omega) (PLa_in i hi) (fun τ1 hE => ?_)
  have hT1 : RlR τ1 (some (r, R, wo)) ps := RlR_eqP hT hE
  have o := mkT_out τ1 ps.length (PLa i) (stg R wo (PLa i :: ps))
  have fr : fmR ps.length τ (mkT τ1 ps.length (PLa i) (stg R wo (PLa i :: ps))) := by
    refine ⟨fun x k e1 e2 e3 e4 e5 => ?_, fun x => (o.2.2 x).trans (hE.2 x)⟩
    rw [← hE.1 x e1]
    by_cases hx0 : x = 0
    · subst hx0; exact o.2.1 k (fun z => e2 ⟨rfl, z⟩)
    · by_cases hx : x < 27 ∨ 36 < x
      · rw [o.1 x hx hx0]
      · by_cases h27 : x = 27
        · subst h27; rw [mkT_27, if_neg (by omega)]
        · exact mkT_low _ _ _ _ (by omega) (by omega) (by omega)
  refine h _ ⟨⟨RoR_mk hT1.1.1, hG.1, RuR_same hG.2.1 (fun x h1 h2 => by rw [o.1 x (by omega) (by omega), hE.1 x (by omega)]), hG.2.2.1, hG.2.2.2.1, lgl_cons hG.2.2.2.2 hcan.1 (PLa_in i hi)⟩, by rw [o.2.1 8 (by decide), hE.1 0 (by decide)]; exact h8⟩ fr ?_ (fun x hx => by rw [o.1 x (by omega) (by omega), hE.1 x (by omega)])
  rw [mkT_27, if_pos rfl]
