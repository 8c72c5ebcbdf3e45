/-! PURE: the reference's traps and edge -/
def trB (l : List Nat) (i : Int32) : Int32 := if 0 ≤ i then (match l[i.toNatClampNeg]? with | some p => nI (PLa p) | none => -1) else -1
theorem trA_B (l : List Nat) (i : Int32) : trA l i = if i = -1 then nI l.length else trB l i := rfl
theorem trB_app {l : List Nat} {p : Nat} {i : Int32} (hl : l.length < 100) : trB (l ++ [p]) i = if nI l.length = i then nI (PLa p) else trB l i := by
  unfold trB
  by_cases h0 : 0 ≤ i
  · rw [if_pos h0, if_pos h0]
    obtain ⟨c, hc, rfl⟩ := nI_of (nlt.mpr h0)
    rw [cl_ix c hc]
    by_cases he : l.length = c
    · rw [if_pos (by rw [he]), ← he, List.getElem?_append_right (Nat.le_refl _), Nat.sub_self]; rfl
    · rw [if_neg (fun z => he ((nI_eq (by omega) hc).mp z))]
      by_cases hlt : c < l.length
      · rw [List.getElem?_append_left hlt]
      · rw [List.getElem?_eq_none (by rw [List.length_append]; show l.length + 1 ≤ c; omega), List.getElem?_eq_none (by omega)]
  · rw [if_neg h0, if_neg h0, if_neg]
    intro z
    exact h0 (by rw [← z]; exact nI_pos' (by omega))
theorem flt_skip {P : Nat → Bool} {p : Nat} : ∀ m t, t - p = m → p ≤ t → (∀ j, p ≤ j → j < t → P j = false) → (List.range t).filter P = (List.range p).filter P := by
  intro m
  induction m with
  | zero => intro t h1 h2 _; rw [show t = p by omega]
  | succ m ih =>
    intro t h1 h2 h3
    obtain ⟨t', rfl⟩ : ∃ t', t = t' + 1 := ⟨t - 1, by omega⟩
    rw [trf_succ, h3 t' (by omega) (by omega), if_neg (by decide), List.append_nil]
    exact ih t' (by omega) (by omega) (fun j j1 j2 => h3 j j1 (by omega))
theorem r_traps {d nc k n : Nat} {C : Cx} {cs : Cs} {ps : List Nat} {τ : St} {i : Int32} {Q : Int32 → St → Prop} (hn : nc < 5) (hk : k < nc) (h00 : gi τ 0 0 = nI nc) (hT : RlR τ C.1 ps) (hlk : lkR τ C) (ha : allR τ) (hc : cR τ k cs) (hn1 : 1 ≤ n) (hn20 : n ≤ 20)
    (h1 : i < -1 → Q (-1) τ) (h : ¬ i < -1 → ∀ τ', fmR ps.length τ τ' → gi τ' 0 26 = nI ps.length → Q (trA ((List.range 14).filter (isT C cs n ps)) i) τ') : EI (d + 8) idsR Y_X7_traps [.ref 0, .int (nI k), .int (nI n), .int i] τ Q := by
  have hl := hT.lg.len
  have hcs : ∀ w p, w < 3 → p < 5 → cs w p ≤ 10 := fun w p hw hp => (hc w p hw hp).2
  refine fl_X7_traps hR (fun P51 P111 P133 P136 H51 H111 H133 H136 => kR_isCase ⟨fun _ => ?_, fun c => ?_⟩)
  · refine kR_in ⟨fun _ => ⟨fun c => ?_, fun c => h1 (nle.mp c)⟩, fun c => ?_⟩
    · have h := h (nlt.mpr c)
      refine r_valueOf (C := C) (by omega) hT hlk ha hc (fun τ0 f1 f2 f3 => ?_)
      have hv0 := vlG_le hcs hT.lg
      simp only [rf0] at H51 H111
      have stop : ∀ τ1, fmR ps.length τ τ1 → gi τ1 0 26 = nI ps.length → P51 (nI (vlG C cs ps)) (nI ((List.range 14).filter (isT C cs n ps)).length) (trB ((List.range 14).filter (isT C cs n ps)) i) (nI 14) τ1 := by
        intro τ1 q4 q5
        have hQ := h τ1 q4 q5
        rw [trA_B] at hQ
        refine H51 _ _ _ _ _ ⟨fun _ => ⟨fun z => ?_, fun z => ?_⟩, fun z => absurd (nI_le (Nat.le_refl 14) (by decide)) z⟩
        · rwa [if_neg z] at hQ
        · rwa [if_pos z] at hQ
      have loop : ∀ m p τ1, 14 - p ≤ m → p ≤ 14 → (p < 14 → cb C ps p = true) → fmR ps.length τ τ1 → gi τ1 0 26 = nI ps.length → P51 (nI (vlG C cs ps)) (nI ((List.range p).filter (isT C cs n ps)).length) (trB ((List.range p).filter (isT C cs n ps)) i) (nI p) τ1 := by
        intro m
        induction m with
        | zero =>
          intro p τ1 q1 q2 q3 q4 q5
          have : p = 14 := by omega
          subst this
          exact stop τ1 q4 q5
        | succ m ih =>
          intro p τ1 q1 q2 q3 q4 q5
          by_cases h14 : p = 14
          · subst h14; exact stop τ1 q4 q5
          have hp : p < 14 := by omega
          have hcb := q3 hp
          have hll := flt_len (isT C cs n ps) p
          have hT1 := RlR_fm hT q4 q5
          refine H51 _ _ _ _ _ ⟨fun z => absurd ((nI_leI (a := 14) (by decide) (by omega)).mp z) (by omega), fun _ => ⟨vp_in_nI hp (by decide), ?_⟩⟩
          rw [cl_ix p (by omega), allR_fm ha q4 p hp]
          refine r_make (C := C) hT1 hp hcb (fun τ2 w1 w2 w3 w4 => ?_)
          have g2 := q4.tr w2
          refine r_valueOf (C := C) (by omega) w1 (lkR_fm hlk g2) (allR_fm ha g2) (cR_fm g2 hc) (fun τ3 r1 r2 r3 s7 e7 => ?_)
          have hv1 := vlG_le hcs w1.lg
          have hw1 := w1.lg.len
          rw [r2, List.length_cons, nI_pred] at e7
          have g3 : fmR ps.length τ s7 := by rw [e7]; exact (g2.tr (fmR.up (by rw [List.length_cons]; omega) r1)).si _ (by omega)
          have m3 : gi s7 0 26 = nI ps.length := by rw [e7, gi_same]
          have hT3 := RlR_fm hT g3 m3
          rw [m3, cl_ix _ (by omega), hT3.top.2.2.1]
          -- on from here
          have next : ∀ (L2 : List Nat) u x, (List.range (p + 1)).filter (isT C cs n ps) = L2 → u = nI L2.length → x = trB L2 i → P136 (nI (vlG C cs ps)) u x (nI p) s7 := by
            rintro L2 u x e rfl rfl
            refine H136 _ _ _ _ _ ?_
            rw [nI_1]
            refine r_nextMay (C := C) hT3 (lkR_fm hlk g3) (allR_fm ha g3) (show p + 1 ≤ 14 by omega) (fun t k1 k2 k3 k4 τ4 hE => ?_)
            have es : (List.range t).filter (isT C cs n ps) = L2 := by
              rw [← e]
              exact flt_skip _ t rfl k1 (fun j j1 j2 => by rw [isT, k3 j j1 j2, Bool.false_and])
            have := ih t τ4 (by omega) k2 k4 (g3.tr (hE.fm _)) (by rw [hE.1 0 (by decide)]; exact m3)
            rw [es] at this
            exact this
          have after : ∀ t0 : Int32, (nI n ≤ t0 ↔ isT C cs n ps p = true) → P111 (nI (vlG C cs ps)) (nI ((List.range p).filter (isT C cs n ps)).length) (trB ((List.range p).filter (isT C cs n ps)) i) (nI p) t0 s7 := by
            intro t0 ht
            refine H111 _ _ _ _ _ _ ⟨fun z => ?_, fun z => ?_⟩
            · have hIT := ht.mp z
              have e1 : (List.range (p + 1)).filter (isT C cs n ps) = (List.range p).filter (isT C cs n ps) ++ [p] := by rw [trf_succ, if_pos hIT]
              have e2 : nI ((List.range p).filter (isT C cs n ps)).length + 1 = nI ((List.range p).filter (isT C cs n ps) ++ [p]).length := by rw [List.length_append, nI_1]; rfl
              refine ⟨fun z2 => H133 _ _ _ _ _ (fun x14 e14 => next _ _ _ e1 (e14.trans e2) ?_), fun z2 => ⟨vp_in_nI hp (by decide), fun x13 e13 => H133 _ _ _ _ _ (fun x14 e14 => next _ _ _ e1 (e14.trans e2) ?_)⟩⟩
              · rw [trB_app (by omega), if_neg z2]
              · rw [trB_app (by omega), if_pos z2, e13, cl_ix p (by omega)]
                exact allR_fm ha g3 p hp
            · have hIT : ¬ isT C cs n ps p = true := fun y => z (ht.mpr y)
              have e1 : (List.range (p + 1)).filter (isT C cs n ps) = (List.range p).filter (isT C cs n ps) := by rw [trf_succ, if_neg hIT, List.append_nil]
              exact next _ _ _ e1 rfl rfl
          have hd : ∀ x y : Nat, x ≤ 20 → y ≤ 20 → (nI n ≤ nI x - nI y ↔ y + n ≤ x) := by
            intro x y hx hy
            rw [i32_le, i_sub (by rw [nI_toInt (by omega), nI_toInt (by omega)]; omega) (by rw [nI_toInt (by omega), nI_toInt (by omega)]; omega), nI_toInt (by omega), nI_toInt (by omega), nI_toInt (by omega)]
            omega
          refine ⟨vp_in_nI (by omega) (by decide), fun z => after _ ?_, fun z => after _ ?_⟩
          · rw [hd _ _ hv1 hv0, isT, hcb, show w0G C.1 ps = false from decide_eq_false z]
            simp
          · rw [hd _ _ hv0 hv1, isT, hcb, show w0G C.1 ps = true from decide_eq_true z]
            simp
      refine r_nextMay (C := C) (i := 0) (RlR_fm hT f1 f2) (lkR_fm hlk f1) (allR_fm ha f1) (by decide) (fun t k1 k2 k3 k4 τ4 hE => ?_)
      have es : (List.range t).filter (isT C cs n ps) = [] := flt_skip (p := 0) _ t rfl k1 (fun j j1 j2 => by rw [isT, k3 j j1 j2, Bool.false_and])
      have := loop 14 t τ4 (by omega) k2 k4 (f1.tr (hE.fm _)) (by rw [hE.1 0 (by decide)]; exact f2)
      rw [es] at this
      have e0 : trB [] i = -1 := by
        unfold trB
        split <;> rfl
      rw [e0] at this
      exact this
    · refine absurd ⟨?_, ?_⟩ (bI_0.mp c)
      · exact nI_le (a := 1) hn1 (by omega)
      · exact nI_le (b := 20) hn20 (by decide)
  · refine absurd ⟨nI_pos' (by omega), ?_⟩ (bI_0.mp c)
    rw [h00, show nc = (nc - 1) + 1 by omega, nI_pred]
    exact nI_le (by omega) (by omega)
theorem bsZ_30 {o : Option Nat} (h : ∀ j, o = some j → j < 14) : bsZ o = 30 ↔ o = some 6 := by
  cases o with
  | none => exact ⟨fun z => absurd z (by decide), fun z => by cases z⟩
  | some j =>
    have e := (by decide +kernel : ∀ j, j < 14 → (nI (PLa j) = 30 ↔ j = 6)) j (h j rfl)
    exact e.trans ⟨fun z => by rw [z], fun z => Option.some.inj z⟩
theorem r_edge {d nc k : Nat} {C : Cx} {cs : Cs} {ps : List Nat} {τ : St} {Q : Int32 → St → Prop} (hn : nc < 5) (hk : k < nc) (h00 : gi τ 0 0 = nI nc) (hT : RlR τ C.1 ps) (hlk : lkR τ C) (ha : allR τ) (hc : cR τ k cs)
    (h3 : cb C ps 6 = false → ∀ τ', eqP τ τ' → Q (-3) τ') (h : cb C ps 6 = true → ∀ e τ', edP C cs ps (sgG C.1 ps 3).toNatClampNeg e → fmR ps.length τ τ' → gi τ' 0 26 = nI ps.length → Q (nI e) τ') : EI (d + 8) idsR Y_X7_edge [.ref 0, .int (nI k)] τ Q := by
  have hl := hT.lg.len
  obtain ⟨hp, ep, -⟩ := gs_p hT.lg.gs
  refine fl_X7_edge hR (fun P52 P91 H52 H91 => kR_isCase ⟨fun _ => ?_, fun c => ?_⟩)
  · refine r_can (C := C) (i := 6) hT hlk (by decide) (fun τ0 hE => ⟨fun c => ?_, fun c => ?_⟩)
    · have h := h (bI_n.mp c)
      have m0 : gi τ0 0 26 = nI ps.length := by rw [hE.1 0 (by decide)]; exact hT.made
      rw [m0]
      refine ⟨vp_in_nI (by omega) (by decide), ?_⟩
      simp only [rf0] at H52 ⊢
      rw [cl_ix _ (by omega), hE.1 29 (by decide), hT.top.2.1]
      generalize hpp : (sgG C.1 ps 3).toNatClampNeg = p at hp ep h ⊢
      rw [ep, k6]
      rintro x19 rfl
      have hin : vp_in (nI (6 * k + p)) 24 := vp_in_nI (by omega) (by decide)
      refine ⟨hin, ?_⟩
      rw [cl_ix _ (by omega), hE.1 6 (by decide)]
      generalize hidx : 6 * k + p = idx at H52 H91 hin ⊢
      rintro x21 rfl
      have fE : ∀ τ1 v u, fmR ps.length (si τ 6 idx v) τ1 → fmR ps.length (si τ 6 idx u) (si τ1 6 idx u) := by
        intro τ1 v u g
        refine ⟨fun x j e1 e2 e3 e4 e5 => ?_, fun x => g.2 x⟩
        rw [gi_si, gi_si]
        by_cases hz : x = 6 ∧ j = idx
        · rw [if_pos hz, if_pos hz]
        · rw [if_neg hz, if_neg hz, g.1 x j e1 e2 e3 e4 e5, gi_si, if_neg hz]
      have self : ∀ x j, gi (si τ 6 idx (gi τ 6 idx)) x j = gi τ x j := by
        intro x j
        rw [gi_si]
        split
        · rename_i hz; rw [hz.1, hz.2]
        · rfl
      have RE : ∀ v, RlR (si τ 6 idx v) C.1 ps := fun v => RlR_same hT (fun k _ => by rw [gi_ne_o _ _ _ _ (by decide)]) (fun x hx => by rw [gi_si_o _ _ _ (by omega)])
      have LE : ∀ v, lkR (si τ 6 idx v) C := fun v q hq => by rw [gi_ne_o _ _ _ _ (by decide), gi_ne_o _ _ _ _ (by decide)]; exact hlk q hq
      have AE : ∀ v, allR (si τ 6 idx v) := fun v q hq => by rw [gi_ne_o _ _ _ _ (by decide)]; exact ha q hq
      have hcE : ∀ e τ1 v, e ≤ 10 → fmR ps.length (si τ 6 idx v) τ1 → cR (si τ1 6 idx (nI e)) k (csE cs p e) := by
        intro e τ1 v he g w q hw hq
        rw [gi_si, csE]
        by_cases hc2 : w = 2 ∧ q = p
        · rw [if_pos ⟨by omega, by omega⟩, if_pos hc2]; exact ⟨rfl, he⟩
        · rw [if_neg (fun z => hc2 (by omega)), if_neg hc2, g.1 _ _ (by omega) (by omega) (by omega) (by omega) (by omega), gi_si, if_neg (fun z => hc2 (by omega))]
          exact hc w q hw hq
      have loop : ∀ m f τ1, m ≤ 11 → m ≤ f → f ≤ 11 → (∃ v, fmR ps.length (si τ 6 idx v) τ1) → gi τ1 0 26 = nI ps.length → (∀ e', m ≤ e' → e' < f → bsG C (csE cs p e') ps = some 6) → (f ≤ 10 → ¬ bsG C (csE cs p f) ps = some 6) → P52 (nI idx) (gi τ 6 idx) (nI f) (nI m - 1) τ1 := by
        intro m
        induction m with
        | zero =>
          rintro f τ1 q1 q2 q3 ⟨v, g⟩ hm q5 q6
          refine H52 _ _ _ _ _ ⟨fun _ => ⟨hin, fun s es => ?_⟩, fun z => absurd (by decide) z⟩
          rw [cl_ix _ (by omega)] at es
          refine h f s ⟨q3, fun e' he' => q5 e' (Nat.zero_le _) he', q6⟩ ?_ ?_
          · have g2 := fE τ1 v (gi τ 6 idx) g
            rw [← es] at g2
            exact ⟨fun x j e1 e2 e3 e4 e5 => by rw [g2.1 x j e1 e2 e3 e4 e5]; exact self x j, fun x => g2.2 x⟩
          · rw [es, gi_ne_o _ _ _ _ (by decide)]; exact hm
        | succ m ih =>
          rintro f τ1 q1 q2 q3 ⟨v, g⟩ hm q5 q6
          rw [nI_pred]
          refine H52 _ _ _ _ _ ⟨fun z => absurd z (nI_pos (by omega)), fun _ => ⟨hin, fun s es => ?_⟩⟩
          rw [cl_ix _ (by omega)] at es
          have g2 := fE τ1 v (nI m) g
          have c2 := hcE m τ1 v (by omega) g
          have m2 : gi (si τ1 6 idx (nI m)) 0 26 = nI ps.length := by rw [gi_ne_o _ _ _ _ (by decide)]; exact hm
          rw [← es] at g2 c2 m2
          refine r_valueOf (C := C) (by omega) (RlR_fm (RE (nI m)) g2 m2) (lkR_fm (LE _) g2) (allR_fm (AE _) g2) c2 (fun τ3 w1 w2 w3 => ⟨fun z => absurd z (nI_pos ?_), fun _ => ?_⟩)
          · have := vlG_le (C := C) (cs := csE cs p m) (ps := ps) (fun w p hw hp => (c2 w p hw hp).2) hT.lg
            omega
          · rw [w2, cl_ix _ (by omega), w3]
            refine ⟨vp_in_nI (by omega) (by decide), fun c3 => H91 _ _ _ _ _ (fun x11 e11 => ?_), fun c3 => H91 _ _ _ _ _ (fun x11 e11 => ?_)⟩
            · rw [e11, ← Int32.sub_eq_add_neg]
              refine ih f τ3 (by omega) (by omega) q3 ⟨_, g2.tr w1⟩ w2 (fun e' he1 he2 => ?_) q6
              by_cases hee : e' = m
              · subst hee; exact (bsZ_30 (fun j hj => (bsG_lt hj).1)).mp c3
              · exact q5 e' (by omega) he2
            · rw [e11, ← Int32.sub_eq_add_neg]
              exact ih m τ3 (by omega) (Nat.le_refl _) (by omega) ⟨_, g2.tr w1⟩ w2 (fun e' he1 he2 => by omega) (fun _ z => c3 ((bsZ_30 (fun j hj => (bsG_lt hj).1)).mpr z))
      refine loop 11 11 τ0 (Nat.le_refl _) (Nat.le_refl _) (Nat.le_refl _) ⟨gi τ 6 idx, ⟨fun x j e1 e2 e3 e4 e5 => by rw [hE.1 x e1]; exact (self x j).symm, fun x => hE.2 x⟩⟩ m0 (fun e' he1 he2 => by omega) (fun z => absurd z (by decide))
    · exact h3 (by cases hz : cb C ps 6; rfl; exact absurd hz (bI_0.mp c)) τ0 hE
  · refine absurd ⟨nI_pos' (by omega), ?_⟩ (bI_0.mp c)
    rw [h00, show nc = (nc - 1) + 1 by omega, nI_pred]
    exact nI_le (by omega) (by omega)
