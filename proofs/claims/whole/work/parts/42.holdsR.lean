/-! PURE: the reference's pile -/
/-- what a test sees, of the reference's roll with n PLEAS -/
def faR (τ : St) (n : Nat) (f : Nat) : Int32 := if f = 0 then nI n else if f = 1 then gi τ 29 n else if f = 2 then gi τ 30 n else if f = 3 then nI (pc (gi τ 31 n).toNatClampNeg) else gi τ 32 n
theorem kR_factOf {d : Nat} {τ : St} {Q : Int32 → St → Prop} {n f : Nat} (hn : n < 8) (e : gi τ 0 26 = nI n) (ha : P32 (gi τ 31 n)) (h : Q (faR τ n f) τ) (hf : f < 5) : EI (d + 2) idsR Y_X7_factOf [.ref 0, .int (nI f)] τ Q := by
  have hin : vp_in (gi τ 0 26) 8 := by rw [e]; exact vp_in_nI hn (by decide)
  refine fl_X7_factOf hR ?_
  rw [rf0, rf0, rf0, rf0] at *
  rw [e, cl_ix n (by omega)] at *
  have hne : ∀ k : Nat, k < 5 → f ≠ k → ¬ nI f = nI k := fun k hk z q => z ((nI_eq (by omega) (by omega)).mp q)
  refine ⟨fun c => ?_, fun c => ⟨hin, ?_⟩, fun c => ⟨hin, ?_⟩, fun c => ⟨hin, ?_⟩, fun c0 c1 c2 c3 => ⟨hin, ?_⟩⟩
  · have : f = 0 := (nI_eq (by omega) (by decide)).mp c
    subst this; exact h
  · have : f = 1 := (nI_eq (b := 1) (by omega) (by decide)).mp c
    subst this; exact h
  · have : f = 2 := (nI_eq (b := 2) (by omega) (by decide)).mp c
    subst this; exact h
  · have : f = 3 := (nI_eq (b := 3) (by omega) (by decide)).mp c
    subst this
    obtain ⟨m, hm, em⟩ := ha
    have h' : Q (nI (pc (gi τ 31 n).toNatClampNeg)) τ := h
    rw [em, cl_ix m (by omega)] at h'
    rw [em]
    exact kR_ones hm h'
  · have : f = 4 := by
      rcases (by omega : f = 0 ∨ f = 1 ∨ f = 2 ∨ f = 3 ∨ f = 4) with rfl | rfl | rfl | rfl | rfl
      · exact absurd rfl c0
      · exact absurd rfl c1
      · exact absurd rfl c2
      · exact absurd rfl c3
      · rfl
    subst this; exact h
theorem tn0 {b : Bool} (h : nI b.toNat = 0) : b = false := by cases b; rfl; exact absurd h (by decide)
theorem tn1 {b : Bool} (h : ¬ nI b.toNat = 0) : b = true := by cases b; exact absurd rfl h; rfl
/-- a step as the reference has it -/
def trR (t : Int32) : Int32 := if t = -1 then -38 else if t = -2 then -124 else if t = -3 then -33 else t
/-- the pile shows the truths, the latest one on top -/
def plR (τ : St) (st : List Bool) : Prop := ∀ k, k < st.length → ∀ b, st[st.length - 1 - k]? = some b → gi τ 37 k = nI b.toNat
theorem plR_cons {τ : St} {b : Bool} {st : List Bool} : plR τ (b :: st) ↔ gi τ 37 st.length = nI b.toNat ∧ plR τ st := by
  constructor
  · intro h
    refine ⟨h st.length (by simp) b (by simp), fun k hk x hx => h k (by simp; omega) x ?_⟩
    rw [List.length_cons, show st.length + 1 - 1 - k = (st.length - 1 - k) + 1 by omega, List.getElem?_cons_succ]
    exact hx
  · rintro ⟨h1, h2⟩ k hk x hx
    rw [List.length_cons] at hk hx
    rcases Nat.lt_or_ge k st.length with q | q
    · rw [show st.length + 1 - 1 - k = (st.length - 1 - k) + 1 by omega, List.getElem?_cons_succ] at hx
      exact h2 k q x hx
    · have : k = st.length := by omega
      subst this
      rw [show st.length + 1 - 1 - st.length = 0 by omega] at hx
      cases hx
      exact h1
theorem plR_same {τ τ' : St} {st : List Bool} (h : plR τ st) (e : ∀ k, k < st.length → gi τ' 37 k = gi τ 37 k) : plR τ' st := fun k hk b hb => by rw [e k hk]; exact h k hk b hb
theorem nar_b (b : Bool) : vp_nar .boolean (nI b.toNat) = nI b.toNat := by cases b <;> rfl
/-- nothing but the pile, and longs, may differ -/
def eqP (τ τ' : St) : Prop := (∀ o, o ≠ 37 → gi τ' o = gi τ o) ∧ ∀ o, gl τ' o = gl τ o
theorem eqP.rf (τ : St) : eqP τ τ := ⟨fun _ _ => rfl, fun _ => rfl⟩
theorem eqP.put {τ τ' : St} (h : eqP τ τ') (k : Nat) (v : Int32) : eqP τ (si τ' 37 k v) := ⟨fun o ho => by rw [gi_si_o _ _ _ ho]; exact h.1 o ho, fun o => by rw [gl_si_o]; exact h.2 o⟩
theorem faR_eqP {τ τ' : St} (h : eqP τ τ') (n : Nat) : faR τ' n = faR τ n := by
  funext f
  simp only [faR, h.1 29 (by decide), h.1 30 (by decide), h.1 31 (by decide), h.1 32 (by decide)]
theorem kR_holds {d : Nat} {τ : St} {Q : Int32 → St → Prop} {c f n : Nat} {l : List Int32} (hc : c < 30) (h0 : gi τ 17 c = nI f) (h1 : gi τ 18 c = nI (f + l.length)) (hl : f + l.length ≤ 500) (hs : ∀ i t, l[i]? = some t → gi τ 19 (f + i) = trR t) (hok : okc l)
    (hn : n < 8) (en : gi τ 0 26 = nI n) (ha : P32 (gi τ 31 n)) (h : ∀ τ', eqP τ τ' → Q (bI (evc (faR τ n) l = true)) τ') : EI (d + 3) idsR Y_X7_holds [.ref 0, .int (nI c)] τ Q := by
  refine fl_X7_holds hR (fun P9 P57 P107 P131 P136 P229 P233 H9 H57 H107 H131 H136 H229 H233 => ?_)
  rw [rf0, rf0, rf0] at H9
  rw [rf0]
  have hcin : vp_in (nI c) 30 := vp_in_nI hc (by decide)
  have ec : (nI c).toNatClampNeg = c := cl_ix c (by omega)
  have h37 : IA idsR 37 2 100 := ⟨idsR_clo, by decide +kernel, rfl⟩
  have loop : ∀ (l2 : List Int32) (i : Nat) (st : List Bool) (τ1 : St), eqP τ τ1 → plR τ1 st → l.drop i = l2 → i ≤ l.length → dpl l2 st.length = some 1 → st.length ≤ 20 → (∀ τ', eqP τ τ' → Q (bI ((evl (faR τ n) l2 st).headD false = true)) τ') → P9 (nI st.length) (nI (f + i)) τ1 := by
    intro l2
    induction l2 with
    | nil =>
      intro i st τ1 hE hp hd hi hdp hst hQ
      have hlen : i = l.length := by
        have := congrArg List.length hd
        rw [List.length_drop, List.length_nil] at this
        omega
      have hst1 : st.length = 1 := Option.some.inj hdp
      obtain ⟨b, rr, rfl⟩ := one_of (st := st) (by omega)
      have hrr : rr = [] := List.length_eq_zero_iff.mp (by simpa using hst1)
      subst hrr
      have hb := (plR_cons.mp hp).1
      refine H9 _ _ _ ⟨hcin, fun _ => ?_, fun q => absurd ?_ q⟩
      · have e0 : gi τ1 37 ((0 : Int32).toNatClampNeg) = nI b.toNat := hb
        rw [e0]
        have := hQ τ1 hE
        have hQ' : Q (bI (b = true)) τ1 := this
        rw [bI_b] at hQ'
        exact ⟨by cases b; exact Or.inl rfl; exact Or.inr rfl, hQ'⟩
      · rw [ec, hE.1 18 (by decide), h1, hlen]; exact nI_le (Nat.le_refl _) (by omega)
    | cons t l3 ih =>
      intro i st τ1 hE hp hd hi hdp hst hQ
      obtain ⟨g1, g2, g3⟩ := drop_cons hd
      obtain ⟨k, hk, hdp'⟩ := dpl_cons hdp
      have hlen' := evs_len (faR τ n) hk
      have hk20 := dps_le hk hst
      have next : ∀ τ2, eqP τ τ2 → plR τ2 (evs (faR τ n) t st) → ∀ m, m = (evs (faR τ n) t st).length → P233 (nI m) (nI (f + i)) τ2 := by
        rintro τ2 hE2 hp2 m rfl
        refine H233 _ _ _ (fun x ex => ?_)
        rw [ex, ← nI_succ]
        exact ih (i + 1) _ τ2 hE2 hp2 g3 (by omega) (by rw [hlen']; exact hdp') (by omega) hQ
      have hin : vp_in (nI (f + i)) 500 := vp_in_nI (by omega) (by decide)
      have ef : (nI (f + i)).toNatClampNeg = f + i := cl_ix _ (by omega)
      refine H9 _ _ _ ⟨hcin, fun q => ?_, fun _ => ⟨hin, fun x4 ex4 => ?_⟩⟩
      · rw [ec, hE.1 18 (by decide), h1] at q
        exact absurd ((nI_leI (by omega) (by omega)).mp q) (by omega)
      rw [ef, hE.1 19 (by decide), hs i t g2] at ex4
      rcases hok.2 t (List.mem_of_getElem? g2) with rfl | rfl | rfl | ht
      · -- and
        have ex4 : x4 = -38 := ex4
        subst ex4
        obtain ⟨b, a, rr, rfl⟩ := two_of (dps_and hk)
        obtain ⟨pb, pr⟩ := plR_cons.mp hp
        obtain ⟨pa, prr⟩ := plR_cons.mp pr
        rw [evs_and] at next
        have put : ∀ v : Bool, v = (a && b) → P136 (nI (rr.length + 1)) (nI (f + i)) (nI v.toNat) (nI rr.length) 37 τ1 := by
          rintro v rfl
          refine H136 _ _ _ _ _ _ (fun _ => ⟨vp_in_nI (by simp at hst; omega) (by decide), fun s es => ?_⟩)
          rw [cl_ix _ (by simp at hst; omega), nar_b] at es
          subst es
          refine next _ (hE.put _ _) (plR_cons.mpr ⟨by rw [gi_same], plR_same prr (fun k hk => gi_ne_k _ _ _ _ (by omega))⟩) _ (by simp)
        refine ⟨fun _ => ⟨fun q => absurd q (by decide), fun _ x15 e15 => ?_⟩, fun q => absurd q (by decide)⟩
        have e15' : x15 = nI (rr.length + 1) := by rw [e15]; exact pk_m1 _
        subst e15'
        rw [nI_pred, cl_ix rr.length (by simp at hst; omega), cl_ix (rr.length + 1) (by simp at hst; omega)]
        refine ⟨fun q => absurd rfl q, fun _ => ⟨vp_in_nI (by simp at hst; omega) (by decide), fun q => H107 _ _ _ _ _ (fun _ => ?_), fun q => ⟨vp_in_nI (by simp at hst; omega) (by decide), fun q2 => H107 _ _ _ _ _ (fun _ => ?_), fun q2 => ?_⟩⟩⟩
        · rw [pa] at q
          exact put false (by rw [tn0 q]; rfl)
        · rw [show (a :: rr).length = rr.length + 1 by simp] at pb
          rw [pb] at q2
          exact put false (by rw [tn0 q2, Bool.and_false])
        · rw [show (a :: rr).length = rr.length + 1 by simp] at pb
          rw [pb] at q2
          rw [pa] at q
          exact put true (by rw [tn1 q, tn1 q2]; rfl)
      · -- or
        have ex4 : x4 = -124 := ex4
        subst ex4
        obtain ⟨b, a, rr, rfl⟩ := two_of (dps_or hk)
        obtain ⟨pb, pr⟩ := plR_cons.mp hp
        obtain ⟨pa, prr⟩ := plR_cons.mp pr
        rw [evs_or] at next
        have put : ∀ v : Bool, v = (a || b) → P136 (nI (rr.length + 1)) (nI (f + i)) (nI v.toNat) (nI rr.length) 37 τ1 := by
          rintro v rfl
          refine H136 _ _ _ _ _ _ (fun _ => ⟨vp_in_nI (by simp at hst; omega) (by decide), fun s es => ?_⟩)
          rw [cl_ix _ (by simp at hst; omega), nar_b] at es
          subst es
          refine next _ (hE.put _ _) (plR_cons.mpr ⟨by rw [gi_same], plR_same prr (fun k hk => gi_ne_k _ _ _ _ (by omega))⟩) _ (by simp)
        refine ⟨fun _ => ⟨fun q => absurd q (by decide), fun _ x15 e15 => ?_⟩, fun q => absurd q (by decide)⟩
        have e15' : x15 = nI (rr.length + 1) := by rw [e15]; exact pk_m1 _
        subst e15'
        rw [nI_pred, cl_ix rr.length (by simp at hst; omega), cl_ix (rr.length + 1) (by simp at hst; omega)]
        refine ⟨fun _ => ⟨vp_in_nI (by simp at hst; omega) (by decide), fun q => H131 _ _ _ _ _ (fun _ => ?_), fun q => ⟨vp_in_nI (by simp at hst; omega) (by decide), fun q2 => ?_, fun q2 => H131 _ _ _ _ _ (fun _ => ?_)⟩⟩, fun q => absurd q (by decide)⟩
        · rw [pa] at q
          exact put true (by rw [tn1 q]; rfl)
        · rw [show (a :: rr).length = rr.length + 1 by simp] at pb
          rw [pb] at q2
          rw [pa] at q
          exact put false (by rw [tn0 q, tn0 q2]; rfl)
        · rw [show (a :: rr).length = rr.length + 1 by simp] at pb
          rw [pb] at q2
          exact put true (by rw [tn1 q2, Bool.or_true])
      · -- not
        have ex4 : x4 = -33 := ex4
        subst ex4
        obtain ⟨b, rr, rfl⟩ := one_of (dps_not hk)
        obtain ⟨pb, prr⟩ := plR_cons.mp hp
        rw [evs_not] at next
        have put : ∀ v : Bool, v = (!b) → P57 (nI (rr.length + 1)) (nI (f + i)) (nI v.toNat) (nI rr.length) 37 τ1 := by
          rintro v rfl
          refine H57 _ _ _ _ _ _ (fun _ => ⟨vp_in_nI (by simp at hst; omega) (by decide), fun s es => ?_⟩)
          rw [cl_ix _ (by simp at hst; omega), nar_b] at es
          subst es
          refine next _ (hE.put _ _) (plR_cons.mpr ⟨by rw [gi_same], plR_same prr (fun k hk => gi_ne_k _ _ _ _ (by omega))⟩) _ (by simp)
        refine ⟨fun q => absurd rfl q, fun _ => ?_⟩
        rw [show (b :: rr).length = rr.length + 1 by simp, nI_pred, cl_ix rr.length (by simp at hst; omega)]
        refine ⟨vp_in_nI (by simp at hst; omega) (by decide), fun q => ?_, fun q => ?_⟩
        · rw [pb] at q
          exact put false (by rw [tn1 q]; rfl)
        · rw [pb] at q
          exact put true (by rw [tn0 q]; rfl)
      · -- a test
        obtain ⟨n1, n2, n3, n4⟩ := tok_ne ht
        have etr : trR t = t := by unfold trR; rw [if_neg n1, if_neg n2, if_neg n3]
        rw [etr] at ex4
        subst ex4
        obtain ⟨ff, hff, eff⟩ := tok_f ht
        have hst20 := dps_tst ht hk
        have m33 : ¬ x4 = -33 := fun z => n4 (by rw [z]; decide)
        rw [evs_tst _ ht] at next
        have put : ∀ (v : Bool), v = tst (faR τ n) x4 → P229 (nI st.length) (nI (f + i)) (nI v.toNat) (nI st.length) 37 τ1 := by
          rintro v rfl
          refine H229 _ _ _ _ _ _ (fun _ => ⟨vp_in_nI (by omega) (by decide), fun s es x ex => ?_⟩)
          rw [cl_ix _ (by omega), nar_b] at es
          subst es
          rw [ex, ← nI_succ]
          exact next _ (hE.put _ _) (plR_cons.mpr ⟨by rw [gi_same], plR_same hp (fun k hk => gi_ne_k _ _ _ _ (by omega))⟩) _ (by simp)
        refine ⟨fun _ => ⟨fun _ => ?_, fun q => absurd (nlt.mp n4) q⟩, fun q => absurd q m33⟩
        rw [eff]
        refine kR_factOf hn (by rw [hE.1 0 (by decide)]; exact en) (by rw [hE.1 31 (by decide)]; exact ha) (fun x9 e9 => ?_) hff
        rw [faR_eqP hE]
        rw [tst_def, eff, cl_ix ff (by omega), ← e9] at put
        refine ⟨fun c0 => ⟨fun c1 => ⟨fun c2 => put false ?_, fun c2 => put true ?_⟩, fun c1 => ⟨fun c2 => put false ?_, fun c2 => put true ?_⟩⟩, fun c0 => ⟨fun c2 => put false ?_, fun c2 => put true ?_⟩⟩
        · rw [if_neg c0, if_neg c1]; exact (decide_eq_false (nlt.mpr c2)).symm
        · rw [if_neg c0, if_neg c1]; exact (decide_eq_true (nle.mp c2)).symm
        · rw [if_neg c0, if_pos c1]; exact (decide_eq_false c2).symm
        · rw [if_neg c0, if_pos c1]; exact (decide_eq_true c2).symm
        · rw [if_pos c0]; exact (decide_eq_false (nlt.mpr c2)).symm
        · rw [if_pos c0]; exact (decide_eq_true (nle.mp c2)).symm
  refine ⟨hcin, fun x36 e36 => ?_⟩
  rw [ec, h0] at e36
  rw [e36]
  exact loop l 0 [] τ (eqP.rf τ) (fun k hk => absurd hk (by simp)) rfl (Nat.zero_le _) hok.1 (by decide) h
