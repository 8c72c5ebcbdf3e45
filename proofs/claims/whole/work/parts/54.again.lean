/-! PURE: rolls begun anew, what ought to be, which cases are right: both sides -/
/-- what the reference's rolls and tables take -/
def frY (τ τ' : St) : Prop := (∀ x k, ¬ (x = 0 ∧ (24 ≤ k ∧ k ≤ 26 ∨ k = 40 ∨ k = 41)) → x ≠ 7 → ¬ (27 ≤ x ∧ x ≤ 37) → ¬ (39 ≤ x ∧ x ≤ 44) → gi τ' x k = gi τ x k) ∧ ∀ x, gl τ' x = gl τ x
theorem frY.rf (τ : St) : frY τ τ := ⟨fun _ _ _ _ _ _ => rfl, fun _ => rfl⟩
theorem frY.tr {a b c : St} (h : frY a b) (h2 : frY b c) : frY a c := ⟨fun x k e1 e2 e3 e4 => (h2.1 x k e1 e2 e3 e4).trans (h.1 x k e1 e2 e3 e4), fun x => (h2.2 x).trans (h.2 x)⟩
theorem frY.si {a b : St} (h : frY a b) {x k : Nat} (v : Int32) (hx : (x = 0 ∧ (24 ≤ k ∧ k ≤ 26 ∨ k = 40 ∨ k = 41)) ∨ x = 7 ∨ (27 ≤ x ∧ x ≤ 37) ∨ (39 ≤ x ∧ x ≤ 44)) : frY a (si b x k v) := ⟨fun y j e1 e2 e3 e4 => by
  rw [gi_si, if_neg (fun z => by omega)]; exact h.1 y j e1 e2 e3 e4, h.2⟩
theorem fmR.Y {n : Nat} {a b : St} (h : fmR n a b) : frY a b := ⟨fun x k e1 e2 e3 e4 => h.1 x k (by omega) (by omega) (by omega) (by omega) (by omega), h.2⟩
theorem eq7.Y {a b : St} (h : eq7 a b) : frY a b := ⟨fun x k e1 e2 e3 e4 => by rw [h.1 x e2], h.2⟩
/-- what the class's second roll takes -/
def frT (σ σ' : St) : Prop := (∀ x k, x ≠ 109 → (x < 300 ∨ 400 ≤ x ∨ (x = 310 ∧ k ≤ 6) ∨ x = 320) → gi σ' x k = gi σ x k) ∧ ∀ x, gl σ' x = gl σ x
theorem frT.rf (σ : St) : frT σ σ := ⟨fun _ _ _ _ => rfl, fun _ => rfl⟩
theorem frT.tr {a b c : St} (h : frT a b) (h2 : frT b c) : frT a c := ⟨fun x k e1 e2 => (h2.1 x k e1 e2).trans (h.1 x k e1 e2), fun x => (h2.2 x).trans (h.2 x)⟩
theorem fmN.T {n : Nat} {a b : St} (hn : n ≤ 5) (h : fmN 109 n a b) : frT a b := ⟨fun x k e1 e2 => h.1 x k (fun z => by have hB : Bo 109 = 300 := rfl; unfold exc at z; omega), h.2⟩
theorem Inv.anew {nc : Nat} {σ τ σ' τ' : St} (h : Inv nc σ τ) {Rs : List Ru} {G : Gm} {ps : List Nat} (hi : InR Rs G ps σ τ) (f1 : frT σ σ') (f2 : frY τ τ') (hT : RlR τ' G ps) (h25 : gi τ' 0 25 = -1) (h24 : gi τ' 0 24 = gi τ 0 24) : Inv nc σ' τ' := by
  obtain ⟨hu, hC, -, hg, -, h24'⟩ := hi
  refine h.walk (fun x k a1 a2 a3 a4 a5 a6 a7 => f1.1 x k a3 (by omega)) f1.2 (fun x k a1 a2 a3 a4 => f2.1 x k a1 a2 a3 a4) f2.2 hu ⟨G, ps, RlC_same hC (fun x k hx => f1.1 x k (by omega) (by omega)), hT, hg, h25, fun z => by rw [h24]; exact h24' z⟩
section AG
variable {d nc : Nat} {σ τ : St}
/-- the reference's roll is empty, by rules r -/
theorem r_empty {Q : St → Prop} (h : ∀ τ', gi τ' 0 26 = 0 → StR τ' 0 sg0 → (∀ x k, ¬ (x = 0 ∧ k = 26) → ¬ (28 ≤ x ∧ x ≤ 36) → gi τ' x k = gi τ x k) → (∀ x, gl τ' x = gl τ x) → Q τ') : EV (d + 1) idsR Y_X7_empty [.ref 0] τ Q := by
  refine fl_X7_empty hR (fun s1 e1 s2 e2 s3 e3 s4 e4 s5 e5 s6 e6 s7 e7 s8 e8 s9 e9 s10 e10 => ?_)
  simp only [rf0] at e2 e3 e4 e5 e6 e7 e8 e9 e10
  have z0 : Int32.toNatClampNeg 0 = 0 := rfl
  rw [z0] at e2 e3 e4 e5 e6 e7 e8 e9 e10
  have E : s10 = si (si (si (si (si (si (si (si (si (si τ 0 26 0) 28 0 1) 29 0 0) 30 0 1) 31 0 0) 32 0 0) 33 0 0) 34 0 0) 35 0 0) 36 0 (vp_nar .boolean 0) := by
    rw [e10, e9, e8, e7, e6, e5, e4, e3, e2, e1]
  have g : ∀ x k, gi s10 x k = if x = 36 ∧ k = 0 then 0 else if x = 35 ∧ k = 0 then 0 else if x = 34 ∧ k = 0 then 0 else if x = 33 ∧ k = 0 then 0 else if x = 32 ∧ k = 0 then 0 else if x = 31 ∧ k = 0 then 0 else if x = 30 ∧ k = 0 then 1 else if x = 29 ∧ k = 0 then 0 else if x = 28 ∧ k = 0 then 1 else if x = 0 ∧ k = 26 then 0 else gi τ x k := by
    intro x k
    rw [E]
    simp only [gi_si]
    rfl
  refine h s10 ?_ ⟨?_, ?_, ?_, ?_, ?_, ?_, ?_, ?_, ?_⟩ (fun x k h1 h2 => ?_) (fun x => by rw [E]; rfl)
  · rw [g]; rfl
  · rw [g]; rfl
  · rw [g]; rfl
  · rw [g]; rfl
  · rw [g]; rfl
  · rw [g]; rfl
  · rw [g]; rfl
  · rw [g]; rfl
  · rw [g]; rfl
  · rw [g]; rfl
  · rw [g, if_neg (by omega), if_neg (by omega), if_neg (by omega), if_neg (by omega), if_neg (by omega), if_neg (by omega), if_neg (by omega), if_neg (by omega), if_neg (by omega), if_neg h1]
theorem r_beginBy {Q : St → Prop} {r : Nat} {R : Ru} {wo : Option Nat} (hr : r < 5) (hRR : RuR τ r R) (hok : okR R) (hwo : woOk wo) (h8 : ¬ gi τ 0 8 = 0) (h25 : gi τ 0 25 = woR r wo)
    (h : ∀ τ', RlR τ' (some (r, R, wo)) [] → (∀ x k, ¬ (x = 0 ∧ (k = 24 ∨ k = 26)) → ¬ (28 ≤ x ∧ x ≤ 36) → gi τ' x k = gi τ x k) → (∀ x, gl τ' x = gl τ x) → gi τ' 0 24 = nI r → Q τ') : EV (d + 2) idsR Y_X7_beginBy [.ref 0, .int (nI r)] τ Q := by
  refine fl_X7_beginBy hR (fun s1 e1 => r_empty (fun τ' a1 a2 a3 a4 => ?_))
  have out : ∀ x k, ¬ (x = 0 ∧ (k = 24 ∨ k = 26)) → ¬ (28 ≤ x ∧ x ≤ 36) → gi τ' x k = gi τ x k := fun x k h1 h2 => by rw [a3 x k (by omega) h2, e1, gi_si, if_neg (by omega)]
  have h24 : gi τ' 0 24 = nI r := by rw [a3 0 24 (by omega) (by omega), e1, gi_same]
  refine h τ' ⟨⟨⟨h24, by rw [out 0 25 (by omega) (by omega)]; exact h25, a1, fun j hj => ?_, fun j m hm => by cases hm⟩, hr, RuR_same hRR (fun x x1 x2 => funext fun k => out x k (by omega) (by omega)), hok, hwo, trivial⟩, by rw [out 0 8 (by omega) (by omega)]; exact h8⟩ out (fun x => by rw [a4, e1, gl_si_o]) h24
  have : j = 0 := Nat.le_zero.mp hj
  subst this
  exact a2
/-- the roll is put aside .. -/
theorem r_keepRoll {Q : St → Prop} {n : Nat} (hn : n ≤ 5) (h26 : gi τ 0 26 = nI n) (h : ∀ τ', gi τ' 0 40 = nI n → gi τ' 0 41 = gi τ 0 24 → (∀ j, j < n → gi τ' 39 j = gi τ 27 j) → (∀ x k, ¬ (x = 0 ∧ (k = 40 ∨ k = 41)) → x ≠ 39 → gi τ' x k = gi τ x k) → (∀ x, gl τ' x = gl τ x) → Q τ') : EV (d + 1) idsR Y_X7_keepRoll [.ref 0] τ Q := by
  refine fl_X7_keepRoll hR (fun P18 H18 s6 e6 s7 e7 => ?_)
  simp only [rf0] at H18
  have o7 : ∀ x k, ¬ (x = 0 ∧ (k = 40 ∨ k = 41)) → gi s7 x k = gi τ x k := fun x k hx => by rw [e7, gi_si, if_neg (by omega), e6, gi_si, if_neg (by omega)]
  have h40 : gi s7 0 40 = nI n := by rw [e7, gi_ne_k _ _ _ _ (by decide), e6, gi_same]; exact h26
  have h41 : gi s7 0 41 = gi τ 0 24 := by rw [e7, gi_same, e6, gi_ne_k _ _ _ _ (by decide)]
  have loop : ∀ m k τ1, n - k = m → k ≤ n → (∀ j, j < k → gi τ1 39 j = gi τ 27 j) → (∀ x j, x ≠ 39 → gi τ1 x j = gi s7 x j) → (∀ x, gl τ1 x = gl τ x) → P18 (nI k) τ1 := by
    intro m
    induction m with
    | zero =>
      intro k τ1 q1 q2 q3 q4 q5
      have hk : k = n := by omega
      refine H18 _ _ ?_
      rw [q4 0 26 (by omega), o7 0 26 (by omega), h26, hk]
      refine ⟨fun _ => h τ1 (by rw [q4 0 40 (by omega)]; exact h40) (by rw [q4 0 41 (by omega)]; exact h41) (by rw [← hk]; exact q3) (fun x j x1 x2 => by rw [q4 x j x2, o7 x j x1]) q5, fun z => absurd (nI_le (Nat.le_refl _) (by omega)) z⟩
    | succ m ih =>
      intro k τ1 q1 q2 q3 q4 q5
      refine H18 _ _ ?_
      rw [q4 0 26 (by omega), o7 0 26 (by omega), h26]
      refine ⟨fun z => absurd ((nI_leI (by omega) (by omega)).mp z) (by omega), fun _ => ⟨vp_in_nI (by omega) (by decide), vp_in_nI (by omega) (by decide), fun s4 e4 x5 e5 => ?_⟩⟩
      rw [cl_ix k (by omega)] at e4
      rw [e5, ← nI_succ]
      refine ih (k + 1) s4 (by omega) (by omega) (fun j hj => ?_) (fun x j hx => by rw [e4, gi_ne_o _ _ _ _ hx]; exact q4 x j hx) (fun x => by rw [e4, gl_si_o]; exact q5 x)
      rw [e4, gi_si]
      by_cases hjk : j = k
      · rw [if_pos ⟨rfl, hjk⟩, hjk, q4 27 k (by decide), o7 27 k (by omega)]
      · rw [if_neg (by omega)]; exact q3 j (by omega)
  exact loop n 0 s7 rfl (Nat.zero_le _) (fun j hj => absurd hj (Nat.not_lt_zero _)) (fun _ _ _ => rfl) (fun x => by rw [e7, gl_si_o, e6, gl_si_o])
/-- .. and made again -/
theorem r_putBack {Q : St → Prop} {r : Nat} {R : Ru} {ps : List Nat} (hr : r < 5) (hRR : RuR τ r R) (hok : okR R) (hlg : lgl R none ps) (h8 : ¬ gi τ 0 8 = 0) (h40 : gi τ 0 40 = nI ps.length) (h41 : gi τ 0 41 = nI r) (h39 : ∀ j, j < ps.length → gi τ 39 j = nI (ps.reverse.getD j 0))
    (h : ∀ τ', RlR τ' (some (r, R, none)) ps → frY τ τ' → gi τ' 0 25 = -1 → gi τ' 0 24 = nI r → Q τ') : EV (d + 6) idsR Y_X7_putBack [.ref 0] τ Q := by
  have hl := lgl_len hok hlg
  refine fl_X7_putBack hR (fun P15 H15 s5 e5 => ?_)
  simp only [rf0] at H15
  have o5 : ∀ x k, ¬ (x = 0 ∧ k = 25) → gi s5 x k = gi τ x k := fun x k hx => by rw [e5, gi_si, if_neg hx]
  rw [o5 0 41 (by omega), h41]
  refine r_beginBy (d := d + 3) hr (RuR_same hRR (fun x x1 x2 => funext fun k => o5 x k (by omega))) hok (fun c hc => by cases hc) (by rw [o5 0 8 (by omega)]; exact h8) (show gi s5 0 25 = woR r none by rw [e5, gi_same]; rfl) (fun τ1 a1 a2 a3 a4 => ?_)
  have f1 : frY τ τ1 := ⟨fun x k b1 b2 b3 b4 => by rw [a2 x k (by omega) (by omega), o5 x k (by omega)], fun x => by rw [a3, e5, gl_si_o]⟩
  have h25 : gi τ1 0 25 = -1 := by rw [a2 0 25 (by omega) (by omega), e5, gi_same]
  have loop : ∀ m k τ2, ps.length - k = m → k ≤ ps.length → RlR τ2 (some (r, R, none)) (ps.drop (ps.length - k)) → (∀ x j, ¬ (x = 0 ∧ j = 26) → ¬ (27 ≤ x ∧ x ≤ 37) → gi τ2 x j = gi τ1 x j) → (∀ x, gl τ2 x = gl τ1 x) → P15 (nI k) τ2 := by
    intro m
    induction m with
    | zero =>
      intro k τ2 q1 q2 q3 q4 q5
      have hk : k = ps.length := by omega
      rw [hk, Nat.sub_self] at q3
      refine H15 _ _ ?_
      rw [q4 0 40 (by omega) (by omega), a2 0 40 (by omega) (by omega), o5 0 40 (by omega), h40, hk]
      refine ⟨fun _ => h τ2 q3 (f1.tr ⟨fun x j b1 b2 b3 b4 => q4 x j (by omega) b3, q5⟩) (by rw [q4 0 25 (by omega) (by omega)]; exact h25) (by rw [q4 0 24 (by omega) (by omega)]; exact a4), fun z => absurd (nI_le (Nat.le_refl _) (by omega)) z⟩
    | succ m ih =>
      intro k τ2 q1 q2 q3 q4 q5
      have hk : k < ps.length := by omega
      refine H15 _ _ ?_
      rw [q4 0 40 (by omega) (by omega), a2 0 40 (by omega) (by omega), o5 0 40 (by omega), h40, cl_ix k (by omega), q4 39 k (by omega) (by omega), a2 39 k (by omega) (by omega), o5 39 k (by omega), h39 k hk]
      refine ⟨fun z => absurd ((nI_leI (by omega) (by omega)).mp z) (by omega), fun _ => ⟨vp_in_nI (by omega) (by decide), ?_⟩⟩
      have hd := rev_drop (e := ps) hk
      have hlg2 := lgl_drop (ps.length - (k + 1)) hlg
      rw [hd] at hlg2
      generalize hm : ps.reverse.getD k 0 = mm at hd hlg2
      have hlen : (ps.drop (ps.length - k)).length = k := by rw [List.length_drop]; omega
      refine kR_make q3.1.1 q3.1.2 (by omega) hlg2.2.1 (fun τ3 hE x4 e4 => ?_)
      have q3' := RlR_eqP q3 hE
      rw [e4, ← nI_succ]
      have hRo : RoR (mkT τ3 (ps.drop (ps.length - k)).length mm (stg R none (mm :: ps.drop (ps.length - k)))) r R none (mm :: ps.drop (ps.length - k)) := RoR_mk q3'.1.1
      obtain ⟨mo1, mo2, mo3⟩ := mkT_out τ3 (ps.drop (ps.length - k)).length mm (stg R none (mm :: ps.drop (ps.length - k)))
      generalize mkT τ3 (ps.drop (ps.length - k)).length mm (stg R none (mm :: ps.drop (ps.length - k))) = τ4 at hRo mo1 mo2 mo3
      have o4 : ∀ x j, ¬ (x = 0 ∧ j = 26) → ¬ (27 ≤ x ∧ x ≤ 37) → gi τ4 x j = gi τ2 x j := by
        intro x j b1 b2
        by_cases hx : x = 0
        · subst hx
          rw [mo2 j (fun z => b1 ⟨rfl, z⟩), hE.1 0 (by decide)]
        · rw [mo1 x (by omega) hx, hE.1 x (by omega)]
      refine ih (k + 1) τ4 (by omega) (by omega) ?_ (fun x j b1 b2 => by rw [o4 x j b1 b2]; exact q4 x j b1 b2) (fun x => by rw [mo3, hE.2]; exact q5 x)
      rw [hd]
      exact ⟨⟨hRo, hr, RuR_same q3.1.2.2.1 (fun x x1 x2 => funext fun j => o4 x j (by omega) (by omega)), hok, q3.1.2.2.2.2.1, hlg2⟩, by rw [o4 0 8 (by omega) (by omega)]; exact q3.2⟩
  exact loop _ 0 τ1 rfl (Nat.zero_le _) (by rw [Nat.sub_zero, List.drop_length]; exact a1) (fun _ _ _ _ => rfl) (fun _ => rfl)
/-- whether the PLAINTIFF ought to have it -/
def ouB (cs : Cs) (S : Nat) (E : Nat → Nat) : Bool := decide (5 ≤ cs 2 0) && sbW S E 0 1
theorem c_ought {k S : Nat} {E : Nat → Nat} {cs : Cs} {Q : Int32 → St → Prop} (hn : nc < 5) (hk : k < nc) (hc : cC σ k cs) (hS : gi σ (400 + 10 * k) 0 = nI S) (hS32 : S < 32) (hE : ∀ p, p < 5 → gi σ 101 p = nI (E p) ∧ E p < 32)
    (h : Q (nI (ouB cs S E).toNat) σ) : EI (d + 35) (idsC nc) Y_X1_oughtToHave [.ref (400 + 10 * k), .ref 101] σ Q := by
  refine fl_X1_oughtToHave (hCase hn hk) (hBA hn (by decide) rfl) ?_
  have z2 : ((2 : Int32).toNatClampNeg) = 2 := rfl
  have z0 : ((0 : Int32).toNatClampNeg) = 0 := rfl
  obtain ⟨c1, c2⟩ := hc 2 0 (by decide) (by decide)
  rw [rf_cs (by omega), z2, rf_cs2 (by omega), z0, c1]
  unfold ouB at h
  refine ⟨fun z => ?_, fun z => ?_⟩
  · have := (nI_ltI (b := 5) (by omega) (by decide)).mp z
    rw [decide_eq_false (by omega), Bool.false_and] at h
    exact h
  · have h5 : ¬ cs 2 0 < 5 := fun y => z (nI_lt y (by decide))
    rw [decide_eq_true (by omega), Bool.true_and] at h
    refine c_standsUp (p := 0) hn hk (by decide) hS hS32 hE ?_
    have e1 : sbW S E 0 (2 ^ 0) = sbW S E 0 1 := rfl
    rw [e1]
    cases hb : sbW S E 0 1 with
    | false => rw [hb] at h; exact ⟨fun _ => h, fun y => absurd rfl y⟩
    | true => rw [hb] at h; exact ⟨fun y => absurd y n1_0, fun _ => h⟩
theorem r_isOught {k S : Nat} {E : Nat → Nat} {cs : Cs} {Q : Int32 → St → Prop} (hk : k < 4) (hc : cR τ k cs) (hS : gi τ 3 k = nI S) (hS32 : S < 32) (hE : ∀ p, p < 5 → gi τ 1 p = nI (E p) ∧ E p < 32)
    (h : ∀ τ', eq7 τ τ' → Q (nI (ouB cs S E).toNat) τ') : EI (d + 3) idsR Y_X7_isOught [.ref 0, .int (nI k)] τ Q := by
  refine fl_X7_isOught hR (r_findUp hk hS hS32 hE (fun τ' hE7 hU => ?_))
  have h := h τ' hE7
  have z6 : ((6 : Int32).toNatClampNeg) = 6 := rfl
  obtain ⟨c1, c2⟩ := hc 2 0 (by decide) (by decide)
  have e6 : (6 : Int32) * nI k = nI (6 * k + 0) := by
    have := k6 (r := k) (c := 0)
    rw [show nI 0 = 0 from rfl, Int32.add_zero] at this
    exact this
  rw [z6, e6, cl_ix _ (by omega), rf0, rf0, hU 1 0 (by decide) (by decide) (by decide), hE7.1 6 (by decide), c1]
  have e1 : uT S E 1 0 = sbW S E 0 1 := uT_one (p := 0) (by decide)
  rw [e1]
  unfold ouB at h
  cases hb : sbW S E 0 1 with
  | false =>
    rw [hb, Bool.and_false] at h
    exact ⟨fun _ => h, fun y => absurd rfl y⟩
  | true =>
    rw [hb, Bool.and_true] at h
    refine ⟨fun y => absurd y n1_0, fun _ => ⟨vp_in_nI (by omega) (by decide), fun z => ?_, fun z => ?_⟩⟩
    · have := (nI_ltI (b := 5) (by omega) (by decide)).mp z
      rw [decide_eq_false (by omega)] at h
      exact h
    · have h5 : ¬ cs 2 0 < 5 := fun y => z (nI_lt y (by decide))
      rw [decide_eq_true (by omega)] at h
      exact h
end AG
