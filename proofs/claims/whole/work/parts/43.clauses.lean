/-! PURE: clauses: which kinds are barred, or slips; the number of a last or days -/
/-- clause c of the rules (but for one left out) is of a sort and a kind, and holds -/
def cHd (R : Ru) (wo : Option Nat) (s k : Int32) (fa : Nat → Int32) (c : Nat) : Bool := match R[c]? with
  | some (w, x, l) => decide (wo ≠ some c) && decide (w = s) && decide (x = k) && evc fa l
  | none => false
def smM (R : Ru) (wo : Option Nat) (s k : Int32) (fa : Nat → Int32) : Bool := (List.range R.length).any (cHd R wo s k fa)
/-- the number of a sort, after n clauses -/
def nmM (R : Ru) (wo : Option Nat) (s els most : Int32) : Nat → Int32
  | 0 => els
  | n + 1 => match R[n]? with
    | some (w, x, _) => if wo ≠ some n ∧ w = s then (if most < x then most else x) else nmM R wo s els most n
    | none => nmM R wo s els most n
def okR (R : Ru) : Prop := ∀ (c : Nat) w x l, R[c]? = some (w, x, l) → ((w = 0 ∨ w = 1) ∧ (∃ k : Nat, 1 ≤ k ∧ k ≤ 6 ∧ x = nI k) ∧ okc l) ∨ ((w = 2 ∨ w = 3) ∧ ∃ k : Nat, k ≤ 9 ∧ x = nI k)
def RuC (σ : St) (r : Nat) (R : Ru) : Prop := R.length ≤ 6 ∧ gi σ (140 + r) 0 = nI R.length ∧ ∀ (c : Nat) w x l, R[c]? = some (w, x, l) → gi σ (151 + 10 * r) c = w ∧ gi σ (152 + 10 * r) c = x ∧
  ∃ f : Nat, (if c = 0 then (0 : Int32) else gi σ (153 + 10 * r) (c - 1)) = nI f ∧ gi σ (153 + 10 * r) c = nI (f + l.length) ∧ f + l.length ≤ 100 ∧ ∀ i t, l[i]? = some t → gi σ (155 + 10 * r) (f + i) = t
def RuR (τ : St) (r : Nat) (R : Ru) : Prop := R.length ≤ 6 ∧ gi τ 13 r = nI R.length ∧ ∀ (c : Nat) w x l, R[c]? = some (w, x, l) → gi τ 14 (6 * r + c) = w ∧
  (w = 0 ∨ w = 1 → gi τ 15 (6 * r + c) = x ∧ ∃ f : Nat, gi τ 17 (6 * r + c) = nI f ∧ gi τ 18 (6 * r + c) = nI (f + l.length) ∧ f + l.length ≤ 500 ∧ ∀ i t, l[i]? = some t → gi τ 19 (f + i) = trR t) ∧
  (¬ (w = 0 ∨ w = 1) → gi τ 16 (6 * r + c) = x)
def woC (wo : Option Nat) : Int32 := match wo with | none => -1 | some c => nI c
def woR (r : Nat) (wo : Option Nat) : Int32 := match wo with | none => -1 | some c => nI (6 * r + c)
def woOk (wo : Option Nat) : Prop := ∀ c, wo = some c → c < 6
theorem woC_eq {wo : Option Nat} (hw : woOk wo) {c : Nat} (hc : c < 6) : nI c = woC wo ↔ wo = some c := by
  cases wo with
  | none => exact ⟨fun h => by
      have h' : nI c = -1 := h
      have h2 := nI_pos (n := c) (by omega)
      rw [h'] at h2
      exact absurd (by decide) h2, fun h => by cases h⟩
  | some k =>
    have := hw k rfl
    exact (nI_eq (by omega) (by omega)).trans ⟨fun h => by rw [h], fun h => by cases h; rfl⟩
theorem woR_eq {wo : Option Nat} (hw : woOk wo) {r c : Nat} (hr : r < 5) (hc : c < 6) : nI (6 * r + c) = woR r wo ↔ wo = some c := by
  cases wo with
  | none => exact ⟨fun h => by
      have h' : nI (6 * r + c) = -1 := h
      have h2 := nI_pos (n := 6 * r + c) (by omega)
      rw [h'] at h2
      exact absurd (by decide) h2, fun h => by cases h⟩
  | some k =>
    have := hw k rfl
    exact (nI_eq (by omega) (by omega)).trans ⟨fun h => by rw [show k = c by omega], fun h => by cases h; rfl⟩
/-- kinds as bits, after n clauses -/
def kbM (R : Ru) (wo : Option Nat) (s : Int32) (fa : Nat → Int32) : Nat → Nat
  | 0 => 0
  | n + 1 => match R[n]? with
    | some (w, x, l) => if wo ≠ some n ∧ w = s ∧ evc fa l = true then kbM R wo s fa n ||| 2 ^ x.toNatClampNeg else kbM R wo s fa n
    | none => kbM R wo s fa n
theorem kb_sh : ∀ B, B < 128 → ∀ k, k < 7 → ((nI B >>> (nI k &&& 31)) &&& 1) = nI (B.testBit k).toNat := by decide +kernel
theorem kb_or : ∀ B, B < 128 → ∀ k, k < 7 → (nI B ||| ((1 : Int32) <<< (nI k &&& 31))) = nI (B ||| 2 ^ k) ∧ B ||| 2 ^ k < 128 := by decide +kernel
theorem kb_set : ∀ B, B < 128 → ∀ k, k < 7 → B.testBit k = true → B ||| 2 ^ k = B := by decide +kernel
theorem kbM_lt {R : Ru} (hok : okR R) {wo : Option Nat} {s : Int32} (hs : s = 0 ∨ s = 1) {fa : Nat → Int32} : ∀ n, kbM R wo s fa n < 128 := by
  intro n
  induction n with
  | zero => exact (by decide : 0 < 128)
  | succ n ih =>
    rw [kbM]
    split
    · rename_i w x l hR
      split
      · rename_i h
        rcases hok n w x l hR with ⟨-, ⟨k, h1, h2, rfl⟩, -⟩ | ⟨h1, -⟩
        · rw [cl_ix k (by omega)]
          exact (kb_or _ ih k (by omega)).2
        · exfalso
          have hw := h.2.1
          rcases hs with rfl | rfl <;> rcases h1 with rfl | rfl <;> exact absurd hw (by decide)
      · exact ih
    · exact ih
theorem kbM_bit {R : Ru} (hok : okR R) {wo : Option Nat} {s : Int32} (hs : s = 0 ∨ s = 1) {fa : Nat → Int32} {k : Nat} (hk : k < 7) : ∀ n, n ≤ R.length → (kbM R wo s fa n).testBit k = (List.range n).any (cHd R wo s (nI k) fa) := by
  intro n
  induction n with
  | zero => intro _; simp [kbM]
  | succ n ih =>
    intro hn
    rw [List.range_succ, List.any_append, ← ih (by omega)]
    have hR : R[n]? = some (R[n]'(by omega)) := List.getElem?_eq_getElem (by omega)
    obtain ⟨w, x, l, hwx⟩ : ∃ w x l, R[n]'(by omega) = (w, x, l) := ⟨_, _, _, rfl⟩
    rw [hwx] at hR
    rw [kbM, hR]
    simp only [List.any_cons, List.any_nil, Bool.or_false, cHd, hR]
    by_cases hc : wo ≠ some n ∧ w = s ∧ evc fa l = true
    · rw [if_pos hc, Nat.testBit_or]
      obtain ⟨c1, c2, c3⟩ := hc
      rcases hok n w x l hR with ⟨-, ⟨j, h1, h2, rfl⟩, -⟩ | ⟨h1, -⟩
      · rw [cl_ix j (by omega), Nat.testBit_two_pow]
        congr 1
        rw [decide_eq_true c1, decide_eq_true c2, c3, Bool.true_and, Bool.true_and, Bool.and_true]
        exact decide_eq_decide.mpr (nI_eq (by omega) (by omega)).symm
      · exfalso
        rcases hs with rfl | rfl <;> rcases h1 with rfl | rfl <;> exact absurd c2 (by decide)
    · rw [if_neg hc]
      have : (decide (wo ≠ some n) && decide (w = s) && decide (x = nI k) && evc fa l) = false := by
        by_cases c1 : wo ≠ some n <;> by_cases c2 : w = s <;> cases c3 : evc fa l <;> simp_all
      rw [this, Bool.or_false]
theorem kbM_smM {R : Ru} (hok : okR R) {wo : Option Nat} {s : Int32} (hs : s = 0 ∨ s = 1) {fa : Nat → Int32} {k : Nat} (hk : k < 7) : (kbM R wo s fa R.length).testBit k = smM R wo s (nI k) fa := kbM_bit hok hs hk _ (Nat.le_refl _)
theorem kC_kindsThat {d : Nat} {ids : List Nat} {σ : St} {Q : Int32 → St → Prop} {r a2 : Nat} {s : Int32} {R : Ru} {wo : Option Nat} (hr : r < 5) (ho : IO ids (140 + r) 3) (ha : IA ids a2 0 5) (hRC : RuC σ r R) (hok : okR R) (hs : s = 0 ∨ s = 1) (hw : woOk wo)
    (h : Q (nI (kbM R wo s (gi σ a2) R.length)) σ) : EI (d + 2) ids Y_X3_kindsThat [.ref (140 + r), .int s, .int (woC wo), .ref a2] σ Q := by
  refine fl_X3_kindsThat ho ha (fun P6 P71 H6 H71 => ?_)
  rw [rf_rul hr, rf_rul hr, show 150 + 10 * r + 1 = 151 + 10 * r by omega, show 150 + 10 * r + 2 = 152 + 10 * r by omega] at H6
  obtain ⟨hl6, hlen, hcl⟩ := hRC
  have loop : ∀ m c, R.length - c = m → c ≤ R.length → P6 (nI (kbM R wo s (gi σ a2) c)) (nI c) σ := by
    intro m
    induction m with
    | zero =>
      intro c h1 h2
      have : c = R.length := by omega
      subst this
      refine H6 _ _ _ ⟨fun _ => h, fun q => absurd ?_ q⟩
      rw [hlen]; exact nI_le (Nat.le_refl _) (by omega)
    | succ m ih =>
      intro c h1 h2
      have hc : c < R.length := by omega
      have next := ih (c + 1) (by omega) (by omega)
      have hR : R[c]? = some (R[c]'hc) := List.getElem?_eq_getElem hc
      obtain ⟨w, x, l, hwx⟩ : ∃ w x l, R[c]'hc = (w, x, l) := ⟨_, _, _, rfl⟩
      rw [hwx] at hR
      obtain ⟨e1, e2, f, f0, f1, f2, f3⟩ := hcl c w x l hR
      have hkb : kbM R wo s (gi σ a2) (c + 1) = if wo ≠ some c ∧ w = s ∧ evc (gi σ a2) l = true then kbM R wo s (gi σ a2) c ||| 2 ^ x.toNatClampNeg else kbM R wo s (gi σ a2) c := by rw [kbM, hR]
      have skip : (¬ (wo ≠ some c ∧ w = s ∧ evc (gi σ a2) l = true)) → P71 (nI (kbM R wo s (gi σ a2) c)) (nI c) σ := by
        intro hn
        refine H71 _ _ _ (fun y ey => ?_)
        rw [ey, ← nI_succ]
        rw [hkb, if_neg hn] at next
        exact next
      have hin : vp_in (nI c) 6 := vp_in_nI (by omega) (by decide)
      have ec : (nI c).toNatClampNeg = c := cl_ix c (by omega)
      refine H6 _ _ _ ⟨fun q => ?_, fun _ => ⟨fun q => ?_, fun q => ⟨hin, ?_⟩⟩⟩
      · rw [hlen] at q
        exact absurd ((nI_leI (by omega) (by omega)).mp q) (by omega)
      · exact skip (fun z => z.1 ((woC_eq hw (by omega)).mp q))
      rw [ec, e1]
      refine ⟨fun q2 => skip (fun z => q2 z.2.1), fun q2 => ⟨hin, ?_⟩⟩
      rw [e2]
      have hB := kbM_lt hok hs (wo := wo) (fa := gi σ a2) c
      rcases hok c w x l hR with ⟨-, ⟨k, k1, k2, rfl⟩, hokc⟩ | ⟨h1, -⟩
      case inr => exfalso; rcases hs with rfl | rfl <;> rcases h1 with rfl | rfl <;> exact absurd q2 (by decide)
      rw [kb_sh _ hB k (by omega)]
      refine ⟨fun q3 => ?_, fun q3 => ?_⟩
      · refine H71 _ _ _ (fun y ey => ?_)
        rw [ey, ← nI_succ]
        have hset := kb_set _ hB k (by omega) (tn1 q3)
        rw [hkb, cl_ix k (by omega), hset, ite_self] at next
        exact next
      · refine kC_holds hr ho ha (by omega) f0 f1 f2 f3 hokc ⟨fun q4 => ?_, fun q4 => ⟨hin, fun y ey => ?_⟩⟩
        · exact skip (fun z => bI_0.mp q4 z.2.2)
        · refine H71 _ _ _ (fun z ez => ?_)
          rw [ez, ← nI_succ, ey, e2, (kb_or _ hB k (by omega)).1]
          have hp : wo ≠ some c ∧ w = s ∧ evc (gi σ a2) l = true := ⟨fun z => q ((woC_eq hw (by omega)).mpr z), q2, bI_n.mp q4⟩
          rw [hkb, if_pos hp, cl_ix k (by omega)] at next
          exact next
  exact loop R.length 0 (by omega) (Nat.zero_le _)
theorem kC_numberOf {d : Nat} {ids : List Nat} {σ : St} {Q : Int32 → St → Prop} {r : Nat} {s els most : Int32} {R : Ru} {wo : Option Nat} (hr : r < 5) (ho : IO ids (140 + r) 3) (hRC : RuC σ r R) (hw : woOk wo)
    (h : Q (nmM R wo s els most R.length) σ) : EI (d + 1) ids Y_X3_numberOf [.ref (140 + r), .int s, .int (woC wo), .int els, .int most] σ Q := by
  refine fl_X3_numberOf ho (fun P6 P46 H6 H46 => ?_)
  rw [rf_rul hr, rf_rul hr, show 150 + 10 * r + 1 = 151 + 10 * r by omega, show 150 + 10 * r + 2 = 152 + 10 * r by omega] at H6
  obtain ⟨hl6, hlen, hcl⟩ := hRC
  have loop : ∀ m c, R.length - c = m → c ≤ R.length → P6 (nmM R wo s els most c) (nI c) σ := by
    intro m
    induction m with
    | zero =>
      intro c h1 h2
      have : c = R.length := by omega
      subst this
      refine H6 _ _ _ ⟨fun _ => h, fun q => absurd ?_ q⟩
      rw [hlen]; exact nI_le (Nat.le_refl _) (by omega)
    | succ m ih =>
      intro c h1 h2
      have hc : c < R.length := by omega
      have next := ih (c + 1) (by omega) (by omega)
      have hR : R[c]? = some (R[c]'hc) := List.getElem?_eq_getElem hc
      obtain ⟨w, x, l, hwx⟩ : ∃ w x l, R[c]'hc = (w, x, l) := ⟨_, _, _, rfl⟩
      rw [hwx] at hR
      obtain ⟨e1, e2, -⟩ := hcl c w x l hR
      rw [nmM, hR] at next
      have hin : vp_in (nI c) 6 := vp_in_nI (by omega) (by decide)
      have ec : (nI c).toNatClampNeg = c := cl_ix c (by omega)
      have skip : (¬ (wo ≠ some c ∧ w = s)) → P46 (nmM R wo s els most c) (nI c) σ := by
        intro hn
        refine H46 _ _ _ (fun y ey => ?_)
        rw [ey, ← nI_succ]
        simp only [if_neg hn] at next
        exact next
      refine H6 _ _ _ ⟨fun q => ?_, fun _ => ⟨fun q => ?_, fun q => ⟨hin, ?_⟩⟩⟩
      · rw [hlen] at q
        exact absurd ((nI_leI (by omega) (by omega)).mp q) (by omega)
      · exact skip (fun z => z.1 ((woC_eq hw (by omega)).mp q))
      rw [ec, e1]
      refine ⟨fun q2 => skip (fun z => q2 z.2), fun q2 => ⟨hin, fun y ey => ?_⟩⟩
      refine H46 _ _ _ (fun z ez => ?_)
      have hp : wo ≠ some c ∧ w = s := ⟨fun z => q ((woC_eq hw (by omega)).mpr z), q2⟩
      simp only [if_pos hp] at next
      rw [ez, ← nI_succ, ey, e2]
      exact next
  exact loop R.length 0 (by omega) (Nat.zero_le _)
theorem k6 {r c : Nat} : ((6 : Int32) * nI r) + nI c = nI (6 * r + c) := by
  rw [show (6 : Int32) = nI 6 from rfl, pk_mul, nI_add]
theorem kR_figureOf {d : Nat} {τ : St} {Q : Int32 → St → Prop} {r : Nat} {s els most : Int32} {R : Ru} {wo : Option Nat} (hr : r < 5) (hRR : RuR τ r R) (hs : s = 2 ∨ s = 3) (hw : woOk wo) (e24 : gi τ 0 24 = nI r) (e25 : gi τ 0 25 = woR r wo)
    (h : Q (nmM R wo s els most R.length) τ) : EI (d + 1) idsR Y_X7_figureOf [.ref 0, .int s, .int most, .int els] τ Q := by
  refine fl_X7_figureOf hR (fun P12 P76 P78 H12 H76 H78 x10 e10 => ?_)
  rw [rf0, rf0, rf0] at H12
  obtain ⟨hl6, hlen, hcl⟩ := hRR
  have loop : ∀ m c, R.length - c = m → c ≤ R.length → P12 (nmM R wo s els most c) (nI (6 * r + c)) τ := by
    intro m
    induction m with
    | zero =>
      intro c h1 h2
      have : c = R.length := by omega
      subst this
      refine H12 _ _ _ ?_
      rw [e24, cl_ix r (by omega), hlen, k6]
      exact ⟨vp_in_nI hr (by decide), fun _ => h, fun q => absurd (nI_le (Nat.le_refl _) (by omega)) q⟩
    | succ m ih =>
      intro c h1 h2
      have hc : c < R.length := by omega
      have next := ih (c + 1) (by omega) (by omega)
      have hR : R[c]? = some (R[c]'hc) := List.getElem?_eq_getElem hc
      obtain ⟨w, x, l, hwx⟩ : ∃ w x l, R[c]'hc = (w, x, l) := ⟨_, _, _, rfl⟩
      rw [hwx] at hR
      obtain ⟨e1, -, e2⟩ := hcl c w x l hR
      rw [nmM, hR] at next
      have hin : vp_in (nI (6 * r + c)) 30 := vp_in_nI (by omega) (by decide)
      have ec : (nI (6 * r + c)).toNatClampNeg = 6 * r + c := cl_ix _ (by omega)
      have step : ∀ v, v = nmM R wo s els most (c + 1) → P78 v (nI (6 * r + c)) τ := by
        rintro v rfl
        refine H78 _ _ _ (fun y ey => ?_)
        rw [ey, ← nI_succ]
        exact ih (c + 1) (by omega) (by omega)
      have hnm : nmM R wo s els most (c + 1) = if wo ≠ some c ∧ w = s then (if most < x then most else x) else nmM R wo s els most c := by rw [nmM, hR]
      refine H12 _ _ _ ?_
      rw [e24, cl_ix r (by omega), hlen, k6, e25, ec, e1]
      refine ⟨vp_in_nI hr (by decide), fun q => absurd ((nI_leI (by omega) (by omega)).mp q) (by omega), fun _ => ⟨fun q => step _ ?_, fun q => ⟨hin, fun q2 => step _ ?_, fun q2 => ⟨hin, ?_⟩⟩⟩⟩
      · rw [hnm, if_neg (fun z => z.1 ((woR_eq hw hr (by omega)).mp q))]
      · rw [hnm, if_neg (fun z => q2 z.2)]
      have hp : wo ≠ some c ∧ w = s := ⟨fun z => q ((woR_eq hw hr (by omega)).mpr z), q2⟩
      rw [e2 (fun z => by rw [q2] at z; rcases hs with rfl | rfl <;> rcases z with z | z <;> exact absurd z (by decide))]
      rw [if_pos hp] at hnm
      refine ⟨fun q3 => H76 _ _ _ (step _ ?_), fun q3 => ⟨hin, H76 _ _ _ (step _ ?_)⟩⟩
      · rw [hnm]
        by_cases hlt : most < x
        · rw [if_pos hlt]
        · rw [if_neg hlt]; exact Int32.le_antisymm q3 (nlt.mp hlt)
      · rw [hnm, if_neg (fun z => q3 (Int32.le_of_lt z))]
  rw [e10, e24]
  have := loop R.length 0 (by omega) (Nat.zero_le _)
  rw [← k6] at this
  have e0 : (6 : Int32) * nI r + nI 0 = 6 * nI r := Int32.add_zero _
  rw [e0] at this
  exact this
theorem kR_some {d : Nat} {τ : St} {Q : Int32 → St → Prop} {r n : Nat} {s : Int32} {k : Int32} {R : Ru} {wo : Option Nat} (hr : r < 5) (hRR : RuR τ r R) (hok : okR R) (hs : s = 0 ∨ s = 1) (hw : woOk wo) (e24 : gi τ 0 24 = nI r) (e25 : gi τ 0 25 = woR r wo) (hn : n < 8) (en : gi τ 0 26 = nI n) (ha : P32 (gi τ 31 n))
    (h : ∀ τ', eqP τ τ' → Q (bI (smM R wo s k (faR τ n) = true)) τ') : EI (d + 4) idsR Y_X7_some [.ref 0, .int s, .int k] τ Q := by
  refine fl_X7_some hR (fun P8 P67 H8 H67 x12 e12 => ?_)
  rw [rf0, rf0, rf0] at H8
  obtain ⟨hl6, hlen, hcl⟩ := hRR
  have loop : ∀ m c τ1, eqP τ τ1 → R.length - c = m → c ≤ R.length → (List.range c).any (cHd R wo s k (faR τ n)) = false → P8 (nI (6 * r + c)) τ1 := by
    intro m
    induction m with
    | zero =>
      intro c τ1 hE h1 h2 h3
      have : c = R.length := by omega
      subst this
      have hQ := h τ1 hE
      rw [smM, h3, bI_f (by decide)] at hQ
      refine H8 _ _ ?_
      rw [hE.1 0 (by decide), hE.1 13 (by decide), e24, cl_ix r (by omega), hlen, k6]
      exact ⟨vp_in_nI hr (by decide), fun _ => hQ, fun q => absurd (nI_le (Nat.le_refl _) (by omega)) q⟩
    | succ m ih =>
      intro c τ1 hE h1 h2 h3
      have hc : c < R.length := by omega
      have hR : R[c]? = some (R[c]'hc) := List.getElem?_eq_getElem hc
      obtain ⟨w, x, l, hwx⟩ : ∃ w x l, R[c]'hc = (w, x, l) := ⟨_, _, _, rfl⟩
      rw [hwx] at hR
      obtain ⟨e1, e2, -⟩ := hcl c w x l hR
      have hin : vp_in (nI (6 * r + c)) 30 := vp_in_nI (by omega) (by decide)
      have ec : (nI (6 * r + c)).toNatClampNeg = 6 * r + c := cl_ix _ (by omega)
      have skip : ∀ τ2, eqP τ τ2 → cHd R wo s k (faR τ n) c = false → P67 (nI (6 * r + c)) τ2 := by
        intro τ2 hE2 hf
        refine H67 _ _ (fun y ey => ?_)
        rw [ey, ← nI_succ]
        refine ih (c + 1) τ2 hE2 (by omega) (by omega) ?_
        rw [List.range_succ, List.any_append, h3]
        simp [hf]
      have hcd : cHd R wo s k (faR τ n) c = (decide (wo ≠ some c) && decide (w = s) && decide (x = k) && evc (faR τ n) l) := by rw [cHd, hR]
      refine H8 _ _ ?_
      rw [hE.1 0 (by decide), hE.1 13 (by decide), hE.1 14 (by decide), hE.1 15 (by decide), e24, cl_ix r (by omega), hlen, k6, e25, ec, e1]
      refine ⟨vp_in_nI hr (by decide), fun q => absurd ((nI_leI (by omega) (by omega)).mp q) (by omega), fun _ => ⟨fun q => skip _ hE ?_, fun q => ⟨hin, fun q2 => skip _ hE ?_, fun q2 => ⟨hin, ?_⟩⟩⟩⟩
      · rw [hcd, decide_eq_false (fun z => z ((woR_eq hw hr (by omega)).mp q))]; rfl
      · rw [hcd, decide_eq_false q2]; simp
      obtain ⟨e3, f, f0, f1, f2, f3⟩ := e2 (by rw [q2]; exact hs)
      rw [e3]
      have hokc : okc l := by
        rcases hok c w x l hR with ⟨-, -, h⟩ | ⟨h1, -⟩
        · exact h
        · exfalso; rw [q2] at h1; rcases hs with rfl | rfl <;> rcases h1 with h1 | h1 <;> exact absurd h1 (by decide)
      refine ⟨fun q3 => skip _ hE ?_, fun q3 => ?_⟩
      · rw [hcd, decide_eq_false q3]; simp
      have wne : wo ≠ some c := fun z => q ((woR_eq hw hr (by omega)).mpr z)
      refine kR_holds (by omega) (by rw [hE.1 17 (by decide)]; exact f0) (by rw [hE.1 18 (by decide)]; exact f1) f2 (fun i t ht => by rw [hE.1 19 (by decide)]; exact f3 i t ht) hokc hn (by rw [hE.1 0 (by decide)]; exact en) (by rw [hE.1 31 (by decide)]; exact ha) (fun τ2 hE2 => ?_)
      have hE' : eqP τ τ2 := ⟨fun o ho => (hE2.1 o ho).trans (hE.1 o ho), fun o => (hE2.2 o).trans (hE.2 o)⟩
      rw [faR_eqP hE]
      refine ⟨fun q4 => skip _ hE' ?_, fun q4 => ?_⟩
      · rw [hcd]
        have : evc (faR τ n) l = false := by
          cases hv : evc (faR τ n) l
          · rfl
          · rw [hv] at q4; exact absurd q4 (by decide)
        rw [this, Bool.and_false]
      · have hQ := h τ2 hE'
        have ht : smM R wo s k (faR τ n) = true := by
          rw [smM, List.any_eq_true]
          refine ⟨c, List.mem_range.mpr hc, ?_⟩
          rw [hcd, decide_eq_true wne, decide_eq_true q2, decide_eq_true q3, bI_n.mp q4]
          rfl
        rw [ht, bI_t rfl] at hQ
        exact hQ
  rw [e12, e24]
  have := loop R.length 0 τ (eqP.rf τ) (by omega) (Nat.zero_le _) rfl
  rw [← k6] at this
  have e0 : (6 : Int32) * nI r + nI 0 = 6 * nI r := Int32.add_zero _
  rw [e0] at this
  exact this
