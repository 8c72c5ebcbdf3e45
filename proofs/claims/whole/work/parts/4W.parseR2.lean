/-! PURE: the reference's pile of what waits; tests -/
def ng (c : Nat) : Int32 := if c = 33 then -3 else if c = 38 then -1 else -2
theorem rep_len (n : Nat) (st : List Nat) : (List.replicate n 33 ++ st).length = n + st.length := by rw [List.length_append, List.length_replicate]
section RW
variable {rr : Nat} {bs : List Nat}
theorem MS.top {τ : St} {r stk : List Nat} {o : List Int32} {c : Nat} (h : MS τ bs rr r (c :: stk) o) : gi τ 20 stk.length = nI c ∧ c < 128 ∧ gi τ 0 22 = nI (stk.length + 1) := by
  have hb : (c :: stk).reverse[stk.length]? = some c := by
    rw [List.reverse_cons, List.getElem?_append_right (by rw [List.length_reverse]; exact Nat.le_refl _), List.length_reverse, Nat.sub_self]; rfl
  exact ⟨(h.2.2.1 _ _ hb).1, (h.2.2.1 _ _ hb).2, h.2.1⟩
theorem MS.low {τ : St} {r stk : List Nat} {o : List Int32} {c : Nat} (h : MS τ bs rr r (c :: stk) o) : ∀ i b : Nat, stk.reverse[i]? = some b → gi τ 20 i = nI b ∧ b < 128 := by
  intro i b hb
  refine h.2.2.1 i b ?_
  rw [List.reverse_cons, List.getElem?_append_left (List.getElem?_eq_some_iff.mp hb).1]
  exact hb
theorem opS_cons (c : Nat) (stk : List Nat) : opS (c :: stk) = opS stk + (if (decide (c = 33) || decide (c = 40)) = true then 1 else 0) := by unfold opS; rw [List.countP_cons]
theorem opS_t {c : Nat} (stk : List Nat) (h : c = 33 ∨ c = 40) : opS (c :: stk) = opS stk + 1 := by
  rw [opS_cons, if_pos]
  rcases h with h | h <;> subst h <;> rfl
theorem opS_f {c : Nat} (stk : List Nat) (h : ¬ (c = 33 ∨ c = 40)) : opS (c :: stk) = opS stk := by
  have h2 : ¬ ((decide (c = 33) || decide (c = 40)) = true) := fun z => h (by
    rcases Bool.or_eq_true_iff.mp z with y | y
    · exact Or.inl (of_decide_eq_true y)
    · exact Or.inr (of_decide_eq_true y))
  rw [opS_cons, if_neg h2, Nat.add_zero]
theorem opS_le (stk : List Nat) : opS stk ≤ stk.length := List.countP_le_length
theorem r_whole {d : Nat} {τ : St} {r st : List Nat} {o : List Int32} {n : Nat} {Q : St → Prop} (hM : MS τ bs rr r (List.replicate n 33 ++ st) o) (hst : ¬ st.head? = some 33)
    (h : ∀ τ', MS τ' bs rr r st (o ++ List.replicate n (-3)) → frE rr τ τ' → Q τ') : EV (d + 2) idsR Y_X7_whole [.ref 0] τ Q := by
  refine fl_X7_whole hR (fun P0 H0 => ?_)
  have loop : ∀ n o τ1, MS τ1 bs rr r (List.replicate n 33 ++ st) o → frE rr τ τ1 → (∀ τ', MS τ' bs rr r st (o ++ List.replicate n (-3)) → frE rr τ τ' → Q τ') → P0 τ1 := by
    intro n
    induction n with
    | zero =>
      intro o τ1 hM f h
      have hM : MS τ1 bs rr r st o := hM
      have hQ : Q τ1 := h τ1 (by rw [show o ++ List.replicate 0 (-3 : Int32) = o from List.append_nil o]; exact hM) f
      refine H0 _ ?_
      have hle := hM.1.le
      have hlb := hM.2.2.2.2
      rw [hM.2.1]
      cases st with
      | nil => exact ⟨fun _ => hQ, fun z => absurd (by decide) z⟩
      | cons c st =>
        obtain ⟨t1, t2, t3⟩ := hM.top
        rw [List.length_cons] at hlb ⊢
        rw [nI_pred, cl_ix _ (by omega), rf0, t1]
        exact ⟨fun _ => hQ, fun _ => ⟨vp_in_nI (by omega) (by decide), fun _ => hQ, fun z => absurd (congrArg some ((nI_eq (b := 33) (by omega) (by decide)).mp z)) hst⟩⟩
    | succ n ih =>
      intro o τ1 hM f h
      have hM : MS τ1 bs rr r (33 :: (List.replicate n 33 ++ st)) o := hM
      have hle := hM.1.le
      have hlb := hM.2.2.2.2
      have hlow := hM.low
      obtain ⟨t1, t2, t3⟩ := hM.top
      refine H0 _ ?_
      rw [List.length_cons] at hlb
      rw [t3, nI_pred, cl_ix _ (by omega), rf0, t1]
      refine ⟨fun z => absurd z (nI_nle (by omega) (by omega)), fun _ => ⟨vp_in_nI (by omega) (by decide), fun z => absurd rfl z, fun _ => ?_⟩⟩
      refine r_put hM.1 (by omega) (show (-33 : Int32) = trR (-3) from rfl) (fun s4 a1 a2 a3 s5 e5 s6 e6 => ?_)
      have h22 : gi s4 0 22 = nI ((List.replicate n 33 ++ st).length + 1) := by rw [a3 0 22 (by omega) (by omega)]; exact t3
      have h23 : gi s4 0 23 = nI (opS (List.replicate n 33 ++ st) + 1) := by rw [a3 0 23 (by omega) (by omega), hM.2.2.2.1, opS_t _ (Or.inl rfl)]
      rw [h22, nI_pred] at e5
      have h23' : gi s5 0 23 = nI (opS (List.replicate n 33 ++ st) + 1) := by rw [e5, gi_ne_k _ _ _ _ (by decide)]; exact h23
      rw [h23', nI_pred] at e6
      have f6 : frE rr s4 s6 := by rw [e6, e5]; exact ((frE.rf rr s4).si _ (by omega)).si _ (by omega)
      refine ih (o ++ [-3]) s6 ⟨a1.put (fun x k b1 b2 b3 b4 => ?_), ?_, fun i b hb => ?_, ?_, ?_⟩ ((f.tr a2).tr f6) (fun τ' g1 g2 => h τ' ?_ g2)
      · rw [e6, gi_si, if_neg (by omega), e5, gi_si, if_neg (by omega)]
      · rw [e6, gi_ne_k _ _ _ _ (by decide), e5, gi_same]
      · rw [e6, gi_ne_o _ _ _ _ (by decide), e5, gi_ne_o _ _ _ _ (by decide), a3 20 i (by omega) (by omega)]; exact hlow i b hb
      · rw [e6, gi_same]
      · rw [List.length_append, List.length_singleton]; omega
      · rw [show List.replicate (n + 1) (-3 : Int32) = -3 :: List.replicate n (-3) from rfl]
        rw [List.append_assoc] at g1
        exact g1
  exact loop n o τ hM (frE.rf _ _) h
theorem r_settle {d a : Nat} {τ : St} {r st ops : List Nat} {o : List Int32} {Q : St → Prop} (ha : a < 128) (hM : MS τ bs rr r (ops ++ st) o) (hops : ∀ c, c ∈ ops → c = 38 ∨ (c = 124 ∧ a ≠ 38)) (hst : ∀ c, st.head? = some c → ¬ (c = 38 ∨ (c = 124 ∧ a ≠ 38)))
    (h : ∀ τ', MS τ' bs rr r st (o ++ ops.map ng) → frE rr τ τ' → Q τ') : EV (d + 2) idsR Y_X7_settle [.ref 0, .int (nI a)] τ Q := by
  refine fl_X7_settle hR (fun P0 P45 H0 H45 => ?_)
  have e38 : nI a = 38 ↔ a = 38 := nI_eq (b := 38) (by omega) (by decide)
  have loop : ∀ ops o τ1, MS τ1 bs rr r (ops ++ st) o → (∀ c, c ∈ ops → c = 38 ∨ (c = 124 ∧ a ≠ 38)) → frE rr τ τ1 → (∀ τ', MS τ' bs rr r st (o ++ ops.map ng) → frE rr τ τ' → Q τ') → P0 τ1 := by
    intro ops
    induction ops with
    | nil =>
      intro o τ1 hM _ f h
      have hM : MS τ1 bs rr r st o := hM
      have hQ : Q τ1 := h τ1 (by rw [show o ++ List.map ng [] = o from List.append_nil o]; exact hM) f
      refine H0 _ ?_
      have hle := hM.1.le
      have hlb := hM.2.2.2.2
      rw [hM.2.1]
      cases st with
      | nil => exact ⟨fun _ => hQ, fun z => absurd (by decide) z⟩
      | cons c st =>
        obtain ⟨t1, t2, t3⟩ := hM.top
        have hc := hst c rfl
        rw [List.length_cons] at hlb ⊢
        rw [nI_pred, cl_ix _ (by omega), rf0, t1]
        refine ⟨fun _ => hQ, fun _ => ⟨vp_in_nI (by omega) (by decide), fun z => absurd (Or.inl ((nI_eq (b := 38) (by omega) (by decide)).mp z)) hc, fun _ => ⟨vp_in_nI (by omega) (by decide), fun _ => hQ, fun z => ⟨fun _ => hQ, fun z2 => absurd (Or.inr ⟨(nI_eq (b := 124) (by omega) (by decide)).mp z, fun y => z2 (e38.mpr y)⟩) hc⟩⟩⟩⟩
    | cons c ops ih =>
      intro o τ1 hM hops f h
      have hM : MS τ1 bs rr r (c :: (ops ++ st)) o := hM
      have hle := hM.1.le
      have hlb := hM.2.2.2.2
      have hlow := hM.low
      obtain ⟨t1, t2, t3⟩ := hM.top
      rw [List.length_cons] at hlb
      have hcc := hops c (List.mem_cons_self ..)
      have pop : P45 τ1 := by
        refine H45 _ (fun s7 e7 => ?_)
        rw [t3, nI_pred] at e7
        have f7 : frE rr τ1 s7 := by rw [e7]; exact (frE.rf rr τ1).si _ (by omega)
        have g22 : gi s7 0 22 = nI (ops ++ st).length := by rw [e7, gi_same]
        have g20 : ∀ i, gi s7 20 i = gi τ1 20 i := fun i => by rw [e7, gi_ne_o _ _ _ _ (by decide)]
        rw [g22, cl_ix _ (by omega), rf0, g20, t1]
        refine ⟨vp_in_nI (by omega) (by decide), ?_⟩
        have hO7 : MO s7 bs rr r o := hM.1.put (fun x k b1 b2 b3 b4 => by rw [e7, gi_si, if_neg (by omega)])
        have hng : -(nI c) = trR (ng c) := by
          rcases hcc with h | ⟨h, -⟩ <;> subst h <;> rfl
        refine r_put hO7 (by omega) hng (fun s9 a1 a2 a3 => ?_)
        refine ih (o ++ [ng c]) s9 ⟨a1, ?_, fun i b hb => ?_, ?_, ?_⟩ (fun c' hc' => hops c' (List.mem_cons_of_mem _ hc')) ((f.tr f7).tr a2) (fun τ' g1 g2 => h τ' ?_ g2)
        · rw [a3 0 22 (by omega) (by omega)]; exact g22
        · rw [a3 20 i (by omega) (by omega), g20]; exact hlow i b hb
        · have hopc : opS (c :: (ops ++ st)) = opS (ops ++ st) := opS_f _ (by rcases hcc with h | ⟨h, -⟩ <;> subst h <;> decide)
          rw [a3 0 23 (by omega) (by omega), e7, gi_ne_k _ _ _ _ (by decide), hM.2.2.2.1, hopc]
        · rw [List.length_append, List.length_singleton]; omega
        · rw [List.append_assoc] at g1
          exact g1
      refine H0 _ ?_
      rw [t3, nI_pred, cl_ix _ (by omega), rf0, t1]
      refine ⟨fun z => absurd z (nI_nle (by omega) (by omega)), fun _ => ⟨vp_in_nI (by omega) (by decide), fun _ => pop, fun z => ⟨vp_in_nI (by omega) (by decide), fun z2 => ?_, fun z2 => ⟨fun z3 => ?_, fun _ => pop⟩⟩⟩⟩
      · rcases hcc with h | ⟨h, -⟩
        · exact absurd (by rw [h]; rfl) z
        · exact absurd (by rw [h]; rfl) z2
      · rcases hcc with h | ⟨-, h⟩
        · exact absurd (by rw [h]; rfl) z
        · exact absurd (e38.mp z3) h
  exact loop ops o τ hM hops (frE.rf _ _) h
/-- the reference's place of a letter, and its signs, figures -/
theorem plc : ∀ b, b < 256 → (if sx b = 97 then (3 : Int32) else if sx b = 107 then 4 else if sx b = 110 then 0 else if sx b = 112 then 1 else if sx b = 119 then 2 else -1) = ixV (ixL (kbs.getD 4 []) (nI b)) := by decide +kernel
theorem sgn : ∀ b, b < 256 → ((60 ≤ sx b ∧ sx b ≤ 62) ↔ (ixL (kbs.getD 5 []) (nI b)).isSome = true) ∧ ∀ k, k < 3 → ixL (kbs.getD 5 []) (nI b) = some k → sx b - 60 = nI k := by decide +kernel
theorem dig : ∀ b, b < 256 → ((48 ≤ sx b ∧ sx b ≤ 57) ↔ (48 ≤ b ∧ b ≤ 57)) := by decide +kernel
theorem r_place {d : Nat} {τ : St} {r : List Nat} {o : List Int32} {Q : Int32 → St → Prop} (hM : MO τ bs rr r o) (h : Q (match one 4 r with | some (k, _) => nI k | none => -1) τ) : EI (d + 1) idsR Y_X7_place [.ref 0, .int (nxR r)] τ Q := by
  have key : ∀ x : Int32, Q (if x = 97 then (3 : Int32) else if x = 107 then 4 else if x = 110 then 0 else if x = 112 then 1 else if x = 119 then 2 else -1) τ → EI (d + 1) idsR Y_X7_place [.ref 0, .int x] τ Q := by
    intro x hx
    refine fl_X7_place hR ⟨fun c => ?_, fun c => ?_, fun c => ?_, fun c => ?_, fun c => ?_, fun c1 c2 c3 c4 c5 => ?_⟩
    · subst c; exact hx
    · subst c; exact hx
    · subst c; exact hx
    · subst c; exact hx
    · subst c; exact hx
    · rwa [if_neg c1, if_neg c2, if_neg c3, if_neg c4, if_neg c5] at hx
  refine key _ ?_
  cases r with
  | nil => exact h
  | cons b r =>
    obtain ⟨-, b2, -⟩ := hM.byte
    show Q (if sx b = 97 then (3 : Int32) else if sx b = 107 then 4 else if sx b = 110 then 0 else if sx b = 112 then 1 else if sx b = 119 then 2 else -1) τ
    rw [plc b b2]
    unfold one at h
    dsimp only at h
    cases hz : ixL (kbs.getD 4 []) (nI b) with
    | none => rw [hz] at h; exact h
    | some k => rw [hz] at h; exact h
theorem r_isDigit {d : Nat} {τ : St} {r : List Nat} {o : List Int32} {Q : Int32 → St → Prop} (hM : MO τ bs rr r o) (h1 : (one 6 r).isSome = true → Q 1 τ) (h0 : one 6 r = none → Q 0 τ) : EI (d + 2) idsR Y_X7_isDigit [.ref 0] τ Q := by
  refine fl_X7_isDigit hR (r_next hM (kR_in ⟨bI_or, ?_⟩))
  cases r with
  | nil => exact h0 rfl
  | cons b r =>
    obtain ⟨-, b2, -⟩ := hM.byte
    show Q (bI (48 ≤ sx b ∧ sx b ≤ 57)) τ
    rw [bI_congr (dig b b2)]
    by_cases hd : 48 ≤ b ∧ b ≤ 57
    · rw [bI_t hd]
      refine h1 ?_
      unfold one; dsimp only; rw [dg10 b b2, if_pos hd]; rfl
    · rw [bI_f hd]
      refine h0 ?_
      unfold one; dsimp only; rw [dg10 b b2, if_neg hd]; rfl
theorem one6 {b n : Nat} {r r1 : List Nat} (hb : b < 256) (h : one 6 (b :: r) = some (n, r1)) : r1 = r ∧ (48 ≤ b ∧ b ≤ 57) ∧ n = b - 48 := by
  unfold one at h
  dsimp only at h
  rw [dg10 b hb] at h
  by_cases hd : 48 ≤ b ∧ b ≤ 57
  · rw [if_pos hd] at h
    cases h
    exact ⟨rfl, hd, rfl⟩
  · rw [if_neg hd] at h
    cases h
theorem dval : ∀ m, m < 10 → ∀ b, b < 58 → 48 ≤ b → ((10 * nI m) + sx b) - 48 = nI (10 * m + (b - 48)) := by decide +kernel
/-- a number of one figure or two -/
theorem r_takesNumber {d m : Nat} {τ : St} {r : List Nat} {o : List Int32} {Q : Int32 → St → Prop} (hm : m = 1 ∨ m = 2) (hM : MO τ bs rr r o) (h0 : one 6 r = none → Q 0 τ)
    (h1 : ∀ n r1, one 6 r = some (n, r1) → ∀ τ', MO τ' bs rr (if m = 1 then r1 else (fig2 n r1).2) o → gi τ' 0 11 = nI (if m = 1 then n else (fig2 n r1).1) → (∀ x k, ¬ (x = 0 ∧ (k = 10 ∨ k = 11)) → gi τ' x k = gi τ x k) → (∀ x, gl τ' x = gl τ x) → o.length + (if m = 1 then r1 else (fig2 n r1).2).length + 1 ≤ bs.length → Q 1 τ') :
    EI (d + 3) idsR Y_X7_takesNumber [.ref 0, .int (nI m)] τ Q := by
  refine fl_X7_takesNumber hR (fun P16 H16 => r_isDigit hM (fun z => ⟨fun _ s13 e13 => ?_, fun y => absurd y (by decide)⟩) (fun z => ⟨fun y => absurd rfl y, fun _ => h0 z⟩))
  have hM13 : MO s13 bs rr r o := hM.put (fun x k b1 b2 b3 b4 => by rw [e13, gi_si, if_neg (by omega)])
  -- one figure more
  have fig : ∀ (j v : Nat) (τ1 : St) (b : Nat) (r1 : List Nat), v < 10 → MO τ1 bs rr (b :: r1) o → gi τ1 0 11 = nI v → (48 ≤ b ∧ b ≤ 57) → j < m → (∀ τ2, MO τ2 bs rr r1 o → gi τ2 0 11 = nI (10 * v + (b - 48)) → (∀ x k, ¬ (x = 0 ∧ (k = 10 ∨ k = 11)) → gi τ2 x k = gi τ1 x k) → (∀ x, gl τ2 x = gl τ1 x) → o.length + r1.length + 1 ≤ bs.length → P16 (nI (j + 1)) τ2) → P16 (nI j) τ1 := by
    intro j v τ1 b r1 hv hM1 h11 hd hj k
    obtain ⟨-, b2, -⟩ := hM1.byte
    have h6 : one 6 (b :: r1) = some (b - 48, r1) := by unfold one; dsimp only; rw [dg10 b b2, if_pos hd]; rfl
    refine H16 _ _ ⟨fun y => absurd ((nI_leI (by omega) (by omega)).mp y) (by omega), fun _ => r_isDigit hM1 (fun _ => ⟨fun y => absurd y (by decide), fun _ => ?_⟩) (fun y => by rw [h6] at y; cases y)⟩
    refine r_next hM1 (fun s7 e7 s8 e8 x9 e9 => ?_)
    have e7' : s7 = si τ1 0 11 (nI (10 * v + (b - 48))) := by
      rw [e7, h11]
      congr 1
      exact dval v hv b (by omega) hd.1
    have hM7 : MO s7 bs rr (b :: r1) o := hM1.put (fun x k b1 b2 b3 b4 => by rw [e7', gi_si, if_neg (by omega)])
    obtain ⟨a1, a2, a3⟩ := hM7.adv e8
    rw [e9, ← nI_succ]
    refine k s8 a1 ?_ (fun x q hx => ?_) (fun x => ?_) a3
    · rw [e8, gi_ne_k _ _ _ _ (by decide), e7', gi_same]
    · rw [e8, gi_si, if_neg (by omega), e7', gi_si, if_neg (by omega)]
    · rw [e8, gl_si_o, e7', gl_si_o]
  cases hr : r with
  | nil => rw [hr] at z; cases z
  | cons b r1 =>
    subst hr
    obtain ⟨-, b2, -⟩ := hM.byte
    obtain ⟨⟨n, r1'⟩, hz⟩ := Option.isSome_iff_exists.mp z
    obtain ⟨rfl, hd, rfl⟩ := one6 b2 hz
    have h1 := h1 _ _ hz
    refine fig 0 0 s13 b r1' (by decide) hM13 (by rw [e13, gi_same]; rfl) hd (by omega) (fun τ2 a1 a2 a3 a4 a5 => ?_)
    have a3' : ∀ x k, ¬ (x = 0 ∧ (k = 10 ∨ k = 11)) → gi τ2 x k = gi τ x k := fun x k hx => by rw [a3 x k hx, e13, gi_si, if_neg (by omega)]
    have a4' : ∀ x, gl τ2 x = gl τ x := fun x => by rw [a4 x, e13, gl_si_o]
    rw [Nat.mul_zero, Nat.zero_add] at a2
    rcases hm with rfl | rfl
    · refine H16 _ _ ⟨fun _ => ?_, fun y => absurd (nI_le (a := 1) (Nat.le_refl _) (by decide)) y⟩
      exact h1 τ2 a1 a2 a3' a4' a5
    · rw [if_neg (by decide), if_neg (by decide)] at h1
      have stop : fig2 (b - 48) r1' = (b - 48, r1') → Q 1 τ2 := by
        intro hf
        rw [hf] at h1
        exact h1 τ2 a1 a2 a3' a4' a5
      have no : one 6 r1' = none → P16 (nI 1) τ2 := fun y => H16 _ _ ⟨fun y => absurd ((nI_leI (a := 2) (b := 1) (by decide) (by decide)).mp y) (by decide), fun _ => r_isDigit a1 (fun y2 => by rw [y] at y2; cases y2) (fun _ => ⟨fun _ => stop (by unfold fig2; rw [y]), fun y2 => absurd rfl y2⟩)⟩
      cases r1' with
      | nil => exact no rfl
      | cons b' r2 =>
        obtain ⟨-, c2, -⟩ := a1.byte
        by_cases hd2 : 48 ≤ b' ∧ b' ≤ 57
        · refine fig 1 (b - 48) τ2 b' r2 (by omega) a1 a2 hd2 (by decide) (fun τ3 w1 w2 w3 w4 w5 => ?_)
          refine H16 _ _ ⟨fun _ => ?_, fun y => absurd (nI_le (a := 2) (Nat.le_refl _) (by decide)) y⟩
          rw [fig2_yes c2 hd2] at h1
          exact h1 τ3 w1 w2 (fun x k hx => by rw [w3 x k hx, a3' x k hx]) (fun x => by rw [w4, a4']) w5
        · refine no ?_
          unfold one; dsimp only; rw [dg10 b' c2, if_neg hd2]; rfl
end RW
