/-! PURE: how a roll stands behind its PLEAS. Places: 0 the PLEA, 1 its KIND, 2 a slip, 3 the POINT, 4 who pleads, 5 admitted, 6 stood, 7 8 days asked by each -/
abbrev SF : Type := Nat → Int32
def PLn : List Nat := [10, 20, 21, 22, 23, 24, 30, 40, 50, 51, 52, 53, 54, 60]
def sg0 : SF := fun i => if i = 4 then 1 else if i = 6 then 1 else 0
abbrev turns (m : Nat) : Prop := m / 10 = 2 ∨ m / 10 = 5
def flw (sl : Bool) (s : SF) (m : Nat) : SF := fun i =>
  if i = 0 then nI m else if i = 1 then nI (m / 10) else if i = 2 then nI sl.toNat
  else if i = 3 then (if turns m then nI (m % 10) else s 3)
  else if i = 4 then (if turns m then 1 - s 4 else s 4)
  else if i = 5 then (if m / 10 = 2 ∨ m / 10 = 3 then s 5 ||| ((1 : Int32) <<< (s 3 &&& 31)) else s 5)
  else if i = 6 then (if turns m then s 6 ||| ((1 : Int32) <<< (nI (m % 10) &&& 31)) else s 6)
  else if i = 7 then (if m / 10 = 6 ∧ s 4 = 0 then s 7 + 1 else s 7)
  else if i = 8 then (if m / 10 = 6 ∧ s 4 = 1 then s 8 + 1 else s 8) else 0
/-- a stage as it may be, behind at most n PLEAS -/
def gs (n : Nat) (s : SF) : Prop := (∃ p q : Nat, p < 5 ∧ q < 32 ∧ s 3 = nI p ∧ s 6 = nI q ∧ q.testBit p = true) ∧ (s 4 = 0 ∨ s 4 = 1) ∧ P32 (s 5) ∧ (∃ k : Nat, k ≤ 6 ∧ s 1 = nI k) ∧ (∃ a : Nat, a ≤ n ∧ s 7 = nI a) ∧ ∃ b : Nat, b ≤ n ∧ s 8 = nI b
theorem gs0 : gs 0 sg0 := ⟨⟨0, 1, by decide, by decide, rfl, rfl, rfl⟩, Or.inr rfl, ⟨0, by decide, rfl⟩, ⟨0, by decide, rfl⟩, ⟨0, by decide, rfl⟩, ⟨0, by decide, rfl⟩⟩
theorem PLn_lt : ∀ m, m ∈ PLn → m < 100 ∧ 1 ≤ m / 10 ∧ m / 10 ≤ 6 ∧ m % 10 < 5 := by decide
theorem or_self_bit : ∀ q, q < 32 → ∀ p, p < 5 → q.testBit p = true → nI q ||| ((1 : Int32) <<< (nI p &&& 31)) = nI q := by decide +kernel
theorem or_bit_t : ∀ q, q < 32 → ∀ p, p < 5 → (q ||| 2 ^ p).testBit p = true := by decide +kernel
theorem P32_or {x : Int32} {p : Nat} (h : P32 x) (hp : p < 5) : P32 (x ||| ((1 : Int32) <<< (nI p &&& 31))) := by
  obtain ⟨n, hn, rfl⟩ := h
  exact ⟨_, (lk_or n hn p hp).2, (lk_or n hn p hp).1⟩
theorem gs_flw {n m : Nat} {s : SF} {sl : Bool} (h : gs n s) (hm : m ∈ PLn) : gs (n + 1) (flw sl s m) := by
  obtain ⟨⟨p, q, hp, hq, e3, e6, hb⟩, h4, h5, h1, ⟨a, ha, e7⟩, ⟨b, hb8, e8⟩⟩ := h
  obtain ⟨m1, m2, m3, m4⟩ := PLn_lt m hm
  refine ⟨?_, ?_, ?_, ⟨m / 10, m3, rfl⟩, ?_, ?_⟩
  · by_cases ht : turns m
    · refine ⟨m % 10, q ||| 2 ^ (m % 10), m4, (lk_or q hq _ m4).2, ?_, ?_, or_bit_t q hq _ m4⟩
      · show (if turns m then nI (m % 10) else s 3) = _; rw [if_pos ht]
      · show (if turns m then s 6 ||| ((1 : Int32) <<< (nI (m % 10) &&& 31)) else s 6) = _; rw [if_pos ht, e6, (lk_or q hq _ m4).1]
    · refine ⟨p, q, hp, hq, ?_, ?_, hb⟩
      · show (if turns m then nI (m % 10) else s 3) = _; rw [if_neg ht, e3]
      · show (if turns m then s 6 ||| ((1 : Int32) <<< (nI (m % 10) &&& 31)) else s 6) = _; rw [if_neg ht, e6]
  · show (if turns m then 1 - s 4 else s 4) = 0 ∨ (if turns m then 1 - s 4 else s 4) = 1
    by_cases ht : turns m
    · rw [if_pos ht]; rcases h4 with h4 | h4 <;> rw [h4] <;> decide
    · rw [if_neg ht]; exact h4
  · show P32 (if m / 10 = 2 ∨ m / 10 = 3 then s 5 ||| ((1 : Int32) <<< (s 3 &&& 31)) else s 5)
    split
    · rw [e3]; exact P32_or h5 hp
    · exact h5
  · show ∃ a, a ≤ n + 1 ∧ (if m / 10 = 6 ∧ s 4 = 0 then s 7 + 1 else s 7) = nI a
    split
    · exact ⟨a + 1, by omega, by rw [e7, nI_1]⟩
    · exact ⟨a, by omega, e7⟩
  · show ∃ a, a ≤ n + 1 ∧ (if m / 10 = 6 ∧ s 4 = 1 then s 8 + 1 else s 8) = nI a
    split
    · exact ⟨b + 1, by omega, by rw [e8, nI_1]⟩
    · exact ⟨b, by omega, e8⟩
/-- what a test sees behind n PLEAS -/
def faM (n : Nat) (s : SF) (f : Nat) : Int32 := if f = 0 then nI n else if f = 1 then s 3 else if f = 2 then s 4 else if f = 3 then nI (pc (s 5).toNatClampNeg) else s 1
/-- the stage behind PLEAS, the latest first -/
def stg (R : Ru) (wo : Option Nat) : List Nat → SF
  | [] => sg0
  | m :: ps => flw (smM R wo 1 (nI (m / 10)) (faM ps.length (stg R wo ps))) (stg R wo ps) m
def clM (s : SF) : Prop := s 1 = 1 ∨ s 1 = 3 ∨ s 1 = 4
def lastM (R : Ru) (wo : Option Nat) : Int32 := nmM R wo 2 5 5 R.length
def daysM (R : Ru) (wo : Option Nat) : Int32 := nmM R wo 3 1 2 R.length
theorem nmM_rng {R : Ru} (hok : okR R) {wo : Option Nat} {s els most : Int32} {E M : Nat} (hs : s = 2 ∨ s = 3) (he : els = nI E) (hm : most = nI M) (hE : E ≤ M) (hM : M ≤ 9) : ∀ n, ∃ k : Nat, k ≤ M ∧ nmM R wo s els most n = nI k := by
  intro n
  induction n with
  | zero => exact ⟨E, hE, he⟩
  | succ n ih =>
    rw [nmM]
    split
    · rename_i w x l hR
      split
      · rename_i h
        split
        · exact ⟨M, Nat.le_refl _, hm⟩
        · rename_i hlt
          rcases hok n w x l hR with ⟨h1, -⟩ | ⟨-, k, hk, rfl⟩
          · exfalso; rw [h.2] at h1; rcases hs with rfl | rfl <;> rcases h1 with h1 | h1 <;> exact absurd h1 (by decide)
          · rw [hm, nI_ltI (by omega) (by omega)] at hlt
            exact ⟨k, by omega, rfl⟩
      · exact ih
    · exact ih
theorem lastM_rng {R : Ru} (hok : okR R) (wo : Option Nat) : ∃ k : Nat, k ≤ 5 ∧ lastM R wo = nI k := nmM_rng hok (Or.inl rfl) (rfl : (5 : Int32) = nI 5) (rfl : (5 : Int32) = nI 5) (by decide) (by decide) _
theorem daysM_rng {R : Ru} (hok : okR R) (wo : Option Nat) : ∃ k : Nat, k ≤ 2 ∧ daysM R wo = nI k := nmM_rng hok (Or.inr rfl) (rfl : (1 : Int32) = nI 1) (rfl : (2 : Int32) = nI 2) (by decide) (by decide) _
/-- PLEAS of which each was made where the roll was not at its end -/
def lgl (R : Ru) (wo : Option Nat) : List Nat → Prop
  | [] => True
  | m :: ps => lgl R wo ps ∧ m ∈ PLn ∧ nI ps.length < lastM R wo ∧ ¬ clM (stg R wo ps)
theorem lgl_gs {R : Ru} {wo : Option Nat} : ∀ {ps : List Nat}, lgl R wo ps → gs ps.length (stg R wo ps)
  | [], _ => gs0
  | m :: ps, h => gs_flw (lgl_gs h.1) h.2.1
theorem lgl_len {R : Ru} (hok : okR R) {wo : Option Nat} : ∀ {ps : List Nat}, lgl R wo ps → ps.length ≤ 5
  | [], _ => Nat.zero_le _
  | m :: ps, h => by
    have hl := lgl_len hok h.1
    obtain ⟨k, hk, e⟩ := lastM_rng hok wo
    have h2 := h.2.2.1
    rw [e, nI_ltI (by omega) (by omega)] at h2
    rw [List.length_cons]
    omega
theorem lgl_drop {R : Ru} {wo : Option Nat} : ∀ {ps : List Nat} (j : Nat), lgl R wo ps → lgl R wo (ps.drop j)
  | ps, 0, h => h
  | [], j + 1, _ => trivial
  | m :: ps, j + 1, h => lgl_drop (ps := ps) j h.1
/-- a stage of the class: its object o, its days o + 10 -/
def StC (σ : St) (o : Nat) (s : SF) : Prop := (∀ i, i ≤ 6 → gi σ o i = s i) ∧ gi σ (o + 10) 0 = s 7 ∧ gi σ (o + 10) 1 = s 8
theorem StC.same {σ σ' : St} {o : Nat} {s : SF} (h : StC σ o s) (h1 : ∀ i, i ≤ 6 → gi σ' o i = gi σ o i) (h2 : gi σ' (o + 10) = gi σ (o + 10)) : StC σ' o s := ⟨fun i hi => (h1 i hi).trans (h.1 i hi), by rw [h2]; exact h.2.1, by rw [h2]; exact h.2.2⟩
theorem kC_follow {d : Nat} {ids : List Nat} {σ : St} {Q : St → Prop} {o w m n SB : Nat} {s : SF} {sl : Bool} (ho : IO ids o 4) (hw : IO ids w 4) (ro : rf o 7 = o + 10) (rw' : rf w 7 = w + 10) (h1 : o ≠ w) (h2 : o ≠ w + 10) (h3 : w ≠ o + 10) (hs : StC σ w s) (hg : gs n s) (hm : m ∈ PLn) (hn : n ≤ 5) (hSB : SB < 128) (eSB : gi σ w 9 = nI SB) (hsl : SB.testBit (m / 10) = sl)
    (h : ∀ σ', StC σ' o (flw sl s m) → (∀ x, x ≠ o → x ≠ o + 10 → gi σ' x = gi σ x) → (∀ x, gl σ' x = gl σ x) → Q σ') : EV (d + 1) ids Y_X4_follow [.ref o, .ref w, .int (nI m)] σ Q := by
  obtain ⟨m1, m2, m3, m4⟩ := PLn_lt m hm
  obtain ⟨⟨p, q, hp, hq, e3, e6, hb⟩, h4, h5, h1k, ⟨a, ha, e7⟩, ⟨b, hb8, e8⟩⟩ := id hg
  obtain ⟨w0, w7, w8⟩ := hs
  have k10 : (nI m) / 10 = nI (m / 10) := by rw [show (10 : Int32) = nI 10 from rfl]; exact pk_div (by omega) (by decide) (by decide)
  have r10 : (nI m) - (nI m) / 10 * 10 = nI (m % 10) := by rw [show (10 : Int32) = nI 10 from rfl]; exact pk_rem (by omega) (by decide) (by decide)
  have hk : ∀ j : Nat, j ≤ 6 → (nI (m / 10) = nI j ↔ m / 10 = j) := fun j hj => nI_eq (by omega) (by omega)
  refine fl_X4_follow ho hw (fun P44 P49 P66 P87 P107 P125 H44 H49 H66 H87 H107 H125 => ?_)
  rw [ro, rw', k10, r10] at *
  -- the end
  have fin : ∀ s1 : St, (∀ x, x ≠ o → gi s1 x = gi σ x) → (∀ x, gl s1 x = gl σ x) → gi s1 o 0 = nI m → gi s1 o 1 = nI (m / 10) → gi s1 o 2 = nI sl.toNat → gi s1 o 3 = flw sl s m 3 → gi s1 o 4 = flw sl s m 4 → P125 (flw sl s m 5) s1 := by
    intro s1 f0 f1 g0 g1 g2 g3 g4
    refine H125 _ _ (fun s7 e7' s8 e8' s9 e9 s10 e10 => ?_)
    have hst : gi s7 w 6 ||| ((1 : Int32) <<< (gi s7 o 3 &&& 31)) = flw sl s m 6 := by
      rw [e7', gi_ne_o _ _ _ _ (Ne.symm h1), f0 w (Ne.symm h1), gi_ne_k _ _ _ _ (by decide), g3, w0 6 (by decide)]
      show s 6 ||| ((1 : Int32) <<< ((if turns m then nI (m % 10) else s 3) &&& 31)) = (if turns m then s 6 ||| ((1 : Int32) <<< (nI (m % 10) &&& 31)) else s 6)
      by_cases ht : turns m
      · rw [if_pos ht, if_pos ht]
      · rw [if_neg ht, if_neg ht, e3, e6]; exact or_self_bit q hq p hp hb
    rw [hst] at e8'
    have A8 : ∀ x, x ≠ o → gi s8 x = gi σ x := fun x hx => by rw [e8', gi_si_o _ _ _ hx, e7', gi_si_o _ _ _ hx, f0 x hx]
    have z0 : ((0 : Int32).toNatClampNeg) = 0 := rfl
    have z1 : ((1 : Int32).toNatClampNeg) = 1 := rfl
    rw [z0, A8 (w + 10) (Ne.symm h2), w7] at e9
    have hw10 : w + 10 ≠ o + 10 := fun z => h1 (by omega)
    rw [z1, e9, gi_ne_o _ _ _ _ hw10, A8 (w + 10) (Ne.symm h2), w8, ← e9] at e10
    have B : ∀ i, i ≤ 6 → gi s10 o i = flw sl s m i := by
      intro i hi
      rw [e10, gi_ne_o _ _ _ _ (by omega), e9, gi_ne_o _ _ _ _ (by omega), e8']
      rcases (by omega : i = 0 ∨ i = 1 ∨ i = 2 ∨ i = 3 ∨ i = 4 ∨ i = 5 ∨ i = 6) with rfl | rfl | rfl | rfl | rfl | rfl | rfl
      · rw [gi_ne_k _ _ _ _ (by decide), e7', gi_ne_k _ _ _ _ (by decide), g0]; rfl
      · rw [gi_ne_k _ _ _ _ (by decide), e7', gi_ne_k _ _ _ _ (by decide), g1]; rfl
      · rw [gi_ne_k _ _ _ _ (by decide), e7', gi_ne_k _ _ _ _ (by decide), g2]; rfl
      · rw [gi_ne_k _ _ _ _ (by decide), e7', gi_ne_k _ _ _ _ (by decide), g3]
      · rw [gi_ne_k _ _ _ _ (by decide), e7', gi_ne_k _ _ _ _ (by decide), g4]
      · rw [gi_ne_k _ _ _ _ (by decide), e7', gi_same]
      · rw [gi_same]
    have C : ∀ x, x ≠ o → x ≠ o + 10 → gi s10 x = gi σ x := fun x hx hx2 => by rw [e10, gi_si_o _ _ _ hx2, e9, gi_si_o _ _ _ hx2, A8 x hx]
    have G : ∀ x, gl s10 x = gl σ x := fun x => by rw [e10, gl_si_o, e9, gl_si_o, e8', gl_si_o, e7', gl_si_o, f1]
    have D0 : gi s10 (o + 10) 0 = s 7 := by rw [e10, gi_ne_k _ _ _ _ (by decide), e9, gi_same]
    have D1 : gi s10 (o + 10) 1 = s 8 := by rw [e10, gi_same]
    refine ⟨fun c => h _ ⟨B, ?_, ?_⟩ C G, fun c => ?_⟩
    · rw [D0]; show s 7 = (if m / 10 = 6 ∧ s 4 = 0 then s 7 + 1 else s 7)
      rw [if_neg (fun z => c (by rw [B 1 (by decide)]; show nI (m / 10) = 6; rw [z.1]; rfl))]
    · rw [D1]; show s 8 = (if m / 10 = 6 ∧ s 4 = 1 then s 8 + 1 else s 8)
      rw [if_neg (fun z => c (by rw [B 1 (by decide)]; show nI (m / 10) = 6; rw [z.1]; rfl))]
    · have hk6 : m / 10 = 6 := (hk 6 (by decide)).mp ((B 1 (by decide)).symm.trans c)
      have e4 : gi s10 o 4 = s 4 := by
        rw [B 4 (by decide)]
        show (if turns m then 1 - s 4 else s 4) = s 4
        rw [if_neg (by unfold turns; omega)]
      rw [e4]
      have fr : ∀ (k : Nat) (v : Int32), (∀ i, i ≤ 6 → gi (si s10 (o + 10) k v) o i = flw sl s m i) ∧ (∀ x, x ≠ o → x ≠ o + 10 → gi (si s10 (o + 10) k v) x = gi σ x) ∧ ∀ x, gl (si s10 (o + 10) k v) x = gl σ x := fun k v =>
        ⟨fun i hi => by rw [gi_ne_o _ _ _ _ (by omega)]; exact B i hi, fun x hx hx2 => by rw [gi_si_o _ _ _ hx2]; exact C x hx hx2, fun x => by rw [gl_si_o]; exact G x⟩
      rcases h4 with h4 | h4
      · rw [h4]
        refine ⟨by exact vp_dec (by decide), by exact vp_dec (by decide), fun s14 e14 => ?_⟩
        rw [z0, D0] at e14
        subst e14
        refine h _ ⟨(fr 0 _).1, ?_, ?_⟩ (fr 0 _).2.1 (fr 0 _).2.2
        · rw [gi_same]; show s 7 + 1 = (if m / 10 = 6 ∧ s 4 = 0 then s 7 + 1 else s 7); rw [if_pos ⟨hk6, h4⟩]
        · rw [gi_ne_k _ _ _ _ (by decide), D1]; show s 8 = (if m / 10 = 6 ∧ s 4 = 1 then s 8 + 1 else s 8); rw [if_neg (fun z => by rw [h4] at z; exact absurd z.2 (by decide))]
      · rw [h4]
        refine ⟨by exact vp_dec (by decide), by exact vp_dec (by decide), fun s14 e14 => ?_⟩
        rw [z1, D1] at e14
        subst e14
        refine h _ ⟨(fr 1 _).1, ?_, ?_⟩ (fr 1 _).2.1 (fr 1 _).2.2
        · rw [gi_ne_k _ _ _ _ (by decide), D0]; show s 7 = (if m / 10 = 6 ∧ s 4 = 0 then s 7 + 1 else s 7); rw [if_neg (fun z => by rw [h4] at z; exact absurd z.2 (by decide))]
        · rw [gi_same]; show s 8 + 1 = (if m / 10 = 6 ∧ s 4 = 1 then s 8 + 1 else s 8); rw [if_pos ⟨hk6, h4⟩]
  intro s15 e15 s16 e16 s17 e17
  have hslip : ((gi s16 w 9 >>> (gi s16 o 1 &&& 31)) &&& 1) = nI sl.toNat := by
    rw [e16, gi_same, gi_ne_o _ _ _ _ (Ne.symm h1), e15, gi_ne_o _ _ _ _ (Ne.symm h1), eSB, kb_sh SB hSB _ (by omega), hsl]
  rw [hslip] at e17
  have A17 : ∀ x, x ≠ o → gi s17 x = gi σ x := fun x hx => by rw [e17, gi_si_o _ _ _ hx, e16, gi_si_o _ _ _ hx, e15, gi_si_o _ _ _ hx]
  have G17 : ∀ x, gl s17 x = gl σ x := fun x => by rw [e17, gl_si_o, e16, gl_si_o, e15, gl_si_o]
  have b0 : gi s17 o 0 = nI m := by rw [e17, gi_ne_k _ _ _ _ (by decide), e16, gi_ne_k _ _ _ _ (by decide), e15, gi_same]
  have b1 : gi s17 o 1 = nI (m / 10) := by rw [e17, gi_ne_k _ _ _ _ (by decide), e16, gi_same]
  have b2 : gi s17 o 2 = nI sl.toNat := by rw [e17, gi_same]
  rw [b1]
  have mid : ∀ t0 v3 : Int32, (v3 = 0 ↔ ¬ turns m) → t0 = flw sl s m 3 → P66 v3 t0 s17 := by
    rintro t0 v3 hv rfl
    refine H66 _ _ _ (fun s2 e2 => ?_)
    have A2 : ∀ x, x ≠ o → gi s2 x = gi σ x := fun x hx => by rw [e2, gi_si_o _ _ _ hx, A17 x hx]
    rw [A2 w (Ne.symm h1), w0 4 (by decide)]
    have nx : ∀ t, t = flw sl s m 4 → P87 t s2 := by
      rintro t rfl
      refine H87 _ _ (fun s4 e4 => ?_)
      have A4 : ∀ x, x ≠ o → gi s4 x = gi σ x := fun x hx => by rw [e4, gi_si_o _ _ _ hx, A2 x hx]
      have c1 : gi s4 o 1 = nI (m / 10) := by rw [e4, gi_ne_k _ _ _ _ (by decide), e2, gi_ne_k _ _ _ _ (by decide), b1]
      have go : P125 (flw sl s m 5) s4 := by
        refine fin s4 A4 (fun x => by rw [e4, gl_si_o, e2, gl_si_o, G17]) ?_ c1 ?_ ?_ ?_
        · rw [e4, gi_ne_k _ _ _ _ (by decide), e2, gi_ne_k _ _ _ _ (by decide), b0]
        · rw [e4, gi_ne_k _ _ _ _ (by decide), e2, gi_ne_k _ _ _ _ (by decide), b2]
        · rw [e4, gi_ne_k _ _ _ _ (by decide), e2, gi_same]
        · rw [e4, gi_same]
      have go2 : (m / 10 = 2 ∨ m / 10 = 3) → P107 s4 := by
        intro hc
        refine H107 _ ?_
        rw [A4 w (Ne.symm h1), w0 5 (by decide), w0 3 (by decide)]
        have : flw sl s m 5 = s 5 ||| ((1 : Int32) <<< (s 3 &&& 31)) := if_pos hc
        rw [← this]; exact go
      rw [c1]
      refine ⟨fun c => go2 (Or.inl ((hk 2 (by decide)).mp c)), fun c => ⟨fun c2 => ?_, fun c2 => go2 (Or.inr ((hk 3 (by decide)).mp c2))⟩⟩
      rw [A4 w (Ne.symm h1), w0 5 (by decide)]
      have : flw sl s m 5 = s 5 := by
        show (if m / 10 = 2 ∨ m / 10 = 3 then s 5 ||| ((1 : Int32) <<< (s 3 &&& 31)) else s 5) = s 5
        rw [if_neg (fun z => z.elim (fun z => c ((hk 2 (by decide)).mpr z)) (fun z => c2 ((hk 3 (by decide)).mpr z)))]
      rw [← this]; exact go
    refine ⟨fun c => nx _ ?_, fun c => nx _ ?_⟩
    · show s 4 = (if turns m then 1 - s 4 else s 4); rw [if_neg (hv.mp c)]
    · show 1 - s 4 = (if turns m then 1 - s 4 else s 4); rw [if_pos (Classical.byContradiction (fun z => c (hv.mpr z)))]
  have yes : turns m → P44 s17 := fun ht => H44 _ (H49 _ _ ⟨fun c => absurd c (by decide), fun _ => mid _ 1 ⟨fun c => absurd c (by decide), fun c => absurd ht c⟩ (by show nI (m % 10) = (if turns m then nI (m % 10) else s 3); rw [if_pos ht])⟩)
  refine ⟨fun c => yes (Or.inl ((hk 2 (by decide)).mp c)), fun c => ⟨fun c2 => ?_, fun c2 => yes (Or.inr ((hk 5 (by decide)).mp c2))⟩⟩
  have nt : ¬ turns m := fun z => z.elim (fun z => c ((hk 2 (by decide)).mpr z)) (fun z => c2 ((hk 5 (by decide)).mpr z))
  refine H49 _ _ ⟨fun _ => ?_, fun c => absurd rfl c⟩
  rw [A17 w (Ne.symm h1), w0 3 (by decide)]
  exact mid _ 0 ⟨fun _ => nt, fun _ => rfl⟩ (by show s 3 = (if turns m then nI (m % 10) else s 3); rw [if_neg nt])
