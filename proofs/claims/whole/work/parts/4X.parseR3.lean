/-! PURE: the reference reads a test, and what stands within others -/
theorem one_tail {i b k : Nat} {r r1 : List Nat} (h : one i (b :: r) = some (k, r1)) : r1 = r ∧ ixL (kbs.getD i []) (nI b) = some k := by
  unfold one at h
  dsimp only at h
  cases hz : ixL (kbs.getD i []) (nI b) with
  | none => rw [hz] at h; cases h
  | some j => rw [hz] at h; cases h; exact ⟨rfl, rfl⟩
theorem tst1_a {r : List Nat} (h : one 4 r = none) : tst1 r = (false, r, []) := by simp [tst1, bnd, oneP, oneV, h]
theorem tst1_b {r r1 : List Nat} {f : Nat} (h : one 4 r = some (f, r1)) (h5 : one 5 r1 = none) : tst1 r = (false, r1, []) := by simp [tst1, bnd, oneP, oneV, h, h5]
theorem tst1_c {r r1 r2 : List Nat} {f s : Nat} (h : one 4 r = some (f, r1)) (h5 : one 5 r1 = some (s, r2)) (h6 : one 6 r2 = none) : tst1 r = (false, r2, []) := by simp [tst1, bnd, oneP, oneV, h, h5, h6]
theorem tst1_d {r r1 r2 r3 : List Nat} {f s n : Nat} (h : one 4 r = some (f, r1)) (h5 : one 5 r1 = some (s, r2)) (h6 : one 6 r2 = some (n, r3)) : tst1 r = (true, (fig2 n r3).2, [nI (1000 * f + 100 * s + (fig2 n r3).1)]) := by simp [tst1, bnd, oneP, oneV, h, h5, h6]
theorem num_tst2 (f s n : Nat) : ((1000 * nI f + 100 * nI s) + nI n) = nI (1000 * f + 100 * s + n) := by
  rw [Int32.mul_comm 1000, Int32.mul_comm 100]; exact num_tst f s n
section RX
variable {rr : Nat} {bs : List Nat}
theorem MS.mo {τ τ' : St} {r r' stk : List Nat} {o : List Int32} (h : MS τ bs rr r stk o) (hM : MO τ' bs rr r' o) (e : ∀ x k, (x = 20 ∨ (x = 0 ∧ (k = 22 ∨ k = 23))) → gi τ' x k = gi τ x k) (hl : r'.length ≤ r.length) : MS τ' bs rr r' stk o :=
  ⟨hM, by rw [e 0 22 (by omega)]; exact h.2.1, fun i c hc => by rw [e 20 i (by omega)]; exact h.2.2.1 i c hc, by rw [e 0 23 (by omega)]; exact h.2.2.2.1, by have := h.2.2.2.2; omega⟩
theorem MS.len {τ : St} {r stk : List Nat} {o : List Int32} (h : MS τ bs rr r stk o) : o.length + stk.length + r.length ≤ bs.length ∧ bs.length ≤ 100 := ⟨h.2.2.2.2, h.1.1.2.1⟩
theorem r_takesTest {d n : Nat} {τ : St} {r st : List Nat} {o : List Int32} {Q : Int32 → St → Prop} (hM : MS τ bs rr r (List.replicate n 33 ++ st) o) (hst : ¬ st.head? = some 33)
    (h1 : (tst1 r).1 = true → ∀ τ', MS τ' bs rr (tst1 r).2.1 st (o ++ (tst1 r).2.2 ++ List.replicate n (-3)) → frE rr τ τ' → Q 1 τ')
    (h0 : (tst1 r).1 = false → ∀ τ', gi τ' 0 10 = nI (bs.length - (tst1 r).2.1.length) → frE rr τ τ' → Q 0 τ') : EI (d + 4) idsR Y_X7_takesTest [.ref 0] τ Q := by
  refine fl_X7_takesTest hR (r_next hM.1 (r_place hM.1 ?_))
  cases h4 : one 4 r with
  | none =>
    rw [tst1_a h4] at h0
    exact ⟨fun z => absurd z (by decide), fun _ => h0 rfl τ hM.1.2.2.2.1 (frE.rf _ _)⟩
  | some q =>
    obtain ⟨f, r1⟩ := q
    cases r with
    | nil => cases h4
    | cons b r =>
    obtain ⟨rfl, x4⟩ := one_tail h4
    have hf : f < 5 := by
      have := oneV_ltS (i := 4) (r := b :: r1) (by unfold oneP; rw [h4])
      unfold oneV at this
      rw [h4] at this
      exact this
    refine ⟨fun _ s6 e6 => ?_, fun z => absurd (nI_pos' (by omega)) z⟩
    obtain ⟨a1, a2, a3⟩ := hM.1.adv e6
    refine r_next a1 (kR_in ?_)
    have no5 : one 5 r1 = none → Q 0 s6 := fun h5 => by
      rw [tst1_b h4 h5] at h0
      exact h0 rfl s6 a1.2.2.2.1 a2
    cases h5 : one 5 r1 with
    | none =>
      have hin : ¬ (60 ≤ nxR r1 ∧ nxR r1 ≤ 62) := by
        cases r1 with
        | nil => decide
        | cons b1 r2 =>
          obtain ⟨-, b2, -⟩ := a1.byte
          intro z
          have := ((sgn b1 b2).1).mp z
          unfold one at h5
          dsimp only at h5
          obtain ⟨k, hk⟩ := Option.isSome_iff_exists.mp this
          rw [hk] at h5
          cases h5
      rw [bI_f hin]
      exact ⟨fun z => absurd rfl z, fun _ => no5 h5⟩
    | some q =>
      obtain ⟨s, r2⟩ := q
      cases r1 with
      | nil => cases h5
      | cons b1 r1 =>
      obtain ⟨rfl, x5⟩ := one_tail h5
      have hs : s < 3 := by
        have := oneV_ltS (i := 5) (r := b1 :: r2) (by unfold oneP; rw [h5])
        unfold oneV at this
        rw [h5] at this
        exact this
      obtain ⟨-, b2, -⟩ := a1.byte
      have hin : 60 ≤ nxR (b1 :: r2) ∧ nxR (b1 :: r2) ≤ 62 := ((sgn b1 b2).1).mpr (by rw [x5]; rfl)
      rw [bI_t hin]
      refine ⟨fun _ s12 e12 => ?_, fun z => absurd z (by decide)⟩
      obtain ⟨c1, c2, c3⟩ := a1.adv e12
      have f12 := a2.tr c2
      refine r_takesNumber (m := 2) (Or.inr rfl) c1 (fun h6 => ⟨fun z => absurd rfl z, fun _ => ?_⟩) (fun k r3 h6 s13 g1 g2 g3 g4 g5 => ⟨fun _ => ?_, fun z => absurd z (by decide)⟩)
      · rw [tst1_c h4 h5 h6] at h0
        exact h0 rfl s12 c1.2.2.2.1 f12
      · rw [if_neg (by decide)] at g1 g2 g5
        have e8 : nxR (b1 :: r2) - 60 = nI s := (sgn b1 b2).2 s hs x5
        rw [tst1_d h4 h5 h6] at h1
        have h1 := h1 rfl
        have hk : (fig2 k r3).1 < 100 := fig2_lt (by
          have := oneV_ltS (i := 6) (r := r2) (by unfold oneP; rw [h6])
          unfold oneV at this
          rw [h6] at this
          exact this)
        have h6l : (fig2 k r3).2.length ≤ r2.length := by
          obtain ⟨u, hu⟩ := fig2_suf k r3
          have h1 := congrArg List.length hu
          rw [List.length_append] at h1
          cases r2 with
          | nil => cases h6
          | cons b' r' =>
            obtain ⟨e, -⟩ := one_tail h6
            rw [List.length_cons, ← e]
            omega
        generalize fig2 k r3 = kk at g1 g2 g5 h1 hk h6l
        obtain ⟨k, r4⟩ := kk
        have ht : tok (nI (1000 * f + 100 * s + k)) := ⟨f, s, k, hf, hs, hk, rfl⟩
        obtain ⟨n1, n2, n3, -⟩ := tok_ne ht
        rw [g2, e8, num_tst2]
        have f13 : frE rr τ s13 := f12.tr ⟨fun x k e1 e2 e3 => g3 x k (by omega), g4⟩
        refine r_put g1 g5 (show nI (1000 * f + 100 * s + k) = trR (nI (1000 * f + 100 * s + k)) by rw [trR, if_neg n1, if_neg n2, if_neg n3]) (fun s16 w1 w2 w3 => ?_)
        have hlen := hM.len
        have hM16 : MS s16 bs rr r4 (List.replicate n 33 ++ st) (o ++ [nI (1000 * f + 100 * s + k)]) := by
          have e16 : ∀ x k, (x = 20 ∨ (x = 0 ∧ (k = 22 ∨ k = 23))) → gi s16 x k = gi τ x k := fun x k hx => by
            rw [w3 x k (by omega) (by omega), g3 x k (by omega), e12, gi_si, if_neg (by omega), e6, gi_si, if_neg (by omega)]
          have h6l : r4.length ≤ r2.length := h6l
          refine ⟨w1, by rw [e16 0 22 (by omega)]; exact hM.2.1, fun i c hc => by rw [e16 20 i (by omega)]; exact hM.2.2.1 i c hc, by rw [e16 0 23 (by omega)]; exact hM.2.2.2.1, ?_⟩
          rw [List.length_append, List.length_singleton]
          rw [List.length_cons, List.length_cons] at hlen
          omega
        exact r_whole hM16 hst (fun τ' v1 v2 => h1 τ' v1 ((f13.tr w2).tr v2))
end RX
