/-! PURE: acts: what comes of them and which bodies ran; both sides -/
abbrev AR : Type := Int32 × List Int32
def mPP (n : Int32) (x : Int32) : AR := (x + n, [10])
def mEP (n : Int32) (x : Int32) : AR := ((mPP n (x * 3)).1, 30 :: (mPP n (x * 3)).2)
def mP (n m : Int32) (k : Nat) (x : Int32) : AR := if k = 2 then mEP n x else if k = 3 then (-(mPP n x).1, 40 :: (mPP n x).2) else if k = 5 then ((mEP n x).1 ^^^ m, 60 :: (mEP n x).2) else mPP n x
def mPA (n m : Int32) (k : Nat) (x : Int32) : AR := ((mP n m k x).1 - m, 11 :: (mP n m k x).2)
def mA (n m : Int32) (k : Nat) (x : Int32) : AR := if k = 1 then ((mPA n m k x).1 ^^^ 5, 20 :: (mPA n m k x).2) else if k = 5 then ((mPA n m k x).1 + (mEP n 2).1, 61 :: ((mPA n m k x).2 ++ (mEP n 2).2)) else mPA n m k x
def mPT (n m : Int32) (k : Nat) (x : Int32) : AR := ((mA n m k x).1 * 2, 12 :: (mA n m k x).2)
def mT (n m : Int32) (k : Nat) (x : Int32) : AR := if k = 2 ∨ k = 5 then ((mPT n m k x).1 + (mA n m k 1).1, 31 :: ((mPT n m k x).2 ++ (mA n m k 1).2)) else if k = 4 then ((mPT n m k (x - n)).1, 50 :: (mPT n m k (x - n)).2) else if k = 6 then ((mA n m k x).1 - (mPT n m k x).1, 70 :: ((mA n m k x).2 ++ (mPT n m k x).2)) else mPT n m k x
theorem mP_len (n m : Int32) (k : Nat) (x : Int32) : (mP n m k x).2.length ≤ 3 := by
  unfold mP
  split
  · exact (by decide : 2 ≤ 3)
  · split
    · exact (by decide : 2 ≤ 3)
    · split
      · exact (by decide : 3 ≤ 3)
      · exact (by decide : 1 ≤ 3)
theorem mPA_len (n m : Int32) (k : Nat) (x : Int32) : (mPA n m k x).2.length ≤ 4 := Nat.succ_le_succ (mP_len n m k x)
theorem mA_len (n m : Int32) (k : Nat) (x : Int32) : (mA n m k x).2.length ≤ 7 := by
  have h := mPA_len n m k x
  unfold mA
  split
  · show (mPA n m k x).2.length + 1 ≤ 7; omega
  · split
    · show ((mPA n m k x).2 ++ (mEP n 2).2).length + 1 ≤ 7
      rw [List.length_append]
      have : (mEP n 2).2.length = 2 := rfl
      omega
    · omega
theorem mPT_len (n m : Int32) (k : Nat) (x : Int32) : (mPT n m k x).2.length ≤ 8 := Nat.succ_le_succ (mA_len n m k x)
theorem mT_len (n m : Int32) (k : Nat) (x : Int32) : (mT n m k x).2.length ≤ 16 := by
  have h1 := mPT_len n m k x
  have h2 := mA_len n m k x
  have h3 := mA_len n m k 1
  have h4 := mPT_len n m k (x - n)
  unfold mT
  split
  · show ((mPT n m k x).2 ++ (mA n m k 1).2).length + 1 ≤ 16
    rw [List.length_append]; omega
  · split
    · show (mPT n m k (x - n)).2.length + 1 ≤ 16; omega
    · split
      · show ((mA n m k x).2 ++ (mPT n m k x).2).length + 1 ≤ 16
        rw [List.length_append]; omega
      · omega
/-- the reference's trace; n, m: how many cases, rules -/
def TRR (n m : Int32) (τ : St) (L : List Int32) : Prop := gi τ 0 45 = nI L.length ∧ (∀ (i : Nat) b, i < 20 → L[i]? = some b → gi τ 46 i = b) ∧ gi τ 0 0 = n ∧ gi τ 0 8 = m
def fr46 (τ τ' : St) : Prop := (∀ x k, ¬ (x = 0 ∧ k = 45) → x ≠ 46 → gi τ' x k = gi τ x k) ∧ ∀ x, gl τ' x = gl τ x
theorem fr46.tr {a b c : St} (h : fr46 a b) (h2 : fr46 b c) : fr46 a c := ⟨fun x k e1 e2 => (h2.1 x k e1 e2).trans (h.1 x k e1 e2), fun x => (h2.2 x).trans (h.2 x)⟩
theorem fr46.rf (a : St) : fr46 a a := ⟨fun _ _ _ _ => rfl, fun _ => rfl⟩
/-- the class's -/
def TRC (n m : Int32) (σ : St) (L : List Int32) : Prop := gi σ 110 0 = nI L.length ∧ (∀ (i : Nat) b, i < 20 → L[i]? = some b → gi σ 121 i = b) ∧ gi σ 110 2 = n ∧ gi σ 110 3 = m
def fr11 (σ σ' : St) : Prop := (∀ x k, x ≠ 110 → x ≠ 121 → gi σ' x k = gi σ x k) ∧ ∀ x, gl σ' x = gl σ x
theorem fr11.tr {a b c : St} (h : fr11 a b) (h2 : fr11 b c) : fr11 a c := ⟨fun x k e1 e2 => (h2.1 x k e1 e2).trans (h.1 x k e1 e2), fun x => (h2.2 x).trans (h.2 x)⟩
theorem fr11.rf (a : St) : fr11 a a := ⟨fun _ _ _ _ => rfl, fun _ => rfl⟩
theorem ap1 (L : List Int32) (b : Int32) : (L ++ [b]).length = L.length + 1 := by rw [List.length_append]; rfl
theorem ap_at {L : List Int32} {b : Int32} {f g : Nat → Int32} (h : ∀ (i : Nat) c, i < 20 → L[i]? = some c → f i = c) (hg : ∀ i, i ≠ L.length → g i = f i) (hb : L.length < 20 → g L.length = b) : ∀ (i : Nat) c, i < 20 → (L ++ [b])[i]? = some c → g i = c := by
  intro i c hi hc
  by_cases hl : i < L.length
  · rw [List.getElem?_append_left hl] at hc
    rw [hg i (by omega)]
    exact h i c hi hc
  · have hl2 : i = L.length := by
      have := (List.getElem?_eq_some_iff.mp hc).1
      rw [ap1] at this
      omega
    subst hl2
    rw [List.getElem?_append_right (Nat.le_refl _), Nat.sub_self] at hc
    have hc : some b = some c := hc
    cases hc
    exact hb hi
section AC
variable {d : Nat} {n m : Int32} {τ : St} {L : List Int32}
theorem r_body {b : Int32} {Q : St → Prop} (hL : L.length ≤ 200) (hT : TRR n m τ L) (h : ∀ τ', TRR n m τ' (L ++ [b]) → fr46 τ τ' → Q τ') : EV (d + 1) idsR Y_X7_body [.ref 0, .int b] τ Q := by
  obtain ⟨t1, t2, t3, t4⟩ := hT
  refine fl_X7_body hR (fun P19 H19 => ?_)
  rw [t1]
  refine ⟨fun z => H19 _ (fun s1 e1 => ?_), fun z => ⟨?_, fun s4 e4 => H19 _ (fun s1 e1 => ?_)⟩⟩
  · have hl := (nI_leI (a := 20) (by decide) (by omega)).mp z
    rw [t1, nI_1] at e1
    refine h s1 ⟨by rw [e1, gi_same, ap1], ap_at t2 (fun i hi => by rw [e1, gi_ne_o _ _ _ _ (by decide)]) (fun y => by omega), by rw [e1, gi_ne_k _ _ _ _ (by decide)]; exact t3, by rw [e1, gi_ne_k _ _ _ _ (by decide)]; exact t4⟩ ⟨fun x k a1 a2 => by rw [e1, gi_si, if_neg a1], fun x => by rw [e1, gl_si_o]⟩
  · have : ¬ 20 ≤ L.length := fun y => z (nI_le (a := 20) y (by omega))
    exact vp_in_nI (by omega) (by decide)
  · rw [cl_ix _ (by omega), rf0] at e4
    have g45 : gi s4 0 45 = nI L.length := by rw [e4, gi_ne_o _ _ _ _ (by decide)]; exact t1
    rw [g45, nI_1] at e1
    refine h s1 ⟨by rw [e1, gi_same, ap1], ap_at t2 (fun i hi => by rw [e1, gi_ne_o _ _ _ _ (by decide), e4, gi_ne_k _ _ _ _ hi]) (fun y => by rw [e1, gi_ne_o _ _ _ _ (by decide), e4, gi_same]), by rw [e1, gi_ne_k _ _ _ _ (by decide), e4, gi_ne_o _ _ _ _ (by decide)]; exact t3, by rw [e1, gi_ne_k _ _ _ _ (by decide), e4, gi_ne_o _ _ _ _ (by decide)]; exact t4⟩ ⟨fun x k a1 a2 => by rw [e1, gi_si, if_neg a1, e4, gi_ne_o _ _ _ _ a2], fun x => by rw [e1, gl_si_o, e4, gl_si_o]⟩
theorem r_PP {x : Int32} {Q : Int32 → St → Prop} (hL : L.length ≤ 199) (hT : TRR n m τ L) (h : ∀ τ', TRR n m τ' (L ++ (mPP n x).2) → fr46 τ τ' → Q (mPP n x).1 τ') : EI (d + 2) idsR Y_X7_plainPleads [.ref 0, .int x] τ Q :=
  fl_X7_plainPleads hR (r_body (by omega) hT (fun τ' a1 a2 => by rw [a1.2.2.1]; exact h τ' a1 a2))
theorem r_EP {x : Int32} {Q : Int32 → St → Prop} (hL : L.length ≤ 198) (hT : TRR n m τ L) (h : ∀ τ', TRR n m τ' (L ++ (mEP n x).2) → fr46 τ τ' → Q (mEP n x).1 τ') : EI (d + 3) idsR Y_X7_excusePleads [.ref 0, .int x] τ Q :=
  fl_X7_excusePleads hR (r_body (by omega) hT (fun τ1 a1 a2 => r_PP (by rw [ap1]; omega) a1 (fun τ2 b1 b2 => h τ2 (by rw [List.append_assoc] at b1; exact b1) (a2.tr b2))))
theorem r_P {k : Nat} {x : Int32} {Q : Int32 → St → Prop} (hk : k < 7) (hL : L.length ≤ 197) (hT : TRR n m τ L) (h : ∀ τ', TRR n m τ' (L ++ (mP n m k x).2) → fr46 τ τ' → Q (mP n m k x).1 τ') : EI (d + 4) idsR Y_X7_pleads [.ref 0, .int (nI k), .int x] τ Q := by
  refine fl_X7_pleads hR (fun P68 H68 => ?_)
  have plain : mP n m k x = mPP n x → P68 τ := fun e => H68 _ (r_PP (by omega) hT (fun τ' a1 a2 => by rw [e] at h; exact h τ' a1 a2))
  have ek : ∀ j : Nat, j < 100 → (nI k = nI j ↔ k = j) := fun j hj => nI_eq (by omega) (by omega)
  refine ⟨fun z => ?_, fun z => ?_, fun z => ?_, fun z => ?_, fun z2 z3 z4 z5 => ?_⟩
  · have : k = 2 := (ek 2 (by decide)).mp z
    subst this
    exact r_EP (by omega) hT h
  · have : k = 3 := (ek 3 (by decide)).mp z
    subst this
    exact r_body (by omega) hT (fun τ1 a1 a2 => r_PP (by rw [ap1]; omega) a1 (fun τ2 b1 b2 => h τ2 (by rw [List.append_assoc] at b1; exact b1) (a2.tr b2)))
  · have : k = 4 := (ek 4 (by decide)).mp z
    subst this
    exact plain rfl
  · have : k = 5 := (ek 5 (by decide)).mp z
    subst this
    exact r_body (by omega) hT (fun τ1 a1 a2 => r_EP (by rw [ap1]; omega) a1 (fun τ2 b1 b2 => by rw [b1.2.2.2]; exact h τ2 (by rw [List.append_assoc] at b1; exact b1) (a2.tr b2)))
  · refine plain ?_
    unfold mP
    rw [if_neg (fun y => z2 ((ek 2 (by decide)).mpr y)), if_neg (fun y => z3 ((ek 3 (by decide)).mpr y)), if_neg (fun y => z5 ((ek 5 (by decide)).mpr y))]
theorem r_PA {k : Nat} {x : Int32} {Q : Int32 → St → Prop} (hk : k < 7) (hL : L.length ≤ 196) (hT : TRR n m τ L) (h : ∀ τ', TRR n m τ' (L ++ (mPA n m k x).2) → fr46 τ τ' → Q (mPA n m k x).1 τ') : EI (d + 5) idsR Y_X7_plainAdmits [.ref 0, .int (nI k), .int x] τ Q :=
  fl_X7_plainAdmits hR (r_body (by omega) hT (fun τ1 a1 a2 => r_P hk (by rw [ap1]; omega) a1 (fun τ2 b1 b2 => by rw [b1.2.2.2]; exact h τ2 (by rw [List.append_assoc] at b1; exact b1) (a2.tr b2))))
theorem r_A {k : Nat} {x : Int32} {Q : Int32 → St → Prop} (hk : k < 7) (hL : L.length ≤ 190) (hT : TRR n m τ L) (h : ∀ τ', TRR n m τ' (L ++ (mA n m k x).2) → fr46 τ τ' → Q (mA n m k x).1 τ') : EI (d + 6) idsR Y_X7_admits [.ref 0, .int (nI k), .int x] τ Q := by
  have ek : ∀ j : Nat, j < 100 → (nI k = nI j ↔ k = j) := fun j hj => nI_eq (by omega) (by omega)
  refine fl_X7_admits hR ⟨fun z => ?_, fun z => ?_, fun z1 z5 => ?_⟩
  · have : k = 1 := (ek 1 (by decide)).mp z
    subst this
    exact r_body (by omega) hT (fun τ1 a1 a2 => r_PA hk (by rw [ap1]; omega) a1 (fun τ2 b1 b2 => h τ2 (by rw [List.append_assoc] at b1; exact b1) (a2.tr b2)))
  · have : k = 5 := (ek 5 (by decide)).mp z
    subst this
    have hl := mPA_len n m 5 x
    refine r_body (by omega) hT (fun τ1 a1 a2 => r_PA hk (by rw [ap1]; omega) a1 (fun τ2 b1 b2 => r_EP (by rw [List.length_append, ap1]; omega) b1 (fun τ3 c1 c2 => h τ3 ?_ ((a2.tr b2).tr c2))))
    rw [List.append_assoc, List.append_assoc] at c1
    exact c1
  · have e : mA n m k x = mPA n m k x := by
      unfold mA
      rw [if_neg (fun y => z1 ((ek 1 (by decide)).mpr y)), if_neg (fun y => z5 ((ek 5 (by decide)).mpr y))]
    rw [e] at h
    exact r_PA hk (by omega) hT h
theorem r_PT {k : Nat} {x : Int32} {Q : Int32 → St → Prop} (hk : k < 7) (hL : L.length ≤ 189) (hT : TRR n m τ L) (h : ∀ τ', TRR n m τ' (L ++ (mPT n m k x).2) → fr46 τ τ' → Q (mPT n m k x).1 τ') : EI (d + 7) idsR Y_X7_plainTells [.ref 0, .int (nI k), .int x] τ Q :=
  fl_X7_plainTells hR (r_body (by omega) hT (fun τ1 a1 a2 => r_A hk (by rw [ap1]; omega) a1 (fun τ2 b1 b2 => h τ2 (by rw [List.append_assoc] at b1; exact b1) (a2.tr b2))))
theorem r_T {k : Nat} {x : Int32} {Q : Int32 → St → Prop} (hk : k < 7) (hL : L.length ≤ 170) (hT : TRR n m τ L) (h : ∀ τ', TRR n m τ' (L ++ (mT n m k x).2) → fr46 τ τ' → Q (mT n m k x).1 τ') : EI (d + 8) idsR Y_X7_tells [.ref 0, .int (nI k), .int x] τ Q := by
  have ek : ∀ j : Nat, j < 100 → (nI k = nI j ↔ k = j) := fun j hj => nI_eq (by omega) (by omega)
  refine fl_X7_tells hR (fun P36 P100 H36 H100 => ?_)
  have plain : mT n m k x = mPT n m k x → P100 τ := fun e => H100 _ (r_PT hk (by omega) hT (fun τ' a1 a2 => by rw [e] at h; exact h τ' a1 a2))
  have exc : (k = 2 ∨ k = 5) → P36 τ := by
    intro hk2
    have e : mT n m k x = ((mPT n m k x).1 + (mA n m k 1).1, 31 :: ((mPT n m k x).2 ++ (mA n m k 1).2)) := by unfold mT; rw [if_pos hk2]
    rw [e] at h
    have hl := mPT_len n m k x
    refine H36 _ (r_body (by omega) hT (fun τ1 a1 a2 => r_PT hk (by rw [ap1]; omega) a1 (fun τ2 b1 b2 => r_A hk (by rw [List.length_append, ap1]; omega) b1 (fun τ3 c1 c2 => h τ3 ?_ ((a2.tr b2).tr c2)))))
    rw [List.append_assoc, List.append_assoc] at c1
    exact c1
  refine ⟨fun z => exc (Or.inl ((ek 2 (by decide)).mp z)), fun z => ?_, fun z => ?_, fun z => exc (Or.inr ((ek 5 (by decide)).mp z)), fun z => ?_, fun z2 z3 z4 z5 z6 => ?_⟩
  · have : k = 3 := (ek 3 (by decide)).mp z
    subst this
    exact plain rfl
  · have : k = 4 := (ek 4 (by decide)).mp z
    subst this
    refine r_body (by omega) hT (fun τ1 a1 a2 => ?_)
    rw [a1.2.2.1]
    exact r_PT hk (by rw [ap1]; omega) a1 (fun τ2 b1 b2 => h τ2 (by rw [List.append_assoc] at b1; exact b1) (a2.tr b2))
  · have : k = 6 := (ek 6 (by decide)).mp z
    subst this
    have hl := mA_len n m 6 x
    refine r_body (by omega) hT (fun τ1 a1 a2 => r_A hk (by rw [ap1]; omega) a1 (fun τ2 b1 b2 => r_PT hk (by rw [List.length_append, ap1]; omega) b1 (fun τ3 c1 c2 => h τ3 ?_ ((a2.tr b2).tr c2))))
    rw [List.append_assoc, List.append_assoc] at c1
    exact c1
  · refine plain ?_
    unfold mT
    rw [if_neg (fun y => y.elim (fun q => z2 ((ek 2 (by decide)).mpr q)) (fun q => z5 ((ek 5 (by decide)).mpr q))), if_neg (fun y => z4 ((ek 4 (by decide)).mpr y)), if_neg (fun y => z6 ((ek 6 (by decide)).mpr y))]
end AC
