/-! PURE: clauses, rules as they are read; the class's reader of them -/
abbrev hdI (r : List Nat) (c : Nat) : Prop := r.head? = some c
def wdN (r : List Nat) : Nat := if hdI r 98 then 0 else if hdI r 115 then 1 else if hdI r 108 then 8 else 9
def soN (r : List Nat) : Int32 := if hdI r 98 then 0 else if hdI r 115 then 1 else if hdI r 108 then 2 else 3
/-- a clause: what comes of its steps -/
def pcP (r : List Nat) : PR := if hdI r 98 ∨ hdI r 115 then bnd (wd (kbs.getD (wdN r) []) r) (fun r1 => bnd (oneP 2 r1) (fun r2 => bnd (wd (kbs.getD 3 []) r2) (pz FU 0 0))) else bnd (wd (kbs.getD (wdN r) []) r) (oneP 6)
/-- .. its sort, and its KIND or number -/
def pcW (r : List Nat) : Int32 × Int32 := (soN r, if hdI r 98 ∨ hdI r 115 then nI (1 + oneV 2 (wd (kbs.getD (wdN r) []) r).2.1) else nI (oneV 6 (wd (kbs.getD (wdN r) []) r).2.1))
def pcC (r : List Nat) : Cl := ((pcW r).1, (pcW r).2, (pcP r).2.2)
def flat (R : Ru) : List Int32 := R.flatMap (fun c => c.2.2)
/-- further clauses, at most m -/
def pru : Nat → PR → Ru → Bool × List Nat × Ru
  | 0, x, R => (x.1 && decide (x.2.1 = []), x.2.1, R)
  | m + 1, x, R => if x.1 = true ∧ hdI x.2.1 59 then pru m (bnd (true, x.2.1.tail, x.2.2) pcP) (R ++ [pcC x.2.1.tail]) else (x.1 && decide (x.2.1 = []), x.2.1, R)
/-- what a text is read as -/
def rdT (bs : List Nat) : Bool × List Nat × Ru := pru 5 (pcP bs) [pcC bs]
theorem flat_app (R : Ru) (c : Cl) : flat (R ++ [c]) = flat R ++ c.2.2 := by unfold flat; rw [List.flatMap_append]; simp
theorem sfR_wd : ∀ (w : List Int32) (r : List Nat), sfR 0 r (wd w r)
  | [], r => sfR_self true r
  | c :: w, [] => ⟨⟨[], rfl⟩, fun z => ff z⟩
  | c :: w, b :: r => by
    unfold wd
    dsimp only
    split
    · exact sfR_tail (c := b) rfl (sfR_wd w r)
    · exact sfR_self false _
theorem wd_s : ∀ (w : List Int32) (r : List Nat), (wd w r).2.2 = []
  | [], r => rfl
  | c :: w, [] => rfl
  | c :: w, b :: r => by
    unfold wd
    dsimp only
    split
    · exact wd_s w r
    · rfl
theorem sfR_pcP (r : List Nat) : sfR 0 r (pcP r) := by
  unfold pcP
  split
  · exact (sfR_bnd (sfR_wd _ _) (fun _ => sfR_bnd (sfR_oneP 2 _) (fun _ => sfR_bnd (sfR_wd _ _) (fun _ => sfR_pz FU 0 0 _ (by decide))))).le (Nat.zero_le _)
  · exact (sfR_bnd (sfR_wd _ _) (fun _ => sfR_oneP 6 _)).le (Nat.zero_le _)
/-- clauses as they lie in the class's rules -/
def RuS (σ : St) (rr : Nat) (R : Ru) : Prop := gi σ (140 + rr) 0 = nI R.length ∧ R.length ≤ 6 ∧ ∀ (c : Nat) w x l, R[c]? = some (w, x, l) → gi σ (151 + 10 * rr) c = w ∧ gi σ (152 + 10 * rr) c = x ∧ gi σ (153 + 10 * rr) c = nI (flat (R.take (c + 1))).length
def CX (σ : St) (bs : List Nat) (rr : Nat) (x : PR) (R : Ru) : Prop := PX 0 σ bs rr x ∧ (∃ k : Nat, k ≤ 6 ∧ gi σ (140 + rr) 0 = nI k) ∧ (x.1 = true → RuS σ rr R ∧ x.2.2 = flat R)
def frC (rr : Nat) (σ σ' : St) : Prop := (∀ x k, ¬ (x = 105 ∧ (k = 2 ∨ k = 3 ∨ k = 4)) → x ≠ 140 + rr → ¬ (150 + 10 * rr ≤ x ∧ x < 160 + 10 * rr) → gi σ' x k = gi σ x k) ∧ ∀ x, gl σ' x = gl σ x
theorem frC.rf (rr : Nat) (σ : St) : frC rr σ σ := ⟨fun _ _ _ _ _ => rfl, fun _ => rfl⟩
theorem frC.tr {rr : Nat} {a b c : St} (h : frC rr a b) (h2 : frC rr b c) : frC rr a c := ⟨fun x k e1 e2 e3 => (h2.1 x k e1 e2 e3).trans (h.1 x k e1 e2 e3), fun x => (h2.2 x).trans (h.2 x)⟩
theorem frC.si {rr : Nat} {a b : St} (h : frC rr a b) {x k : Nat} (v : Int32) (hx : (x = 105 ∧ (k = 2 ∨ k = 3 ∨ k = 4)) ∨ x = 140 + rr ∨ (150 + 10 * rr ≤ x ∧ x < 160 + 10 * rr)) : frC rr a (si b x k v) := ⟨fun y j e1 e2 e3 => by
  rw [gi_si, if_neg (fun z => by omega)]; exact h.1 y j e1 e2 e3, h.2⟩
theorem frP.C {rr : Nat} {a b : St} (h : frP rr a b) : frC rr a b := ⟨fun x k e1 e2 e3 => h.1 x k (by omega) (by omega) (by omega), h.2⟩
theorem PT_frC {rr : Nat} {σ σ' : St} {bs : List Nat} (hr : rr < 5) (h : PT σ bs) (f : frC rr σ σ') : PT σ' bs :=
  ⟨by rw [f.1 105 1 (by omega) (by omega) (by omega)]; exact h.1, h.2.1, fun i b hb => by rw [f.1 120 i (by omega) (by omega) (by omega)]; exact h.2.2 i b hb⟩
theorem RuS_fr {rr : Nat} {σ σ' : St} {R : Ru} (hr : rr < 5) (h : RuS σ rr R) (f : frP rr σ σ') : RuS σ' rr R :=
  ⟨by rw [f.1 _ 0 (by omega) (by omega) (by omega)]; exact h.1, h.2.1, fun c w x l hc => by
    rw [f.1 _ c (by omega) (by omega) (by omega), f.1 _ c (by omega) (by omega) (by omega), f.1 _ c (by omega) (by omega) (by omega)]
    exact h.2.2 c w x l hc⟩
section PF
variable {nc rr : Nat} {bs : List Nat}
theorem rf_ru {r k : Nat} (hr : r < 5) : rf (140 + r) k = 150 + 10 * r + k := rf_rul hr
/-- a clause is added: what was read before it, x, and with it, y -/
theorem c_addClause {d : Nat} {σ σ1 : St} {x y : PR} {R : Ru} {w v : Int32} {Q : St → Prop} (hn : nc < 5) (hC : CX σ bs rr x R) (hlt : x.1 = true → R.length < 6) (f : frP rr σ σ1) (hY : PX 0 σ1 bs rr y)
    (hy : y.1 = true → x.1 = true) (l : List Int32) (hl : y.1 = true → y.2.2 = x.2.2 ++ l)
    (h : ∀ σ', frC rr σ σ' → CX σ' bs rr y (R ++ [(w, v, l)]) → Q σ') : EV (d + 1) (idsC nc) Y_X3_addClause [.ref (140 + rr), .int w, .int v] σ1 Q := by
  obtain ⟨hX, ⟨k, hk, ek⟩, hS⟩ := hC
  have hr := hX.2.1
  have ek1 : gi σ1 (140 + rr) 0 = nI k := by rw [f.1 _ 0 (by omega) (by omega) (by omega)]; exact ek
  refine fl_X3_addClause (hRu hn hr) ?_
  rw [ek1, rf_ru hr, rf_ru hr, rf_ru hr]
  have hkR : x.1 = true → k = R.length ∧ k < 6 := by
    intro z
    have h1 := (hS z).1.1
    rw [ek] at h1
    have h2 := (hS z).1.2.1
    have h3 := (nI_eq (by omega) (by omega)).mp h1
    have h4 := hlt z
    exact ⟨h3, by omega⟩
  refine ⟨fun c => ?_, fun c => ?_⟩
  · have hk6 := (nI_leI (a := 6) (by decide) (by omega)).mp c
    refine h σ1 f.C ⟨hY, ⟨k, hk, ek1⟩, fun z => ?_⟩
    have := (hkR (hy z)).2
    omega
  · have hk6 : k < 6 := by
      have : ¬ 6 ≤ k := fun y => c (nI_le (a := 6) y (by omega))
      omega
    refine ⟨vp_in_nI hk6 (by decide), fun s3 e3 => ?_⟩
    have g3 : gi s3 (140 + rr) 0 = nI k := by rw [e3, gi_ne_o _ _ _ _ (by omega)]; exact ek1
    rw [g3]
    refine ⟨vp_in_nI hk6 (by decide), fun s5 e5 => ?_⟩
    have g5 : gi s5 (140 + rr) 0 = nI k := by rw [e5, gi_ne_o _ _ _ _ (by omega)]; exact g3
    rw [g5]
    refine ⟨vp_in_nI hk6 (by decide), fun s7 e7 s8 e8 => ?_⟩
    have g7 : gi s7 (140 + rr) 0 = nI k := by rw [e7, gi_ne_o _ _ _ _ (by omega)]; exact g5
    rw [g7, nI_1] at e8
    rw [cl_ix k (by omega)] at e3 e5 e7
    have g4 : gi s5 (140 + rr) 4 = gi σ1 (140 + rr) 4 := by rw [e5, gi_ne_o _ _ _ _ (by omega), e3, gi_ne_o _ _ _ _ (by omega)]
    rw [g4] at e7
    have out : ∀ a j, ¬ (a = 140 + rr ∧ j = 0) → ¬ (151 + 10 * rr ≤ a ∧ a ≤ 153 + 10 * rr ∧ j = k) → gi s8 a j = gi σ1 a j := by
      intro a j h1 h2
      rw [e8, gi_si, if_neg h1, e7, gi_si, if_neg (by omega), e5, gi_si, if_neg (by omega), e3, gi_si, if_neg (by omega)]
    have fr : frC rr σ s8 := f.C.tr ⟨fun a j h1 h2 h3 => out a j (by omega) (by omega), fun a => by rw [e8, e7, e5, e3]; rfl⟩
    have k8 : gi s8 (140 + rr) 0 = nI (k + 1) := by rw [e8, gi_same]
    obtain ⟨p1, p2, p3, p4, p5, p6, p7, n, p8, p9⟩ := hY
    refine h s8 fr ⟨⟨PT_frC hr hX.1 fr, hr, ?_, p4, ?_, ?_, fun z => ?_, n, p8, ?_⟩, ⟨k + 1, by omega, k8⟩, fun z => ?_⟩
    · rw [out 105 2 (by omega) (by omega)]; exact p3
    · rw [out 105 3 (by omega) (by omega)]; exact p5
    · rw [out 105 4 (by omega) (by omega)]; exact p6
    · obtain ⟨q1, q2, q3⟩ := p7 z
      exact ⟨by rw [out _ 4 (by omega) (by omega)]; exact q1, q2, fun i t ht => by rw [out _ i (by omega) (by omega)]; exact q3 i t ht⟩
    · rw [out _ 4 (by omega) (by omega)]; exact p9
    · have zx := hy z
      obtain ⟨⟨u1, u2, u3⟩, u4⟩ := hS zx
      obtain ⟨hkR1, -⟩ := hkR zx
      have hfl : y.2.2 = flat (R ++ [(w, v, l)]) := by rw [hl z, u4, flat_app]
      refine ⟨⟨?_, ?_, fun c w' x' l' hc => ?_⟩, hfl⟩
      · rw [k8, hkR1, List.length_append]; rfl
      · rw [List.length_append]; show R.length + 1 ≤ 6; omega
      · by_cases hcR : c < R.length
        · rw [List.getElem?_append_left hcR] at hc
          obtain ⟨v1, v2, v3⟩ := u3 c w' x' l' hc
          have et : (R ++ [(w, v, l)]).take (c + 1) = R.take (c + 1) := by rw [List.take_append_of_le_length (by omega)]
          rw [out _ c (by omega) (by omega), out _ c (by omega) (by omega), out _ c (by omega) (by omega), et, f.1 _ c (by omega) (by omega) (by omega), f.1 _ c (by omega) (by omega) (by omega), f.1 _ c (by omega) (by omega) (by omega)]
          exact ⟨v1, v2, v3⟩
        · have hc2 : c = R.length := by
            have := (List.getElem?_eq_some_iff.mp hc).1
            rw [List.length_append, List.length_singleton] at this
            omega
          subst hc2
          rw [List.getElem?_append_right (Nat.le_refl _), Nat.sub_self] at hc
          have hc : some (w, v, l) = some (w', x', l') := hc
          cases hc
          have et : (R ++ [(w, v, l)]).take (R.length + 1) = R ++ [(w, v, l)] := List.take_of_length_le (by rw [List.length_append]; exact Nat.le_refl _)
          rw [et, ← hfl, ← (p7 z).1]
          rw [← hkR1]
          refine ⟨?_, ?_, ?_⟩
          · rw [e8, gi_ne_o _ _ _ _ (by omega), e7, gi_ne_o _ _ _ _ (by omega), e5, gi_ne_o _ _ _ _ (by omega), e3, show 150 + 10 * rr + 1 = 151 + 10 * rr by omega, gi_same]
          · rw [e8, gi_ne_o _ _ _ _ (by omega), e7, gi_ne_o _ _ _ _ (by omega), e5, show 150 + 10 * rr + 2 = 152 + 10 * rr by omega, gi_same]
          · rw [e8, gi_ne_o _ _ _ _ (by omega), e7, show 150 + 10 * rr + 3 = 153 + 10 * rr by omega, gi_same]
end PF
