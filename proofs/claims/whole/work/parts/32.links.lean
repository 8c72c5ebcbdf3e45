/-! PURE: links -/
/-- a set of POINTS -/
def P32 (x : Int32) : Prop := ∃ n : Nat, n < 32 ∧ x = nI n
def RLk (σ τ : St) : Prop := ∀ p : Nat, p < 5 → gi σ 101 p = gi τ 1 p ∧ gi σ 102 p = gi τ 2 p ∧ P32 (gi τ 1 p) ∧ P32 (gi τ 2 p)
theorem lk_or : ∀ n, n < 32 → ∀ q, q < 5 → (nI n ||| ((1 : Int32) <<< (nI q &&& 31))) = nI (n ||| 2 ^ q) ∧ n ||| 2 ^ q < 32 := by decide +kernel
theorem lk_and : ∀ n, n < 32 → ∀ q, q < 5 → (nI n &&& (((1 : Int32) <<< (nI q &&& 31)) ^^^ (-1))) = nI (n &&& (31 ^^^ 2 ^ q)) ∧ n &&& (31 ^^^ 2 ^ q) < 32 := by decide +kernel
/-- what a set becomes, a3 told, for POINT a2 -/
def lkNew (old a2 a3 : Int32) : Int32 := if a3 = 0 then old &&& (((1 : Int32) <<< (a2 &&& 31)) ^^^ (-1)) else old ||| ((1 : Int32) <<< (a2 &&& 31))
theorem lkNew_rng {old a3 : Int32} {q : Nat} (h : P32 old) (hq : q < 5) : P32 (lkNew old (nI q) a3) := by
  obtain ⟨n, hn, rfl⟩ := h
  unfold lkNew
  split
  · exact ⟨_, (lk_and n hn q hq).2, (lk_and n hn q hq).1⟩
  · exact ⟨_, (lk_or n hn q hq).2, (lk_or n hn q hq).1⟩
abbrev Pt (a : Int32) : Prop := 0 ≤ a ∧ a ≤ 4
theorem pt_of {a : Int32} (h : Pt a) : ∃ p : Nat, p < 5 ∧ a = nI p := by
  obtain ⟨j, h1, h2⟩ := rng (n := 4) (by decide) h.1 h.2
  exact ⟨j, by omega, h2⟩
abbrev lkOk (a0 a1 a2 : Int32) : Prop := (0 ≤ a0 ∧ a0 ≤ 1) ∧ Pt a1 ∧ Pt a2
theorem kR_link {d : Nat} {τ : St} {Q : Int32 → St → Prop} {a0 a1 a2 a3 : Int32} (h1 : ¬ lkOk a0 a1 a2 → Q (-1) τ) (h2 : lkOk a0 a1 a2 → (a1 = a2 ∨ a2 = 0) → Q (-2) τ)
    (h3 : lkOk a0 a1 a2 → ¬ (a1 = a2 ∨ a2 = 0) → ∀ o, o = (if a0 = 0 then 1 else 2) → Q ((gi τ o a1.toNatClampNeg >>> (a2 &&& 31)) &&& 1) (si τ o a1.toNatClampNeg (lkNew (gi τ o a1.toNatClampNeg) a2 a3))) : EI (d + 3) idsR Y_X7_link [.ref 0, .int a0, .int a1, .int a2, .int a3] τ Q := by
  refine fl_X7_link hR (fun P59 P83 P108 H59 H83 H108 => ?_)
  refine kR_in (d := d + 1) ⟨fun c0 => ?_, fun c0 => ?_⟩
  · exact h1 (fun z => bI_0.mp c0 z.1)
  have v0 := bI_n.mp c0
  refine kR_isPoint ⟨fun c1 => ?_, fun c1 => ?_⟩
  · exact h1 (fun z => bI_0.mp c1 z.2.1)
  have v1 := bI_n.mp c1
  refine kR_isPoint ⟨fun c2 => ?_, fun c2 => ?_⟩
  · have v2 := bI_n.mp c2
    have ok : lkOk a0 a1 a2 := ⟨v0, v1, v2⟩
    obtain ⟨p, hp, rfl⟩ := pt_of v1
    have hin : vp_in (nI p) 6 := vp_in_nI (by omega) (by decide)
    refine ⟨fun c3 => h2 ok (Or.inl c3), fun c3 => ⟨fun c4 => ⟨fun c5 => ⟨hin, ?_⟩, fun c5 => ⟨hin, ?_⟩⟩, fun c4 => h2 ok (Or.inr c4)⟩⟩
    · have h := h3 ok (fun z => z.elim c3 c4) 2 (by rw [if_neg c5])
      refine H59 _ _ ⟨fun c6 => H83 _ _ _ ⟨fun _ => ⟨hin, fun s e => H108 _ _ ?_⟩, fun c7 => absurd c7 c5⟩, fun c6 => H83 _ _ _ ⟨fun _ => ⟨hin, fun s e => H108 _ _ ?_⟩, fun c7 => absurd c7 c5⟩⟩
      · subst e; rw [lkNew, if_pos c6] at h; exact h
      · subst e; rw [lkNew, if_neg c6] at h; exact h
    · have h := h3 ok (fun z => z.elim c3 c4) 1 (by rw [if_pos c5])
      refine H59 _ _ ⟨fun c6 => H83 _ _ _ ⟨fun c7 => absurd c5 c7, fun _ => ⟨hin, fun s e => H108 _ _ ?_⟩⟩, fun c6 => H83 _ _ _ ⟨fun c7 => absurd c5 c7, fun _ => ⟨hin, fun s e => H108 _ _ ?_⟩⟩⟩
      · subst e; rw [lkNew, if_pos c6] at h; exact h
      · subst e; rw [lkNew, if_neg c6] at h; exact h
  · exact h1 (fun z => bI_0.mp c2 z.2.2)
theorem kC_link {d nc : Nat} (hn : nc < 5) {σ : St} {Q : Int32 → St → Prop} {a0 a1 a2 a3 : Int32} (h1 : ¬ lkOk a0 a1 a2 → Q (-1) σ) (h2 : lkOk a0 a1 a2 → (a1 = a2 ∨ a2 = 0) → Q (-2) σ)
    (h3 : lkOk a0 a1 a2 → ¬ (a1 = a2 ∨ a2 = 0) → ∀ o, o = (if a0 = 0 then 101 else 102) → Q ((gi σ o a1.toNatClampNeg >>> (a2 &&& 31)) &&& 1) (si σ o a1.toNatClampNeg (lkNew (gi σ o a1.toNatClampNeg) a2 a3))) : EI (d + 2) (idsC nc) Y_X6_link [.ref 100, .int a0, .int a1, .int a2, .int a3] σ Q := by
  refine fl_X6_link (hB hn (by decide) rfl) (fun P52 P93 H52 H93 => ⟨fun c0 => ?_, fun c0 => ⟨fun c1 => ?_, fun c1 => ?_⟩⟩)
  · exact h1 (fun z => Int32.not_le.mpr c0 z.1.1)
  · exact h1 (fun z => Int32.not_le.mpr c1 z.1.2)
  have v0 : 0 ≤ a0 ∧ a0 ≤ 1 := ⟨Int32.not_lt.mp c0, Int32.not_lt.mp c1⟩
  refine kC_isPoint ⟨fun c2 => ?_, fun c2 => ?_⟩
  · exact h1 (fun z => bI_0.mp c2 z.2.1)
  have v1 := bI_n.mp c2
  refine kC_isPoint ⟨fun c3 => ?_, fun c3 => ?_⟩
  · have v2 := bI_n.mp c3
    have ok : lkOk a0 a1 a2 := ⟨v0, v1, v2⟩
    obtain ⟨p, hp, rfl⟩ := pt_of v1
    have hin : vp_in (nI p) 5 := vp_in_nI hp (by decide)
    have key : ∀ o, o = (if a0 = 0 then 101 else 102) → ¬ nI p = a2 → ¬ a2 = 0 → P52 o σ := by
      intro o ho c4 c5
      have h := h3 ok (fun z => z.elim c4 c5) o ho
      refine H52 _ _ (fun hA => ⟨hin, fun x ex => ⟨fun c6 => ⟨hin, H93 _ _ _ _ _ (fun _ => ⟨hin, fun s e => ?_⟩)⟩, fun c6 => ⟨hin, H93 _ _ _ _ _ (fun _ => ⟨hin, fun s e => ?_⟩)⟩⟩⟩)
      · subst e; subst ex; rw [lkNew, if_pos c6] at h; exact h
      · subst e; subst ex; rw [lkNew, if_neg c6] at h; exact h
    refine ⟨fun c4 => h2 ok (Or.inl c4), fun c4 => ⟨fun c5 => ⟨fun c6 => key _ (by rw [if_neg c6]; rfl) c4 c5, fun c6 => key _ (by rw [if_pos c6]; rfl) c4 c5⟩, fun c5 => h2 ok (Or.inr c5)⟩⟩
  · exact h1 (fun z => bI_0.mp c3 z.2.2)
theorem RLk_put {σ τ : St} (h : RLk σ τ) {p q : Nat} (hp : p < 5) (hq : q < 5) (a3 : Int32) {b : Prop} [Decidable b] : RLk (si σ (if b then 101 else 102) p (lkNew (gi σ (if b then 101 else 102) p) (nI q) a3)) (si τ (if b then 1 else 2) p (lkNew (gi τ (if b then 1 else 2) p) (nI q) a3)) := by
  intro r hr
  obtain ⟨e1, e2, r1, r2⟩ := h r hr
  obtain ⟨f1, f2, g1, g2⟩ := h p hp
  by_cases hb : b
  · simp only [if_pos hb, gi_si]
    by_cases hpr : r = p
    · subst hpr
      simp [e1, e2, r2, lkNew_rng r1 hq]
    · simp [hpr, e1, e2, r1, r2]
  · simp only [if_neg hb, gi_si]
    by_cases hpr : r = p
    · subst hpr
      simp [e1, e2, r1, lkNew_rng r2 hq]
    · simp [hpr, e1, e2, r1, r2]
