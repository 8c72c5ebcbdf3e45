/-! PURE: tapes -/
theorem cl_ix (n : Nat) (h : n < 2 ^ 31) : (nI n).toNatClampNeg = n := nI_clamp h
theorem rf0 (k : Nat) : rf 0 k = k := rfl
theorem rf113 {t : Nat} : rf 113 t = 130 + t := rfl
theorem i32_0 : (0 : Int32) = nI 0 := rfl
theorem i32_60 : (60 : Int32) = nI 60 := rfl
theorem le_nI {a b : Nat} (ha : a < 2 ^ 31) (hb : b < 2 ^ 31) : nI a ≤ nI b ↔ a ≤ b := nI_leI ha hb
theorem tp_ix {t i : Nat} (ht : t < 6) (hi : i < 60) : (60 * nI t) + nI i = nI (60 * t + i) := by
  rw [i32_60, pk_mul, nI_add]
/-- a loop that counts up to n -/
theorem up_loop {P : Int32 → St → Prop} (n : Nat) (I : Nat → St → Prop) (hs : ∀ k σ, k < n → I k σ → (∀ σ', I (k + 1) σ' → P (nI (k + 1)) σ') → P (nI k) σ) (hx : ∀ σ, I n σ → P (nI n) σ) : ∀ k σ, k ≤ n → I k σ → P (nI k) σ := by
  have key : ∀ m k σ, n - k = m → k ≤ n → I k σ → P (nI k) σ := by
    intro m
    induction m with
    | zero =>
      intro k σ h1 h2 h3
      have : k = n := by omega
      subst this
      exact hx σ h3
    | succ m ih =>
      intro k σ h1 h2 h3
      exact hs k σ (by omega) h3 (fun σ' h' => ih (k + 1) σ' (by omega) (by omega) h')
  exact fun k σ h1 h2 => key (n - k) k σ rfl h1 h2
theorem ge60 {k : Nat} (hk : k ≤ 60) : (60 : Int32) ≤ nI k ↔ k = 60 := by
  rw [i32_60, nI_leI (by decide) (by omega)]; omega
abbrev Tp (a : Int32) : Prop := 0 ≤ a ∧ a ≤ 5
theorem tp_of {a : Int32} (h : Tp a) : ∃ p : Nat, p < 6 ∧ a = nI p := by
  obtain ⟨j, h1, h2⟩ := rng (n := 5) (by decide) h.1 h.2
  exact ⟨j, by omega, h2⟩
abbrev tpBad (a1 a2 : Int32) : Prop := ¬ (-1 ≤ a1 ∧ a1 ≤ 4) ∨ (0 ≤ a1 ∧ 60 < a2)
def tpSz (a1 a2 : Int32) : Int32 := if 0 ≤ a1 then a2 else 0
theorem nle {a b : Int32} : ¬ a ≤ b ↔ b < a := Int32.not_le
theorem nlt {a b : Int32} : ¬ a < b ↔ b ≤ a := Int32.not_lt
theorem kC_tape {d nc : Nat} (hn : nc < 5) {σ : St} {Q : Int32 → St → Prop} {a0 a1 a2 : Int32} (h1 : ¬ Tp a0 → Q (-1) σ) (h2 : Tp a0 → tpBad a1 a2 → Q (-2) σ) (h3 : Tp a0 → ¬ tpBad a1 a2 → 0 ≤ a1 → a2 < 0 → Q (-14) σ)
    (h4 : ∀ t : Nat, t < 6 → a0 = nI t → ¬ tpBad a1 a2 → ¬ (0 ≤ a1 ∧ a2 < 0) → ∀ σ', (∀ o, o ≠ 111 → o ≠ 112 → gi σ' o = gi σ o) → gi σ' 111 = upd (gi σ 111) t a1 → gi σ' 112 = upd (gi σ 112) t (tpSz a1 a2) → (∀ i, i < 60 → gl σ' (130 + t) i = 0) → (∀ o, o ≠ 130 + t → gl σ' o = gl σ o) → Q 1 σ') :
    EI (d + 2) (idsC nc) Y_X6_tape [.ref 100, .int a0, .int a1, .int a2] σ Q := by
  refine fl_X6_tape (hB hn (by decide) rfl) (fun P32 P43 P64 P68 H32 H43 H64 H68 => ?_)
  refine kC_isTape ⟨fun c0 => ?_, fun c0 => h1 (bI_0.mp c0)⟩
  have v0 := bI_n.mp c0
  refine ⟨fun c1 => h2 v0 (Or.inl (fun z => nle.mpr c1 z.1)), fun c1 => ⟨fun c2 => h2 v0 (Or.inl (fun z => nle.mpr c2 z.2)), fun c2 => ?_⟩⟩
  have r1 : -1 ≤ a1 ∧ a1 ≤ 4 := ⟨nlt.mp c1, nlt.mp c2⟩
  have go : ¬ tpBad a1 a2 → P32 σ := by
    intro nb
    have go2 : ¬ (0 ≤ a1 ∧ a2 < 0) → P43 σ := by
      intro ns
      obtain ⟨t, ht, rfl⟩ := tp_of v0
      have hin : vp_in (nI t) 6 := vp_in_nI ht (by decide)
      have h4 := h4 t ht rfl nb ns
      have loop := up_loop (P := P68) 60 (fun k σ' => (∀ o, o ≠ 111 → o ≠ 112 → gi σ' o = gi σ o) ∧ gi σ' 111 = upd (gi σ 111) t a1 ∧ gi σ' 112 = upd (gi σ 112) t (tpSz a1 a2) ∧ (∀ i, i < k → gl σ' (130 + t) i = 0) ∧ (∀ o, o ≠ 130 + t → gl σ' o = gl σ o))
        (fun k σ1 hk ⟨i1, i2, i3, i4, i5⟩ kk => H68 _ _ ⟨fun c => absurd ((ge60 (by omega)).mp c) (by omega), fun _ => ⟨hin, vp_in_nI hk (by decide), fun s es x ex => by
          rw [ex, ← nI_succ]
          rw [cl_ix t (by omega), cl_ix k (by omega)] at es
          have e113 : rf (rf 100 12) t = 130 + t := rfl
          rw [e113] at es
          subst es
          refine kk _ ⟨fun o ho1 ho2 => i1 o ho1 ho2, i2, i3, fun i hi => ?_, fun o ho => ?_⟩
          · rw [gl_sl]
            by_cases hik : i = k
            · simp [hik]
            · rw [if_neg (fun z => hik z.2)]; exact i4 i (by omega)
          · rw [gl_sl_o _ _ _ ho]; exact i5 o ho⟩⟩)
        (fun σ1 ⟨i1, i2, i3, i4, i5⟩ => H68 _ _ ⟨fun _ => h4 σ1 i1 i2 i3 i4 i5, fun c => absurd ((ge60 (by omega)).mpr rfl) c⟩)
      have fin : ∀ z, z = tpSz a1 a2 → P64 z (nI t) (rf 100 11) (si σ 111 t a1) := by
        rintro z rfl
        refine H64 _ _ _ _ (fun _ => ⟨hin, fun s es => ?_⟩)
        rw [cl_ix t (by omega)] at es
        have e112 : rf 100 11 = 112 := rfl
        rw [e112] at es
        refine loop 0 s (by omega) ⟨fun o ho1 ho2 => ?_, ?_, ?_, fun i hi => absurd hi (by omega), fun o ho => ?_⟩
        · subst es; rw [gi_si_o _ _ _ ho2, gi_si_o _ _ _ ho1]
        · subst es; rw [gi_si_o _ _ _ (by decide), gi_si_row]
        · subst es; rw [gi_si_row, gi_si_o _ _ _ (by decide)]
        · subst es; rfl
      refine H43 _ ⟨hin, fun s es => ?_⟩
      rw [cl_ix t (by omega)] at es
      have e111 : rf 100 10 = 111 := rfl
      rw [e111] at es
      subst es
      exact ⟨fun c => fin _ (by rw [tpSz, if_pos c]), fun c => fin _ (by rw [tpSz, if_neg c])⟩
    refine H32 _ ⟨fun c => go2 (fun z => nle.mpr c z.1), fun c => ⟨fun c3 => go2 (fun z => nle.mpr z.2 c3), fun c3 => h3 v0 nb (nlt.mp c) (nle.mp c3)⟩⟩
  refine ⟨fun c3 => go (fun z => z.elim (fun q => q r1) (fun q => nle.mpr c3 q.1)), fun c3 => ⟨fun c4 => go (fun z => z.elim (fun q => q r1) (fun q => nle.mpr q.2 c4)), fun c4 => h2 v0 (Or.inr ⟨nlt.mp c3, nle.mp c4⟩)⟩⟩
theorem kR_tape {d : Nat} {τ : St} {Q : Int32 → St → Prop} {a0 a1 a2 : Int32} (h1 : ¬ Tp a0 → Q (-1) τ) (h2 : Tp a0 → tpBad a1 a2 → Q (-2) τ) (h3 : Tp a0 → ¬ tpBad a1 a2 → 0 ≤ a1 → a2 < 0 → Q (-14) τ)
    (h4 : ∀ t : Nat, t < 6 → a0 = nI t → ¬ tpBad a1 a2 → ¬ (0 ≤ a1 ∧ a2 < 0) → ∀ τ', (∀ o, o ≠ 47 → o ≠ 48 → gi τ' o = gi τ o) → gi τ' 47 = upd (gi τ 47) t a1 → gi τ' 48 = upd (gi τ 48) t (tpSz a1 a2) → (∀ i, i < 60 → gl τ' 49 (60 * t + i) = 0) → (∀ i, (i < 60 * t ∨ 60 * t + 60 ≤ i) → gl τ' 49 i = gl τ 49 i) → Q 1 τ') :
    EI (d + 3) idsR Y_X7_tape [.ref 0, .int a0, .int a1, .int a2] τ Q := by
  refine fl_X7_tape hR (fun P33 P44 P65 P69 H33 H44 H65 H69 => ?_)
  refine kR_isTape ⟨fun c0 => ?_, fun c0 => h1 (bI_0.mp c0)⟩
  have v0 := bI_n.mp c0
  refine kR_in (d := d + 1) ⟨fun c1 => h2 v0 (Or.inl (bI_0.mp c1)), fun c1 => ?_⟩
  have r1 := bI_n.mp c1
  have go : ¬ tpBad a1 a2 → P33 τ := by
    intro nb
    have go2 : ¬ (0 ≤ a1 ∧ a2 < 0) → P44 τ := by
      intro ns
      obtain ⟨t, ht, rfl⟩ := tp_of v0
      have hin : vp_in (nI t) 6 := vp_in_nI ht (by decide)
      have h4 := h4 t ht rfl nb ns
      have loop := up_loop (P := P69) 60 (fun k τ' => (∀ o, o ≠ 47 → o ≠ 48 → gi τ' o = gi τ o) ∧ gi τ' 47 = upd (gi τ 47) t a1 ∧ gi τ' 48 = upd (gi τ 48) t (tpSz a1 a2) ∧ (∀ i, i < k → gl τ' 49 (60 * t + i) = 0) ∧ (∀ i, (i < 60 * t ∨ 60 * t + 60 ≤ i) → gl τ' 49 i = gl τ 49 i))
        (fun k σ1 hk ⟨i1, i2, i3, i4, i5⟩ kk => H69 _ _ ⟨fun c => absurd ((ge60 (by omega)).mp c) (by omega), fun _ => by
          rw [tp_ix ht hk]
          refine ⟨vp_in_nI (by omega) (by decide), fun s es x ex => ?_⟩
          rw [ex, ← nI_succ]
          rw [cl_ix _ (by omega), rf0] at es
          subst es
          refine kk _ ⟨fun o ho1 ho2 => i1 o ho1 ho2, i2, i3, fun i hi => ?_, fun i hi => ?_⟩
          · rw [gl_sl]
            by_cases hik : i = k
            · simp [hik]
            · rw [if_neg (fun z => hik (by omega))]; exact i4 i (by omega)
          · rw [gl_sl, if_neg (fun z => by omega)]; exact i5 i hi⟩)
        (fun σ1 ⟨i1, i2, i3, i4, i5⟩ => H69 _ _ ⟨fun _ => h4 σ1 i1 i2 i3 i4 i5, fun c => absurd ((ge60 (by omega)).mpr rfl) c⟩)
      have fin : ∀ z, z = tpSz a1 a2 → P65 z (nI t) (rf 0 48) (si τ 47 t a1) := by
        rintro z rfl
        refine H65 _ _ _ _ (fun _ => ⟨hin, fun s es => ?_⟩)
        rw [cl_ix t (by omega), rf0] at es
        refine loop 0 s (by omega) ⟨fun o ho1 ho2 => ?_, ?_, ?_, fun i hi => absurd hi (by omega), fun o ho => ?_⟩
        · subst es; rw [gi_si_o _ _ _ ho2, gi_si_o _ _ _ ho1]
        · subst es; rw [gi_si_o _ _ _ (by decide), gi_si_row]
        · subst es; rw [gi_si_row, gi_si_o _ _ _ (by decide)]
        · subst es; rfl
      refine H44 _ ⟨hin, fun s es => ?_⟩
      rw [cl_ix t (by omega), rf0] at es
      subst es
      exact ⟨fun c => fin _ (by rw [tpSz, if_pos c]), fun c => fin _ (by rw [tpSz, if_neg c])⟩
    refine H33 _ ⟨fun c => go2 (fun z => nle.mpr c z.1), fun c => ⟨fun c3 => go2 (fun z => nle.mpr z.2 c3), fun c3 => h3 v0 nb (nlt.mp c) (nle.mp c3)⟩⟩
  refine ⟨fun c3 => go (fun z => z.elim (fun q => q r1) (fun q => nle.mpr c3 q.1)), fun c3 => ⟨fun c4 => go (fun z => z.elim (fun q => q r1) (fun q => nle.mpr q.2 c4)), fun c4 => h2 v0 (Or.inr ⟨nlt.mp c3, nle.mp c4⟩)⟩⟩
