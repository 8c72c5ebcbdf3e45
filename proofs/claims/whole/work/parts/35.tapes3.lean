/-! PURE: shifting; a tape made -/
theorem i_rng (x : Int32) : -2147483648 ≤ x.toInt ∧ x.toInt < 2147483648 := by
  have h1 := Int32.le_toInt x
  have h2 := Int32.toInt_lt x
  omega
theorem i_bmod {z : Int} (h1 : -2147483648 ≤ z) (h2 : z < 2147483648) : z.bmod (2 ^ 32) = z := by
  rw [Int.bmod_eq_of_le] <;> omega
theorem i_sub {x y : Int32} (h1 : -2147483648 ≤ x.toInt - y.toInt) (h2 : x.toInt - y.toInt < 2147483648) : (x - y).toInt = x.toInt - y.toInt := by
  rw [Int32.toInt_sub]; exact i_bmod h1 h2
theorem i_add {x y : Int32} (h1 : -2147483648 ≤ x.toInt + y.toInt) (h2 : x.toInt + y.toInt < 2147483648) : (x + y).toInt = x.toInt + y.toInt := by
  rw [Int32.toInt_add]; exact i_bmod h1 h2
theorem sh_in {m i n : Nat} (hm : m ≤ 60) (hi : i < 2 ^ 31) (hn : n < 2 ^ 31) : ¬ (nI m - nI n < nI i) ↔ i + n ≤ m := by
  rw [nlt, i32_le, i_sub (by rw [nI_toInt (by omega), nI_toInt hn]; omega) (by rw [nI_toInt (by omega), nI_toInt hn]; omega), nI_toInt hi, nI_toInt hn, nI_toInt (n := m) (by omega)]
  omega
theorem sh_ix {t i k : Nat} : ((60 : Int32) * nI t + nI i) + nI k = nI (60 * t + i + k) := by
  rw [i32_60, pk_mul, nI_add, nI_add]
theorem s_shift {d nc : Nat} (hn : nc < 5) {σ τ : St} {a0 a1 a2 a3 a4 : Int32} (h : RTp σ τ) {Q : Int32 → St → Int32 → St → Prop}
    (h1 : ∀ x, Q x σ x τ) (h2 : ∀ (t u i j n : Nat), t < 6 → u < 6 → i + n ≤ 60 → j + n ≤ 60 → ∀ τ', (∀ o, gi τ' o = gi τ o) → (∀ k, k < n → gl τ' 49 (60 * u + j + k) = gl τ 49 (60 * t + i + k)) → (∀ k, (k < 60 * u + j ∨ 60 * u + j + n ≤ k) → gl τ' 49 k = gl τ 49 k) → Q a4 (cpL σ (130 + t) (130 + u) i j n) a4 τ') :
    EI (d + 2) (idsC nc) Y_X6_shift [.ref 100, .int a0, .int a1, .int a2, .int a3, .int a4] σ (fun x σ' => EI (d + 3) idsR Y_X7_shift [.ref 0, .int a0, .int a1, .int a2, .int a3, .int a4] τ (fun y τ' => Q x σ' y τ')) := by
  refine fl_X6_shift (hB hn (by decide) rfl) ?_
  by_cases v0 : Tp a0
  case neg =>
    refine kC_isTape ⟨fun _ => ?_, fun c => absurd (bI_n.mp c) v0⟩
    exact fl_X7_shift hR (fun P104 P141 H104 H141 => kR_isTape ⟨fun _ => h1 _, fun c => absurd (bI_n.mp c) v0⟩)
  refine kC_isTape ⟨fun c => absurd v0 (bI_0.mp c), fun _ => ?_⟩
  by_cases v2 : Tp a2
  case neg =>
    refine kC_isTape ⟨fun c => absurd (bI_n.mp c) v2, fun _ => ?_⟩
    exact fl_X7_shift hR (fun P104 P141 H104 H141 => kR_isTape ⟨fun c => absurd v0 (bI_0.mp c), fun _ => kR_isTape ⟨fun c => absurd (bI_n.mp c) v2, fun _ => h1 _⟩⟩)
  refine kC_isTape ⟨fun _ => ?_, fun c => absurd v2 (bI_0.mp c)⟩
  obtain ⟨t, ht, rfl⟩ := tp_of v0
  obtain ⟨u, hu, rfl⟩ := tp_of v2
  have hit : vp_in (nI t) 6 := vp_in_nI ht (by decide)
  have hiu : vp_in (nI u) 6 := vp_in_nI hu (by decide)
  obtain ⟨e1, e2, ⟨m, hm, e3⟩, -, -⟩ := h t ht
  obtain ⟨f1, f2, ⟨w, hw, f3⟩, -, -⟩ := h u hu
  rw [rf100_10, rf100_11, cl_ix t (by omega), cl_ix u (by omega), rf100_12, rf100_12, e1, f1, e2, f2, e3, f3]
  have ref : ∀ x σ', (∀ P104 P141 : Int32 → St → Prop, (∀ (v6 : Int32) (σ : St), ((a4 ≤ v6 → P141 0 σ) ∧ (¬ a4 ≤ v6 → vp_in (((60 * nI t) + a1) + v6) 360 ∧ vp_in v6 60 ∧ ∀ s4 : St, s4 = sl σ 50 v6.toNatClampNeg (gl σ 49 (((60 * nI t) + a1) + v6).toNatClampNeg) → ∀ x5 : Int32, x5 = v6 + 1 → P104 x5 s4)) → P104 v6 σ) → (∀ (v6 : Int32) (σ : St), ((a4 ≤ v6 → Q x σ' a4 σ) ∧ (¬ a4 ≤ v6 → vp_in v6 60 ∧ vp_in (((60 * nI u) + a3) + v6) 360 ∧ ∀ s9 : St, s9 = sl σ 49 (((60 * nI u) + a3) + v6).toNatClampNeg (gl σ 50 v6.toNatClampNeg) → ∀ x10 : Int32, x10 = v6 + 1 → P141 x10 s9)) → P141 v6 σ) →
      ((gi τ 47 t < 0 → Q x σ' (-11) τ) ∧ (¬ gi τ 47 t < 0 → ((0 ≤ gi τ 47 u → ((gi τ 47 t = gi τ 47 u → ((a4 < 0 → Q x σ' (-13) τ) ∧ (¬ a4 < 0 → ((a1 < 0 → Q x σ' (-13) τ) ∧ (¬ a1 < 0 → ((a3 < 0 → Q x σ' (-13) τ) ∧ (¬ a3 < 0 → ((nI m - a4 < a1 → Q x σ' (-13) τ) ∧ (¬ nI m - a4 < a1 → ((a3 ≤ nI w - a4 → P104 0 τ) ∧ (¬ a3 ≤ nI w - a4 → Q x σ' (-13) τ))))))))))) ∧ (¬ gi τ 47 t = gi τ 47 u → Q x σ' (-12) τ))) ∧ (¬ 0 ≤ gi τ 47 u → Q x σ' (-11) τ))))) →
      EI (d + 3) idsR Y_X7_shift [.ref 0, .int (nI t), .int a1, .int (nI u), .int a3, .int a4] τ (fun y τ' => Q x σ' y τ') := by
    intro x σ' k
    refine fl_X7_shift hR (fun P104 P141 H104 H141 => kR_isTape ⟨fun c => absurd v0 (bI_0.mp c), fun _ => kR_isTape ⟨fun _ => ⟨hit, ?_⟩, fun c => absurd v2 (bI_0.mp c)⟩⟩)
    have kk := k P104 P141 H104 H141
    rw [rf0, rf0, cl_ix t (by omega), cl_ix u (by omega), e3, f3]
    exact ⟨kk.1, fun c => ⟨hiu, fun c2 => ⟨hit, hiu, fun c3 => ⟨((kk.2 c).1 c2).1 c3 |>.1, fun c4 => ⟨(((kk.2 c).1 c2).1 c3 |>.2 c4).1, fun c5 => ⟨((((kk.2 c).1 c2).1 c3 |>.2 c4).2 c5).1, fun c6 => ⟨hit, (((((kk.2 c).1 c2).1 c3 |>.2 c4).2 c5).2 c6).1, fun c7 => ⟨hiu, (((((kk.2 c).1 c2).1 c3 |>.2 c4).2 c5).2 c6).2 c7⟩⟩⟩⟩⟩, ((kk.2 c).1 c2).2⟩, (kk.2 c).2⟩⟩
  refine ⟨hit, fun c => ref _ _ (fun _ _ _ _ => ⟨fun _ => h1 _, fun q => absurd c q⟩), fun c => ⟨hiu, fun c2 => ⟨hit, hiu, fun c3 => ⟨fun c4 => ?_, fun c4 => ⟨fun c5 => ?_, fun c5 => ⟨fun c6 => ?_, fun c6 => ⟨hit, fun c7 => ?_, fun c7 => ⟨hiu, fun c8 => ?_, fun c8 => ?_⟩⟩⟩⟩⟩, fun c3 => ?_⟩, fun c2 => ?_⟩⟩
  · exact ref _ _ (fun _ _ _ _ => ⟨fun q => absurd q c, fun _ => ⟨fun _ => ⟨fun _ => ⟨fun _ => h1 _, fun q => absurd c4 q⟩, fun q => absurd c3 q⟩, fun q => absurd c2 q⟩⟩)
  · exact ref _ _ (fun _ _ _ _ => ⟨fun q => absurd q c, fun _ => ⟨fun _ => ⟨fun _ => ⟨fun q => absurd q c4, fun _ => ⟨fun _ => h1 _, fun q => absurd c5 q⟩⟩, fun q => absurd c3 q⟩, fun q => absurd c2 q⟩⟩)
  · exact ref _ _ (fun _ _ _ _ => ⟨fun q => absurd q c, fun _ => ⟨fun _ => ⟨fun _ => ⟨fun q => absurd q c4, fun _ => ⟨fun q => absurd q c5, fun _ => ⟨fun _ => h1 _, fun q => absurd c6 q⟩⟩⟩, fun q => absurd c3 q⟩, fun q => absurd c2 q⟩⟩)
  · exact ref _ _ (fun _ _ _ _ => ⟨fun q => absurd q c, fun _ => ⟨fun _ => ⟨fun _ => ⟨fun q => absurd q c4, fun _ => ⟨fun q => absurd q c5, fun _ => ⟨fun q => absurd q c6, fun _ => ⟨fun _ => h1 _, fun q => absurd c7 q⟩⟩⟩⟩, fun q => absurd c3 q⟩, fun q => absurd c2 q⟩⟩)
  · obtain ⟨n, hn31, rfl⟩ := nI_of c4
    obtain ⟨i, hi31, rfl⟩ := nI_of c5
    obtain ⟨j, hj31, rfl⟩ := nI_of c6
    have hin := (sh_in hm hi31 hn31).mp c7
    have hjn := (sh_in hw hj31 hn31).mp (nlt.mpr c8)
    refine ⟨hit, hiu, c5, c6, c4, by rw [cl_ix i hi31, cl_ix n hn31]; omega, by rw [cl_ix j hj31, cl_ix n hn31]; omega, fun s es => ?_⟩
    rw [cl_ix i hi31, cl_ix j hj31, cl_ix n hn31] at es
    subst es
    refine ref _ _ (fun P104 P141 H104 H141 => ⟨fun q => absurd q c, fun _ => ⟨fun _ => ⟨fun _ => ⟨fun q => absurd q c4, fun _ => ⟨fun q => absurd q c5, fun _ => ⟨fun q => absurd q c6, fun _ => ⟨fun q => absurd q c7, fun _ => ⟨fun _ => ?_, fun q => absurd c8 q⟩⟩⟩⟩⟩, fun q => absurd c3 q⟩, fun q => absurd c2 q⟩⟩)
    have second : ∀ τ1, (∀ o, gi τ1 o = gi τ o) → (∀ k, gl τ1 49 k = gl τ 49 k) → (∀ k, k < n → gl τ1 50 k = gl τ 49 (60 * t + i + k)) → P141 (nI 0) τ1 := by
      intro τ1 g1 g2 g3
      refine up_loop (P := P141) n (fun k τ' => (∀ o, gi τ' o = gi τ o) ∧ (∀ q, q < n → gl τ' 50 q = gl τ 49 (60 * t + i + q)) ∧ (∀ q, q < k → gl τ' 49 (60 * u + j + q) = gl τ 49 (60 * t + i + q)) ∧ (∀ q, (q < 60 * u + j ∨ 60 * u + j + k ≤ q) → gl τ' 49 q = gl τ 49 q)) ?_ ?_ 0 τ1 (Nat.zero_le _) ⟨g1, g3, fun q hq => absurd hq (by omega), fun q _ => g2 q⟩
      · rintro k τ2 hk ⟨i1, i2, i3, i4⟩ kk
        refine H141 _ _ ⟨fun q => absurd ((nI_leI hn31 (by omega)).mp q) (by omega), fun _ => ⟨vp_in_nI (by omega) (by decide), by rw [sh_ix]; exact vp_in_nI (by omega) (by decide), fun s es x ex => ?_⟩⟩
        rw [sh_ix, cl_ix _ (by omega), cl_ix k (by omega)] at es
        rw [ex, ← nI_succ]
        subst es
        refine kk _ ⟨i1, fun q hq => ?_, fun q hq => ?_, fun q hq => ?_⟩
        · rw [gl_sl, if_neg (fun z => absurd z.1 (by decide))]; exact i2 q hq
        · rw [gl_sl]
          by_cases hqk : q = k
          · rw [if_pos ⟨rfl, by omega⟩, hqk]; exact i2 k hk
          · rw [if_neg (fun z => hqk (by omega))]; exact i3 q (by omega)
        · rw [gl_sl, if_neg (fun z => by omega)]; exact i4 q (by omega)
      · rintro τ2 ⟨i1, i2, i3, i4⟩
        refine H141 _ _ ⟨fun _ => h2 t u i j n ht hu (by omega) (by omega) τ2 i1 i3 i4, fun q => absurd ((nI_leI hn31 hn31).mpr (Nat.le_refl n)) q⟩
    have first := up_loop (P := P104) n (fun k τ' => (∀ o, gi τ' o = gi τ o) ∧ (∀ q, gl τ' 49 q = gl τ 49 q) ∧ (∀ q, q < k → gl τ' 50 q = gl τ 49 (60 * t + i + q))) (fun k τ1 hk ⟨i1, i2, i3⟩ kk => H104 _ _ ⟨fun q => absurd ((nI_leI hn31 (by omega)).mp q) (by omega), fun _ => ⟨by rw [sh_ix]; exact vp_in_nI (by omega) (by decide), vp_in_nI (by omega) (by decide), fun s es x ex => by
        rw [sh_ix, cl_ix (60 * t + i + k) (by omega), cl_ix k (by omega)] at es
        rw [ex, ← nI_succ]
        subst es
        refine kk _ ⟨i1, fun q => ?_, fun q hq => ?_⟩
        · rw [gl_sl, if_neg (fun z => absurd z.1 (by decide))]; exact i2 q
        · rw [gl_sl]
          by_cases hqk : q = k
          · rw [if_pos ⟨rfl, hqk⟩, hqk]; exact i2 _
          · rw [if_neg (fun z => hqk z.2)]; exact i3 q (by omega)⟩⟩)
      (fun τ1 ⟨i1, i2, i3⟩ => H104 _ _ ⟨fun _ => second τ1 i1 i2 i3, fun q => absurd ((nI_leI hn31 hn31).mpr (Nat.le_refl n)) q⟩)
    exact first 0 τ (Nat.zero_le _) ⟨fun _ => rfl, fun _ => rfl, fun q hq => absurd hq (by omega)⟩
  · exact ref _ _ (fun _ _ _ _ => ⟨fun q => absurd q c, fun _ => ⟨fun _ => ⟨fun _ => ⟨fun q => absurd q c4, fun _ => ⟨fun q => absurd q c5, fun _ => ⟨fun q => absurd q c6, fun _ => ⟨fun q => absurd q c7, fun _ => ⟨fun q => absurd q c8, fun _ => h1 _⟩⟩⟩⟩⟩, fun q => absurd c3 q⟩, fun q => absurd c2 q⟩⟩)
  · exact ref _ _ (fun _ _ _ _ => ⟨fun q => absurd q c, fun _ => ⟨fun _ => ⟨fun q => absurd q c3, fun _ => h1 _⟩, fun q => absurd c2 q⟩⟩)
  · exact ref _ _ (fun _ _ _ _ => ⟨fun q => absurd q c, fun _ => ⟨fun q => absurd q c2, fun _ => h1 _⟩⟩)
theorem gl_cpL (σ : St) (a b sp dp n o k : Nat) : gl (cpL σ a b sp dp n) o k = if o = b then (if dp ≤ k ∧ k < dp + n then gl σ a (sp + (k - dp)) else gl σ b k) else gl σ o k := by
  show (if o = b then va_cpy (gl σ a) (gl σ b) sp dp n else σ.2 o) k = _
  by_cases h : o = b
  · rw [if_pos h, if_pos h]; rfl
  · rw [if_neg h, if_neg h]; rfl
theorem RTp_shift {σ τ τ' : St} (h : RTp σ τ) {t u i j n : Nat} (ht : t < 6) (hu : u < 6) (hi : i + n ≤ 60) (hj : j + n ≤ 60) (g1 : ∀ o, gi τ' o = gi τ o) (g2 : ∀ k, k < n → gl τ' 49 (60 * u + j + k) = gl τ 49 (60 * t + i + k)) (g3 : ∀ k, (k < 60 * u + j ∨ 60 * u + j + n ≤ k) → gl τ' 49 k = gl τ 49 k) : RTp (cpL σ (130 + t) (130 + u) i j n) τ' := by
  intro v hv
  obtain ⟨e1, e2, e3, e4, e5⟩ := h v hv
  have e5t := (h t ht).2.2.2.2
  rw [g1 47, g1 48]
  refine ⟨e1, e2, e3, e4, fun q hq => ?_⟩
  rw [gl_cpL]
  by_cases hvu : v = u
  · subst hvu
    rw [if_pos rfl]
    by_cases hc : j ≤ q ∧ q < j + n
    · rw [if_pos hc, e5t _ (by omega)]
      have := g2 (q - j) (by omega)
      rw [show 60 * v + j + (q - j) = 60 * v + q by omega] at this
      rw [this]
      congr 1
      omega
    · rw [if_neg hc, g3 _ (by omega)]; exact e5 q hq
  · rw [if_neg (fun z => hvu (by omega)), g3 _ (by omega)]
    exact e5 q hq
theorem s_tape {d nc : Nat} (hn : nc < 5) {σ τ : St} {a0 a1 a2 : Int32} (h : RTp σ τ) {Q : Int32 → St → Int32 → St → Prop}
    (h1 : ∀ x, Q x σ x τ) (h2 : ∀ σ' τ', (∀ o, o ≠ 111 → o ≠ 112 → gi σ' o = gi σ o) → (∀ o, o ≠ 47 → o ≠ 48 → gi τ' o = gi τ o) → RTp σ' τ' → Q 1 σ' 1 τ') :
    EI (d + 2) (idsC nc) Y_X6_tape [.ref 100, .int a0, .int a1, .int a2] σ (fun x σ' => EI (d + 3) idsR Y_X7_tape [.ref 0, .int a0, .int a1, .int a2] τ (fun y τ' => Q x σ' y τ')) := by
  refine kC_tape hn (fun v => ?_) (fun v b => ?_) (fun v b c1 c2 => ?_) (fun t ht ea nb ns σ' i1 i2 i3 i4 i5 => ?_)
  · exact kR_tape (fun _ => h1 _) (fun q => absurd q v) (fun q => absurd q v) (fun t ht e => absurd (e ▸ ⟨nI_pos' (by omega), (nI_leI (b := 5) (by omega) (by decide)).mpr (by omega)⟩) v)
  · exact kR_tape (fun q => absurd v q) (fun _ _ => h1 _) (fun _ q => absurd b q) (fun _ _ _ q => absurd b q)
  · exact kR_tape (fun q => absurd v q) (fun _ q => absurd q b) (fun _ _ _ _ => h1 _) (fun _ _ _ _ q => absurd ⟨c1, c2⟩ q)
  · have v : Tp a0 := ea ▸ ⟨nI_pos' (by omega), (nI_leI (b := 5) (by omega) (by decide)).mpr (by omega)⟩
    refine kR_tape (fun q => absurd v q) (fun _ q => absurd q nb) (fun _ _ c1 c2 => absurd ⟨c1, c2⟩ ns) (fun t2 ht2 ea2 _ _ τ' j1 j2 j3 j4 j5 => ?_)
    have : t2 = t := (nI_eq (by omega) (by omega)).mp (ea2.symm.trans ea)
    subst this
    refine h2 σ' τ' i1 j1 (fun w hw => ?_)
    obtain ⟨e1, e2, e3, e4, e5⟩ := h w hw
    rw [i2, i3, j2, j3]
    have r1 : -1 ≤ a1 ∧ a1 ≤ 4 := Classical.byContradiction (fun z => nb (Or.inl z))
    by_cases hwt : w = t2
    · subst hwt
      rw [pk_us, pk_us, pk_us, pk_us]
      refine ⟨rfl, rfl, ?_, r1, fun i hi => by rw [i4 i hi, j4 i hi]⟩
      unfold tpSz
      split
      · rename_i h0
        obtain ⟨n, hn60, rfl⟩ := rng (n := 60) (by decide) (nlt.mp (fun z => ns ⟨h0, z⟩)) (nlt.mp (fun z => nb (Or.inr ⟨h0, z⟩)))
        exact ⟨n, hn60, rfl⟩
      · exact ⟨0, by omega, rfl⟩
    · simp only [upd, if_neg hwt]
      refine ⟨e1, e2, e3, e4, fun i hi => ?_⟩
      rw [i5 _ (by omega), j5 _ (by omega)]
      exact e5 i hi
