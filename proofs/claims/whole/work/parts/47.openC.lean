/-! PURE: which PLEAS may be made, as the class tells it: bits by the places of PLn -/
def bN (b : Bool) (k : Nat) : Nat := if b then k else 0
theorem nI_or0 {n : Nat} : nI n ||| nI 0 = nI n := by rw [n_or]; simp
theorem bN_t (b : Bool) (k i : Nat) : (bN b (2 ^ k)).testBit i = (b && decide (k = i)) := by
  unfold bN
  cases b
  · simp
  · simp [Nat.testBit_two_pow]
/-- the number of what may be made: by kinds barred, the POINTS that may be excused by, or assigned, and two more -/
def opN (B X Y : Nat) (f4 f6 : Bool) : Nat :=
  ((((bN (!B.testBit 1) (2 ^ 0) ||| (if B.testBit 2 then 0 else X) * 2 ^ 1) ||| bN (!B.testBit 3) (2 ^ 6)) ||| bN (!B.testBit 4 && f4) (2 ^ 7)) ||| (if B.testBit 5 then 0 else Y) * 2 ^ 8) ||| bN (!B.testBit 6 && f6) (2 ^ 13)
theorem opN_lt {B X Y : Nat} {f4 f6 : Bool} (hX : X < 32) (hY : Y < 32) : opN B X Y f4 f6 < 16384 := by
  have hb : ∀ (b : Bool) (k : Nat), k < 16384 → bN b k < 2 ^ 14 := fun b k h => by unfold bN; split <;> omega
  have h1 : (if B.testBit 2 then 0 else X) * 2 ^ 1 < 2 ^ 14 := by
    show _ * 2 < 16384
    split <;> omega
  have h2 : (if B.testBit 5 then 0 else Y) * 2 ^ 8 < 2 ^ 14 := by
    have hz : (if B.testBit 5 then 0 else Y) ≤ 31 := by split <;> omega
    exact Nat.lt_of_le_of_lt (Nat.mul_le_mul_right _ hz) (by decide)
  unfold opN
  exact Nat.or_lt_two_pow (Nat.or_lt_two_pow (Nat.or_lt_two_pow (Nat.or_lt_two_pow (Nat.or_lt_two_pow (hb _ _ (by decide)) h1) (hb _ _ (by decide))) (hb _ _ (by decide))) h2) (hb _ _ (by decide))
theorem opN_bit {B X Y : Nat} {f4 f6 : Bool} (i : Nat) : (opN B X Y f4 f6).testBit i = ((((((!B.testBit 1 && decide (0 = i)) || (decide (1 ≤ i) && ((!B.testBit 2) && X.testBit (i - 1)))) || (!B.testBit 3 && decide (6 = i))) || ((!B.testBit 4 && f4) && decide (7 = i))) || (decide (8 ≤ i) && ((!B.testBit 5) && Y.testBit (i - 8)))) || ((!B.testBit 6 && f6) && decide (13 = i))) := by
  unfold opN
  simp only [Nat.testBit_or, tb_scale, bN_t]
  have h : ∀ (b : Bool) (Z j : Nat), (if b = true then 0 else Z).testBit j = (!b && Z.testBit j) := by intro b Z j; cases b <;> simp
  rw [h, h]
theorem kC_open {d nc : Nat} {σ : St} {Q : Int32 → St → Prop} {b r : Nat} {R : Ru} {wo : Option Nat} {ps : List Nat} (hn : nc < 5) (hb : isB b) (hK : RoC σ b r R wo ps) (hG : RoG σ r R wo ps) (hlk : ∀ p, p < 5 → P32 (gi σ 101 p) ∧ P32 (gi σ 102 p))
    (h : ∀ N : Nat, N < 16384 → (∀ i, i < 14 → (N.testBit i = true ↔ canP (gi σ 101) (gi σ 102) R wo ps (PLa i))) → Q (nI N) σ) : EI (d + 2) (idsC nc) Y_X2_open [.ref b] σ Q := by
  obtain ⟨hr, hRC, hok, hwo, hlg⟩ := id hG
  have hl5 := lgl_len hok hlg
  have hBo := Bo_v hb
  have hb100 := isB_lt hb
  have hgs := lgl_gs hlg
  obtain ⟨k1, k2, k3, k4, k5, k6, k7⟩ := id hK
  have htop := hK.top
  have zero : ¬ opn R wo ps → Q 0 σ := fun no => h 0 (by decide) (fun i hi => by
    rw [Nat.zero_testBit]
    exact ⟨fun z => (by cases z), fun z => absurd z.1 no⟩)
  refine fl_X2_open (hRo hn hb) (fun P79 P94 P126 P153 H79 H94 H126 H153 => kC_now hn hb k1 hl5 ⟨hSt hn hb hl5, ?_⟩)
  rw [k2]
  refine ⟨fun z => (by cases z), fun r16 e16 => ?_⟩
  cases e16
  refine ⟨hRu hn hr, fun q => zero (fun z => ?_), fun q => ?_⟩
  · rw [k4, k1] at q; exact nlt.mpr q z.1
  rw [k4, k1, nle] at q
  refine kC_isClosed (hSt hn hb hl5) htop (fun hc => ⟨fun z => absurd z (by decide), fun _ => zero (fun z => z.2 hc)⟩) (fun hc => ⟨fun _ => ?_, fun z => absurd rfl z⟩)
  have hop : opn R wo ps := ⟨q, hc⟩
  have hw := k7 ps.length (by omega) (Nat.le_refl _)
  rw [Nat.sub_self, List.drop_zero] at hw
  obtain ⟨w8, -⟩ := hw hop
  obtain ⟨⟨p, sd, hp, hsd, e3, e6, hpb⟩, h4, -, ⟨kk, hkk, e1⟩, ⟨a7, ha7, e7⟩, ⟨a8, ha8, e8⟩⟩ := hgs
  obtain ⟨E, hE, eE⟩ := (hlk p hp).1
  obtain ⟨F, hF, eF⟩ := (hlk p hp).2
  have r100 : rf b 0 = 101 := by rcases hb with rfl | rfl <;> rfl
  have r101 : rf b 1 = 102 := by rcases hb with rfl | rfl <;> rfl
  intro x21 e21 x22 e22 x23 e23
  rw [w8] at e21
  rw [htop.1 6 (by decide), e6] at e22
  rw [htop.1 3 (by decide), e3, r100, cl_ix p (by omega), eE]
  have hBlt := kbM_lt hok (Or.inl rfl) (wo := wo) (fa := faM ps.length (stg R wo ps)) R.length
  have hBs : ∀ k, k < 7 → (kbM R wo 0 (faM ps.length (stg R wo ps)) R.length).testBit k = smM R wo 0 (nI k) (faM ps.length (stg R wo ps)) := fun k hk => kbM_smM hok (Or.inl rfl) hk
  generalize kbM R wo 0 (faM ps.length (stg R wo ps)) R.length = B at e21 hBlt hBs
  subst e21
  have s1 : ((nI B >>> ((1 : Int32) &&& 31)) &&& 1) = nI (B.testBit 1).toNat := kb_sh B hBlt 1 (by decide)
  have s2 : ((nI B >>> ((2 : Int32) &&& 31)) &&& 1) = nI (B.testBit 2).toNat := kb_sh B hBlt 2 (by decide)
  have s3 : ((nI B >>> ((3 : Int32) &&& 31)) &&& 1) = nI (B.testBit 3).toNat := kb_sh B hBlt 3 (by decide)
  have s4 : ((nI B >>> ((4 : Int32) &&& 31)) &&& 1) = nI (B.testBit 4).toNat := kb_sh B hBlt 4 (by decide)
  have s5 : ((nI B >>> ((5 : Int32) &&& 31)) &&& 1) = nI (B.testBit 5).toNat := kb_sh B hBlt 5 (by decide)
  have s6 : ((nI B >>> ((6 : Int32) &&& 31)) &&& 1) = nI (B.testBit 6).toNat := kb_sh B hBlt 6 (by decide)
  rw [s1] at e23
  have e23' : x23 = nI (bN (!B.testBit 1) (2 ^ 0)) := by rw [e23]; cases B.testBit 1 <;> decide
  subst e22
  rw [e23', s2]
  obtain ⟨fx1, fx2, fx3⟩ := free_and E hE sd hsd
  obtain ⟨fy1, fy2, fy3⟩ := free_and F hF sd hsd
  -- what the end is
  have fin : ∀ f4 f6 : Bool, (f4 = true ↔ (0 < ps.length ∧ ¬ stg R wo ps 1 = 6)) → (f6 = true ↔ (if stg R wo ps 4 = 0 then stg R wo ps 7 else stg R wo ps 8) < daysM R wo) → Q (nI (opN B (E &&& (31 ^^^ sd)) (F &&& (31 ^^^ sd)) f4 f6)) σ := by
    intro f4 f6 hf4 hf6
    refine h _ (opN_lt fx2 fy2) (fun i hi => ?_)
    rw [opN_bit]
    have eX : (gi σ 101 (stg R wo ps 3).toNatClampNeg).toNatClampNeg = E := by rw [e3, cl_ix p (by omega), eE, cl_ix E (by omega)]
    have eY : (gi σ 102 (stg R wo ps 3).toNatClampNeg).toNatClampNeg = F := by rw [e3, cl_ix p (by omega), eF, cl_ix F (by omega)]
    have eS : (stg R wo ps 6).toNatClampNeg = sd := by rw [e6, cl_ix sd (by omega)]
    unfold canP
    rw [eX, eY, eS, ← hBs (PLa i / 10) (by rcases (by omega : i = 0 ∨ i = 1 ∨ i = 2 ∨ i = 3 ∨ i = 4 ∨ i = 5 ∨ i = 6 ∨ i = 7 ∨ i = 8 ∨ i = 9 ∨ i = 10 ∨ i = 11 ∨ i = 12 ∨ i = 13) with rfl | rfl | rfl | rfl | rfl | rfl | rfl | rfl | rfl | rfl | rfl | rfl | rfl | rfl <;> decide)]
    have hX : ∀ j, j < 5 → (E &&& (31 ^^^ sd)).testBit j = (E.testBit j && !sd.testBit j) := fx3
    have hY : ∀ j, j < 5 → (F &&& (31 ^^^ sd)).testBit j = (F.testBit j && !sd.testBit j) := fy3
    have hX5 : ∀ j, 5 ≤ j → (E &&& (31 ^^^ sd)).testBit j = false := fun j hj => Nat.testBit_lt_two_pow (Nat.lt_of_lt_of_le fx2 (Nat.pow_le_pow_right (n := 2) (by decide) hj))
    have hY5 : ∀ j, 5 ≤ j → (F &&& (31 ^^^ sd)).testBit j = false := fun j hj => Nat.testBit_lt_two_pow (Nat.lt_of_lt_of_le fy2 (Nat.pow_le_pow_right (n := 2) (by decide) hj))
    generalize E &&& (31 ^^^ sd) = X at hX hX5 ⊢
    generalize F &&& (31 ^^^ sd) = Y at hY hY5 ⊢
    rcases (by omega : i = 0 ∨ i = 1 ∨ i = 2 ∨ i = 3 ∨ i = 4 ∨ i = 5 ∨ i = 6 ∨ i = 7 ∨ i = 8 ∨ i = 9 ∨ i = 10 ∨ i = 11 ∨ i = 12 ∨ i = 13) with rfl | rfl | rfl | rfl | rfl | rfl | rfl | rfl | rfl | rfl | rfl | rfl | rfl | rfl
    · simp [PLa, PLn, hop]
    · simp [PLa, PLn, hop, hX, hX5]
    · simp [PLa, PLn, hop, hX, hX5]
    · simp [PLa, PLn, hop, hX, hX5]
    · simp [PLa, PLn, hop, hX, hX5]
    · simp [PLa, PLn, hop, hX, hX5]
    · simp [PLa, PLn, hop, hX, hX5]
    · simp [PLa, PLn, hop, hX, hX5, hf4]
    · simp [PLa, PLn, hop, hX5, hY]
    · simp [PLa, PLn, hop, hX5, hY]
    · simp [PLa, PLn, hop, hX5, hY]
    · simp [PLa, PLn, hop, hX5, hY]
    · simp [PLa, PLn, hop, hX5, hY]
    · simp [PLa, PLn, hop, hX5, hY5, hf6]
  have last : ∀ (V : Nat) (f4 : Bool), (f4 = true ↔ (0 < ps.length ∧ ¬ stg R wo ps 1 = 6)) → V = ((((bN (!B.testBit 1) (2 ^ 0) ||| (if B.testBit 2 then 0 else (E &&& (31 ^^^ sd))) * 2 ^ 1) ||| bN (!B.testBit 3) (2 ^ 6)) ||| bN (!B.testBit 4 && f4) (2 ^ 7)) ||| (if B.testBit 5 then 0 else (F &&& (31 ^^^ sd))) * 2 ^ 8) → P153 (Bo b + 10 + ps.length) (nI B) (nI V) σ := by
    intro V f4 hf4 hV
    have f6e : ∃ f6 : Bool, (f6 = true ↔ (if stg R wo ps 4 = 0 then stg R wo ps 7 else stg R wo ps 8) < daysM R wo) := ⟨decide _, decide_eq_true_iff⟩
    obtain ⟨f6, hf6⟩ := f6e
    have hfin := fin f4 f6 hf4 hf6
    unfold opN at hfin
    rw [← hV] at hfin
    refine H153 _ _ _ _ (fun _ => ?_)
    rw [s6]
    have skip : (!B.testBit 6 && f6) = false → Q (nI V) σ := fun z => by rw [z] at hfin; simpa [bN] using hfin
    refine ⟨fun c => skip (by rw [tn1 c]; rfl), fun c => ?_⟩
    rw [htop.1 4 (by decide), rfd hb hl5, k5]
    have dd : gi σ (Bo b + 10 + ps.length + 10) (stg R wo ps 4).toNatClampNeg = (if stg R wo ps 4 = 0 then stg R wo ps 7 else stg R wo ps 8) := by
      rcases h4 with h4 | h4
      · rw [h4, if_pos rfl]; exact htop.2.1
      · rw [h4, if_neg (by decide)]; exact htop.2.2
    rw [dd]
    refine ⟨by rcases h4 with h4 | h4 <;> rw [h4] <;> exact vp_dec (by decide), fun c2 => skip ?_, fun c2 x13 e13 => ?_⟩
    · have : f6 = false := by
        cases f6
        · rfl
        · exact absurd (hf6.mp rfl) (nlt.mpr c2)
      rw [this, Bool.and_false]
    · rw [e13, show (8192 : Int32) = nI 8192 from rfl, n_or]
      rw [tn0 c, hf6.mpr (nle.mp c2)] at hfin
      exact hfin
  have mid : ∀ (V : Nat) (f4 : Bool), (f4 = true ↔ (0 < ps.length ∧ ¬ stg R wo ps 1 = 6)) → V = (((bN (!B.testBit 1) (2 ^ 0) ||| (if B.testBit 2 then 0 else (E &&& (31 ^^^ sd))) * 2 ^ 1) ||| bN (!B.testBit 3) (2 ^ 6)) ||| bN (!B.testBit 4 && f4) (2 ^ 7)) → P126 (Bo b + 10 + ps.length) (nI B) (nI sd ^^^ (-1)) (nI V) σ := by
    intro V f4 hf4 hV
    refine H126 _ _ _ _ _ (fun _ => ?_)
    rw [s5, htop.1 3 (by decide), e3, r101, cl_ix p (by omega), eF, fy1]
    refine ⟨fun c => last V f4 hf4 ?_, fun c => ⟨vp_in_nI hp (by decide), fun x9 e9 => ?_⟩⟩
    · rw [tn1 c, if_pos rfl, Nat.zero_mul, Nat.or_zero]; exact hV
    · have sh8 : nI (F &&& (31 ^^^ sd)) <<< ((8 : Int32) &&& 31) = nI ((F &&& (31 ^^^ sd)) * 2 ^ 8) := pk_shlN _ 8 (by decide) (by omega)
      rw [sh8, n_or] at e9
      rw [e9]
      refine last _ f4 hf4 ?_
      rw [hV, tn0 c, if_neg (show ¬ (false = true) by decide)]
  have m4 : ∀ V : Nat, V = ((bN (!B.testBit 1) (2 ^ 0) ||| (if B.testBit 2 then 0 else (E &&& (31 ^^^ sd))) * 2 ^ 1) ||| bN (!B.testBit 3) (2 ^ 6)) → P94 (Bo b + 10 + ps.length) (nI B) (nI sd ^^^ (-1)) (nI V) σ := by
    intro V hV
    obtain ⟨f4, hf4⟩ : ∃ f4 : Bool, (f4 = true ↔ (0 < ps.length ∧ ¬ stg R wo ps 1 = 6)) := ⟨decide _, decide_eq_true_iff⟩
    refine H94 _ _ _ _ _ (fun _ => ?_)
    rw [s4, k1, htop.1 1 (by decide)]
    have skip : (!B.testBit 4 && f4) = false → P126 (Bo b + 10 + ps.length) (nI B) (nI sd ^^^ (-1)) (nI V) σ := fun z => mid V f4 hf4 (by rw [z]; simpa [bN] using hV)
    have ff : ¬ (0 < ps.length ∧ ¬ stg R wo ps 1 = 6) → f4 = false := fun z => by
      cases f4
      · rfl
      · exact absurd (hf4.mp rfl) z
    refine ⟨fun c => skip (by rw [tn1 c]; rfl), fun c => ⟨fun c2 => skip ?_, fun c2 => ⟨fun c3 => skip ?_, fun c3 x6 e6 => ?_⟩⟩⟩
    · rw [ff (fun z => absurd ((nI_leI (b := 0) (by omega) (by decide)).mp c2) (by omega)), Bool.and_false]
    · rw [ff (fun z => z.2 c3), Bool.and_false]
    · have hpos : 0 < ps.length := by
        have := (nI_ltI (a := 0) (by decide) (by omega)).mp (nle.mp c2)
        exact this
      rw [e6, show (128 : Int32) = nI 128 from rfl, n_or]
      refine mid _ f4 hf4 ?_
      rw [tn0 c, hf4.mpr ⟨hpos, c3⟩, hV]
      rfl
  have m3 : ∀ V : Nat, V = (bN (!B.testBit 1) (2 ^ 0) ||| (if B.testBit 2 then 0 else (E &&& (31 ^^^ sd))) * 2 ^ 1) → P79 (Bo b + 10 + ps.length) (nI B) (nI sd ^^^ (-1)) (nI V) σ := by
    intro V hV
    refine H79 _ _ _ _ _ (fun _ => ?_)
    rw [s3]
    refine ⟨fun c => m4 V ?_, fun c x2 e2 => ?_⟩
    · rw [tn1 c]; simpa [bN] using hV
    · rw [e2, show (64 : Int32) = nI 64 from rfl, n_or]
      refine m4 _ ?_
      rw [tn0 c, hV]
      rfl
  refine ⟨fun c => m3 _ ?_, fun c => ⟨vp_in_nI hp (by decide), fun x26 e26 => ?_⟩⟩
  · rw [tn1 c, if_pos rfl, Nat.zero_mul, Nat.or_zero]
  · have sh1 : nI (E &&& (31 ^^^ sd)) <<< ((1 : Int32) &&& 31) = nI ((E &&& (31 ^^^ sd)) * 2 ^ 1) := pk_shlN _ 1 (by decide) (by omega)
    rw [fx1, sh1, n_or] at e26
    rw [e26]
    refine m3 _ ?_
    rw [tn0 c, if_neg (show ¬ (false = true) by decide)]
