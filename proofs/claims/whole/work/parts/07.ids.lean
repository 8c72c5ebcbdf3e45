/-! what is found through a reference that is held for good; names for what is computed -/
theorem dc_nI {n : Nat} (h : n < 2 ^ 31) : dc (nI n) = some n := by rw [dc, if_neg (nI_pos h), nI_clamp h]
theorem sh_lt {o : Nat} {t n : Nat} (h : sh o = (t, n)) (ht : t < 9) : o < 440 := by
  rcases Nat.lt_or_ge o 440 with q | q
  · exact q
  · exfalso
    have e : sh o = (9, 0) := by
      unfold sh shC
      rw [if_neg (by omega), if_neg (by omega), if_neg (by omega), if_neg (by omega)]
    rw [e] at h
    cases h
    exact absurd ht (by decide)
theorem IO_lt {ids : List Nat} {o c : Nat} (h : IO ids o c) : o < 2 ^ 31 := by
  have h1 := sh_lt h.2.2 (by decide)
  omega
theorem ne_toInt {x : Int32} {k : Int} {y : Int32} (h : ¬ x = y) (hk : y.toInt = k) : x.toInt ≠ k := fun e => h (Int32.toInt_inj.mp (e.trans hk.symm))
theorem vp_lt {i : Int32} {n : Nat} (h : vp_in i n) : i.toNatClampNeg < n := Nat.not_le.mp fun q => h (Or.inr q)
theorem Wg.nmI {X : CT} {ids : List Nat} {nL : Nat} {Qp : Option Value → St → Prop} {pc : Nat} {L : List (Nat × Value)} {S : List Value} {σ : St} {x : Int32} (k : ∀ y : Int32, y = x → Wg X ids nL Qp pc L (.int y :: S) σ) : Wg X ids nL Qp pc L (.int x :: S) σ := k x rfl
theorem Wg.nmS {X : CT} {ids : List Nat} {nL : Nat} {Qp : Option Value → St → Prop} {pc : Nat} {L : List (Nat × Value)} {S : List Value} {σ0 : St} (k : ∀ σ : St, σ = σ0 → Wg X ids nL Qp pc L S σ) : Wg X ids nL Qp pc L S σ0 := k σ0 rfl
theorem rfO_0_1 {ids : List Nat} {o : Nat} (h : IO ids o 0) : IA ids (rf o 1) 0 20 := ⟨h.1, h.1 o h.2.1 1 (by rw [isr, h.2.2]; rfl), (show ∀ o, o < 440 → sh o = (0, 0) → sh (rf o 1) = (1, 20) by decide +kernel) o (sh_lt h.2.2 (by decide)) h.2.2⟩
theorem rfO_1_1 {ids : List Nat} {o : Nat} (h : IO ids o 1) : IA ids (rf o 1) 6 3 := ⟨h.1, h.1 o h.2.1 1 (by rw [isr, h.2.2]; rfl), (show ∀ o, o < 440 → sh o = (0, 1) → sh (rf o 1) = (7, 3) by decide +kernel) o (sh_lt h.2.2 (by decide)) h.2.2⟩
theorem rfO_2_0 {ids : List Nat} {o : Nat} (h : IO ids o 2) : IA ids (rf o 0) 0 5 := ⟨h.1, h.1 o h.2.1 0 (by rw [isr, h.2.2]; rfl), (show ∀ o, o < 440 → sh o = (0, 2) → sh (rf o 0) = (1, 5) by decide +kernel) o (sh_lt h.2.2 (by decide)) h.2.2⟩
theorem rfO_2_1 {ids : List Nat} {o : Nat} (h : IO ids o 2) : IA ids (rf o 1) 0 5 := ⟨h.1, h.1 o h.2.1 1 (by rw [isr, h.2.2]; rfl), (show ∀ o, o < 440 → sh o = (0, 2) → sh (rf o 1) = (1, 5) by decide +kernel) o (sh_lt h.2.2 (by decide)) h.2.2⟩
theorem rfO_2_2 {ids : List Nat} {o : Nat} (h : IO ids o 2) : IA ids (rf o 2) 5 6 := ⟨h.1, h.1 o h.2.1 2 (by rw [isr, h.2.2]; rfl), (show ∀ o, o < 440 → sh o = (0, 2) → sh (rf o 2) = (6, 6) by decide +kernel) o (sh_lt h.2.2 (by decide)) h.2.2⟩
theorem rfO_2_3 {ids : List Nat} {o : Nat} (h : IO ids o 2) : IA ids (rf o 3) 0 5 := ⟨h.1, h.1 o h.2.1 3 (by rw [isr, h.2.2]; rfl), (show ∀ o, o < 440 → sh o = (0, 2) → sh (rf o 3) = (1, 5) by decide +kernel) o (sh_lt h.2.2 (by decide)) h.2.2⟩
theorem rfO_2_4 {ids : List Nat} {o : Nat} (h : IO ids o 2) : IA ids (rf o 4) 0 8 := ⟨h.1, h.1 o h.2.1 4 (by rw [isr, h.2.2]; rfl), (show ∀ o, o < 440 → sh o = (0, 2) → sh (rf o 4) = (1, 8) by decide +kernel) o (sh_lt h.2.2 (by decide)) h.2.2⟩
theorem rfO_3_1 {ids : List Nat} {o : Nat} (h : IO ids o 3) : IA ids (rf o 1) 0 6 := ⟨h.1, h.1 o h.2.1 1 (by rw [isr, h.2.2]; rfl), (show ∀ o, o < 440 → sh o = (0, 3) → sh (rf o 1) = (1, 6) by decide +kernel) o (sh_lt h.2.2 (by decide)) h.2.2⟩
theorem rfO_3_2 {ids : List Nat} {o : Nat} (h : IO ids o 3) : IA ids (rf o 2) 0 6 := ⟨h.1, h.1 o h.2.1 2 (by rw [isr, h.2.2]; rfl), (show ∀ o, o < 440 → sh o = (0, 3) → sh (rf o 2) = (1, 6) by decide +kernel) o (sh_lt h.2.2 (by decide)) h.2.2⟩
theorem rfO_3_3 {ids : List Nat} {o : Nat} (h : IO ids o 3) : IA ids (rf o 3) 0 6 := ⟨h.1, h.1 o h.2.1 3 (by rw [isr, h.2.2]; rfl), (show ∀ o, o < 440 → sh o = (0, 3) → sh (rf o 3) = (1, 6) by decide +kernel) o (sh_lt h.2.2 (by decide)) h.2.2⟩
theorem rfO_3_5 {ids : List Nat} {o : Nat} (h : IO ids o 3) : IA ids (rf o 5) 0 100 := ⟨h.1, h.1 o h.2.1 5 (by rw [isr, h.2.2]; rfl), (show ∀ o, o < 440 → sh o = (0, 3) → sh (rf o 5) = (1, 100) by decide +kernel) o (sh_lt h.2.2 (by decide)) h.2.2⟩
theorem rfO_4_7 {ids : List Nat} {o : Nat} (h : IO ids o 4) : IA ids (rf o 7) 0 2 := ⟨h.1, h.1 o h.2.1 7 (by rw [isr, h.2.2]; rfl), (show ∀ o, o < 440 → sh o = (0, 4) → sh (rf o 7) = (1, 2) by decide +kernel) o (sh_lt h.2.2 (by decide)) h.2.2⟩
theorem rfO_5_0 {ids : List Nat} {o : Nat} (h : IO ids o 5) : IA ids (rf o 0) 0 100 := ⟨h.1, h.1 o h.2.1 0 (by rw [isr, h.2.2]; rfl), (show ∀ o, o < 440 → sh o = (0, 5) → sh (rf o 0) = (1, 100) by decide +kernel) o (sh_lt h.2.2 (by decide)) h.2.2⟩
theorem rfO_6_0 {ids : List Nat} {o : Nat} (h : IO ids o 6) : IA ids (rf o 0) 0 5 := ⟨h.1, h.1 o h.2.1 0 (by rw [isr, h.2.2]; rfl), (show ∀ o, o < 440 → sh o = (0, 6) → sh (rf o 0) = (1, 5) by decide +kernel) o (sh_lt h.2.2 (by decide)) h.2.2⟩
theorem rfO_6_1 {ids : List Nat} {o : Nat} (h : IO ids o 6) : IA ids (rf o 1) 0 5 := ⟨h.1, h.1 o h.2.1 1 (by rw [isr, h.2.2]; rfl), (show ∀ o, o < 440 → sh o = (0, 6) → sh (rf o 1) = (1, 5) by decide +kernel) o (sh_lt h.2.2 (by decide)) h.2.2⟩
theorem rfO_6_2 {ids : List Nat} {o : Nat} (h : IO ids o 6) : IA ids (rf o 2) 3 4 := ⟨h.1, h.1 o h.2.1 2 (by rw [isr, h.2.2]; rfl), (show ∀ o, o < 440 → sh o = (0, 6) → sh (rf o 2) = (4, 4) by decide +kernel) o (sh_lt h.2.2 (by decide)) h.2.2⟩
theorem rfO_6_4 {ids : List Nat} {o : Nat} (h : IO ids o 6) : IO ids (rf o 4) 5 := ⟨h.1, h.1 o h.2.1 4 (by rw [isr, h.2.2]; rfl), (show ∀ o, o < 440 → sh o = (0, 6) → sh (rf o 4) = (0, 5) by decide +kernel) o (sh_lt h.2.2 (by decide)) h.2.2⟩
theorem rfO_6_5 {ids : List Nat} {o : Nat} (h : IO ids o 6) : IA ids (rf o 5) 4 5 := ⟨h.1, h.1 o h.2.1 5 (by rw [isr, h.2.2]; rfl), (show ∀ o, o < 440 → sh o = (0, 6) → sh (rf o 5) = (5, 5) by decide +kernel) o (sh_lt h.2.2 (by decide)) h.2.2⟩
theorem rfO_6_7 {ids : List Nat} {o : Nat} (h : IO ids o 6) : IO ids (rf o 7) 2 := ⟨h.1, h.1 o h.2.1 7 (by rw [isr, h.2.2]; rfl), (show ∀ o, o < 440 → sh o = (0, 6) → sh (rf o 7) = (0, 2) by decide +kernel) o (sh_lt h.2.2 (by decide)) h.2.2⟩
theorem rfO_6_8 {ids : List Nat} {o : Nat} (h : IO ids o 6) : IO ids (rf o 8) 2 := ⟨h.1, h.1 o h.2.1 8 (by rw [isr, h.2.2]; rfl), (show ∀ o, o < 440 → sh o = (0, 6) → sh (rf o 8) = (0, 2) by decide +kernel) o (sh_lt h.2.2 (by decide)) h.2.2⟩
theorem rfO_6_9 {ids : List Nat} {o : Nat} (h : IO ids o 6) : IO ids (rf o 9) 0 := ⟨h.1, h.1 o h.2.1 9 (by rw [isr, h.2.2]; rfl), (show ∀ o, o < 440 → sh o = (0, 6) → sh (rf o 9) = (0, 0) by decide +kernel) o (sh_lt h.2.2 (by decide)) h.2.2⟩
theorem rfO_6_10 {ids : List Nat} {o : Nat} (h : IO ids o 6) : IA ids (rf o 10) 0 6 := ⟨h.1, h.1 o h.2.1 10 (by rw [isr, h.2.2]; rfl), (show ∀ o, o < 440 → sh o = (0, 6) → sh (rf o 10) = (1, 6) by decide +kernel) o (sh_lt h.2.2 (by decide)) h.2.2⟩
theorem rfO_6_11 {ids : List Nat} {o : Nat} (h : IO ids o 6) : IA ids (rf o 11) 0 6 := ⟨h.1, h.1 o h.2.1 11 (by rw [isr, h.2.2]; rfl), (show ∀ o, o < 440 → sh o = (0, 6) → sh (rf o 11) = (1, 6) by decide +kernel) o (sh_lt h.2.2 (by decide)) h.2.2⟩
theorem rfO_6_12 {ids : List Nat} {o : Nat} (h : IO ids o 6) : IA ids (rf o 12) 7 6 := ⟨h.1, h.1 o h.2.1 12 (by rw [isr, h.2.2]; rfl), (show ∀ o, o < 440 → sh o = (0, 6) → sh (rf o 12) = (8, 6) by decide +kernel) o (sh_lt h.2.2 (by decide)) h.2.2⟩
theorem rfO_7_1 {ids : List Nat} {o : Nat} (h : IO ids o 7) : IA ids (rf o 1) 0 6 := ⟨h.1, h.1 o h.2.1 1 (by rw [isr, h.2.2]; rfl), (show ∀ o, o < 440 → sh o = (0, 7) → sh (rf o 1) = (1, 6) by decide +kernel) o (sh_lt h.2.2 (by decide)) h.2.2⟩
theorem rfO_7_2 {ids : List Nat} {o : Nat} (h : IO ids o 7) : IA ids (rf o 2) 0 6 := ⟨h.1, h.1 o h.2.1 2 (by rw [isr, h.2.2]; rfl), (show ∀ o, o < 440 → sh o = (0, 7) → sh (rf o 2) = (1, 6) by decide +kernel) o (sh_lt h.2.2 (by decide)) h.2.2⟩
theorem rfO_7_3 {ids : List Nat} {o : Nat} (h : IO ids o 7) : IA ids (rf o 3) 0 4 := ⟨h.1, h.1 o h.2.1 3 (by rw [isr, h.2.2]; rfl), (show ∀ o, o < 440 → sh o = (0, 7) → sh (rf o 3) = (1, 4) by decide +kernel) o (sh_lt h.2.2 (by decide)) h.2.2⟩
theorem rfO_7_4 {ids : List Nat} {o : Nat} (h : IO ids o 7) : IA ids (rf o 4) 0 24 := ⟨h.1, h.1 o h.2.1 4 (by rw [isr, h.2.2]; rfl), (show ∀ o, o < 440 → sh o = (0, 7) → sh (rf o 4) = (1, 24) by decide +kernel) o (sh_lt h.2.2 (by decide)) h.2.2⟩
theorem rfO_7_5 {ids : List Nat} {o : Nat} (h : IO ids o 7) : IA ids (rf o 5) 0 24 := ⟨h.1, h.1 o h.2.1 5 (by rw [isr, h.2.2]; rfl), (show ∀ o, o < 440 → sh o = (0, 7) → sh (rf o 5) = (1, 24) by decide +kernel) o (sh_lt h.2.2 (by decide)) h.2.2⟩
theorem rfO_7_6 {ids : List Nat} {o : Nat} (h : IO ids o 7) : IA ids (rf o 6) 0 24 := ⟨h.1, h.1 o h.2.1 6 (by rw [isr, h.2.2]; rfl), (show ∀ o, o < 440 → sh o = (0, 7) → sh (rf o 6) = (1, 24) by decide +kernel) o (sh_lt h.2.2 (by decide)) h.2.2⟩
theorem rfO_7_7 {ids : List Nat} {o : Nat} (h : IO ids o 7) : IA ids (rf o 7) 2 384 := ⟨h.1, h.1 o h.2.1 7 (by rw [isr, h.2.2]; rfl), (show ∀ o, o < 440 → sh o = (0, 7) → sh (rf o 7) = (3, 384) by decide +kernel) o (sh_lt h.2.2 (by decide)) h.2.2⟩
theorem rfO_7_12 {ids : List Nat} {o : Nat} (h : IO ids o 7) : IA ids (rf o 12) 0 100 := ⟨h.1, h.1 o h.2.1 12 (by rw [isr, h.2.2]; rfl), (show ∀ o, o < 440 → sh o = (0, 7) → sh (rf o 12) = (1, 100) by decide +kernel) o (sh_lt h.2.2 (by decide)) h.2.2⟩
theorem rfO_7_13 {ids : List Nat} {o : Nat} (h : IO ids o 7) : IA ids (rf o 13) 0 5 := ⟨h.1, h.1 o h.2.1 13 (by rw [isr, h.2.2]; rfl), (show ∀ o, o < 440 → sh o = (0, 7) → sh (rf o 13) = (1, 5) by decide +kernel) o (sh_lt h.2.2 (by decide)) h.2.2⟩
theorem rfO_7_14 {ids : List Nat} {o : Nat} (h : IO ids o 7) : IA ids (rf o 14) 0 30 := ⟨h.1, h.1 o h.2.1 14 (by rw [isr, h.2.2]; rfl), (show ∀ o, o < 440 → sh o = (0, 7) → sh (rf o 14) = (1, 30) by decide +kernel) o (sh_lt h.2.2 (by decide)) h.2.2⟩
theorem rfO_7_15 {ids : List Nat} {o : Nat} (h : IO ids o 7) : IA ids (rf o 15) 0 30 := ⟨h.1, h.1 o h.2.1 15 (by rw [isr, h.2.2]; rfl), (show ∀ o, o < 440 → sh o = (0, 7) → sh (rf o 15) = (1, 30) by decide +kernel) o (sh_lt h.2.2 (by decide)) h.2.2⟩
theorem rfO_7_16 {ids : List Nat} {o : Nat} (h : IO ids o 7) : IA ids (rf o 16) 0 30 := ⟨h.1, h.1 o h.2.1 16 (by rw [isr, h.2.2]; rfl), (show ∀ o, o < 440 → sh o = (0, 7) → sh (rf o 16) = (1, 30) by decide +kernel) o (sh_lt h.2.2 (by decide)) h.2.2⟩
theorem rfO_7_17 {ids : List Nat} {o : Nat} (h : IO ids o 7) : IA ids (rf o 17) 0 30 := ⟨h.1, h.1 o h.2.1 17 (by rw [isr, h.2.2]; rfl), (show ∀ o, o < 440 → sh o = (0, 7) → sh (rf o 17) = (1, 30) by decide +kernel) o (sh_lt h.2.2 (by decide)) h.2.2⟩
theorem rfO_7_18 {ids : List Nat} {o : Nat} (h : IO ids o 7) : IA ids (rf o 18) 0 30 := ⟨h.1, h.1 o h.2.1 18 (by rw [isr, h.2.2]; rfl), (show ∀ o, o < 440 → sh o = (0, 7) → sh (rf o 18) = (1, 30) by decide +kernel) o (sh_lt h.2.2 (by decide)) h.2.2⟩
theorem rfO_7_19 {ids : List Nat} {o : Nat} (h : IO ids o 7) : IA ids (rf o 19) 0 500 := ⟨h.1, h.1 o h.2.1 19 (by rw [isr, h.2.2]; rfl), (show ∀ o, o < 440 → sh o = (0, 7) → sh (rf o 19) = (1, 500) by decide +kernel) o (sh_lt h.2.2 (by decide)) h.2.2⟩
theorem rfO_7_20 {ids : List Nat} {o : Nat} (h : IO ids o 7) : IA ids (rf o 20) 0 101 := ⟨h.1, h.1 o h.2.1 20 (by rw [isr, h.2.2]; rfl), (show ∀ o, o < 440 → sh o = (0, 7) → sh (rf o 20) = (1, 101) by decide +kernel) o (sh_lt h.2.2 (by decide)) h.2.2⟩
theorem rfO_7_27 {ids : List Nat} {o : Nat} (h : IO ids o 7) : IA ids (rf o 27) 0 8 := ⟨h.1, h.1 o h.2.1 27 (by rw [isr, h.2.2]; rfl), (show ∀ o, o < 440 → sh o = (0, 7) → sh (rf o 27) = (1, 8) by decide +kernel) o (sh_lt h.2.2 (by decide)) h.2.2⟩
theorem rfO_7_28 {ids : List Nat} {o : Nat} (h : IO ids o 7) : IA ids (rf o 28) 0 8 := ⟨h.1, h.1 o h.2.1 28 (by rw [isr, h.2.2]; rfl), (show ∀ o, o < 440 → sh o = (0, 7) → sh (rf o 28) = (1, 8) by decide +kernel) o (sh_lt h.2.2 (by decide)) h.2.2⟩
theorem rfO_7_29 {ids : List Nat} {o : Nat} (h : IO ids o 7) : IA ids (rf o 29) 0 8 := ⟨h.1, h.1 o h.2.1 29 (by rw [isr, h.2.2]; rfl), (show ∀ o, o < 440 → sh o = (0, 7) → sh (rf o 29) = (1, 8) by decide +kernel) o (sh_lt h.2.2 (by decide)) h.2.2⟩
theorem rfO_7_30 {ids : List Nat} {o : Nat} (h : IO ids o 7) : IA ids (rf o 30) 0 8 := ⟨h.1, h.1 o h.2.1 30 (by rw [isr, h.2.2]; rfl), (show ∀ o, o < 440 → sh o = (0, 7) → sh (rf o 30) = (1, 8) by decide +kernel) o (sh_lt h.2.2 (by decide)) h.2.2⟩
theorem rfO_7_31 {ids : List Nat} {o : Nat} (h : IO ids o 7) : IA ids (rf o 31) 0 8 := ⟨h.1, h.1 o h.2.1 31 (by rw [isr, h.2.2]; rfl), (show ∀ o, o < 440 → sh o = (0, 7) → sh (rf o 31) = (1, 8) by decide +kernel) o (sh_lt h.2.2 (by decide)) h.2.2⟩
theorem rfO_7_32 {ids : List Nat} {o : Nat} (h : IO ids o 7) : IA ids (rf o 32) 0 8 := ⟨h.1, h.1 o h.2.1 32 (by rw [isr, h.2.2]; rfl), (show ∀ o, o < 440 → sh o = (0, 7) → sh (rf o 32) = (1, 8) by decide +kernel) o (sh_lt h.2.2 (by decide)) h.2.2⟩
theorem rfO_7_33 {ids : List Nat} {o : Nat} (h : IO ids o 7) : IA ids (rf o 33) 0 8 := ⟨h.1, h.1 o h.2.1 33 (by rw [isr, h.2.2]; rfl), (show ∀ o, o < 440 → sh o = (0, 7) → sh (rf o 33) = (1, 8) by decide +kernel) o (sh_lt h.2.2 (by decide)) h.2.2⟩
theorem rfO_7_34 {ids : List Nat} {o : Nat} (h : IO ids o 7) : IA ids (rf o 34) 0 8 := ⟨h.1, h.1 o h.2.1 34 (by rw [isr, h.2.2]; rfl), (show ∀ o, o < 440 → sh o = (0, 7) → sh (rf o 34) = (1, 8) by decide +kernel) o (sh_lt h.2.2 (by decide)) h.2.2⟩
theorem rfO_7_35 {ids : List Nat} {o : Nat} (h : IO ids o 7) : IA ids (rf o 35) 0 8 := ⟨h.1, h.1 o h.2.1 35 (by rw [isr, h.2.2]; rfl), (show ∀ o, o < 440 → sh o = (0, 7) → sh (rf o 35) = (1, 8) by decide +kernel) o (sh_lt h.2.2 (by decide)) h.2.2⟩
theorem rfO_7_36 {ids : List Nat} {o : Nat} (h : IO ids o 7) : IA ids (rf o 36) 2 8 := ⟨h.1, h.1 o h.2.1 36 (by rw [isr, h.2.2]; rfl), (show ∀ o, o < 440 → sh o = (0, 7) → sh (rf o 36) = (3, 8) by decide +kernel) o (sh_lt h.2.2 (by decide)) h.2.2⟩
theorem rfO_7_37 {ids : List Nat} {o : Nat} (h : IO ids o 7) : IA ids (rf o 37) 2 100 := ⟨h.1, h.1 o h.2.1 37 (by rw [isr, h.2.2]; rfl), (show ∀ o, o < 440 → sh o = (0, 7) → sh (rf o 37) = (3, 100) by decide +kernel) o (sh_lt h.2.2 (by decide)) h.2.2⟩
theorem rfO_7_38 {ids : List Nat} {o : Nat} (h : IO ids o 7) : IA ids (rf o 38) 0 14 := ⟨h.1, h.1 o h.2.1 38 (by rw [isr, h.2.2]; rfl), (show ∀ o, o < 440 → sh o = (0, 7) → sh (rf o 38) = (1, 14) by decide +kernel) o (sh_lt h.2.2 (by decide)) h.2.2⟩
theorem rfO_7_39 {ids : List Nat} {o : Nat} (h : IO ids o 7) : IA ids (rf o 39) 0 8 := ⟨h.1, h.1 o h.2.1 39 (by rw [isr, h.2.2]; rfl), (show ∀ o, o < 440 → sh o = (0, 7) → sh (rf o 39) = (1, 8) by decide +kernel) o (sh_lt h.2.2 (by decide)) h.2.2⟩
theorem rfO_7_42 {ids : List Nat} {o : Nat} (h : IO ids o 7) : IA ids (rf o 42) 0 8 := ⟨h.1, h.1 o h.2.1 42 (by rw [isr, h.2.2]; rfl), (show ∀ o, o < 440 → sh o = (0, 7) → sh (rf o 42) = (1, 8) by decide +kernel) o (sh_lt h.2.2 (by decide)) h.2.2⟩
theorem rfO_7_43 {ids : List Nat} {o : Nat} (h : IO ids o 7) : IA ids (rf o 43) 0 8 := ⟨h.1, h.1 o h.2.1 43 (by rw [isr, h.2.2]; rfl), (show ∀ o, o < 440 → sh o = (0, 7) → sh (rf o 43) = (1, 8) by decide +kernel) o (sh_lt h.2.2 (by decide)) h.2.2⟩
theorem rfO_7_44 {ids : List Nat} {o : Nat} (h : IO ids o 7) : IA ids (rf o 44) 0 8 := ⟨h.1, h.1 o h.2.1 44 (by rw [isr, h.2.2]; rfl), (show ∀ o, o < 440 → sh o = (0, 7) → sh (rf o 44) = (1, 8) by decide +kernel) o (sh_lt h.2.2 (by decide)) h.2.2⟩
theorem rfO_7_46 {ids : List Nat} {o : Nat} (h : IO ids o 7) : IA ids (rf o 46) 0 20 := ⟨h.1, h.1 o h.2.1 46 (by rw [isr, h.2.2]; rfl), (show ∀ o, o < 440 → sh o = (0, 7) → sh (rf o 46) = (1, 20) by decide +kernel) o (sh_lt h.2.2 (by decide)) h.2.2⟩
theorem rfO_7_47 {ids : List Nat} {o : Nat} (h : IO ids o 7) : IA ids (rf o 47) 0 6 := ⟨h.1, h.1 o h.2.1 47 (by rw [isr, h.2.2]; rfl), (show ∀ o, o < 440 → sh o = (0, 7) → sh (rf o 47) = (1, 6) by decide +kernel) o (sh_lt h.2.2 (by decide)) h.2.2⟩
theorem rfO_7_48 {ids : List Nat} {o : Nat} (h : IO ids o 7) : IA ids (rf o 48) 0 6 := ⟨h.1, h.1 o h.2.1 48 (by rw [isr, h.2.2]; rfl), (show ∀ o, o < 440 → sh o = (0, 7) → sh (rf o 48) = (1, 6) by decide +kernel) o (sh_lt h.2.2 (by decide)) h.2.2⟩
theorem rfO_7_49 {ids : List Nat} {o : Nat} (h : IO ids o 7) : IA ids (rf o 49) 1 360 := ⟨h.1, h.1 o h.2.1 49 (by rw [isr, h.2.2]; rfl), (show ∀ o, o < 440 → sh o = (0, 7) → sh (rf o 49) = (2, 360) by decide +kernel) o (sh_lt h.2.2 (by decide)) h.2.2⟩
theorem rfO_7_50 {ids : List Nat} {o : Nat} (h : IO ids o 7) : IA ids (rf o 50) 1 60 := ⟨h.1, h.1 o h.2.1 50 (by rw [isr, h.2.2]; rfl), (show ∀ o, o < 440 → sh o = (0, 7) → sh (rf o 50) = (2, 60) by decide +kernel) o (sh_lt h.2.2 (by decide)) h.2.2⟩
theorem rfA_4 {ids : List Nat} {o n : Nat} {i : Int32} (h : IA ids o 4 n) (hin : vp_in i n) : IO ids (rf o i.toNatClampNeg) 3 := by
  have hk := vp_lt hin
  have key := (show ∀ o, o < 440 → (sh o).1 = 5 → (sh o).2 = 5 ∧ ∀ k, k < 5 → sh (rf o k) = (0, 3) by decide +kernel) o (sh_lt h.2.2 (by decide)) (by rw [h.2.2])
  have hn : n = 5 := by rw [← key.1, h.2.2]
  subst hn
  exact ⟨h.1, h.1 o h.2.1 _ (by rw [isr, h.2.2]; simp [hk]), key.2 _ hk⟩
theorem rfA_5 {ids : List Nat} {o n : Nat} {i : Int32} (h : IA ids o 5 n) (hin : vp_in i n) : IO ids (rf o i.toNatClampNeg) 4 := by
  have hk := vp_lt hin
  have key := (show ∀ o, o < 440 → (sh o).1 = 6 → (sh o).2 = 6 ∧ ∀ k, k < 6 → sh (rf o k) = (0, 4) by decide +kernel) o (sh_lt h.2.2 (by decide)) (by rw [h.2.2])
  have hn : n = 6 := by rw [← key.1, h.2.2]
  subst hn
  exact ⟨h.1, h.1 o h.2.1 _ (by rw [isr, h.2.2]; simp [hk]), key.2 _ hk⟩
theorem rfA_6 {ids : List Nat} {o n : Nat} {i : Int32} (h : IA ids o 6 n) (hin : vp_in i n) : IA ids (rf o i.toNatClampNeg) 0 5 := by
  have hk := vp_lt hin
  have key := (show ∀ o, o < 440 → (sh o).1 = 7 → (sh o).2 = 3 ∧ ∀ k, k < 3 → sh (rf o k) = (1, 5) by decide +kernel) o (sh_lt h.2.2 (by decide)) (by rw [h.2.2])
  have hn : n = 3 := by rw [← key.1, h.2.2]
  subst hn
  exact ⟨h.1, h.1 o h.2.1 _ (by rw [isr, h.2.2]; simp [hk]), key.2 _ hk⟩
theorem rfA_7 {ids : List Nat} {o n : Nat} {i : Int32} (h : IA ids o 7 n) (hin : vp_in i n) : IA ids (rf o i.toNatClampNeg) 1 60 := by
  have hk := vp_lt hin
  have key := (show ∀ o, o < 440 → (sh o).1 = 8 → (sh o).2 = 6 ∧ ∀ k, k < 6 → sh (rf o k) = (2, 60) by decide +kernel) o (sh_lt h.2.2 (by decide)) (by rw [h.2.2])
  have hn : n = 6 := by rw [← key.1, h.2.2]
  subst hn
  exact ⟨h.1, h.1 o h.2.1 _ (by rw [isr, h.2.2]; simp [hk]), key.2 _ hk⟩
