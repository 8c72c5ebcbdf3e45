/-! PURE: rules. A rule is a list of clauses: word (0 bar, 1 slip, 2 last, 3 days), what (kind or figure), steps (-1 and, -2 or, -3 not, else a test) -/
abbrev Cl : Type := Int32 × Int32 × List Int32
abbrev Ru : Type := List Cl
def pc (n : Nat) : Nat := n % 2 + n / 2 % 2 + n / 4 % 2 + n / 8 % 2 + n / 16 % 2
theorem pc_step : ∀ m, m < 32 → m ≠ 0 → (nI m &&& (nI m - 1)) = nI (m &&& (m - 1)) ∧ (m &&& (m - 1)) < m ∧ pc m = pc (m &&& (m - 1)) + 1 := by decide +kernel
theorem kR_ones {d : Nat} {τ : St} {Q : Int32 → St → Prop} {n : Nat} (hn : n < 32) (h : Q (nI (pc n)) τ) : EI (d + 1) idsR Y_X7_ones [.ref 0, .int (nI n)] τ Q := by
  refine fl_X7_ones hR (fun P4 H4 => ?_)
  have key : ∀ m, m < 32 → ∀ a : Nat, a + pc m = pc n → P4 (nI a) (nI m) τ := by
    intro m
    induction m using Nat.strongRecOn with
    | _ m ih =>
      intro hm a ha
      refine H4 _ _ _ ⟨fun c => ?_, fun c x ex y ey => ?_⟩
      · have : m = 0 := (nI_eq (by omega) (by decide)).mp c
        subst this
        have : a = pc n := by rw [← ha]; rfl
        rw [this]; exact h
      · have hm0 : m ≠ 0 := fun z => c (by rw [z]; rfl)
        obtain ⟨e1, e2, e3⟩ := pc_step m hm hm0
        rw [ex, ey, e1, ← nI_succ]
        exact ih _ e2 (by omega) _ (by omega)
  exact key n hn 0 (by omega)
theorem kJ_bits {d : Nat} {ids : List Nat} {σ : St} {Q : Int32 → St → Prop} {n : Nat} (hn : n < 32) (h : Q (nI (pc n)) σ) : EI (d + 1) ids Y_J6_bitCount_0f7a4 [.int (nI n)] σ Q := by
  refine fl_J6_bitCount_0f7a4 (fun x1 e1 x2 e2 x3 e3 x4 e4 x5 e5 => ?_)
  have key : ∀ m, m < 32 → (∀ x1 : Int32, x1 = (nI m - ((UInt32.toInt32 ((Int32.toUInt32 (nI m)) >>> ((Int32.toUInt32 1) &&& Int32.toUInt32 31))) &&& 1431655765)) → ∀ x2 : Int32, x2 = ((x1 &&& 858993459) + ((UInt32.toInt32 ((Int32.toUInt32 x1) >>> ((Int32.toUInt32 2) &&& Int32.toUInt32 31))) &&& 858993459)) → ∀ x3 : Int32, x3 = ((x2 + (UInt32.toInt32 ((Int32.toUInt32 x2) >>> ((Int32.toUInt32 4) &&& Int32.toUInt32 31)))) &&& 252645135) → ∀ x4 : Int32, x4 = (x3 + (UInt32.toInt32 ((Int32.toUInt32 x3) >>> ((Int32.toUInt32 8) &&& Int32.toUInt32 31)))) → ∀ x5 : Int32, x5 = (x4 + (UInt32.toInt32 ((Int32.toUInt32 x4) >>> ((Int32.toUInt32 16) &&& Int32.toUInt32 31)))) → x5 &&& 63 = nI (pc m)) := by
    intro m hm
    have e := (by decide +kernel : ∀ m, m < 32 → (let x1 : Int32 := (nI m - ((UInt32.toInt32 ((Int32.toUInt32 (nI m)) >>> ((Int32.toUInt32 1) &&& Int32.toUInt32 31))) &&& 1431655765)); let x2 : Int32 := ((x1 &&& 858993459) + ((UInt32.toInt32 ((Int32.toUInt32 x1) >>> ((Int32.toUInt32 2) &&& Int32.toUInt32 31))) &&& 858993459)); let x3 : Int32 := ((x2 + (UInt32.toInt32 ((Int32.toUInt32 x2) >>> ((Int32.toUInt32 4) &&& Int32.toUInt32 31)))) &&& 252645135); let x4 : Int32 := (x3 + (UInt32.toInt32 ((Int32.toUInt32 x3) >>> ((Int32.toUInt32 8) &&& Int32.toUInt32 31)))); let x5 : Int32 := (x4 + (UInt32.toInt32 ((Int32.toUInt32 x4) >>> ((Int32.toUInt32 16) &&& Int32.toUInt32 31)))); x5 &&& 63 = nI (pc m))) m hm
    rintro _ rfl _ rfl _ rfl _ rfl _ rfl
    exact e
  rw [key n hn x1 e1 x2 e2 x3 e3 x4 e4 x5 e5]
  exact h
/-- a test over the facts -/
def tst (fa : Nat → Int32) (t : Int32) : Bool :=
  let v := fa (t / 1000).toNatClampNeg
  let s := t / 100 - t / 100 / 10 * 10
  let n := t - t / 100 * 100
  if s = 0 then decide (v < n) else if s = 1 then decide (v = n) else decide (n < v)
def evs (fa : Nat → Int32) (t : Int32) (st : List Bool) : List Bool :=
  if t = -3 then (match st with | b :: r => (!b) :: r | [] => [])
  else if t = -1 then (match st with | b :: a :: r => (a && b) :: r | s => s)
  else if t = -2 then (match st with | b :: a :: r => (a || b) :: r | s => s)
  else tst fa t :: st
def evl (fa : Nat → Int32) : List Int32 → List Bool → List Bool
  | [], st => st
  | t :: l, st => evl fa l (evs fa t st)
/-- whether the steps of a clause hold -/
def evc (fa : Nat → Int32) (l : List Int32) : Bool := (evl fa l []).headD false
/-- a step that a test may be -/
def tok (t : Int32) : Prop := ∃ f s n : Nat, f < 5 ∧ s < 3 ∧ n < 100 ∧ t = nI (1000 * f + 100 * s + n)
/-- how many truths there are behind a step -/
def dps (t : Int32) (n : Nat) : Option Nat :=
  if t = -3 then (if 1 ≤ n then some n else none) else if t = -1 then (if 2 ≤ n then some (n - 1) else none) else if t = -2 then (if 2 ≤ n then some (n - 1) else none)
  else if n < 20 then some (n + 1) else none
def dpl : List Int32 → Nat → Option Nat
  | [], n => some n
  | t :: l, n => (dps t n).bind (dpl l)
/-- steps as they are read: they leave one truth, and are tests, or and, or, not -/
def okc (l : List Int32) : Prop := dpl l 0 = some 1 ∧ ∀ t, t ∈ l → t = -1 ∨ t = -2 ∨ t = -3 ∨ tok t
theorem tok_n {t : Int32} (h : tok t) : ∃ k : Nat, k < 5000 ∧ t = nI k := by
  obtain ⟨f, s, n, h1, h2, h3, h4⟩ := h
  exact ⟨_, by omega, h4⟩
theorem tok_ne {t : Int32} (h : tok t) : ¬ t = -1 ∧ ¬ t = -2 ∧ ¬ t = -3 ∧ ¬ t < 0 := by
  obtain ⟨k, hk, rfl⟩ := tok_n h
  have hp := nI_pos (n := k) (by omega)
  exact ⟨fun e => hp (by rw [e]; decide), fun e => hp (by rw [e]; decide), fun e => hp (by rw [e]; decide), hp⟩
theorem tok_f {t : Int32} (h : tok t) : ∃ f : Nat, f < 5 ∧ t / 1000 = nI f := by
  obtain ⟨f, s, n, h1, h2, h3, h4⟩ := h
  refine ⟨f, h1, ?_⟩
  rw [h4, show (1000 : Int32) = nI 1000 from rfl, pk_div (by omega) (by decide) (by decide)]
  congr 1
  omega
theorem tok_s {t : Int32} (h : tok t) : ∃ s : Nat, s < 3 ∧ t / 100 - t / 100 / 10 * 10 = nI s := by
  obtain ⟨f, s, n, h1, h2, h3, h4⟩ := h
  refine ⟨s, h2, ?_⟩
  rw [h4, show (100 : Int32) = nI 100 from rfl, pk_div (by omega) (by decide) (by decide), show (10 : Int32) = nI 10 from rfl, pk_rem (by omega) (by decide) (by decide)]
  congr 1
  omega
theorem evs_len (fa : Nat → Int32) {t : Int32} {st : List Bool} {k : Nat} (h : dps t st.length = some k) : (evs fa t st).length = k := by
  unfold dps at h
  unfold evs
  split at h
  · rename_i h1
    rw [if_pos h1]
    split at h
    · cases h
      match st with
      | [] => rfl
      | b :: r => rfl
    · cases h
  · rename_i h1
    rw [if_neg h1]
    split at h
    · rename_i h2
      rw [if_pos h2]
      split at h
      · rename_i h3
        cases h
        match st, h3 with
        | b :: a :: r, _ => rfl
      · cases h
    · rename_i h2
      rw [if_neg h2]
      split at h
      · rename_i h3
        rw [if_pos h3]
        split at h
        · rename_i h4
          cases h
          match st, h4 with
          | b :: a :: r, _ => rfl
        · cases h
      · rename_i h3
        rw [if_neg h3]
        split at h
        · cases h; rfl
        · cases h
/-! the class's stack: the bits of a number -/
def sv : List Bool → Nat
  | [] => 0
  | b :: r => 2 * sv r + b.toNat
theorem sv_lt : ∀ st : List Bool, sv st < 2 ^ st.length
  | [] => by decide
  | b :: r => by
    have h := sv_lt r
    have hb : b.toNat ≤ 1 := Bool.toNat_le b
    rw [sv, List.length_cons, Nat.pow_succ]
    omega
theorem sv_ltN {st : List Bool} (h : st.length ≤ 20) : sv st < 1048576 := Nat.lt_of_lt_of_le (sv_lt st) (Nat.le_trans (Nat.pow_le_pow_right (by decide) h) (by decide))
theorem n_and (a b : Nat) : nI a &&& nI b = nI (a &&& b) := by
  apply Int32.toBitVec_inj.1
  show BitVec.ofNat 32 a &&& BitVec.ofNat 32 b = BitVec.ofNat 32 (a &&& b)
  apply BitVec.eq_of_getLsbD_eq
  intro i hi
  simp [hi]
theorem n_or (a b : Nat) : nI a ||| nI b = nI (a ||| b) := by
  apply Int32.toBitVec_inj.1
  show BitVec.ofNat 32 a ||| BitVec.ofNat 32 b = BitVec.ofNat 32 (a ||| b)
  apply BitVec.eq_of_getLsbD_eq
  intro i hi
  simp [hi]
theorem n_xor (a b : Nat) : nI a ^^^ nI b = nI (a ^^^ b) := by
  apply Int32.toBitVec_inj.1
  show BitVec.ofNat 32 a ^^^ BitVec.ofNat 32 b = BitVec.ofNat 32 (a ^^^ b)
  apply BitVec.eq_of_getLsbD_eq
  intro i hi
  simp [hi]
theorem n_and1 (n : Nat) : nI n &&& 1 = nI (n % 2) := by
  show nI n &&& nI 1 = _
  rw [n_and, Nat.and_one_is_mod]
theorem n_shr1 {n : Nat} (h : n < 2 ^ 31) : nI n >>> ((1 : Int32) &&& 31) = nI (n / 2) := pk_shrN h _ 1 (by decide)
theorem n_shl1 {n : Nat} (h : n * 2 < 2 ^ 32) : nI n <<< ((1 : Int32) &&& 31) = nI (n * 2) := pk_shlN _ 1 (by decide) h
theorem sv_mod (b : Bool) (r : List Bool) : sv (b :: r) % 2 = b.toNat := by
  have hb : b.toNat ≤ 1 := Bool.toNat_le b
  rw [sv]; omega
theorem sv_div (b : Bool) (r : List Bool) : sv (b :: r) / 2 = sv r := by
  have hb : b.toNat ≤ 1 := Bool.toNat_le b
  rw [sv]; omega
theorem or_low (n : Nat) (b : Bool) : (2 * n) ||| b.toNat = 2 * n + b.toNat := by
  cases b
  · simp
  · apply Nat.eq_of_testBit_eq
    intro i
    cases i with
    | zero => simp [Nat.testBit_or, Nat.testBit_zero]
    | succ i =>
      show ((2 * n) ||| 1).testBit (i + 1) = (2 * n + 1).testBit (i + 1)
      rw [Nat.testBit_or, Nat.testBit_succ, Nat.testBit_succ, Nat.testBit_succ, show (2 * n + 1) / 2 = n by omega, show 2 * n / 2 = n by omega]
      simp
theorem or_bits (n : Nat) (a b : Bool) : (2 * n + a.toNat) ||| b.toNat = 2 * n + (a || b).toNat := by
  rw [← or_low n a, Nat.or_assoc]
  have : a.toNat ||| b.toNat = (a || b).toNat := by cases a <;> cases b <;> rfl
  rw [this, or_low]
theorem xor1 (n : Nat) (b : Bool) : (2 * n + b.toNat) ^^^ 1 = 2 * n + (!b).toNat := by
  apply Nat.eq_of_testBit_eq
  intro i
  cases i with
  | zero => cases b <;> simp [Nat.testBit_xor, Nat.testBit_zero, Nat.add_mod]
  | succ i =>
    have hb : b.toNat ≤ 1 := Bool.toNat_le b
    have hb2 : (!b).toNat ≤ 1 := Bool.toNat_le _
    rw [Nat.testBit_xor, Nat.testBit_succ, Nat.testBit_succ, Nat.testBit_succ, show (2 * n + b.toNat) / 2 = n by omega, show (2 * n + (!b).toNat) / 2 = n by omega]
    simp
theorem and_m2 {n : Nat} (h : n < 1048576) : nI n &&& (-2) = nI (n - n % 2) := by
  have e : (-2 : Int32) = nI 4294967294 := by decide +kernel
  rw [e, n_and]
  congr 1
  apply Nat.eq_of_testBit_eq
  intro i
  rw [Nat.testBit_and]
  cases i with
  | zero => simp [Nat.testBit_zero]; omega
  | succ i =>
    rw [Nat.testBit_succ, Nat.testBit_succ, Nat.testBit_succ]
    have h1 : (n - n % 2) / 2 = n / 2 := by omega
    have h2 : 4294967294 / 2 = 2 ^ 31 - 1 := by decide
    rw [h1, h2, Nat.testBit_two_pow_sub_one]
    by_cases hi : i < 31
    · simp [hi]
    · have : (n / 2).testBit i = false := Nat.testBit_lt_two_pow (Nat.lt_of_lt_of_le (show n / 2 < 2 ^ 31 by omega) (Nat.pow_le_pow_right (by decide) (by omega)))
      simp [hi, this]
theorem and_bits {n : Nat} (h : 2 * n + 1 < 1048576) (a b : Bool) : nI (2 * n + a.toNat) &&& (nI b.toNat ||| (-2)) = nI (2 * n + (a && b).toNat) := by
  cases b
  · have e : (nI (false.toNat) ||| (-2) : Int32) = -2 := by decide +kernel
    rw [e, and_m2 (by cases a <;> simp <;> omega)]
    congr 1
    cases a <;> simp <;> omega
  · have e : (nI (true.toNat) ||| (-2) : Int32) = -1 := by decide +kernel
    rw [e]
    have e2 : ∀ x : Int32, x &&& (-1) = x := by
      intro x
      apply Int32.toBitVec_inj.1
      rw [Int32.toBitVec_and]
      show x.toBitVec &&& BitVec.allOnes 32 = _
      exact BitVec.and_allOnes
    rw [e2]
    cases a <;> rfl
