/-! rows of the law: the script, its arguments -/
def Xs (X : CT) (b Ln : Nat) (xs : Nat → Int32) : Prop := match X with
  | (p, l, e, R, s, m, args, below, meth, c, ca, ρ, D, A) => va_X b Ln xs s s.heap ∧ b < s.heap.size ∧ ¬ A b
abbrev LL (b aX aM : Nat) (i : Int32) : List (Nat × Value) := [(0, .ref b), (1, .ref aX), (2, .ref aM), (3, .int i)]
theorem x31 (x : Int32) : ∃ j : Nat, j < 32 ∧ x &&& 31 = nI j := by
  refine ⟨(x &&& 31).toNatClampNeg, ?_, ?_⟩
  · have h : (x &&& 31).toInt = ((x.toBitVec &&& 31#32).toNat : Int) := by
      rw [← Int32.toInt_toBitVec, Int32.toBitVec_and]
      refine BitVec.toInt_eq_toNat_of_lt ?_
      show 2 * (x.toBitVec &&& 31#32).toNat < 2 ^ 32
      have := Nat.and_le_right (n := x.toBitVec.toNat) (m := 31)
      rw [BitVec.toNat_and]
      have e : (31#32).toNat = 31 := rfl
      rw [e]
      omega
    have h2 : (x.toBitVec &&& 31#32).toNat ≤ 31 := by
      rw [BitVec.toNat_and]
      exact Nat.and_le_right
    have h3 : (x &&& 31).toNatClampNeg = (x &&& 31).toInt.toNat := rfl
    omega
  · have h0 : ¬ (x &&& 31) < 0 := by
      rw [i32_lt]
      have h : (x &&& 31).toInt = ((x.toBitVec &&& 31#32).toNat : Int) := by
        rw [← Int32.toInt_toBitVec, Int32.toBitVec_and]
        refine BitVec.toInt_eq_toNat_of_lt ?_
        show 2 * (x.toBitVec &&& 31#32).toNat < 2 ^ 32
        have := Nat.and_le_right (n := x.toBitVec.toNat) (m := 31)
        rw [BitVec.toNat_and]
        have e : (31#32).toNat = 31 := rfl
        rw [e]
        omega
      have e0 : (0 : Int32).toInt = 0 := rfl
      omega
    obtain ⟨j, hj, e⟩ := nI_of h0
    rw [e, nI_clamp hj]
theorem law_more {Ln i : Nat} (hL : Ln ≤ 3072) (hi : i ≤ Ln) (h : ¬ nI Ln - 6 < nI i) : i + 6 ≤ Ln := by
  by_cases h6 : 6 ≤ Ln
  · obtain ⟨m, rfl⟩ : ∃ m, Ln = m + 6 := ⟨Ln - 6, by omega⟩
    have e : nI (m + 6) - 6 = nI m := by
      rw [← nI_add]
      exact Int32.add_sub_cancel (nI m) 6
    rw [e] at h
    have : ¬ m < i := fun q => h (nI_lt q (by omega))
    omega
  · exfalso
    apply h
    rw [i32_lt, nI_toInt (by omega)]
    have : (nI Ln - 6).toInt < 0 := (show ∀ L, L < 6 → (nI L - 6).toInt < 0 by decide) Ln (by omega)
    omega
section LS
variable {X : CT} {Z : State → Prop} {nL cells slots pc b aX aM Ln i : Nat} {xs : Nat → Int32} {L : List (Nat × Value)} {S : List Value} {Wd : Heap → Prop} {cc : ByteArray} {ret : Option FieldType} {rm : Room} {own : String}
theorem b_slen (hX : Dok X nL cc ret rm own) (hXs : Xs X b Ln xs) (hd : decode cc pc = .ok (.arraylength, 1)) (k : Bw X nL Z cells slots (pc + 1) L (.int (nI Ln) :: S) Wd) : Bw X nL Z cells slots pc L (.ref b :: S) Wd := by
  obtain ⟨p, l, e, R, s, m, args, below, meth, c, ca, ρ, D, A⟩ := X
  obtain ⟨hx, hb, -⟩ := hX
  obtain ⟨h1, h2, h3⟩ := hXs
  intro H locs ls hP hS hl
  exact va_slen hx hb h1 h2 h3 hS hd (k H locs ls hP hS hl)
theorem b_sld {j : Int32} (hX : Dok X nL cc ret rm own) (hXs : Xs X b Ln xs) (hin : vp_in j Ln) (hd : decode cc pc = .ok (.iaload, 1)) (k : Bw X nL Z cells slots (pc + 1) L (.int (xs j.toNatClampNeg) :: S) Wd) : Bw X nL Z cells slots pc L (.int j :: .ref b :: S) Wd := by
  obtain ⟨p, l, e, R, s, m, args, below, meth, c, ca, ρ, D, A⟩ := X
  obtain ⟨hx, hb, -⟩ := hX
  obtain ⟨h1, h2, h3⟩ := hXs
  intro H locs ls hP hS hl
  exact va_sld hx hb h1 h2 h3 hS hin hd (k H locs ls hP hS hl)
theorem b_land {x y : Int64} (hX : Dok X nL cc ret rm own) (hd : decode cc pc = .ok (.land, 1)) (k : Bw X nL Z cells slots (pc + 1) L (.long (x &&& y) :: S) Wd) : Bw X nL Z cells slots pc L (.long y :: .long x :: S) Wd := by
  obtain ⟨p, l, e, R, s, m, args, below, meth, c, ca, ρ, D, A⟩ := X
  obtain ⟨hx, hb, -⟩ := hX
  intro H locs ls hP hS hl
  exact lv_land hx hb hd (k H locs ls hP hS hl)
theorem b_lor {x y : Int64} (hX : Dok X nL cc ret rm own) (hd : decode cc pc = .ok (.lor, 1)) (k : Bw X nL Z cells slots (pc + 1) L (.long (x ||| y) :: S) Wd) : Bw X nL Z cells slots pc L (.long y :: .long x :: S) Wd := by
  obtain ⟨p, l, e, R, s, m, args, below, meth, c, ca, ρ, D, A⟩ := X
  obtain ⟨hx, hb, -⟩ := hX
  intro H locs ls hP hS hl
  exact lv_lor hx hb hd (k H locs ls hP hS hl)
theorem b_lshl {x : Int64} {y : Int32} (hX : Dok X nL cc ret rm own) (hd : decode cc pc = .ok (.lshl, 1)) (k : Bw X nL Z cells slots (pc + 1) L (.long (x <<< (y.toInt64 &&& 63)) :: S) Wd) : Bw X nL Z cells slots pc L (.int y :: .long x :: S) Wd := by
  obtain ⟨p, l, e, R, s, m, args, below, meth, c, ca, ρ, D, A⟩ := X
  obtain ⟨hx, hb, -⟩ := hX
  intro H locs ls hP hS hl
  exact lv_lshl hx hb hd rfl (k H locs ls hP hS hl)
/-- an argument: script[i + k] -/
theorem l_arg {n : Int} (k : Nat) (hX : Dok X nL cc ret rm own) (hXs : Xs X b Ln xs) (hL : Ln ≤ 3072) (hi : i + 6 ≤ Ln) (d0 : decode cc pc = .ok (.aload_n 0, 1)) (d1 : decode cc (pc + 1) = .ok (.iload_n 3, 1)) (d2 : decode cc (pc + 1 + 1) = .ok (.iconst n, 1)) (d3 : decode cc (pc + 1 + 1 + 1) = .ok (.iadd, 1)) (d4 : decode cc (pc + 1 + 1 + 1 + 1) = .ok (.iaload, 1)) (hv : Int32.ofInt n = nI k) (hk : k < 6)
    (kk : Bw X nL Z cells slots (pc + 1 + 1 + 1 + 1 + 1) (LL b aX aM (nI i)) (.int (xs (i + k)) :: S) Wd) : Bw X nL Z cells slots pc (LL b aX aM (nI i)) S Wd := by
  refine b_aload_n 0 hX d0 rfl rfl ?_
  refine b_iload_n 3 hX d1 rfl rfl ?_
  refine b_iconst hX d2 hv ?_
  refine b_iadd hX d3 ?_
  rw [nI_add]
  refine b_sld hX hXs (vp_in_nI (by omega) (by omega)) d4 ?_
  rw [nI_clamp (by omega)]
  exact kk
/-- a boolean argument: x != 0 -/
theorem l_bool {x : Int32} (hX : Dok X nL cc ret rm own) (d0 : decode cc pc = .ok (.ifCond .eq 7, 3)) (d1 : decode cc (pc + 3) = .ok (.iconst 1, 1)) (d2 : decode cc (pc + 3 + 1) = .ok (.goto 4, 3)) (d3 : decode cc (pc + 7) = .ok (.iconst 0, 1))
    (kk : Bw X nL Z cells slots (pc + 8) L (.int (if x = 0 then 0 else 1) :: S) Wd) : Bw X nL Z cells slots pc L (.int x :: S) Wd := by
  refine b_if_eq (pc + 7) hX d0 (by omega) (fun z => ?_) (fun z => ?_)
  · refine b_iconst (v := 0) hX d3 (by decide) ?_
    rw [if_pos z] at kk
    exact kk
  · refine b_iconst (v := 1) hX d1 (by decide) ?_
    rw [if_neg z] at kk
    exact b_goto (pc + 8) hX d2 (by omega) kk
end LS
