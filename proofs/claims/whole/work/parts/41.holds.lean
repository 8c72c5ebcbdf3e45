/-! PURE: whether a clause's steps hold: the class's stack in a number, the reference's pile -/
theorem rf_rul {r k : Nat} (hr : r < 5) : rf (140 + r) k = 150 + 10 * r + k := by
  unfold rf
  rw [if_neg (by omega), if_pos (by omega), if_neg (by omega), if_neg (by omega), if_neg (by omega), if_neg (by omega), if_neg (by omega), if_neg (by omega)]
  omega
theorem tst_def (fa : Nat → Int32) (t : Int32) : tst fa t = if t / 100 - t / 100 / 10 * 10 = 0 then decide (fa (t / 1000).toNatClampNeg < t - t / 100 * 100) else if t / 100 - t / 100 / 10 * 10 = 1 then decide (fa (t / 1000).toNatClampNeg = t - t / 100 * 100) else decide (t - t / 100 * 100 < fa (t / 1000).toNatClampNeg) := rfl
theorem bI_b (b : Bool) : bI (b = true) = nI b.toNat := by cases b <;> rfl
theorem drop_cons {α : Type} {l l3 : List α} {i : Nat} {t : α} (h : l.drop i = t :: l3) : i < l.length ∧ l[i]? = some t ∧ l.drop (i + 1) = l3 := by
  have h1 : i < l.length := by
    rcases Nat.lt_or_ge i l.length with q | q
    · exact q
    · rw [List.drop_eq_nil_of_le q] at h; cases h
  refine ⟨h1, ?_, ?_⟩
  · have := congrArg List.head? h
    rw [List.head?_drop] at this
    exact this
  · have := congrArg List.tail h
    rw [List.tail_drop] at this
    exact this
theorem evs_and (fa : Nat → Int32) (a b : Bool) (r : List Bool) : evs fa (-1) (b :: a :: r) = (a && b) :: r := rfl
theorem evs_or (fa : Nat → Int32) (a b : Bool) (r : List Bool) : evs fa (-2) (b :: a :: r) = (a || b) :: r := rfl
theorem evs_not (fa : Nat → Int32) (b : Bool) (r : List Bool) : evs fa (-3) (b :: r) = (!b) :: r := rfl
theorem evs_tst (fa : Nat → Int32) {t : Int32} (h : tok t) (r : List Bool) : evs fa t r = tst fa t :: r := by
  obtain ⟨h1, h2, h3, -⟩ := tok_ne h
  unfold evs
  rw [if_neg h3, if_neg h1, if_neg h2]
theorem dps_and {n : Nat} {k : Nat} (h : dps (-1) n = some k) : 2 ≤ n := by
  unfold dps at h
  rw [if_neg (by decide), if_pos rfl] at h
  split at h
  · assumption
  · cases h
theorem dps_or {n : Nat} {k : Nat} (h : dps (-2) n = some k) : 2 ≤ n := by
  unfold dps at h
  rw [if_neg (by decide), if_neg (by decide), if_pos rfl] at h
  split at h
  · assumption
  · cases h
theorem dps_not {n : Nat} {k : Nat} (h : dps (-3) n = some k) : 1 ≤ n := by
  unfold dps at h
  rw [if_pos rfl] at h
  split at h
  · assumption
  · cases h
theorem dps_tst {t : Int32} (ht : tok t) {n : Nat} {k : Nat} (h : dps t n = some k) : n < 20 := by
  obtain ⟨h1, h2, h3, -⟩ := tok_ne ht
  unfold dps at h
  rw [if_neg h3, if_neg h1, if_neg h2] at h
  split at h
  · assumption
  · cases h
theorem dps_le {t : Int32} {n k : Nat} (h : dps t n = some k) (hn : n ≤ 20) : k ≤ 20 := by
  unfold dps at h
  split at h
  · split at h
    · cases h; exact hn
    · cases h
  · split at h
    · split at h
      · cases h; omega
      · cases h
    · split at h
      · split at h
        · cases h; omega
        · cases h
      · split at h
        · cases h; omega
        · cases h
theorem dpl_cons {t : Int32} {l : List Int32} {n m : Nat} (h : dpl (t :: l) n = some m) : ∃ k, dps t n = some k ∧ dpl l k = some m := by
  rw [dpl] at h
  cases hd : dps t n with
  | none => rw [hd] at h; cases h
  | some k => rw [hd] at h; exact ⟨k, rfl, h⟩
theorem two_of {st : List Bool} (h : 2 ≤ st.length) : ∃ b a r, st = b :: a :: r := by
  match st, h with
  | b :: a :: r, _ => exact ⟨b, a, r, rfl⟩
theorem one_of {st : List Bool} (h : 1 ≤ st.length) : ∃ b r, st = b :: r := by
  match st, h with
  | b :: r, _ => exact ⟨b, r, rfl⟩
theorem kC_holds {d : Nat} {ids : List Nat} {σ : St} {Q : Int32 → St → Prop} {r a1 c f : Nat} {l : List Int32} (hr : r < 5) (ho : IO ids (140 + r) 3) (ha : IA ids a1 0 5) (hc : c < 6)
    (h0 : (if c = 0 then (0 : Int32) else gi σ (153 + 10 * r) (c - 1)) = nI f) (h1 : gi σ (153 + 10 * r) c = nI (f + l.length)) (hl : f + l.length ≤ 100) (hs : ∀ i t, l[i]? = some t → gi σ (155 + 10 * r) (f + i) = t) (hok : okc l)
    (h : Q (bI (evc (gi σ a1) l = true)) σ) : EI (d + 1) ids Y_X3_holds [.ref (140 + r), .int (nI c), .ref a1] σ Q := by
  refine fl_X3_holds ho ha (fun P18 P20 P196 P211 P213 H18 H20 H196 H211 H213 => ?_)
  rw [rf_rul hr, rf_rul hr, show 150 + 10 * r + 3 = 153 + 10 * r by omega, show 150 + 10 * r + 5 = 155 + 10 * r by omega] at H20
  rw [rf_rul hr, show 150 + 10 * r + 3 = 153 + 10 * r by omega]
  have hcin : vp_in (nI c) 6 := vp_in_nI hc (by decide)
  have ec : (nI c).toNatClampNeg = c := cl_ix c (by omega)
  have loop : ∀ (l2 : List Int32) (i : Nat) (st : List Bool), l.drop i = l2 → i ≤ l.length → dpl l2 st.length = some 1 → st.length ≤ 20 → Q (bI ((evl (gi σ a1) l2 st).headD false = true)) σ → P20 (nI (sv st)) (nI (f + i)) σ := by
    intro l2
    induction l2 with
    | nil =>
      intro i st hd hi hdp hst hQ
      have hlen : i = l.length := by
        have := congrArg List.length hd
        rw [List.length_drop, List.length_nil] at this
        omega
      have hst1 : st.length = 1 := Option.some.inj hdp
      obtain ⟨b, rr, rfl⟩ := one_of (st := st) (by omega)
      have hrr : rr = [] := List.length_eq_zero_iff.mp (by simpa using hst1)
      subst hrr
      refine H20 _ _ _ ⟨hcin, fun _ => ?_, fun q => absurd ?_ q⟩
      · rw [n_and1, sv_mod]
        have hQ' : Q (bI (b = true)) σ := hQ
        cases b
        · exact ⟨fun _ => hQ', fun q => absurd q (by decide)⟩
        · exact ⟨fun q => absurd (by decide) q, fun _ => hQ'⟩
      · rw [ec, h1, hlen]; exact nI_le (Nat.le_refl _) (by omega)
    | cons t l3 ih =>
      intro i st hd hi hdp hst hQ
      obtain ⟨g1, g2, g3⟩ := drop_cons hd
      obtain ⟨k, hk, hdp'⟩ := dpl_cons hdp
      have hlen' := evs_len (gi σ a1) hk
      have hk20 := dps_le hk hst
      have next : P20 (nI (sv (evs (gi σ a1) t st))) (nI (f + (i + 1))) σ := ih (i + 1) _ g3 (by omega) (by rw [hlen']; exact hdp') (by omega) hQ
      have go : P213 (nI (sv (evs (gi σ a1) t st))) (nI (f + i)) σ := H213 _ _ _ (fun x ex => by rw [ex, ← nI_succ]; exact next)
      have hin : vp_in (nI (f + i)) 100 := vp_in_nI (by omega) (by decide)
      have ef : (nI (f + i)).toNatClampNeg = f + i := cl_ix _ (by omega)
      refine H20 _ _ _ ⟨hcin, fun q => ?_, fun _ x4 ex4 => ⟨hin, ?_⟩⟩
      · rw [ec, h1] at q
        exact absurd ((nI_leI (by omega) (by omega)).mp q) (by omega)
      rw [ef, hs i t g2]
      have hsv := sv_ltN hst
      rcases hok.2 t (List.mem_of_getElem? g2) with rfl | rfl | rfl | ht
      · refine ⟨fun _ => ⟨hin, fun q => absurd rfl q, fun _ x e => ?_⟩, fun q => absurd q (by decide)⟩
        obtain ⟨b, a, rr, rfl⟩ := two_of (dps_and hk)
        rw [evs_and] at go
        rw [e, ex4, n_and1, sv_mod, n_shr1 (by omega), sv_div]
        have hb : sv (a :: rr) < 1048576 := sv_ltN (by simp at hst ⊢; omega)
        have hb2 : sv (b :: a :: rr) < 1048576 := hsv
        rw [sv] at hb2
        rw [sv] at hb2 ⊢
        rw [and_bits (by omega)]
        exact go
      · refine ⟨fun _ => ⟨hin, fun _ => ⟨hin, fun q => absurd rfl q, fun _ x e => ?_⟩, fun q => absurd q (by decide)⟩, fun q => absurd q (by decide)⟩
        obtain ⟨b, a, rr, rfl⟩ := two_of (dps_or hk)
        rw [evs_or] at go
        rw [e, ex4, n_and1, sv_mod, n_shr1 (by omega), sv_div, sv, n_or, or_bits]
        exact go
      · refine ⟨fun q => absurd rfl q, fun _ x e => ?_⟩
        obtain ⟨b, rr, rfl⟩ := one_of (dps_not hk)
        rw [evs_not] at go
        rw [e, sv, show (1 : Int32) = nI 1 from rfl, n_xor, xor1]
        exact go
      · obtain ⟨n1, n2, n3, -⟩ := tok_ne ht
        obtain ⟨ff, hff, eff⟩ := tok_f ht
        have hst20 := dps_tst ht hk
        rw [evs_tst _ ht] at go
        have fin : ∀ b : Bool, b = tst (gi σ a1) t → P196 (nI (sv st)) (nI (f + i)) (nI b.toNat) σ := by
          intro b hb
          rw [← hb] at go
          have g : P211 (nI (f + i)) (nI b.toNat) (nI (sv st) <<< ((1 : Int32) &&& 31)) σ := by
            refine H211 _ _ _ _ (fun x e => ?_)
            rw [e, n_shl1 (by omega), n_or, Nat.mul_comm, or_low]
            exact go
          refine H196 _ _ _ _ ⟨fun q => ?_, fun q => ?_⟩
          · cases b
            · exact g
            · exact absurd q (by decide)
          · cases b
            · exact absurd (by decide) q
            · exact g
        refine ⟨fun _ => ⟨hin, fun _ => ⟨hin, fun _ => ⟨hin, by rw [eff]; exact vp_in_nI hff (by decide), fun x13 e13 => ⟨hin, fun x15 e15 => ⟨hin, fun x17 e17 => ?_⟩⟩⟩, fun q => absurd q n2⟩, fun q => absurd q n1⟩, fun q => absurd q n3⟩
        rw [tst_def, ← e13, ← e15, ← e17] at fin
        refine ⟨fun c0 => ⟨fun c1 => ⟨fun c2 => fin false ?_, fun c2 => fin true ?_⟩, fun c1 => ⟨fun c2 => fin false ?_, fun c2 => fin true ?_⟩⟩, fun c0 => ⟨fun c2 => fin false ?_, fun c2 => fin true ?_⟩⟩
        · rw [if_neg c0, if_neg c1]; exact (decide_eq_false (nlt.mpr c2)).symm
        · rw [if_neg c0, if_neg c1]; exact (decide_eq_true (nle.mp c2)).symm
        · rw [if_neg c0, if_pos c1]; exact (decide_eq_false c2).symm
        · rw [if_neg c0, if_pos c1]; exact (decide_eq_true c2).symm
        · rw [if_pos c0]; exact (decide_eq_false (nlt.mpr c2)).symm
        · rw [if_pos c0]; exact (decide_eq_true (nle.mp c2)).symm
  have start := loop l 0 [] rfl (Nat.zero_le _) hok.1 (by decide) h
  refine ⟨fun c0 => ?_, fun c0 => ?_⟩
  · have hc0 : c ≠ 0 := fun z => c0 (by rw [z]; rfl)
    rw [if_neg hc0] at h0
    obtain ⟨k, rfl⟩ : ∃ k, c = k + 1 := ⟨c - 1, by omega⟩
    rw [nI_pred, cl_ix k (by omega)]
    refine ⟨vp_in_nI (by omega) (by decide), H18 _ _ _ ?_⟩
    rw [Nat.add_sub_cancel] at h0
    rw [h0]
    exact start
  · have hc0 : c = 0 := (nI_eq (by omega) (by decide)).mp c0
    rw [if_pos hc0] at h0
    have : f = 0 := ((nI_eq (a := 0) (by omega) (by omega)).mp h0).symm
    subst this
    exact H18 _ _ _ start
