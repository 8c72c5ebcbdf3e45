/-! rows of fields, arrays, statics; returns; calls -/
theorem fv_int {ρ : Nat → Nat} {σ : St} {o c k : Nat} (h : fk c k = 0) : fv ρ σ o c k = .int (gi σ o k) := by rw [fv, if_pos h]
theorem fv_ref {ρ : Nat → Nat} {σ : St} {o c k : Nat} (h : fk c k = 1) : fv ρ σ o c k = .ref (ρ (rf o k)) := by rw [fv, if_neg (by rw [h]; decide), if_pos h]
theorem fv_nul {ρ : Nat → Nat} {σ : St} {o c k : Nat} (h : fk c k = 2) : fv ρ σ o c k = va_rf ((dc (gi σ o k)).map ρ) := by rw [fv, if_neg (by rw [h]; decide), if_neg (by rw [h]; decide)]
theorem ac_int {ρ : Nat → Nat} {σ : St} {o : Nat} : ac ρ σ o 1 = .inl (gi σ o) := rfl
theorem ac_boo {ρ : Nat → Nat} {σ : St} {o : Nat} : ac ρ σ o 3 = .inl (gi σ o) := rfl
theorem ac_lon {ρ : Nat → Nat} {σ : St} {o : Nat} : ac ρ σ o 2 = .inr (.inl (gl σ o)) := rfl
theorem wl_obj {ids : List Nat} (ca : Nat → ClassId) (ρ : Nat → Nat) (σ : St) {o c : Nat} (h : o ∈ ids) (hs : sh o = (0, c)) : ∃ i : Nat, ids[i]? = some o ∧ (wl ids ca ρ σ)[i]? = some (ρ o, .inr (c, fl ρ σ o c)) := by
  obtain ⟨i, h1, h2⟩ := wl_get ca ρ σ h
  exact ⟨i, h1, by rw [h2, ce_obj hs]⟩
theorem wl_arr {ids : List Nat} (ca : Nat → ClassId) (ρ : Nat → Nat) (σ : St) {o t n : Nat} (h : o ∈ ids) (hs : sh o = (t + 1, n)) : ∃ i : Nat, ids[i]? = some o ∧ (wl ids ca ρ σ)[i]? = some (ρ o, .inl (ca (t + 1), n, ac ρ σ o (t + 1))) := by
  obtain ⟨i, h1, h2⟩ := wl_get ca ρ σ h
  exact ⟨i, h1, by rw [h2, ce_arr hs]⟩
/-- a place that holds a reference for good -/
def isr (o k : Nat) : Bool := ((sh o).1 == 0 && fk (sh o).2 k == 1 && decide (k < fn (sh o).2)) || (decide (5 ≤ (sh o).1 ∧ (sh o).1 ≤ 8) && decide (k < (sh o).2))
def clo (ids : List Nat) : Prop := ∀ o, o ∈ ids → ∀ k, isr o k = true → rf o k ∈ ids
/-- o is there, an object of class c / an array of kind t and length n -/
def IO (ids : List Nat) (o c : Nat) : Prop := clo ids ∧ o ∈ ids ∧ sh o = (0, c)
def IA (ids : List Nat) (o t n : Nat) : Prop := clo ids ∧ o ∈ ids ∧ sh o = (t + 1, n)
theorem wl_D {ids : List Nat} {A : Nat → Prop} (ca : Nat → ClassId) (ρ : Nat → Nat) (σ : St) (hn : ids.Nodup) (hi : inj ids ρ) (hA : ∀ o, o ∈ ids → A (ρ o)) : va_D A (wl ids ca ρ σ) := by
  have key : ∀ (i : Nat) (p : Nat × va_E), (wl ids ca ρ σ)[i]? = some p → ∃ o, ids[i]? = some o ∧ p.1 = ρ o := by
    intro i p h
    rw [wl, List.getElem?_map] at h
    cases ho : ids[i]? with
    | none => rw [ho] at h; cases h
    | some o => rw [ho] at h; cases h; exact ⟨o, rfl, rfl⟩
  refine ⟨fun i j p q h1 h2 e => ?_, fun k q h => ?_⟩
  · obtain ⟨a, a1, a2⟩ := key i p h1
    obtain ⟨b, b1, b2⟩ := key j q h2
    have hab : a = b := hi a b (List.mem_of_getElem? a1) (List.mem_of_getElem? b1) (by rw [← a2, ← b2]; exact e)
    subst hab
    obtain ⟨c1, c2⟩ := List.getElem?_eq_some_iff.mp a1
    obtain ⟨d1, d2⟩ := List.getElem?_eq_some_iff.mp b1
    exact (List.getElem_inj (h₀ := c1) (h₁ := d1) hn).mp (c2.trans d2.symm)
  · obtain ⟨a, a1, a2⟩ := key k q h
    rw [a2]
    exact hA a (List.mem_of_getElem? a1)
section WR2
variable {X : CT} {ids : List Nat} {nL : Nat} {Qp : Option Value → St → Prop} {pc : Nat} {L L' : List (Nat × Value)} {S : List Value} {σ : St} {cc : ByteArray} {ret : Option FieldType} {dep : Nat} {own : String}
/-- a class's facts, by its number -/
def ClsOk (ci : Nat) (C : String) (T : u_T) (N : Nat) (ty : Nat → FieldType) : Prop := vwCl[ci]? = some (C, T, N) ∧ fn ci = N ∧ (∀ w ∈ u_ws C T N, w ∈ TB) ∧ (∀ k, k < N → parseFieldDescriptor (T k).2.2.1 = some (ty k)) ∧ (∀ a, a < N → ∀ b, b < N → a ≠ b → (T a).2.1 ≠ (T b).2.1)
theorem q_get {C ref : String} {T : u_T} {N ci index : Nat} {ty : Nat → FieldType} {o : Nat} {v : Value} (k0 : Nat) (hC : ClsOk ci C T N ty) (hk : k0 < N) (hl : Cond.fieldLink own index ref (T k0).2.1 (T k0).2.2.1 ∈ TB) (hre : (T k0).1 = ref) (hX : Cok X ids nL cc ret dep own) (ho : IO ids o ci) (hd : decode cc pc = .ok (.getfield index, 3)) (hv : ∀ ρ, fv ρ σ o ci k0 = cv ρ v) (k : Wg X ids nL Qp (pc + 3) L (v :: S) σ) : Wg X ids nL Qp pc L (.ref o :: S) σ := by
  obtain ⟨p, l, e, R, s, m, args, below, meth, c, ca, ρ, D, A⟩ := X
  obtain ⟨hx, hb, hown, hts, hK, -⟩ := hX
  obtain ⟨hc, hfn, hin, hty, hnm⟩ := hC
  intro H locs ls hP hS hl'
  obtain ⟨i, -, hi⟩ := wl_obj ca ρ σ ho.2.1 ho.2.2
  have hg := k H locs ls hP hS hl'
  exact va_get (Ts := TB) (D := D) hx hb hts hin hown hK hP i hi hc k0 hk (hts _ hl) (by subst hre; exact fun _ h => h) (by rw [fl_get _ _ _ _ _ (by rw [hfn]; exact hk), hv ρ]) hd hg
theorem q_put {C ref : String} {T : u_T} {N ci index : Nat} {ty : Nat → FieldType} {o : Nat} {v : Value} {x : Int32} (k0 : Nat) (hC : ClsOk ci C T N ty) (hk : k0 < N) (hl : Cond.fieldLink own index ref (T k0).2.1 (T k0).2.2.1 ∈ TB) (hre : (T k0).1 = ref) (hfin : (T k0).2.2.2 = false) (hX : Cok X ids nL cc ret dep own) (ho : IO ids o ci) (hd : decode cc pc = .ok (.putfield index, 3)) (hv : ∀ ρ, fv ρ (si σ o k0 x) o ci k0 = cv ρ v) (hn : ∀ ρ, narrow (ty k0) (cv ρ v) = cv ρ v) (hfit : ∀ ρ, fits (ty k0) (cv ρ v) = true) (k : Wg X ids nL Qp (pc + 3) L S (si σ o k0 x)) : Wg X ids nL Qp pc L (v :: .ref o :: S) σ := by
  obtain ⟨p, l, e, R, s, m, args, below, meth, c, ca, ρ, D, A⟩ := X
  obtain ⟨hx, hb, hown, hts, hK, hD, hnd, -⟩ := hX
  obtain ⟨hc, hfn, hin, hty, hnm⟩ := hC
  intro H locs ls hP hS hl'
  obtain ⟨i, hi0, hi⟩ := wl_obj ca ρ σ ho.2.1 ho.2.2
  have hk2 : k0 < fn ci := by rw [hfn]; exact hk
  refine va_put (Ts := TB) (D := D) hx hb hts hin ty hty hnm hown hK hP (hD σ) hS i hi hc k0 hk (hts _ hl) (by subst hre; exact fun _ h => h) hfin (hty k0 hk) (hn ρ) (hfit ρ) (by simp [fl, hk2]) hd (fun H1 locs1 hP1 hD1 hS1 => ?_)
  have e1 : (wl ids ca ρ σ).set i (ρ o, .inr (ci, (fl ρ σ o ci).set k0 (cv ρ v))) = wl ids ca ρ (si σ o k0 x) := by
    refine wl_set hnd ca ρ hi0 ?_ (fun q hq => ce_si q hq)
    rw [ce_obj ho.2.2, ← hv ρ, fl_si hk2]
  rw [e1] at hP1
  exact k H1 locs1 ls hP1 hS1 hl'
theorem q_iald {o n : Nat} {i : Int32} (hX : Cok X ids nL cc ret dep own) (hd : decode cc pc = .ok (.iaload, 1)) (ho : IA ids o 0 n) (hin : vp_in i n) (k : Wg X ids nL Qp (pc + 1) L (.int (gi σ o i.toNatClampNeg) :: S) σ) : Wg X ids nL Qp pc L (.int i :: .ref o :: S) σ := by
  obtain ⟨p, l, e, R, s, m, args, below, meth, c, ca, ρ, D, A⟩ := X
  obtain ⟨hx, hb, hown, hts, hK, -⟩ := hX
  intro H locs ls hP hS hl'
  obtain ⟨j, -, hj⟩ := wl_arr ca ρ σ ho.2.1 ho.2.2
  exact va_iald hx hb hK hP j 0 hj rfl hin hd (k H locs ls hP hS hl')
theorem q_zald {o n : Nat} {i : Int32} (hX : Cok X ids nL cc ret dep own) (hd : decode cc pc = .ok (.baload, 1)) (ho : IA ids o 2 n) (hin : vp_in i n) (k : Wg X ids nL Qp (pc + 1) L (.int (gi σ o i.toNatClampNeg) :: S) σ) : Wg X ids nL Qp pc L (.int i :: .ref o :: S) σ := by
  obtain ⟨p, l, e, R, s, m, args, below, meth, c, ca, ρ, D, A⟩ := X
  obtain ⟨hx, hb, hown, hts, hK, -⟩ := hX
  intro H locs ls hP hS hl'
  obtain ⟨j, -, hj⟩ := wl_arr ca ρ σ ho.2.1 ho.2.2
  exact va_zald hx hb hK hP j 2 hj rfl hin hd (k H locs ls hP hS hl')
theorem q_lald {o n : Nat} {i : Int32} (hX : Cok X ids nL cc ret dep own) (hd : decode cc pc = .ok (.laload, 1)) (ho : IA ids o 1 n) (hin : vp_in i n) (k : Wg X ids nL Qp (pc + 1) L (.long (gl σ o i.toNatClampNeg) :: S) σ) : Wg X ids nL Qp pc L (.int i :: .ref o :: S) σ := by
  obtain ⟨p, l, e, R, s, m, args, below, meth, c, ca, ρ, D, A⟩ := X
  obtain ⟨hx, hb, hown, hts, hK, -⟩ := hX
  intro H locs ls hP hS hl'
  obtain ⟨j, -, hj⟩ := wl_arr ca ρ σ ho.2.1 ho.2.2
  exact va_lald hx hb hK hP j 1 hj rfl hin hd (k H locs ls hP hS hl')
theorem q_iast {o n : Nat} {i x : Int32} (hX : Cok X ids nL cc ret dep own) (hd : decode cc pc = .ok (.iastore, 1)) (ho : IA ids o 0 n) (hin : vp_in i n) (k : Wg X ids nL Qp (pc + 1) L S (si σ o i.toNatClampNeg x)) : Wg X ids nL Qp pc L (.int x :: .int i :: .ref o :: S) σ := by
  obtain ⟨p, l, e, R, s, m, args, below, meth, c, ca, ρ, D, A⟩ := X
  obtain ⟨hx, hb, hown, hts, hK, hD, hnd, -⟩ := hX
  intro H locs ls hP hS hl'
  obtain ⟨j, hj0, hj⟩ := wl_arr ca ρ σ ho.2.1 ho.2.2
  refine va_iast hx hb hK hP (hD σ) hS j 0 hj rfl hin hd (fun H1 locs1 hP1 hD1 hS1 => ?_)
  have e1 : (wl ids ca ρ σ).set j (ρ o, .inl (ca 1, n, .inl (upd (gi σ o) i.toNatClampNeg x))) = wl ids ca ρ (si σ o i.toNatClampNeg x) := by
    refine wl_set hnd ca ρ hj0 ?_ (fun q hq => ce_si q hq)
    rw [ce_arr ho.2.2, ac_int, gi_si_row]
  rw [e1] at hP1
  exact k H1 locs1 ls hP1 hS1 hl'
theorem q_zast {o n : Nat} {i x : Int32} (hX : Cok X ids nL cc ret dep own) (hd : decode cc pc = .ok (.bastore, 1)) (ho : IA ids o 2 n) (hin : vp_in i n) (k : Wg X ids nL Qp (pc + 1) L S (si σ o i.toNatClampNeg (vp_nar .boolean x))) : Wg X ids nL Qp pc L (.int x :: .int i :: .ref o :: S) σ := by
  obtain ⟨p, l, e, R, s, m, args, below, meth, c, ca, ρ, D, A⟩ := X
  obtain ⟨hx, hb, hown, hts, hK, hD, hnd, -⟩ := hX
  intro H locs ls hP hS hl'
  obtain ⟨j, hj0, hj⟩ := wl_arr ca ρ σ ho.2.1 ho.2.2
  refine va_zast hx hb hK hP (hD σ) hS j 2 hj rfl hin hd (fun H1 locs1 hP1 hD1 hS1 => ?_)
  have e1 : (wl ids ca ρ σ).set j (ρ o, .inl (ca 3, n, .inl (upd (gi σ o) i.toNatClampNeg (vp_nar .boolean x)))) = wl ids ca ρ (si σ o i.toNatClampNeg (vp_nar .boolean x)) := by
    refine wl_set hnd ca ρ hj0 ?_ (fun q hq => ce_si q hq)
    rw [ce_arr ho.2.2, ac_boo, gi_si_row]
  rw [e1] at hP1
  exact k H1 locs1 ls hP1 hS1 hl'
theorem q_last {o n : Nat} {i : Int32} {x : Int64} (hX : Cok X ids nL cc ret dep own) (hd : decode cc pc = .ok (.lastore, 1)) (ho : IA ids o 1 n) (hin : vp_in i n) (k : Wg X ids nL Qp (pc + 1) L S (sl σ o i.toNatClampNeg x)) : Wg X ids nL Qp pc L (.long x :: .int i :: .ref o :: S) σ := by
  obtain ⟨p, l, e, R, s, m, args, below, meth, c, ca, ρ, D, A⟩ := X
  obtain ⟨hx, hb, hown, hts, hK, hD, hnd, -⟩ := hX
  intro H locs ls hP hS hl'
  obtain ⟨j, hj0, hj⟩ := wl_arr ca ρ σ ho.2.1 ho.2.2
  refine va_last hx hb hK hP (hD σ) hS j 1 hj rfl hin hd (fun H1 locs1 hP1 hD1 hS1 => ?_)
  have e1 : (wl ids ca ρ σ).set j (ρ o, .inl (ca 2, n, .inr (.inl (vp_updL (gl σ o) i.toNatClampNeg x)))) = wl ids ca ρ (sl σ o i.toNatClampNeg x) := by
    refine wl_set hnd ca ρ hj0 ?_ (fun q hq => ce_sl q hq)
    rw [ce_arr ho.2.2, ac_lon, gl_sl_row]
  rw [e1] at hP1
  exact k H1 locs1 ls hP1 hS1 hl'
/-- an array of references, whose places hold what they hold for good: Rules[], Stage[], int[][], long[][] -/
theorem q_aald {o t n : Nat} {i : Int32} (ht : 4 ≤ t ∧ t ≤ 7) (hX : Cok X ids nL cc ret dep own) (hd : decode cc pc = .ok (.aaload, 1)) (ho : IA ids o t n) (hin : vp_in i n) (k : Wg X ids nL Qp (pc + 1) L (.ref (rf o i.toNatClampNeg) :: S) σ) : Wg X ids nL Qp pc L (.int i :: .ref o :: S) σ := by
  obtain ⟨p, l, e, R, s, m, args, below, meth, c, ca, ρ, D, A⟩ := X
  obtain ⟨hx, hb, hown, hts, hK, -⟩ := hX
  intro H locs ls hP hS hl'
  obtain ⟨j, -, hj⟩ := wl_arr ca ρ σ ho.2.1 ho.2.2
  have hlt : i.toNatClampNeg < n := Nat.not_le.mp fun q => hin (Or.inr q)
  have ha : ac ρ σ o (t + 1) = .inr (.inr (.inr (.inr fun j => some (ρ (rf o j))))) := by
    rw [ac, if_neg (by omega), if_neg (by omega), if_neg (by omega)]
  rw [ha] at hj
  obtain ⟨ty, hty, hr⟩ : ∃ ty, (tl ca)[t]? = some (ca (t + 1), ty) ∧ ty.isReference = true := by
    rcases (by omega : t = 4 ∨ t = 5 ∨ t = 6 ∨ t = 7) with rfl | rfl | rfl | rfl <;> exact ⟨_, rfl, rfl⟩
  exact W.aald (v := .ref (ρ (rf o i.toNatClampNeg))) (ty := ty) hx hb (hP j _ hj) ((hK.2 t _ hty).1 n (fun j => va_rf (some (ρ (rf o j))))) hr (fun q => by cases q) (by show ¬ (i < 0 ∨ (arrV _ _ _).slots.size ≤ _); rw [arrV_size]; exact hin) (by show (arrV _ _ _).slots[_]? = _; rw [arrV_read _ _ hlt]; rfl) rfl rfl hd (k H locs ls hP hS hl')
/-- Case[]: its places may be empty -/
theorem q_cald {o n : Nat} {i : Int32} (hX : Cok X ids nL cc ret dep own) (hd : decode cc pc = .ok (.aaload, 1)) (ho : IA ids o 3 n) (hin : vp_in i n) (k0 : dc (gi σ o i.toNatClampNeg) = none → Wg X ids nL Qp (pc + 1) L (.null :: S) σ) (k1 : ∀ a, dc (gi σ o i.toNatClampNeg) = some a → Wg X ids nL Qp (pc + 1) L (.ref a :: S) σ) : Wg X ids nL Qp pc L (.int i :: .ref o :: S) σ := by
  obtain ⟨p, l, e, R, s, m, args, below, meth, c, ca, ρ, D, A⟩ := X
  obtain ⟨hx, hb, hown, hts, hK, -⟩ := hX
  intro H locs ls hP hS hl'
  obtain ⟨j, -, hj⟩ := wl_arr ca ρ σ ho.2.1 ho.2.2
  refine va_aldq hx hb hK hP j 3 hj rfl hin hd ?_
  cases hq : dc (gi σ o i.toNatClampNeg) with
  | none =>
    have h := k0 hq H locs ls hP hS hl'
    simpa [hq, va_rf, cS, cv] using h
  | some a =>
    have h := k1 a hq H locs ls hP hS hl'
    simpa [hq, va_rf, cS, cv] using h
theorem q_getnul {C ref : String} {T : u_T} {N ci index : Nat} {ty : Nat → FieldType} {o : Nat} (k0 : Nat) (hC : ClsOk ci C T N ty) (hk : k0 < N) (hl : Cond.fieldLink own index ref (T k0).2.1 (T k0).2.2.1 ∈ TB) (hre : (T k0).1 = ref) (hf : fk ci k0 = 2) (hX : Cok X ids nL cc ret dep own) (ho : IO ids o ci) (hd : decode cc pc = .ok (.getfield index, 3)) (kn : dc (gi σ o k0) = none → Wg X ids nL Qp (pc + 3) L (.null :: S) σ) (ks : ∀ a, dc (gi σ o k0) = some a → Wg X ids nL Qp (pc + 3) L (.ref a :: S) σ) : Wg X ids nL Qp pc L (.ref o :: S) σ := by
  cases hq : dc (gi σ o k0) with
  | none => exact q_get k0 hC hk hl hre hX ho hd (fun ρ => by rw [fv_nul hf, hq]; rfl) (kn hq)
  | some a => exact q_get k0 hC hk hl hre hX ho hd (fun ρ => by rw [fv_nul hf, hq]; rfl) (ks a hq)
end WR2
