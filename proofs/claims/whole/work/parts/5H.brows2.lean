/-! ROWS OVER THE WORLD THAT IS BUILT -/
/-- what making things wants of the tables beyond TB -/
def Nx (ca : Nat → ClassId) (U : State) : Prop :=
  (va_AO RX1 U ∧ va_AO RX3 U ∧ va_AO RX4 U) ∧ (∃ k : Class, U.vm.classes[ca 7]? = some k ∧ k.kind = .array (ca 1) (.array .int)) ∧ (∃ k : Class, U.vm.classes[ca 8]? = some k ∧ k.kind = .array (ca 2) (.array .long)) ∧
  va_Nw (.methodLinkNest RX6 26 yX5_init "PleasToIssue") U ∧ va_Nw (.methodLinkNest RX6 51 yX0_init "PleasToIssue") U ∧ va_Nw (.methodLinkNest RX6 67 yX3_init "PleasToIssue") U ∧ va_Nw (.methodLinkNest RX2 30 yX4_init "PleasToIssue") U
theorem Nx.moved {ca : Nat → ClassId} {u U : State} (hW : u.WarmedH U.vm) (h : Nx ca u) : Nx ca U := by
  obtain ⟨⟨a1, a2, a3⟩, ⟨k7, b1, b2⟩, ⟨k8, c1, c2⟩, d1, d2, d3, d4⟩ := h
  refine ⟨⟨va_AO.moved hW.alike a1, va_AO.moved hW.alike a2, va_AO.moved hW.alike a3⟩, ?_, ?_, va_Nw.warmM hW d1, va_Nw.warmM hW d2, va_Nw.warmM hW d3, va_Nw.warmM hW d4⟩
  · obtain ⟨k', hk', he⟩ := hW.alike.2.2 _ _ b1
    exact ⟨k', hk', by rw [he]; exact b2⟩
  · obtain ⟨k', hk', he⟩ := hW.alike.2.2 _ _ c1
    exact ⟨k', hk', by rw [he]; exact c2⟩
theorem Nx.same {ca : Nat → ClassId} {u U : State} (hv : U.vm = u.vm) (h : Nx ca u) : Nx ca U := by
  obtain ⟨⟨a1, a2, a3⟩, b, c, d1, d2, d3, d4⟩ := h
  have hA : u.vm.Alike U.vm := by rw [hv]; exact Vm.Alike.refl u.vm
  exact ⟨⟨va_AO.moved hA a1, va_AO.moved hA a2, va_AO.moved hA a3⟩, by rw [hv]; exact b, by rw [hv]; exact c, va_Nw.same rfl hv.symm d1, va_Nw.same rfl hv.symm d2, va_Nw.same rfl hv.symm d3, va_Nw.same rfl hv.symm d4⟩
def Nok (X : CT) : Prop := match X with
  | (p, l, e, R, s, m, args, below, meth, c, ca, ρ, D, A) => Nx ca s
section BB
variable {X : CT} {nL : Nat} {Z : State → Prop} {cells slots pc : Nat} {L L' : List (Nat × Value)} {S : List Value} {cc : ByteArray} {ret : Option FieldType} {rm : Room} {own : String} {xs : List Nat} {an : List (Nat × Nat)} {ids : List Nat} {hs : List (Nat × Nat)} {σ : St} {ci : Nat}
/-- other names for the same -/
theorem Bw.to {an' : List (Nat × Nat)} {ids' : List Nat} {hs' : List (Nat × Nat)} {σ' : St} (h1 : an = an') (h2 : ids = ids') (h3 : hs = hs') (h4 : σ = σ') (k : Bw X nL Z cells slots pc L S (BW X xs an' ids' hs' σ')) : Bw X nL Z cells slots pc L S (BW X xs an ids hs σ) := by
  subst h1; subst h2; subst h3; subst h4; exact k
theorem Bw.room {c2 s2 : Nat} (h1 : cells = c2) (h2 : slots = s2) {Wd : Heap → Prop} (k : Bw X nL Z c2 s2 pc L S Wd) : Bw X nL Z cells slots pc L S Wd := by
  subst h1; subst h2; exact k
/-- fewer anchors -/
theorem BW.anc {an' : List (Nat × Nat)} {H : Heap} (h : ∀ q ∈ an', q ∈ an) (hB : BW X xs an ids hs σ H) : BW X xs an' ids hs σ H := by
  obtain ⟨p, l, e, R, s, m, args, below, meth, c, ca, ρ, D, A⟩ := X
  obtain ⟨hBc, r, han, hth, hD, hP⟩ := hB
  exact ⟨hBc, r, fun q hq => han q (h q hq), hth, hD, hP⟩
theorem Bw.world {Wd Wd' : Heap → Prop} (h : ∀ H, Wd H → Wd' H) (k : Bw X nL Z cells slots pc L S Wd') : Bw X nL Z cells slots pc L S Wd := by
  obtain ⟨p, l, e, R, s, m, args, below, meth, c, ca, ρ, D, A⟩ := X
  exact fun H locs ls hW hS hl => k H locs ls (h H hW) hS hl
theorem Bw.anc {an' : List (Nat × Nat)} (h : ∀ q ∈ an', q ∈ an) (k : Bw X nL Z cells slots pc L S (BW X xs an' ids hs σ)) : Bw X nL Z cells slots pc L S (BW X xs an ids hs σ) := Bw.world (fun _ hB => BW.anc h hB) k
theorem b_objinit {idx a : Nat} (hX : Dok X nL cc ret rm own) (hd : decode cc pc = .ok (.invokespecial idx, 3)) (hl : Cond.methodLink own idx Lib.objectInit ∈ TB) (hi : Cond.instanceMethod Lib.objectInit ∈ TB) (hc : Cond.code Lib.objectInit ⟨#[0xb1]⟩ 1 none ∈ TB) (hf : 1 ≤ rm.frames) (hlo : 20 ≤ rm.locals) (hS0 : S = []) {Wd : Heap → Prop} (k : Bw X nL Z cells slots (pc + 3) L S Wd) : Bw X nL Z cells slots pc L (.ref a :: S) Wd := by
  obtain ⟨p, l, e, R, s, m, args, below, meth, c, ca, ρ, D, A⟩ := X
  obtain ⟨hx, hb, hown, hts, hK, hml, hlocks, hr, hR, hSx, hA⟩ := hX
  subst hS0
  intro H locs ls hP hS hl'
  have h8 := lv_room (pc := pc) (ls := ls) (rest := ([] : List Value)) (m := m) (st := []) (Nat.zero_le _)
  exact W.objInit hx hb hown (hts _ hl) (hts _ hi) (hts _ hc) rfl (by rw [hml]; exact hl'.1) rfl hd (by rw [hR]; exact hf) (by rw [hR]; simp [F0, JFrame.monitorRoom] at h8 ⊢; omega) (k H locs ls hP hS hl')
/-- 'new' -/
theorem b_new {C : String} {T : u_T} {N index : Nat} {ty : Nat → FieldType} (o : Nat) (hC : ClsOk ci C T N ty) (hcl : Cond.classLink own index C ∈ TB) (hinst : Cond.instantiable C N ∈ TB) (hini : Cond.initialized C ∈ TB) (hX : Dok X nL cc ret rm own) (hd : decode cc pc = .ok (.new index, 3)) (hs0 : sh o = (0, ci)) (hno : o ∉ ids) (hnx : o ∉ xs)
    (hdef : ∀ k, k < N → defaultValue (ty k) = if fk ci k = 0 then .int 0 else .null) (hz : ∀ k, k < N → (fk ci k = 0 → gi σ o k = 0) ∧ (¬ fk ci k = 0 → ¬ fk ci k = 1 → gi σ o k < 0))
    (hcells : cells + 1 ≤ rm.cells) (hslots : slots + N ≤ rm.slots)
    (k : ∀ q, Bw X nL Z (cells + 1) (slots + N) (pc + 3) L (.ref q :: S) (BW X xs ((o, q) :: an) (ids ++ [o]) (nh o ++ hs) σ)) : Bw X nL Z cells slots pc L S (BW X xs an ids hs σ) := by
  obtain ⟨p, l, e, R, s, m, args, below, meth, c, ca, ρ, D, A⟩ := X
  obtain ⟨hx, hb, hown, hts, hK, hml, hlocks, hr, hR, hSx, hA⟩ := hX
  obtain ⟨hc, hfn, hin, hty, hnm⟩ := hC
  intro H locs ls hB hS hl
  obtain ⟨hBc, r, han, hth, hD, hP⟩ := hB
  refine va_new (Ts := TB) (ci := ci) (fs := (List.range N).map fun k => if fk ci k = 0 then Value.int 0 else .null) (C := C) (T := T) (N := N) hx hb hts hin ty hty hown (hts _ hcl) (hts _ hinst) (hts _ hini) hK hP hD hS hA hc (fun j hj => by rw [hdef j hj]; simp [vp_V, hj]) (by rw [hR]; exact hcells) (by rw [hR]; exact hslots) hd (fun q H1 hP1 hD1 hS1 => k q H1 locs ls ?_ hS1 hl)
  have hdn : ∀ k, isd o k = true → dc (gi σ o k) = none := fun k hk => by
    simp only [isd, hs0, Bool.or_eq_true, Bool.and_eq_true, decide_eq_true_eq, Bool.not_eq_true', beq_eq_false_iff_ne] at hk
    rcases hk with ⟨⟨⟨-, h1⟩, h2⟩, h3⟩ | ⟨h1, -⟩
    · exact if_pos ((hz k (by rw [← hfn]; exact h3)).2 h1 h2)
    · cases h1
  refine BW_add o (by rw [hs0]; exact Nat.zero_le 8) hno hnx hdn hBc han hth hD1 hP1 (fun r' h => ?_)
  have e : pce (nh o ++ hs) ca r' σ o = .inr (ci, (List.range N).map fun k => if fk ci k = 0 then Value.int 0 else .null) := by
    unfold pce
    rw [hs0, if_pos rfl]
    congr 2
    unfold pfl
    rw [hfn]
    refine List.map_congr_left fun k hk => ?_
    have hk := List.mem_range.mp hk
    unfold pfv
    by_cases h1 : fk ci k = 1
    · rw [if_pos (List.mem_append_left _ ((nh_mem (o := o) (p := (o, k))).mpr ⟨rfl, (isr_obj hs0).mpr ⟨h1, by rw [hfn]; exact hk⟩⟩)), if_neg (by rw [h1]; decide)]
    · have hnot : (o, k) ∉ nh o ++ hs := fun z => by
        have hr : isr o k = true := by
          rcases List.mem_append.mp z with z | z
          · exact (nh_mem.mp z).2
          · exact (hBc.2.2.2.1 _ z).1
        exact h1 ((isr_obj hs0).mp hr).1
      rw [if_neg hnot]
      unfold fv
      by_cases h0 : fk ci k = 0
      · rw [if_pos h0, if_pos h0, (hz k hk).1 h0]
      · rw [if_neg h0, if_neg h0, if_neg h1, dc, if_pos ((hz k hk).2 h0 h1)]
        rfl
  rw [e]
  exact h
theorem pz_i {t n o : Nat} (hs0 : sh o = (t, n)) (ht : t = 1 ∨ t = 3) (hz : ∀ j, j < n → gi σ o j = 0) (hs : List (Nat × Nat)) (cA : ClassId) (r : Nat → Nat) : vp_cell cA (n, pac hs r σ o t) = arrV cA n (fun _ => .int 0) := by
  unfold pac ac
  rw [if_neg (by omega), if_pos ht, vp_cell_i]
  exact mx_same fun j hj => by rw [hz j hj]
theorem pz_l {n o : Nat} (hz : ∀ j, j < n → gl σ o j = 0) (hs : List (Nat × Nat)) (cA : ClassId) (r : Nat → Nat) : vp_cell cA (n, pac hs r σ o 2) = arrV cA n (fun _ => .long 0) := by
  unfold pac ac
  rw [if_neg (by omega), if_neg (by omega), if_pos rfl, vp_cell_l]
  exact mx_same fun j hj => by rw [hz j hj]
/-- 'newarray' -/
theorem b_newp {atype : ArrayType} {ty : FieldType} {n : Int32} {t N : Nat} {a0 : vp_A} (o : Nat) (ht : 1 ≤ t ∧ t ≤ 3) (hty : newarray.typeOf atype = ty) (htl : ∀ ca : Nat → ClassId, (tl ca)[t - 1]? = some (ca t, ty)) (hra : ∀ (U : State) (cA : ClassId), va_RA U cA ty → U.vm.findClass ("[" ++ ty.toString) = some cA) (harr : Cond.arrayClass ty ∈ TB)
    (ha0 : ∀ cA : ClassId, vp_cell cA a0 = arrV cA N (fun _ => defaultValue ty)) (hX : Dok X nL cc ret rm own) (hd : decode cc pc = .ok (.newarray atype, 2)) (hs0 : sh o = (t, N)) (hno : o ∉ ids) (hnx : o ∉ xs)
    (hz : ∀ (hs : List (Nat × Nat)) (cA : ClassId) (r : Nat → Nat), vp_cell cA (N, pac hs r σ o t) = arrV cA N (fun _ => defaultValue ty)) (hn : ¬ n < 0) (hN : n.toNatClampNeg = N) (hbytes : N * componentBytes ty ≤ 536870912) (hcells : cells + 1 ≤ rm.cells) (hslots : slots + N ≤ rm.slots)
    (k : ∀ q, Bw X nL Z (cells + 1) (slots + N) (pc + 2) L (.ref q :: S) (BW X xs ((o, q) :: an) (ids ++ [o]) (nh o ++ hs) σ)) : Bw X nL Z cells slots pc L (.int n :: S) (BW X xs an ids hs σ) := by
  obtain ⟨p, l, e, R, s, m, args, below, meth, c, ca, ρ, D, A⟩ := X
  obtain ⟨hx, hb, hown, hts, hK, hml, hlocks, hr, hR, hSx, hA⟩ := hX
  intro H locs ls hB hS hl
  obtain ⟨hBc, r, han, hth, hD, hP⟩ := hB
  refine va_newa hx hb (by rw [hty]; exact hts _ harr) hty hK hP hD hS hA ha0 hn hN hbytes (by rw [hR]; exact hcells) (by rw [hR]; exact hslots) hd (fun q cA H1 hK1 hP1 hD1 hS1 => k q H1 locs ls ?_ hS1 hl)
  have h9 : (tl ca ++ [(cA, ty)])[8]? = some (cA, ty) := rfl
  have hc1 := hra s cA (hK1.2 8 _ h9).2
  have hc2 := hra s (ca t) (hK.2 (t - 1) _ (htl ca)).2
  have hcc : cA = ca t := Option.some.inj (hc1.symm.trans hc2)
  have hdn : ∀ k, isd o k = true → dc (gi σ o k) = none := fun k hk => by
    exfalso
    have h0 : ¬ t = 0 := by omega
    have h4 : ¬ t = 4 := by omega
    simp [isd, hs0, h0, h4] at hk
  refine BW_add o (by rw [hs0]; show t ≤ 8; omega) hno hnx hdn hBc han hth hD1 hP1 (fun r' h => ?_)
  have h1 : H1[q]? = some (vp_cell cA a0) := h
  unfold pce
  rw [hs0, if_neg (by show ¬ t = 0; omega)]
  show H1[q]? = some (vp_cell (ca t) (N, pac (nh o ++ hs) r' σ o t))
  rw [hz, h1, ha0, hcc]
/-- 'anewarray' -/
theorem b_newr {C : String} {n : Int32} {t N index : Nat} (o : Nat) (ht : t = 4 ∨ t = 5 ∨ t = 6) (htl : ∀ ca : Nat → ClassId, (tl ca)[t - 1]? = some (ca t, .object C)) (hover : ∀ (ca : Nat → ClassId) (U : State), Nx ca U → va_AO C U) (hcl : Cond.classLink own index C ∈ TB)
    (hX : Dok X nL cc ret rm own) (hNo : Nok X) (hd : decode cc pc = .ok (.anewarray index, 3)) (hs0 : sh o = (t, N)) (hno : o ∉ ids) (hnx : o ∉ xs) (hz : t = 4 → ∀ j, j < N → gi σ o j < 0) (hn : ¬ n < 0) (hN : n.toNatClampNeg = N) (hbytes : N * 4 ≤ 536870912) (hcells : cells + 1 ≤ rm.cells) (hslots : slots + N ≤ rm.slots)
    (k : ∀ q, Bw X nL Z (cells + 1) (slots + N) (pc + 3) L (.ref q :: S) (BW X xs ((o, q) :: an) (ids ++ [o]) (nh o ++ hs) σ)) : Bw X nL Z cells slots pc L (.int n :: S) (BW X xs an ids hs σ) := by
  obtain ⟨p, l, e, R, s, m, args, below, meth, c, ca, ρ, D, A⟩ := X
  obtain ⟨hx, hb, hown, hts, hK, hml, hlocks, hr, hR, hSx, hA⟩ := hX
  intro H locs ls hB hS hl
  obtain ⟨hBc, r, han, hth, hD, hP⟩ := hB
  refine va_newq hx hb hown (hts _ hcl) (hover ca s hNo) hK hP hD hS hA hn hN hbytes (by rw [hR]; exact hcells) (by rw [hR]; exact hslots) hd (fun q cA H1 hK1 hP1 hD1 hS1 => k q H1 locs ls ?_ hS1 hl)
  have h9 : (tl ca ++ [(cA, .object C)])[8]? = some (cA, .object C) := rfl
  obtain ⟨-, -, -, -, -, hc1⟩ := (hK1.2 8 _ h9).2
  obtain ⟨-, -, -, -, -, hc2⟩ := (hK.2 (t - 1) _ (htl ca)).2
  have hcc : cA = ca t := Option.some.inj (hc1.symm.trans hc2)
  have hdn : ∀ k, isd o k = true → dc (gi σ o k) = none := fun k hk => by
    have h0 : ¬ t = 0 := by omega
    simp only [isd, hs0, Bool.or_eq_true, Bool.and_eq_true, decide_eq_true_eq, beq_iff_eq] at hk
    rcases hk with ⟨⟨⟨h1, -⟩, -⟩, -⟩ | ⟨h1, h2⟩
    · exact absurd h1 h0
    · exact if_pos (hz h1 k h2)
  refine BW_add o (by rw [hs0]; show t ≤ 8; omega) hno hnx hdn hBc han hth hD1 hP1 (fun r' h => ?_)
  have h1 : H1[q]? = some (vp_cell cA (N, .inr (.inr (.inr (.inr fun _ => none))))) := h
  unfold pce
  rw [hs0, if_neg (by show ¬ t = 0; omega)]
  show H1[q]? = some (vp_cell (ca t) (N, pac (nh o ++ hs) r' σ o t))
  rw [h1, hcc]
  congr 1
  unfold pac
  by_cases h4 : t = 4
  · subst h4
    rw [if_neg (by omega)]
    unfold ac
    rw [if_neg (by omega), if_neg (by omega), if_pos rfl, vp_cell_q, vp_cell_q]
    exact mx_same fun j hj => by rw [dc, if_pos (hz rfl j hj)]; rfl
  · rw [if_pos (by omega), vp_cell_q, vp_cell_q]
    exact mx_same fun j hj => by rw [if_pos (List.mem_append_left _ ((nh_mem (o := o) (p := (o, j))).mpr ⟨rfl, (isr_arr hs0 (by omega)).mpr hj⟩))]
/-- a hole is filled -/
def fil (hs : List (Nat × Nat)) (o k : Nat) : List (Nat × Nat) := hs.filter (fun p => !(p == (o, k)))
theorem mem_fil {hs : List (Nat × Nat)} {o k : Nat} {p : Nat × Nat} : p ∈ fil hs o k ↔ p ∈ hs ∧ p ≠ (o, k) := by
  simp [fil, List.mem_filter]
theorem pce_hs {hs hs' : List (Nat × Nat)} {ca : Nat → ClassId} {r : Nat → Nat} {σ : St} {o : Nat} (h : ∀ k, (o, k) ∈ hs' ↔ (o, k) ∈ hs) : pce hs' ca r σ o = pce hs ca r σ o := by
  have e1 : ∀ c, pfl hs' r σ o c = pfl hs r σ o c := fun c => List.map_congr_left fun k _ => by
    unfold pfv
    simp only [h]
  have e2 : ∀ t, pac hs' r σ o t = pac hs r σ o t := fun t => by
    unfold pac
    simp only [h]
  unfold pce
  rw [e1, e2]
theorem pce_other {hs : List (Nat × Nat)} {ca : Nat → ClassId} {r : Nat → Nat} {σ σ' : St} {q : Nat} (h1 : gi σ' q = gi σ q) (h2 : gl σ' q = gl σ q) : pce hs ca r σ' q = pce hs ca r σ q := by
  have e0 : ∀ c k, fv r σ' q c k = fv r σ q c k := fun c k => by rw [fv, fv, h1]
  have e1 : ∀ c, pfl hs r σ' q c = pfl hs r σ q c := fun c => List.map_congr_left fun k _ => by
    unfold pfv
    rw [e0]
  have e2 : ∀ t, pac hs r σ' q t = pac hs r σ q t := fun t => by
    unfold pac ac
    rw [h1, h2]
  unfold pce
  rw [e1, e2]
theorem Bc.link {o k : Nat} (h : Bc xs ids hs σ) (hin : rf o k ∈ ids ∨ rf o k ∈ xs) : Bc xs ids (fil hs o k) σ := by
  obtain ⟨b1, b2, b3, b4, b5⟩ := h
  refine ⟨b1, b2, fun a ha j hj => ?_, fun p hp => b4 p (mem_fil.mp hp).1, b5⟩
  rcases b3 a ha j hj with z | z
  · by_cases e : (a, j) = (o, k)
    · cases e; exact Or.inr hin
    · exact Or.inl (mem_fil.mpr ⟨z, e⟩)
  · exact Or.inr z
theorem Bc.si {o k : Nat} {v : Int32} (h : Bc xs ids hs σ) (hk : isd o k = false ∨ ∀ a, dc v = some a → a ∈ ids ∨ a ∈ xs) : Bc xs ids hs (si σ o k v) := by
  obtain ⟨b1, b2, b3, b4, b5⟩ := h
  refine ⟨b1, b2, b3, b4, fun a ha j hj w hw => ?_⟩
  rw [gi_si] at hw
  by_cases e : a = o ∧ j = k
  · rw [if_pos e] at hw
    rcases hk with hk | hk
    · rw [e.1, e.2, hk] at hj; cases hj
    · exact hk w hw
  · rw [if_neg e] at hw
    exact b5 a ha j hj w hw
theorem pw_set {ca : Nat → ClassId} {r : Nat → Nat} {o i : Nat} {x : va_E} {hs' : List (Nat × Nat)} {σ' : St} (hn : ids.Nodup) (hi : ids[i]? = some o) (he : x = pce hs' ca r σ' o) (hne : ∀ q, q ≠ o → pce hs' ca r σ' q = pce hs ca r σ q) : (pw ids hs ca r σ).set i (r o, x) = pw ids hs' ca r σ' := by
  unfold pw
  exact map_set hn hi (by rw [he]) (fun q hq => by rw [hne q hq])
theorem pce_obj {ca : Nat → ClassId} {r : Nat → Nat} {o c : Nat} (h : sh o = (0, c)) : pce hs ca r σ o = .inr (c, pfl hs r σ o c) := by
  unfold pce
  rw [h, if_pos rfl]
theorem pce_arr {ca : Nat → ClassId} {r : Nat → Nat} {o t n : Nat} (h : sh o = (t + 1, n)) : pce hs ca r σ o = .inl (ca (t + 1), n, pac hs r σ o (t + 1)) := by
  unfold pce
  rw [h, if_neg (by show ¬ t + 1 = 0; omega)]
theorem pfl_get {r : Nat → Nat} {o c k : Nat} (h : k < fn c) : (pfl hs r σ o c)[k]? = some (pfv hs r σ o c k) := by simp [pfl, h]
theorem pfl_set {r : Nat → Nat} {o c k : Nat} {v : Value} {hs' : List (Nat × Nat)} {σ' : St} (h : k < fn c) (h1 : pfv hs' r σ' o c k = v) (h2 : ∀ j, j < fn c → j ≠ k → pfv hs' r σ' o c j = pfv hs r σ o c j) : (pfl hs r σ o c).set k v = pfl hs' r σ' o c := by
  apply List.ext_getElem?
  intro j
  rw [List.getElem?_set]
  by_cases hj : k = j
  · subst hj
    rw [if_pos rfl, if_pos (by simp [pfl, h]), pfl_get h, h1]
  · rw [if_neg hj]
    by_cases hc : j < fn c
    · rw [pfl_get hc, pfl_get hc, h2 j hc (Ne.symm hj)]
    · simp [pfl, hc]
theorem link_cell {r : Nat → Nat} {o c k q : Nat} (h : k < fn c) (hf : fk c k = 1) (hq : r (rf o k) = q) : (pfl hs r σ o c).set k (.ref q) = pfl (fil hs o k) r σ o c := by
  refine pfl_set h ?_ (fun j hj hne => ?_)
  · unfold pfv
    rw [if_neg (fun z => (mem_fil.mp z).2 rfl)]
    unfold fv
    rw [hf, if_neg (by decide), if_pos rfl, hq]
  · unfold pfv
    have e : ((o, j) ∈ fil hs o k) ↔ (o, j) ∈ hs := ⟨fun z => (mem_fil.mp z).1, fun z => mem_fil.mpr ⟨z, fun e => hne (by cases e; rfl)⟩⟩
    simp only [e]
theorem fil_other {o k q : Nat} (hq : q ≠ o) (ca : Nat → ClassId) (r : Nat → Nat) : pce (fil hs o k) ca r σ q = pce hs ca r σ q :=
  pce_hs fun j => ⟨fun z => (mem_fil.mp z).1, fun z => mem_fil.mpr ⟨z, fun e => hq (by cases e; rfl)⟩⟩
def Iok (X : CT) : Prop := match X with
  | (p, l, e, R, s, m, args, below, meth, c, ca, ρ, D, A) => meth.name = "<init>"
/-- 'putfield' of a reference that stays: a final field in the constructor, or a plain one -/
theorem b_link {C ref : String} {T : u_T} {N index : Nat} {ty : Nat → FieldType} {o a q : Nat} (k0 i1 i2 : Nat) (hC : ClsOk ci C T N ty) (hk : k0 < N) (hl : Cond.fieldLink own index ref (T k0).2.1 (T k0).2.2.1 ∈ TB) (hre : (T k0).1 = ref) (hfin : (T k0).2.2.2 = false ∨ ((T k0).2.2.2 = true ∧ ref = own ∧ Iok X)) (hX : Dok X nL cc ret rm own) (hd : decode cc pc = .ok (.putfield index, 3))
    (hs0 : sh o = (0, ci)) (hf : fk ci k0 = 1) (h1 : an[i1]? = some (o, a)) (h2 : an[i2]? = some (rf o k0, q)) (hoi : o ∈ ids) (hn : ∀ q, narrow (ty k0) (.ref q) = .ref q) (hfit : ∀ q, fits (ty k0) (.ref q) = true)
    (k : Bw X nL Z cells slots (pc + 3) L S (BW X xs an ids (fil hs o k0) σ)) : Bw X nL Z cells slots pc L (.ref q :: .ref a :: S) (BW X xs an ids hs σ) := by
  obtain ⟨p, l, e, R, s, m, args, below, meth, c, ca, ρ, D, A⟩ := X
  obtain ⟨hx, hb, hown, hts, hK, hml, hlocks, hr, hR, hSx, hA⟩ := hX
  obtain ⟨hc, hfn, hin, hty, hnm⟩ := hC
  intro H locs ls hB hS hl'
  obtain ⟨hBc, r, han, hth, hD, hP⟩ := hB
  obtain ⟨ea, -⟩ := han _ (List.mem_of_getElem? h1)
  obtain ⟨eq, hqi⟩ := han _ (List.mem_of_getElem? h2)
  have ea : r o = a := ea
  have eq : r (rf o k0) = q := eq
  subst ea
  obtain ⟨i, hi0, hi⟩ := pw_in hs ca r σ hoi
  rw [pce_obj hs0] at hi
  have hk2 : k0 < fn ci := by rw [hfn]; exact hk
  have fin : ∀ (H1 : Heap) (locs1 : List Loc), va_P D vwCl ((pw ids hs ca r σ).set i (r o, .inr (ci, (pfl hs r σ o ci).set k0 (.ref q)))) H1 → va_D A ((pw ids hs ca r σ).set i (r o, .inr (ci, (pfl hs r σ o ci).set k0 (.ref q)))) → va_S A s.heap H1 locs1 → W p l e R s m args below meth c H1 locs1 cells slots Z (F0 m (pc + 3) ls S) := fun H1 locs1 hP1 hD1 hS1 => by
    have e1 : (pw ids hs ca r σ).set i (r o, .inr (ci, (pfl hs r σ o ci).set k0 (.ref q))) = pw ids (fil hs o k0) ca r σ :=
      pw_set hBc.1 hi0 (by rw [pce_obj hs0, link_cell hk2 hf eq]) (fun z hz => fil_other hz ca r)
    rw [e1] at hP1 hD1
    exact k H1 locs1 ls ⟨hBc.link hqi, r, han, hth, hD1, hP1⟩ hS1 hl'
  rcases hfin with hfin | ⟨hfin, hro, hI⟩
  · exact va_put (Ts := TB) (D := D) hx hb hts hin ty hty hnm hown hK hP hD hS i hi hc k0 hk (hts _ hl) (by subst hre; exact fun _ h => h) hfin (hty k0 hk) (hn q) (hfit q) (by simp [pfl, hk2]) hd fin
  · exact va_putF (Ts := TB) (D := D) hx hb hts hin ty hty hnm hown hK hP hD hS i hi hc k0 hk (hts _ hl) (by subst hre; exact fun _ h => h) hfin hI (by rw [hre, hro]) (hty k0 hk) (hn q) (hfit q) (by simp [pfl, hk2]) hd fin
/-- 'putfield' of an int -/
theorem b_iput {C ref : String} {T : u_T} {N index : Nat} {ty : Nat → FieldType} {o a : Nat} {x : Int32} (k0 i1 : Nat) (hC : ClsOk ci C T N ty) (hk : k0 < N) (hl : Cond.fieldLink own index ref (T k0).2.1 (T k0).2.2.1 ∈ TB) (hre : (T k0).1 = ref) (hfin : (T k0).2.2.2 = false ∨ ((T k0).2.2.2 = true ∧ ref = own ∧ Iok X)) (hX : Dok X nL cc ret rm own) (hd : decode cc pc = .ok (.putfield index, 3))
    (hs0 : sh o = (0, ci)) (hf : fk ci k0 = 0) (h1 : an[i1]? = some (o, a)) (hoi : o ∈ ids) (hn : narrow (ty k0) (.int x) = .int x) (hfit : fits (ty k0) (.int x) = true)
    (k : Bw X nL Z cells slots (pc + 3) L S (BW X xs an ids hs (si σ o k0 x))) : Bw X nL Z cells slots pc L (.int x :: .ref a :: S) (BW X xs an ids hs σ) := by
  obtain ⟨p, l, e, R, s, m, args, below, meth, c, ca, ρ, D, A⟩ := X
  obtain ⟨hx, hb, hown, hts, hK, hml, hlocks, hr, hR, hSx, hA⟩ := hX
  obtain ⟨hc, hfn, hin, hty, hnm⟩ := hC
  intro H locs ls hB hS hl'
  obtain ⟨hBc, r, han, hth, hD, hP⟩ := hB
  obtain ⟨ea, -⟩ := han _ (List.mem_of_getElem? h1)
  have ea : r o = a := ea
  subst ea
  obtain ⟨i, hi0, hi⟩ := pw_in hs ca r σ hoi
  rw [pce_obj hs0] at hi
  have hk2 : k0 < fn ci := by rw [hfn]; exact hk
  have hnh : (o, k0) ∉ hs := fun z => by
    have h3 := (isr_obj hs0).mp (hBc.2.2.2.1 _ z).1
    rw [hf] at h3
    cases h3.1
  have hdn : isd o k0 = false := by simp [isd, hs0, hf]
  have fin : ∀ (H1 : Heap) (locs1 : List Loc), va_P D vwCl ((pw ids hs ca r σ).set i (r o, .inr (ci, (pfl hs r σ o ci).set k0 (.int x)))) H1 → va_D A ((pw ids hs ca r σ).set i (r o, .inr (ci, (pfl hs r σ o ci).set k0 (.int x)))) → va_S A s.heap H1 locs1 → W p l e R s m args below meth c H1 locs1 cells slots Z (F0 m (pc + 3) ls S) := fun H1 locs1 hP1 hD1 hS1 => by
    have e1 : (pw ids hs ca r σ).set i (r o, .inr (ci, (pfl hs r σ o ci).set k0 (.int x))) = pw ids hs ca r (si σ o k0 x) := by
      refine pw_set hBc.1 hi0 ?_ (fun z hz => pce_other (gi_si_o σ k0 x hz) (gl_si_o σ o z k0 x))
      rw [pce_obj hs0, pfl_set hk2]
      · unfold pfv fv
        rw [if_neg hnh, if_pos hf, gi_same]
      · intro j hj hne
        unfold pfv fv
        rw [gi_ne_k σ o o x hne]
    rw [e1] at hP1 hD1
    exact k H1 locs1 ls ⟨hBc.si (Or.inl hdn), r, han, hth, hD1, hP1⟩ hS1 hl'
  rcases hfin with hfin | ⟨hfin, hro, hI⟩
  · exact va_put (Ts := TB) (D := D) hx hb hts hin ty hty hnm hown hK hP hD hS i hi hc k0 hk (hts _ hl) (by subst hre; exact fun _ h => h) hfin (hty k0 hk) hn hfit (by simp [pfl, hk2]) hd fin
  · exact va_putF (Ts := TB) (D := D) hx hb hts hin ty hty hnm hown hK hP hD hS i hi hc k0 hk (hts _ hl) (by subst hre; exact fun _ h => h) hfin hI (by rw [hre, hro]) (hty k0 hk) hn hfit (by simp [pfl, hk2]) hd fin
/-- 'getfield' of a reference that stays -/
theorem b_rget {C ref : String} {T : u_T} {N index : Nat} {ty : Nat → FieldType} {o a : Nat} (k0 i1 : Nat) (hC : ClsOk ci C T N ty) (hk : k0 < N) (hl : Cond.fieldLink own index ref (T k0).2.1 (T k0).2.2.1 ∈ TB) (hre : (T k0).1 = ref) (hX : Dok X nL cc ret rm own) (hd : decode cc pc = .ok (.getfield index, 3))
    (hs0 : sh o = (0, ci)) (hf : fk ci k0 = 1) (h1 : an[i1]? = some (o, a)) (hoi : o ∈ ids) (hnh : (o, k0) ∉ hs)
    (k : ∀ q, Bw X nL Z cells slots (pc + 3) L (.ref q :: S) (BW X xs ((rf o k0, q) :: an) ids hs σ)) : Bw X nL Z cells slots pc L (.ref a :: S) (BW X xs an ids hs σ) := by
  obtain ⟨p, l, e, R, s, m, args, below, meth, c, ca, ρ, D, A⟩ := X
  obtain ⟨hx, hb, hown, hts, hK, hml, hlocks, hr, hR, hSx, hA⟩ := hX
  obtain ⟨hc, hfn, hin, hty, hnm⟩ := hC
  intro H locs ls hB hS hl'
  obtain ⟨hBc, r, han, hth, hD, hP⟩ := hB
  obtain ⟨ea, -⟩ := han _ (List.mem_of_getElem? h1)
  have ea : r o = a := ea
  subst ea
  obtain ⟨i, hi0, hi⟩ := pw_in hs ca r σ hoi
  rw [pce_obj hs0] at hi
  have hk2 : k0 < fn ci := by rw [hfn]; exact hk
  have hin2 : rf o k0 ∈ ids ∨ rf o k0 ∈ xs := (hBc.2.2.1 o hoi k0 ((isr_obj hs0).mpr ⟨hf, hk2⟩)).resolve_left hnh
  have hg := k (r (rf o k0)) H locs ls ⟨hBc, r, fun q hq => by
    rcases List.mem_cons.mp hq with rfl | hq
    · exact ⟨rfl, hin2⟩
    · exact han q hq, hth, hD, hP⟩ hS hl'
  exact va_get (Ts := TB) (D := D) hx hb hts hin hown hK hP i hi hc k0 hk (hts _ hl) (by subst hre; exact fun _ h => h) (by rw [pfl_get hk2]; unfold pfv fv; rw [if_neg hnh, hf, if_neg (by decide), if_pos rfl]) hd hg
/-- 'getfield' of an int -/
theorem b_iget {C ref : String} {T : u_T} {N index : Nat} {ty : Nat → FieldType} {o a : Nat} (k0 i1 : Nat) (hC : ClsOk ci C T N ty) (hk : k0 < N) (hl : Cond.fieldLink own index ref (T k0).2.1 (T k0).2.2.1 ∈ TB) (hre : (T k0).1 = ref) (hX : Dok X nL cc ret rm own) (hd : decode cc pc = .ok (.getfield index, 3))
    (hs0 : sh o = (0, ci)) (hf : fk ci k0 = 0) (h1 : an[i1]? = some (o, a)) (hoi : o ∈ ids)
    (k : Bw X nL Z cells slots (pc + 3) L (.int (gi σ o k0) :: S) (BW X xs an ids hs σ)) : Bw X nL Z cells slots pc L (.ref a :: S) (BW X xs an ids hs σ) := by
  obtain ⟨p, l, e, R, s, m, args, below, meth, c, ca, ρ, D, A⟩ := X
  obtain ⟨hx, hb, hown, hts, hK, hml, hlocks, hr, hR, hSx, hA⟩ := hX
  obtain ⟨hc, hfn, hin, hty, hnm⟩ := hC
  intro H locs ls hB hS hl'
  have hg := k H locs ls hB hS hl'
  obtain ⟨hBc, r, han, hth, hD, hP⟩ := hB
  obtain ⟨ea, -⟩ := han _ (List.mem_of_getElem? h1)
  have ea : r o = a := ea
  subst ea
  obtain ⟨i, hi0, hi⟩ := pw_in hs ca r σ hoi
  rw [pce_obj hs0] at hi
  have hk2 : k0 < fn ci := by rw [hfn]; exact hk
  have hnh : (o, k0) ∉ hs := fun z => by
    have h3 := (isr_obj hs0).mp (hBc.2.2.2.1 _ z).1
    rw [hf] at h3
    cases h3.1
  exact va_get (Ts := TB) (D := D) hx hb hts hin hown hK hP i hi hc k0 hk (hts _ hl) (by subst hre; exact fun _ h => h) (by rw [pfl_get hk2]; unfold pfv fv; rw [if_neg hnh, if_pos hf]) hd hg
/-- 'aaload' out of an array that holds for good -/
theorem b_aald {o a t n : Nat} {j : Int32} (i1 : Nat) (ht : 4 ≤ t ∧ t ≤ 7) (hX : Dok X nL cc ret rm own) (hd : decode cc pc = .ok (.aaload, 1)) (hs0 : sh o = (t + 1, n)) (h1 : an[i1]? = some (o, a)) (hoi : o ∈ ids) (hin : vp_in j n) (hnh : (o, j.toNatClampNeg) ∉ hs)
    (k : ∀ q, Bw X nL Z cells slots (pc + 1) L (.ref q :: S) (BW X xs ((rf o j.toNatClampNeg, q) :: an) ids hs σ)) : Bw X nL Z cells slots pc L (.int j :: .ref a :: S) (BW X xs an ids hs σ) := by
  obtain ⟨p, l, e, R, s, m, args, below, meth, c, ca, ρ, D, A⟩ := X
  obtain ⟨hx, hb, hown, hts, hK, hml, hlocks, hr, hR, hSx, hA⟩ := hX
  intro H locs ls hB hS hl'
  obtain ⟨hBc, r, han, hth, hD, hP⟩ := hB
  obtain ⟨ea, -⟩ := han _ (List.mem_of_getElem? h1)
  have ea : r o = a := ea
  subst ea
  obtain ⟨i, hi0, hi⟩ := pw_in hs ca r σ hoi
  rw [pce_arr hs0] at hi
  have hin2 : rf o j.toNatClampNeg ∈ ids ∨ rf o j.toNatClampNeg ∈ xs := (hBc.2.2.1 o hoi _ ((isr_arr hs0 (by omega)).mpr (vp_lt hin))).resolve_left hnh
  have hg := k (r (rf o j.toNatClampNeg)) H locs ls ⟨hBc, r, fun q hq => by
    rcases List.mem_cons.mp hq with rfl | hq
    · exact ⟨rfl, hin2⟩
    · exact han q hq, hth, hD, hP⟩ hS hl'
  have hpa : pac hs r σ o (t + 1) = .inr (.inr (.inr (.inr fun j => if (o, j) ∈ hs then none else some (r (rf o j))))) := by
    unfold pac
    rw [if_pos (by omega)]
  rw [hpa] at hi
  have hlt := vp_lt hin
  have hty : ∃ ty : FieldType, (tl ca)[t]? = some (ca (t + 1), ty) ∧ ty.isReference = true := by
    rcases (show t = 4 ∨ t = 5 ∨ t = 6 ∨ t = 7 by omega) with rfl | rfl | rfl | rfl <;> exact ⟨_, rfl, rfl⟩
  obtain ⟨ty, hty, href⟩ := hty
  exact W.aald (v := .ref (r (rf o j.toNatClampNeg))) (ty := ty) hx hb (hP i _ hi) ((hK.2 t _ hty).1 n _) href (fun q => by cases q) (by show ¬ (j < 0 ∨ (arrV _ _ _).slots.size ≤ _); rw [arrV_size]; exact hin) (by show (arrV _ _ _).slots[_]? = _; rw [arrV_read _ _ hlt]; simp [hnh, va_rf]) rfl rfl hd hg
/-- 'iastore' -/
theorem b_iast {o a n : Nat} {j x : Int32} (i1 : Nat) (hX : Dok X nL cc ret rm own) (hd : decode cc pc = .ok (.iastore, 1)) (hs0 : sh o = (1, n)) (h1 : an[i1]? = some (o, a)) (hoi : o ∈ ids) (hin : vp_in j n)
    (k : Bw X nL Z cells slots (pc + 1) L S (BW X xs an ids hs (si σ o j.toNatClampNeg x))) : Bw X nL Z cells slots pc L (.int x :: .int j :: .ref a :: S) (BW X xs an ids hs σ) := by
  obtain ⟨p, l, e, R, s, m, args, below, meth, c, ca, ρ, D, A⟩ := X
  obtain ⟨hx, hb, hown, hts, hK, hml, hlocks, hr, hR, hSx, hA⟩ := hX
  intro H locs ls hB hS hl'
  obtain ⟨hBc, r, han, hth, hD, hP⟩ := hB
  obtain ⟨ea, -⟩ := han _ (List.mem_of_getElem? h1)
  have ea : r o = a := ea
  subst ea
  obtain ⟨i, hi0, hi⟩ := pw_in hs ca r σ hoi
  rw [pce_arr (t := 0) hs0] at hi
  have hpa : ∀ σ : St, pac hs r σ o (0 + 1) = .inl (gi σ o) := fun σ => rfl
  rw [hpa] at hi
  have hdn : isd o j.toNatClampNeg = false := by simp [isd, hs0]
  refine va_iast hx hb hK hP hD hS i 0 hi rfl hin hd (fun H1 locs1 hP1 hD1 hS1 => ?_)
  have e1 : (pw ids hs ca r σ).set i (r o, .inl (ca (0 + 1), n, .inl (upd (gi σ o) j.toNatClampNeg x))) = pw ids hs ca r (si σ o j.toNatClampNeg x) := by
    refine pw_set hBc.1 hi0 ?_ (fun z hz => pce_other (gi_si_o σ _ x hz) (gl_si_o σ o z _ x))
    rw [pce_arr (t := 0) hs0, hpa, gi_si_row]
  rw [e1] at hP1 hD1
  exact k H1 locs1 ls ⟨hBc.si (Or.inl hdn), r, han, hth, hD1, hP1⟩ hS1 hl'
end BB
