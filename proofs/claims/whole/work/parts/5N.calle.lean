/-! A METHOD THAT MAKES NOTHING IS CALLED, where cells have been made -/
theorem b_backE {p : Program} {l : Launch} {e : Env} {R : Room} {s : State} {m : MethodId} {args a : Array Value} {below : List Frame} {meth : Method} {c : Code} {H : Heap} {locs : List Loc} {ca : Nat → ClassId} {ρ : Nat → Nat} {D : va_G} {A : Nat → Prop} {ids : List Nat} {cells slots : Nat} {ls : Array Slot} {rest st0 : List Value} {F : Option Value → St → Prop} {Q : State → Prop} {pc : Nat}
    (hr : va_Run p l e R s m args below meth c H locs cells slots 0 0 (F0 m pc ls st0) rest (qcE ids ca ρ D (Af ids ρ H.size) F a) (Af ids ρ H.size)) (hS : va_S A s.heap H locs) (hA : ∀ q, s.heap.size ≤ q → A q) (hI : ∀ o, o ∈ ids → A (ρ o))
    (kk : ∀ (r : Option Value) (σ' : St) (H1 : Heap) (locs1 : List Loc), F r σ' → va_P D vwCl (wl ids ca ρ σ') H1 → H.size ≤ H1.size → (∀ q : Nat, q < H.size → ¬ Af ids ρ H.size q → H1[q]? = H[q]?) → va_S A s.heap H1 locs1 → W p l e R s m args below meth c H1 locs1 cells slots Q (F0 m (pc + 3) ls ((r.map (cv ρ)).toList ++ rest))) : W p l e R s m args below meth c H locs cells slots Q (F0 m pc ls st0) := by
  have hF : ∀ q, Af ids ρ H.size q → A q := fun q hq => by
    rcases hq with ⟨o, ho, rfl⟩ | hq
    · exact hI o ho
    · exact hA q (Nat.le_trans hS.1 hq)
  intro T hT X
  obtain ⟨v, st₀, t, T', L, h0, X', hL, e1, e2, ⟨⟨r, σ', hv, hp, hP, -⟩, hz, hk⟩, st⟩ := hr T hT X
  cases hv
  rw [h0] at hz hk
  obtain ⟨t2, a1, b1⟩ := kk r σ' T'.heap (locs ++ L) hp (by rw [e1]; exact hP) (by rw [e1]; exact hz) (fun q h1 h2 => by rw [e1]; exact hk q h1 h2)
    ⟨Nat.le_trans hS.1 (by rw [e1]; exact hz), fun q h1 h2 => by rw [e1, hk q (Nat.lt_of_lt_of_le h1 hS.1) (fun z => h2 (hF q z))]; exact hS.2.1 q h1 h2, fun q hq => by
      rcases List.mem_append.mp hq with h | h
      · exact hS.2.2 q h
      · exact hF _ (hL q h)⟩ T' rfl X'
  exact ⟨t2, st t2 a1, b1⟩
/-- over the world that is built, when it is whole; without arguments, without an answer -/
theorem b_callE {X : CT} {nL : Nat} {Z : State → Prop} {cells slots pc : Nat} {L : List (Nat × Value)} {S : List Value} {cc : ByteArray} {ret : Option FieldType} {rm : Room} {own : String} {xs : List Nat} {an : List (Nat × Nat)} {ids : List Nat} {hs : List (Nat × Nat)} {σ : St} {ci : Nat} {y : MY} {index d q o : Nat} {C : String} {T : u_T} {N : Nat} {F : St → Prop} (hy : YOk y 0) (hc : vwCl[ci]? = some (C, T, N)) (hC : y.1.cls = C) (hin : Cond.instanceMethod y.1 ∈ TB) (hse : Cond.selects C y.1 y.1 ∈ TB) (hl : Cond.methodLink own index y.1 ∈ TB) (i1 : Nat) (hX : Dok X nL cc ret rm own) (hd : decode cc pc = .ok (.invokevirtual index, 3)) (h1 : an[i1]? = some (o, q)) (hoi : o ∈ ids) (hs0 : sh o = (0, ci)) (hh : hs = []) (hW : (S.map fun v => v.category).sum ≤ 8)
    (hdep : d + 1 ≤ rm.frames) (hloc : 8 + (y.2.2.1 + 11) + 64 * d ≤ rm.locals) (hcells : cells ≤ rm.cells) (hslots : slots ≤ rm.slots) (hBF : ∀ σ', Bc xs ids [] σ → F σ' → Bc xs ids [] σ') (hE : EV d ids y [.ref o] σ F)
    (kk : ∀ σ', F σ' → Bw X nL Z cells slots (pc + 3) L S (BW X xs an ids [] σ')) : Bw X nL Z cells slots pc L (.ref q :: S) (BW X xs an ids hs σ) := by
  obtain ⟨p, l, e, R, s, m, args, below, meth, c, ca, ρ, D, A⟩ := X
  obtain ⟨hx, hb, hown, hts, hK, hml, hlocks, hr, hR, hSx, hA⟩ := hX
  subst hh
  intro H locs ls hB hS hl'
  obtain ⟨hBc, r, han, hth, hD, hP⟩ := hB
  obtain ⟨i1', i2⟩ := D_of hBc.1 hD
  have ea : r o = q := (han _ (List.mem_of_getElem? h1)).1
  subst ea
  rw [pw_nil] at hP hD
  obtain ⟨i, -, hi⟩ := wl_obj ca r σ hoi hs0
  have hrec := va_recv hK hP (ci := ci) (q0 := i) hc hi
  have hcw : CallW R s args own C index y.1 y.2.1 y.2.2.1 y.2.2.2 (wsE y) (rmE d) 0 0 0 := by
    refine ⟨callB_of (ws' := TB) 0 hts hy.good rfl rfl rfl (hts _ hy.2.1) (hts _ hl) hy.2.2.1 ?_, hts _ hin, hts _ hse⟩
    rw [hR]
    exact ⟨hdep, hloc⟩
  refine b_backE (F := fun r σ' => r = none ∧ F σ') (va_runV (As := []) (rest := S) (Ts := TB) (C := C) ⟨hx, hb, hml, hown, hts⟩ (hE l ca r D H.size hBc.1 i1') hcw ⟨pre_blind, hrec, fun U hU hW' => ⟨rfl, by rw [hU], by rw [hU]; exact hP, va_K.moved hW'.alike hK, Sx_pass (hSx.cong hth) hS hW' hU hA i2⟩⟩ rfl rfl hl'.1 rfl (lv_room hW) hd ⟨by rw [hR]; exact hcells, by rw [hR]; exact hslots⟩) hS hA i2 (fun r' σ' H1 locs1 hF hP1 _ _ hS1 => ?_)
  obtain ⟨rfl, hF⟩ := hF
  refine kk σ' hF H1 locs1 ls ⟨hBF σ' hBc hF, r, han, hth, ?_, by rw [pw_nil]; exact hP1⟩ hS1 hl'
  exact to_D [] ca σ' hBc.1 i1' i2
/-- ids are closed: looked up -/
def bcb (xs ids : List Nat) (hs : List (Nat × Nat)) : Bool :=
  decide ids.Nodup && ids.all (fun o => decide ((sh o).1 ≤ 8) && (List.range 60).all fun k => !isr o k || hs.contains (o, k) || ids.contains (rf o k) || xs.contains (rf o k)) && hs.all (fun p => isr p.1 p.2 && ids.contains p.1)
theorem Bc_of {xs ids : List Nat} {hs : List (Nat × Nat)} {σ : St} (h : bcb xs ids hs = true) (hd : ∀ o, o ∈ ids → ∀ k, isd o k = true → ∀ a, dc (gi σ o k) = some a → a ∈ ids ∨ a ∈ xs) : Bc xs ids hs σ := by
  simp only [bcb, Bool.and_eq_true, decide_eq_true_eq, List.all_eq_true] at h
  obtain ⟨⟨h1, h2⟩, h3⟩ := h
  refine ⟨h1, fun o ho => (h2 o ho).1, fun o ho k hk => ?_, fun p hp => ⟨(h3 p hp).1, by simpa using (h3 p hp).2⟩, hd⟩
  have := (h2 o ho).2 k (List.mem_range.mpr (isr_lt hk))
  simp only [hk, Bool.or_eq_true, Bool.not_true, Bool.false_eq_true, false_or, List.contains_iff_mem] at this
  rcases this with (h | h) | h
  · exact Or.inl h
  · exact Or.inr (Or.inl h)
  · exact Or.inr (Or.inr h)
theorem Bc_neg {xs ids : List Nat} {hs : List (Nat × Nat)} {σ : St} (h : bcb xs ids hs = true) (hd : ∀ o, o ∈ ids → ∀ k, isd o k = true → gi σ o k < 0) : Bc xs ids hs σ :=
  Bc_of h fun o ho k hk a ha => by
    rw [dc, if_pos (hd o ho k hk)] at ha
    cases ha
