/-! A CONSTRUCTOR IS CALLED -/
theorem preB_blind {o : Nat} {ca : Nat → ClassId} {ρ : Nat → Nat} {D : va_G} {sz : Nat} {σ : St} {av : List Value} : FrameBlind (va_Pc av (preB o ca ρ D sz σ)) := fun a U g mk h =>
  ⟨h.1, h.2.1, h.2.2.1, va_K.moved (u := U) (U := U.calling g mk a) (Vm.Alike.refl U.vm) h.2.2.2.1, h.2.2.2.2.1.same (u := U) (U := U.calling g mk a) rfl, h.2.2.2.2.2.same (u := U) (U := U.calling g mk a) rfl⟩
theorem b_backB {p : Program} {l : Launch} {e : Env} {R : Room} {s : State} {m : MethodId} {args a : Array Value} {below : List Frame} {meth : Method} {c : Code} {H : Heap} {locs : List Loc} {ca : Nat → ClassId} {ρ : Nat → Nat} {D : va_G} {A : Nat → Prop} {xs ids' : List Nat} {o mc ms cells slots : Nat} {σ' : St} {ls : Array Slot} {rest st0 : List Value} {Q : State → Prop} {pc : Nat}
    (hr : va_Run p l e R s m args below meth c H locs cells slots mc ms (F0 m pc ls st0) rest (qcB xs ids' ca ρ D (Af [o] ρ H.size) o σ' a) (Af [o] ρ H.size)) (hS : va_S A s.heap H locs) (hA : ∀ q, s.heap.size ≤ q → A q) (hI : A (ρ o))
    (kk : ∀ (r' : Nat → Nat) (H1 : Heap) (locs1 : List Loc), (∀ z, z ∈ o :: xs → r' z = ρ z) → va_D (Af [o] ρ H.size) (pw ids' [] ca r' σ') → va_P D vwCl (pw ids' [] ca r' σ') H1 → (∀ q : Nat, q < H.size → ¬ Af [o] ρ H.size q → H1[q]? = H[q]?) → va_S A s.heap H1 locs1 → W p l e R s m args below meth c H1 locs1 (cells + mc) (slots + ms) Q (F0 m (pc + 3) ls rest)) : W p l e R s m args below meth c H locs cells slots Q (F0 m pc ls st0) := by
  have hF : ∀ q, Af [o] ρ H.size q → A q := fun q hq => by
    rcases hq with ⟨z, hz, rfl⟩ | hq
    · rw [List.mem_singleton.mp hz]; exact hI
    · exact hA q (Nat.le_trans hS.1 hq)
  intro T hT X
  obtain ⟨v, st₀, t, T', L, h0, X', hL, e1, e2, ⟨⟨hv, r', h1, h2, h3⟩, hz, hk⟩, st⟩ := hr T hT X
  cases hv
  rw [h0] at hz hk
  obtain ⟨t2, a1, b1⟩ := kk r' T'.heap (locs ++ L) h1 h2 (by rw [e1]; exact h3) (fun q h1 h2 => by rw [e1]; exact hk q h1 h2)
    ⟨Nat.le_trans hS.1 (by rw [e1]; exact hz), fun q h1 h2 => by rw [e1, hk q (Nat.lt_of_lt_of_le h1 hS.1) (fun z => h2 (hF q z))]; exact hS.2.1 q h1 h2, fun q hq => by
      rcases List.mem_append.mp hq with h | h
      · exact hS.2.2 q h
      · exact hF _ (hL q h)⟩ T' rfl X'
  exact ⟨t2, st t2 a1, b1⟩
/-- what a call of a constructor wants, and what is there behind it -/
theorem b_ctor {X : CT} {nL : Nat} {Z : State → Prop} {cells slots pc : Nat} {L : List (Nat × Value)} {S Vs st : List Value} {cc : ByteArray} {ret : Option FieldType} {rm : Room} {own : String} {xs : List Nat} {an : List (Nat × Nat)} {ids : List Nat} {hs : List (Nat × Nat)} {σ σ' : St} {y : MY} {index n d mc ms o q : Nat} {ns cxs : List Nat} {As : List Value}
    (hE : BE d mc ms y (.ref o :: As) cxs o ns σ σ') (hy : YOk y n) (hy1 : y.1.name = "<init>") (hret : y.2.2.2 = none) (hin : Cond.instanceMethod y.1 ∈ TB) (hl : Cond.methodLink own index y.1 ∈ TB ∨ ∃ host, ∀ (ca : Nat → ClassId) (U : State), Nx ca U → va_Nw (.methodLinkNest own index y.1 host) U)
    (hX : Dok X nL cc ret rm own) (hNo : Nok X) (hd : decode cc pc = .ok (.invokespecial index, 3)) (hn : As.length = n) (hst : st = Vs.reverse ++ .ref q :: S) (hW : (S.map fun v => v.category).sum ≤ 8) (hv : ∀ r : Nat → Nat, (∀ p ∈ an, r p.1 = p.2) → cS r (.ref o :: As) = .ref q :: Vs)
    (hoi : o ∈ ids) (hho : ∀ k, (o, k) ∈ nh o → (o, k) ∈ hs) (hcx : ∀ z, z ∈ cxs → z ∈ ids ∨ z ∈ xs) (hdis : ∀ z, z ∈ ns → z ∉ ids ∧ z ∉ xs) (hσ : ∀ z, z ∈ ids → z ≠ o → gi σ' z = gi σ z ∧ gl σ' z = gl σ z)
    (hdep : d + 1 ≤ rm.frames) (hloc : 8 + (y.2.2.1 + 11) + 64 * d ≤ rm.locals) (hcells : cells + mc ≤ rm.cells) (hslots : slots + ms ≤ rm.slots)
    (k : Bw X nL Z (cells + mc) (slots + ms) (pc + 3) L S (BW X xs an (ids ++ ns) (dro hs o) σ')) : Bw X nL Z cells slots pc L st (BW X xs an ids hs σ) := by
  obtain ⟨p, l, e, R, s, m, args, below, meth, c, ca, ρ, D, A⟩ := X
  obtain ⟨hx, hb, hown, hts, hK, hml, hlocks, hr, hR, hSx, hA⟩ := hX
  obtain ⟨hB', hM⟩ := hE
  subst hst
  intro H locs ls hB hS hl'
  obtain ⟨hBc, r, han, hth, hD, hP⟩ := hB
  have hvr := hv r (fun p hp => (han p hp).1)
  obtain ⟨i1, i2⟩ := D_of hBc.1 hD
  have hpo : va_P D vwCl (pw [o] (nh o) ca r σ) H := fun k z hz => by
    obtain ⟨z', hz', rfl⟩ := pw_get hz
    have hz' := List.mem_singleton.mp (List.mem_of_getElem? hz')
    subst hz'
    obtain ⟨i, -, hi⟩ := pw_in hs ca r σ hoi
    have h0 := hP i _ hi
    rw [pce_hs (hs := hs) (hs' := nh z') (fun k => ⟨hho k, fun h => nh_mem.mpr ⟨rfl, (hBc.2.2.2.1 _ h).1⟩⟩)]
    exact h0
  have hSx' : ∀ U : State, U.heap = H → s.WarmedH U.vm → Sx (Af [o] r H.size) r U U.heap := fun U hU hW' =>
    Sx_pass (hSx.cong hth) hS hW' hU hA (fun z hz => by rw [List.mem_singleton.mp hz]; exact i2 o hoi)
  have hpre : PreS s H (va_Pc (cS r (.ref o :: As)) (preB o ca r D H.size σ)) (.ref q :: Vs) := ⟨preB_blind, fun U hU hW' => ⟨by rw [hvr], by rw [hU], by rw [hU]; exact hpo, va_K.moved hW'.alike hK, hSx' U hU hW', Nx.moved (u := s) hW' hNo⟩⟩
  have hVn : Vs.length = n := by
    have h1 := congrArg List.length hvr
    simp only [cS, List.length_map, List.length_cons] at h1
    omega
  have hroom : (rmB d mc ms).frames + 1 ≤ R.frames ∧ 8 + (y.2.2.1 + 11) + (rmB d mc ms).locals ≤ R.locals := by
    rw [hR]; exact ⟨hdep, hloc⟩
  have fin : ∀ (hrun : va_Run p l e R s m args below meth c H locs cells slots mc ms (F0 m pc ls (Vs.reverse ++ .ref q :: S)) S (qcB cxs (o :: ns) ca r D (Af [o] r H.size) o σ' (Value.ref q :: Vs).toArray) (Af [o] r H.size)), W p l e R s m args below meth c H locs cells slots Z (F0 m pc ls (Vs.reverse ++ .ref q :: S)) := fun hrun =>
    b_backB hrun hS hA (i2 o hoi) (fun r' H1 locs1 h1 h2 h3 h4 hS1 => k H1 locs1 ls (BW_join hBc hB' hoi hcx hdis hσ han hth hD hP h1 h2 h3 (fun q hq => hA q (Nat.le_trans hS.1 hq)) h4) hS1 hl')
  rcases hl with hl | ⟨host, hl⟩
  · refine fin (va_runI (As := Vs) (rest := S) (Ts := TB) ⟨hx, hb, hml, hown, hts⟩ (hM l ca r D H.size) ⟨callB_of (ws' := TB) n hts hy.good (by rw [wsE, hret]) rfl rfl (hts _ hy.2.1) (hts _ hl) hy.2.2.1 hroom, hy1, hts _ hin⟩ hpre rfl hVn hl'.1 rfl (lv_room hW) hd ⟨by rw [hR]; exact hcells, by rw [hR]; exact hslots⟩)
  · refine fin (va_runIN (As := Vs) (rest := S) (Ts := TB) (host := host) ⟨hx, hb, hml, hown, hts⟩ (hM l ca r D H.size) ⟨va_cnB (ws' := TB) n hts hy.good (by rw [wsE, hret]) rfl rfl (hl ca s hNo) (hts _ hy.2.1) hy.2.2.1 hroom, hy1, hts _ hin⟩ hpre rfl hVn hl'.1 rfl (lv_room hW) hd ⟨by rw [hR]; exact hcells, by rw [hR]; exact hslots⟩)
