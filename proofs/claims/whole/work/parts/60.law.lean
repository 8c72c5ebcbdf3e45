/-! THE LAW'S WORLD: the cells of both sides, apart; rows over it -/
def LWd (X : CT) (ids1 ids2 : List Nat) (o1 a1 o2 a2 : Nat) (σ τ : St) (H : Heap) : Prop := match X with
  | (p, l, e, R, s, m, args, below, meth, c, ca, ρ, D, A) => ∃ r1 r2 : Nat → Nat, (r1 o1 = a1 ∧ r2 o2 = a2) ∧ (∀ z, 1000 ≤ z → r1 z = ρ z ∧ r2 z = ρ z) ∧ (inj ids1 r1 ∧ inj ids2 r2) ∧ (∀ a b, a ∈ ids1 → b ∈ ids2 → r1 a ≠ r2 b) ∧ ((∀ a, a ∈ ids1 → A (r1 a)) ∧ ∀ b, b ∈ ids2 → A (r2 b)) ∧ va_P D vwCl (wl ids1 ca r1 σ) H ∧ va_P D vwCl (wl ids2 ca r2 τ) H
theorem LWd.symm {X : CT} {ids1 ids2 : List Nat} {o1 a1 o2 a2 : Nat} {σ τ : St} {H : Heap} (h : LWd X ids1 ids2 o1 a1 o2 a2 σ τ H) : LWd X ids2 ids1 o2 a2 o1 a1 τ σ H := by
  obtain ⟨p, l, e, R, s, m, args, below, meth, c, ca, ρ, D, A⟩ := X
  obtain ⟨r1, r2, ⟨e1, e2⟩, hth, ⟨i1, i2⟩, hne, ⟨h1, h2⟩, hP1, hP2⟩ := h
  exact ⟨r2, r1, ⟨e2, e1⟩, fun z hz => ⟨(hth z hz).2, (hth z hz).1⟩, ⟨i2, i1⟩, fun a b ha hb e => hne b a hb ha e.symm, ⟨h2, h1⟩, hP2, hP1⟩
theorem wl_kept {D : va_G} {H H1 : Heap} {ids2 : List Nat} {ca : Nat → ClassId} {r2 : Nat → Nat} {τ : St} {B : Nat → Prop} (hP2 : va_P D vwCl (wl ids2 ca r2 τ) H) (hk : ∀ q : Nat, q < H.size → ¬ B q → H1[q]? = H[q]?) (hB : ∀ b, b ∈ ids2 → r2 b < H.size → ¬ B (r2 b)) : va_P D vwCl (wl ids2 ca r2 τ) H1 := fun k y hy => by
  have h0 := hP2 k y hy
  rw [← pw_nil] at hy
  obtain ⟨z, hz, rfl⟩ := pw_get hy
  exact h0.kept (hk _ h0.lt (hB z (List.mem_of_getElem? hz) h0.lt))
section LR
variable {X : CT} {nL : Nat} {Z : State → Prop} {cells slots pc : Nat} {L : List (Nat × Value)} {S st As : List Value} {Wd Wd' : Heap → Prop} {cc : ByteArray} {ret : Option FieldType} {rm : Room} {own : String} {ids1 ids2 : List Nat} {o1 a1 o2 a2 : Nat} {σ τ : St} {ci : Nat} {y : MY} {index n d : Nat} {C : String} {T : u_T} {N : Nat}
theorem Bw.mono (hW : ∀ H, Wd H → Wd' H) (k : Bw X nL Z cells slots pc L S Wd') : Bw X nL Z cells slots pc L S Wd := by
  obtain ⟨p, l, e, R, s, m, args, below, meth, c, ca, ρ, D, A⟩ := X
  intro H locs ls hB hS hl
  exact k H locs ls (hW H hB) hS hl
/-- a method that makes nothing is called, of the first side -/
theorem l_call {F : Option Value → St → Prop} (hy : YOk y n) (hc : vwCl[ci]? = some (C, T, N)) (hC : y.1.cls = C) (hin : Cond.instanceMethod y.1 ∈ TB) (hse : Cond.selects C y.1 y.1 ∈ TB) (hl : Cond.methodLink own index y.1 ∈ TB) (hX : Dok X nL cc ret rm own) (hd : decode cc pc = .ok (.invokevirtual index, 3)) (ho : o1 ∈ ids1) (hs0 : sh o1 = (0, ci)) (hnd : ids1.Nodup) (hn : As.length = n) (hAs : ∀ r, cS r As = As) (hst : st = As.reverse ++ .ref a1 :: S) (hW : (S.map fun v => v.category).sum ≤ 8)
    (hdep : d + 1 ≤ rm.frames) (hloc : 8 + (y.2.2.1 + 11) + 64 * d ≤ rm.locals) (hcells : cells ≤ rm.cells) (hslots : slots ≤ rm.slots) (hE : E d ids1 y (.ref o1 :: As) σ F)
    (kk : ∀ r σ' (r1 : Nat → Nat), F r σ' → Bw X nL Z cells slots (pc + 3) L ((r.map (cv r1)).toList ++ S) (LWd X ids1 ids2 o1 a1 o2 a2 σ' τ)) : Bw X nL Z cells slots pc L st (LWd X ids1 ids2 o1 a1 o2 a2 σ τ) := by
  obtain ⟨p, l, e, R, s, m, args, below, meth, c, ca, ρ, D, A⟩ := X
  obtain ⟨hx, hb, hown, hts, hK, hml, hlocks, hr, hR, hSx, hA⟩ := hX
  subst hst
  intro H locs ls hB hS hl'
  obtain ⟨r1, r2, ⟨e1, e2⟩, hth, ⟨i1, i2⟩, hne, ⟨hA1, hA2⟩, hP1, hP2⟩ := hB
  subst e1
  obtain ⟨i, -, hi⟩ := wl_obj ca r1 σ ho hs0
  have hrec := va_recv hK hP1 (ci := ci) (q0 := i) hc hi
  have hcw : CallW R s args own C index y.1 y.2.1 y.2.2.1 y.2.2.2 (wsE y) (rmE d) 0 0 n := by
    refine ⟨callB_of (ws' := TB) n hts hy.good rfl rfl rfl (hts _ hy.2.1) (hts _ hl) hy.2.2.1 ?_, hts _ hin, hts _ hse⟩
    rw [hR]
    exact ⟨hdep, hloc⟩
  refine b_backE (F := F) (va_runV (As := cS r1 As) (rest := S) (Ts := TB) (C := C) ⟨hx, hb, hml, hown, hts⟩ (hE l ca r1 D H.size hnd i1) hcw ⟨pre_blind, hrec, fun U hU hW' => ⟨rfl, by rw [hU], by rw [hU]; exact hP1, va_K.moved hW'.alike hK, Sx_pass (hSx.cong (fun z hz => (hth z hz).1)) hS hW' hU hA hA1⟩⟩ rfl (by rw [cS, List.length_map]; exact hn) hl'.1 (by rw [hAs r1]) (lv_room hW) hd ⟨by rw [hR]; exact hcells, by rw [hR]; exact hslots⟩) hS hA hA1 (fun r' σ' H1 locs1 hF hP1' hsz hk hS1 => ?_)
  refine kk r' σ' r1 hF H1 locs1 ls ⟨r1, r2, ⟨rfl, e2⟩, hth, ⟨i1, i2⟩, hne, ⟨hA1, hA2⟩, hP1', wl_kept hP2 hk (fun b hb' hlt q => ?_)⟩ hS1 hl'
  rcases q with ⟨a, ha, e⟩ | q
  · exact hne a b ha hb' e.symm
  · exact absurd hlt (Nat.not_lt.mpr q)
/-- and of the second -/
theorem l_call2 {F : Option Value → St → Prop} (hy : YOk y n) (hc : vwCl[ci]? = some (C, T, N)) (hC : y.1.cls = C) (hin : Cond.instanceMethod y.1 ∈ TB) (hse : Cond.selects C y.1 y.1 ∈ TB) (hl : Cond.methodLink own index y.1 ∈ TB) (hX : Dok X nL cc ret rm own) (hd : decode cc pc = .ok (.invokevirtual index, 3)) (ho : o2 ∈ ids2) (hs0 : sh o2 = (0, ci)) (hnd : ids2.Nodup) (hn : As.length = n) (hAs : ∀ r, cS r As = As) (hst : st = As.reverse ++ .ref a2 :: S) (hW : (S.map fun v => v.category).sum ≤ 8)
    (hdep : d + 1 ≤ rm.frames) (hloc : 8 + (y.2.2.1 + 11) + 64 * d ≤ rm.locals) (hcells : cells ≤ rm.cells) (hslots : slots ≤ rm.slots) (hE : E d ids2 y (.ref o2 :: As) τ F)
    (kk : ∀ r τ' (r1 : Nat → Nat), F r τ' → Bw X nL Z cells slots (pc + 3) L ((r.map (cv r1)).toList ++ S) (LWd X ids1 ids2 o1 a1 o2 a2 σ τ')) : Bw X nL Z cells slots pc L st (LWd X ids1 ids2 o1 a1 o2 a2 σ τ) :=
  Bw.mono (fun H h => h.symm) (l_call hy hc hC hin hse hl hX hd ho hs0 hnd hn hAs hst hW hdep hloc hcells hslots hE (fun r τ' r1 hF => Bw.mono (fun H h => h.symm) (kk r τ' r1 hF)))
/-- behind newCase -/
theorem preN_blind {nc : Nat} {ca : Nat → ClassId} {ρ : Nat → Nat} {D : va_G} {sz : Nat} {av : List Value} : FrameBlind (va_Pc av (preN nc ca ρ D sz σ)) := fun a U g mk h =>
  ⟨h.1, ⟨h.2.1.1, h.2.1.2.1, va_K.moved (u := U) (U := U.calling g mk a) (Vm.Alike.refl U.vm) h.2.1.2.2.1, h.2.1.2.2.2.same (u := U) (U := U.calling g mk a) rfl⟩, h.2.2.same (u := U) (U := U.calling g mk a) rfl⟩
theorem b_backN {p : Program} {l : Launch} {e : Env} {R : Room} {s : State} {m : MethodId} {args a : Array Value} {below : List Frame} {meth : Method} {c : Code} {H : Heap} {locs : List Loc} {ca : Nat → ClassId} {ρ : Nat → Nat} {D : va_G} {A B : Nat → Prop} {F : Int32 → Nat → St → Prop} {ls : Array Slot} {rest st0 : List Value} {Q : State → Prop}
    (hr : va_Run p l e R s m args below meth c H locs cells slots 5 20 (F0 m pc ls st0) rest (qcN ca ρ D B F a) B) (hS : va_S A s.heap H locs) (hBA : ∀ q, B q → A q)
    (kk : ∀ (x : Int32) (n' : Nat) (σ' : St) (r' : Nat → Nat) (H1 : Heap) (locs1 : List Loc), F x n' σ' → n' < 5 → r' 100 = ρ 100 → (∀ z, 1000 ≤ z → r' z = ρ z) → va_D B (wl (idsC n') ca r' σ') → va_P D vwCl (wl (idsC n') ca r' σ') H1 → (∀ q : Nat, q < H.size → ¬ B q → H1[q]? = H[q]?) → va_S A s.heap H1 locs1 → W p l e R s m args below meth c H1 locs1 (cells + 5) (slots + 20) Q (F0 m (pc + 3) ls (.int x :: rest))) : W p l e R s m args below meth c H locs cells slots Q (F0 m pc ls st0) := by
  intro T hT X
  obtain ⟨v, st₀, t, T', L, h0, X', hL, e1, e2, ⟨⟨x, n', σ', r', hv, hF, hn, h1, h2, h3, h4⟩, hz, hk⟩, st⟩ := hr T hT X
  cases hv
  rw [h0] at hz hk
  obtain ⟨t2, a1, b1⟩ := kk x n' σ' r' T'.heap (locs ++ L) hF hn h1 h2 h3 (by rw [e1]; exact h4) (fun q a b => by rw [e1]; exact hk q a b)
    ⟨Nat.le_trans hS.1 (by rw [e1]; exact hz), fun q h1 h2 => by rw [e1, hk q (Nat.lt_of_lt_of_le h1 hS.1) (fun z => h2 (hBA q z))]; exact hS.2.1 q h1 h2, fun q hq => by
      rcases List.mem_append.mp hq with h | h
      · exact hS.2.2 q h
      · exact hBA _ (hL q h)⟩ T' rfl X'
  exact ⟨t2, st t2 a1, b1⟩
theorem l_new {nc : Nat} {a0 : Int32} {F : Int32 → Nat → St → Prop} (hl : Cond.methodLink own index yX6_newCase ∈ TB) (hX : Dok X nL cc ret rm own) (hNo : Nok X) (hd : decode cc pc = .ok (.invokevirtual index, 3)) (hn : nc < 5) (hst : st = .int a0 :: .ref a1 :: S) (hW : (S.map fun v => v.category).sum ≤ 8)
    (hdep : d + 1 ≤ rm.frames) (hloc : 8 + (2 + 11) + 64 * d ≤ rm.locals) (hcells : cells + 5 ≤ rm.cells) (hslots : slots + 20 ≤ rm.slots) (hE : ENw d nc [.ref 100, .int a0] σ F)
    (kk : ∀ x n' σ', F x n' σ' → Bw X nL Z (cells + 5) (slots + 20) (pc + 3) L (.int x :: S) (LWd X (idsC n') idsR 100 a1 0 a2 σ' τ)) : Bw X nL Z cells slots pc L st (LWd X (idsC nc) idsR 100 a1 0 a2 σ τ) := by
  obtain ⟨p, l, e, R, s, m, args, below, meth, c, ca, ρ, D, A⟩ := X
  obtain ⟨hx, hb, hown, hts, hK, hml, hlocks, hr, hR, hSx, hA⟩ := hX
  subst hst
  intro H locs ls hB hS hl'
  obtain ⟨r1, r2, ⟨e1, e2⟩, hth, ⟨i1, i2⟩, hne, ⟨hA1, hA2⟩, hP1, hP2⟩ := hB
  subst e1
  obtain ⟨i, -, hi⟩ := wl_obj ca r1 σ (h100 hn).2.1 (h100 hn).2.2
  have hrec := va_recv hK hP1 (ci := 6) (q0 := i) (q := (RX6, TX6, 13)) rfl hi
  have hcw : CallW R s args own RX6 index yX6_newCase cX6_newCase 2 (some .int) (wsE Y_X6_newCase) (rmB d 5 20) 5 20 1 := by
    refine ⟨callB_of (ws' := TB) 1 hts Yok_X6_newCase.good rfl rfl rfl (hts _ tw_71) (hts _ hl) Yok_X6_newCase.2.2.1 ?_, hts _ tw_314, hts _ tw_315⟩
    rw [hR]
    exact ⟨hdep, hloc⟩
  have hBA : ∀ q, Af (idsC nc) r1 H.size q → A q := fun q hq => by
    rcases hq with ⟨o, ho, rfl⟩ | hq
    · exact hA1 o ho
    · exact hA q (Nat.le_trans hS.1 hq)
  have lt2 : ∀ b, b ∈ idsR → r2 b < H.size := fun b hb' => by
    obtain ⟨i, -, hi⟩ := pw_in [] ca r2 τ hb'
    rw [pw_nil] at hi
    exact (hP2 i _ hi).lt
  have nB : ∀ b, b ∈ idsR → r2 b < H.size → ¬ Af (idsC nc) r1 H.size (r2 b) := fun b hb' hlt q => by
    rcases q with ⟨a, ha, e⟩ | q
    · exact hne a b ha hb' e.symm
    · exact absurd hlt (Nat.not_lt.mpr q)
  refine b_backN (va_runV (As := [.int a0]) (rest := S) (Ts := TB) (C := RX6) ⟨hx, hb, hml, hown, hts⟩ (hE l ca r1 D H.size i1) hcw ⟨preN_blind, hrec, fun U hU hW' => ⟨rfl, ⟨by rw [hU], by rw [hU]; exact hP1, va_K.moved hW'.alike hK, Sx_pass (hSx.cong (fun z hz => (hth z hz).1)) hS hW' hU hA hA1⟩, Nx.moved (u := s) hW' hNo⟩⟩ rfl rfl hl'.1 rfl (lv_room hW) hd ⟨by rw [hR]; exact hcells, by rw [hR]; exact hslots⟩) hS hBA (fun x n' σ' r' H1 locs1 hF hn' h1 h2 h3 h4 hk hS1 => ?_)
  rw [← pw_nil] at h3
  obtain ⟨j1, j2⟩ := D_of (idsC_nodup n' hn') h3
  refine kk x n' σ' hF H1 locs1 ls ⟨r', r2, ⟨h1, e2⟩, fun z hz => ⟨(h2 z hz).trans (hth z hz).1, (hth z hz).2⟩, ⟨j1, i2⟩, fun a b ha hb' e => ?_, ⟨fun a ha => hBA _ (j2 a ha), hA2⟩, h4, wl_kept hP2 hk nB⟩ hS1 hl'
  refine nB b hb' (lt2 b hb') ?_
  rw [← e]
  exact j2 a ha
end LR
