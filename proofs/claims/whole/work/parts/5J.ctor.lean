/-! A CONSTRUCTOR'S CONTRACT: the object o, fresh, gets what it holds, new cells ns -/
theorem Sx.cong {A : Nat → Prop} {ρ r : Nat → Nat} {U : State} {H : Heap} (h : Sx A ρ U H) (hr : ∀ z, 1000 ≤ z → r z = ρ z) : Sx A r U H := by
  have e1 : (fun i => r (1010 + i)) = fun i => ρ (1010 + i) := funext fun i => hr _ (by omega)
  have e2 : (fun i => r (1030 + i)) = fun i => ρ (1030 + i) := funext fun i => hr _ (by omega)
  unfold Sx at h ⊢
  rw [hr 1001 (by omega), hr 1002 (by omega), hr 1003 (by omega), hr 1050 (by omega), e1, e2]
  obtain ⟨a, b, c, d, e, f, g, i⟩ := h
  exact ⟨a, b, c, d, e, f, fun i hi => by rw [hr _ (by omega)]; exact g i hi, i⟩
def rmB (d mc ms : Nat) : Room := { frames := d, cells := mc, slots := ms, locals := 64 * d }
def Xr (X : CT) : Nat → Nat := match X with
  | (p, l, e, R, s, m, args, below, meth, c, ca, ρ, D, A) => ρ
def qcB (xs ids' : List Nat) (ca : Nat → ClassId) (ρ : Nat → Nat) (D : va_G) (A : Nat → Prop) (o : Nat) (σ' : St) : Array Value → State → Outcome → State → Prop := fun _ st oc t =>
  (oc = .returned none ∧ ∃ r' : Nat → Nat, (∀ z, z ∈ o :: xs → r' z = ρ z) ∧ va_D A (pw ids' [] ca r' σ') ∧ va_P D vwCl (pw ids' [] ca r' σ') t.heap) ∧ va_F A st t
def preB (o : Nat) (ca : Nat → ClassId) (ρ : Nat → Nat) (D : va_G) (sz : Nat) (σ : St) : State → Prop := fun U =>
  U.heap.size = sz ∧ va_P D vwCl (pw [o] (nh o) ca ρ σ) U.heap ∧ va_K D vwCl (tl ca) U ∧ Sx (Af [o] ρ sz) ρ U U.heap ∧ Nx ca U
def BE (d mc ms : Nat) (y : MY) (av : List Value) (xs : List Nat) (o : Nat) (ns : List Nat) (σ σ' : St) : Prop :=
  Bc xs (o :: ns) [] σ' ∧ ∀ (l : Launch) (ca : Nat → ClassId) (ρ : Nat → Nat) (D : va_G) (sz : Nat), Met l y.1 (wsE y) (rmB d mc ms) (va_Pc (cS ρ av) (preB o ca ρ D sz σ)) (qcB xs (o :: ns) ca ρ D (Af [o] ρ sz) o σ') mc ms (Af [o] ρ sz)
def ZB (X : CT) (mc ms : Nat) (xs ids' : List Nat) (o : Nat) (σ' : St) : State → Prop := match X with
  | (p, l, e, R, s, m, args, below, meth, c, ca, ρ, D, A) => MQ below (qcB xs ids' ca ρ D A o σ') args s mc ms A
theorem BE_mk {d mc ms : Nat} {y : MY} {av : List Value} {xs : List Nat} {o : Nat} {ns : List Nat} {σ σ' : St} (hp : plainName y.1.cls = true) (hy1 : y.1.name = "<init>") (hlen : (lg_sl av).length ≤ y.2.2.1) (hB0 : Bc xs [o] (nh o) σ) (hB1 : Bc xs (o :: ns) [] σ')
    (body : ∀ X : CT, Dok X y.2.2.1 y.2.1 y.2.2.2 (rmB d mc ms) y.1.cls → Nok X → Iok X → Bw X y.2.2.1 (ZB X mc ms xs (o :: ns) o σ') 0 0 0 (cL (Xr X) (lv_args 0 av)) [] (BW X xs ((o :: xs).map fun z => (z, Xr X z)) [o] (nh o) σ)) : BE d mc ms y av xs o ns σ σ' := by
  refine ⟨hB1, fun l ca ρ D sz => ?_⟩
  refine Met.ofW (cc := y.2.1) (maxL := y.2.2.1) (ret := y.2.2.2) hp rfl ?_
  intro p e s m args below meth c s₁ B hml hv
  obtain ⟨rfl, hsz, hP, hK, hSx, hNx⟩ := hv
  subst hsz
  have hts := atoms_spec (ws := wsE y) B.pre
  have h := body (p, l, e, rmB d mc ms, s, m, (cS ρ av).toArray, below, meth, c, ca, ρ, D, Af [o] ρ s.heap.size) ⟨B.exec, B.bytes, findClass_of_methodNamed B.named, fun w hw => hts w (List.mem_cons_of_mem _ hw), hK, hml, B.notSynchronized, B.returns, rfl, hSx, fun q hq => Or.inr hq⟩ hNx ((name_of_methodNamed B.named B.method).1.trans hy1)
  have hlen' : (lg_sl (cS ρ av)).length ≤ y.2.2.1 := by
    rw [lg_len]; exact hlen
  have hl := lv_entry (cS ρ av) hlen'
  rw [lg_entry_eq]
  rw [cL_args] at hl
  have hD : va_D (Af [o] ρ s.heap.size) (pw [o] (nh o) ca ρ σ) := vaD_fst (w := wl [o] ca ρ σ) (by simp [pw, wl]) (wl_D ca ρ σ (by simp) (fun a b ha hb _ => by rw [List.mem_singleton.mp ha, List.mem_singleton.mp hb]) (fun z hz => Or.inl ⟨z, hz, rfl⟩))
  exact h s.heap [] _ ⟨hB0, ρ, fun q hq => by
    obtain ⟨z, hz, rfl⟩ := List.mem_map.mp hq
    refine ⟨rfl, ?_⟩
    rcases List.mem_cons.mp hz with rfl | hz
    · exact Or.inl (by simp)
    · exact Or.inr hz, fun _ _ => rfl, hD, hP⟩ va_S.rf hl
theorem b_vretB {X : CT} {nL : Nat} {cells slots pc : Nat} {L : List (Nat × Value)} {cc : ByteArray} {rm : Room} {own : String} {xs : List Nat} {an : List (Nat × Nat)} {ids' : List Nat} {hs : List (Nat × Nat)} {σ σ' : St} {o mc ms : Nat} (hX : Dok X nL cc none rm own) (hd : decode cc pc = .ok (.return_, 1)) (hh : hs = []) (hs2 : σ = σ') (hc : cells = mc) (hm : slots = ms) (han : ∀ z, z ∈ o :: xs → (z, Xr X z) ∈ an) :
    Bw X nL (ZB X mc ms xs ids' o σ') cells slots pc L [] (BW X xs an ids' hs σ) := by
  obtain ⟨p, l, e, R, s, m, args, below, meth, c, ca, ρ, D, A⟩ := X
  obtain ⟨hx, hb, hown, hts, hK, hml, hlocks, hr, hR, hSx, hA⟩ := hX
  subst hh; subst hs2; subst hc; subst hm
  intro H locs ls hB hS hl'
  obtain ⟨hBc, r, han', hth, hD, hP⟩ := hB
  exact W.vret hx hb hr (fun t ht hW => ⟨⟨rfl, r, fun z hz => (han' _ (han z hz)).1, hD, by rw [ht]; exact hP⟩, hS.F ht⟩) hS.2.2 hd hlocks
theorem D_of {ids : List Nat} {hs : List (Nat × Nat)} {ca : Nat → ClassId} {r : Nat → Nat} {σ : St} {A : Nat → Prop} (hn : ids.Nodup) (h : va_D A (pw ids hs ca r σ)) : inj ids r ∧ ∀ a, a ∈ ids → A (r a) := by
  refine ⟨fun a b ha hb e => ?_, fun a ha => ?_⟩
  · obtain ⟨i, i1, i2⟩ := pw_in hs ca r σ ha
    obtain ⟨j, j1, j2⟩ := pw_in hs ca r σ hb
    have := h.1 i j _ _ i2 j2 e
    subst this
    rw [i1] at j1
    exact Option.some.inj j1
  · obtain ⟨i, i1, i2⟩ := pw_in hs ca r σ ha
    exact h.2 i _ i2
theorem to_D {ids : List Nat} (hs : List (Nat × Nat)) (ca : Nat → ClassId) {r : Nat → Nat} (σ : St) {A : Nat → Prop} (hn : ids.Nodup) (hi : inj ids r) (hA : ∀ a, a ∈ ids → A (r a)) : va_D A (pw ids hs ca r σ) :=
  vaD_fst (w := wl ids ca r σ) (by rw [pw_fst, ← pw_nil, pw_fst]) (wl_D ca r σ hn hi hA)
