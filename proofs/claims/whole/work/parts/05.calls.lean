/-! statics, returns, calls, a method's start -/
section WR3
variable {X : CT} {ids : List Nat} {nL : Nat} {Qp : Option Value → St → Prop} {pc : Nat} {L L' : List (Nat × Value)} {S : List Value} {σ : St} {cc : ByteArray} {ret : Option FieldType} {dep : Nat} {own : String}
theorem q_ret {v : Int32} (hX : Cok X ids nL cc (some .int) dep own) (hd : decode cc pc = .ok (.ireturn, 1)) (k : Qp (some (.int v)) σ) : Wg X ids nL Qp pc L [.int v] σ := by
  obtain ⟨p, l, e, R, s, m, args, below, meth, c, ca, ρ, D, A⟩ := X
  obtain ⟨hx, hb, hown, hts, hK, hD, hnd, hml, hlocks, hr, -⟩ := hX
  intro H locs ls hP hS hl'
  exact W.iret hx hb hr (fun t ht hW => ⟨⟨some (.int v), σ, rfl, k, by rw [ht]; exact hP, va_K.moved hW.alike hK⟩, hS.F ht⟩) hS.2.2 hd hlocks
theorem q_zret {v : Int32} (hX : Cok X ids nL cc (some .boolean) dep own) (hd : decode cc pc = .ok (.ireturn, 1)) (hv : v = 0 ∨ v = 1) (k : Qp (some (.int v)) σ) : Wg X ids nL Qp pc L [.int v] σ := by
  obtain ⟨p, l, e, R, s, m, args, below, meth, c, ca, ρ, D, A⟩ := X
  obtain ⟨hx, hb, hown, hts, hK, hD, hnd, hml, hlocks, hr, -⟩ := hX
  intro H locs ls hP hS hl'
  exact W.zret hx hb hr (by rcases hv with rfl | rfl <;> rfl) (fun t ht hW => ⟨⟨some (.int v), σ, rfl, k, by rw [ht]; exact hP, va_K.moved hW.alike hK⟩, hS.F ht⟩) hS.2.2 hd hlocks
theorem q_lret {v : Int64} (hX : Cok X ids nL cc (some .long) dep own) (hd : decode cc pc = .ok (.lreturn, 1)) (k : Qp (some (.long v)) σ) : Wg X ids nL Qp pc L [.long v] σ := by
  obtain ⟨p, l, e, R, s, m, args, below, meth, c, ca, ρ, D, A⟩ := X
  obtain ⟨hx, hb, hown, hts, hK, hD, hnd, hml, hlocks, hr, -⟩ := hX
  intro H locs ls hP hS hl'
  exact W.lret hx hb hr (fun t ht hW => ⟨⟨some (.long v), σ, rfl, k, by rw [ht]; exact hP, va_K.moved hW.alike hK⟩, hS.F ht⟩) hS.2.2 hd hlocks
theorem q_vret (hX : Cok X ids nL cc none dep own) (hd : decode cc pc = .ok (.return_, 1)) (k : Qp none σ) : Wg X ids nL Qp pc L [] σ := by
  obtain ⟨p, l, e, R, s, m, args, below, meth, c, ca, ρ, D, A⟩ := X
  obtain ⟨hx, hb, hown, hts, hK, hD, hnd, hml, hlocks, hr, -⟩ := hX
  intro H locs ls hP hS hl'
  exact W.vret hx hb hr (fun t ht hW => ⟨⟨none, σ, rfl, k, by rw [ht]; exact hP, va_K.moved hW.alike hK⟩, hS.F ht⟩) hS.2.2 hd hlocks
theorem q_aret {C : String} {o : Nat} (hX : Cok X ids nL cc (some (.object C)) dep own) (hd : decode cc pc = .ok (.areturn, 1)) (k : Qp (some (.ref o)) σ) : Wg X ids nL Qp pc L [.ref o] σ := by
  obtain ⟨p, l, e, R, s, m, args, below, meth, c, ca, ρ, D, A⟩ := X
  obtain ⟨hx, hb, hown, hts, hK, hD, hnd, hml, hlocks, hr, -⟩ := hX
  intro H locs ls hP hS hl'
  exact W.aret (v := .ref (ρ o)) hx hb hr (Or.inl ⟨_, rfl⟩) (Or.inr ⟨_, rfl⟩) (fun t ht hW => ⟨⟨some (.ref o), σ, rfl, k, by rw [ht]; exact hP, va_K.moved hW.alike hK⟩, hS.F ht⟩) hS.2.2 hd hlocks
theorem q_aretN {C : String} (hX : Cok X ids nL cc (some (.object C)) dep own) (hd : decode cc pc = .ok (.areturn, 1)) (k : Qp (some .null) σ) : Wg X ids nL Qp pc L [.null] σ := by
  obtain ⟨p, l, e, R, s, m, args, below, meth, c, ca, ρ, D, A⟩ := X
  obtain ⟨hx, hb, hown, hts, hK, hD, hnd, hml, hlocks, hr, -⟩ := hX
  intro H locs ls hP hS hl'
  exact W.aret (v := .null) hx hb hr (Or.inl ⟨_, rfl⟩) (Or.inl rfl) (fun t ht hW => ⟨⟨some .null, σ, rfl, k, by rw [ht]; exact hP, va_K.moved hW.alike hK⟩, hS.F ht⟩) hS.2.2 hd hlocks
theorem q_gets {ref n d : String} {index : Nat} (a : Nat) (hX : Cok X ids nL cc ret dep own) (hd : decode cc pc = .ok (.getstatic index, 3)) (hl : Cond.fieldLink own index ref n d ∈ TB) (hZ : ∀ (A : Nat → Prop) (ρ : Nat → Nat) (U : State) (H : Heap), Sx A ρ U H → va_Z ref n d (.ref (ρ a)) A U H) (k : Wg X ids nL Qp (pc + 3) L (.ref a :: S) σ) : Wg X ids nL Qp pc L S σ := by
  obtain ⟨p, l, e, R, s, m, args, below, meth, c, ca, ρ, D, A⟩ := X
  obtain ⟨hx, hb, hown, hts, hK, hD, hnd, hml, hlocks, hr, hR, hSx, -⟩ := hX
  intro H locs ls hP hS hl'
  exact va_gets hx hb (hZ A ρ s s.heap hSx) hS hown (hts _ hl) (fun _ h => h) hd (k H locs ls hP hS hl')
theorem q_getsN {ref n d host : String} {index : Nat} (a : Nat) (hX : Cok X ids nL cc ret dep own) (hd : decode cc pc = .ok (.getstatic index, 3)) (hl : ∀ (A : Nat → Prop) (ρ : Nat → Nat) (U : State) (H : Heap), Sx A ρ U H → va_Nw (.fieldLinkNest own index ref n d host) U) (hZ : ∀ (A : Nat → Prop) (ρ : Nat → Nat) (U : State) (H : Heap), Sx A ρ U H → va_Z ref n d (.ref (ρ a)) A U H) (k : Wg X ids nL Qp (pc + 3) L (.ref a :: S) σ) : Wg X ids nL Qp pc L S σ := by
  obtain ⟨p, l, e, R, s, m, args, below, meth, c, ca, ρ, D, A⟩ := X
  obtain ⟨hx, hb, hown, hts, hK, hD, hnd, hml, hlocks, hr, hR, hSx, -⟩ := hX
  intro H locs ls hP hS hl'
  exact va_getsN hx hb (hZ A ρ s s.heap hSx) hS hown (va_Nw.use rfl (hl A ρ s s.heap hSx)) (fun _ h => h) hd (k H locs ls hP hS hl')
theorem q_tald {i : Int32} {a n : Nat} {f : Nat → Int32} (hX : Cok X ids nL cc ret dep own) (hd : decode cc pc = .ok (.iaload, 1)) (hT : ∀ (A : Nat → Prop) (ρ : Nat → Nat) (U : State) (H : Heap), Sx A ρ U H → va_T .int (ρ a) n (fun j => .int (f j)) A U H) (hin : vp_in i n) (k : Wg X ids nL Qp (pc + 1) L (.int (f i.toNatClampNeg) :: S) σ) : Wg X ids nL Qp pc L (.int i :: .ref a :: S) σ := by
  obtain ⟨p, l, e, R, s, m, args, below, meth, c, ca, ρ, D, A⟩ := X
  obtain ⟨hx, hb, hown, hts, hK, hD, hnd, hml, hlocks, hr, hR, hSx, -⟩ := hX
  intro H locs ls hP hS hl'
  exact va_ti hx hb (hT A ρ s s.heap hSx) hS hin rfl hd (k H locs ls hP hS hl')
theorem q_tlen {a n : Nat} {f : Nat → Int32} {v : Int32} (hX : Cok X ids nL cc ret dep own) (hd : decode cc pc = .ok (.arraylength, 1)) (hT : ∀ (A : Nat → Prop) (ρ : Nat → Nat) (U : State) (H : Heap), Sx A ρ U H → va_T .int (ρ a) n (fun j => .int (f j)) A U H) (hv : Int32.ofNat n = v) (k : Wg X ids nL Qp (pc + 1) L (.int v :: S) σ) : Wg X ids nL Qp pc L (.ref a :: S) σ := by
  obtain ⟨p, l, e, R, s, m, args, below, meth, c, ca, ρ, D, A⟩ := X
  obtain ⟨hx, hb, hown, hts, hK, hD, hnd, hml, hlocks, hr, hR, hSx, -⟩ := hX
  intro H locs ls hP hS hl'
  exact va_tlen hx hb (hT A ρ s s.heap hSx) hS hv hd (k H locs ls hP hS hl')
theorem q_ldc {v : Int32} {index : Nat} (hX : Cok X ids nL cc ret dep own) (hd : decode cc pc = .ok (.ldc index, 2)) (hl : Cond.constant own index v ∈ TB) (k : Wg X ids nL Qp (pc + 2) L (.int v :: S) σ) : Wg X ids nL Qp pc L S σ := by
  obtain ⟨p, l, e, R, s, m, args, below, meth, c, ca, ρ, D, A⟩ := X
  obtain ⟨hx, hb, hown, hts, -⟩ := hX
  intro H locs ls hP hS hl'
  exact lv_ldc hx hb hown (hts _ hl) hd (k H locs ls hP hS hl')
theorem q_ldc2 {v : Int64} {index : Nat} (hX : Cok X ids nL cc ret dep own) (hd : decode cc pc = .ok (.ldc2_w index, 3)) (hl : Cond.constantLong own index v ∈ TB) (k : Wg X ids nL Qp (pc + 3) L (.long v :: S) σ) : Wg X ids nL Qp pc L S σ := by
  obtain ⟨p, l, e, R, s, m, args, below, meth, c, ca, ρ, D, A⟩ := X
  obtain ⟨hx, hb, hown, hts, -⟩ := hX
  intro H locs ls hP hS hl'
  exact lv_ldc2 hx hb hown (hts _ hl) hd (k H locs ls hP hS hl')
/-- what a callee's contract wants of the caller's world -/
theorem Sx_pass {A : Nat → Prop} {ρ : Nat → Nat} {s U : State} {H : Heap} {locs : List Loc} {ids : List Nat} (hSx : Sx A ρ s s.heap) (hS : va_S A s.heap H locs) (hvm : s.WarmedH U.vm) (hH : U.heap = H) (hA : ∀ q, s.heap.size ≤ q → A q) (hI : ∀ o, o ∈ ids → A (ρ o)) : Sx (Af ids ρ H.size) ρ U U.heap := by
  rw [hH]
  refine ((hSx.kept hS.2.1).moved hvm).narrow (fun q hq => ?_)
  rcases hq with ⟨o, ho, rfl⟩ | hq
  · exact hI o ho
  · exact hA q (Nat.le_trans hS.1 hq)
theorem pre_blind {ids : List Nat} {ca : Nat → ClassId} {ρ : Nat → Nat} {D : va_G} {sz : Nat} {σ : St} {av : List Value} : FrameBlind (va_Pc av (preE ids ca ρ D sz σ)) := fun a U g mk h =>
  ⟨h.1, h.2.1, h.2.2.1, va_K.moved (u := U) (U := U.calling g mk a) (Vm.Alike.refl U.vm) h.2.2.2.1, h.2.2.2.2.same (u := U) (U := U.calling g mk a) rfl⟩
/-- behind a call -/
theorem q_back {p : Program} {l : Launch} {e : Env} {R : Room} {s : State} {m : MethodId} {args a : Array Value} {below : List Frame} {meth : Method} {c : Code} {H : Heap} {locs : List Loc} {ca : Nat → ClassId} {ρ : Nat → Nat} {D : va_G} {A : Nat → Prop} {ids : List Nat} {ls : Array Slot} {rest st0 : List Value} {F : Option Value → St → Prop} {Q : State → Prop} {pc : Nat}
    (hr : va_Run p l e R s m args below meth c H locs 0 0 0 0 (F0 m pc ls st0) rest (qcE ids ca ρ D (Af ids ρ H.size) F a) (Af ids ρ H.size)) (hS : va_S A s.heap H locs) (hA : ∀ q, s.heap.size ≤ q → A q) (hI : ∀ o, o ∈ ids → A (ρ o))
    (kk : ∀ (r : Option Value) (σ' : St) (H1 : Heap) (locs1 : List Loc), F r σ' → va_P D vwCl (wl ids ca ρ σ') H1 → va_S A s.heap H1 locs1 → W p l e R s m args below meth c H1 locs1 0 0 Q (F0 m (pc + 3) ls ((r.map (cv ρ)).toList ++ rest))) : W p l e R s m args below meth c H locs 0 0 Q (F0 m pc ls st0) := by
  have hF : ∀ q, Af ids ρ H.size q → A q := fun q hq => by
    rcases hq with ⟨o, ho, rfl⟩ | hq
    · exact hI o ho
    · exact hA q (Nat.le_trans hS.1 hq)
  intro T hT X
  obtain ⟨v, st₀, t, T', L, h0, X', hL, e1, e2, ⟨⟨r, σ', hv, hp, hP, -⟩, hz, hk⟩, st⟩ := hr T hT X
  cases hv
  rw [h0] at hz hk
  obtain ⟨t2, a1, b1⟩ := kk r σ' T'.heap (locs ++ L) hp (by rw [e1]; exact hP)
    ⟨Nat.le_trans hS.1 (by rw [e1]; exact hz), fun q h1 h2 => by rw [e1, hk q (Nat.lt_of_lt_of_le h1 hS.1) (fun z => h2 (hF q z))]; exact hS.2.1 q h1 h2, fun q hq => by
      rcases List.mem_append.mp hq with h | h
      · exact hS.2.2 q h
      · exact hF _ (hL q h)⟩ T' rfl X'
  exact ⟨t2, st t2 a1, b1⟩
/-- a method that may be called: plain, its code among the words -/
def YOk (y : MY) (n : Nat) : Prop := Cond.code y.1 y.2.1 y.2.2.1 y.2.2.2 ∈ TB ∧ Cond.initialized y.1.cls ∈ TB ∧ (y.1.cls ≠ "java/lang/invoke/MethodHandle" ∧ y.1.cls ≠ "java/lang/invoke/VarHandle" ∧ (parseMethodDescriptor y.1.desc).map (fun d => d.parameters.length) = some n) ∧ y.2.2.1 ≤ 45
theorem YOk.good {y : MY} {n : Nat} (h : YOk y n) : GoodIn TB (wsE y) := fun w hw => by
  rcases List.mem_cons.mp hw with rfl | hw
  · exact ⟨h.1, TB_good _ h.1⟩
  · exact ⟨hw, TB_good _ hw⟩
theorem q_callV {y : MY} {index n d ci : Nat} {C : String} {T : u_T} {N : Nat} {As : List Value} {st : List Value} {o : Nat} {F : Option Value → St → Prop} (hy : YOk y n) (hc : vwCl[ci]? = some (C, T, N)) (hC : y.1.cls = C) (hin : Cond.instanceMethod y.1 ∈ TB) (hse : Cond.selects C y.1 y.1 ∈ TB) (hl : Cond.methodLink own index y.1 ∈ TB) (hX : Cok X ids nL cc ret dep own) (hdep : d + 1 ≤ dep) (hd : decode cc pc = .ok (.invokevirtual index, 3)) (ho : IO ids o ci) (hn : As.length = n) (hst : st = As.reverse ++ .ref o :: S) (hW : (S.map fun v => v.category).sum ≤ 8)
    (hE : E d ids y (.ref o :: As) σ F) (kk : ∀ r σ', F r σ' → Wg X ids nL Qp (pc + 3) L (r.toList ++ S) σ') : Wg X ids nL Qp pc L st σ := by
  obtain ⟨p, l, e, R, s, m, args, below, meth, c, ca, ρ, D, A⟩ := X
  obtain ⟨hx, hb, hown, hts, hK, hD, hnd, hml, hlocks, hr, hR, hSx, hinj, hA, hI⟩ := hX
  intro H locs ls hP hS hl'
  subst hst
  obtain ⟨i, -, hi⟩ := wl_obj ca ρ σ ho.2.1 ho.2.2
  have hrec := va_recv hK hP (ci := ci) (q0 := i) hc hi
  have hcw : CallW R s args own C index y.1 y.2.1 y.2.2.1 y.2.2.2 (wsE y) (rmE d) 0 0 n := by
    refine ⟨callB_of (ws' := TB) n hts hy.good rfl rfl rfl (hts _ hy.2.1) (hts _ hl) hy.2.2.1 ?_, hts _ hin, hts _ hse⟩
    rw [hR]
    have h45 := hy.2.2.2
    simp only [rmE]
    omega
  refine q_back (va_runV (As := cS ρ As) (rest := cS ρ S) (Ts := TB) (C := C) ⟨hx, hb, hml, hown, hts⟩ (hE l ca ρ D H.size hnd hinj) hcw ⟨pre_blind, hrec, fun U hU hW => ⟨rfl, by rw [hU], by rw [hU]; exact hP, va_K.moved hW.alike hK, Sx_pass hSx hS hW hU hA hI⟩⟩ rfl (by rw [cS, List.length_map]; exact hn) hl'.1 (by simp [cS, cv, F0]) (lv_room (by rw [cS_cat]; exact hW)) hd ⟨Nat.zero_le _, Nat.zero_le _⟩) hS hA hI (fun r σ' H1 locs1 hF hP1 hS1 => ?_)
  have h := kk r σ' hF H1 locs1 ls hP1 hS1 hl'
  cases r <;> exact h
theorem q_callS {y : MY} {index n d : Nat} {As : List Value} {st : List Value} {F : Option Value → St → Prop} (hy : YOk y n) (hin : Cond.static y.1 ∈ TB) (hl : Cond.methodLink own index y.1 ∈ TB) (hX : Cok X ids nL cc ret dep own) (hdep : d + 1 ≤ dep) (hd : decode cc pc = .ok (.invokestatic index, 3)) (hn : As.length = n) (hst : st = As.reverse ++ S) (hW : (S.map fun v => v.category).sum ≤ 8)
    (hE : E d ids y As σ F) (kk : ∀ r σ', F r σ' → Wg X ids nL Qp (pc + 3) L (r.toList ++ S) σ') : Wg X ids nL Qp pc L st σ := by
  obtain ⟨p, l, e, R, s, m, args, below, meth, c, ca, ρ, D, A⟩ := X
  obtain ⟨hx, hb, hown, hts, hK, hD, hnd, hml, hlocks, hr, hR, hSx, hinj, hA, hI⟩ := hX
  intro H locs ls hP hS hl'
  subst hst
  have hcw : CallB R s args own index y.1 y.2.1 y.2.2.1 y.2.2.2 (wsE y) (rmE d) 0 0 n ∧ (Cond.static y.1).before args s = true := by
    refine ⟨callB_of (ws' := TB) n hts hy.good rfl rfl rfl (hts _ hy.2.1) (hts _ hl) hy.2.2.1 ?_, hts _ hin⟩
    rw [hR]
    have h45 := hy.2.2.2
    simp only [rmE]
    omega
  refine q_back (va_runS (As := cS ρ As) (rest := cS ρ S) (Ts := TB) ⟨hx, hb, hml, hown, hts⟩ (hE l ca ρ D H.size hnd hinj) hcw ⟨pre_blind, fun U hU hW => ⟨rfl, by rw [hU], by rw [hU]; exact hP, va_K.moved hW.alike hK, Sx_pass hSx hS hW hU hA hI⟩⟩ rfl (by rw [cS, List.length_map]; exact hn) hl'.1 (by simp [cS, F0]) (lv_room (by rw [cS_cat]; exact hW)) hd ⟨Nat.zero_le _, Nat.zero_le _⟩) hS hA hI (fun r σ' H1 locs1 hF hP1 hS1 => ?_)
  have h := kk r σ' hF H1 locs1 ls hP1 hS1 hl'
  cases r <;> exact h
end WR3
theorem lg_len (ρ : Nat → Nat) : ∀ av : List Value, (lg_sl (cS ρ av)).length = (lg_sl av).length
  | [] => rfl
  | v :: av => by
    show (List.append (if (cv ρ v).category = 2 then [.val (cv ρ v), .second] else [.val (cv ρ v)]) (lg_sl (cS ρ av))).length = (List.append (if v.category = 2 then [.val v, .second] else [.val v]) (lg_sl av)).length
    rw [cv_cat]
    simp only [List.append_eq, List.length_append, lg_len ρ av]
    split <;> simp
/-- A METHOD'S START: its contract out of the walk from pc 0 -/
theorem E_mk {d : Nat} {ids : List Nat} {y : MY} {av : List Value} {σ : St} {Qp : Option Value → St → Prop} (hp : plainName y.1.cls = true) (hlen : (lg_sl av).length ≤ y.2.2.1)
    (body : ∀ X : CT, Cok X ids y.2.2.1 y.2.1 y.2.2.2 d y.1.cls → Wg X ids y.2.2.1 Qp 0 (lv_args 0 av) [] σ) : E d ids y av σ Qp := by
  intro l ca ρ D sz hnd hinj
  refine Met.ofW (cc := y.2.1) (maxL := y.2.2.1) (ret := y.2.2.2) hp rfl ?_
  intro p e s m args below meth c s₁ B hml hv
  obtain ⟨rfl, hsz, hP, hK, hSx⟩ := hv
  subst hsz
  have hts := atoms_spec (ws := wsE y) B.pre
  have hI : ∀ o, o ∈ ids → Af ids ρ s.heap.size (ρ o) := fun o ho => Or.inl ⟨o, ho, rfl⟩
  have h := body (p, l, e, rmE d, s, m, (cS ρ av).toArray, below, meth, c, ca, ρ, D, Af ids ρ s.heap.size) ⟨B.exec, B.bytes, findClass_of_methodNamed B.named, fun w hw => hts w (List.mem_cons_of_mem _ hw), hK, fun σ => wl_D ca ρ σ hnd hinj hI, hnd, hml, B.notSynchronized, B.returns, rfl, hSx, hinj, fun q hq => Or.inr hq, hI⟩
  have hlen' : (lg_sl (cS ρ av)).length ≤ y.2.2.1 := by
    rw [lg_len]; exact hlen
  have hl := lv_entry (cS ρ av) hlen'
  rw [lg_entry_eq]
  rw [cL_args] at hl
  exact h s.heap [] _ hP va_S.rf hl
