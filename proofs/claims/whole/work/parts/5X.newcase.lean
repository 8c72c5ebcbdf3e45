/-! newCase of the class: it makes a Case -/
theorem tw_314 : Cond.instanceMethod yX6_newCase ∈ TB := TB_in (List.mem_of_getElem? (i := 314) (by decide +kernel)) (by decide +kernel)
theorem tw_315 : Cond.selects RX6 yX6_newCase yX6_newCase ∈ TB := TB_in (List.mem_of_getElem? (i := 315) (by decide +kernel)) (by decide +kernel)
theorem tw_316 : Cond.code yX6_newCase cX6_newCase 2 (some .int) ∈ TB := TB_in (List.mem_of_getElem? (i := 316) (by decide +kernel)) (by decide +kernel)
theorem tw_317 : Cond.instantiable RX1 2 ∈ TB := TB_in (List.mem_of_getElem? (i := 317) (by decide +kernel)) (by decide +kernel)
theorem tw_318 : Cond.methodLink RX6 76 yX1_init ∈ TB := TB_in (List.mem_of_getElem? (i := 318) (by decide +kernel)) (by decide +kernel)
theorem tw_319 : Cond.instanceMethod yX1_init ∈ TB := TB_in (List.mem_of_getElem? (i := 319) (by decide +kernel)) (by decide +kernel)
abbrev Y_X6_newCase : MY := (yX6_newCase, cX6_newCase, 2, (some .int))
theorem Yok_X6_newCase : YOk Y_X6_newCase 1 := ⟨tw_316, tw_71, ⟨by decide +kernel, by decide +kernel, by decide +kernel⟩, by decide⟩
/-- rows of what isn't there yet, made fresh -/
def frz (zs : List Nat) (σ : St) : St := (fun o k => if zs.contains o = true then (if isd o k = true then -1 else 0) else σ.1 o k, fun o k => if zs.contains o = true then 0 else σ.2 o k)
theorem frz_in {zs : List Nat} {σ : St} {o : Nat} (h : o ∈ zs) : fresh (frz zs σ) o := by
  have hc : zs.contains o = true := by simpa using h
  exact ⟨fun k => if_pos hc, fun k => if_pos hc⟩
theorem frz_gi {zs : List Nat} {σ : St} {o : Nat} (h : o ∉ zs) : gi (frz zs σ) o = gi σ o := by
  have hc : ¬ zs.contains o = true := by simpa using h
  exact funext fun k => if_neg hc
theorem frz_gl {zs : List Nat} {σ : St} {o : Nat} (h : o ∉ zs) : gl (frz zs σ) o = gl σ o := by
  have hc : ¬ zs.contains o = true := by simpa using h
  exact funext fun k => if_neg hc
def nwi (nc : Nat) : List Nat := [400 + 10 * nc, 401 + 10 * nc, 402 + 10 * nc, 403 + 10 * nc, 404 + 10 * nc]
theorem mem_nwi {nc z : Nat} : z ∈ nwi nc ↔ 400 + 10 * nc ≤ z ∧ z ≤ 404 + 10 * nc := by
  simp only [nwi, List.mem_cons, List.not_mem_nil, or_false]
  omega
theorem inv_frz {nc : Nat} {σ τ : St} (h : Inv nc σ τ) : Inv nc (frz (nwi nc) σ) τ := by
  obtain ⟨h0, hc, h2, h3, h4, h5, h6, h7, Rs, h8, h9⟩ := h
  have e : ∀ x k, x < 400 + 10 * nc → gi (frz (nwi nc) σ) x k = gi σ x k := fun x k hx => congrFun (frz_gi (fun z => by have := mem_nwi.mp z; omega)) k
  have el : ∀ x, x < 400 + 10 * nc → gl (frz (nwi nc) σ) x = gl σ x := fun x hx => frz_gl (fun z => by have := mem_nwi.mp z; omega)
  refine ⟨h0, ⟨by rw [e 100 3 (by omega)]; exact hc.1, hc.2.1, fun k hk => ?_⟩, h2.same (fun x k hx => e x k (by omega)) (fun _ _ _ => rfl), h3.same (fun x k hx => e x k (by omega)) (fun _ _ _ => rfl), h4.same (fun x k hx => e x k (by omega)), h5, h6.same (fun x k hx => e x k (by omega)) (fun _ _ _ => rfl), ⟨fun t ht => ?_, h7.2⟩, Rs, h8.same (fun x k hx => e x k (by omega)) (fun _ _ _ => rfl), h9.same (fun x k hx => e x k (by omega)) (fun _ _ _ => rfl)⟩
  · obtain ⟨h1, ⟨S, q2, q3, q4⟩, cs, q5, q6⟩ := hc.2.2 k hk
    exact ⟨by rw [e 103 k (by omega)]; exact h1, ⟨S, q2, by rw [e _ 0 (by omega)]; exact q3, q4⟩, cs, fun w p hw hp => by rw [e _ p (by omega)]; exact q5 w p hw hp, q6⟩
  · obtain ⟨a, b, c, d, f⟩ := h7.1 t ht
    exact ⟨by rw [e 111 t (by omega)]; exact a, by rw [e 112 t (by omega)]; exact b, c, d, fun i hi => by rw [el (130 + t) (by omega)]; exact f i hi⟩
theorem idsC_lt {nc z : Nat} (h : z ∈ idsC nc) : z < 400 + 10 * nc := by
  rcases List.mem_append.mp h with h | h
  · have := (show ∀ z ∈ idsB, z < 400 by decide +kernel) z h
    omega
  · obtain ⟨k, hk, hz⟩ := List.mem_flatMap.mp h
    have := List.mem_range.mp hk
    simp only [List.mem_cons, List.not_mem_nil, or_false] at hz
    omega
theorem nwi_out {nc z : Nat} (hn : nc < 4) (h : z ∈ nwi nc) : z ∉ idsC nc ∧ z ∉ x5 := by
  have h1 := mem_nwi.mp h
  exact ⟨fun q => by have := idsC_lt q; omega, fun q => by have := mem_x5.mp q; omega⟩
theorem idsC_succ (nc : Nat) : (idsC nc ++ [400 + 10 * nc]) ++ [401 + 10 * nc, 402 + 10 * nc, 403 + 10 * nc, 404 + 10 * nc] = idsC (nc + 1) := by
  simp [idsC, List.range_succ, List.flatMap_append]
theorem idsC_8 {nc : Nat} (hn : nc < 5) : ∀ o, o ∈ idsC nc → (sh o).1 ≤ 8 := by
  intro o ho
  rcases List.mem_append.mp ho with h | h
  · exact (show ∀ z ∈ idsB, (sh z).1 ≤ 8 by decide +kernel) o h
  · obtain ⟨k, hk, hz⟩ := List.mem_flatMap.mp h
    have := List.mem_range.mp hk
    exact (show ∀ k, k < 4 → ∀ z ∈ [400 + 10 * k, 401 + 10 * k, 402 + 10 * k, 403 + 10 * k, 404 + 10 * k], (sh z).1 ≤ 8 by decide +kernel) k (by omega) o hz
theorem sh_case {nc : Nat} (h : nc < 4) : sh (400 + 10 * nc) = (0, 1) := (show ∀ nc, nc < 4 → sh (400 + 10 * nc) = (0, 1) by decide +kernel) nc h
theorem dro_nh (o : Nat) : dro (nh o ++ []) o = [] := by
  rw [List.append_nil]
  unfold dro
  exact List.filter_eq_nil_iff.mpr (fun p hp => by simp [(nh_mem.mp hp).1])
/-- the state that newCase begins with -/
def sN (nc : Nat) (σ : St) : St := ren (idsC nc) (frz (nwi nc) σ)
theorem inv_sN {nc : Nat} {σ τ : St} (h : Inv nc σ τ) : Inv nc (sN nc σ) τ := inv_ren (inv_frz h)
theorem sN_fresh {nc z : Nat} {σ : St} (hn : nc < 4) (h : z ∈ nwi nc) : fresh (sN nc σ) z := by
  have hc : (idsC nc).contains z = false := by simpa using (nwi_out hn h).1
  refine ⟨fun k => ?_, (frz_in h).2⟩
  rw [sN, ren_gi, hc, Bool.false_and, Bool.false_and, if_neg (by decide)]
  exact (frz_in h).1 k
theorem wl_congr {ids : List Nat} {ca : Nat → ClassId} {ρ : Nat → Nat} {σ σ' : St} (h : ∀ o ∈ ids, gi σ' o = gi σ o ∧ gl σ' o = gl σ o) : wl ids ca ρ σ' = wl ids ca ρ σ :=
  List.map_congr_left fun o ho => by rw [ce_other (h o ho).1 (h o ho).2]
/-- THE CONTRACT of newCase -/
def qcN (ca : Nat → ClassId) (ρ : Nat → Nat) (D : va_G) (A : Nat → Prop) (F : Int32 → Nat → St → Prop) : Array Value → State → Outcome → State → Prop := fun _ st oc t =>
  (∃ (x : Int32) (n' : Nat) (σ' : St) (r' : Nat → Nat), oc = .returned (some (.int x)) ∧ F x n' σ' ∧ n' < 5 ∧ r' 100 = ρ 100 ∧ (∀ z, 1000 ≤ z → r' z = ρ z) ∧ va_D A (wl (idsC n') ca r' σ') ∧ va_P D vwCl (wl (idsC n') ca r' σ') t.heap) ∧ va_F A st t
def preN (nc : Nat) (ca : Nat → ClassId) (ρ : Nat → Nat) (D : va_G) (sz : Nat) (σ : St) : State → Prop := fun U => preE (idsC nc) ca ρ D sz σ U ∧ Nx ca U
def ENw (d nc : Nat) (av : List Value) (σ : St) (F : Int32 → Nat → St → Prop) : Prop :=
  ∀ (l : Launch) (ca : Nat → ClassId) (ρ : Nat → Nat) (D : va_G) (sz : Nat), inj (idsC nc) ρ → Met l yX6_newCase (wsE Y_X6_newCase) (rmB d 5 20) (va_Pc (cS ρ av) (preN nc ca ρ D sz σ)) (qcN ca ρ D (Af (idsC nc) ρ sz) F) 5 20 (Af (idsC nc) ρ sz)
def ZN (X : CT) (F : Int32 → Nat → St → Prop) : State → Prop := match X with
  | (p, l, e, R, s, m, args, below, meth, c, ca, ρ, D, A) => MQ below (qcN ca ρ D A F) args s 5 20 A
theorem ENw_mk {d nc : Nat} {a0 : Int32} {σ : St} {F : Int32 → Nat → St → Prop} (hn : nc < 5)
    (body : ∀ X : CT, Dok X 2 cX6_newCase (some .int) (rmB d 5 20) RX6 → Nok X → Bw X 2 (ZN X F) 0 0 0 [(0, .ref (Xr X 100)), (1, .int a0)] [] (BW X x5 [(100, Xr X 100)] (idsC nc) [] (sN nc σ))) : ENw d nc [.ref 100, .int a0] σ F := by
  intro l ca ρ D sz hinj
  refine Met.ofW (cc := cX6_newCase) (maxL := 2) (ret := some .int) (by decide) rfl ?_
  intro p e s m args below meth c s₁ B hml hv
  obtain ⟨rfl, ⟨hsz, hP, hK, hSx⟩, hNx⟩ := hv
  subst hsz
  have hts := atoms_spec (ws := wsE Y_X6_newCase) B.pre
  have h := body (p, l, e, rmB d 5 20, s, m, (cS ρ [.ref 100, .int a0]).toArray, below, meth, c, ca, ρ, D, Af (idsC nc) ρ s.heap.size) ⟨B.exec, B.bytes, findClass_of_methodNamed B.named, fun w hw => hts w (List.mem_cons_of_mem _ hw), hK, hml, B.notSynchronized, B.returns, rfl, hSx, fun q hq => Or.inr hq⟩ hNx
  have hl := lv_entry (cS ρ [.ref 100, .int a0]) (n := 2) (Nat.le_of_ble_eq_true rfl)
  rw [lg_entry_eq]
  have h8 := idsC_8 hn
  have hP2 : va_P D vwCl (wl (idsC nc) ca ρ (frz (nwi nc) σ)) s.heap := by
    rw [wl_congr (fun o ho => ⟨frz_gi (fun z => ?_), frz_gl (fun z => ?_)⟩)]
    · exact hP
    · have := mem_nwi.mp z
      have := idsC_lt ho
      omega
    · have := mem_nwi.mp z
      have := idsC_lt ho
      omega
  have hi100 : 100 ∈ idsC nc := (h100 hn).2.1
  refine h s.heap [] _ ⟨ren_Bc (idsC_nodup nc hn) (idsC_clo nc hn) h8, rho ρ (frz (nwi nc) σ), fun q hq => ?_, fun z hz => rho_low ρ _ (Or.inr hz), ?_, ren_P (idsC_clo nc hn) h8 hP2⟩ va_S.rf hl
  · rw [List.mem_singleton.mp hq]
    exact ⟨rho_low ρ _ (Or.inl (h8 100 hi100)), Or.inl hi100⟩
  · exact to_D _ ca _ (idsC_nodup nc hn) (fun a b ha hb e => hinj a b ha hb (by rw [← rho_low ρ (frz (nwi nc) σ) (Or.inl (h8 a ha)), ← rho_low ρ (frz (nwi nc) σ) (Or.inl (h8 b hb))]; exact e)) (fun a ha => Or.inl ⟨a, ha, rho_low ρ _ (Or.inl (h8 a ha))⟩)
theorem b_iretN {X : CT} {nL : Nat} {cells slots pc : Nat} {L : List (Nat × Value)} {cc : ByteArray} {rm : Room} {own : String} {xs : List Nat} {an : List (Nat × Nat)} {ids : List Nat} {σ : St} {F : Int32 → Nat → St → Prop} {x : Int32} {n' : Nat} (hX : Dok X nL cc (some .int) rm own) (hd : decode cc pc = .ok (.ireturn, 1)) (hids : ids = idsC n') (hn : n' < 5) (han : (100, Xr X 100) ∈ an) (hc : cells ≤ 5) (hm : slots ≤ 20) (hF : F x n' σ) :
    Bw X nL (ZN X F) cells slots pc L [.int x] (BW X xs an ids [] σ) := by
  obtain ⟨p, l, e, R, s, m, args, below, meth, c, ca, ρ, D, A⟩ := X
  obtain ⟨hx, hb, hown, hts, hK, hml, hlocks, hr, hR, hSx, hA⟩ := hX
  subst hids
  intro H locs ls hB hS hl'
  obtain ⟨hBc, r, han', hth, hD, hP⟩ := hB
  rw [pw_nil] at hD hP
  refine W.widen hc hm ?_
  exact W.iret hx hb hr (fun t ht hW => ⟨⟨x, n', σ, r, rfl, hF, hn, (han' _ han).1, hth, hD, by rw [ht]; exact hP⟩, hS.F ht⟩) hS.2.2 hd hlocks
def cst (nc : Nat) (x : Int32) (σ : St) : St := si (si (si (si (si (si (si (si (si (si (si (si (si (si (si (si σ (400 + 10 * nc) 0 x) (402 + 10 * nc) 0 5) (403 + 10 * nc) 0 5) (404 + 10 * nc) 0 10) (402 + 10 * nc) 1 5) (403 + 10 * nc) 1 5) (404 + 10 * nc) 1 10) (402 + 10 * nc) 2 5) (403 + 10 * nc) 2 5) (404 + 10 * nc) 2 10) (402 + 10 * nc) 3 5) (403 + 10 * nc) 3 5) (404 + 10 * nc) 3 10) (402 + 10 * nc) 4 5) (403 + 10 * nc) 4 5) (404 + 10 * nc) 4 10
theorem kc_case {nc : Nat} (hn : nc < 4) {σ : St} {x : Int32} (hf : ∀ z, z ∈ nwi nc → fresh σ z) : BE 2 4 18 Y_X1_init [.ref (400 + 10 * nc), .int x] [] (400 + 10 * nc) [401 + 10 * nc, 402 + 10 * nc, 403 + 10 * nc, 404 + 10 * nc] σ (cst nc x σ) := by
  rcases (show nc = 0 ∨ nc = 1 ∨ nc = 2 ∨ nc = 3 by omega) with rfl | rfl | rfl | rfl
  · exact kc_case_400 hf
  · exact kc_case_410 hf
  · exact kc_case_420 hf
  · exact kc_case_430 hf
theorem cst_gi {nc z : Nat} {x : Int32} {σ : St} (h : z ∉ nwi nc) : gi (cst nc x σ) z = gi σ z := by
  have h0 : ¬ (400 + 10 * nc ≤ z ∧ z ≤ 404 + 10 * nc) := fun q => h (mem_nwi.mpr q)
  have a0 : z ≠ 400 + 10 * nc := by omega
  have a2 : z ≠ 402 + 10 * nc := by omega
  have a3 : z ≠ 403 + 10 * nc := by omega
  have a4 : z ≠ 404 + 10 * nc := by omega
  unfold cst
  rw [gi_si_o _ _ _ a4, gi_si_o _ _ _ a3, gi_si_o _ _ _ a2, gi_si_o _ _ _ a4, gi_si_o _ _ _ a3, gi_si_o _ _ _ a2, gi_si_o _ _ _ a4, gi_si_o _ _ _ a3, gi_si_o _ _ _ a2, gi_si_o _ _ _ a4, gi_si_o _ _ _ a3, gi_si_o _ _ _ a2, gi_si_o _ _ _ a4, gi_si_o _ _ _ a3, gi_si_o _ _ _ a2, gi_si_o _ _ _ a0]
theorem cst_gl {nc z : Nat} {x : Int32} {σ : St} : gl (cst nc x σ) z = gl σ z := rfl
theorem cst_so {nc : Nat} (hn : nc < 4) (x : Int32) (σ : St) : gi (cst nc x σ) (400 + 10 * nc) 0 = x := by
  rcases (show nc = 0 ∨ nc = 1 ∨ nc = 2 ∨ nc = 3 by omega) with rfl | rfl | rfl | rfl <;> rfl
theorem cst_at {nc : Nat} (hn : nc < 4) (x : Int32) (σ : St) {w p : Nat} (hw : w < 3) (hp : p < 5) : gi (cst nc x σ) (402 + 10 * nc + w) p = if w = 2 then 10 else 5 := by
  rcases (show nc = 0 ∨ nc = 1 ∨ nc = 2 ∨ nc = 3 by omega) with rfl | rfl | rfl | rfl <;> rcases (show w = 0 ∨ w = 1 ∨ w = 2 by omega) with rfl | rfl | rfl <;> rcases (show p = 0 ∨ p = 1 ∨ p = 2 ∨ p = 3 ∨ p = 4 by omega) with rfl | rfl | rfl | rfl | rfl <;> rfl
theorem c_newCase {d nc : Nat} {σ τ : St} {F : Int32 → Nat → St → Prop} {a0 : Int32} (h : Inv nc σ τ) (h0 : ¬ (0 ≤ a0 ∧ a0 ≤ 31) → F (-2) nc (sN nc σ)) (h1 : (0 ≤ a0 ∧ a0 ≤ 31) → nc = 4 → F (-4) nc (sN nc σ))
    (h2 : (0 ≤ a0 ∧ a0 ≤ 31) → nc < 4 → F (nI nc) (nc + 1) (si (si (cst nc a0 (sN nc σ)) 103 nc (nI (400 + 10 * nc))) 100 3 (nI nc + 1))) : ENw (d + 3) nc [.ref 100, .int a0] σ F := by
  have hn := h.nc
  have hI : Inv nc (sN nc σ) τ := inv_sN h
  have e3 : gi (sN nc σ) 100 3 = nI nc := hI.2.1.1
  have hi : 100 ∈ idsC nc := (h100 hn).2.1
  refine ENw_mk hn (fun X hX hNo => ?_)
  have k10 : ¬ (0 ≤ a0 ∧ a0 ≤ 31) → Bw X 2 (ZN X F) 0 0 10 [(0, .ref (Xr X 100)), (1, .int a0)] [] (BW X x5 [(100, Xr X 100)] (idsC nc) [] (sN nc σ)) := fun z => by
    refine b_bipush (v := -2) hX dX6_newCase_10 (by decide) ?_
    exact b_iretN (n' := nc) hX dX6_newCase_12 rfl hn (List.mem_singleton.mpr rfl) (Nat.zero_le _) (Nat.zero_le _) (h0 z)
  refine b_iload_n 1 hX dX6_newCase_0 rfl rfl ?_
  refine b_if_lt 10 hX dX6_newCase_1 (by decide) (fun c1 => k10 (fun y => absurd c1 (Int32.not_lt.mpr y.1))) (fun c1 => ?_)
  refine b_iload_n 1 hX dX6_newCase_4 rfl rfl ?_
  refine b_bipush (v := 32) hX dX6_newCase_5 (by decide) ?_
  have e31 : a0 < 32 ↔ a0 ≤ 31 := by
    rw [i32_lt, i32_le]
    have q1 : (32 : Int32).toInt = 32 := rfl
    have q2 : (31 : Int32).toInt = 31 := rfl
    omega
  refine b_icmp_lt 13 hX dX6_newCase_7 (by decide) (fun c2 => ?_) (fun c2 => k10 (fun y => c2 (e31.mpr y.2)))
  have hr : 0 ≤ a0 ∧ a0 ≤ 31 := ⟨Int32.not_lt.mp c1, e31.mp c2⟩
  refine b_aload_n 0 hX dX6_newCase_13 rfl rfl ?_
  refine b_iget (ci := 6) (o := 100) 3 0 cls6 (by decide) tb_269 rfl hX dX6_newCase_14 rfl rfl rfl hi ?_
  rw [e3]
  refine b_iconst (v := 4) hX dX6_newCase_17 (by decide) ?_
  refine b_icmp_lt 24 hX dX6_newCase_18 (by decide) (fun c3 => ?_) (fun c3 => ?_)
  · have h4 : nc < 4 := (nI_ltI (b := 4) (by omega) (by decide)).mp c3
    have hf : ∀ z, z ∈ nwi nc → fresh (sN nc σ) z := fun z hz => sN_fresh h4 hz
    have m0 : 400 + 10 * nc ∈ nwi nc := mem_nwi.mpr (by omega)
    have n100 : 100 ∉ nwi nc := fun q => by have := mem_nwi.mp q; omega
    refine b_aload_n 0 hX dX6_newCase_24 rfl rfl ?_
    refine b_rget (ci := 6) (o := 100) 2 0 cls6 (by decide) tb_268 rfl hX dX6_newCase_25 rfl rfl rfl hi List.not_mem_nil (fun q1 => ?_)
    refine b_aload_n 0 hX dX6_newCase_28 rfl rfl ?_
    refine b_iget (ci := 6) (o := 100) 3 1 cls6 (by decide) tb_269 rfl hX dX6_newCase_29 rfl rfl rfl hi ?_
    rw [e3]
    refine b_new (ci := 1) (C := RX1) (T := TX1) (N := 2) (400 + 10 * nc) cls1 tw_95 tw_317 tw_78 hX dX6_newCase_32 (sh_case h4) (nwi_out h4 m0).1 (nwi_out h4 m0).2 dfX1 ((hf _ m0).obj (sh_case h4) rfl) (show 0 + 1 ≤ 5 by decide) (show 0 + 2 ≤ 20 by decide) (fun q2 => ?_)
    refine b_dup hX dX6_newCase_35 rfl ?_
    refine b_iload_n 1 hX dX6_newCase_36 rfl rfl ?_
    refine b_ctor (q := q2) (As := [.int a0]) (Vs := [.int a0]) (kc_case h4 hf) Yok_X1_init rfl rfl tw_319 (Or.inl tw_318) hX hNo dX6_newCase_37 rfl rfl (Nat.le_of_ble_eq_true rfl) (fun r hr => ?_) (by simp) (fun k hk => List.mem_append_left _ hk) (fun z hz => absurd hz List.not_mem_nil) (fun z hz => ?_) (fun z hz hne => ?_) (show 2 + 1 ≤ d + 3 by omega) (show 8 + (3 + 11) + 64 * 2 ≤ 64 * (d + 3) by omega) (show 0 + 1 + 4 ≤ 5 by decide) (show 0 + 2 + 18 ≤ 20 by decide) ?_
    · show [Value.ref (r (400 + 10 * nc)), .int a0] = _
      rw [hr (400 + 10 * nc, q2) (by simp)]
    · have hz2 : z ∈ nwi nc ∧ z ≠ 400 + 10 * nc := by
        rw [mem_nwi]
        simp only [List.mem_cons, List.not_mem_nil, or_false] at hz
        omega
      have hq := nwi_out h4 hz2.1
      exact ⟨fun q => by
        rcases List.mem_append.mp q with q | q
        · exact hq.1 q
        · exact hz2.2 (List.mem_singleton.mp q), hq.2⟩
    · have hz2 : z ∉ nwi nc := fun q => by
        rcases List.mem_append.mp hz with y | y
        · exact (nwi_out h4 q).1 y
        · exact hne (List.mem_singleton.mp y)
      exact ⟨cst_gi hz2, cst_gl⟩
    rw [dro_nh, idsC_succ]
    have hi2 : 100 ∈ idsC (nc + 1) := (h100 (by omega)).2.1
    have h400 : 400 + 10 * nc ∈ idsC (nc + 1) := (hCase (nc := nc + 1) (k := nc) (by omega) (by omega)).2.1
    have h103 : 103 ∈ idsC (nc + 1) := List.mem_append_left _ (by decide)
    refine b_clink (ci := 1) (C := RX1) (T := TX1) (N := 2) (o := 103) (n := 4) (v := 400 + 10 * nc) (j := nI nc) 1 0 hX dX6_newCase_40 rfl (fun _ => rfl) rfl (sh_case h4) rfl rfl h103 h400 (vp_in_nI h4 (by decide)) ?_
    rw [nI_clamp (by omega)]
    have e4 : gi (si (cst nc a0 (sN nc σ)) 103 nc (nI (400 + 10 * nc))) 100 3 = nI nc := by
      rw [gi_ne_o _ _ _ _ (by decide), cst_gi n100]
      exact e3
    refine b_aload_n 0 hX dX6_newCase_41 rfl rfl ?_
    refine b_dup hX dX6_newCase_42 rfl ?_
    refine b_iget (ci := 6) (o := 100) 3 2 cls6 (by decide) tb_269 rfl hX dX6_newCase_43 rfl rfl rfl hi2 ?_
    rw [e4]
    refine b_iconst (v := 1) hX dX6_newCase_46 (by decide) ?_
    refine b_iadd hX dX6_newCase_47 ?_
    refine b_iput (ci := 6) (o := 100) 3 2 cls6 (by decide) tb_269 rfl (Or.inl rfl) hX dX6_newCase_48 rfl rfl rfl hi2 rfl rfl ?_
    refine b_aload_n 0 hX dX6_newCase_51 rfl rfl ?_
    refine b_iget (ci := 6) (o := 100) 3 2 cls6 (by decide) tb_269 rfl hX dX6_newCase_52 rfl rfl rfl hi2 ?_
    rw [gi_same]
    refine b_iconst (v := 1) hX dX6_newCase_55 (by decide) ?_
    refine b_isub hX dX6_newCase_56 ?_
    rw [show nI nc + 1 - 1 = nI nc by rw [← nI_succ, nI_pred]]
    exact b_iretN (n' := nc + 1) hX dX6_newCase_57 rfl (by omega) (List.mem_of_getElem? (i := 2) rfl) (by decide) (by decide) (h2 hr h4)
  · have h4 : nc = 4 := by
      have : ¬ nc < 4 := fun q => c3 (nI_lt (b := 4) q (by decide))
      omega
    refine b_bipush (v := -4) hX dX6_newCase_21 (by decide) ?_
    exact b_iretN (n' := nc) hX dX6_newCase_23 rfl hn (List.mem_singleton.mpr rfl) (Nat.zero_le _) (Nat.zero_le _) (h1 hr h4)
