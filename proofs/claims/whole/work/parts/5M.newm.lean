/-! 'multianewarray' over the world that is built -/
def inn (b N : Nat) : List Nat := (List.range N).map (fun j => b + j)
theorem mem_inn {b N z : Nat} : z ∈ inn b N ↔ b ≤ z ∧ z < b + N := by
  unfold inn
  constructor
  · intro h
    obtain ⟨j, hj, rfl⟩ := List.mem_map.mp h
    have := List.mem_range.mp hj
    omega
  · intro h
    exact List.mem_map.mpr ⟨z - b, List.mem_range.mpr (by omega), by omega⟩
theorem inn_nodup (b N : Nat) : (inn b N).Nodup := List.Pairwise.map _ (fun a c h e => h (by omega)) List.nodup_range
theorem BW_multi {xs ids : List Nat} {hs : List (Nat × Nat)} {σ : St} {an : List (Nat × Nat)} {ρ r : Nat → Nat} {D : va_G} {A : Nat → Prop} {ca : Nat → ClassId} {o b N M t : Nat} {dv : Value} {H H1 : Heap}
    (hBc : Bc xs ids hs σ) (han : ∀ q ∈ an, r q.1 = q.2 ∧ (q.1 ∈ ids ∨ q.1 ∈ xs)) (hth : ∀ o, 1000 ≤ o → r o = ρ o) (hD : va_D A (pw ids hs ca r σ)) (hP : va_P D vwCl (pw ids hs ca r σ) H) (ht : t = 1 ∨ t = 2)
    (hs0 : sh o = (t + 6, N)) (hsi : ∀ j, j < N → sh (b + j) = (t, M)) (hrf : ∀ k, rf o k = b + k) (hob : o ∉ inn b N) (hno : o ∉ ids ∧ o ∉ xs) (hni : ∀ z, z ∈ inn b N → z ∉ ids ∧ z ∉ xs) (hz : ∀ j, j < N → ∀ r : Nat → Nat, vp_cell (ca t) (M, pac hs r σ (b + j) t) = arrV (ca t) M (fun _ => dv))
    (hA : ∀ q, H.size ≤ q → A q) (hk : ∀ q : Nat, q < H.size → H1[q]? = H[q]?) (h1 : H1[H.size]? = some (arrV (ca (t + 6)) N (fun j => .ref (H.size + 1 + j)))) (h2 : ∀ j, j < N → H1[H.size + 1 + j]? = some (arrV (ca t) M (fun _ => dv))) :
    Bc xs (ids ++ o :: inn b N) hs σ ∧ ∃ r2 : Nat → Nat, (∀ p ∈ (o, H.size) :: an, r2 p.1 = p.2 ∧ (p.1 ∈ ids ++ o :: inn b N ∨ p.1 ∈ xs)) ∧ (∀ o, 1000 ≤ o → r2 o = ρ o) ∧ va_D A (pw (ids ++ o :: inn b N) hs ca r2 σ) ∧ va_P D vwCl (pw (ids ++ o :: inn b N) hs ca r2 σ) H1 := by
  obtain ⟨b1, b2, b3, b4, b5⟩ := hBc
  obtain ⟨i1, i2⟩ := D_of b1 hD
  have kn : ∀ z, z ∈ ids ∨ z ∈ xs → z ≠ o ∧ z ∉ inn b N := fun z hz => ⟨fun e => by subst e; exact hz.elim hno.1 hno.2, fun h => hz.elim (hni z h).1 (hni z h).2⟩
  have lt : ∀ z, z ∈ ids → r z < H.size := fun z hz => by
    obtain ⟨i, -, hi⟩ := pw_in hs ca r σ hz
    exact (hP i _ hi).lt
  have sh1 : ∀ z, z ∈ inn b N → sh z = (t, M) := fun z hz => by
    have hm := mem_inn.mp hz
    have := hsi (z - b) (by omega)
    rwa [show b + (z - b) = z by omega] at this
  have h8o : (sh o).1 ≤ 8 := by rw [hs0]; show t + 6 ≤ 8; omega
  have h8i : ∀ z, z ∈ inn b N → (sh z).1 ≤ 8 := fun z hz => by rw [sh1 z hz]; show t ≤ 8; omega
  have isr_i : ∀ z k, z ∈ inn b N → isr z k = false := fun z k hz => isr_not (sh1 z hz) (by omega)
  have isd_i : ∀ z k, z ∈ inn b N → isd z k = false := fun z k hz => by
    have e0 : ¬ t = 0 := by omega
    have e4 : ¬ t = 4 := by omega
    simp [isd, sh1 z hz, e0, e4]
  have isd_o : ∀ k, isd o k = false := fun k => by
    have e4 : ¬ t + 6 = 4 := by omega
    simp [isd, hs0, e4]
  have hnd : (ids ++ o :: inn b N).Nodup := List.nodup_append.mpr ⟨b1, List.nodup_cons.mpr ⟨hob, inn_nodup b N⟩, fun a ha c hc e => by
    subst e
    rcases List.mem_cons.mp hc with h | h
    · exact (kn a (Or.inl ha)).1 h
    · exact (kn a (Or.inl ha)).2 h⟩
  generalize hr2 : (fun z => if z = o then H.size else if z ∈ inn b N then H.size + 1 + (z - b) else r z) = r2
  have e1 : ∀ z, z ∈ ids ∨ z ∈ xs → r2 z = r z := fun z hz => by
    rw [← hr2]
    show (if z = o then H.size else if z ∈ inn b N then _ else r z) = r z
    rw [if_neg (kn z hz).1, if_neg (kn z hz).2]
  have eo : r2 o = H.size := by rw [← hr2]; exact if_pos rfl
  have ei : ∀ z, z ∈ inn b N → r2 z = H.size + 1 + (z - b) := fun z hz => by
    rw [← hr2]
    show (if z = o then H.size else if z ∈ inn b N then _ else r z) = _
    rw [if_neg (show ¬ z = o from fun e => hob (by rw [← e]; exact hz)), if_pos hz]
  refine ⟨⟨hnd, fun z hz => ?_, fun z hz k hk' => ?_, fun p hp => ⟨(b4 p hp).1, List.mem_append_left _ (b4 p hp).2⟩, fun z hz k hk' v hv => ?_⟩, r2, fun p hp => ?_, fun z hz => ?_, ?_, fun k y hy => ?_⟩
  · rcases List.mem_append.mp hz with h | h
    · exact b2 z h
    · rcases List.mem_cons.mp h with h | h
      · rw [h]; exact h8o
      · exact h8i z h
  · rcases List.mem_append.mp hz with h | h
    · rcases b3 z h k hk' with q | q | q
      · exact Or.inl q
      · exact Or.inr (Or.inl (List.mem_append_left _ q))
      · exact Or.inr (Or.inr q)
    · rcases List.mem_cons.mp h with h | h
      · subst h
        have hkN := (isr_arr hs0 (by omega)).mp hk'
        exact Or.inr (Or.inl (List.mem_append_right _ (List.mem_cons_of_mem _ (mem_inn.mpr (by rw [hrf]; omega)))))
      · rw [isr_i z k h] at hk'; cases hk'
  · rcases List.mem_append.mp hz with h | h
    · exact (b5 z h k hk' v hv).imp (fun q => List.mem_append_left _ q) id
    · rcases List.mem_cons.mp h with h | h
      · subst h
        rw [isd_o k] at hk'; cases hk'
      · rw [isd_i z k h] at hk'; cases hk'
  · rcases List.mem_cons.mp hp with rfl | hp
    · exact ⟨eo, Or.inl (by simp)⟩
    · obtain ⟨q1, q2⟩ := han p hp
      exact ⟨(e1 _ q2).trans q1, q2.imp (fun q => List.mem_append_left _ q) id⟩
  · have hzo : z ≠ o := fun e => by
      have := sh8_lt h8o
      omega
    have hzi : z ∉ inn b N := fun h => by
      have := sh8_lt (h8i z h)
      omega
    rw [← hr2]
    show (if z = o then H.size else if z ∈ inn b N then _ else r z) = _
    rw [if_neg hzo, if_neg hzi]
    exact hth z hz
  · have cls : ∀ z, z ∈ ids ++ o :: inn b N → (z ∈ ids ∧ r2 z = r z ∧ r z < H.size) ∨ (z = o ∧ r2 z = H.size) ∨ (z ∈ inn b N ∧ r2 z = H.size + 1 + (z - b)) := fun z hz => by
      rcases List.mem_append.mp hz with h | h
      · exact Or.inl ⟨h, e1 z (Or.inl h), lt z h⟩
      · rcases List.mem_cons.mp h with h | h
        · exact Or.inr (Or.inl ⟨h, by rw [h]; exact eo⟩)
        · exact Or.inr (Or.inr ⟨h, ei z h⟩)
    refine to_D _ ca σ hnd (fun x y hx hy e => ?_) (fun x hx => ?_)
    · rcases cls x hx with ⟨p1, p2, p3⟩ | ⟨p1, p2⟩ | ⟨p1, p2⟩ <;> rcases cls y hy with ⟨q1, q2, q3⟩ | ⟨q1, q2⟩ | ⟨q1, q2⟩ <;> rw [p2, q2] at e
      · exact i1 x y p1 q1 e
      · omega
      · omega
      · omega
      · rw [p1, q1]
      · omega
      · omega
      · omega
      · have m1 := mem_inn.mp p1
        have m2 := mem_inn.mp q1
        omega
    · rcases cls x hx with ⟨p1, p2, p3⟩ | ⟨p1, p2⟩ | ⟨p1, p2⟩ <;> rw [p2]
      · exact i2 x p1
      · exact hA _ (Nat.le_refl _)
      · exact hA _ (by omega)
  · obtain ⟨z, hz', rfl⟩ := pw_get hy
    rcases List.mem_append.mp (List.mem_of_getElem? hz') with h | h
    · obtain ⟨i, -, hi⟩ := pw_in hs ca r σ h
      have h0 := (hP i _ hi).kept (hk _ (lt z h))
      refine at_same (b2 z h) (e1 z (Or.inl h)) (fun k hk' => (b4 _ hk').1) (fun k hk' => (b4 _ hk').1) (fun k hk' => ⟨Iff.rfl, fun hh => ?_⟩) (fun k hk' => ?_) h0
      · rcases b3 z h k hk' with q | q
        · exact absurd q hh
        · exact e1 _ q
      · cases hv : dc (gi σ z k) with
        | none => rfl
        | some v => exact congrArg some (e1 v (b5 z h k hk' v hv))
    · rcases List.mem_cons.mp h with h | h
      · subst h
        rw [eo, pce_arr (t := t + 5) hs0]
        show H1[H.size]? = some (vp_cell (ca (t + 6)) (N, pac hs r2 σ z (t + 6)))
        rw [h1]
        congr 1
        unfold pac
        rw [if_pos (by omega), vp_cell_q]
        refine mx_same fun j hj => ?_
        have hmem : b + j ∈ inn b N := mem_inn.mpr (by omega)
        rw [if_neg (fun hh => by have hm := (b4 _ hh).2; exact hno.1 hm), hrf, ei _ hmem, show b + j - b = j by omega]
        rfl
      · have hm := mem_inn.mp h
        rw [ei z h]
        have e7 : pce hs ca r2 σ z = .inl (ca t, M, pac hs r2 σ z t) := by
          unfold pce
          rw [sh1 z h, if_neg (by show ¬ t = 0; omega)]
        rw [e7]
        show H1[H.size + 1 + (z - b)]? = some (vp_cell (ca t) (M, pac hs r2 σ z t))
        have hzz := hz (z - b) (by omega) r2
        rw [show b + (z - b) = z by omega] at hzz
        rw [hzz]
        exact h2 _ (by omega)
section BB5
variable {X : CT} {nL : Nat} {Z : State → Prop} {cells slots pc : Nat} {L L' : List (Nat × Value)} {S : List Value} {cc : ByteArray} {ret : Option FieldType} {rm : Room} {own : String} {xs : List Nat} {an : List (Nat × Nat)} {ids : List Nat} {hs : List (Nat × Nat)} {σ : St} {ci : Nat}
theorem b_newm {ty : FieldType} {n k : Int32} {t N M b index : Nat} (o : Nat) (ht : t = 1 ∨ t = 2) (htl : ∀ ca : Nat → ClassId, (tl ca)[t - 1]? = some (ca t, ty) ∧ (tl ca)[t + 5]? = some (ca (t + 6), .array ty)) (hra : ∀ (U : State) (cA : ClassId), va_RA U cA ty → U.vm.findClass (FieldType.array ty).toString = some cA) (hNx : ∀ (ca : Nat → ClassId) (U : State), Nx ca U → ∃ kA : Class, U.vm.classes[ca (t + 6)]? = some kA ∧ kA.kind = .array (ca t) (.array ty)) (harr : Cond.arrayClass ty ∈ TB)
    (hcl : Cond.classLink own index ("[" ++ (FieldType.array ty).toString) ∈ TB) (hf : fits ty (defaultValue ty) = true) (hX : Dok X nL cc ret rm own) (hNo : Nok X) (hd : decode cc pc = .ok (.multianewarray index 2, 4))
    (hs0 : sh o = (t + 6, N)) (hsi : ∀ j, j < N → sh (b + j) = (t, M)) (hrf : ∀ k, rf o k = b + k) (hob : o ∉ inn b N) (hno : o ∉ ids ∧ o ∉ xs) (hni : ∀ z, z ∈ inn b N → z ∉ ids ∧ z ∉ xs) (hz : ∀ j, j < N → ∀ (hs : List (Nat × Nat)) (cA : ClassId) (r : Nat → Nat), vp_cell cA (M, pac hs r σ (b + j) t) = arrV cA M (fun _ => defaultValue ty))
    (hn : ¬ n < 0) (hk : ¬ k < 0) (hN : n.toNatClampNeg = N) (hM : k.toNatClampNeg = M) (hb1 : N * 4 ≤ 536870912) (hb2 : M * componentBytes ty ≤ 536870912) (hb3 : M ≤ 536870912) (hcells : cells + (1 + N) ≤ rm.cells) (hslots : slots + (N + N * M) ≤ rm.slots)
    (kk : ∀ q, Bw X nL Z (cells + (1 + N)) (slots + (N + N * M)) (pc + 4) L (.ref q :: S) (BW X xs ((o, q) :: an) (ids ++ o :: inn b N) hs σ)) : Bw X nL Z cells slots pc L (.int k :: .int n :: S) (BW X xs an ids hs σ) := by
  obtain ⟨p, l, e, R, s, m, args, below, meth, c, ca, ρ, D, A⟩ := X
  obtain ⟨hx, hb, hown, hts, hK, hml, hlocks, hr, hR, hSx, hA⟩ := hX
  intro H locs ls hB hS hl
  obtain ⟨hBc, r, han, hth, hD, hP⟩ := hB
  obtain ⟨kA, hkA, hkindA⟩ := hNx ca s hNo
  obtain ⟨htl1, htl2⟩ := htl ca
  refine mx_row hx hb hown (hts _ hcl) (cA := ca (t + 6)) (cI := ca t) (hK.2 (t + 5) _ htl2).2 hkA hkindA (hra s _ (hK.2 (t - 1) _ htl1).2) (hts _ harr) hf hd hn hk hN hM hb1 hb2 hb3 (by rw [hR]; exact hcells) (by rw [hR]; exact hslots) (fun H1 ln hln hsz hold h1 h2 => kk H.size H1 (locs ++ ln) ls (BW_multi hBc han hth hD hP ht hs0 hsi hrf hob hno hni (fun j hj r => hz j hj hs (ca t) r) (fun q hq => hA q (Nat.le_trans hS.1 hq)) hold h1 h2) ?_ hl)
  refine ⟨Nat.le_trans hS.1 (by omega), fun q h3 h4 => (hold q (Nat.lt_of_lt_of_le h3 hS.1)).trans (hS.2.1 q h3 h4), fun q hq => ?_⟩
  rcases List.mem_append.mp hq with h | h
  · exact hS.2.2 q h
  · rw [hln q h]; exact hA _ hS.1
end BB5
