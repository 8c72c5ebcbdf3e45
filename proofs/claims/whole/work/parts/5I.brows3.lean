/-! ROWS OVER THE WORLD THAT IS BUILT: arrays of references filled, arrays of arrays, the end -/
section BB3
variable {X : CT} {nL : Nat} {Z : State → Prop} {cells slots pc : Nat} {L L' : List (Nat × Value)} {S : List Value} {cc : ByteArray} {ret : Option FieldType} {rm : Room} {own : String} {xs : List Nat} {an : List (Nat × Nat)} {ids : List Nat} {hs : List (Nat × Nat)} {σ : St} {ci : Nat}
/-- 'aastore' of an object into an array that holds for good -/
theorem b_alink {C : String} {T : u_T} {N : Nat} {o a q t n j0 : Nat} {j : Int32} (i1 i2 : Nat) (ht : t = 4 ∨ t = 5) (hX : Dok X nL cc ret rm own) (hd : decode cc pc = .ok (.aastore, 1)) (hs0 : sh o = (t + 1, n)) (htl : ∀ ca : Nat → ClassId, (tl ca)[t]? = some (ca (t + 1), .object C)) (hcl : vwCl[ci]? = some (C, T, N)) (hj : j.toNatClampNeg = j0) (hs1 : sh (rf o j0) = (0, ci)) (h1 : an[i1]? = some (o, a)) (h2 : an[i2]? = some (rf o j0, q)) (hoi : o ∈ ids) (hri : rf o j0 ∈ ids) (hin : vp_in j n)
    (k : Bw X nL Z cells slots (pc + 1) L S (BW X xs an ids (fil hs o j0) σ)) : Bw X nL Z cells slots pc L (.ref q :: .int j :: .ref a :: S) (BW X xs an ids hs σ) := by
  obtain ⟨p, l, e, R, s, m, args, below, meth, c, ca, ρ, D, A⟩ := X
  obtain ⟨hx, hb, hown, hts, hK, hml, hlocks, hr, hR, hSx, hA⟩ := hX
  subst hj
  intro H locs ls hB hS hl'
  obtain ⟨hBc, r, han, hth, hD, hP⟩ := hB
  obtain ⟨ea, -⟩ := han _ (List.mem_of_getElem? h1)
  obtain ⟨eq, hqi⟩ := han _ (List.mem_of_getElem? h2)
  have ea : r o = a := ea
  have eq : r (rf o j.toNatClampNeg) = q := eq
  subst ea
  subst eq
  obtain ⟨i, hi0, hi⟩ := pw_in hs ca r σ hoi
  obtain ⟨i', hi0', hi'⟩ := pw_in hs ca r σ hri
  rw [pce_arr hs0] at hi
  rw [pce_obj hs1] at hi'
  have hpa : ∀ hs, pac hs r σ o (t + 1) = .inr (.inr (.inr (.inr fun j => if (o, j) ∈ hs then none else some (r (rf o j))))) := fun hs => by
    unfold pac
    rw [if_pos (by omega)]
  rw [hpa] at hi
  refine va_astq hx hb hK hP hD hS i t i' ci (r := (C, T, N)) hi (htl ca) hi' hcl hin hd (fun H1 locs1 hP1 hD1 hS1 => ?_)
  have e1 : (pw ids hs ca r σ).set i (r o, .inl (ca (t + 1), n, .inr (.inr (.inr (.inr (va_up (fun j => if (o, j) ∈ hs then none else some (r (rf o j))) j.toNatClampNeg (some (r (rf o j.toNatClampNeg))))))))) = pw ids (fil hs o j.toNatClampNeg) ca r σ := by
    refine pw_set hBc.1 hi0 ?_ (fun z hz => fil_other hz ca r)
    rw [pce_arr hs0, hpa]
    congr 7
    funext x
    unfold va_up
    by_cases hx' : x = j.toNatClampNeg
    · subst hx'
      rw [if_pos rfl, if_neg (fun z => (mem_fil.mp z).2 rfl)]
    · have e : ((o, x) ∈ fil hs o j.toNatClampNeg) ↔ (o, x) ∈ hs := ⟨fun z => (mem_fil.mp z).1, fun z => mem_fil.mpr ⟨z, fun e => hx' (by cases e; rfl)⟩⟩
      rw [if_neg hx']
      simp only [e]
  rw [e1] at hP1 hD1
  exact k H1 locs1 ls ⟨hBc.link hqi, r, han, hth, hD1, hP1⟩ hS1 hl'
/-- 'aastore' of an object into an array whose places are told by numbers -/
theorem b_clink {C : String} {T : u_T} {N : Nat} {o a q n v : Nat} {j : Int32} (i1 i2 : Nat) (hX : Dok X nL cc ret rm own) (hd : decode cc pc = .ok (.aastore, 1)) (hs0 : sh o = (3 + 1, n)) (htl : ∀ ca : Nat → ClassId, (tl ca)[3]? = some (ca 4, .object C)) (hcl : vwCl[ci]? = some (C, T, N)) (hs1 : sh v = (0, ci)) (h1 : an[i1]? = some (o, a)) (h2 : an[i2]? = some (v, q)) (hoi : o ∈ ids) (hri : v ∈ ids) (hin : vp_in j n)
    (k : Bw X nL Z cells slots (pc + 1) L S (BW X xs an ids hs (si σ o j.toNatClampNeg (nI v)))) : Bw X nL Z cells slots pc L (.ref q :: .int j :: .ref a :: S) (BW X xs an ids hs σ) := by
  obtain ⟨p, l, e, R, s, m, args, below, meth, c, ca, ρ, D, A⟩ := X
  obtain ⟨hx, hb, hown, hts, hK, hml, hlocks, hr, hR, hSx, hA⟩ := hX
  intro H locs ls hB hS hl'
  obtain ⟨hBc, r, han, hth, hD, hP⟩ := hB
  obtain ⟨ea, -⟩ := han _ (List.mem_of_getElem? h1)
  obtain ⟨eq, hqi⟩ := han _ (List.mem_of_getElem? h2)
  have ea : r o = a := ea
  have eq : r v = q := eq
  subst ea
  subst eq
  obtain ⟨i, hi0, hi⟩ := pw_in hs ca r σ hoi
  obtain ⟨i', hi0', hi'⟩ := pw_in hs ca r σ hri
  rw [pce_arr hs0] at hi
  rw [pce_obj hs1] at hi'
  have hpa : ∀ σ : St, pac hs r σ o (3 + 1) = .inr (.inr (.inr (.inr fun j => (dc (gi σ o j)).map r))) := fun σ => rfl
  rw [hpa] at hi
  have hdv : dc (nI v) = some v := dc_nI (by have := sh_lt hs1 (by decide); omega)
  refine va_astq hx hb hK hP hD hS i 3 i' ci (r := (C, T, N)) hi (htl ca) hi' hcl hin hd (fun H1 locs1 hP1 hD1 hS1 => ?_)
  have e1 : (pw ids hs ca r σ).set i (r o, .inl (ca (3 + 1), n, .inr (.inr (.inr (.inr (va_up (fun j => (dc (gi σ o j)).map r) j.toNatClampNeg (some (r v)))))))) = pw ids hs ca r (si σ o j.toNatClampNeg (nI v)) := by
    refine pw_set hBc.1 hi0 ?_ (fun z hz => pce_other (gi_si_o σ _ _ hz) (gl_si_o σ o z _ _))
    rw [pce_arr hs0, hpa]
    congr 7
    funext x
    unfold va_up
    by_cases hx' : x = j.toNatClampNeg
    · subst hx'
      rw [if_pos rfl, gi_same, hdv]
      rfl
    · rw [if_neg hx', gi_ne_k σ o o (nI v) hx']
  rw [e1] at hP1 hD1
  exact k H1 locs1 ls ⟨hBc.si (Or.inr fun a ha => by rw [hdv] at ha; cases ha; exact Or.inl hri), r, han, hth, hD1, hP1⟩ hS1 hl'
end BB3
