theorem q_nret {X : CT} {ids : List Nat} {nL : Nat} {Qp : Option Value → St → Prop} {pc : Nat} {L : List (Nat × Value)} {σ : St} {cc : ByteArray} {dep : Nat} {own : String} {v : Int32} {ty : FieldType} (hX : Cok X ids nL cc (some ty) dep own) (hd : decode cc pc = .ok (.ireturn, 1)) (hv : narrow ty (.int v) = .int v) (k : Qp (some (.int v)) σ) : Wg X ids nL Qp pc L [.int v] σ := by
  obtain ⟨p, l, e, R, s, m, args, below, meth, c, ca, ρ, D, A⟩ := X
  obtain ⟨hx, hb, hown, hts, hK, hD, hnd, hml, hlocks, hr, -⟩ := hX
  intro H locs ls hP hS hl'
  exact W.zret hx hb hr hv (fun t ht hW => ⟨⟨some (.int v), σ, rfl, k, by rw [ht]; exact hP, va_K.moved hW.alike hK⟩, hS.F ht⟩) hS.2.2 hd hlocks
