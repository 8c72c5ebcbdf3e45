/-! THE GOAL 'Bw': as Wg, but over any world 'Wd', with addresses as they are, and with cells that are made. -/
def Bw (X : CT) (nL : Nat) (Z : State → Prop) (cells slots : Nat) (pc : Nat) (L : List (Nat × Value)) (S : List Value) (Wd : Heap → Prop) : Prop :=
  match X with
  | (p, l, e, R, s, m, args, below, meth, c, ca, ρ, D, A) => ∀ (H : Heap) (locs : List Loc) (ls : Array Slot), Wd H → va_S A s.heap H locs → lv_has ls nL L → W p l e R s m args below meth c H locs cells slots Z (F0 m pc ls S)
def Dok (X : CT) (nL : Nat) (cc : ByteArray) (ret : Option FieldType) (rm : Room) (own : String) : Prop :=
  match X with
  | (p, l, e, R, s, m, args, below, meth, c, ca, ρ, D, A) => p.tables.exec = Jvm.exec ∧ c.code = cc ∧ s.vm.findClass own = some m.cls ∧ (∀ w ∈ TB, w.before args s = true) ∧ va_K D vwCl (tl ca) s ∧ c.maxLocals = nL ∧ meth.locks = false ∧ meth.sig.returnType = ret ∧ R = rm ∧ Sx A ρ s s.heap ∧ (∀ q, s.heap.size ≤ q → A q)
section BR
variable {X : CT} {nL : Nat} {Z : State → Prop} {cells slots pc : Nat} {L L' : List (Nat × Value)} {S : List Value} {Wd : Heap → Prop} {cc : ByteArray} {ret : Option FieldType} {rm : Room} {own : String}
theorem Bw.sub (ks : List Nat) (hl : lv_pick L ks = L') (k : Bw X nL Z cells slots pc L' S Wd) : Bw X nL Z cells slots pc L S Wd := by
  obtain ⟨p, l, e, R, s, m, args, below, meth, c, ca, ρ, D, A⟩ := X
  intro H locs ls hP hS h
  refine k H locs ls hP hS (lv_sub h ks ?_)
  rw [← hl]
theorem b_iconst {n : Int} {v : Int32} (hX : Dok X nL cc ret rm own) (hd : decode cc pc = .ok (.iconst n, 1)) (hv : Int32.ofInt n = v) (k : Bw X nL Z cells slots (pc + 1) L (.int v :: S) Wd) : Bw X nL Z cells slots pc L (S) Wd := by
  obtain ⟨p, l, e, R, s, m, args, below, meth, c, ca, ρ, D, A⟩ := X
  obtain ⟨hx, hb, -⟩ := hX
  intro H locs ls hP hS hl
  exact lv_iconst hx hb hd hv (k H locs ls hP hS hl)
theorem b_bipush {n : Int} {v : Int32} (hX : Dok X nL cc ret rm own) (hd : decode cc pc = .ok (.bipush n, 2)) (hv : (Int8.ofInt n).toInt32 = v) (k : Bw X nL Z cells slots (pc + 2) L (.int v :: S) Wd) : Bw X nL Z cells slots pc L (S) Wd := by
  obtain ⟨p, l, e, R, s, m, args, below, meth, c, ca, ρ, D, A⟩ := X
  obtain ⟨hx, hb, -⟩ := hX
  intro H locs ls hP hS hl
  exact lv_bipush hx hb hd hv (k H locs ls hP hS hl)
theorem b_sipush {n : Int} {v : Int32} (hX : Dok X nL cc ret rm own) (hd : decode cc pc = .ok (.sipush n, 3)) (hv : (Int16.ofInt n).toInt32 = v) (k : Bw X nL Z cells slots (pc + 3) L (.int v :: S) Wd) : Bw X nL Z cells slots pc L (S) Wd := by
  obtain ⟨p, l, e, R, s, m, args, below, meth, c, ca, ρ, D, A⟩ := X
  obtain ⟨hx, hb, -⟩ := hX
  intro H locs ls hP hS hl
  exact lv_sipush hx hb hd hv (k H locs ls hP hS hl)
theorem b_lconst {n : Fin 2} {v : Int64} (hX : Dok X nL cc ret rm own) (hd : decode cc pc = .ok (.lconst n, 1)) (hv : Int64.ofNat (n : Nat) = v) (k : Bw X nL Z cells slots (pc + 1) L (.long v :: S) Wd) : Bw X nL Z cells slots pc L (S) Wd := by
  obtain ⟨p, l, e, R, s, m, args, below, meth, c, ca, ρ, D, A⟩ := X
  obtain ⟨hx, hb, -⟩ := hX
  intro H locs ls hP hS hl
  exact lv_lconst hx hb hd hv (k H locs ls hP hS hl)
theorem b_iadd {x y : Int32} (hX : Dok X nL cc ret rm own) (hd : decode cc pc = .ok (.iadd, 1)) (k : Bw X nL Z cells slots (pc + 1) L (.int (x + y) :: S) Wd) : Bw X nL Z cells slots pc L (.int y :: .int x :: S) Wd := by
  obtain ⟨p, l, e, R, s, m, args, below, meth, c, ca, ρ, D, A⟩ := X
  obtain ⟨hx, hb, -⟩ := hX
  intro H locs ls hP hS hl
  exact lv_iadd hx hb hd (k H locs ls hP hS hl)
theorem b_isub {x y : Int32} (hX : Dok X nL cc ret rm own) (hd : decode cc pc = .ok (.isub, 1)) (k : Bw X nL Z cells slots (pc + 1) L (.int (x - y) :: S) Wd) : Bw X nL Z cells slots pc L (.int y :: .int x :: S) Wd := by
  obtain ⟨p, l, e, R, s, m, args, below, meth, c, ca, ρ, D, A⟩ := X
  obtain ⟨hx, hb, -⟩ := hX
  intro H locs ls hP hS hl
  exact lv_isub hx hb hd (k H locs ls hP hS hl)
theorem b_imul {x y : Int32} (hX : Dok X nL cc ret rm own) (hd : decode cc pc = .ok (.imul, 1)) (k : Bw X nL Z cells slots (pc + 1) L (.int (x * y) :: S) Wd) : Bw X nL Z cells slots pc L (.int y :: .int x :: S) Wd := by
  obtain ⟨p, l, e, R, s, m, args, below, meth, c, ca, ρ, D, A⟩ := X
  obtain ⟨hx, hb, -⟩ := hX
  intro H locs ls hP hS hl
  exact lv_imul hx hb hd (k H locs ls hP hS hl)
theorem b_iand {x y : Int32} (hX : Dok X nL cc ret rm own) (hd : decode cc pc = .ok (.iand, 1)) (k : Bw X nL Z cells slots (pc + 1) L (.int (x &&& y) :: S) Wd) : Bw X nL Z cells slots pc L (.int y :: .int x :: S) Wd := by
  obtain ⟨p, l, e, R, s, m, args, below, meth, c, ca, ρ, D, A⟩ := X
  obtain ⟨hx, hb, -⟩ := hX
  intro H locs ls hP hS hl
  exact lv_iand hx hb hd (k H locs ls hP hS hl)
theorem b_ior {x y : Int32} (hX : Dok X nL cc ret rm own) (hd : decode cc pc = .ok (.ior, 1)) (k : Bw X nL Z cells slots (pc + 1) L (.int (x ||| y) :: S) Wd) : Bw X nL Z cells slots pc L (.int y :: .int x :: S) Wd := by
  obtain ⟨p, l, e, R, s, m, args, below, meth, c, ca, ρ, D, A⟩ := X
  obtain ⟨hx, hb, -⟩ := hX
  intro H locs ls hP hS hl
  exact lv_ior hx hb hd (k H locs ls hP hS hl)
theorem b_ixor {x y : Int32} (hX : Dok X nL cc ret rm own) (hd : decode cc pc = .ok (.ixor, 1)) (k : Bw X nL Z cells slots (pc + 1) L (.int (x ^^^ y) :: S) Wd) : Bw X nL Z cells slots pc L (.int y :: .int x :: S) Wd := by
  obtain ⟨p, l, e, R, s, m, args, below, meth, c, ca, ρ, D, A⟩ := X
  obtain ⟨hx, hb, -⟩ := hX
  intro H locs ls hP hS hl
  exact lv_ixor hx hb hd (k H locs ls hP hS hl)
theorem b_ishl {x y : Int32} (hX : Dok X nL cc ret rm own) (hd : decode cc pc = .ok (.ishl, 1)) (k : Bw X nL Z cells slots (pc + 1) L (.int (x <<< (y &&& 31)) :: S) Wd) : Bw X nL Z cells slots pc L (.int y :: .int x :: S) Wd := by
  obtain ⟨p, l, e, R, s, m, args, below, meth, c, ca, ρ, D, A⟩ := X
  obtain ⟨hx, hb, -⟩ := hX
  intro H locs ls hP hS hl
  exact lv_ishl hx hb hd (k H locs ls hP hS hl)
theorem b_ishr {x y : Int32} (hX : Dok X nL cc ret rm own) (hd : decode cc pc = .ok (.ishr, 1)) (k : Bw X nL Z cells slots (pc + 1) L (.int (x >>> (y &&& 31)) :: S) Wd) : Bw X nL Z cells slots pc L (.int y :: .int x :: S) Wd := by
  obtain ⟨p, l, e, R, s, m, args, below, meth, c, ca, ρ, D, A⟩ := X
  obtain ⟨hx, hb, -⟩ := hX
  intro H locs ls hP hS hl
  exact lv_ishr hx hb hd (k H locs ls hP hS hl)
theorem b_iushr {x y : Int32} (hX : Dok X nL cc ret rm own) (hd : decode cc pc = .ok (.iushr, 1)) (k : Bw X nL Z cells slots (pc + 1) L (.int (x.toUInt32 >>> (y.toUInt32 &&& Int32.toUInt32 31)).toInt32 :: S) Wd) : Bw X nL Z cells slots pc L (.int y :: .int x :: S) Wd := by
  obtain ⟨p, l, e, R, s, m, args, below, meth, c, ca, ρ, D, A⟩ := X
  obtain ⟨hx, hb, -⟩ := hX
  intro H locs ls hP hS hl
  exact lv_iushr hx hb hd rfl (k H locs ls hP hS hl)
theorem b_idiv {x y : Int32} (hX : Dok X nL cc ret rm own) (hd : decode cc pc = .ok (.idiv, 1)) (hne : ¬ y = 0) (k : Bw X nL Z cells slots (pc + 1) L (.int (x / y) :: S) Wd) : Bw X nL Z cells slots pc L (.int y :: .int x :: S) Wd := by
  obtain ⟨p, l, e, R, s, m, args, below, meth, c, ca, ρ, D, A⟩ := X
  obtain ⟨hx, hb, -⟩ := hX
  intro H locs ls hP hS hl
  exact lv_idiv hx hb hd hne (k H locs ls hP hS hl)
theorem b_irem {x y : Int32} (hX : Dok X nL cc ret rm own) (hd : decode cc pc = .ok (.irem, 1)) (hne : ¬ y = 0) (k : Bw X nL Z cells slots (pc + 1) L (.int (x - x / y * y) :: S) Wd) : Bw X nL Z cells slots pc L (.int y :: .int x :: S) Wd := by
  obtain ⟨p, l, e, R, s, m, args, below, meth, c, ca, ρ, D, A⟩ := X
  obtain ⟨hx, hb, -⟩ := hX
  intro H locs ls hP hS hl
  exact lv_irem hx hb hd hne (k H locs ls hP hS hl)
theorem b_ineg {x : Int32} (hX : Dok X nL cc ret rm own) (hd : decode cc pc = .ok (.ineg, 1)) (k : Bw X nL Z cells slots (pc + 1) L (.int (-x) :: S) Wd) : Bw X nL Z cells slots pc L (.int x :: S) Wd := by
  obtain ⟨p, l, e, R, s, m, args, below, meth, c, ca, ρ, D, A⟩ := X
  obtain ⟨hx, hb, -⟩ := hX
  intro H locs ls hP hS hl
  exact lv_ineg hx hb hd (k H locs ls hP hS hl)
theorem b_i2b {x : Int32} (hX : Dok X nL cc ret rm own) (hd : decode cc pc = .ok (.i2b, 1)) (k : Bw X nL Z cells slots (pc + 1) L (.int x.toInt8.toInt32 :: S) Wd) : Bw X nL Z cells slots pc L (.int x :: S) Wd := by
  obtain ⟨p, l, e, R, s, m, args, below, meth, c, ca, ρ, D, A⟩ := X
  obtain ⟨hx, hb, -⟩ := hX
  intro H locs ls hP hS hl
  exact lv_i2b hx hb hd rfl (k H locs ls hP hS hl)
theorem b_i2s {x : Int32} (hX : Dok X nL cc ret rm own) (hd : decode cc pc = .ok (.i2s, 1)) (k : Bw X nL Z cells slots (pc + 1) L (.int x.toInt16.toInt32 :: S) Wd) : Bw X nL Z cells slots pc L (.int x :: S) Wd := by
  obtain ⟨p, l, e, R, s, m, args, below, meth, c, ca, ρ, D, A⟩ := X
  obtain ⟨hx, hb, -⟩ := hX
  intro H locs ls hP hS hl
  exact lv_i2s hx hb hd rfl (k H locs ls hP hS hl)
theorem b_i2c {x : Int32} (hX : Dok X nL cc ret rm own) (hd : decode cc pc = .ok (.i2c, 1)) (k : Bw X nL Z cells slots (pc + 1) L (.int (x.toUInt32 % 65536).toInt32 :: S) Wd) : Bw X nL Z cells slots pc L (.int x :: S) Wd := by
  obtain ⟨p, l, e, R, s, m, args, below, meth, c, ca, ρ, D, A⟩ := X
  obtain ⟨hx, hb, -⟩ := hX
  intro H locs ls hP hS hl
  exact lv_i2c hx hb hd rfl (k H locs ls hP hS hl)
theorem b_i2l {x : Int32} (hX : Dok X nL cc ret rm own) (hd : decode cc pc = .ok (.i2l, 1)) (k : Bw X nL Z cells slots (pc + 1) L (.long x.toInt64 :: S) Wd) : Bw X nL Z cells slots pc L (.int x :: S) Wd := by
  obtain ⟨p, l, e, R, s, m, args, below, meth, c, ca, ρ, D, A⟩ := X
  obtain ⟨hx, hb, -⟩ := hX
  intro H locs ls hP hS hl
  exact lv_i2l hx hb hd rfl (k H locs ls hP hS hl)
theorem b_l2i {x : Int64} (hX : Dok X nL cc ret rm own) (hd : decode cc pc = .ok (.l2i, 1)) (k : Bw X nL Z cells slots (pc + 1) L (.int x.toInt32 :: S) Wd) : Bw X nL Z cells slots pc L (.long x :: S) Wd := by
  obtain ⟨p, l, e, R, s, m, args, below, meth, c, ca, ρ, D, A⟩ := X
  obtain ⟨hx, hb, -⟩ := hX
  intro H locs ls hP hS hl
  exact lv_l2i hx hb hd rfl (k H locs ls hP hS hl)
theorem b_lcmp {x y : Int64} (hX : Dok X nL cc ret rm own) (hd : decode cc pc = .ok (.lcmp, 1)) (k : Bw X nL Z cells slots (pc + 1) L (.int (lg_cmp x y) :: S) Wd) : Bw X nL Z cells slots pc L (.long y :: .long x :: S) Wd := by
  obtain ⟨p, l, e, R, s, m, args, below, meth, c, ca, ρ, D, A⟩ := X
  obtain ⟨hx, hb, -⟩ := hX
  intro H locs ls hP hS hl
  exact W.lcmp hx hb hd (k H locs ls hP hS hl)
theorem b_dup {v : Value} (hX : Dok X nL cc ret rm own) (hd : decode cc pc = .ok (.dup, 1)) (hv : v.category = 1) (k : Bw X nL Z cells slots (pc + 1) L (v :: v :: S) Wd) : Bw X nL Z cells slots pc L (v :: S) Wd := by
  obtain ⟨p, l, e, R, s, m, args, below, meth, c, ca, ρ, D, A⟩ := X
  obtain ⟨hx, hb, -⟩ := hX
  intro H locs ls hP hS hl
  exact lv_dup hx hb hd hv (k H locs ls hP hS hl)
theorem b_pop {v : Value} (hX : Dok X nL cc ret rm own) (hd : decode cc pc = .ok (.pop, 1)) (hv : v.category = 1) (k : Bw X nL Z cells slots (pc + 1) L (S) Wd) : Bw X nL Z cells slots pc L (v :: S) Wd := by
  obtain ⟨p, l, e, R, s, m, args, below, meth, c, ca, ρ, D, A⟩ := X
  obtain ⟨hx, hb, -⟩ := hX
  intro H locs ls hP hS hl
  exact lv_pop hx hb hd hv (k H locs ls hP hS hl)
theorem b_dup2 {v w : Value} (hX : Dok X nL cc ret rm own) (hd : decode cc pc = .ok (.dup2, 1)) (hv : v.category = 1) (hw : w.category = 1) (k : Bw X nL Z cells slots (pc + 1) L (v :: w :: v :: w :: S) Wd) : Bw X nL Z cells slots pc L (v :: w :: S) Wd := by
  obtain ⟨p, l, e, R, s, m, args, below, meth, c, ca, ρ, D, A⟩ := X
  obtain ⟨hx, hb, -⟩ := hX
  intro H locs ls hP hS hl
  exact lv_dup2_11 hx hb hd hv hw (k H locs ls hP hS hl)
theorem b_null (hX : Dok X nL cc ret rm own) (hd : decode cc pc = .ok (.aconst_null, 1)) (k : Bw X nL Z cells slots (pc + 1) L (.null :: S) Wd) : Bw X nL Z cells slots pc L (S) Wd := by
  obtain ⟨p, l, e, R, s, m, args, below, meth, c, ca, ρ, D, A⟩ := X
  obtain ⟨hx, hb, -⟩ := hX
  intro H locs ls hP hS hl
  exact lv_null hx hb hd (k H locs ls hP hS hl)
theorem b_iload {x : Int32} {i : Nat} (j : Nat) (hX : Dok X nL cc ret rm own) (hd : decode cc pc = .ok (.iload i, 2)) (hj : L[j]? = some (i, .int x)) (k : Bw X nL Z cells slots (pc + 2) L (.int x :: S) Wd) : Bw X nL Z cells slots pc L (S) Wd := by
  obtain ⟨p, l, e, R, s, m, args, below, meth, c, ca, ρ, D, A⟩ := X
  obtain ⟨hx, hb, -⟩ := hX
  intro H locs ls hP hS hl
  exact lv_iload hx hb hd (lv_at hl j hj) (k H locs ls hP hS hl)
theorem b_iload_n {x : Int32} {i : Nat} {k0 : Fin 4} (j : Nat) (hX : Dok X nL cc ret rm own) (hd : decode cc pc = .ok (.iload_n k0, 1)) (hi : (k0 : Nat) = i) (hj : L[j]? = some (i, .int x)) (k : Bw X nL Z cells slots (pc + 1) L (.int x :: S) Wd) : Bw X nL Z cells slots pc L (S) Wd := by
  obtain ⟨p, l, e, R, s, m, args, below, meth, c, ca, ρ, D, A⟩ := X
  obtain ⟨hx, hb, -⟩ := hX
  intro H locs ls hP hS hl
  exact lv_iload_n hx hb hd hi (lv_at hl j hj) (k H locs ls hP hS hl)
theorem b_lload {x : Int64} {i : Nat} (j : Nat) (hX : Dok X nL cc ret rm own) (hd : decode cc pc = .ok (.lload i, 2)) (hj : L[j]? = some (i, .long x)) (k : Bw X nL Z cells slots (pc + 2) L (.long x :: S) Wd) : Bw X nL Z cells slots pc L (S) Wd := by
  obtain ⟨p, l, e, R, s, m, args, below, meth, c, ca, ρ, D, A⟩ := X
  obtain ⟨hx, hb, -⟩ := hX
  intro H locs ls hP hS hl
  exact lv_lload hx hb hd (lv_at hl j hj) (k H locs ls hP hS hl)
theorem b_lload_n {x : Int64} {i : Nat} {k0 : Fin 4} (j : Nat) (hX : Dok X nL cc ret rm own) (hd : decode cc pc = .ok (.lload_n k0, 1)) (hi : (k0 : Nat) = i) (hj : L[j]? = some (i, .long x)) (k : Bw X nL Z cells slots (pc + 1) L (.long x :: S) Wd) : Bw X nL Z cells slots pc L (S) Wd := by
  obtain ⟨p, l, e, R, s, m, args, below, meth, c, ca, ρ, D, A⟩ := X
  obtain ⟨hx, hb, -⟩ := hX
  intro H locs ls hP hS hl
  exact lv_lload_n hx hb hd hi (lv_at hl j hj) (k H locs ls hP hS hl)
theorem b_aload {x : Nat} {i : Nat} (j : Nat) (hX : Dok X nL cc ret rm own) (hd : decode cc pc = .ok (.aload i, 2)) (hj : L[j]? = some (i, .ref x)) (k : Bw X nL Z cells slots (pc + 2) L (.ref x :: S) Wd) : Bw X nL Z cells slots pc L (S) Wd := by
  obtain ⟨p, l, e, R, s, m, args, below, meth, c, ca, ρ, D, A⟩ := X
  obtain ⟨hx, hb, -⟩ := hX
  intro H locs ls hP hS hl
  exact lv_aload hx hb hd (lv_at hl j hj) (k H locs ls hP hS hl)
theorem b_aload_n {x : Nat} {i : Nat} {k0 : Fin 4} (j : Nat) (hX : Dok X nL cc ret rm own) (hd : decode cc pc = .ok (.aload_n k0, 1)) (hi : (k0 : Nat) = i) (hj : L[j]? = some (i, .ref x)) (k : Bw X nL Z cells slots (pc + 1) L (.ref x :: S) Wd) : Bw X nL Z cells slots pc L (S) Wd := by
  obtain ⟨p, l, e, R, s, m, args, below, meth, c, ca, ρ, D, A⟩ := X
  obtain ⟨hx, hb, -⟩ := hX
  intro H locs ls hP hS hl
  exact lv_aload_n hx hb hd hi (lv_at hl j hj) (k H locs ls hP hS hl)
theorem b_aloadN {i : Nat} (j : Nat) (hX : Dok X nL cc ret rm own) (hd : decode cc pc = .ok (.aload i, 2)) (hj : L[j]? = some (i, .null)) (k : Bw X nL Z cells slots (pc + 2) L (.null :: S) Wd) : Bw X nL Z cells slots pc L (S) Wd := by
  obtain ⟨p, l, e, R, s, m, args, below, meth, c, ca, ρ, D, A⟩ := X
  obtain ⟨hx, hb, -⟩ := hX
  intro H locs ls hP hS hl
  exact lv_aloadN hx hb hd (lv_at hl j hj) (k H locs ls hP hS hl)
theorem b_aload_nN {i : Nat} {k0 : Fin 4} (j : Nat) (hX : Dok X nL cc ret rm own) (hd : decode cc pc = .ok (.aload_n k0, 1)) (hi : (k0 : Nat) = i) (hj : L[j]? = some (i, .null)) (k : Bw X nL Z cells slots (pc + 1) L (.null :: S) Wd) : Bw X nL Z cells slots pc L (S) Wd := by
  obtain ⟨p, l, e, R, s, m, args, below, meth, c, ca, ρ, D, A⟩ := X
  obtain ⟨hx, hb, -⟩ := hX
  intro H locs ls hP hS hl
  exact lv_aload_nN hx hb hd hi (lv_at hl j hj) (k H locs ls hP hS hl)
theorem b_istore {x : Int32} {i : Nat} (hX : Dok X nL cc ret rm own) (hd : decode cc pc = .ok (.istore i, 2)) (hn : i < nL) (hL : stL i (.int x) L = L') (k : Bw X nL Z cells slots (pc + 2) L' S Wd) : Bw X nL Z cells slots pc L (.int x :: S) Wd := by
  obtain ⟨p, l, e, R, s, m, args, below, meth, c, ca, ρ, D, A⟩ := X
  obtain ⟨hx, hb, -⟩ := hX
  intro H locs ls hP hS hl
  refine lv_istore (lv' := L') hx hb hd hl hn ?_ (fun ls' hl' => k H locs ls' hP hS hl')
  rw [← hL]
  rfl
theorem b_istore_n {x : Int32} {i : Nat} {k0 : Fin 4} (hX : Dok X nL cc ret rm own) (hd : decode cc pc = .ok (.istore_n k0, 1)) (hi : (k0 : Nat) = i) (hn : i < nL) (hL : stL i (.int x) L = L') (k : Bw X nL Z cells slots (pc + 1) L' S Wd) : Bw X nL Z cells slots pc L (.int x :: S) Wd := by
  obtain ⟨p, l, e, R, s, m, args, below, meth, c, ca, ρ, D, A⟩ := X
  obtain ⟨hx, hb, -⟩ := hX
  intro H locs ls hP hS hl
  refine lv_istore_n (lv' := L') hx hb hd hi hl hn ?_ (fun ls' hl' => k H locs ls' hP hS hl')
  rw [← hL]
  rfl
theorem b_astore {x : Nat} {i : Nat} (hX : Dok X nL cc ret rm own) (hd : decode cc pc = .ok (.astore i, 2)) (hn : i < nL) (hL : stL i (.ref x) L = L') (k : Bw X nL Z cells slots (pc + 2) L' S Wd) : Bw X nL Z cells slots pc L (.ref x :: S) Wd := by
  obtain ⟨p, l, e, R, s, m, args, below, meth, c, ca, ρ, D, A⟩ := X
  obtain ⟨hx, hb, -⟩ := hX
  intro H locs ls hP hS hl
  refine lv_astore (lv' := L') hx hb hd hl hn ?_ (fun ls' hl' => k H locs ls' hP hS hl')
  rw [← hL]
  rfl
theorem b_astore_n {x : Nat} {i : Nat} {k0 : Fin 4} (hX : Dok X nL cc ret rm own) (hd : decode cc pc = .ok (.astore_n k0, 1)) (hi : (k0 : Nat) = i) (hn : i < nL) (hL : stL i (.ref x) L = L') (k : Bw X nL Z cells slots (pc + 1) L' S Wd) : Bw X nL Z cells slots pc L (.ref x :: S) Wd := by
  obtain ⟨p, l, e, R, s, m, args, below, meth, c, ca, ρ, D, A⟩ := X
  obtain ⟨hx, hb, -⟩ := hX
  intro H locs ls hP hS hl
  refine lv_astore_n (lv' := L') hx hb hd hi hl hn ?_ (fun ls' hl' => k H locs ls' hP hS hl')
  rw [← hL]
  rfl
theorem b_astoreN {i : Nat} (hX : Dok X nL cc ret rm own) (hd : decode cc pc = .ok (.astore i, 2)) (hn : i < nL) (hL : stL i .null L = L') (k : Bw X nL Z cells slots (pc + 2) L' S Wd) : Bw X nL Z cells slots pc L (.null :: S) Wd := by
  obtain ⟨p, l, e, R, s, m, args, below, meth, c, ca, ρ, D, A⟩ := X
  obtain ⟨hx, hb, -⟩ := hX
  intro H locs ls hP hS hl
  refine lv_astoreN (lv' := L') hx hb hd hl hn ?_ (fun ls' hl' => k H locs ls' hP hS hl')
  rw [← hL]
  rfl
theorem b_astore_nN {i : Nat} {k0 : Fin 4} (hX : Dok X nL cc ret rm own) (hd : decode cc pc = .ok (.astore_n k0, 1)) (hi : (k0 : Nat) = i) (hn : i < nL) (hL : stL i .null L = L') (k : Bw X nL Z cells slots (pc + 1) L' S Wd) : Bw X nL Z cells slots pc L (.null :: S) Wd := by
  obtain ⟨p, l, e, R, s, m, args, below, meth, c, ca, ρ, D, A⟩ := X
  obtain ⟨hx, hb, -⟩ := hX
  intro H locs ls hP hS hl
  refine lv_astore_nN (lv' := L') hx hb hd hi hl hn ?_ (fun ls' hl' => k H locs ls' hP hS hl')
  rw [← hL]
  rfl
theorem b_iinc {x v : Int32} {i : Nat} {n : Int} (j : Nat) (hX : Dok X nL cc ret rm own) (hd : decode cc pc = .ok (.iinc i n, 3)) (hj : L[j]? = some (i, .int x)) (hv : x + Int32.ofInt n = v) (hn : i < nL) (hL : stL i (.int v) L = L') (k : Bw X nL Z cells slots (pc + 3) L' S Wd) : Bw X nL Z cells slots pc L S Wd := by
  obtain ⟨p, l, e, R, s, m, args, below, meth, c, ca, ρ, D, A⟩ := X
  obtain ⟨hx, hb, -⟩ := hX
  intro H locs ls hP hS hl
  refine lv_iinc (lv' := L') hx hb hd hl hj hv hn ?_ (fun ls' hl' => k H locs ls' hP hS hl')
  rw [← hL]
  rfl
theorem b_if_eq {x : Int32} {off : Int} (tgt : Nat) (hX : Dok X nL cc ret rm own) (hd : decode cc pc = .ok (.ifCond .eq off, 3)) (ht : (pc : Int) + off = (tgt : Int)) (kt : x = 0 → Bw X nL Z cells slots tgt L S Wd) (kf : ¬ (x = 0) → Bw X nL Z cells slots (pc + 3) L S Wd) : Bw X nL Z cells slots pc L (.int x :: S) Wd := by
  obtain ⟨p, l, e, R, s, m, args, below, meth, c, ca, ρ, D, A⟩ := X
  obtain ⟨hx, hb, -⟩ := hX
  intro H locs ls hP hS hl
  exact lv_if_eq hx hb hd ht (fun q => kt q H locs ls hP hS hl) (fun q => kf q H locs ls hP hS hl)
theorem b_icmp_eq {x y : Int32} {off : Int} (tgt : Nat) (hX : Dok X nL cc ret rm own) (hd : decode cc pc = .ok (.if_icmp .eq off, 3)) (ht : (pc : Int) + off = (tgt : Int)) (kt : x = y → Bw X nL Z cells slots tgt L S Wd) (kf : ¬ (x = y) → Bw X nL Z cells slots (pc + 3) L S Wd) : Bw X nL Z cells slots pc L (.int y :: .int x :: S) Wd := by
  obtain ⟨p, l, e, R, s, m, args, below, meth, c, ca, ρ, D, A⟩ := X
  obtain ⟨hx, hb, -⟩ := hX
  intro H locs ls hP hS hl
  exact lv_icmp_eq hx hb hd ht (fun q => kt q H locs ls hP hS hl) (fun q => kf q H locs ls hP hS hl)
theorem b_if_ne {x : Int32} {off : Int} (tgt : Nat) (hX : Dok X nL cc ret rm own) (hd : decode cc pc = .ok (.ifCond .ne off, 3)) (ht : (pc : Int) + off = (tgt : Int)) (kt : ¬ x = 0 → Bw X nL Z cells slots tgt L S Wd) (kf : x = 0 → Bw X nL Z cells slots (pc + 3) L S Wd) : Bw X nL Z cells slots pc L (.int x :: S) Wd := by
  obtain ⟨p, l, e, R, s, m, args, below, meth, c, ca, ρ, D, A⟩ := X
  obtain ⟨hx, hb, -⟩ := hX
  intro H locs ls hP hS hl
  exact lv_if_ne hx hb hd ht (fun q => kt q H locs ls hP hS hl) (fun q => kf q H locs ls hP hS hl)
theorem b_icmp_ne {x y : Int32} {off : Int} (tgt : Nat) (hX : Dok X nL cc ret rm own) (hd : decode cc pc = .ok (.if_icmp .ne off, 3)) (ht : (pc : Int) + off = (tgt : Int)) (kt : ¬ x = y → Bw X nL Z cells slots tgt L S Wd) (kf : x = y → Bw X nL Z cells slots (pc + 3) L S Wd) : Bw X nL Z cells slots pc L (.int y :: .int x :: S) Wd := by
  obtain ⟨p, l, e, R, s, m, args, below, meth, c, ca, ρ, D, A⟩ := X
  obtain ⟨hx, hb, -⟩ := hX
  intro H locs ls hP hS hl
  exact lv_icmp_ne hx hb hd ht (fun q => kt q H locs ls hP hS hl) (fun q => kf q H locs ls hP hS hl)
theorem b_if_lt {x : Int32} {off : Int} (tgt : Nat) (hX : Dok X nL cc ret rm own) (hd : decode cc pc = .ok (.ifCond .lt off, 3)) (ht : (pc : Int) + off = (tgt : Int)) (kt : x < 0 → Bw X nL Z cells slots tgt L S Wd) (kf : ¬ (x < 0) → Bw X nL Z cells slots (pc + 3) L S Wd) : Bw X nL Z cells slots pc L (.int x :: S) Wd := by
  obtain ⟨p, l, e, R, s, m, args, below, meth, c, ca, ρ, D, A⟩ := X
  obtain ⟨hx, hb, -⟩ := hX
  intro H locs ls hP hS hl
  exact lv_if_lt hx hb hd ht (fun q => kt q H locs ls hP hS hl) (fun q => kf q H locs ls hP hS hl)
theorem b_icmp_lt {x y : Int32} {off : Int} (tgt : Nat) (hX : Dok X nL cc ret rm own) (hd : decode cc pc = .ok (.if_icmp .lt off, 3)) (ht : (pc : Int) + off = (tgt : Int)) (kt : x < y → Bw X nL Z cells slots tgt L S Wd) (kf : ¬ (x < y) → Bw X nL Z cells slots (pc + 3) L S Wd) : Bw X nL Z cells slots pc L (.int y :: .int x :: S) Wd := by
  obtain ⟨p, l, e, R, s, m, args, below, meth, c, ca, ρ, D, A⟩ := X
  obtain ⟨hx, hb, -⟩ := hX
  intro H locs ls hP hS hl
  exact lv_icmp_lt hx hb hd ht (fun q => kt q H locs ls hP hS hl) (fun q => kf q H locs ls hP hS hl)
theorem b_if_ge {x : Int32} {off : Int} (tgt : Nat) (hX : Dok X nL cc ret rm own) (hd : decode cc pc = .ok (.ifCond .ge off, 3)) (ht : (pc : Int) + off = (tgt : Int)) (kt : 0 ≤ x → Bw X nL Z cells slots tgt L S Wd) (kf : ¬ (0 ≤ x) → Bw X nL Z cells slots (pc + 3) L S Wd) : Bw X nL Z cells slots pc L (.int x :: S) Wd := by
  obtain ⟨p, l, e, R, s, m, args, below, meth, c, ca, ρ, D, A⟩ := X
  obtain ⟨hx, hb, -⟩ := hX
  intro H locs ls hP hS hl
  exact lv_if_ge hx hb hd ht (fun q => kt q H locs ls hP hS hl) (fun q => kf q H locs ls hP hS hl)
theorem b_icmp_ge {x y : Int32} {off : Int} (tgt : Nat) (hX : Dok X nL cc ret rm own) (hd : decode cc pc = .ok (.if_icmp .ge off, 3)) (ht : (pc : Int) + off = (tgt : Int)) (kt : y ≤ x → Bw X nL Z cells slots tgt L S Wd) (kf : ¬ (y ≤ x) → Bw X nL Z cells slots (pc + 3) L S Wd) : Bw X nL Z cells slots pc L (.int y :: .int x :: S) Wd := by
  obtain ⟨p, l, e, R, s, m, args, below, meth, c, ca, ρ, D, A⟩ := X
  obtain ⟨hx, hb, -⟩ := hX
  intro H locs ls hP hS hl
  exact lv_icmp_ge hx hb hd ht (fun q => kt q H locs ls hP hS hl) (fun q => kf q H locs ls hP hS hl)
theorem b_if_gt {x : Int32} {off : Int} (tgt : Nat) (hX : Dok X nL cc ret rm own) (hd : decode cc pc = .ok (.ifCond .gt off, 3)) (ht : (pc : Int) + off = (tgt : Int)) (kt : 0 < x → Bw X nL Z cells slots tgt L S Wd) (kf : ¬ (0 < x) → Bw X nL Z cells slots (pc + 3) L S Wd) : Bw X nL Z cells slots pc L (.int x :: S) Wd := by
  obtain ⟨p, l, e, R, s, m, args, below, meth, c, ca, ρ, D, A⟩ := X
  obtain ⟨hx, hb, -⟩ := hX
  intro H locs ls hP hS hl
  exact lv_if_gt hx hb hd ht (fun q => kt q H locs ls hP hS hl) (fun q => kf q H locs ls hP hS hl)
theorem b_icmp_gt {x y : Int32} {off : Int} (tgt : Nat) (hX : Dok X nL cc ret rm own) (hd : decode cc pc = .ok (.if_icmp .gt off, 3)) (ht : (pc : Int) + off = (tgt : Int)) (kt : y < x → Bw X nL Z cells slots tgt L S Wd) (kf : ¬ (y < x) → Bw X nL Z cells slots (pc + 3) L S Wd) : Bw X nL Z cells slots pc L (.int y :: .int x :: S) Wd := by
  obtain ⟨p, l, e, R, s, m, args, below, meth, c, ca, ρ, D, A⟩ := X
  obtain ⟨hx, hb, -⟩ := hX
  intro H locs ls hP hS hl
  exact lv_icmp_gt hx hb hd ht (fun q => kt q H locs ls hP hS hl) (fun q => kf q H locs ls hP hS hl)
theorem b_if_le {x : Int32} {off : Int} (tgt : Nat) (hX : Dok X nL cc ret rm own) (hd : decode cc pc = .ok (.ifCond .le off, 3)) (ht : (pc : Int) + off = (tgt : Int)) (kt : x ≤ 0 → Bw X nL Z cells slots tgt L S Wd) (kf : ¬ (x ≤ 0) → Bw X nL Z cells slots (pc + 3) L S Wd) : Bw X nL Z cells slots pc L (.int x :: S) Wd := by
  obtain ⟨p, l, e, R, s, m, args, below, meth, c, ca, ρ, D, A⟩ := X
  obtain ⟨hx, hb, -⟩ := hX
  intro H locs ls hP hS hl
  exact lv_if_le hx hb hd ht (fun q => kt q H locs ls hP hS hl) (fun q => kf q H locs ls hP hS hl)
theorem b_icmp_le {x y : Int32} {off : Int} (tgt : Nat) (hX : Dok X nL cc ret rm own) (hd : decode cc pc = .ok (.if_icmp .le off, 3)) (ht : (pc : Int) + off = (tgt : Int)) (kt : x ≤ y → Bw X nL Z cells slots tgt L S Wd) (kf : ¬ (x ≤ y) → Bw X nL Z cells slots (pc + 3) L S Wd) : Bw X nL Z cells slots pc L (.int y :: .int x :: S) Wd := by
  obtain ⟨p, l, e, R, s, m, args, below, meth, c, ca, ρ, D, A⟩ := X
  obtain ⟨hx, hb, -⟩ := hX
  intro H locs ls hP hS hl
  exact lv_icmp_le hx hb hd ht (fun q => kt q H locs ls hP hS hl) (fun q => kf q H locs ls hP hS hl)
theorem b_goto {off : Int} (tgt : Nat) (hX : Dok X nL cc ret rm own) (hd : decode cc pc = .ok (.goto off, 3)) (ht : (pc : Int) + off = (tgt : Int)) (k : Bw X nL Z cells slots tgt L S Wd) : Bw X nL Z cells slots pc L S Wd := by
  obtain ⟨p, l, e, R, s, m, args, below, meth, c, ca, ρ, D, A⟩ := X
  obtain ⟨hx, hb, -⟩ := hX
  intro H locs ls hP hS hl
  exact lv_goto hx hb hd ht (k H locs ls hP hS hl)
theorem b_ifnull {o : Nat} {off : Int} (hX : Dok X nL cc ret rm own) (hd : decode cc pc = .ok (.ifnull off, 3)) (k : Bw X nL Z cells slots (pc + 3) L S Wd) : Bw X nL Z cells slots pc L (.ref o :: S) Wd := by
  obtain ⟨p, l, e, R, s, m, args, below, meth, c, ca, ρ, D, A⟩ := X
  obtain ⟨hx, hb, -⟩ := hX
  intro H locs ls hP hS hl
  exact lv_ifnull hx hb hd (k H locs ls hP hS hl)
theorem b_ifnonnull {o : Nat} {off : Int} (tgt : Nat) (hX : Dok X nL cc ret rm own) (hd : decode cc pc = .ok (.ifnonnull off, 3)) (ht : (pc : Int) + off = (tgt : Int)) (k : Bw X nL Z cells slots tgt L S Wd) : Bw X nL Z cells slots pc L (.ref o :: S) Wd := by
  obtain ⟨p, l, e, R, s, m, args, below, meth, c, ca, ρ, D, A⟩ := X
  obtain ⟨hx, hb, -⟩ := hX
  intro H locs ls hP hS hl
  exact lv_ifnonnull hx hb hd ht (k H locs ls hP hS hl)
theorem b_ifnullN {off : Int} (tgt : Nat) (hX : Dok X nL cc ret rm own) (hd : decode cc pc = .ok (.ifnull off, 3)) (ht : (pc : Int) + off = (tgt : Int)) (k : Bw X nL Z cells slots tgt L S Wd) : Bw X nL Z cells slots pc L (.null :: S) Wd := by
  obtain ⟨p, l, e, R, s, m, args, below, meth, c, ca, ρ, D, A⟩ := X
  obtain ⟨hx, hb, -⟩ := hX
  intro H locs ls hP hS hl
  exact lv_ifnullN hx hb hd ht (k H locs ls hP hS hl)
theorem b_ifnonnullN {off : Int} (hX : Dok X nL cc ret rm own) (hd : decode cc pc = .ok (.ifnonnull off, 3)) (k : Bw X nL Z cells slots (pc + 3) L S Wd) : Bw X nL Z cells slots pc L (.null :: S) Wd := by
  obtain ⟨p, l, e, R, s, m, args, below, meth, c, ca, ρ, D, A⟩ := X
  obtain ⟨hx, hb, -⟩ := hX
  intro H locs ls hP hS hl
  exact lv_ifnonnullN hx hb hd (k H locs ls hP hS hl)
theorem b_tableIn {x : Int32} {dflt lo hi : Int} {offs : Array Int} {len : Nat} {off : Int} (tgt : Nat) (hX : Dok X nL cc ret rm own) (hd : decode cc pc = .ok (.tableswitch dflt lo hi offs, len)) (h1 : ¬ x.toInt < lo) (h2 : ¬ hi < x.toInt) (ho : offs[(x.toInt - lo).toNat]? = some off) (ht : (pc : Int) + off = (tgt : Int)) (k : Bw X nL Z cells slots tgt L S Wd) : Bw X nL Z cells slots pc L (.int x :: S) Wd := by
  obtain ⟨p, l, e, R, s, m, args, below, meth, c, ca, ρ, D, A⟩ := X
  obtain ⟨hx, hb, -⟩ := hX
  intro H locs ls hP hS hl
  exact lv_tableIn hx hb hd h1 h2 ho ht (k H locs ls hP hS hl)
theorem b_tableOut {x : Int32} {dflt lo hi : Int} {offs : Array Int} {len : Nat} (tgt : Nat) (hX : Dok X nL cc ret rm own) (hd : decode cc pc = .ok (.tableswitch dflt lo hi offs, len)) (h : x.toInt < lo ∨ hi < x.toInt) (ht : (pc : Int) + dflt = (tgt : Int)) (k : Bw X nL Z cells slots tgt L S Wd) : Bw X nL Z cells slots pc L (.int x :: S) Wd := by
  obtain ⟨p, l, e, R, s, m, args, below, meth, c, ca, ρ, D, A⟩ := X
  obtain ⟨hx, hb, -⟩ := hX
  intro H locs ls hP hS hl
  exact lv_tableOut hx hb hd h ht (k H locs ls hP hS hl)
theorem b_lookup {x : Int32} {dflt : Int} {ps : Array (Int × Int)} {len : Nat} {off : Int} (tgt : Nat) (hX : Dok X nL cc ret rm own) (hd : decode cc pc = .ok (.lookupswitch dflt ps, len)) (hp : (ps.toList.zip (ps.toList.drop 1)).all (fun (a, next) => a.1 < next.1) = true) (ho : Op.lookupswitch.offset ps.toList dflt x.toInt = off) (ht : (pc : Int) + off = (tgt : Int)) (k : Bw X nL Z cells slots tgt L S Wd) : Bw X nL Z cells slots pc L (.int x :: S) Wd := by
  obtain ⟨p, l, e, R, s, m, args, below, meth, c, ca, ρ, D, A⟩ := X
  obtain ⟨hx, hb, -⟩ := hX
  intro H locs ls hP hS hl
  exact lv_lookup hx hb hd hp ho ht (k H locs ls hP hS hl)
theorem b_ldc {v : Int32} {index : Nat} (hX : Dok X nL cc ret rm own) (hd : decode cc pc = .ok (.ldc index, 2)) (hl : Cond.constant own index v ∈ TB) (k : Bw X nL Z cells slots (pc + 2) L (.int v :: S) Wd) : Bw X nL Z cells slots pc L S Wd := by
  obtain ⟨p, l, e, R, s, m, args, below, meth, c, ca, ρ, D, A⟩ := X
  obtain ⟨hx, hb, hown, hts, -⟩ := hX
  intro H locs ls hP hS hl'
  exact lv_ldc hx hb hown (hts _ hl) hd (k H locs ls hP hS hl')
theorem b_ldc2 {v : Int64} {index : Nat} (hX : Dok X nL cc ret rm own) (hd : decode cc pc = .ok (.ldc2_w index, 3)) (hl : Cond.constantLong own index v ∈ TB) (k : Bw X nL Z cells slots (pc + 3) L (.long v :: S) Wd) : Bw X nL Z cells slots pc L S Wd := by
  obtain ⟨p, l, e, R, s, m, args, below, meth, c, ca, ρ, D, A⟩ := X
  obtain ⟨hx, hb, hown, hts, -⟩ := hX
  intro H locs ls hP hS hl'
  exact lv_ldc2 hx hb hown (hts _ hl) hd (k H locs ls hP hS hl')
theorem b_ldc_w {v : Int32} {index : Nat} (hX : Dok X nL cc ret rm own) (hd : decode cc pc = .ok (.ldc_w index, 3)) (hl : Cond.constant own index v ∈ TB) (k : Bw X nL Z cells slots (pc + 3) L (.int v :: S) Wd) : Bw X nL Z cells slots pc L S Wd := by
  obtain ⟨p, l, e, R, s, m, args, below, meth, c, ca, ρ, D, A⟩ := X
  obtain ⟨hx, hb, hown, hts, -⟩ := hX
  intro H locs ls hP hS hl'
  exact lv_ldcw hx hb hown (hts _ hl) hd (k H locs ls hP hS hl')
end BR
