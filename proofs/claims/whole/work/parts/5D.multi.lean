/-! AN ARRAY OF ARRAYS IS MADE AT ONCE: what 'multianewarray' with two lengths does to the heap. The outer array comes first, then the inner ones one behind the other, each noted in its place. -/
def mxO (cA : ClassId) (N h i : Nat) : Cell := arrV cA N (fun j => if j < i then Value.ref (h + 1 + j) else Value.null)
def mxI (cI : ClassId) (M : Nat) (dv : Value) : Cell := { cls := cI, slots := Array.replicate M dv, vm := .none }
def mxT (T : State) (cA cI : ClassId) (N M : Nat) (dv : Value) : Nat → State
  | 0 => T.pushCell { cls := cA, slots := Array.replicate N .null, vm := .none }
  | i + 1 => ((mxT T cA cI N M dv i).pushCell (mxI cI M dv)).setCell T.heap.size ((mxO cA N T.heap.size i).setSlot i (.ref (T.heap.size + 1 + i)))
theorem mxO_step (cA : ClassId) (N h i : Nat) : (mxO cA N h i).setSlot i (.ref (h + 1 + i)) = mxO cA N h (i + 1) := by
  unfold mxO
  rw [arrV_store]
  congr 1
  funext j
  unfold updV
  by_cases h1 : j = i
  · subst h1; simp
  · rw [if_neg h1]
    show (if j < i then Value.ref (h + 1 + j) else Value.null) = _
    by_cases h2 : j < i
    · rw [if_pos h2, if_pos (by omega)]
    · rw [if_neg h2, if_neg (by omega)]
theorem mxT_is (T : State) (cA cI : ClassId) (N M : Nat) (dv : Value) : ∀ i, (mxT T cA cI N M dv i).heap.size = T.heap.size + 1 + i ∧ (mxT T cA cI N M dv i).vm = T.vm ∧ (mxT T cA cI N M dv i).slotsUsed = T.slotsUsed + N + i * M
    ∧ (mxT T cA cI N M dv i).heap[T.heap.size]? = some (mxO cA N T.heap.size i)
    ∧ (∀ q, q < T.heap.size → (mxT T cA cI N M dv i).heap[q]? = T.heap[q]?)
    ∧ ∀ j, j < i → (mxT T cA cI N M dv i).heap[T.heap.size + 1 + j]? = some (mxI cI M dv)
  | 0 => by
    refine ⟨by simp [mxT], rfl, by simp [mxT], ?_, fun q hq => State.heap_pushCell_of_lt _ _ hq, fun j hj => absurd hj (Nat.not_lt_zero _)⟩
    show (T.pushCell _).heap[T.heap.size]? = _
    rw [State.heap_pushCell_size, arrV_new]
    simp [mxO]
  | i + 1 => by
    obtain ⟨h1, h2, h3, h4, h5, h6⟩ := mxT_is T cA cI N M dv i
    have l0 : T.heap.size < (mxT T cA cI N M dv i).heap.size := by omega
    have h4' : ((mxT T cA cI N M dv i).pushCell (mxI cI M dv)).heap[T.heap.size]? = some (mxO cA N T.heap.size i) := by rw [State.heap_pushCell_of_lt (h := l0)]; exact h4
    refine ⟨?_, by simp [mxT, h2], ?_, ?_, fun q hq => ?_, fun j hj => ?_⟩
    · simp [mxT, State.setCell, h1]; omega
    · simp [mxT, h3, mxI, Nat.succ_mul]; omega
    · rw [← mxO_step]; exact State.heap_setCell_self h4'
    · show (((mxT T cA cI N M dv i).pushCell (mxI cI M dv)).setCell T.heap.size _).heap[q]? = _
      rw [State.heap_setCell_other (Nat.ne_of_gt hq), State.heap_pushCell_of_lt (h := Nat.lt_trans hq l0)]
      exact h5 q hq
    · show (((mxT T cA cI N M dv i).pushCell (mxI cI M dv)).setCell T.heap.size _).heap[T.heap.size + 1 + j]? = _
      rw [State.heap_setCell_other (show T.heap.size ≠ T.heap.size + 1 + j by omega)]
      by_cases hj' : j < i
      · have l1 : T.heap.size + 1 + j < (mxT T cA cI N M dv i).heap.size := by omega
        rw [State.heap_pushCell_of_lt (h := l1)]; exact h6 j hj'
      · rw [show T.heap.size + 1 + j = (mxT T cA cI N M dv i).heap.size by omega]
        exact State.heap_pushCell_size _ _
theorem mxT_top (T : State) (g : JFrame) (cA cI : ClassId) (N M : Nat) (dv : Value) : ∀ i, mxT (T.setTop g) cA cI N M dv i = (mxT T cA cI N M dv i).setTop g
  | 0 => rfl
  | i + 1 => by simp only [mxT, mxT_top T g cA cI N M dv i, State.heap_setTop, State.pushCell_setTop, State.setCell_setTop]
theorem mxT_stand {p : Program} {l : Launch} {e : Env} {R : Room} {s : State} {m : MethodId} {args : Array Value} {below : List Frame} {meth : Method} {c : Code} {T : State} {locs : List Loc} {cells slots : Nat} (X : Stand p l e R s m args below meth c T locs cells slots) (cA cI : ClassId) (N M : Nat) (dv : Value) :
    ∀ i, ∃ ln : List Loc, (∀ q ∈ ln, q.base = T.heap.size) ∧ Stand p l e R s m args below meth c (mxT T cA cI N M dv i) (locs ++ ln) (cells + 1 + i) (slots + N + i * M)
  | 0 => ⟨[], fun _ h => absurd h List.not_mem_nil, by
      have h := X.pushed { cls := cA, slots := Array.replicate N .null, vm := .none }
      simpa [mxT] using h⟩
  | i + 1 => by
    obtain ⟨ln, hln, Xi⟩ := mxT_stand X cA cI N M dv i
    obtain ⟨h1, -, -, h4, -, -⟩ := mxT_is T cA cI N M dv i
    have l0 : T.heap.size < (mxT T cA cI N M dv i).heap.size := by omega
    have h4' : ((mxT T cA cI N M dv i).pushCell (mxI cI M dv)).heap[T.heap.size]? = some (mxO cA N T.heap.size i) := by rw [State.heap_pushCell_of_lt (h := l0)]; exact h4
    have h := (Xi.pushed (mxI cI M dv)).stored h4' i (.ref (T.heap.size + 1 + i))
    refine ⟨ln ++ [⟨T.heap.size, i⟩], fun q hq => ?_, ?_⟩
    · rcases List.mem_append.mp hq with z | z
      · exact hln q z
      · rw [List.mem_singleton.mp z]
    · rw [← List.append_assoc]
      have e3 : slots + N + (i + 1) * M = slots + N + i * M + (mxI cI M dv).slots.size := by simp [mxI, Nat.succ_mul]; omega
      rw [e3]
      exact h
theorem mx_fitsRef {t : FieldType} (h : t.isReference = true) : fits t .null = true ∧ ∀ a, fits t (.ref a) = true := by
  cases t with
  | object _ => exact ⟨rfl, fun _ => rfl⟩
  | array _ => exact ⟨rfl, fun _ => rfl⟩
  | _ => cases h
section
variable {E : CtlPost} {e : Env} {d : Bool} {acts : List Action}
theorem mx_one {s : State} {cI cc : ClassId} {kI : Class} {ty : FieldType} {k : Int32} (hk : s.vm.classes[cI]? = some kI) (hkind : kI.kind = .array cc ty) (h0 : ¬ k < 0)
    (hl : ¬ k.toNatClampNeg > e.platform.arrayLengthLimit) (hb : ¬ k.toNatClampNeg * componentBytes ty > e.platform.maxHeapBytes) (hf : fits ty (defaultValue ty) = true)
    (h1 : s.heap.size < e.platform.maxCells) (h2 : s.slotsUsed + k.toNatClampNeg ≤ e.platform.maxSlots) {Q : Addr → Pre} (hq : ∀ acts', Q s.heap.size d acts' (s.pushCell (mxI cI k.toNatClampNeg (defaultValue ty)))) :
    wp (multianewarray.make cI [k]) Q E e d acts s := by
  rw [multianewarray.make]
  simp only [wp_bind', W.ite, h0, if_false, wp_pure', W.theClass, hk, hkind, Option.some.injEq, exists_eq_left']
  exact W.newArray_of hk hkind hl hb h1 h2 hf hq
theorem mx_run {s0 : State} {cA cI cc : ClassId} {kA kI : Class} {t0 ty : FieldType} {N : Nat} {k : Int32} (hkA : s0.vm.classes[cA]? = some kA) (hkindA : kA.kind = .array cI t0) (href : t0.isReference = true)
    (hkI : s0.vm.classes[cI]? = some kI) (hkindI : kI.kind = .array cc ty) (h0 : ¬ k < 0) (hl : ¬ k.toNatClampNeg > e.platform.arrayLengthLimit) (hb : ¬ k.toNatClampNeg * componentBytes ty > e.platform.maxHeapBytes)
    (hf : fits ty (defaultValue ty) = true) (hc : s0.heap.size + 1 + N ≤ e.platform.maxCells) (hs : s0.slotsUsed + N + N * k.toNatClampNeg ≤ e.platform.maxSlots) :
    ∀ (r i : Nat) (d : Bool) (acts : List Action) (Q : PUnit → Pre), i + r = N → (∀ d' acts', Q PUnit.unit d' acts' (mxT s0 cA cI N k.toNatClampNeg (defaultValue ty) N)) →
      wp (forIn (List.range' i r 1) PUnit.unit (fun j (_ : PUnit) => do
        Jvm.writeLoc s0.heap.size j (.ref (← multianewarray.make cI [k]))
        Pure.pure (ForInStep.yield PUnit.unit))) Q E e d acts (mxT s0 cA cI N k.toNatClampNeg (defaultValue ty) i)
  | 0, i, d, acts, Q, hi, hq => by
    rw [show i = N by omega]
    simp only [List.range'_zero, List.forIn_nil, wp_pure']
    exact hq _ _
  | r + 1, i, d, acts, Q, hi, hq => by
    obtain ⟨h1, h2, h3, h4, -, -⟩ := mxT_is s0 cA cI N k.toNatClampNeg (defaultValue ty) i
    have hmul : i * k.toNatClampNeg + k.toNatClampNeg ≤ N * k.toNatClampNeg := by
      rw [← Nat.succ_mul]; exact Nat.mul_le_mul_right _ (by omega)
    have l0 : s0.heap.size < (mxT s0 cA cI N k.toNatClampNeg (defaultValue ty) i).heap.size := by omega
    rw [List.range'_succ]
    simp only [List.forIn_cons, wp_bind']
    refine mx_one (by rw [h2]; exact hkI) hkindI h0 hl hb hf (by omega) (by omega) (fun acts' => ?_)
    simp only [wp_bind', W.writeLoc, wp_pure']
    refine ⟨mxO cA N s0.heap.size i, by rw [State.heap_pushCell_of_lt (h := l0)]; exact h4, (fun z => by cases z), ?_, ?_, ?_⟩
    · show i < (arrV _ _ _).slots.size
      rw [arrV_size]; omega
    · show State.fitsSlot _ cA _ i _ = true
      simp [State.fitsSlot, State.slotType?, h2, hkA, hkindA, (mx_fitsRef href).2, mxO, arrV]
    · rw [h1]
      exact mx_run hkA hkindA href hkI hkindI h0 hl hb hf hc hs r (i + 1) _ _ Q (by omega) hq
end
theorem mx_same {c : ClassId} {N : Nat} {f g : Nat → Value} (h : ∀ j, j < N → f j = g j) : arrV c N f = arrV c N g := by
  unfold arrV
  rw [show (fun j : Fin N => f j.val) = fun j => g j.val from funext fun j => h _ j.isLt]
set_option maxHeartbeats 1000000 in
theorem mx_row {p : Program} {l : Launch} {e : Env} {R : Room} {s : State} {m : MethodId} {args : Array Value} {below : List Frame} {meth : Method} {c : Code} {H : Heap} {locs : List Loc} {cells slots : Nat} {Q : State → Prop} {cc : ByteArray}
    (hexec : p.tables.exec = Jvm.exec) (hb : c.code = cc) {own : String} {index : Nat} {ty : FieldType} (hown : s.vm.findClass own = some m.cls) (hclink : (Cond.classLink own index ("[" ++ (FieldType.array ty).toString)).before args s = true)
    {cA cI : ClassId} {kA : Class} (hcA : s.vm.findClass ("[" ++ (FieldType.array ty).toString) = some cA) (hkA : s.vm.classes[cA]? = some kA) (hkindA : kA.kind = .array cI (.array ty)) (hcI : s.vm.findClass (FieldType.array ty).toString = some cI) (harr : (Cond.arrayClass ty).before args s = true) (hf : fits ty (defaultValue ty) = true) {pc : Nat} {ls : Array Slot} {rest : List Value} {n k : Int32} {N M : Nat} (hdg : decode cc pc = .ok (.multianewarray index 2, 4))
    (hn : ¬ n < 0) (hk : ¬ k < 0) (hN : n.toNatClampNeg = N) (hM : k.toNatClampNeg = M) (hb1 : N * 4 ≤ 536870912) (hb2 : M * componentBytes ty ≤ 536870912) (hb3 : M ≤ 536870912) (hcells : cells + (1 + N) ≤ R.cells) (hslots : slots + (N + N * M) ≤ R.slots)
    (kk : ∀ (H1 : Heap) (ln : List Loc), (∀ q ∈ ln, q.base = H.size) → H1.size = H.size + (1 + N) → (∀ q, q < H.size → H1[q]? = H[q]?) →
      H1[H.size]? = some (arrV cA N (fun j => .ref (H.size + 1 + j))) → (∀ j, j < N → H1[H.size + 1 + j]? = some (arrV cI M (fun _ => defaultValue ty))) →
      W p l e R s m args below meth c H1 (locs ++ ln) (cells + (1 + N)) (slots + (N + N * M)) Q (F0 m (pc + 4) ls (.ref H.size :: rest))) :
    W p l e R s m args below meth c H locs cells slots Q (F0 m pc ls (.int k :: .int n :: rest)) := by
  intro T hT X
  subst hT; subst hb; subst hN; subst hM
  have hpl : e.platform.magicAccessors = ({} : Platform).magicAccessors := by rw [X.admits.platform]
  obtain ⟨cI', kI, cc, hcI', hkI, hkindI⟩ := Cond.arrayClass_spec harr
  cases hcI'.symm.trans hcI
  obtain ⟨c0, hc0, hcl⟩ := Cond.classLink_spec hown hclink e.platform hpl
  cases hcA.symm.trans hc0
  obtain ⟨hg₁, hwarm₁, hready₁⟩ := State.classEntry (e := e) X.warmed hcl
  generalize T.vm.noted m.cls index (.cls cA) = vm₁ at hg₁ hwarm₁ hready₁
  have hal : s.vm.Alike vm₁ := hwarm₁.alike
  obtain ⟨kA₁, hkA₁, heA⟩ := hal.2.2 _ _ hkA
  obtain ⟨kI₁, hkI₁, heI⟩ := hal.2.2 _ _ hkI
  have hkindA₁ : kA₁.kind = .array cI (.array ty) := by rw [heA]; exact hkindA
  have hkindI₁ : kI₁.kind = .array cc ty := by rw [heI]; exact hkindI
  have X₁ := X.noted hwarm₁
  obtain ⟨hr1, hr2⟩ := X.roomAbove hcells hslots
  obtain ⟨ln, hln, XF⟩ := mxT_stand X₁ cA cI n.toNatClampNeg k.toNatClampNeg (defaultValue ty) n.toNatClampNeg
  obtain ⟨z1, z2, z3, z4, z5, z6⟩ := mxT_is (T.setVm vm₁) cA cI n.toNatClampNeg k.toNatClampNeg (defaultValue ty) n.toNatClampNeg
  have ho : arrV cA n.toNatClampNeg (fun j => .ref (T.heap.size + 1 + j)) = mxO cA n.toNatClampNeg (T.setVm vm₁).heap.size n.toNatClampNeg := mx_same fun j hj => by rw [if_pos hj]; rfl
  obtain ⟨t', a1, b1⟩ := kk (mxT (T.setVm vm₁) cA cI n.toNatClampNeg k.toNatClampNeg (defaultValue ty) n.toNatClampNeg).heap ln hln (by rw [z1]; show T.heap.size + 1 + _ = _; omega) z5
    (by rw [ho]; exact z4) (fun j hj => (z6 j hj).trans (by rw [mxI, arrV_new])) _ rfl (by rw [show cells + (1 + n.toNatClampNeg) = cells + 1 + n.toNatClampNeg by omega, show slots + (n.toNatClampNeg + n.toNatClampNeg * k.toNatClampNeg) = slots + n.toNatClampNeg + n.toNatClampNeg * k.toNatClampNeg by omega]; exact XF)
  refine ⟨t', ?_, b1⟩
  have hl1 : ¬ n.toNatClampNeg > e.platform.arrayLengthLimit := by rw [Launch.admits_arrayLengthLimit X.admits]; omega
  have hh1 : ¬ n.toNatClampNeg * componentBytes (.array ty) > e.platform.maxHeapBytes := by
    rw [Launch.admits_maxHeapBytes X.admits]; show ¬ n.toNatClampNeg * 4 > 536870912; omega
  have hl2 : ¬ k.toNatClampNeg > e.platform.arrayLengthLimit := by rw [Launch.admits_arrayLengthLimit X.admits]; omega
  have hh2 : ¬ k.toNatClampNeg * componentBytes ty > e.platform.maxHeapBytes := by rw [Launch.admits_maxHeapBytes X.admits]; omega
  jvm_step X.here [hexec, hdg]
  simp only [multianewarray.sem, wp_bind', W.resolveClassAt_links (State.method?_setTop (F0 m pc ls (.int k :: .int n :: rest)) X.here.top) hg₁]
  rw [W.popN, if_neg (by decide)]
  refine ⟨_, State.topJava?_setTop' (s := T.setVm vm₁) (F0 m pc ls (.int k :: .int n :: rest)) X.here.top, [.int n, .int k], rest, rfl, rfl, ?_⟩
  simp only [List.mapM_cons, List.mapM_nil, wp_bind', wp_pure']
  have hfind : ([k].find? (· < 0)) = none := by simp [hk]
  rw [multianewarray.make]
  simp only [wp_bind', W.ite, hn, if_false, wp_pure', W.theClass]
  refine ⟨kA₁, hkA₁, ?_⟩
  simp only [hkindA₁, wp_bind']
  refine W.newArray_of hkA₁ hkindA₁ hl1 hh1 (by show T.heap.size < _; omega) (by show T.slotsUsed + _ ≤ _; omega) rfl fun acts' => ?_
  simp only [hfind]
  rw [ite_self, wp_bind', Std.Legacy.Range.forIn_eq_forIn_range']
  rw [show ([:n.toNatClampNeg] : Std.Legacy.Range).size = n.toNatClampNeg from by simp [Std.Legacy.Range.size]]
  refine mx_run (s0 := ((T.setTop (F0 m pc ls (.int k :: .int n :: rest))).setVm vm₁).setTop { (F0 m pc ls (.int k :: .int n :: rest)) with stack := rest }) hkA₁ hkindA₁ rfl hkI₁ hkindI₁ hk hl2 hh2 hf (by show T.heap.size + 1 + _ ≤ _; omega) (by show T.slotsUsed + _ + _ ≤ _; omega) n.toNatClampNeg 0 _ _ _ (by omega) (fun d' acts'' => ?_)
  simp only [wp_pure']
  rw [show (((T.setTop (F0 m pc ls (.int k :: .int n :: rest))).setVm vm₁).setTop { (F0 m pc ls (.int k :: .int n :: rest)) with stack := rest }) = (T.setVm vm₁).setTop (F0 m pc ls rest) from by
    show ((T.setVm vm₁).setTop _).setTop _ = _
    rw [State.setTop_setTop], mxT_top]
  simp only [wp_bind', W.mark, W.pushRef, State.topJava?_setTop' _ XF.here.top, Option.some.injEq, exists_eq_left', State.setTop_setTop, State.heap_setTop]
  intro acts
  simp [jvm, XF.here.top]
  exact a1
