/-! THE GOAL 'Wg': the machine, now at pc with the locals L, the stack S over a heap that shows the pure state σ, comes to its end with Qp. -/
def TB : List Cond := lw_tbl.filter goodWord
theorem TB_in {w : Cond} (h : w ∈ lw_tbl) (h2 : goodWord w = true) : w ∈ TB := List.mem_filter.mpr ⟨h, h2⟩
theorem TB_tbl {w : Cond} (h : w ∈ TB) : w ∈ lw_tbl := (List.mem_filter.mp h).1
theorem TB_good : ∀ w ∈ TB, (w.onTables && w.keeps) = true ∨ ∃ ty, w = .arrayClass ty := fun _ hw => good_of_word (List.mem_filter.mp hw).2
def cv (ρ : Nat → Nat) (v : Value) : Value := match v with
  | .ref a => .ref (ρ a)
  | v => v
def cS (ρ : Nat → Nat) (S : List Value) : List Value := S.map (cv ρ)
def cL (ρ : Nat → Nat) (L : List (Nat × Value)) : List (Nat × Value) := L.map fun q => (q.1, cv ρ q.2)
theorem cv_cat (ρ : Nat → Nat) (v : Value) : (cv ρ v).category = v.category := by cases v <;> rfl
theorem cS_cat (ρ : Nat → Nat) (S : List Value) : ((cS ρ S).map fun v => v.category) = S.map fun v => v.category := by
  induction S with
  | nil => rfl
  | cons v S ih => show (cv ρ v).category :: _ = _; rw [cv_cat]; exact congrArg _ ih
theorem cL_at {ρ : Nat → Nat} {L : List (Nat × Value)} {k : Nat} {q : Nat × Value} (h : L[k]? = some q) : (cL ρ L)[k]? = some (q.1, cv ρ q.2) := by
  rw [cL, List.getElem?_map, h]; rfl
def stL (i : Nat) (v : Value) (L : List (Nat × Value)) : List (Nat × Value) := (i, v) :: L.filter (fun q => !(q.1 == i) && !(q.1 + 1 == i && q.2.category == 2))
theorem cL_stL (ρ : Nat → Nat) (i : Nat) (v : Value) (L : List (Nat × Value)) : (i, cv ρ v) :: (cL ρ L).filter (fun q => !(q.1 == i) && !(q.1 + 1 == i && q.2.category == 2)) = cL ρ (stL i v L) := by
  show _ = (i, cv ρ v) :: cL ρ (L.filter _)
  congr 1
  induction L with
  | nil => rfl
  | cons q L ih =>
    show List.filter _ ((q.1, cv ρ q.2) :: cL ρ L) = _
    rw [List.filter_cons, List.filter_cons]
    have e : (!(q.1 == i) && !(q.1 + 1 == i && (cv ρ q.2).category == 2)) = (!(q.1 == i) && !(q.1 + 1 == i && q.2.category == 2)) := by rw [cv_cat]
    simp only [e]
    split
    · exact congrArg _ ih
    · exact ih
theorem cL_args (ρ : Nat → Nat) (vs : List Value) : ∀ i, lv_args i (cS ρ vs) = cL ρ (lv_args i vs) := by
  induction vs with
  | nil => intro i; rfl
  | cons v vs ih =>
    intro i
    show (i, cv ρ v) :: lv_args (if (cv ρ v).category = 2 then i + 2 else i + 1) (cS ρ vs) = (i, cv ρ v) :: cL ρ (lv_args (if v.category = 2 then i + 2 else i + 1) vs)
    rw [cv_cat, ih]
/-- static arrays -/
def tPl : Nat → Int32 := fun j => (([10, 20, 21, 22, 23, 24, 30, 40, 50, 51, 52, 53, 54, 60] : List Int32)).getD j 0
def tAb : Nat → Int32 := fun j => (([-1, 0, 0, 0, 0, 2, 0] : List Int32)).getD j 0
def tBo : Nat → Int32 := fun j => (([10, 11, 12, 0, 20, 0, 30, 0, 31, 40, 0, 0, 0, 0, 50, 60, 61, 0, 0, 0, 70] : List Int32)).getD j 0
/-- the texts of PleasToIssue$Text: entries, texts, lengths, bytes -/
def kxs : List Nat := [55, 57, 63, 69, 99, 101, 83, 97, 79, 81]
def kts : List String := ["bar ", "slip ", "dxlfnt", " ", "npwak", "<=>", "0123456789", ")", "last ", "days "]
def kls : List Nat := [4, 5, 6, 1, 5, 3, 10, 1, 5, 5]
def kbs : List (List Int32) := [[98, 97, 114, 32], [115, 108, 105, 112, 32], [100, 120, 108, 102, 110, 116], [32], [110, 112, 119, 97, 107], [60, 61, 62], [48, 49, 50, 51, 52, 53, 54, 55, 56, 57], [41], [108, 97, 115, 116, 32], [100, 97, 121, 115, 32]]
/-- the static arrays and the texts: nobody writes them -/
def Sx (A : Nat → Prop) (ρ : Nat → Nat) (U : State) (H : Heap) : Prop :=
  (va_Z "PleasToIssue" "PLEAS" "[I" (.ref (ρ 1001)) A U H ∧ va_T .int (ρ 1001) 14 (fun j => .int (tPl j)) A U H) ∧
  (va_Z "PleasToIssue$Acts" "ABOVE" "[I" (.ref (ρ 1002)) A U H ∧ va_T .int (ρ 1002) 7 (fun j => .int (tAb j)) A U H) ∧
  (va_Z "PleasToIssue$Acts" "BODIES" "[I" (.ref (ρ 1003)) A U H ∧ va_T .int (ρ 1003) 21 (fun j => .int (tBo j)) A U H) ∧
  va_Nw (.fieldLinkNest RX2 117 "PleasToIssue" "PLEAS" "[I" "PleasToIssue") U ∧
  va_Z "java/lang/String" "COMPACT_STRINGS" "Z" (.int 1) A U H ∧
  vk_S 10 kls kbs (fun i => ρ (1010 + i)) (fun i => ρ (1030 + i)) A U H ∧
  (∀ i, i < 10 → vk_R RX5 (kxs.getD i 0) (kts.getD i "") (ρ (1010 + i)) U) ∧
  (va_Z "jdk/internal/util/Preconditions" "SIOOBE_FORMATTER" "Ljava/util/function/BiFunction;" .null A U H ∨ va_Z "jdk/internal/util/Preconditions" "SIOOBE_FORMATTER" "Ljava/util/function/BiFunction;" (.ref (ρ 1050)) A U H)
theorem Sx.moved {A : Nat → Prop} {ρ : Nat → Nat} {u U : State} {H : Heap} (hW : u.WarmedH U.vm) (h : Sx A ρ u H) : Sx A ρ U H :=
  ⟨⟨va_Z.moved hW.alike h.1.1, va_T.moved hW.alike h.1.2⟩, ⟨va_Z.moved hW.alike h.2.1.1, va_T.moved hW.alike h.2.1.2⟩, ⟨va_Z.moved hW.alike h.2.2.1.1, va_T.moved hW.alike h.2.2.1.2⟩, va_Nw.warmF hW h.2.2.2.1, va_Z.moved hW.alike h.2.2.2.2.1, vk_S.moved hW.alike h.2.2.2.2.2.1, fun i hi => vk_R.warm hW (h.2.2.2.2.2.2.1 i hi), h.2.2.2.2.2.2.2.imp (va_Z.moved hW.alike) (va_Z.moved hW.alike)⟩
theorem Sx.same {A : Nat → Prop} {ρ : Nat → Nat} {u U : State} {H : Heap} (hv : U.vm = u.vm) (h : Sx A ρ u H) : Sx A ρ U H := by
  have hA : u.vm.Alike U.vm := by rw [hv]; exact Vm.Alike.refl u.vm
  exact ⟨⟨va_Z.moved hA h.1.1, va_T.moved hA h.1.2⟩, ⟨va_Z.moved hA h.2.1.1, va_T.moved hA h.2.1.2⟩, ⟨va_Z.moved hA h.2.2.1.1, va_T.moved hA h.2.2.1.2⟩, va_Nw.same rfl hv.symm h.2.2.2.1, va_Z.moved hA h.2.2.2.2.1, vk_S.moved hA h.2.2.2.2.2.1, fun i hi => vk_R.same hv (h.2.2.2.2.2.2.1 i hi), h.2.2.2.2.2.2.2.imp (va_Z.moved hA) (va_Z.moved hA)⟩
theorem Sx.kept {A : Nat → Prop} {ρ : Nat → Nat} {U : State} {H H1 : Heap} (h : Sx A ρ U H) (hq : ∀ a : Nat, a < H.size → ¬ A a → H1[a]? = H[a]?) : Sx A ρ U H1 :=
  ⟨⟨h.1.1.kept hq, h.1.2.kept hq⟩, ⟨h.2.1.1.kept hq, h.2.1.2.kept hq⟩, ⟨h.2.2.1.1.kept hq, h.2.2.1.2.kept hq⟩, h.2.2.2.1, h.2.2.2.2.1.kept hq, h.2.2.2.2.2.1.kept hq, h.2.2.2.2.2.2.1, h.2.2.2.2.2.2.2.imp (fun z => z.kept hq) (fun z => z.kept hq)⟩
theorem Sx.narrow {A B : Nat → Prop} {ρ : Nat → Nat} {U : State} {H : Heap} (h : Sx A ρ U H) (hAB : ∀ q, B q → A q) : Sx B ρ U H :=
  ⟨⟨h.1.1.narrow hAB, h.1.2.narrow hAB⟩, ⟨h.2.1.1.narrow hAB, h.2.1.2.narrow hAB⟩, ⟨h.2.2.1.1.narrow hAB, h.2.2.1.2.narrow hAB⟩, h.2.2.2.1, h.2.2.2.2.1.narrow hAB, h.2.2.2.2.2.1.narrow hAB, h.2.2.2.2.2.2.1, h.2.2.2.2.2.2.2.imp (fun z => z.narrow hAB) (fun z => z.narrow hAB)⟩
/-- a method: name, bytes, locals, what it returns -/
abbrev MY : Type := MethodName × ByteArray × Nat × Option FieldType
def wsE (y : MY) : List Cond := .code y.1 y.2.1 y.2.2.1 y.2.2.2 :: TB
def rmE (d : Nat) : Room := { frames := d, cells := 0, slots := 0, locals := 64 * d }
def Af (ids : List Nat) (ρ : Nat → Nat) (sz : Nat) : Nat → Prop := fun q => (∃ o, o ∈ ids ∧ q = ρ o) ∨ sz ≤ q
def inj (ids : List Nat) (ρ : Nat → Nat) : Prop := ∀ a b, a ∈ ids → b ∈ ids → ρ a = ρ b → a = b
def qcE (ids : List Nat) (ca : Nat → ClassId) (ρ : Nat → Nat) (D : va_G) (A : Nat → Prop) (Qp : Option Value → St → Prop) : Array Value → State → Outcome → State → Prop := fun _ st oc t =>
  (∃ (r : Option Value) (σ' : St), oc = .returned (r.map (cv ρ)) ∧ Qp r σ' ∧ va_P D vwCl (wl ids ca ρ σ') t.heap ∧ va_K D vwCl (tl ca) t) ∧ va_F A st t
def preE (ids : List Nat) (ca : Nat → ClassId) (ρ : Nat → Nat) (D : va_G) (sz : Nat) (σ : St) : State → Prop := fun U =>
  U.heap.size = sz ∧ va_P D vwCl (wl ids ca ρ σ) U.heap ∧ va_K D vwCl (tl ca) U ∧ Sx (Af ids ρ sz) ρ U U.heap
/-- THE CONTRACT: method y, at depth d, with av over the pure state σ: it returns, and Qp of its answer and the new pure state -/
def E (d : Nat) (ids : List Nat) (y : MY) (av : List Value) (σ : St) (Qp : Option Value → St → Prop) : Prop :=
  ∀ (l : Launch) (ca : Nat → ClassId) (ρ : Nat → Nat) (D : va_G) (sz : Nat), ids.Nodup → inj ids ρ → Met l y.1 (wsE y) (rmE d) (va_Pc (cS ρ av) (preE ids ca ρ D sz σ)) (qcE ids ca ρ D (Af ids ρ sz) Qp) 0 0 (Af ids ρ sz)
def EI (d : Nat) (ids : List Nat) (y : MY) (av : List Value) (σ : St) (F : Int32 → St → Prop) : Prop := E d ids y av σ (fun r σ' => ∃ x, r = some (.int x) ∧ F x σ')
def EL (d : Nat) (ids : List Nat) (y : MY) (av : List Value) (σ : St) (F : Int64 → St → Prop) : Prop := E d ids y av σ (fun r σ' => ∃ x, r = some (.long x) ∧ F x σ')
def EV (d : Nat) (ids : List Nat) (y : MY) (av : List Value) (σ : St) (F : St → Prop) : Prop := E d ids y av σ (fun r σ' => r = none ∧ F σ')
def ER (d : Nat) (ids : List Nat) (y : MY) (av : List Value) (σ : St) (F : Nat → St → Prop) : Prop := E d ids y av σ (fun r σ' => ∃ a, r = some (.ref a) ∧ F a σ')
def EO (d : Nat) (ids : List Nat) (y : MY) (av : List Value) (σ : St) (F : Option Nat → St → Prop) : Prop := E d ids y av σ (fun r σ' => ∃ a, r = some (va_rf a) ∧ F a σ')
/-- what a method's walk runs over: p l e R s m args below meth c, ca ρ D A -/
abbrev CT : Type := Program × Launch × Env × Room × State × MethodId × Array Value × List Frame × Method × Code × (Nat → ClassId) × (Nat → Nat) × va_G × (Nat → Prop)
def Wg (X : CT) (ids : List Nat) (nL : Nat) (Qp : Option Value → St → Prop) (pc : Nat) (L : List (Nat × Value)) (S : List Value) (σ : St) : Prop :=
  match X with
  | (p, l, e, R, s, m, args, below, meth, c, ca, ρ, D, A) => ∀ (H : Heap) (locs : List Loc) (ls : Array Slot), va_P D vwCl (wl ids ca ρ σ) H → va_S A s.heap H locs → lv_has ls nL (cL ρ L) → W p l e R s m args below meth c H locs 0 0 (MQ below (qcE ids ca ρ D A Qp) args s 0 0 A) (F0 m pc ls (cS ρ S))
def Cok (X : CT) (ids : List Nat) (nL : Nat) (cc : ByteArray) (ret : Option FieldType) (dep : Nat) (own : String) : Prop :=
  match X with
  | (p, l, e, R, s, m, args, below, meth, c, ca, ρ, D, A) => p.tables.exec = Jvm.exec ∧ c.code = cc ∧ s.vm.findClass own = some m.cls ∧ (∀ w ∈ TB, w.before args s = true) ∧ va_K D vwCl (tl ca) s ∧ (∀ σ, va_D A (wl ids ca ρ σ)) ∧ ids.Nodup ∧ c.maxLocals = nL ∧ meth.locks = false ∧ meth.sig.returnType = ret ∧ R = rmE dep ∧ Sx A ρ s s.heap ∧ inj ids ρ ∧ (∀ q, s.heap.size ≤ q → A q) ∧ (∀ o, o ∈ ids → A (ρ o))
section WR
variable {X : CT} {ids : List Nat} {nL : Nat} {Qp : Option Value → St → Prop} {pc : Nat} {L L' : List (Nat × Value)} {S : List Value} {σ : St} {cc : ByteArray} {ret : Option FieldType} {dep : Nat} {own : String}
/-- fewer, or other-ordered locals -/
theorem Wg.sub (ks : List Nat) (hl : lv_pick L ks = L') (k : Wg X ids nL Qp pc L' S σ) : Wg X ids nL Qp pc L S σ := by
  obtain ⟨p, l, e, R, s, m, args, below, meth, c, ca, ρ, D, A⟩ := X
  intro H locs ls hP hS h
  refine k H locs ls hP hS (lv_sub h ks ?_)
  rw [← hl]
  simp only [lv_pick, cL, List.map_filterMap, List.getElem?_map]
theorem q_iconst {n : Int} {v : Int32} (hX : Cok X ids nL cc ret dep own) (hd : decode cc pc = .ok (.iconst n, 1)) (hv : Int32.ofInt n = v) (k : Wg X ids nL Qp (pc + 1) L (.int v :: S) σ) : Wg X ids nL Qp pc L (S) σ := by
  obtain ⟨p, l, e, R, s, m, args, below, meth, c, ca, ρ, D, A⟩ := X
  obtain ⟨hx, hb, -⟩ := hX
  intro H locs ls hP hS hl
  exact lv_iconst hx hb hd hv (k H locs ls hP hS hl)
theorem q_bipush {n : Int} {v : Int32} (hX : Cok X ids nL cc ret dep own) (hd : decode cc pc = .ok (.bipush n, 2)) (hv : (Int8.ofInt n).toInt32 = v) (k : Wg X ids nL Qp (pc + 2) L (.int v :: S) σ) : Wg X ids nL Qp pc L (S) σ := by
  obtain ⟨p, l, e, R, s, m, args, below, meth, c, ca, ρ, D, A⟩ := X
  obtain ⟨hx, hb, -⟩ := hX
  intro H locs ls hP hS hl
  exact lv_bipush hx hb hd hv (k H locs ls hP hS hl)
theorem q_sipush {n : Int} {v : Int32} (hX : Cok X ids nL cc ret dep own) (hd : decode cc pc = .ok (.sipush n, 3)) (hv : (Int16.ofInt n).toInt32 = v) (k : Wg X ids nL Qp (pc + 3) L (.int v :: S) σ) : Wg X ids nL Qp pc L (S) σ := by
  obtain ⟨p, l, e, R, s, m, args, below, meth, c, ca, ρ, D, A⟩ := X
  obtain ⟨hx, hb, -⟩ := hX
  intro H locs ls hP hS hl
  exact lv_sipush hx hb hd hv (k H locs ls hP hS hl)
theorem q_lconst {n : Fin 2} {v : Int64} (hX : Cok X ids nL cc ret dep own) (hd : decode cc pc = .ok (.lconst n, 1)) (hv : Int64.ofNat (n : Nat) = v) (k : Wg X ids nL Qp (pc + 1) L (.long v :: S) σ) : Wg X ids nL Qp pc L (S) σ := by
  obtain ⟨p, l, e, R, s, m, args, below, meth, c, ca, ρ, D, A⟩ := X
  obtain ⟨hx, hb, -⟩ := hX
  intro H locs ls hP hS hl
  exact lv_lconst hx hb hd hv (k H locs ls hP hS hl)
theorem q_iadd {x y : Int32} (hX : Cok X ids nL cc ret dep own) (hd : decode cc pc = .ok (.iadd, 1)) (k : Wg X ids nL Qp (pc + 1) L (.int (x + y) :: S) σ) : Wg X ids nL Qp pc L (.int y :: .int x :: S) σ := by
  obtain ⟨p, l, e, R, s, m, args, below, meth, c, ca, ρ, D, A⟩ := X
  obtain ⟨hx, hb, -⟩ := hX
  intro H locs ls hP hS hl
  exact lv_iadd hx hb hd (k H locs ls hP hS hl)
theorem q_isub {x y : Int32} (hX : Cok X ids nL cc ret dep own) (hd : decode cc pc = .ok (.isub, 1)) (k : Wg X ids nL Qp (pc + 1) L (.int (x - y) :: S) σ) : Wg X ids nL Qp pc L (.int y :: .int x :: S) σ := by
  obtain ⟨p, l, e, R, s, m, args, below, meth, c, ca, ρ, D, A⟩ := X
  obtain ⟨hx, hb, -⟩ := hX
  intro H locs ls hP hS hl
  exact lv_isub hx hb hd (k H locs ls hP hS hl)
theorem q_imul {x y : Int32} (hX : Cok X ids nL cc ret dep own) (hd : decode cc pc = .ok (.imul, 1)) (k : Wg X ids nL Qp (pc + 1) L (.int (x * y) :: S) σ) : Wg X ids nL Qp pc L (.int y :: .int x :: S) σ := by
  obtain ⟨p, l, e, R, s, m, args, below, meth, c, ca, ρ, D, A⟩ := X
  obtain ⟨hx, hb, -⟩ := hX
  intro H locs ls hP hS hl
  exact lv_imul hx hb hd (k H locs ls hP hS hl)
theorem q_iand {x y : Int32} (hX : Cok X ids nL cc ret dep own) (hd : decode cc pc = .ok (.iand, 1)) (k : Wg X ids nL Qp (pc + 1) L (.int (x &&& y) :: S) σ) : Wg X ids nL Qp pc L (.int y :: .int x :: S) σ := by
  obtain ⟨p, l, e, R, s, m, args, below, meth, c, ca, ρ, D, A⟩ := X
  obtain ⟨hx, hb, -⟩ := hX
  intro H locs ls hP hS hl
  exact lv_iand hx hb hd (k H locs ls hP hS hl)
theorem q_ior {x y : Int32} (hX : Cok X ids nL cc ret dep own) (hd : decode cc pc = .ok (.ior, 1)) (k : Wg X ids nL Qp (pc + 1) L (.int (x ||| y) :: S) σ) : Wg X ids nL Qp pc L (.int y :: .int x :: S) σ := by
  obtain ⟨p, l, e, R, s, m, args, below, meth, c, ca, ρ, D, A⟩ := X
  obtain ⟨hx, hb, -⟩ := hX
  intro H locs ls hP hS hl
  exact lv_ior hx hb hd (k H locs ls hP hS hl)
theorem q_ixor {x y : Int32} (hX : Cok X ids nL cc ret dep own) (hd : decode cc pc = .ok (.ixor, 1)) (k : Wg X ids nL Qp (pc + 1) L (.int (x ^^^ y) :: S) σ) : Wg X ids nL Qp pc L (.int y :: .int x :: S) σ := by
  obtain ⟨p, l, e, R, s, m, args, below, meth, c, ca, ρ, D, A⟩ := X
  obtain ⟨hx, hb, -⟩ := hX
  intro H locs ls hP hS hl
  exact lv_ixor hx hb hd (k H locs ls hP hS hl)
theorem q_ishl {x y : Int32} (hX : Cok X ids nL cc ret dep own) (hd : decode cc pc = .ok (.ishl, 1)) (k : Wg X ids nL Qp (pc + 1) L (.int (x <<< (y &&& 31)) :: S) σ) : Wg X ids nL Qp pc L (.int y :: .int x :: S) σ := by
  obtain ⟨p, l, e, R, s, m, args, below, meth, c, ca, ρ, D, A⟩ := X
  obtain ⟨hx, hb, -⟩ := hX
  intro H locs ls hP hS hl
  exact lv_ishl hx hb hd (k H locs ls hP hS hl)
theorem q_ishr {x y : Int32} (hX : Cok X ids nL cc ret dep own) (hd : decode cc pc = .ok (.ishr, 1)) (k : Wg X ids nL Qp (pc + 1) L (.int (x >>> (y &&& 31)) :: S) σ) : Wg X ids nL Qp pc L (.int y :: .int x :: S) σ := by
  obtain ⟨p, l, e, R, s, m, args, below, meth, c, ca, ρ, D, A⟩ := X
  obtain ⟨hx, hb, -⟩ := hX
  intro H locs ls hP hS hl
  exact lv_ishr hx hb hd (k H locs ls hP hS hl)
theorem q_iushr {x y : Int32} (hX : Cok X ids nL cc ret dep own) (hd : decode cc pc = .ok (.iushr, 1)) (k : Wg X ids nL Qp (pc + 1) L (.int (x.toUInt32 >>> (y.toUInt32 &&& Int32.toUInt32 31)).toInt32 :: S) σ) : Wg X ids nL Qp pc L (.int y :: .int x :: S) σ := by
  obtain ⟨p, l, e, R, s, m, args, below, meth, c, ca, ρ, D, A⟩ := X
  obtain ⟨hx, hb, -⟩ := hX
  intro H locs ls hP hS hl
  exact lv_iushr hx hb hd rfl (k H locs ls hP hS hl)
theorem q_idiv {x y : Int32} (hX : Cok X ids nL cc ret dep own) (hd : decode cc pc = .ok (.idiv, 1)) (hne : ¬ y = 0) (k : Wg X ids nL Qp (pc + 1) L (.int (x / y) :: S) σ) : Wg X ids nL Qp pc L (.int y :: .int x :: S) σ := by
  obtain ⟨p, l, e, R, s, m, args, below, meth, c, ca, ρ, D, A⟩ := X
  obtain ⟨hx, hb, -⟩ := hX
  intro H locs ls hP hS hl
  exact lv_idiv hx hb hd hne (k H locs ls hP hS hl)
theorem q_irem {x y : Int32} (hX : Cok X ids nL cc ret dep own) (hd : decode cc pc = .ok (.irem, 1)) (hne : ¬ y = 0) (k : Wg X ids nL Qp (pc + 1) L (.int (x - x / y * y) :: S) σ) : Wg X ids nL Qp pc L (.int y :: .int x :: S) σ := by
  obtain ⟨p, l, e, R, s, m, args, below, meth, c, ca, ρ, D, A⟩ := X
  obtain ⟨hx, hb, -⟩ := hX
  intro H locs ls hP hS hl
  exact lv_irem hx hb hd hne (k H locs ls hP hS hl)
theorem q_ineg {x : Int32} (hX : Cok X ids nL cc ret dep own) (hd : decode cc pc = .ok (.ineg, 1)) (k : Wg X ids nL Qp (pc + 1) L (.int (-x) :: S) σ) : Wg X ids nL Qp pc L (.int x :: S) σ := by
  obtain ⟨p, l, e, R, s, m, args, below, meth, c, ca, ρ, D, A⟩ := X
  obtain ⟨hx, hb, -⟩ := hX
  intro H locs ls hP hS hl
  exact lv_ineg hx hb hd (k H locs ls hP hS hl)
theorem q_i2b {x : Int32} (hX : Cok X ids nL cc ret dep own) (hd : decode cc pc = .ok (.i2b, 1)) (k : Wg X ids nL Qp (pc + 1) L (.int x.toInt8.toInt32 :: S) σ) : Wg X ids nL Qp pc L (.int x :: S) σ := by
  obtain ⟨p, l, e, R, s, m, args, below, meth, c, ca, ρ, D, A⟩ := X
  obtain ⟨hx, hb, -⟩ := hX
  intro H locs ls hP hS hl
  exact lv_i2b hx hb hd rfl (k H locs ls hP hS hl)
theorem q_i2s {x : Int32} (hX : Cok X ids nL cc ret dep own) (hd : decode cc pc = .ok (.i2s, 1)) (k : Wg X ids nL Qp (pc + 1) L (.int x.toInt16.toInt32 :: S) σ) : Wg X ids nL Qp pc L (.int x :: S) σ := by
  obtain ⟨p, l, e, R, s, m, args, below, meth, c, ca, ρ, D, A⟩ := X
  obtain ⟨hx, hb, -⟩ := hX
  intro H locs ls hP hS hl
  exact lv_i2s hx hb hd rfl (k H locs ls hP hS hl)
theorem q_i2c {x : Int32} (hX : Cok X ids nL cc ret dep own) (hd : decode cc pc = .ok (.i2c, 1)) (k : Wg X ids nL Qp (pc + 1) L (.int (x.toUInt32 % 65536).toInt32 :: S) σ) : Wg X ids nL Qp pc L (.int x :: S) σ := by
  obtain ⟨p, l, e, R, s, m, args, below, meth, c, ca, ρ, D, A⟩ := X
  obtain ⟨hx, hb, -⟩ := hX
  intro H locs ls hP hS hl
  exact lv_i2c hx hb hd rfl (k H locs ls hP hS hl)
theorem q_i2l {x : Int32} (hX : Cok X ids nL cc ret dep own) (hd : decode cc pc = .ok (.i2l, 1)) (k : Wg X ids nL Qp (pc + 1) L (.long x.toInt64 :: S) σ) : Wg X ids nL Qp pc L (.int x :: S) σ := by
  obtain ⟨p, l, e, R, s, m, args, below, meth, c, ca, ρ, D, A⟩ := X
  obtain ⟨hx, hb, -⟩ := hX
  intro H locs ls hP hS hl
  exact lv_i2l hx hb hd rfl (k H locs ls hP hS hl)
theorem q_l2i {x : Int64} (hX : Cok X ids nL cc ret dep own) (hd : decode cc pc = .ok (.l2i, 1)) (k : Wg X ids nL Qp (pc + 1) L (.int x.toInt32 :: S) σ) : Wg X ids nL Qp pc L (.long x :: S) σ := by
  obtain ⟨p, l, e, R, s, m, args, below, meth, c, ca, ρ, D, A⟩ := X
  obtain ⟨hx, hb, -⟩ := hX
  intro H locs ls hP hS hl
  exact lv_l2i hx hb hd rfl (k H locs ls hP hS hl)
theorem q_lcmp {x y : Int64} (hX : Cok X ids nL cc ret dep own) (hd : decode cc pc = .ok (.lcmp, 1)) (k : Wg X ids nL Qp (pc + 1) L (.int (lg_cmp x y) :: S) σ) : Wg X ids nL Qp pc L (.long y :: .long x :: S) σ := by
  obtain ⟨p, l, e, R, s, m, args, below, meth, c, ca, ρ, D, A⟩ := X
  obtain ⟨hx, hb, -⟩ := hX
  intro H locs ls hP hS hl
  exact W.lcmp hx hb hd (k H locs ls hP hS hl)
theorem q_dup {v : Value} (hX : Cok X ids nL cc ret dep own) (hd : decode cc pc = .ok (.dup, 1)) (hv : v.category = 1) (k : Wg X ids nL Qp (pc + 1) L (v :: v :: S) σ) : Wg X ids nL Qp pc L (v :: S) σ := by
  obtain ⟨p, l, e, R, s, m, args, below, meth, c, ca, ρ, D, A⟩ := X
  obtain ⟨hx, hb, -⟩ := hX
  intro H locs ls hP hS hl
  exact lv_dup hx hb hd (by rw [cv_cat]; exact hv) (k H locs ls hP hS hl)
theorem q_pop {v : Value} (hX : Cok X ids nL cc ret dep own) (hd : decode cc pc = .ok (.pop, 1)) (hv : v.category = 1) (k : Wg X ids nL Qp (pc + 1) L (S) σ) : Wg X ids nL Qp pc L (v :: S) σ := by
  obtain ⟨p, l, e, R, s, m, args, below, meth, c, ca, ρ, D, A⟩ := X
  obtain ⟨hx, hb, -⟩ := hX
  intro H locs ls hP hS hl
  exact lv_pop hx hb hd (by rw [cv_cat]; exact hv) (k H locs ls hP hS hl)
theorem q_dup2 {v w : Value} (hX : Cok X ids nL cc ret dep own) (hd : decode cc pc = .ok (.dup2, 1)) (hv : v.category = 1) (hw : w.category = 1) (k : Wg X ids nL Qp (pc + 1) L (v :: w :: v :: w :: S) σ) : Wg X ids nL Qp pc L (v :: w :: S) σ := by
  obtain ⟨p, l, e, R, s, m, args, below, meth, c, ca, ρ, D, A⟩ := X
  obtain ⟨hx, hb, -⟩ := hX
  intro H locs ls hP hS hl
  exact lv_dup2_11 hx hb hd (by rw [cv_cat]; exact hv) (by rw [cv_cat]; exact hw) (k H locs ls hP hS hl)
theorem q_null (hX : Cok X ids nL cc ret dep own) (hd : decode cc pc = .ok (.aconst_null, 1)) (k : Wg X ids nL Qp (pc + 1) L (.null :: S) σ) : Wg X ids nL Qp pc L (S) σ := by
  obtain ⟨p, l, e, R, s, m, args, below, meth, c, ca, ρ, D, A⟩ := X
  obtain ⟨hx, hb, -⟩ := hX
  intro H locs ls hP hS hl
  exact lv_null hx hb hd (k H locs ls hP hS hl)
theorem q_iload {x : Int32} {i : Nat} (j : Nat) (hX : Cok X ids nL cc ret dep own) (hd : decode cc pc = .ok (.iload i, 2)) (hj : L[j]? = some (i, .int x)) (k : Wg X ids nL Qp (pc + 2) L (.int x :: S) σ) : Wg X ids nL Qp pc L (S) σ := by
  obtain ⟨p, l, e, R, s, m, args, below, meth, c, ca, ρ, D, A⟩ := X
  obtain ⟨hx, hb, -⟩ := hX
  intro H locs ls hP hS hl
  exact lv_iload hx hb hd (lv_at hl j (cL_at hj)) (k H locs ls hP hS hl)
theorem q_iload_n {x : Int32} {i : Nat} {k0 : Fin 4} (j : Nat) (hX : Cok X ids nL cc ret dep own) (hd : decode cc pc = .ok (.iload_n k0, 1)) (hi : (k0 : Nat) = i) (hj : L[j]? = some (i, .int x)) (k : Wg X ids nL Qp (pc + 1) L (.int x :: S) σ) : Wg X ids nL Qp pc L (S) σ := by
  obtain ⟨p, l, e, R, s, m, args, below, meth, c, ca, ρ, D, A⟩ := X
  obtain ⟨hx, hb, -⟩ := hX
  intro H locs ls hP hS hl
  exact lv_iload_n hx hb hd hi (lv_at hl j (cL_at hj)) (k H locs ls hP hS hl)
theorem q_lload {x : Int64} {i : Nat} (j : Nat) (hX : Cok X ids nL cc ret dep own) (hd : decode cc pc = .ok (.lload i, 2)) (hj : L[j]? = some (i, .long x)) (k : Wg X ids nL Qp (pc + 2) L (.long x :: S) σ) : Wg X ids nL Qp pc L (S) σ := by
  obtain ⟨p, l, e, R, s, m, args, below, meth, c, ca, ρ, D, A⟩ := X
  obtain ⟨hx, hb, -⟩ := hX
  intro H locs ls hP hS hl
  exact lv_lload hx hb hd (lv_at hl j (cL_at hj)) (k H locs ls hP hS hl)
theorem q_lload_n {x : Int64} {i : Nat} {k0 : Fin 4} (j : Nat) (hX : Cok X ids nL cc ret dep own) (hd : decode cc pc = .ok (.lload_n k0, 1)) (hi : (k0 : Nat) = i) (hj : L[j]? = some (i, .long x)) (k : Wg X ids nL Qp (pc + 1) L (.long x :: S) σ) : Wg X ids nL Qp pc L (S) σ := by
  obtain ⟨p, l, e, R, s, m, args, below, meth, c, ca, ρ, D, A⟩ := X
  obtain ⟨hx, hb, -⟩ := hX
  intro H locs ls hP hS hl
  exact lv_lload_n hx hb hd hi (lv_at hl j (cL_at hj)) (k H locs ls hP hS hl)
theorem q_aload {x : Nat} {i : Nat} (j : Nat) (hX : Cok X ids nL cc ret dep own) (hd : decode cc pc = .ok (.aload i, 2)) (hj : L[j]? = some (i, .ref x)) (k : Wg X ids nL Qp (pc + 2) L (.ref x :: S) σ) : Wg X ids nL Qp pc L (S) σ := by
  obtain ⟨p, l, e, R, s, m, args, below, meth, c, ca, ρ, D, A⟩ := X
  obtain ⟨hx, hb, -⟩ := hX
  intro H locs ls hP hS hl
  exact lv_aload hx hb hd (lv_at hl j (cL_at hj)) (k H locs ls hP hS hl)
theorem q_aload_n {x : Nat} {i : Nat} {k0 : Fin 4} (j : Nat) (hX : Cok X ids nL cc ret dep own) (hd : decode cc pc = .ok (.aload_n k0, 1)) (hi : (k0 : Nat) = i) (hj : L[j]? = some (i, .ref x)) (k : Wg X ids nL Qp (pc + 1) L (.ref x :: S) σ) : Wg X ids nL Qp pc L (S) σ := by
  obtain ⟨p, l, e, R, s, m, args, below, meth, c, ca, ρ, D, A⟩ := X
  obtain ⟨hx, hb, -⟩ := hX
  intro H locs ls hP hS hl
  exact lv_aload_n hx hb hd hi (lv_at hl j (cL_at hj)) (k H locs ls hP hS hl)
theorem q_aloadN {i : Nat} (j : Nat) (hX : Cok X ids nL cc ret dep own) (hd : decode cc pc = .ok (.aload i, 2)) (hj : L[j]? = some (i, .null)) (k : Wg X ids nL Qp (pc + 2) L (.null :: S) σ) : Wg X ids nL Qp pc L (S) σ := by
  obtain ⟨p, l, e, R, s, m, args, below, meth, c, ca, ρ, D, A⟩ := X
  obtain ⟨hx, hb, -⟩ := hX
  intro H locs ls hP hS hl
  exact lv_aloadN hx hb hd (lv_at hl j (cL_at hj)) (k H locs ls hP hS hl)
theorem q_aload_nN {i : Nat} {k0 : Fin 4} (j : Nat) (hX : Cok X ids nL cc ret dep own) (hd : decode cc pc = .ok (.aload_n k0, 1)) (hi : (k0 : Nat) = i) (hj : L[j]? = some (i, .null)) (k : Wg X ids nL Qp (pc + 1) L (.null :: S) σ) : Wg X ids nL Qp pc L (S) σ := by
  obtain ⟨p, l, e, R, s, m, args, below, meth, c, ca, ρ, D, A⟩ := X
  obtain ⟨hx, hb, -⟩ := hX
  intro H locs ls hP hS hl
  exact lv_aload_nN hx hb hd hi (lv_at hl j (cL_at hj)) (k H locs ls hP hS hl)
theorem q_istore {x : Int32} {i : Nat} (hX : Cok X ids nL cc ret dep own) (hd : decode cc pc = .ok (.istore i, 2)) (hn : i < nL) (hL : stL i (.int x) L = L') (k : Wg X ids nL Qp (pc + 2) L' S σ) : Wg X ids nL Qp pc L (.int x :: S) σ := by
  obtain ⟨p, l, e, R, s, m, args, below, meth, c, ca, ρ, D, A⟩ := X
  obtain ⟨hx, hb, -⟩ := hX
  intro H locs ls hP hS hl
  refine lv_istore (lv' := cL ρ L') hx hb hd hl hn ?_ (fun ls' hl' => k H locs ls' hP hS hl')
  rw [← hL]
  exact cL_stL ρ i (.int x) L
theorem q_istore_n {x : Int32} {i : Nat} {k0 : Fin 4} (hX : Cok X ids nL cc ret dep own) (hd : decode cc pc = .ok (.istore_n k0, 1)) (hi : (k0 : Nat) = i) (hn : i < nL) (hL : stL i (.int x) L = L') (k : Wg X ids nL Qp (pc + 1) L' S σ) : Wg X ids nL Qp pc L (.int x :: S) σ := by
  obtain ⟨p, l, e, R, s, m, args, below, meth, c, ca, ρ, D, A⟩ := X
  obtain ⟨hx, hb, -⟩ := hX
  intro H locs ls hP hS hl
  refine lv_istore_n (lv' := cL ρ L') hx hb hd hi hl hn ?_ (fun ls' hl' => k H locs ls' hP hS hl')
  rw [← hL]
  exact cL_stL ρ i (.int x) L
theorem q_astore {x : Nat} {i : Nat} (hX : Cok X ids nL cc ret dep own) (hd : decode cc pc = .ok (.astore i, 2)) (hn : i < nL) (hL : stL i (.ref x) L = L') (k : Wg X ids nL Qp (pc + 2) L' S σ) : Wg X ids nL Qp pc L (.ref x :: S) σ := by
  obtain ⟨p, l, e, R, s, m, args, below, meth, c, ca, ρ, D, A⟩ := X
  obtain ⟨hx, hb, -⟩ := hX
  intro H locs ls hP hS hl
  refine lv_astore (lv' := cL ρ L') hx hb hd hl hn ?_ (fun ls' hl' => k H locs ls' hP hS hl')
  rw [← hL]
  exact cL_stL ρ i (.ref x) L
theorem q_astore_n {x : Nat} {i : Nat} {k0 : Fin 4} (hX : Cok X ids nL cc ret dep own) (hd : decode cc pc = .ok (.astore_n k0, 1)) (hi : (k0 : Nat) = i) (hn : i < nL) (hL : stL i (.ref x) L = L') (k : Wg X ids nL Qp (pc + 1) L' S σ) : Wg X ids nL Qp pc L (.ref x :: S) σ := by
  obtain ⟨p, l, e, R, s, m, args, below, meth, c, ca, ρ, D, A⟩ := X
  obtain ⟨hx, hb, -⟩ := hX
  intro H locs ls hP hS hl
  refine lv_astore_n (lv' := cL ρ L') hx hb hd hi hl hn ?_ (fun ls' hl' => k H locs ls' hP hS hl')
  rw [← hL]
  exact cL_stL ρ i (.ref x) L
theorem q_astoreN {i : Nat} (hX : Cok X ids nL cc ret dep own) (hd : decode cc pc = .ok (.astore i, 2)) (hn : i < nL) (hL : stL i .null L = L') (k : Wg X ids nL Qp (pc + 2) L' S σ) : Wg X ids nL Qp pc L (.null :: S) σ := by
  obtain ⟨p, l, e, R, s, m, args, below, meth, c, ca, ρ, D, A⟩ := X
  obtain ⟨hx, hb, -⟩ := hX
  intro H locs ls hP hS hl
  refine lv_astoreN (lv' := cL ρ L') hx hb hd hl hn ?_ (fun ls' hl' => k H locs ls' hP hS hl')
  rw [← hL]
  exact cL_stL ρ i .null L
theorem q_astore_nN {i : Nat} {k0 : Fin 4} (hX : Cok X ids nL cc ret dep own) (hd : decode cc pc = .ok (.astore_n k0, 1)) (hi : (k0 : Nat) = i) (hn : i < nL) (hL : stL i .null L = L') (k : Wg X ids nL Qp (pc + 1) L' S σ) : Wg X ids nL Qp pc L (.null :: S) σ := by
  obtain ⟨p, l, e, R, s, m, args, below, meth, c, ca, ρ, D, A⟩ := X
  obtain ⟨hx, hb, -⟩ := hX
  intro H locs ls hP hS hl
  refine lv_astore_nN (lv' := cL ρ L') hx hb hd hi hl hn ?_ (fun ls' hl' => k H locs ls' hP hS hl')
  rw [← hL]
  exact cL_stL ρ i .null L
theorem q_iinc {x v : Int32} {i : Nat} {n : Int} (j : Nat) (hX : Cok X ids nL cc ret dep own) (hd : decode cc pc = .ok (.iinc i n, 3)) (hj : L[j]? = some (i, .int x)) (hv : x + Int32.ofInt n = v) (hn : i < nL) (hL : stL i (.int v) L = L') (k : Wg X ids nL Qp (pc + 3) L' S σ) : Wg X ids nL Qp pc L S σ := by
  obtain ⟨p, l, e, R, s, m, args, below, meth, c, ca, ρ, D, A⟩ := X
  obtain ⟨hx, hb, -⟩ := hX
  intro H locs ls hP hS hl
  refine lv_iinc (lv' := cL ρ L') hx hb hd hl (cL_at hj) hv hn ?_ (fun ls' hl' => k H locs ls' hP hS hl')
  rw [← hL]
  exact cL_stL ρ i (.int v) L
theorem q_if_eq {x : Int32} {off : Int} (tgt : Nat) (hX : Cok X ids nL cc ret dep own) (hd : decode cc pc = .ok (.ifCond .eq off, 3)) (ht : (pc : Int) + off = (tgt : Int)) (kt : x = 0 → Wg X ids nL Qp tgt L S σ) (kf : ¬ (x = 0) → Wg X ids nL Qp (pc + 3) L S σ) : Wg X ids nL Qp pc L (.int x :: S) σ := by
  obtain ⟨p, l, e, R, s, m, args, below, meth, c, ca, ρ, D, A⟩ := X
  obtain ⟨hx, hb, -⟩ := hX
  intro H locs ls hP hS hl
  exact lv_if_eq hx hb hd ht (fun q => kt q H locs ls hP hS hl) (fun q => kf q H locs ls hP hS hl)
theorem q_icmp_eq {x y : Int32} {off : Int} (tgt : Nat) (hX : Cok X ids nL cc ret dep own) (hd : decode cc pc = .ok (.if_icmp .eq off, 3)) (ht : (pc : Int) + off = (tgt : Int)) (kt : x = y → Wg X ids nL Qp tgt L S σ) (kf : ¬ (x = y) → Wg X ids nL Qp (pc + 3) L S σ) : Wg X ids nL Qp pc L (.int y :: .int x :: S) σ := by
  obtain ⟨p, l, e, R, s, m, args, below, meth, c, ca, ρ, D, A⟩ := X
  obtain ⟨hx, hb, -⟩ := hX
  intro H locs ls hP hS hl
  exact lv_icmp_eq hx hb hd ht (fun q => kt q H locs ls hP hS hl) (fun q => kf q H locs ls hP hS hl)
theorem q_if_ne {x : Int32} {off : Int} (tgt : Nat) (hX : Cok X ids nL cc ret dep own) (hd : decode cc pc = .ok (.ifCond .ne off, 3)) (ht : (pc : Int) + off = (tgt : Int)) (kt : ¬ x = 0 → Wg X ids nL Qp tgt L S σ) (kf : x = 0 → Wg X ids nL Qp (pc + 3) L S σ) : Wg X ids nL Qp pc L (.int x :: S) σ := by
  obtain ⟨p, l, e, R, s, m, args, below, meth, c, ca, ρ, D, A⟩ := X
  obtain ⟨hx, hb, -⟩ := hX
  intro H locs ls hP hS hl
  exact lv_if_ne hx hb hd ht (fun q => kt q H locs ls hP hS hl) (fun q => kf q H locs ls hP hS hl)
theorem q_icmp_ne {x y : Int32} {off : Int} (tgt : Nat) (hX : Cok X ids nL cc ret dep own) (hd : decode cc pc = .ok (.if_icmp .ne off, 3)) (ht : (pc : Int) + off = (tgt : Int)) (kt : ¬ x = y → Wg X ids nL Qp tgt L S σ) (kf : x = y → Wg X ids nL Qp (pc + 3) L S σ) : Wg X ids nL Qp pc L (.int y :: .int x :: S) σ := by
  obtain ⟨p, l, e, R, s, m, args, below, meth, c, ca, ρ, D, A⟩ := X
  obtain ⟨hx, hb, -⟩ := hX
  intro H locs ls hP hS hl
  exact lv_icmp_ne hx hb hd ht (fun q => kt q H locs ls hP hS hl) (fun q => kf q H locs ls hP hS hl)
theorem q_if_lt {x : Int32} {off : Int} (tgt : Nat) (hX : Cok X ids nL cc ret dep own) (hd : decode cc pc = .ok (.ifCond .lt off, 3)) (ht : (pc : Int) + off = (tgt : Int)) (kt : x < 0 → Wg X ids nL Qp tgt L S σ) (kf : ¬ (x < 0) → Wg X ids nL Qp (pc + 3) L S σ) : Wg X ids nL Qp pc L (.int x :: S) σ := by
  obtain ⟨p, l, e, R, s, m, args, below, meth, c, ca, ρ, D, A⟩ := X
  obtain ⟨hx, hb, -⟩ := hX
  intro H locs ls hP hS hl
  exact lv_if_lt hx hb hd ht (fun q => kt q H locs ls hP hS hl) (fun q => kf q H locs ls hP hS hl)
theorem q_icmp_lt {x y : Int32} {off : Int} (tgt : Nat) (hX : Cok X ids nL cc ret dep own) (hd : decode cc pc = .ok (.if_icmp .lt off, 3)) (ht : (pc : Int) + off = (tgt : Int)) (kt : x < y → Wg X ids nL Qp tgt L S σ) (kf : ¬ (x < y) → Wg X ids nL Qp (pc + 3) L S σ) : Wg X ids nL Qp pc L (.int y :: .int x :: S) σ := by
  obtain ⟨p, l, e, R, s, m, args, below, meth, c, ca, ρ, D, A⟩ := X
  obtain ⟨hx, hb, -⟩ := hX
  intro H locs ls hP hS hl
  exact lv_icmp_lt hx hb hd ht (fun q => kt q H locs ls hP hS hl) (fun q => kf q H locs ls hP hS hl)
theorem q_if_ge {x : Int32} {off : Int} (tgt : Nat) (hX : Cok X ids nL cc ret dep own) (hd : decode cc pc = .ok (.ifCond .ge off, 3)) (ht : (pc : Int) + off = (tgt : Int)) (kt : 0 ≤ x → Wg X ids nL Qp tgt L S σ) (kf : ¬ (0 ≤ x) → Wg X ids nL Qp (pc + 3) L S σ) : Wg X ids nL Qp pc L (.int x :: S) σ := by
  obtain ⟨p, l, e, R, s, m, args, below, meth, c, ca, ρ, D, A⟩ := X
  obtain ⟨hx, hb, -⟩ := hX
  intro H locs ls hP hS hl
  exact lv_if_ge hx hb hd ht (fun q => kt q H locs ls hP hS hl) (fun q => kf q H locs ls hP hS hl)
theorem q_icmp_ge {x y : Int32} {off : Int} (tgt : Nat) (hX : Cok X ids nL cc ret dep own) (hd : decode cc pc = .ok (.if_icmp .ge off, 3)) (ht : (pc : Int) + off = (tgt : Int)) (kt : y ≤ x → Wg X ids nL Qp tgt L S σ) (kf : ¬ (y ≤ x) → Wg X ids nL Qp (pc + 3) L S σ) : Wg X ids nL Qp pc L (.int y :: .int x :: S) σ := by
  obtain ⟨p, l, e, R, s, m, args, below, meth, c, ca, ρ, D, A⟩ := X
  obtain ⟨hx, hb, -⟩ := hX
  intro H locs ls hP hS hl
  exact lv_icmp_ge hx hb hd ht (fun q => kt q H locs ls hP hS hl) (fun q => kf q H locs ls hP hS hl)
theorem q_if_gt {x : Int32} {off : Int} (tgt : Nat) (hX : Cok X ids nL cc ret dep own) (hd : decode cc pc = .ok (.ifCond .gt off, 3)) (ht : (pc : Int) + off = (tgt : Int)) (kt : 0 < x → Wg X ids nL Qp tgt L S σ) (kf : ¬ (0 < x) → Wg X ids nL Qp (pc + 3) L S σ) : Wg X ids nL Qp pc L (.int x :: S) σ := by
  obtain ⟨p, l, e, R, s, m, args, below, meth, c, ca, ρ, D, A⟩ := X
  obtain ⟨hx, hb, -⟩ := hX
  intro H locs ls hP hS hl
  exact lv_if_gt hx hb hd ht (fun q => kt q H locs ls hP hS hl) (fun q => kf q H locs ls hP hS hl)
theorem q_icmp_gt {x y : Int32} {off : Int} (tgt : Nat) (hX : Cok X ids nL cc ret dep own) (hd : decode cc pc = .ok (.if_icmp .gt off, 3)) (ht : (pc : Int) + off = (tgt : Int)) (kt : y < x → Wg X ids nL Qp tgt L S σ) (kf : ¬ (y < x) → Wg X ids nL Qp (pc + 3) L S σ) : Wg X ids nL Qp pc L (.int y :: .int x :: S) σ := by
  obtain ⟨p, l, e, R, s, m, args, below, meth, c, ca, ρ, D, A⟩ := X
  obtain ⟨hx, hb, -⟩ := hX
  intro H locs ls hP hS hl
  exact lv_icmp_gt hx hb hd ht (fun q => kt q H locs ls hP hS hl) (fun q => kf q H locs ls hP hS hl)
theorem q_if_le {x : Int32} {off : Int} (tgt : Nat) (hX : Cok X ids nL cc ret dep own) (hd : decode cc pc = .ok (.ifCond .le off, 3)) (ht : (pc : Int) + off = (tgt : Int)) (kt : x ≤ 0 → Wg X ids nL Qp tgt L S σ) (kf : ¬ (x ≤ 0) → Wg X ids nL Qp (pc + 3) L S σ) : Wg X ids nL Qp pc L (.int x :: S) σ := by
  obtain ⟨p, l, e, R, s, m, args, below, meth, c, ca, ρ, D, A⟩ := X
  obtain ⟨hx, hb, -⟩ := hX
  intro H locs ls hP hS hl
  exact lv_if_le hx hb hd ht (fun q => kt q H locs ls hP hS hl) (fun q => kf q H locs ls hP hS hl)
theorem q_icmp_le {x y : Int32} {off : Int} (tgt : Nat) (hX : Cok X ids nL cc ret dep own) (hd : decode cc pc = .ok (.if_icmp .le off, 3)) (ht : (pc : Int) + off = (tgt : Int)) (kt : x ≤ y → Wg X ids nL Qp tgt L S σ) (kf : ¬ (x ≤ y) → Wg X ids nL Qp (pc + 3) L S σ) : Wg X ids nL Qp pc L (.int y :: .int x :: S) σ := by
  obtain ⟨p, l, e, R, s, m, args, below, meth, c, ca, ρ, D, A⟩ := X
  obtain ⟨hx, hb, -⟩ := hX
  intro H locs ls hP hS hl
  exact lv_icmp_le hx hb hd ht (fun q => kt q H locs ls hP hS hl) (fun q => kf q H locs ls hP hS hl)
theorem q_goto {off : Int} (tgt : Nat) (hX : Cok X ids nL cc ret dep own) (hd : decode cc pc = .ok (.goto off, 3)) (ht : (pc : Int) + off = (tgt : Int)) (k : Wg X ids nL Qp tgt L S σ) : Wg X ids nL Qp pc L S σ := by
  obtain ⟨p, l, e, R, s, m, args, below, meth, c, ca, ρ, D, A⟩ := X
  obtain ⟨hx, hb, -⟩ := hX
  intro H locs ls hP hS hl
  exact lv_goto hx hb hd ht (k H locs ls hP hS hl)
theorem q_ifnull {o : Nat} {off : Int} (hX : Cok X ids nL cc ret dep own) (hd : decode cc pc = .ok (.ifnull off, 3)) (k : Wg X ids nL Qp (pc + 3) L S σ) : Wg X ids nL Qp pc L (.ref o :: S) σ := by
  obtain ⟨p, l, e, R, s, m, args, below, meth, c, ca, ρ, D, A⟩ := X
  obtain ⟨hx, hb, -⟩ := hX
  intro H locs ls hP hS hl
  exact lv_ifnull hx hb hd (k H locs ls hP hS hl)
theorem q_ifnonnull {o : Nat} {off : Int} (tgt : Nat) (hX : Cok X ids nL cc ret dep own) (hd : decode cc pc = .ok (.ifnonnull off, 3)) (ht : (pc : Int) + off = (tgt : Int)) (k : Wg X ids nL Qp tgt L S σ) : Wg X ids nL Qp pc L (.ref o :: S) σ := by
  obtain ⟨p, l, e, R, s, m, args, below, meth, c, ca, ρ, D, A⟩ := X
  obtain ⟨hx, hb, -⟩ := hX
  intro H locs ls hP hS hl
  exact lv_ifnonnull hx hb hd ht (k H locs ls hP hS hl)
theorem q_ifnullN {off : Int} (tgt : Nat) (hX : Cok X ids nL cc ret dep own) (hd : decode cc pc = .ok (.ifnull off, 3)) (ht : (pc : Int) + off = (tgt : Int)) (k : Wg X ids nL Qp tgt L S σ) : Wg X ids nL Qp pc L (.null :: S) σ := by
  obtain ⟨p, l, e, R, s, m, args, below, meth, c, ca, ρ, D, A⟩ := X
  obtain ⟨hx, hb, -⟩ := hX
  intro H locs ls hP hS hl
  exact lv_ifnullN hx hb hd ht (k H locs ls hP hS hl)
theorem q_ifnonnullN {off : Int} (hX : Cok X ids nL cc ret dep own) (hd : decode cc pc = .ok (.ifnonnull off, 3)) (k : Wg X ids nL Qp (pc + 3) L S σ) : Wg X ids nL Qp pc L (.null :: S) σ := by
  obtain ⟨p, l, e, R, s, m, args, below, meth, c, ca, ρ, D, A⟩ := X
  obtain ⟨hx, hb, -⟩ := hX
  intro H locs ls hP hS hl
  exact lv_ifnonnullN hx hb hd (k H locs ls hP hS hl)
theorem q_tableIn {x : Int32} {dflt lo hi : Int} {offs : Array Int} {len : Nat} {off : Int} (tgt : Nat) (hX : Cok X ids nL cc ret dep own) (hd : decode cc pc = .ok (.tableswitch dflt lo hi offs, len)) (h1 : ¬ x.toInt < lo) (h2 : ¬ hi < x.toInt) (ho : offs[(x.toInt - lo).toNat]? = some off) (ht : (pc : Int) + off = (tgt : Int)) (k : Wg X ids nL Qp tgt L S σ) : Wg X ids nL Qp pc L (.int x :: S) σ := by
  obtain ⟨p, l, e, R, s, m, args, below, meth, c, ca, ρ, D, A⟩ := X
  obtain ⟨hx, hb, -⟩ := hX
  intro H locs ls hP hS hl
  exact lv_tableIn hx hb hd h1 h2 ho ht (k H locs ls hP hS hl)
theorem q_tableOut {x : Int32} {dflt lo hi : Int} {offs : Array Int} {len : Nat} (tgt : Nat) (hX : Cok X ids nL cc ret dep own) (hd : decode cc pc = .ok (.tableswitch dflt lo hi offs, len)) (h : x.toInt < lo ∨ hi < x.toInt) (ht : (pc : Int) + dflt = (tgt : Int)) (k : Wg X ids nL Qp tgt L S σ) : Wg X ids nL Qp pc L (.int x :: S) σ := by
  obtain ⟨p, l, e, R, s, m, args, below, meth, c, ca, ρ, D, A⟩ := X
  obtain ⟨hx, hb, -⟩ := hX
  intro H locs ls hP hS hl
  exact lv_tableOut hx hb hd h ht (k H locs ls hP hS hl)
theorem q_lookup {x : Int32} {dflt : Int} {ps : Array (Int × Int)} {len : Nat} {off : Int} (tgt : Nat) (hX : Cok X ids nL cc ret dep own) (hd : decode cc pc = .ok (.lookupswitch dflt ps, len)) (hp : (ps.toList.zip (ps.toList.drop 1)).all (fun (a, next) => a.1 < next.1) = true) (ho : Op.lookupswitch.offset ps.toList dflt x.toInt = off) (ht : (pc : Int) + off = (tgt : Int)) (k : Wg X ids nL Qp tgt L S σ) : Wg X ids nL Qp pc L (.int x :: S) σ := by
  obtain ⟨p, l, e, R, s, m, args, below, meth, c, ca, ρ, D, A⟩ := X
  obtain ⟨hx, hb, -⟩ := hX
  intro H locs ls hP hS hl
  exact lv_lookup hx hb hd hp ho ht (k H locs ls hP hS hl)
end WR
