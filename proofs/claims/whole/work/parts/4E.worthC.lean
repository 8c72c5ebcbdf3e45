/-! PURE: worth of an end, value of a roll -/
/-- a case: by PLAINTIFF, DEFENDANT, WRONG and POINT -/
abbrev Cs : Type := Nat → Nat → Nat
def cC (σ : St) (k : Nat) (cs : Cs) : Prop := ∀ w p, w < 3 → p < 5 → gi σ (402 + 10 * k + w) p = nI (cs w p) ∧ cs w p ≤ 10
def cR (τ : St) (k : Nat) (cs : Cs) : Prop := ∀ w p, w < 3 → p < 5 → gi τ (4 + w) (6 * k + p) = nI (cs w p) ∧ cs w p ≤ 10
def wM (cs : Cs) (s : SF) (sl : Bool) : Nat :=
  if s 1 = 1 then 10 + cs 0 (s 3).toNatClampNeg - cs 1 (s 3).toNatClampNeg
  else if s 1 = 3 then (if s 4 = 0 then 20 - 2 * cs 2 (s 3).toNatClampNeg else 2 * cs 2 (s 3).toNatClampNeg)
  else if s 1 = 4 then (if s 4 = 0 then 20 * sl.toNat else 20 - 20 * sl.toNat)
  else if s 4 = 0 then 0 else 20
def slG (G : Gm) (ps : List Nat) : Bool := decide (sgG G ps 2 = 1)
def wth (C : Cx) (cs : Cs) (ps : List Nat) : Nat := wM cs (sgG C.1 ps) (slG C.1 ps.tail)
theorem slG_e {G : Gm} {ps : List Nat} : sgG G ps 2 = nI (slG G ps).toNat := by
  have key : ∀ x : Int32, (∃ b : Bool, x = nI b.toNat) → x = nI (decide (x = 1)).toNat := by
    rintro x ⟨b, rfl⟩
    cases b <;> decide
  refine key _ ?_
  match G, ps with
  | none, _ => exact ⟨false, rfl⟩
  | some (r, R, wo), [] => exact ⟨false, rfl⟩
  | some (r, R, wo), m :: ps => exact ⟨_, rfl⟩
theorem wM_le {cs : Cs} {s : SF} {sl : Bool} (h : ∀ w p, w < 3 → p < 5 → cs w p ≤ 10) (hp : (s 3).toNatClampNeg < 5) : wM cs s sl ≤ 20 := by
  have h0 := h 0 _ (by decide) hp
  have h2 := h 2 _ (by decide) hp
  have hb : sl.toNat ≤ 1 := Bool.toNat_le sl
  unfold wM
  split
  · omega
  · split
    · split <;> omega
    · split
      · split <;> omega
      · split <;> omega
theorem gs_p {n : Nat} {s : SF} (h : gs n s) : (s 3).toNatClampNeg < 5 ∧ s 3 = nI (s 3).toNatClampNeg ∧ (s 4 = 0 ∨ s 4 = 1) := by
  obtain ⟨⟨p, q, hp, hq, e3, -⟩, h4, -⟩ := h
  rw [e3, cl_ix p (by omega)]
  exact ⟨hp, rfl, h4⟩
theorem wth_le {C : Cx} {cs : Cs} {ps : List Nat} (h : ∀ w p, w < 3 → p < 5 → cs w p ≤ 10) (hl : lgG C.1 ps) : wth C cs ps ≤ 20 := wM_le h (gs_p hl.gs).1
theorem kind_cons {G : Gm} {ps : List Nat} (h : sgG G ps 1 = 4) : 0 < ps.length := by
  match G, ps with
  | none, _ => exact absurd (show (0 : Int32) = 4 from h) (by decide)
  | some (r, R, wo), [] => exact absurd (show (0 : Int32) = 4 from h) (by decide)
  | some (r, R, wo), m :: ps => exact Nat.succ_pos _
theorem rf_cs {k : Nat} (hk : k < 4) : rf (400 + 10 * k) 1 = 401 + 10 * k := by
  rcases (by omega : k = 0 ∨ k = 1 ∨ k = 2 ∨ k = 3) with rfl | rfl | rfl | rfl <;> rfl
theorem rf_cs2 {k w : Nat} (hk : k < 4) : rf (401 + 10 * k) w = 402 + 10 * k + w := by
  rcases (by omega : k = 0 ∨ k = 1 ∨ k = 2 ∨ k = 3) with rfl | rfl | rfl | rfl
  · show 401 + 1 + w = _; omega
  · show 411 + 1 + w = _; omega
  · show 421 + 1 + w = _; omega
  · show 431 + 1 + w = _; omega
theorem c_below {b : Nat} {σ : St} {G : Gm} {ps : List Nat} (h : RlC σ b G ps) (hp : 0 < ps.length) : gi σ (Bo b + 10 + (ps.length - 1)) 2 = nI (slG G ps.tail).toNat := by
  match G, h with
  | none, h => rw [h.1] at hp; exact absurd hp (Nat.lt_irrefl 0)
  | some (r, R, wo), h =>
    have := (h.1.2.2.2.2.2.1 (ps.length - 1) (by omega)).1 2 (by decide)
    rw [this, show ps.length - (ps.length - 1) = 1 by omega, List.drop_one]
    exact slG_e (G := some (r, R, wo))
theorem c_worthIn {d nc b k : Nat} {C : Cx} {ps : List Nat} {cs : Cs} {σ : St} {Q : Int32 → St → Prop} (hn : nc < 5) (hb : isB b) (hk : k < nc) (hR : RlC σ b C.1 ps) (hc : cC σ k cs) (h : Q (nI (wth C cs ps)) σ) : EI (d + 2) (idsC nc) Y_X2_worthIn [.ref b, .ref (400 + 10 * k)] σ Q := by
  have hl := hR.lg.len
  have hBo := Bo_v hb
  obtain ⟨hp, ep, h4⟩ := gs_p hR.lg.gs
  refine fl_X2_worthIn (hRo hn hb) (hCase hn hk) (fun P130 P135 H130 H135 => c_now hn hb hR (fun hI => ⟨hI, ?_⟩))
  rw [hR.top.1 4 (by decide), hR.top.1 1 (by decide), hR.top.1 3 (by decide), hR.made, rf_cs (by omega), rfb hb (by decide)]
  have cC' : ∀ w, w < 3 → gi σ (rf (401 + 10 * k) w) (sgG C.1 ps 3).toNatClampNeg = nI (cs w (sgG C.1 ps 3).toNatClampNeg) ∧ cs w (sgG C.1 ps 3).toNatClampNeg ≤ 10 := fun w hw => by rw [rf_cs2 (by omega)]; exact hc w _ hw hp
  have hbel := fun hz => c_below hR hz
  unfold wth at h
  generalize hsl : slG C.1 ps.tail = sl at h hbel
  have hs1 : sgG C.1 ps 1 = 4 → 0 < ps.length := kind_cons
  generalize sgG C.1 ps = s at *
  have hpin : vp_in (s 3) 5 := by rw [ep]; exact vp_in_nI hp (by decide)
  obtain ⟨c0, l0⟩ := cC' 0 (by decide)
  obtain ⟨c1, l1⟩ := cC' 1 (by decide)
  obtain ⟨c2, l2⟩ := cC' 2 (by decide)
  have z0 : ((0 : Int32).toNatClampNeg) = 0 := rfl
  have z1 : ((1 : Int32).toNatClampNeg) = 1 := rfl
  have z2 : ((2 : Int32).toNatClampNeg) = 2 := rfl
  have last : ∀ V : Nat, V ≤ 20 → (wM cs s sl = if s 4 = 0 then V else 20 - V) → P135 (s 4) (nI V) σ := by
    intro V hV hw
    rw [hw] at h
    refine H135 _ _ _ ⟨fun q => ?_, fun q => ?_⟩
    · rw [if_neg q] at h
      rw [show (20 : Int32) = nI 20 from rfl, pk_sub hV]; exact h
    · rw [if_pos q] at h; exact h
  rintro x4 rfl x5 rfl
  refine ⟨fun q => ?_, fun q => ?_, fun q => ?_, fun q => ?_, fun q1 q2 q3 q4 => ?_⟩
  · have hW : wM cs s sl = 10 + cs 0 (s 3).toNatClampNeg - cs 1 (s 3).toNatClampNeg := by rw [wM, if_pos q]
    rcases h4 with e4 | e4
    · rw [e4, show (1 : Int32) - 0 = 1 from rfl, z0, z1, c0, c1]
      refine ⟨vp_dec (by decide), hpin, vp_dec (by decide), hpin, fun x ex => ?_⟩
      rw [ex, show (10 : Int32) = nI 10 from rfl, nI_add, pk_sub (by omega), ← e4]
      exact last _ (by omega) (by rw [hW, if_pos e4])
    · rw [e4, show (1 : Int32) - 1 = 0 from rfl, z0, z1, c0, c1]
      refine ⟨vp_dec (by decide), hpin, vp_dec (by decide), hpin, fun x ex => ?_⟩
      rw [ex, show (10 : Int32) = nI 10 from rfl, nI_add, pk_sub (by omega), ← e4]
      exact last _ (by omega) (by rw [hW, if_neg (by rw [e4]; decide)]; omega)
  · refine last 0 (by decide) ?_
    rw [wM, if_neg (by rw [q]; decide), if_neg (by rw [q]; decide), if_neg (by rw [q]; decide)]
  · refine ⟨hpin, fun x ex => ?_⟩
    rw [ex, z2, c2, show (2 : Int32) = nI 2 from rfl, pk_mul, show (20 : Int32) = nI 20 from rfl, pk_sub (by omega)]
    refine last _ (by omega) ?_
    rw [wM, if_neg (by rw [q]; decide), if_pos q]
    by_cases e : s 4 = 0
    · rw [if_pos e, if_pos e]
    · rw [if_neg e, if_neg e]; omega
  · have hpos := hs1 q
    refine ⟨fun q2 => absurd ((nI_leI (b := 0) (by omega) (by decide)).mp q2) (by omega), fun q2 => ?_⟩
    have e1 : nI ps.length - 1 = nI (ps.length - 1) := pk_sub (b := 1) hpos
    rw [e1, cl_ix _ (by omega), rfs hb, hbel hpos, show (20 : Int32) = nI 20 from rfl, pk_mul]
    have hbl : sl.toNat ≤ 1 := Bool.toNat_le sl
    refine ⟨vp_in_nI (by omega) (by decide), H130 _ _ _ (last _ (by omega) ?_)⟩
    rw [wM, if_neg (by rw [q]; decide), if_neg (by rw [q]; decide), if_pos q]
  · refine last 0 (by decide) ?_
    rw [wM, if_neg q1, if_neg q3, if_neg q4]
/-! the value: of rolls that go on, the best for him who pleads -/
def stp (w0 : Bool) (c : Nat → Bool) (vf : Nat → Nat) (acc : Option (Nat × Nat)) (i : Nat) : Option (Nat × Nat) := if c i = true then (match acc with
    | none => some (vf i, i)
    | some (x, j) => if (w0 = true ∧ x < vf i) ∨ (¬ w0 = true ∧ vf i < x) then some (vf i, i) else some (x, j)) else acc
def bst (w0 : Bool) (c : Nat → Bool) (vf : Nat → Nat) : Nat → Option (Nat × Nat)
  | 0 => none
  | n + 1 => stp w0 c vf (bst w0 c vf n) n
def w0G (G : Gm) (ps : List Nat) : Bool := decide (sgG G ps 4 = 0)
def val (C : Cx) (w : List Nat → Nat) : Nat → List Nat → Nat
  | 0, ps => w ps
  | f + 1, ps => match bst (w0G C.1 ps) (cb C ps) (fun i => val C w f (PLa i :: ps)) 14 with
    | none => w ps
    | some (v, _) => v
def bso (C : Cx) (w : List Nat → Nat) : Nat → List Nat → Option (Nat × Nat)
  | 0, _ => none
  | f + 1, ps => bst (w0G C.1 ps) (cb C ps) (fun i => val C w f (PLa i :: ps)) 14
theorem bst_some {w0 : Bool} {c : Nat → Bool} {vf : Nat → Nat} {n : Nat} {x j : Nat} (h : bst w0 c vf n = some (x, j)) : j < n ∧ c j = true ∧ x = vf j := by
  induction n generalizing x j with
  | zero => cases h
  | succ n ih =>
    rw [bst, stp.eq_def] at h
    split at h
    · rename_i hc
      split at h
      · cases h; exact ⟨Nat.lt_succ_self _, hc, rfl⟩
      · rename_i y i hy
        split at h
        · cases h; exact ⟨Nat.lt_succ_self _, hc, rfl⟩
        · cases h
          obtain ⟨h1, h2, h3⟩ := ih hy
          exact ⟨by omega, h2, h3⟩
    · obtain ⟨h1, h2, h3⟩ := ih h
      exact ⟨by omega, h2, h3⟩
theorem bst_none {w0 : Bool} {c : Nat → Bool} {vf : Nat → Nat} {n : Nat} : bst w0 c vf n = none ↔ ∀ i, i < n → c i = false := by
  induction n with
  | zero => exact ⟨fun _ i hi => by omega, fun _ => rfl⟩
  | succ n ih =>
    rw [bst, stp.eq_def]
    constructor
    · intro h
      split at h
      · split at h
        · cases h
        · split at h <;> cases h
      · rename_i hc
        intro i hi
        by_cases hin : i = n
        · subst hin; cases hz : c i
          · rfl
          · exact absurd hz hc
        · exact ih.mp h i (by omega)
    · intro h
      rw [if_neg (by rw [h n (by omega)]; decide)]
      exact ih.mpr (fun i hi => h i (by omega))
theorem bst_mono {w0 : Bool} {c : Nat → Bool} {vf : Nat → Nat} {m x j : Nat} (h : bst w0 c vf m = some (x, j)) : ∀ n, m ≤ n → ∃ y i, bst w0 c vf n = some (y, i) ∧ (w0 = true → x ≤ y) ∧ (¬ w0 = true → y ≤ x) := by
  intro n
  induction n with
  | zero => intro hm; rw [show m = 0 by omega] at h; cases h
  | succ n ih =>
    intro hm
    by_cases he : m = n + 1
    · subst he; exact ⟨x, j, h, fun _ => Nat.le_refl _, fun _ => Nat.le_refl _⟩
    · obtain ⟨y, i, e, h1, h2⟩ := ih (by omega)
      rw [bst, stp.eq_def, e]
      by_cases hc : c n = true
      · rw [if_pos hc]
        dsimp only
        by_cases hq : (w0 = true ∧ y < vf n) ∨ (¬ w0 = true ∧ vf n < y)
        · rw [if_pos hq]
          exact ⟨_, _, rfl, fun z => by have := h1 z; rcases hq with q | q; omega; exact absurd z q.1, fun z => by have := h2 z; rcases hq with q | q; exact absurd q.1 z; omega⟩
        · rw [if_neg hq]; exact ⟨_, _, rfl, h1, h2⟩
      · rw [if_neg hc]; exact ⟨y, i, rfl, h1, h2⟩
theorem val_bso (C : Cx) (w : List Nat → Nat) (f : Nat) (ps : List Nat) : val C w f ps = (match bso C w f ps with | none => w ps | some (v, _) => v) := by
  cases f <;> rfl
theorem bso_leaf {C : Cx} {w : List Nat → Nat} {f : Nat} {ps : List Nat} (h : leaf C ps = true) : bso C w f ps = none := by
  cases f
  · rfl
  · exact bst_none.mpr (leaf_iff.mp h)
theorem val_leaf {C : Cx} {w : List Nat → Nat} {f : Nat} {ps : List Nat} (h : leaf C ps = true) : val C w f ps = w ps := by rw [val_bso, bso_leaf h]
theorem val_le {C : Cx} {w : List Nat → Nat} (hw : ∀ ps, lgG C.1 ps → w ps ≤ 20) : ∀ f ps, lgG C.1 ps → val C w f ps ≤ 20 := by
  intro f
  induction f with
  | zero => exact hw
  | succ f ih =>
    intro ps hl
    rw [val]
    split
    · exact hw ps hl
    · rename_i v j h
      obtain ⟨h1, h2, rfl⟩ := bst_some h
      exact ih _ (hl.cons h1 h2)
