/-! PURE: feed, rules: the calls of both sides -/
theorem i8_low (x : Int32) : (x &&& 255).toInt8 = x.toInt8 := by
  apply Int8.toBitVec_inj.1
  apply BitVec.eq_of_getLsbD_eq
  intro i hi
  have h2 : (255 : Int32).toBitVec.getLsbD i = true := by
    have : ∀ j : Fin 8, (255 : Int32).toBitVec.getLsbD j.val = true := by decide +kernel
    exact this ⟨i, hi⟩
  have h4 : (x &&& 255).toBitVec.getLsbD i = x.toBitVec.getLsbD i := by
    show (x.toBitVec &&& (255 : Int32).toBitVec).getLsbD i = _
    rw [BitVec.getLsbD_and, h2, Bool.and_true]
  have h3 : i < 32 := by omega
  show (((x &&& 255).toBitVec).signExtend 8).getLsbD i = (x.toBitVec.signExtend 8).getLsbD i
  rw [BitVec.getLsbD_signExtend, BitVec.getLsbD_signExtend, if_pos h3, if_pos h3, h4]
theorem i8_sh (x u s : Int32) (n : Nat) (hn : n ≤ 24) (hu : u.toBitVec = x.toBitVec >>> n) (hs : (x >>> s).toBitVec = x.toBitVec.sshiftRight n) : u.toInt8 = (x >>> s).toInt8 := by
  apply Int8.toBitVec_inj.1
  apply BitVec.eq_of_getLsbD_eq
  intro i hi
  have h3 : i < 32 := by omega
  show (u.toBitVec.signExtend 8).getLsbD i = ((x >>> s).toBitVec.signExtend 8).getLsbD i
  rw [BitVec.getLsbD_signExtend, BitVec.getLsbD_signExtend, if_pos h3, if_pos h3, hu, hs, BitVec.getLsbD_ushiftRight, BitVec.getLsbD_sshiftRight, if_pos (by omega)]
  rw [decide_eq_false (show ¬ 32 ≤ i by omega)]
  rfl
/-- the k-th byte from below -/
def bC (x : Int32) (k : Nat) : Int32 := (UInt32.toInt32 ((Int32.toUInt32 x) >>> ((Int32.toUInt32 (8 * nI k)) &&& Int32.toUInt32 31))) &&& 255
def bN8 (x : Int32) (k : Nat) : Nat := (bC x k).toBitVec.toNat
theorem nI_bv (z : Int32) : z = nI z.toBitVec.toNat := by
  apply Int32.toBitVec_inj.mp
  show z.toBitVec = BitVec.ofNat 32 z.toBitVec.toNat
  rw [BitVec.ofNat_toNat, BitVec.setWidth_eq]
theorem bN8_ok (x : Int32) {k : Nat} (hk : k < 4) : bC x k = nI (bN8 x k) ∧ bN8 x k < 256 ∧ Int8.toInt32 (Int32.toInt8 (x >>> ((8 * nI k) &&& 31))) = sx (bN8 x k) := by
  have h1 : bC x k = nI (bN8 x k) := nI_bv _
  refine ⟨h1, ?_, ?_⟩
  · show ((UInt32.toInt32 ((Int32.toUInt32 x) >>> ((Int32.toUInt32 (8 * nI k)) &&& Int32.toUInt32 31))).toBitVec &&& (255 : Int32).toBitVec).toNat < 256
    rw [BitVec.toNat_and]
    exact Nat.lt_of_le_of_lt Nat.and_le_right (by decide)
  · unfold sx
    rw [← h1, bC, i8_low]
    congr 1
    symm
    have hs : (((8 * nI k : Int32).toUInt32 &&& Int32.toUInt32 31).toBitVec % 32).toNat = 8 * k ∧ ((((8 * nI k) &&& 31 : Int32)).toBitVec.smod 32).toNat = 8 * k := by
      rcases (by omega : k = 0 ∨ k = 1 ∨ k = 2 ∨ k = 3) with rfl | rfl | rfl | rfl <;> decide +kernel
    refine i8_sh x _ _ (8 * k) (by omega) ?_ ?_
    · rw [← hs.1]
      exact UInt32.toBitVec_shiftRight _ _
    · rw [← hs.2]
      exact Int32.toBitVec_shiftRight _ _
/-- n bytes, the highest first -/
def bl (x : Int32) : Nat → List Nat
  | 0 => []
  | n + 1 => bN8 x n :: bl x n
theorem bl_len (x : Int32) : ∀ n, (bl x n).length = n
  | 0 => rfl
  | n + 1 => by rw [bl, List.length_cons, bl_len x n]
section TX
variable {d e nc : Nat} {σ τ : St} {Q : Int32 → St → Int32 → St → Prop}
def fr12 (σ σ' : St) : Prop := (∀ x k, ¬ (x = 105 ∧ k = 1) → x ≠ 120 → gi σ' x k = gi σ x k) ∧ ∀ x, gl σ' x = gl σ x
def fr09 (τ τ' : St) : Prop := (∀ x k, ¬ (x = 0 ∧ k = 9) → x ≠ 12 → gi τ' x k = gi τ x k) ∧ ∀ x, gl τ' x = gl τ x
theorem c_feed {F : Int32 → St → Prop} {P33 : Int32 → St → Prop} {x : Int32} {bs : List Nat} {n : Nat} (hn : nc < 5) (hT : PT σ bs) (hl : bs.length + n ≤ 100) (hn4 : n ≤ 4)
    (H33 : ∀ (v3 : Int32) (σ : St), (((v3 < 0 → F (gi σ (rf 100 4) 1) σ) ∧ (¬ (v3 < 0) → EV (d + 1) (idsC nc) Y_X5_add [.ref (rf 100 4), .int ((UInt32.toInt32 ((Int32.toUInt32 x) >>> ((Int32.toUInt32 (8 * v3)) &&& Int32.toUInt32 31))) &&& 255)] σ (fun s2 => ∀ x3 : Int32, x3 = v3 + (-1) → P33 x3 s2)))) → P33 v3 σ)
    (h : ∀ σ', PT σ' (bs ++ bl x n) → fr12 σ σ' → F (nI (bs.length + n)) σ') : P33 (nI n - 1) σ := by
  have r4 : rf 100 4 = 105 := rfl
  rw [r4] at H33
  have loop : ∀ m b1 σ1, m ≤ n → b1 ++ bl x m = bs ++ bl x n → PT σ1 b1 → fr12 σ σ1 → P33 (nI m - 1) σ1 := by
    intro m
    induction m with
    | zero =>
      intro b1 σ1 q1 q2 q3 q4
      rw [show b1 ++ bl x 0 = b1 from List.append_nil b1] at q2
      refine H33 _ _ ⟨fun _ => ?_, fun y => absurd (by decide) y⟩
      rw [q3.1, q2, List.length_append, bl_len]
      exact h σ1 (by rw [← q2]; exact q3) q4
    | succ m ih =>
      intro b1 σ1 q1 q2 q3 q4
      have hlen := congrArg List.length q2
      rw [List.length_append, List.length_append, bl_len, bl_len] at hlen
      obtain ⟨g1, g2, -⟩ := bN8_ok x (k := m) (by omega)
      rw [nI_pred]
      refine H33 _ _ ⟨fun y => absurd y (nI_pos (by omega)), fun _ => fl_X5_add (hTx hn) ?_⟩
      rw [q3.1]
      refine ⟨fun y => absurd ((nI_leI (a := 100) (by decide) (by omega)).mp y) (by omega), fun _ => ⟨vp_in_nI (by omega) (by decide), fun s3 e3 s4 e4 x3 e5 => ?_⟩⟩
      have e3' : s3 = si σ1 120 b1.length (nI (bN8 x m)) := by rw [e3, cl_ix _ (by omega), ← g1]; rfl
      have g105 : gi s3 105 1 = nI b1.length := by rw [e3', gi_ne_o _ _ _ _ (by decide)]; exact q3.1
      rw [g105, nI_1] at e4
      rw [e5, ← Int32.sub_eq_add_neg]
      refine ih (b1 ++ [bN8 x m]) s4 (by omega) (by rw [List.append_assoc]; exact q2) ⟨?_, ?_, fun i b hb => ?_⟩ ⟨fun y k a1 a2 => ?_, fun y => ?_⟩
      · rw [e4, gi_same, List.length_append]; rfl
      · rw [List.length_append, List.length_singleton]; omega
      · by_cases hi : i < b1.length
        · rw [List.getElem?_append_left hi] at hb
          rw [e4, gi_ne_o _ _ _ _ (by decide), e3', gi_ne_k _ _ _ _ (by omega)]
          exact q3.2.2 i b hb
        · have hi2 : i = b1.length := by
            have := (List.getElem?_eq_some_iff.mp hb).1
            rw [List.length_append, List.length_singleton] at this
            omega
          subst hi2
          rw [List.getElem?_append_right (Nat.le_refl _), Nat.sub_self] at hb
          have hb : some (bN8 x m) = some b := hb
          cases hb
          rw [e4, gi_ne_o _ _ _ _ (by decide), e3', gi_same]
          exact ⟨rfl, g2⟩
      · rw [e4, gi_si, if_neg a1, e3', gi_ne_o _ _ _ _ a2]; exact q4.1 y k a1 a2
      · rw [e4, gl_si_o, e3', gl_si_o]; exact q4.2 y
  exact loop n bs σ (Nat.le_refl _) rfl hT ⟨fun _ _ _ _ => rfl, fun _ => rfl⟩
theorem r_feed {F : Int32 → St → Prop} {P31 : Int32 → St → Prop} {x : Int32} {bs : List Nat} {n : Nat} (hT : MT τ bs) (hl : bs.length + n ≤ 100) (hn4 : n ≤ 4)
    (H31 : ∀ (v3 : Int32) (σ : St), (((v3 < 0 → F (gi σ 0 9) σ) ∧ (¬ (v3 < 0) → vp_in (gi σ 0 9) 100 ∧ ∀ s3 : St, s3 = si σ (rf 0 12) (Int32.toNatClampNeg (gi σ 0 9)) (Int8.toInt32 (Int32.toInt8 (x >>> ((8 * v3) &&& 31)))) → ∀ s4 : St, s4 = si s3 0 9 ((gi s3 0 9) + 1) → ∀ x5 : Int32, x5 = v3 + (-1) → P31 x5 s4))) → P31 v3 σ)
    (h : ∀ τ', MT τ' (bs ++ bl x n) → fr09 τ τ' → F (nI (bs.length + n)) τ') : P31 (nI n - 1) τ := by
  have loop : ∀ m b1 τ1, m ≤ n → b1 ++ bl x m = bs ++ bl x n → MT τ1 b1 → fr09 τ τ1 → P31 (nI m - 1) τ1 := by
    intro m
    induction m with
    | zero =>
      intro b1 τ1 q1 q2 q3 q4
      rw [show b1 ++ bl x 0 = b1 from List.append_nil b1] at q2
      refine H31 _ _ ⟨fun _ => ?_, fun y => absurd (by decide) y⟩
      rw [q3.1, q2, List.length_append, bl_len]
      exact h τ1 (by rw [← q2]; exact q3) q4
    | succ m ih =>
      intro b1 τ1 q1 q2 q3 q4
      have hlen := congrArg List.length q2
      rw [List.length_append, List.length_append, bl_len, bl_len] at hlen
      obtain ⟨-, g2, g3⟩ := bN8_ok x (k := m) (by omega)
      rw [nI_pred]
      refine H31 _ _ ⟨fun y => absurd y (nI_pos (by omega)), fun _ => ?_⟩
      rw [q3.1]
      refine ⟨vp_in_nI (by omega) (by decide), fun s3 e3 s4 e4 x3 e5 => ?_⟩
      rw [rf0, cl_ix _ (by omega), g3] at e3
      have g9 : gi s3 0 9 = nI b1.length := by rw [e3, gi_ne_o _ _ _ _ (by decide)]; exact q3.1
      rw [g9, nI_1] at e4
      rw [e5, ← Int32.sub_eq_add_neg]
      refine ih (b1 ++ [bN8 x m]) s4 (by omega) (by rw [List.append_assoc]; exact q2) ⟨?_, ?_, fun i b hb => ?_⟩ ⟨fun y k a1 a2 => ?_, fun y => ?_⟩
      · rw [e4, gi_same, List.length_append]; rfl
      · rw [List.length_append, List.length_singleton]; omega
      · by_cases hi : i < b1.length
        · rw [List.getElem?_append_left hi] at hb
          rw [e4, gi_ne_o _ _ _ _ (by decide), e3, gi_ne_k _ _ _ _ (by omega)]
          exact q3.2.2 i b hb
        · have hi2 : i = b1.length := by
            have := (List.getElem?_eq_some_iff.mp hb).1
            rw [List.length_append, List.length_singleton] at this
            omega
          subst hi2
          rw [List.getElem?_append_right (Nat.le_refl _), Nat.sub_self] at hb
          have hb : some (bN8 x m) = some b := hb
          cases hb
          rw [e4, gi_ne_o _ _ _ _ (by decide), e3, gi_same]
          exact ⟨rfl, g2⟩
      · rw [e4, gi_si, if_neg a1, e3, gi_ne_o _ _ _ _ a2]; exact q4.1 y k a1 a2
      · rw [e4, gl_si_o, e3, gl_si_o]; exact q4.2 y
  exact loop n bs τ (Nat.le_refl _) rfl hT ⟨fun _ _ _ _ => rfl, fun _ => rfl⟩
theorem s_feed {a0 a1 : Int32} (h : Inv nc σ τ) (hQ : ∀ x σ' τ', Inv nc σ' τ' → Q x σ' x τ') : BI (d + 2) (e + 2) nc Y_X6_feed Y_X7_feed [.int a0, .int a1] σ τ Q := by
  have hn := h.nc
  obtain ⟨bs, p, m⟩ := h.2.2.2.1
  have bad : ¬ (0 ≤ a1 ∧ a1 ≤ 4) → EI (e + 2) idsR Y_X7_feed [.ref 0, .int a0, .int a1] τ (fun y τ' => Q (-2) σ y τ') := fun z => fl_X7_feed hR (fun P31 _ => kR_in ⟨fun y => absurd (bI_n.mp y) z, fun _ => hQ _ _ _ h⟩)
  refine fl_X6_feed (h100 hn) (fun P33 H33 => ⟨fun z => bad (fun y => Int32.not_le.mpr z y.1), fun z => ⟨fun z1 => ?_, fun z1 => bad (fun y => z1 y.2)⟩⟩)
  have h04 : 0 ≤ a1 ∧ a1 ≤ 4 := ⟨nlt.mp z, z1⟩
  obtain ⟨n, hn4, rfl⟩ := rng (n := 4) (by decide) h04.1 h04.2
  have h100' := p.2.1
  rw [show rf 100 4 = 105 from rfl, p.1, nI_add]
  have ref : ∀ F : Int32 → St → Prop, (∀ P31 : Int32 → St → Prop, (∀ (v3 : Int32) (σ : St), (((v3 < 0 → F (gi σ 0 9) σ) ∧ (¬ (v3 < 0) → vp_in (gi σ 0 9) 100 ∧ ∀ s3 : St, s3 = si σ (rf 0 12) (Int32.toNatClampNeg (gi σ 0 9)) (Int8.toInt32 (Int32.toInt8 (a0 >>> ((8 * v3) &&& 31)))) → ∀ s4 : St, s4 = si s3 0 9 ((gi s3 0 9) + 1) → ∀ x5 : Int32, x5 = v3 + (-1) → P31 x5 s4))) → P31 v3 σ) → ((nI (bs.length + n) ≤ 100 → P31 (nI n - 1) τ) ∧ (¬ (nI (bs.length + n) ≤ 100) → F (-4) τ))) → EI (e + 2) idsR Y_X7_feed [.ref 0, .int a0, .int (nI n)] τ F := by
    intro F hF
    refine fl_X7_feed hR (fun P31 H31 => kR_in ⟨fun _ => ?_, fun y => absurd h04 (bI_0.mp y)⟩)
    obtain ⟨f1, f2⟩ := hF P31 H31
    rw [m.1, nI_add]
    exact ⟨fun y x10 e10 => by rw [e10]; exact f1 y, f2⟩
  refine ⟨fun z2 x7 e7 => ?_, fun z2 => ?_⟩
  · have hl : bs.length + n ≤ 100 := (nI_leI (b := 100) (by omega) (by decide)).mp z2
    rw [e7]
    refine c_feed (F := fun x σ' => EI (e + 2) idsR Y_X7_feed [.ref 0, .int a0, .int (nI n)] τ (fun y τ' => Q x σ' y τ')) hn p hl hn4 H33 (fun σ' p' f1 => ref _ (fun P31 H31 => ⟨fun _ => r_feed m hl hn4 H31 (fun τ' m' f2 => ?_), fun y => absurd z2 y⟩))
    exact hQ _ _ _ (h.chg (fun x k => (x = 105 ∧ k = 1) ∨ x = 120) (fun x k => (x = 0 ∧ k = 9) ∨ x = 12) (fun x k hx => f1.1 x k (by omega) (by omega)) (fun x k hx => f2.1 x k (by omega) (by omega)) (Or.inr ⟨fun x k hx => by omega, fun x k hx => by omega⟩) (Or.inr ⟨fun x k hx => by omega, fun x k hx => by omega⟩) (Or.inl ⟨_, p', m'⟩) (fun x k hx => by omega) (fun k => by omega) (Or.inr ⟨fun x k hx => by omega, fun x k hx => by omega⟩) (Or.inr ⟨⟨fun x k hx => by omega, fun x k hx => by omega⟩, f1.2, f2.2⟩) ⟨fun x k hx => by omega, fun x k hx => by omega⟩)
  · exact ref _ (fun P31 _ => ⟨fun y => absurd y z2, fun _ => hQ _ _ _ h⟩)
theorem RuC_fine {σ' : St} {r : Nat} {R : Ru} (h : RuC σ r R) (e0 : gi σ' (140 + r) 0 = gi σ (140 + r) 0) (e : ∀ x k, 150 + 10 * r ≤ x → x < 160 + 10 * r → gi σ' x k = gi σ x k) : RuC σ' r R := by
  refine ⟨h.1, by rw [e0]; exact h.2.1, fun c w x l hc => ?_⟩
  obtain ⟨h1, h2, f, h3, h4, h5, h6⟩ := h.2.2 c w x l hc
  refine ⟨by rw [e _ c (by omega) (by omega)]; exact h1, by rw [e _ c (by omega) (by omega)]; exact h2, f, ?_, by rw [e _ c (by omega) (by omega)]; exact h4, h5, fun i t ht => by rw [e _ _ (by omega) (by omega)]; exact h6 i t ht⟩
  by_cases hc0 : c = 0
  · rw [if_pos hc0] at h3 ⊢; exact h3
  · rw [if_neg hc0] at h3 ⊢
    rw [e _ _ (by omega) (by omega)]; exact h3
theorem RuR_fine {τ' : St} {r : Nat} {R : Ru} (hr : r < 5) (h : RuR τ r R) (hb : RuB τ r R) (e0 : gi τ' 13 r = gi τ 13 r) (e : ∀ x k, 14 ≤ x → x ≤ 18 → 6 * r ≤ k → k < 6 * r + 6 → gi τ' x k = gi τ x k) (e9 : ∀ k, 100 * r ≤ k → k < 100 * r + 100 → gi τ' 19 k = gi τ 19 k) : RuR τ' r R ∧ RuB τ' r R := by
  refine ⟨⟨h.1, by rw [e0]; exact h.2.1, fun c w x l hc => ?_⟩, fun c w x l hc hw => ?_⟩
  · obtain ⟨h1, h2, h3⟩ := h.2.2 c w x l hc
    have hcl : c < 6 := by
      have := (List.getElem?_eq_some_iff.mp hc).1
      have := h.1
      omega
    refine ⟨by rw [e 14 _ (by omega) (by omega) (by omega) (by omega)]; exact h1, fun hw => ?_, fun hw => by rw [e 16 _ (by omega) (by omega) (by omega) (by omega)]; exact h3 hw⟩
    obtain ⟨u1, f, u2, u3, u4, u5⟩ := h2 hw
    obtain ⟨f2, v1, v2, v3⟩ := hb c w x l hc hw
    have hff : f = f2 := (nI_eq (by omega) (by omega)).mp (u2.symm.trans v1)
    subst hff
    refine ⟨by rw [e 15 _ (by omega) (by omega) (by omega) (by omega)]; exact u1, f, by rw [e 17 _ (by omega) (by omega) (by omega) (by omega)]; exact u2, by rw [e 18 _ (by omega) (by omega) (by omega) (by omega)]; exact u3, u4, fun i t ht => ?_⟩
    have hi := (List.getElem?_eq_some_iff.mp ht).1
    rw [e9 _ (by omega) (by omega)]
    exact u5 i t ht
  · have hcl : c < 6 := by
      have := (List.getElem?_eq_some_iff.mp hc).1
      have := h.1
      omega
    rw [e 17 _ (by omega) (by omega) (by omega) (by omega)]
    exact hb c w x l hc hw
end TX
