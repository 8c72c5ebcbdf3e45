/-! PURE: the class's reader: tests, and what stands within others -/
theorem bnd_1 {a : PR} {k : List Nat → PR} (h : (bnd a k).1 = true) : a.1 = true ∧ (k a.2.1).1 = true ∧ (bnd a k).2.1 = (k a.2.1).2.1 := by
  obtain ⟨b, r, s⟩ := a
  cases b
  · exact ff h
  · exact ⟨rfl, h, rfl⟩
theorem tst1_eq (x : PR) : bnd x tst1 = if (bnd (bnd (bnd x (oneP 4)) (oneP 5)) (oneP 6)).1 = true then
    bnd (true, (fig2 (oneV 6 (bnd (bnd x (oneP 4)) (oneP 5)).2.1) (bnd (bnd (bnd x (oneP 4)) (oneP 5)) (oneP 6)).2.1).2, (bnd (bnd (bnd x (oneP 4)) (oneP 5)) (oneP 6)).2.2)
      (fun r => (true, r, [nI (1000 * oneV 4 x.2.1 + 100 * oneV 5 (bnd x (oneP 4)).2.1 + (fig2 (oneV 6 (bnd (bnd x (oneP 4)) (oneP 5)).2.1) (bnd (bnd (bnd x (oneP 4)) (oneP 5)) (oneP 6)).2.1).1)]))
    else bnd (bnd (bnd x (oneP 4)) (oneP 5)) (oneP 6) := by
  obtain ⟨b, r, s⟩ := x
  cases b
  · rfl
  · unfold tst1
    rcases h4 : oneP 4 r with ⟨b4, r4, s4⟩
    cases b4
    · simp [bnd, h4]
    · rcases h5 : oneP 5 r4 with ⟨b5, r5, s5⟩
      cases b5
      · simp [bnd, h4, h5]
      · rcases h6 : oneP 6 r5 with ⟨b6, r6, s6⟩
        cases b6 <;> simp [bnd, h4, h5, h6]
section PD
variable {nc rr : Nat} {bs : List Nat}
theorem num_tst (f s n : Nat) : ((nI f * 1000 + nI s * 100) + nI n) = nI (1000 * f + 100 * s + n) := by
  have e1 : nI f * 1000 = nI (1000 * f) := by rw [Int32.mul_comm]; exact (Int32.ofNat_mul 1000 f).symm
  have e2 : nI s * 100 = nI (100 * s) := by rw [Int32.mul_comm]; exact (Int32.ofNat_mul 100 s).symm
  rw [e1, e2, nI_add, nI_add]
theorem dg10 : ∀ b, b < 256 → (ixL (kbs.getD 6 []) (nI b) = if 48 ≤ b ∧ b ≤ 57 then some (b - 48) else none) := by decide +kernel
theorem fig_val : ∀ n, n < 10 → ∀ b, b < 58 → 48 ≤ b → ((10 * nI n) + nI b) - 48 = nI (10 * n + (b - 48)) := by decide +kernel
theorem fig2_no {n b : Nat} {r : List Nat} (hb : b < 256) (h : ¬ (48 ≤ b ∧ b ≤ 57)) : fig2 n (b :: r) = (n, b :: r) := by
  unfold fig2 one
  dsimp only
  rw [dg10 b hb, if_neg h]
  rfl
theorem fig2_yes {n b : Nat} {r : List Nat} (hb : b < 256) (h : 48 ≤ b ∧ b ≤ 57) : fig2 n (b :: r) = (10 * n + (b - 48), r) := by
  unfold fig2 one
  dsimp only
  rw [dg10 b hb, if_pos h]
  rfl
theorem c_addTest {d e : Nat} {σ : St} {x : PR} {a b c : Int32} {Q : St → Prop} (hn : nc < 5) (hX : PX (e + 1) σ bs rr x) (h : ∀ σ', frP rr σ σ' → PX e σ' bs rr (bnd x (fun r => (true, r, [(a * 1000 + b * 100) + c]))) → Q σ') : EV (d + 2) (idsC nc) Y_X3_addTest [.ref (140 + rr), .int a, .int b, .int c] σ Q :=
  fl_X3_addTest (hRu hn hX.2.1) (c_addStep hn hX h)
theorem c_takeTest {d e : Nat} {σ : St} {x : PR} {Q : St → Prop} (hn : nc < 5) (hX : PX e σ bs rr x) (h : ∀ σ', frP rr σ σ' → PX e σ' bs rr (bnd x tst1) → Q σ') : EV (d + 8) (idsC nc) Y_X5_takeTest [.ref 105] σ Q := by
  refine fl_X5_takeTest (hTx hn) (fun P95 H95 => ?_)
  refine c_takeOneOf hn (by decide) hX (fun v1 σ1 f1 g1 u1 => ?_)
  refine c_takeOneOf hn (by decide) g1 (fun v2 σ2 f2 g2 u2 => ?_)
  refine c_takeOneOf hn (by decide) g2 (fun v3 σ3 f3 g3 u3 => ?_)
  have f123 := (f1.tr f2).tr f3
  -- the step is made
  have fin : ∀ σ4 y v, frP rr σ3 σ4 → PX (e + 1) σ4 bs rr y → (∀ σ5, frP rr σ σ5 → PX e σ5 bs rr (bnd y (fun r => (true, r, [(v1 * 1000 + v2 * 100) + v]))) → Q σ5) → P95 v1 v2 v σ4 := by
    intro σ4 y v j1 j2 j3
    refine H95 _ _ _ _ ?_
    rw [j2.2.2.1]
    exact ⟨fun z => (by cases z), fun r1 er => (by cases er; exact ⟨hRu hn j2.2.1, c_addTest hn j2 (fun σ5 k1 k2 => j3 σ5 ((f123.tr j1).tr k1) k2)⟩)⟩
  have hle := g3.le
  have h100 := g3.1.2.1
  rw [tst1_eq x] at h
  have hx2 : (bnd (bnd (bnd x (oneP 4)) (oneP 5)) (oneP 6)).1 = true → v1 = nI (oneV 4 x.2.1) ∧ v2 = nI (oneV 5 (bnd x (oneP 4)).2.1) ∧ v3 = nI (oneV 6 (bnd (bnd x (oneP 4)) (oneP 5)).2.1) ∧ oneV 6 (bnd (bnd x (oneP 4)) (oneP 5)).2.1 < 10 := by
    intro z
    obtain ⟨z2, z3, -⟩ := bnd_1 z
    obtain ⟨z4, z5, -⟩ := bnd_1 z2
    obtain ⟨z6, z7, -⟩ := bnd_1 z4
    exact ⟨u1 z6 z7, u2 z4 z5, u3 z2 z3, oneV_ltS z3⟩
  generalize bnd (bnd x (oneP 4)) (oneP 5) = x2 at g3 hle h hx2
  generalize bnd x2 (oneP 6) = x3 at g3 hle h hx2
  obtain ⟨b, r, s⟩ := x3
  rw [g3.2.2.2.2.2.1, g3.2.2.2.2.1, g3.1.1]
  cases b
  · refine ⟨fun _ => fin σ3 _ v3 (frP.rf _ _) (g3.weak (by omega)) (fun σ5 k1 k2 => h σ5 k1 k2), fun z => absurd z n1_0⟩
  · refine ⟨fun z => absurd rfl z, fun _ => ?_⟩
    obtain ⟨rfl, rfl, rfl, hlt⟩ := hx2 rfl
    rw [if_pos rfl] at h
    have no : fig2 (oneV 6 x2.2.1) r = (oneV 6 x2.2.1, r) → P95 (nI (oneV 4 x.2.1)) (nI (oneV 5 (bnd x (oneP 4)).2.1)) (nI (oneV 6 x2.2.1)) σ3 := by
      intro hf
      refine fin σ3 (true, r, s) _ (frP.rf _ _) (g3.weak (by omega)) (fun σ5 k1 k2 => h σ5 k1 ?_)
      rw [num_tst] at k2
      show PX e σ5 bs rr (bnd (true, (fig2 (oneV 6 x2.2.1) r).2, s) (fun r1 => (true, r1, [nI (_ + (fig2 (oneV 6 x2.2.1) r).1)])))
      rw [hf]
      exact k2
    cases r with
    | nil =>
      refine ⟨fun _ => no rfl, fun z => absurd (nI_le ?_ (by omega)) z⟩
      show bs.length ≤ bs.length - 0
      omega
    | cons a r =>
      obtain ⟨b1, b2, b3, b4⟩ := g3.byte (s2 := []) rfl
      refine ⟨fun z => absurd ((nI_leI (by omega) (by omega)).mp z) (by omega), fun _ => ⟨vp_in_nI (by omega) (by decide), ?_⟩⟩
      rw [cl_ix _ (by omega), show rf 105 0 = 120 from rfl, b1]
      refine ⟨fun z => no (fig2_no b2 (fun y => ?_)), fun z => ⟨vp_in_nI (by omega) (by decide), fun z2 => no (fig2_no b2 (fun y => ?_)), fun z2 => ⟨vp_in_nI (by omega) (by decide), fun x16 e16 s17 e17 => ?_⟩⟩⟩
      · have := (nI_ltI (b := 48) (by omega) (by decide)).mp z
        omega
      · have := (nI_ltI (a := 57) (by decide) (by omega)).mp z2
        omega
      · have h1 : ¬ a < 48 := fun y => z (nI_lt y (by decide))
        have h2 : ¬ 57 < a := fun y => z2 (nI_lt (a := 57) y (by omega))
        obtain ⟨k1, k2⟩ := g3.adv
        rw [← g3.2.2.2.2.1] at e17
        rw [← e17] at k1 k2
        refine fin s17 (true, r, s) x16 k2 (k1.weak (by omega)) (fun σ5 j1 j2 => h σ5 j1 ?_)
        rw [e16, fig_val _ hlt a (by omega) (by omega), num_tst] at j2
        show PX e σ5 bs rr (bnd (true, (fig2 (oneV 6 x2.2.1) (a :: r)).2, s) (fun r1 => (true, r1, [nI (_ + (fig2 (oneV 6 x2.2.1) (a :: r)).1)])))
        rw [fig2_yes b2 ⟨by omega, by omega⟩]
        exact j2
end PD
