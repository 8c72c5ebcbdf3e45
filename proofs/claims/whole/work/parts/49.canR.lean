/-! PURE: what may be pleaded, as the reference tells it -/
theorem hs_bit : ∀ E, E < 32 → ∀ p, p < 5 → (((nI E >>> (nI p &&& 31)) &&& 1 = 1) ↔ E.testBit p = true) := by decide +kernel
theorem eqP.tr {a b c : St} (h : eqP a b) (h2 : eqP b c) : eqP a c := ⟨fun o ho => (h2.1 o ho).trans (h.1 o ho), fun o => (h2.2 o).trans (h.2 o)⟩
theorem kR_can {d : Nat} {τ : St} {Q : Int32 → St → Prop} {r m : Nat} {R : Ru} {wo : Option Nat} {ps : List Nat} (hK : RoR τ r R wo ps) (hG : RgR τ r R wo ps) (h8 : ¬ gi τ 0 8 = 0) (hlk : ∀ p, p < 5 → P32 (gi τ 1 p) ∧ P32 (gi τ 2 p)) (hm : m ∈ PLn)
    (h1 : canP (gi τ 1) (gi τ 2) R wo ps m → ∀ τ', eqP τ τ' → Q 1 τ') (h0 : ¬ canP (gi τ 1) (gi τ 2) R wo ps m → ∀ τ', eqP τ τ' → Q 0 τ') : EI (d + 5) idsR Y_X7_can [.ref 0, .int (nI m)] τ Q := by
  obtain ⟨hr, hRR, hok, hwo, hlg⟩ := hG
  have hl5 := lgl_len hok hlg
  have hgs := lgl_gs hlg
  obtain ⟨m1, m2, m3, m4⟩ := PLn_lt m hm
  obtain ⟨k24, k25, k26, -, -⟩ := id hK
  have htop := hK.top
  obtain ⟨⟨p, sd, hp, hsd, e3, e6, hpb⟩, h4, ⟨ad, had, ead⟩, ⟨kk, hkk, e1⟩, ⟨a7, ha7, e7⟩, ⟨a8, ha8, e8⟩⟩ := hgs
  have k10 : (nI m) / 10 = nI (m / 10) := by rw [show (10 : Int32) = nI 10 from rfl]; exact pk_div (by omega) (by decide) (by decide)
  have r10 : (nI m) - (nI m) / 10 * 10 = nI (m % 10) := by rw [show (10 : Int32) = nI 10 from rfl]; exact pk_rem (by omega) (by decide) (by decide)
  have hk : ∀ j : Nat, j ≤ 6 → (nI (m / 10) = nI j ↔ m / 10 = j) := fun j hj => nI_eq (by omega) (by omega)
  obtain ⟨t6, t3, t4, t5, t1, t33, t7, t8, -⟩ := id htop
  have en : (nI ps.length).toNatClampNeg = ps.length := cl_ix _ (by omega)
  have hin : vp_in (nI ps.length) 8 := vp_in_nI (by omega) (by decide)
  refine fl_X7_can hR (fun P211 H211 x4 e4 => ?_)
  rw [k26] at e4
  subst e4
  rw [k10] at r10
  rw [k10, r10]
  simp only [rf0, en]
  refine ⟨fun c => absurd c h8, fun _ => ⟨hin, fun c => h0 (fun z => ?_) _ (eqP.rf τ), fun c => ?_⟩⟩
  · rw [t33] at c; exact c (enM_0.mpr z.1.2)
  have ncl : ¬ clM (stg R wo ps) := by rw [t33] at c; exact enM_0.mp c
  refine kR_figureOf (d := d + 3) hr hRR (Or.inl rfl) hwo k24 k25 ⟨fun c2 => h0 (fun z => nlt.mpr c2 z.1.1) _ (eqP.rf τ), fun c2 => ?_⟩
  have hop : opn R wo ps := ⟨nle.mp c2, ncl⟩
  refine kR_some hr hRR hok (Or.inl rfl) hwo k24 k25 (by omega) k26 (by rw [t5, ead]; exact ⟨ad, had, rfl⟩) (fun τ1 hE => ⟨fun c3 => ?_, fun c3 => h0 (fun z => ?_) _ hE⟩)
  case refine_2 =>
    have := bI_n.mp c3
    rw [smM_congr (faR_faM htop) hok (Or.inl rfl)] at this
    rw [z.2.1] at this
    cases this
  have hs0 : smM R wo 0 (nI (m / 10)) (faM ps.length (stg R wo ps)) = false := by
    have := bI_0.mp c3
    rw [smM_congr (faR_faM htop) hok (Or.inl rfl)] at this
    cases hz : smM R wo 0 (nI (m / 10)) (faM ps.length (stg R wo ps))
    · rfl
    · rw [hz] at this; exact absurd rfl this
  rintro x14 rfl x15 rfl
  obtain ⟨E, hE32, eE⟩ := (hlk p hp).1
  obtain ⟨F, hF32, eF⟩ := (hlk p hp).2
  have q29 : gi τ1 29 ps.length = nI p := by rw [hE.1 29 (by decide), t3, e3]
  have q28 : ∀ τ2, eqP τ τ2 → gi τ2 28 ps.length = nI sd := fun τ2 h2 => by rw [h2.1 28 (by decide), t6, e6]
  have q1 : gi τ1 1 p = nI E := by rw [hE.1 1 (by decide), eE]
  have q2 : gi τ1 2 p = nI F := by rw [hE.1 2 (by decide), eF]
  have q32 : gi τ1 32 ps.length = nI kk := by rw [hE.1 32 (by decide), t1, e1]
  have q30 : gi τ1 30 ps.length = stg R wo ps 4 := by rw [hE.1 30 (by decide), t4]
  have q34 : gi τ1 34 ps.length = stg R wo ps 7 := by rw [hE.1 34 (by decide), t7]
  have q35 : gi τ1 35 ps.length = stg R wo ps 8 := by rw [hE.1 35 (by decide), t8]
  have ep : (nI p).toNatClampNeg = p := cl_ix _ (by omega)
  have hpin : vp_in (nI p) 6 := vp_in_nI (by omega) (by decide)
  have cX : (gi τ 1 (stg R wo ps 3).toNatClampNeg).toNatClampNeg = E := by rw [e3, ep, eE, cl_ix E (by omega)]
  have cY : (gi τ 2 (stg R wo ps 3).toNatClampNeg).toNatClampNeg = F := by rw [e3, ep, eF, cl_ix F (by omega)]
  have cS : (stg R wo ps 6).toNatClampNeg = sd := by rw [e6, cl_ix sd (by omega)]
  unfold canP at h1 h0
  rw [cX, cY, cS] at h1 h0
  rw [q29, ep, q1, q2, q32, q30, q34, q35]
  have k2 : nI (m / 10) = 2 ↔ m / 10 = 2 := hk 2 (by decide)
  have k3 : nI (m / 10) = 3 ↔ m / 10 = 3 := hk 3 (by decide)
  have k4 : nI (m / 10) = 4 ↔ m / 10 = 4 := hk 4 (by decide)
  have k5 : nI (m / 10) = 5 ↔ m / 10 = 5 := hk 5 (by decide)
  have k6 : nI (m / 10) = 6 ↔ m / 10 = 6 := hk 6 (by decide)
  have day : ∀ x : Int32, m / 10 = 6 → x = (if stg R wo ps 4 = 0 then stg R wo ps 7 else stg R wo ps 8) → P211 x τ1 := by
    rintro x c rfl
    have hRR1 : RuR τ1 r R := RuR_same hRR (fun x h1 h2 => hE.1 x (by omega))
    refine H211 _ _ (kR_figureOf (d := d + 3) hr hRR1 (Or.inr rfl) hwo (by rw [hE.1 0 (by decide)]; exact k24) (by rw [hE.1 0 (by decide)]; exact k25) ⟨fun c5 => h0 (fun z => ?_) _ hE, fun c5 => h1 ?_ _ hE⟩)
    · exact nlt.mpr c5 (z.2.2.2.2.2 c)
    · exact ⟨hop, hs0, fun z => by omega, fun z => by omega, fun z => by omega, fun _ => nle.mp c5⟩
  refine ⟨fun c => ?_, fun c => ?_, fun c => ?_, fun c => ?_, fun c => ?_, fun c2 c3 c4 c5 c6 => ?_⟩
  · have c := k2.mp c
    refine ⟨hin, hpin, kR_has ⟨fun c5 => h0 (fun z => ?_) _ hE, fun c5 => ⟨hin, ?_⟩⟩⟩
    · exact bI_0.mp c5 ((hs_bit E hE32 _ m4).mpr (z.2.2.1 c).1)
    rw [q28 τ1 hE]
    refine kR_has ⟨fun c6 => h0 (fun z => ?_) _ hE, fun c6 => h1 ?_ _ hE⟩
    · rw [(hs_bit sd hsd _ m4).mp (bI_n.mp c6)] at z
      exact absurd (z.2.2.1 c).2 (by decide)
    · refine ⟨hop, hs0, fun _ => ⟨(hs_bit E hE32 _ m4).mp (bI_n.mp c5), ?_⟩, fun z => by omega, fun z => by omega, fun z => by omega⟩
      cases hz : sd.testBit (m % 10)
      · rfl
      · exact absurd ((hs_bit sd hsd _ m4).mpr hz) (bI_0.mp c6)
  · have c := k3.mp c
    exact h1 ⟨hop, hs0, fun z => by omega, fun z => by omega, fun z => by omega, fun z => by omega⟩ _ hE
  · have c := k4.mp c
    refine ⟨fun c5 => h0 (fun z => ?_) _ hE, fun c5 => ⟨hin, fun c6 => h0 (fun z => ?_) _ hE, fun c6 => h1 ?_ _ hE⟩⟩
    · exact absurd ((nI_leI (b := 0) (by omega) (by decide)).mp c5) (by have := (z.2.2.2.2.1 c).1; omega)
    · exact (z.2.2.2.2.1 c).2 (by rw [e1]; exact c6)
    · have hpos : 0 < ps.length := (nI_ltI (a := 0) (by decide) (by omega)).mp (nle.mp c5)
      exact ⟨hop, hs0, fun z => by omega, fun z => by omega, fun _ => ⟨hpos, by rw [e1]; exact c6⟩, fun z => by omega⟩
  · have c := k5.mp c
    refine ⟨hin, hpin, kR_has ⟨fun c5 => h0 (fun z => ?_) _ hE, fun c5 => ⟨hin, ?_⟩⟩⟩
    · exact bI_0.mp c5 ((hs_bit F hF32 _ m4).mpr (z.2.2.2.1 c).1)
    rw [q28 τ1 hE]
    refine kR_has ⟨fun c6 => h0 (fun z => ?_) _ hE, fun c6 => h1 ?_ _ hE⟩
    · rw [(hs_bit sd hsd _ m4).mp (bI_n.mp c6)] at z
      exact absurd (z.2.2.2.1 c).2 (by decide)
    · refine ⟨hop, hs0, fun z => by omega, fun _ => ⟨(hs_bit F hF32 _ m4).mp (bI_n.mp c5), ?_⟩, fun z => by omega, fun z => by omega⟩
      cases hz : sd.testBit (m % 10)
      · rfl
      · exact absurd ((hs_bit sd hsd _ m4).mpr hz) (bI_0.mp c6)
  · have c := k6.mp c
    exact ⟨hin, fun c5 => ⟨hin, day _ c (by rw [if_neg c5])⟩, fun c5 => ⟨hin, day _ c (by rw [if_pos c5])⟩⟩
  · have n2 := fun z => c2 (k2.mpr z)
    have n4 := fun z => c4 (k4.mpr z)
    have n5 := fun z => c5 (k5.mpr z)
    have n6 := fun z => c6 (k6.mpr z)
    exact h1 ⟨hop, hs0, fun z => absurd z n2, fun z => absurd z n5, fun z => absurd z n4, fun z => absurd z n6⟩ _ hE
