/-! PURE: the calls of the roll, both sides -/
section CR
variable {d e nc : Nat} {σ τ : St} {Q : Int32 → St → Int32 → St → Prop}
theorem m1_nI {p : Nat} (hp : p < 2 ^ 31) : ¬ nI p = -1 := fun z => by
  have := nI_pos (n := p) hp
  rw [z] at this
  exact this (by decide)
theorem r7 : rf 100 7 = 108 := rfl
theorem r8 : rf 100 8 = 109 := rfl
theorem r_0 : rf 100 0 = 101 := rfl
theorem s_may {a0 : Int32} (h : Inv nc σ τ) (hQ : ∀ x σ' τ', Inv nc σ' τ' → Q x σ' x τ') : BI (d + 4) (e + 6) nc Y_X6_may Y_X7_may [.int a0] σ τ Q := by
  have hn := h.nc
  obtain ⟨Rs, G, ps, hi⟩ := h.op
  obtain ⟨lk1, lk2⟩ := h.lk G
  refine fl_X6_may (h100 hn) (c_placeOf (fun z => ⟨fun y => absurd rfl y, fun _ => ?_⟩) (fun p hp ep => ⟨fun _ => ?_, fun y => absurd y (m1_nI (by omega))⟩))
  · exact fl_X7_may hR (r_isPlea (fun _ => ⟨fun y => absurd rfl y, fun _ => hQ _ _ _ h⟩) (fun y => absurd y z))
  · rw [r7]
    refine c_open (C := CxI G σ) hn b108 hi.2.1 lk1 (fun N hN hb => ?_)
    rw [c_bit hN hp, hb p hp]
    refine fl_X7_may hR (r_isPlea (fun y => absurd ⟨p, hp, ep⟩ y) (fun _ => ⟨fun _ => ?_, fun y => absurd y (by decide)⟩))
    rw [ep]
    refine r_can (C := CxI G σ) hi.2.2.1 lk2 hp (fun τ' hE => ?_)
    have hI := h.eqP hE
    cases hc : cb (CxI G σ) ps p with
    | false => rw [bI_f (by decide)]; exact ⟨fun _ => hQ _ _ _ hI, fun y => absurd rfl y⟩
    | true => rw [bI_t rfl]; exact ⟨fun y => absurd y (by decide), fun _ => hQ _ _ _ hI⟩
theorem s_plead {a0 : Int32} (h : Inv nc σ τ) (hQ : ∀ x σ' τ', Inv nc σ' τ' → Q x σ' x τ') : BI (d + 5) (e + 6) nc Y_X6_plead Y_X7_plead [.int a0] σ τ Q := by
  have hn := h.nc
  obtain ⟨Rs, G, ps, hi⟩ := h.op
  obtain ⟨lk1, lk2⟩ := h.lk G
  have hl := hi.2.1.lg.len
  refine fl_X6_plead (h100 hn) (c_placeOf (fun z => ⟨fun y => absurd rfl y, fun _ => ?_⟩) (fun p hp ep => ⟨fun _ => ?_, fun y => absurd y (m1_nI (by omega))⟩))
  · exact fl_X7_plead hR (r_isPlea (fun _ => ⟨fun y => absurd rfl y, fun _ => hQ _ _ _ h⟩) (fun y => absurd y z))
  · rw [r7]
    refine c_open (C := CxI G σ) hn b108 hi.2.1 lk1 (fun N hN hb => ?_)
    rw [c_bit hN hp, hb p hp, ep]
    cases hc : cb (CxI G σ) ps p with
    | false =>
      refine ⟨fun y => absurd rfl y, fun _ => fl_X7_plead hR (r_isPlea (fun y => absurd ⟨p, hp, rfl⟩ y) (fun _ => ⟨fun _ => ?_, fun y => absurd y (by decide)⟩))⟩
      refine r_can (C := CxI G σ) hi.2.2.1 lk2 hp (fun τ' hE => ?_)
      rw [hc, bI_f (by decide)]
      exact ⟨fun y => absurd rfl y, fun _ => hQ _ _ _ (h.eqP hE)⟩
    | true =>
      refine ⟨fun _ => c_make (C := CxI G σ) hn b108 hi.2.1 hp hc (fun σ' w1 w2 w3 w4 => ?_), fun y => absurd y n1_0⟩
      rw [w1.made]
      refine fl_X7_plead hR (r_isPlea (fun y => absurd ⟨p, hp, rfl⟩ y) (fun _ => ⟨fun _ => ?_, fun y => absurd y (by decide)⟩))
      refine r_can (C := CxI G σ) hi.2.2.1 lk2 hp (fun τ1 hE => ?_)
      rw [hc, bI_t rfl]
      refine ⟨fun _ => r_make (C := CxI G σ) (RlR_eqP hi.2.2.1 hE) hp hc (fun τ2 v1 v2 v3 v4 => ?_), fun y => absurd y (by decide)⟩
      rw [v1.made]
      have v2' : fmR ps.length τ τ2 := (hE.fm _).tr v2
      have hB : Bo 108 = 200 := rfl
      obtain ⟨hu, hC, hT, hg, h25, h24⟩ := hi
      refine hQ _ _ _ (h.walk (fun x k a1 a2 a3 a4 a5 a6 a7 => w2.1 x k (fun z => by unfold exc at z; omega)) w2.2 (fun x k a1 a2 a3 a4 => v2'.1 x k (by omega) (by omega) (by omega) (by omega) (by omega)) v2'.2 hu ⟨G, PLa p :: ps, w1, v1, hg, ?_, fun z => ?_⟩)
      · rw [v2'.1 0 25 (by omega) (by omega) (by omega) (by omega) (by omega)]; exact h25
      · rw [v2'.1 0 24 (by omega) (by omega) (by omega) (by omega) (by omega)]; exact h24 z
theorem s_back (h : Inv nc σ τ) (hQ : ∀ x σ' τ', Inv nc σ' τ' → Q x σ' x τ') : BI (d + 1) (e + 1) nc Y_X6_back Y_X7_back [] σ τ Q := by
  have hn := h.nc
  obtain ⟨Rs, G, ps, hi⟩ := h.op
  obtain ⟨hu, hC, hT, hg, h25, h24⟩ := hi
  have hl := hC.lg.len
  refine fl_X6_back (h100 hn) ?_
  rw [r7, hC.made]
  cases ps with
  | nil =>
    refine ⟨fun y => absurd rfl y, fun _ => fl_X7_back hR ?_⟩
    rw [hT.made]
    exact ⟨fun y => absurd rfl y, fun _ => hQ _ _ _ h⟩
  | cons m qs =>
    rw [List.length_cons] at hl ⊢
    refine ⟨fun _ s2 e2 => ?_, fun y => absurd y (nI_ne0 (by omega) (by omega))⟩
    rw [nI_pred] at e2
    rw [e2, gi_same]
    refine fl_X7_back hR ?_
    rw [hT.made, List.length_cons]
    refine ⟨fun _ s3 e3 => ?_, fun y => absurd y (nI_ne0 (by omega) (by omega))⟩
    rw [nI_pred] at e3
    rw [e3, gi_same]
    refine hQ _ _ _ (h.walk (fun x k a1 a2 a3 a4 a5 a6 a7 => gi_ne_o _ _ _ _ a2) (fun x => gl_si_o _ _ _ _ _) (fun x k a1 a2 a3 a4 => by rw [gi_si, if_neg (by omega)]) (fun x => gl_si_o _ _ _ _ _) hu ⟨G, qs, RlC_pop b108 hC, RlR_pop hT, hg, ?_, fun z => ?_⟩)
    · rw [gi_ne_k _ _ _ _ (by decide)]; exact h25
    · rw [gi_ne_k _ _ _ _ (by decide)]; exact h24 z
theorem s_stands {a0 : Int32} (h : Inv nc σ τ) (hQ : ∀ x σ' τ', Inv nc σ' τ' → Q x σ' x τ') : BI (d + 4) (e + 8) nc Y_X6_stands Y_X7_stands [.int a0] σ τ Q := by
  have hn := h.nc
  obtain ⟨Rs, G, ps, hi⟩ := h.op
  obtain ⟨lk1, lk2⟩ := h.lk G
  obtain ⟨hu, hC, hT, hg, h25, h24⟩ := id hi
  have hl := hC.lg.len
  refine fl_X6_stands (h100 hn) (c_now hn b108 hC (fun hI => ⟨hI, ?_⟩))
  obtain ⟨t1, t2, t3⟩ := hC.top
  obtain ⟨u1, u2, u3, u4, u5, u6, u7, u8, u9⟩ := hT.top
  have hin : vp_in (gi τ 0 26) 8 := by rw [hT.made]; exact vp_in_nI (by omega) (by decide)
  have hcl : (gi τ 0 26).toNatClampNeg = ps.length := by rw [hT.made, cl_ix _ (by omega)]
  rw [r7, t1 3 (by decide), t1 4 (by decide), t1 5 (by decide), t1 2 (by decide)]
  -- the reference's, where what isn't a PLEA's
  have small : ∀ w : Nat, w < 10 → a0 = nI w → EI (e + 7) idsR Y_X7_in [.ref 0, .int a0, .int 10, .int (9 + gi τ 0 26)] τ (fun x2 s1 => x2 = 0 ∧ s1 = τ) := by
    intro w hw ew
    refine kR_in ?_
    rw [bI_f (fun z => ?_)]
    · exact ⟨rfl, rfl⟩
    · rw [ew] at z
      have := (nI_leI (a := 10) (by decide) (by omega)).mp z.1
      omega
  have sml : ∀ (F : Int32 → St → Prop) (w : Nat), w < 10 → a0 = nI w → F 0 τ → EI (e + 7) idsR Y_X7_in [.ref 0, .int a0, .int 10, .int (9 + gi τ 0 26)] τ F := by
    intro F w hw ew hF
    refine kR_in ?_
    rw [bI_f (fun z => ?_)]
    · exact hF
    · rw [ew] at z
      have := (nI_leI (a := 10) (by decide) (by omega)).mp z.1
      omega
  refine ⟨fun c => ?_, fun c => ?_, fun c => ?_, fun c => ?_, fun c => ?_, fun c0 c1 c2 c3 c4 => ?_⟩
  · subst c
    refine fl_X7_stands hR (sml _ 0 (by decide) rfl ⟨fun _ => ⟨fun _ => ⟨hin, ?_⟩, fun y => absurd y (by decide), fun y => absurd y (by decide), fun y => absurd y (by decide), fun y => absurd y (by decide), fun y => absurd rfl y⟩, fun y => absurd rfl y⟩)
    rw [hcl, rf0, u2]
    exact hQ _ _ _ h
  · subst c
    refine fl_X7_stands hR (sml _ 1 (by decide) rfl ⟨fun _ => ⟨fun y => absurd y (by decide), fun _ => ⟨hin, ?_⟩, fun y => absurd y (by decide), fun y => absurd y (by decide), fun y => absurd y (by decide), fun _ y => absurd rfl y⟩, fun y => absurd rfl y⟩)
    rw [hcl, rf0, u3]
    exact hQ _ _ _ h
  · subst c
    refine fl_X7_stands hR (sml _ 2 (by decide) rfl ⟨fun _ => ⟨fun y => absurd y (by decide), fun y => absurd y (by decide), fun _ => ⟨hin, ?_⟩, fun y => absurd y (by decide), fun y => absurd y (by decide), fun _ _ y => absurd rfl y⟩, fun y => absurd rfl y⟩)
    rw [hcl, rf0, u4]
    exact hQ _ _ _ h
  · subst c
    refine fl_X7_stands hR (sml _ 3 (by decide) rfl ⟨fun _ => ⟨fun y => absurd y (by decide), fun y => absurd y (by decide), fun y => absurd y (by decide), fun _ => ⟨hin, ?_⟩, fun y => absurd y (by decide), fun _ _ _ y => absurd rfl y⟩, fun y => absurd rfl y⟩)
    rw [hcl, rf0, u9, slG_e]
    cases slG G ps with
    | false => exact ⟨fun _ => hQ _ _ _ h, fun y => absurd rfl y⟩
    | true => exact ⟨fun y => absurd y n1_0, fun _ => hQ _ _ _ h⟩
  · subst c
    refine c_endSort (C := CxI G σ) hn b108 hC lk1 ?_
    refine fl_X7_stands hR (sml _ 4 (by decide) rfl ⟨fun _ => ⟨fun y => absurd y (by decide), fun y => absurd y (by decide), fun y => absurd y (by decide), fun y => absurd y (by decide), fun _ => ?_, fun _ _ _ _ y => absurd rfl y⟩, fun y => absurd rfl y⟩)
    refine r_endSort (C := CxI G σ) hT lk2 h.all (fun τ' hE => hQ _ _ _ (h.eqP hE))
  · have e9 : (9 : Int32) + gi τ 0 26 = nI (9 + ps.length) := by rw [hT.made]; exact nI_add 9 ps.length
    refine ⟨fun z => c_pleaAt hn b108 hC ?_, fun z => ?_⟩
    · have hnn : ¬ a0 < 0 := by
        intro y
        have q1 := i32_le.mp z
        have q2 := i32_lt.mp y
        have ee : (10 : Int32).toInt = 10 := rfl
        have e0 : (0 : Int32).toInt = 0 := rfl
        omega
      obtain ⟨j, hj, rfl⟩ := nI_of hnn
      have hj10 := (nI_leI (a := 10) (by decide) hj).mp z
      have e10 : nI j - 10 = nI (j - 10) := pk_sub hj10
      rw [e10]
      refine fl_X7_stands hR (kR_in ?_)
      rw [e9, e10]
      by_cases hin2 : j ≤ 9 + ps.length
      · rw [bI_t ⟨z, nI_le hin2 (by omega)⟩]
        refine ⟨fun y => absurd y (by decide), fun _ => ⟨vp_in_nI (by omega) (by decide), ?_⟩⟩
        rw [cl_ix _ (by omega), rf0, hT.at27 (by omega)]
        have : plA ps (nI (j - 10)) = nI (ps.reverse.getD (j - 10) 0) := by
          unfold plA
          rw [if_pos ⟨nI_pos' (by omega), nI_lt (by omega) (by omega)⟩, cl_ix _ (by omega)]
        rw [this]
        exact hQ _ _ _ h
      · rw [bI_f (fun y => hin2 ((nI_leI hj (by omega)).mp y.2))]
        have : plA ps (nI (j - 10)) = -1 := by
          unfold plA
          rw [if_neg (fun y => by have := (nI_ltI (by omega) (by omega)).mp y.2; omega)]
        rw [this]
        exact ⟨fun _ => ⟨fun y => absurd y c0, fun y => absurd y c1, fun y => absurd y c2, fun y => absurd y c3, fun y => absurd y c4, fun _ _ _ _ _ => hQ _ _ _ h⟩, fun y => absurd rfl y⟩
    · refine fl_X7_stands hR (kR_in ?_)
      rw [bI_f (fun y => z y.1)]
      exact ⟨fun _ => ⟨fun y => absurd y c0, fun y => absurd y c1, fun y => absurd y c2, fun y => absurd y c3, fun y => absurd y c4, fun _ _ _ _ _ => hQ _ _ _ h⟩, fun y => absurd rfl y⟩
theorem isW_nI {a : Int32} (h : isW a) : ∃ w : Nat, w < 8 ∧ a = nI w := by
  rcases h with z | z | z | z | z
  · exact ⟨0, by decide, z⟩
  · exact ⟨1, by decide, z⟩
  · exact ⟨3, by decide, z⟩
  · exact ⟨4, by decide, z⟩
  · exact ⟨7, by decide, z⟩
theorem s_ends {a0 : Int32} (h : Inv nc σ τ) (hQ : ∀ x σ' τ', Inv nc σ' τ' → Q x σ' x τ') : BI (d + 12) (e + 8) nc Y_X6_ends Y_X7_ends [.int a0] σ τ Q := by
  have hn := h.nc
  obtain ⟨Rs, G, ps, hi⟩ := h.op
  obtain ⟨lk1, lk2⟩ := h.lk G
  obtain ⟨hu, hC, hT, hg, h25, h24⟩ := id hi
  refine fl_X6_ends (h100 hn) (fun P27 H27 => ?_)
  rw [r7] at H27
  have yes : isW a0 → P27 σ := by
    intro hw
    refine H27 _ ?_
    obtain ⟨w, hw8, ew⟩ := isW_nI hw
    rw [ew]
    refine c_countEnds (C := CxI G σ) hn b108 hC lk1 hw8 (fun σ' f1 m1 => ?_)
    refine r_ends (C := CxI G σ) hT lk2 h.all (fun y => absurd (ew ▸ hw) y) (fun w2 hw2 ew2 _ τ' f2 m2 => ?_)
    have : w2 = w := ((nI_eq (by omega) (by omega)).mp ew2).symm
    rw [this]
    exact hQ _ _ _ (h.fm hi f1 m1 f2 m2)
  refine ⟨fun z => yes (Or.inl z), fun z0 => ⟨fun z => yes (Or.inr (Or.inl z)), fun z1 => ⟨fun z => yes (Or.inr (Or.inr (Or.inl z))), fun z3 => ⟨fun z => yes (Or.inr (Or.inr (Or.inr (Or.inl z)))), fun z4 => ⟨fun z => yes (Or.inr (Or.inr (Or.inr (Or.inr z)))), fun z7 => ?_⟩⟩⟩⟩⟩
  have hnw : ¬ isW a0 := by
    rintro (z | z | z | z | z)
    · exact z0 z
    · exact z1 z
    · exact z3 z
    · exact z4 z
    · exact z7 z
  exact r_ends (C := CxI G σ) hT lk2 h.all (fun _ => hQ _ _ _ h) (fun w hw ew hw2 => absurd hw2 hnw)
theorem lt_m1 {a : Int32} : a < -1 ↔ ¬ -1 ≤ a := Int32.not_le.symm
theorem s_row {a0 a1 : Int32} (h : Inv nc σ τ) (hQ : ∀ x σ' τ', Inv nc σ' τ' → Q x σ' x τ') : BI (d + 12) (e + 8) nc Y_X6_row Y_X7_row [.int a0, .int a1] σ τ Q := by
  have hn := h.nc
  obtain ⟨Rs, G, ps, hi⟩ := h.op
  obtain ⟨lk1, lk2⟩ := h.lk G
  obtain ⟨hu, hC, hT, hg, h25, h24⟩ := id hi
  refine fl_X6_row (h100 hn) (fun P9 H9 => ?_)
  rw [r7]
  have no : (a0 < 0 ∨ a1 < -1) → P9 σ := by
    intro hz
    refine H9 _ (r_row (C := CxI G σ) hT lk2 h.all (fun _ τ' f2 m2 => hQ _ _ _ (h.fm hi (fmN.rf _ _ _) hC.made f2 m2)) (fun i hi31 ei τ' f2 m2 => ?_))
    have h1 : a1 < -1 := hz.resolve_left (by rw [ei]; exact nI_pos hi31)
    unfold rowB
    rw [if_pos h1]
    exact hQ _ _ _ (h.fm hi (fmN.rf _ _ _) hC.made f2 m2)
  refine ⟨fun z => no (Or.inl z), fun z => ⟨fun z1 => ?_, fun z1 => no (Or.inr (lt_m1.mpr z1))⟩⟩
  obtain ⟨i, hi31, rfl⟩ := nI_of z
  refine c_pleaOfRow (C := CxI G σ) hn b108 hC lk1 hi31 z1 (fun σ' f1 m1 => ?_)
  refine r_row (C := CxI G σ) hT lk2 h.all (fun y => absurd y z) (fun i2 hi2 ei τ' f2 m2 => ?_)
  have : i2 = i := ((nI_eq hi31 hi2).mp ei).symm
  rw [this]
  unfold rowB
  rw [if_neg (fun y => lt_m1.mp y z1)]
  exact hQ _ _ _ (h.fm hi f1 m1 f2 m2)
theorem s_worth {a0 : Int32} (h : Inv nc σ τ) (hQ : ∀ x σ' τ', Inv nc σ' τ' → Q x σ' x τ') : BI (d + 4) (e + 8) nc Y_X6_worth Y_X7_worth [.int a0] σ τ Q := by
  have hn := h.nc
  obtain ⟨Rs, G, ps, hi⟩ := h.op
  obtain ⟨lk1, lk2⟩ := h.lk G
  obtain ⟨hu, hC, hT, hg, h25, h24⟩ := id hi
  refine fl_X6_worth (h100 hn) (c_caseAt h (fun z => ⟨fun _ => ?_, fun r2 y => (by cases y)⟩) (fun k hk ek => ⟨fun y => (by cases y), fun r2 e2 => ?_⟩))
  · exact fl_X7_worth hR (r_isCase hn h.r0 (fun _ => ⟨fun y => absurd rfl y, fun _ => hQ _ _ _ h⟩) (fun y => absurd y z))
  · cases e2
    obtain ⟨cs, hc1, hc2⟩ := h.cs hk
    refine ⟨hCase hn hk, ?_⟩
    rw [r7, ek]
    refine c_endSort (C := CxI G σ) hn b108 hC lk1 ?_
    have ref : ∀ F : Int32 → St → Prop, (∀ τ', eqP τ τ' → (¬ esG (CxI G σ) ps = 0 → F (nI (wth (CxI G σ) cs ps)) τ') ∧ (esG (CxI G σ) ps = 0 → F (-3) τ')) → EI (e + 8) idsR Y_X7_worth [.ref 0, .int (nI k)] τ F := by
      intro F hF
      refine fl_X7_worth hR (r_isCase hn h.r0 (fun y => absurd ⟨k, hk, rfl⟩ y) (fun _ => ⟨fun _ => ?_, fun y => absurd y (by decide)⟩))
      refine r_endSort (C := CxI G σ) hT lk2 h.all (fun τ' hE => ⟨fun z => ?_, fun z => (hF τ' hE).2 z⟩)
      refine r_worthOf (C := CxI G σ) (by omega) (RlR_eqP hT hE) (fun w p hw hp => ?_) ((hF τ' hE).1 z)
      rw [hE.1 _ (by omega)]
      exact hc2 w p hw hp
    refine ⟨fun z => ?_, fun z => ?_⟩
    · exact c_worthIn (C := CxI G σ) hn b108 hk hC hc1 (ref _ (fun τ' hE => ⟨fun _ => hQ _ _ _ (h.eqP hE), fun y => absurd y z⟩))
    · exact ref _ (fun τ' hE => ⟨fun y => absurd z y, fun _ => hQ _ _ _ (h.eqP hE)⟩)
theorem s_best {a0 a1 : Int32} (h : Inv nc σ τ) (hQ : ∀ x σ' τ', Inv nc σ' τ' → Q x σ' x τ') : BI (d + 13) (e + 8) nc Y_X6_best Y_X7_best [.int a0, .int a1] σ τ Q := by
  have hn := h.nc
  obtain ⟨Rs, G, ps, hi⟩ := h.op
  obtain ⟨lk1, lk2⟩ := h.lk G
  obtain ⟨hu, hC, hT, hg, h25, h24⟩ := id hi
  refine fl_X6_best (h100 hn) (c_caseAt h (fun z => ⟨fun _ => ?_, fun r2 y => (by cases y)⟩) (fun k hk ek => ⟨fun y => (by cases y), fun r2 e2 => ?_⟩))
  · exact fl_X7_best hR (fun P41 P76 P101 _ _ _ => r_isCase hn h.r0 (fun _ => ⟨fun _ => hQ _ _ _ h, fun y => absurd rfl y⟩) (fun y => absurd y z))
  · cases e2
    obtain ⟨cs, hc1, hc2⟩ := h.cs hk
    refine ⟨hCase hn hk, ?_⟩
    rw [r7, ek]
    refine ⟨fun z => ⟨fun z2 => ?_, fun z2 => ?_⟩, fun z => ?_⟩
    · have hnn : ¬ a1 < 0 := by
        intro y
        have q1 := i32_le.mp z
        have q2 := i32_lt.mp y
        have q3 : ¬ a1.toInt = -1 := fun y => z2 (i32_eq.mpr y)
        rw [show (-1 : Int32).toInt = -1 from rfl] at q1
        rw [show (0 : Int32).toInt = 0 from rfl] at q2
        omega
      obtain ⟨i, hi31, rfl⟩ := nI_of hnn
      refine c_pleaOfBest (C := CxI G σ) hn b108 hk hi31 hC lk1 hc1 (fun σ' f1 m1 => ?_)
      refine r_best (C := CxI G σ) hn hk h.r0 hT lk2 h.all hc2 (fun y => absurd z (lt_m1.mp y)) (fun y => absurd y z2) (fun i2 hi2 ei τ' f2 m2 => ?_)
      have : i2 = i := ((nI_eq hi31 hi2).mp ei).symm
      rw [this]
      exact hQ _ _ _ (h.fm hi f1 m1 f2 m2)
    · refine c_valueIn' (C := CxI G σ) hn b108 hk hC lk1 hc1 (fun σ' f1 m1 => ?_)
      exact r_best (C := CxI G σ) hn hk h.r0 hT lk2 h.all hc2 (fun y => absurd z (lt_m1.mp y)) (fun _ τ' f2 m2 => hQ _ _ _ (h.fm hi f1 m1 f2 m2)) (fun i2 hi2 ei => absurd z2 (by rw [ei]; exact m1_nI hi2))
    · exact r_best (C := CxI G σ) hn hk h.r0 hT lk2 h.all hc2 (fun _ => hQ _ _ _ h) (fun y => absurd (by rw [y]; decide) z) (fun i2 hi2 ei => absurd (by rw [ei, i32_le, nI_toInt hi2, show (-1 : Int32).toInt = -1 from rfl]; omega) z)
theorem s_traps {a0 a1 a2 : Int32} (h : Inv nc σ τ) (hQ : ∀ x σ' τ', Inv nc σ' τ' → Q x σ' x τ') : BI (d + 13) (e + 8) nc Y_X6_traps Y_X7_traps [.int a0, .int a1, .int a2] σ τ Q := by
  have hn := h.nc
  obtain ⟨Rs, G, ps, hi⟩ := h.op
  obtain ⟨lk1, lk2⟩ := h.lk G
  obtain ⟨hu, hC, hT, hg, h25, h24⟩ := id hi
  refine fl_X6_traps (h100 hn) (c_caseAt h (fun z => ⟨fun _ => ?_, fun r2 y => (by cases y)⟩) (fun k hk ek => ⟨fun y => (by cases y), fun r2 e2 => ?_⟩))
  · exact fl_X7_traps hR (fun P51 P111 P133 P136 _ _ _ _ => r_isCase hn h.r0 (fun _ => ⟨fun y => absurd rfl y, fun _ => hQ _ _ _ h⟩) (fun y => absurd y z))
  · cases e2
    obtain ⟨cs, hc1, hc2⟩ := h.cs hk
    refine ⟨hCase hn hk, ?_⟩
    rw [r7, ek]
    have bad : ¬ (1 ≤ a1 ∧ a1 ≤ 20) → EI (e + 8) idsR Y_X7_traps [.ref 0, .int (nI k), .int a1, .int a2] τ (fun y τ' => Q (-2) σ y τ') := by
      intro z
      refine fl_X7_traps hR (fun P51 P111 P133 P136 _ _ _ _ => r_isCase hn h.r0 (fun y => absurd ⟨k, hk, rfl⟩ y) (fun _ => ⟨fun _ => kR_in ?_, fun y => absurd y (by decide)⟩))
      rw [bI_f z]
      exact ⟨fun y => absurd rfl y, fun _ => hQ _ _ _ h⟩
    refine ⟨fun z => bad (fun y => Int32.not_le.mpr z y.1), fun z => ⟨fun z2 => ?_, fun z2 => bad (fun y => z2 y.2)⟩⟩
    obtain ⟨n, n1, n2, rfl⟩ := (in_nI (lo := 1) (hi := 20) (by decide) (by decide)).mp ⟨nlt.mp z, z2⟩
    refine c_trapsIn (C := CxI G σ) hn b108 hk hC lk1 hc1 n2 (fun σ' f1 m1 => ?_)
    refine r_traps (C := CxI G σ) hn hk h.r0 hT lk2 h.all hc2 n1 n2 (fun y => ?_) (fun _ τ' f2 m2 => hQ _ _ _ (h.fm hi f1 m1 f2 m2))
    have e1 : ∀ l, trA l a2 = -1 := by
      intro l
      have n1 : ¬ a2 = -1 := fun q => by rw [q] at y; exact absurd y (by decide)
      have n0 : ¬ 0 ≤ a2 := fun q => by
        have q1 := i32_lt.mp y
        have q2 := i32_le.mp q
        rw [show (-1 : Int32).toInt = -1 from rfl] at q1
        rw [show (0 : Int32).toInt = 0 from rfl] at q2
        omega
      unfold trA
      rw [if_neg n1, if_neg n0]
    rw [e1]
    exact hQ _ _ _ (h.fm hi f1 m1 (fmR.rf _ _) hT.made)
theorem s_edge {a0 : Int32} (h : Inv nc σ τ) (hQ : ∀ x σ' τ', Inv nc σ' τ' → Q x σ' x τ') : BI (d + 13) (e + 8) nc Y_X6_edge Y_X7_edge [.int a0] σ τ Q := by
  have hn := h.nc
  obtain ⟨Rs, G, ps, hi⟩ := h.op
  obtain ⟨lk1, lk2⟩ := h.lk G
  obtain ⟨hu, hC, hT, hg, h25, h24⟩ := id hi
  refine fl_X6_edge (h100 hn) (c_caseAt h (fun z => ⟨fun _ => ?_, fun r2 y => (by cases y)⟩) (fun k hk ek => ⟨fun y => (by cases y), fun r2 e2 => ?_⟩))
  · exact fl_X7_edge hR (fun P52 P91 _ _ => r_isCase hn h.r0 (fun _ => ⟨fun y => absurd rfl y, fun _ => hQ _ _ _ h⟩) (fun y => absurd y z))
  · cases e2
    obtain ⟨cs, hc1, hc2⟩ := h.cs hk
    refine ⟨hCase hn hk, ?_⟩
    rw [r7, ek]
    refine fl_X6_may (h100 hn) (c_placeOf (fun z => absurd ⟨6, by decide, rfl⟩ z) (fun p hp ep => ⟨fun _ => ?_, fun y => absurd y (m1_nI (by omega))⟩))
    have hp6 : p = 6 := by
      have key := (by decide +kernel : ∀ p, p < 14 → (30 : Int32) = nI (PLa p) → p = 6)
      exact key p hp ep
    subst hp6
    rw [r7]
    refine c_open (C := CxI G σ) hn b108 hC lk1 (fun N hN hb => ?_)
    rw [c_bit hN hp, hb 6 hp]
    cases hc : cb (CxI G σ) ps 6 with
    | false =>
      refine ⟨fun _ => r_edge (C := CxI G σ) hn hk h.r0 hT lk2 h.all hc2 (fun _ τ' hE => hQ _ _ _ (h.eqP hE)) (fun y => by rw [hc] at y; cases y), fun y => absurd y (by decide)⟩
    | true =>
      refine ⟨fun y => absurd rfl y, fun _ => c_edgeIn (C := CxI G σ) hn b108 hk hC lk1 hc1 (fun e1 σ' p1 f1 m1 => ?_)⟩
      refine r_edge (C := CxI G σ) hn hk h.r0 hT lk2 h.all hc2 (fun y => by rw [hc] at y; cases y) (fun _ e2 τ' p2 f2 m2 => ?_)
      rw [edP_one p2 p1]
      exact hQ _ _ _ (h.fm hi f1 m1 f2 m2)
end CR
