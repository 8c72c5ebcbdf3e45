/-! THE LAW'S LOOP -/
theorem law_loop {X : CT} {Z : State → Prop} {b aX aM Ln : Nat} {xs : Nat → Int32} (hX : Dok X 4 cL_law ret room_1 RL) (hNo : Nok X) (hXs : Xs X b Ln xs) (hL : Ln ≤ 3072) (hend : ∀ (cells slots : Nat) (L : List (Nat × Value)) (Wd : Heap → Prop), cells ≤ 679924 → slots ≤ 7062475 → Bw X 4 Z cells slots 1145 L [.int 1] Wd) :
    ∀ (n i nc cells slots : Nat) (σ τ : St), i ≤ Ln → Ln + 1 ≤ i + n → cells + 5 * n ≤ 600000 → slots + 20 * n ≤ 7000000 → Inv nc σ τ → Bw X 4 Z cells slots 18 (LL b aX aM (nI i)) [] (LWd X (idsC nc) idsR 100 aX 0 aM σ τ) := by
  intro n
  induction n with
  | zero =>
    intro i nc cells slots σ τ h1 h2
    exact absurd h2 (by omega)
  | succ n ih =>
    intro i nc cells slots σ τ h1 h2 h3 h4 h
    refine b_iload_n 3 hX dL_law_18 rfl rfl ?_
    refine b_aload_n 0 hX dL_law_19 rfl rfl ?_
    refine b_slen hX hXs dL_law_20 ?_
    refine b_bipush (v := 6) hX dL_law_21 (by decide) ?_
    refine b_isub hX dL_law_23 ?_
    refine b_icmp_gt 1144 hX dL_law_24 (by decide) (fun _ => ?_) (fun z => ?_)
    · refine b_iconst (v := 1) hX dL_law_1144 (by decide) ?_
      exact hend cells slots _ _ (by omega) (by omega)
    · have hi := law_more hL h1 z
      have back : ∀ (nc cells slots : Nat) (σ τ : St), cells + 5 * n ≤ 600000 → slots + 20 * n ≤ 7000000 → Inv nc σ τ → Bw X 4 Z cells slots 1138 (LL b aX aM (nI i)) [] (LWd X (idsC nc) idsR 100 aX 0 aM σ τ) := fun nc cells slots σ τ q3 q4 q5 => by
        refine b_iinc (x := nI i) (v := nI (i + 6)) 3 hX dL_law_1138 rfl (nI_add i 6) (by decide) rfl ?_
        refine b_goto 18 hX dL_law_1141 (by decide) ?_
        refine Bw.sub [1, 2, 3, 0] rfl ?_
        exact ih (i + 6) nc cells slots σ τ hi (by omega) q3 q4 q5
      have b1 : ∀ σ' τ', Inv nc σ' τ' → Bw X 4 Z cells slots 1138 (LL b aX aM (nI i)) [] (LWd X (idsC nc) idsR 100 aX 0 aM σ' τ') := fun σ' τ' q => back nc cells slots σ' τ' (by omega) (by omega) q
      have hc : cells ≤ 679924 := by omega
      have hs : slots ≤ 7062475 := by omega
      refine b_aload_n 0 hX dL_law_27 rfl rfl ?_
      refine b_iload_n 3 hX dL_law_28 rfl rfl ?_
      refine b_sld hX hXs (vp_in_nI (by omega) (by omega)) dL_law_29 ?_
      rw [nI_clamp (by omega)]
      refine b_bipush (v := 31) hX dL_law_30 (by decide) ?_
      refine b_iand hX dL_law_32 ?_
      obtain ⟨j, hj, ej⟩ := x31 (xs i)
      rw [ej]
      match j, hj with
      | 0, _ => exact b_tableIn 164 hX dL_law_33 (by decide) (by decide) rfl (by decide) (lc_0 hX hXs hL hi h hc hs b1)
      | 1, _ => exact b_tableIn 233 hX dL_law_33 (by decide) (by decide) rfl (by decide) (lc_1 hX hNo hXs hL hi h (by omega) (by omega) (fun n' σ' τ' q => back n' _ _ σ' τ' (by omega) (by omega) q))
      | 2, _ => exact b_tableIn 256 hX dL_law_33 (by decide) (by decide) rfl (by decide) (lc_2 hX hXs hL hi h hc hs b1)
      | 3, _ => exact b_tableIn 309 hX dL_law_33 (by decide) (by decide) rfl (by decide) (lc_3 hX hXs hL hi h hc hs b1)
      | 4, _ => exact b_tableIn 352 hX dL_law_33 (by decide) (by decide) rfl (by decide) (lc_4 hX hXs hL hi h hc hs b1)
      | 5, _ => exact b_tableIn 385 hX dL_law_33 (by decide) (by decide) rfl (by decide) (lc_5 hX hXs hL hi h hc hs b1)
      | 6, _ => exact b_tableIn 398 hX dL_law_33 (by decide) (by decide) rfl (by decide) (lc_6 hX hXs hL hi h hc hs b1)
      | 7, _ => exact b_tableIn 421 hX dL_law_33 (by decide) (by decide) rfl (by decide) (lc_7 hX hXs hL hi h hc hs b1)
      | 8, _ => exact b_tableIn 444 hX dL_law_33 (by decide) (by decide) rfl (by decide) (lc_8 hX hXs hL hi h hc hs b1)
      | 9, _ => exact b_tableIn 467 hX dL_law_33 (by decide) (by decide) rfl (by decide) (lc_9 hX hXs hL hi h hc hs b1)
      | 10, _ => exact b_tableIn 480 hX dL_law_33 (by decide) (by decide) rfl (by decide) (lc_10 hX hXs hL hi h hc hs b1)
      | 11, _ => exact b_tableIn 503 hX dL_law_33 (by decide) (by decide) rfl (by decide) (lc_11 hX hXs hL hi h hc hs b1)
      | 12, _ => exact b_tableIn 526 hX dL_law_33 (by decide) (by decide) rfl (by decide) (lc_12 hX hXs hL hi h hc hs b1)
      | 13, _ => exact b_tableIn 559 hX dL_law_33 (by decide) (by decide) rfl (by decide) (lc_13 hX hXs hL hi h hc hs b1)
      | 14, _ => exact b_tableIn 582 hX dL_law_33 (by decide) (by decide) rfl (by decide) (lc_14 hX hXs hL hi h hc hs b1)
      | 15, _ => exact b_tableIn 615 hX dL_law_33 (by decide) (by decide) rfl (by decide) (lc_15 hX hXs hL hi h hc hs b1)
      | 16, _ => exact b_tableIn 658 hX dL_law_33 (by decide) (by decide) rfl (by decide) (lc_16 hX hXs hL hi h hc hs b1)
      | 17, _ => exact b_tableIn 681 hX dL_law_33 (by decide) (by decide) rfl (by decide) (lc_17 hX hXs hL hi h hc hs b1)
      | 18, _ => exact b_tableIn 704 hX dL_law_33 (by decide) (by decide) rfl (by decide) (lc_18 hX hXs hL hi h hc hs b1)
      | 19, _ => exact b_tableIn 727 hX dL_law_33 (by decide) (by decide) rfl (by decide) (lc_19 hX hXs hL hi h hc hs b1)
      | 20, _ => exact b_tableIn 750 hX dL_law_33 (by decide) (by decide) rfl (by decide) (lc_20 hX hXs hL hi h hc hs b1)
      | 21, _ => exact b_tableIn 803 hX dL_law_33 (by decide) (by decide) rfl (by decide) (lc_21 hX hXs hL hi h hc hs b1)
      | 22, _ => exact b_tableIn 846 hX dL_law_33 (by decide) (by decide) rfl (by decide) (lc_22 hX hXs hL hi h hc hs b1)
      | 23, _ => exact b_tableIn 869 hX dL_law_33 (by decide) (by decide) rfl (by decide) (lc_23 hX hXs hL hi h hc hs b1)
      | 24, _ => exact b_tableIn 902 hX dL_law_33 (by decide) (by decide) rfl (by decide) (lc_24 hX hXs hL hi h hc hs b1)
      | 25, _ => exact b_tableIn 925 hX dL_law_33 (by decide) (by decide) rfl (by decide) (lc_25 hX hXs hL hi h hc hs b1)
      | 26, _ => exact b_tableIn 968 hX dL_law_33 (by decide) (by decide) rfl (by decide) (lc_26 hX hXs hL hi h hc hs b1)
      | 27, _ => exact b_tableIn 1041 hX dL_law_33 (by decide) (by decide) rfl (by decide) (lc_27 hX hXs hL hi h hc hs b1)
      | 28, _ => exact b_tableIn 1075 hX dL_law_33 (by decide) (by decide) rfl (by decide) (lc_28 hX hXs hL hi h hc hs b1)
      | j + 29, hj =>
        refine b_tableOut 1138 hX dL_law_33 (Or.inr ?_) (by decide) (b1 σ τ h)
        rw [nI_toInt (by omega)]
        omega
