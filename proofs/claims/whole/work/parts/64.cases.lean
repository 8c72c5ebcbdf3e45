/-! the law's cases -/
section LC
variable {X : CT} {Z : State → Prop} {cells slots b aX aM Ln i nc : Nat} {xs : Nat → Int32} {σ τ : St}
theorem lc_10 (hX : Dok X 4 cL_law ret room_1 RL) (hXs : Xs X b Ln xs) (hL : Ln ≤ 3072) (hi : i + 6 ≤ Ln) (h : Inv nc σ τ) (hc : cells ≤ 679924) (hs : slots ≤ 7062475) (kk : ∀ σ' τ', Inv nc σ' τ' → Bw X 4 Z cells slots 1138 (LL b aX aM (nI i)) [] (LWd X (idsC nc) idsR 100 aX 0 aM σ' τ')) : Bw X 4 Z cells slots 480 (LL b aX aM (nI i)) [] (LWd X (idsC nc) idsR 100 aX 0 aM σ τ) := by
  have hn := h.nc
  refine b_aload_n 1 hX dL_law_480 rfl rfl ?_
  refine l_arg 1 hX hXs hL hi dL_law_481 dL_law_482 dL_law_483 dL_law_484 dL_law_485 (by decide) (by decide) ?_
  refine l_call (ci := 6) (C := RX6) (T := TX6) (N := 13) (n := 1) (d := 4) (As := [.int (xs (i + 1))]) (S := []) Yok_X6_stands rfl rfl lwd_613 lwd_614 lwd_612 hX dL_law_486 (h100 hn).2.1 rfl (idsC_nodup nc hn) rfl (fun _ => rfl) rfl (by decide) (Nat.le_of_ble_eq_true rfl) (Nat.le_of_ble_eq_true rfl) hc hs (s_stands (d := 0) (e := 0) (Q := fun x σ' y τ' => y = x ∧ Inv nc σ' τ') h (fun _ _ _ q => ⟨rfl, q⟩)) (fun r σ' r1 hF => ?_)
  obtain ⟨x, rfl, hE⟩ := hF
  show Bw X 4 Z cells slots _ _ [.int x] _
  refine b_aload_n 2 hX dL_law_489 rfl rfl ?_
  refine l_arg 1 hX hXs hL hi dL_law_490 dL_law_491 dL_law_492 dL_law_493 dL_law_494 (by decide) (by decide) ?_
  refine l_call2 (ci := 7) (C := RX7) (T := TX7) (N := 51) (n := 1) (d := 8) (As := [.int (xs (i + 1))]) (S := [.int x]) Yok_X7_stands rfl rfl lwd_1131 lwd_1132 lwd_1130 hX dL_law_495 hR.2.1 rfl idsR_nodup rfl (fun _ => rfl) rfl (Nat.le_of_ble_eq_true rfl) (Nat.le_of_ble_eq_true rfl) (Nat.le_of_ble_eq_true rfl) hc hs hE (fun r τ' r1 hF => ?_)
  obtain ⟨y, rfl, rfl, hI⟩ := hF
  show Bw X 4 Z cells slots _ _ [.int y, .int y] _
  exact b_icmp_eq 1138 hX dL_law_498 (by decide) (fun _ => kk σ' τ' hI) (fun z => absurd rfl z)
theorem lc_11 (hX : Dok X 4 cL_law ret room_1 RL) (hXs : Xs X b Ln xs) (hL : Ln ≤ 3072) (hi : i + 6 ≤ Ln) (h : Inv nc σ τ) (hc : cells ≤ 679924) (hs : slots ≤ 7062475) (kk : ∀ σ' τ', Inv nc σ' τ' → Bw X 4 Z cells slots 1138 (LL b aX aM (nI i)) [] (LWd X (idsC nc) idsR 100 aX 0 aM σ' τ')) : Bw X 4 Z cells slots 503 (LL b aX aM (nI i)) [] (LWd X (idsC nc) idsR 100 aX 0 aM σ τ) := by
  have hn := h.nc
  refine b_aload_n 1 hX dL_law_503 rfl rfl ?_
  refine l_arg 1 hX hXs hL hi dL_law_504 dL_law_505 dL_law_506 dL_law_507 dL_law_508 (by decide) (by decide) ?_
  refine l_call (ci := 6) (C := RX6) (T := TX6) (N := 13) (n := 1) (d := 12) (As := [.int (xs (i + 1))]) (S := []) Yok_X6_ends rfl rfl lwd_627 lwd_628 lwd_626 hX dL_law_509 (h100 hn).2.1 rfl (idsC_nodup nc hn) rfl (fun _ => rfl) rfl (by decide) (Nat.le_of_ble_eq_true rfl) (Nat.le_of_ble_eq_true rfl) hc hs (s_ends (d := 0) (e := 0) (Q := fun x σ' y τ' => y = x ∧ Inv nc σ' τ') h (fun _ _ _ q => ⟨rfl, q⟩)) (fun r σ' r1 hF => ?_)
  obtain ⟨x, rfl, hE⟩ := hF
  show Bw X 4 Z cells slots _ _ [.int x] _
  refine b_aload_n 2 hX dL_law_512 rfl rfl ?_
  refine l_arg 1 hX hXs hL hi dL_law_513 dL_law_514 dL_law_515 dL_law_516 dL_law_517 (by decide) (by decide) ?_
  refine l_call2 (ci := 7) (C := RX7) (T := TX7) (N := 51) (n := 1) (d := 8) (As := [.int (xs (i + 1))]) (S := [.int x]) Yok_X7_ends rfl rfl lwd_1143 lwd_1144 lwd_1142 hX dL_law_518 hR.2.1 rfl idsR_nodup rfl (fun _ => rfl) rfl (Nat.le_of_ble_eq_true rfl) (Nat.le_of_ble_eq_true rfl) (Nat.le_of_ble_eq_true rfl) hc hs hE (fun r τ' r1 hF => ?_)
  obtain ⟨y, rfl, rfl, hI⟩ := hF
  show Bw X 4 Z cells slots _ _ [.int y, .int y] _
  exact b_icmp_eq 1138 hX dL_law_521 (by decide) (fun _ => kk σ' τ' hI) (fun z => absurd rfl z)
theorem lc_12 (hX : Dok X 4 cL_law ret room_1 RL) (hXs : Xs X b Ln xs) (hL : Ln ≤ 3072) (hi : i + 6 ≤ Ln) (h : Inv nc σ τ) (hc : cells ≤ 679924) (hs : slots ≤ 7062475) (kk : ∀ σ' τ', Inv nc σ' τ' → Bw X 4 Z cells slots 1138 (LL b aX aM (nI i)) [] (LWd X (idsC nc) idsR 100 aX 0 aM σ' τ')) : Bw X 4 Z cells slots 526 (LL b aX aM (nI i)) [] (LWd X (idsC nc) idsR 100 aX 0 aM σ τ) := by
  have hn := h.nc
  refine b_aload_n 1 hX dL_law_526 rfl rfl ?_
  refine l_arg 1 hX hXs hL hi dL_law_527 dL_law_528 dL_law_529 dL_law_530 dL_law_531 (by decide) (by decide) ?_
  refine l_arg 2 hX hXs hL hi dL_law_532 dL_law_533 dL_law_534 dL_law_535 dL_law_536 (by decide) (by decide) ?_
  refine l_call (ci := 6) (C := RX6) (T := TX6) (N := 13) (n := 2) (d := 12) (As := [.int (xs (i + 1)), .int (xs (i + 2))]) (S := []) Yok_X6_row rfl rfl lwd_642 lwd_643 lwd_641 hX dL_law_537 (h100 hn).2.1 rfl (idsC_nodup nc hn) rfl (fun _ => rfl) rfl (by decide) (Nat.le_of_ble_eq_true rfl) (Nat.le_of_ble_eq_true rfl) hc hs (s_row (d := 0) (e := 0) (Q := fun x σ' y τ' => y = x ∧ Inv nc σ' τ') h (fun _ _ _ q => ⟨rfl, q⟩)) (fun r σ' r1 hF => ?_)
  obtain ⟨x, rfl, hE⟩ := hF
  show Bw X 4 Z cells slots _ _ [.int x] _
  refine b_aload_n 2 hX dL_law_540 rfl rfl ?_
  refine l_arg 1 hX hXs hL hi dL_law_541 dL_law_542 dL_law_543 dL_law_544 dL_law_545 (by decide) (by decide) ?_
  refine l_arg 2 hX hXs hL hi dL_law_546 dL_law_547 dL_law_548 dL_law_549 dL_law_550 (by decide) (by decide) ?_
  refine l_call2 (ci := 7) (C := RX7) (T := TX7) (N := 51) (n := 2) (d := 8) (As := [.int (xs (i + 1)), .int (xs (i + 2))]) (S := [.int x]) Yok_X7_row rfl rfl lwd_1151 lwd_1152 lwd_1150 hX dL_law_551 hR.2.1 rfl idsR_nodup rfl (fun _ => rfl) rfl (Nat.le_of_ble_eq_true rfl) (Nat.le_of_ble_eq_true rfl) (Nat.le_of_ble_eq_true rfl) hc hs hE (fun r τ' r1 hF => ?_)
  obtain ⟨y, rfl, rfl, hI⟩ := hF
  show Bw X 4 Z cells slots _ _ [.int y, .int y] _
  exact b_icmp_eq 1138 hX dL_law_554 (by decide) (fun _ => kk σ' τ' hI) (fun z => absurd rfl z)
theorem lc_13 (hX : Dok X 4 cL_law ret room_1 RL) (hXs : Xs X b Ln xs) (hL : Ln ≤ 3072) (hi : i + 6 ≤ Ln) (h : Inv nc σ τ) (hc : cells ≤ 679924) (hs : slots ≤ 7062475) (kk : ∀ σ' τ', Inv nc σ' τ' → Bw X 4 Z cells slots 1138 (LL b aX aM (nI i)) [] (LWd X (idsC nc) idsR 100 aX 0 aM σ' τ')) : Bw X 4 Z cells slots 559 (LL b aX aM (nI i)) [] (LWd X (idsC nc) idsR 100 aX 0 aM σ τ) := by
  have hn := h.nc
  refine b_aload_n 1 hX dL_law_559 rfl rfl ?_
  refine l_arg 1 hX hXs hL hi dL_law_560 dL_law_561 dL_law_562 dL_law_563 dL_law_564 (by decide) (by decide) ?_
  refine l_call (ci := 6) (C := RX6) (T := TX6) (N := 13) (n := 1) (d := 4) (As := [.int (xs (i + 1))]) (S := []) Yok_X6_worth rfl rfl lwd_655 lwd_656 lwd_654 hX dL_law_565 (h100 hn).2.1 rfl (idsC_nodup nc hn) rfl (fun _ => rfl) rfl (by decide) (Nat.le_of_ble_eq_true rfl) (Nat.le_of_ble_eq_true rfl) hc hs (s_worth (d := 0) (e := 0) (Q := fun x σ' y τ' => y = x ∧ Inv nc σ' τ') h (fun _ _ _ q => ⟨rfl, q⟩)) (fun r σ' r1 hF => ?_)
  obtain ⟨x, rfl, hE⟩ := hF
  show Bw X 4 Z cells slots _ _ [.int x] _
  refine b_aload_n 2 hX dL_law_568 rfl rfl ?_
  refine l_arg 1 hX hXs hL hi dL_law_569 dL_law_570 dL_law_571 dL_law_572 dL_law_573 (by decide) (by decide) ?_
  refine l_call2 (ci := 7) (C := RX7) (T := TX7) (N := 51) (n := 1) (d := 8) (As := [.int (xs (i + 1))]) (S := [.int x]) Yok_X7_worth rfl rfl lwd_1155 lwd_1156 lwd_1154 hX dL_law_574 hR.2.1 rfl idsR_nodup rfl (fun _ => rfl) rfl (Nat.le_of_ble_eq_true rfl) (Nat.le_of_ble_eq_true rfl) (Nat.le_of_ble_eq_true rfl) hc hs hE (fun r τ' r1 hF => ?_)
  obtain ⟨y, rfl, rfl, hI⟩ := hF
  show Bw X 4 Z cells slots _ _ [.int y, .int y] _
  exact b_icmp_eq 1138 hX dL_law_577 (by decide) (fun _ => kk σ' τ' hI) (fun z => absurd rfl z)
theorem lc_14 (hX : Dok X 4 cL_law ret room_1 RL) (hXs : Xs X b Ln xs) (hL : Ln ≤ 3072) (hi : i + 6 ≤ Ln) (h : Inv nc σ τ) (hc : cells ≤ 679924) (hs : slots ≤ 7062475) (kk : ∀ σ' τ', Inv nc σ' τ' → Bw X 4 Z cells slots 1138 (LL b aX aM (nI i)) [] (LWd X (idsC nc) idsR 100 aX 0 aM σ' τ')) : Bw X 4 Z cells slots 582 (LL b aX aM (nI i)) [] (LWd X (idsC nc) idsR 100 aX 0 aM σ τ) := by
  have hn := h.nc
  refine b_aload_n 1 hX dL_law_582 rfl rfl ?_
  refine l_arg 1 hX hXs hL hi dL_law_583 dL_law_584 dL_law_585 dL_law_586 dL_law_587 (by decide) (by decide) ?_
  refine l_arg 2 hX hXs hL hi dL_law_588 dL_law_589 dL_law_590 dL_law_591 dL_law_592 (by decide) (by decide) ?_
  refine l_call (ci := 6) (C := RX6) (T := TX6) (N := 13) (n := 2) (d := 13) (As := [.int (xs (i + 1)), .int (xs (i + 2))]) (S := []) Yok_X6_best rfl rfl lwd_663 lwd_664 lwd_662 hX dL_law_593 (h100 hn).2.1 rfl (idsC_nodup nc hn) rfl (fun _ => rfl) rfl (by decide) (Nat.le_of_ble_eq_true rfl) (Nat.le_of_ble_eq_true rfl) hc hs (s_best (d := 0) (e := 0) (Q := fun x σ' y τ' => y = x ∧ Inv nc σ' τ') h (fun _ _ _ q => ⟨rfl, q⟩)) (fun r σ' r1 hF => ?_)
  obtain ⟨x, rfl, hE⟩ := hF
  show Bw X 4 Z cells slots _ _ [.int x] _
  refine b_aload_n 2 hX dL_law_596 rfl rfl ?_
  refine l_arg 1 hX hXs hL hi dL_law_597 dL_law_598 dL_law_599 dL_law_600 dL_law_601 (by decide) (by decide) ?_
  refine l_arg 2 hX hXs hL hi dL_law_602 dL_law_603 dL_law_604 dL_law_605 dL_law_606 (by decide) (by decide) ?_
  refine l_call2 (ci := 7) (C := RX7) (T := TX7) (N := 51) (n := 2) (d := 8) (As := [.int (xs (i + 1)), .int (xs (i + 2))]) (S := [.int x]) Yok_X7_best rfl rfl lwd_1163 lwd_1164 lwd_1162 hX dL_law_607 hR.2.1 rfl idsR_nodup rfl (fun _ => rfl) rfl (Nat.le_of_ble_eq_true rfl) (Nat.le_of_ble_eq_true rfl) (Nat.le_of_ble_eq_true rfl) hc hs hE (fun r τ' r1 hF => ?_)
  obtain ⟨y, rfl, rfl, hI⟩ := hF
  show Bw X 4 Z cells slots _ _ [.int y, .int y] _
  exact b_icmp_eq 1138 hX dL_law_610 (by decide) (fun _ => kk σ' τ' hI) (fun z => absurd rfl z)
theorem lc_15 (hX : Dok X 4 cL_law ret room_1 RL) (hXs : Xs X b Ln xs) (hL : Ln ≤ 3072) (hi : i + 6 ≤ Ln) (h : Inv nc σ τ) (hc : cells ≤ 679924) (hs : slots ≤ 7062475) (kk : ∀ σ' τ', Inv nc σ' τ' → Bw X 4 Z cells slots 1138 (LL b aX aM (nI i)) [] (LWd X (idsC nc) idsR 100 aX 0 aM σ' τ')) : Bw X 4 Z cells slots 615 (LL b aX aM (nI i)) [] (LWd X (idsC nc) idsR 100 aX 0 aM σ τ) := by
  have hn := h.nc
  refine b_aload_n 1 hX dL_law_615 rfl rfl ?_
  refine l_arg 1 hX hXs hL hi dL_law_616 dL_law_617 dL_law_618 dL_law_619 dL_law_620 (by decide) (by decide) ?_
  refine l_arg 2 hX hXs hL hi dL_law_621 dL_law_622 dL_law_623 dL_law_624 dL_law_625 (by decide) (by decide) ?_
  refine l_arg 3 hX hXs hL hi dL_law_626 dL_law_627 dL_law_628 dL_law_629 dL_law_630 (by decide) (by decide) ?_
  refine l_call (ci := 6) (C := RX6) (T := TX6) (N := 13) (n := 3) (d := 13) (As := [.int (xs (i + 1)), .int (xs (i + 2)), .int (xs (i + 3))]) (S := []) Yok_X6_traps rfl rfl lwd_686 lwd_687 lwd_685 hX dL_law_631 (h100 hn).2.1 rfl (idsC_nodup nc hn) rfl (fun _ => rfl) rfl (by decide) (Nat.le_of_ble_eq_true rfl) (Nat.le_of_ble_eq_true rfl) hc hs (s_traps (d := 0) (e := 0) (Q := fun x σ' y τ' => y = x ∧ Inv nc σ' τ') h (fun _ _ _ q => ⟨rfl, q⟩)) (fun r σ' r1 hF => ?_)
  obtain ⟨x, rfl, hE⟩ := hF
  show Bw X 4 Z cells slots _ _ [.int x] _
  refine b_aload_n 2 hX dL_law_634 rfl rfl ?_
  refine l_arg 1 hX hXs hL hi dL_law_635 dL_law_636 dL_law_637 dL_law_638 dL_law_639 (by decide) (by decide) ?_
  refine l_arg 2 hX hXs hL hi dL_law_640 dL_law_641 dL_law_642 dL_law_643 dL_law_644 (by decide) (by decide) ?_
  refine l_arg 3 hX hXs hL hi dL_law_645 dL_law_646 dL_law_647 dL_law_648 dL_law_649 (by decide) (by decide) ?_
  refine l_call2 (ci := 7) (C := RX7) (T := TX7) (N := 51) (n := 3) (d := 8) (As := [.int (xs (i + 1)), .int (xs (i + 2)), .int (xs (i + 3))]) (S := [.int x]) Yok_X7_traps rfl rfl lwd_1175 lwd_1176 lwd_1174 hX dL_law_650 hR.2.1 rfl idsR_nodup rfl (fun _ => rfl) rfl (Nat.le_of_ble_eq_true rfl) (Nat.le_of_ble_eq_true rfl) (Nat.le_of_ble_eq_true rfl) hc hs hE (fun r τ' r1 hF => ?_)
  obtain ⟨y, rfl, rfl, hI⟩ := hF
  show Bw X 4 Z cells slots _ _ [.int y, .int y] _
  exact b_icmp_eq 1138 hX dL_law_653 (by decide) (fun _ => kk σ' τ' hI) (fun z => absurd rfl z)
theorem lc_16 (hX : Dok X 4 cL_law ret room_1 RL) (hXs : Xs X b Ln xs) (hL : Ln ≤ 3072) (hi : i + 6 ≤ Ln) (h : Inv nc σ τ) (hc : cells ≤ 679924) (hs : slots ≤ 7062475) (kk : ∀ σ' τ', Inv nc σ' τ' → Bw X 4 Z cells slots 1138 (LL b aX aM (nI i)) [] (LWd X (idsC nc) idsR 100 aX 0 aM σ' τ')) : Bw X 4 Z cells slots 658 (LL b aX aM (nI i)) [] (LWd X (idsC nc) idsR 100 aX 0 aM σ τ) := by
  have hn := h.nc
  refine b_aload_n 1 hX dL_law_658 rfl rfl ?_
  refine l_arg 1 hX hXs hL hi dL_law_659 dL_law_660 dL_law_661 dL_law_662 dL_law_663 (by decide) (by decide) ?_
  refine l_call (ci := 6) (C := RX6) (T := TX6) (N := 13) (n := 1) (d := 36) (As := [.int (xs (i + 1))]) (S := []) Yok_X6_ought rfl rfl lwd_695 lwd_696 lwd_694 hX dL_law_664 (h100 hn).2.1 rfl (idsC_nodup nc hn) rfl (fun _ => rfl) rfl (by decide) (Nat.le_of_ble_eq_true rfl) (Nat.le_of_ble_eq_true rfl) hc hs (s_ought (d := 0) (e := 0) (Q := fun x σ' y τ' => y = x ∧ Inv nc σ' τ') h (fun _ _ _ q => ⟨rfl, q⟩)) (fun r σ' r1 hF => ?_)
  obtain ⟨x, rfl, hE⟩ := hF
  show Bw X 4 Z cells slots _ _ [.int x] _
  refine b_aload_n 2 hX dL_law_667 rfl rfl ?_
  refine l_arg 1 hX hXs hL hi dL_law_668 dL_law_669 dL_law_670 dL_law_671 dL_law_672 (by decide) (by decide) ?_
  refine l_call2 (ci := 7) (C := RX7) (T := TX7) (N := 51) (n := 1) (d := 4) (As := [.int (xs (i + 1))]) (S := [.int x]) Yok_X7_ought rfl rfl lwd_836 lwd_837 lwd_835 hX dL_law_673 hR.2.1 rfl idsR_nodup rfl (fun _ => rfl) rfl (Nat.le_of_ble_eq_true rfl) (Nat.le_of_ble_eq_true rfl) (Nat.le_of_ble_eq_true rfl) hc hs hE (fun r τ' r1 hF => ?_)
  obtain ⟨y, rfl, rfl, hI⟩ := hF
  show Bw X 4 Z cells slots _ _ [.int y, .int y] _
  exact b_icmp_eq 1138 hX dL_law_676 (by decide) (fun _ => kk σ' τ' hI) (fun z => absurd rfl z)
theorem lc_17 (hX : Dok X 4 cL_law ret room_1 RL) (hXs : Xs X b Ln xs) (hL : Ln ≤ 3072) (hi : i + 6 ≤ Ln) (h : Inv nc σ τ) (hc : cells ≤ 679924) (hs : slots ≤ 7062475) (kk : ∀ σ' τ', Inv nc σ' τ' → Bw X 4 Z cells slots 1138 (LL b aX aM (nI i)) [] (LWd X (idsC nc) idsR 100 aX 0 aM σ' τ')) : Bw X 4 Z cells slots 681 (LL b aX aM (nI i)) [] (LWd X (idsC nc) idsR 100 aX 0 aM σ τ) := by
  have hn := h.nc
  refine b_aload_n 1 hX dL_law_681 rfl rfl ?_
  refine l_arg 1 hX hXs hL hi dL_law_682 dL_law_683 dL_law_684 dL_law_685 dL_law_686 (by decide) (by decide) ?_
  refine l_call (ci := 6) (C := RX6) (T := TX6) (N := 13) (n := 1) (d := 37) (As := [.int (xs (i + 1))]) (S := []) Yok_X6_right rfl rfl lwd_704 lwd_705 lwd_703 hX dL_law_687 (h100 hn).2.1 rfl (idsC_nodup nc hn) rfl (fun _ => rfl) rfl (by decide) (Nat.le_of_ble_eq_true rfl) (Nat.le_of_ble_eq_true rfl) hc hs (s_right (d := 0) (e := 0) (Q := fun x σ' y τ' => y = x ∧ Inv nc σ' τ') h (fun _ _ _ q => ⟨rfl, q⟩)) (fun r σ' r1 hF => ?_)
  obtain ⟨x, rfl, hE⟩ := hF
  show Bw X 4 Z cells slots _ _ [.int x] _
  refine b_aload_n 2 hX dL_law_690 rfl rfl ?_
  refine l_arg 1 hX hXs hL hi dL_law_691 dL_law_692 dL_law_693 dL_law_694 dL_law_695 (by decide) (by decide) ?_
  refine l_call2 (ci := 7) (C := RX7) (T := TX7) (N := 51) (n := 1) (d := 9) (As := [.int (xs (i + 1))]) (S := [.int x]) Yok_X7_right rfl rfl lwd_1179 lwd_1180 lwd_1178 hX dL_law_696 hR.2.1 rfl idsR_nodup rfl (fun _ => rfl) rfl (Nat.le_of_ble_eq_true rfl) (Nat.le_of_ble_eq_true rfl) (Nat.le_of_ble_eq_true rfl) hc hs hE (fun r τ' r1 hF => ?_)
  obtain ⟨y, rfl, rfl, hI⟩ := hF
  show Bw X 4 Z cells slots _ _ [.int y, .int y] _
  exact b_icmp_eq 1138 hX dL_law_699 (by decide) (fun _ => kk σ' τ' hI) (fun z => absurd rfl z)
theorem lc_18 (hX : Dok X 4 cL_law ret room_1 RL) (hXs : Xs X b Ln xs) (hL : Ln ≤ 3072) (hi : i + 6 ≤ Ln) (h : Inv nc σ τ) (hc : cells ≤ 679924) (hs : slots ≤ 7062475) (kk : ∀ σ' τ', Inv nc σ' τ' → Bw X 4 Z cells slots 1138 (LL b aX aM (nI i)) [] (LWd X (idsC nc) idsR 100 aX 0 aM σ' τ')) : Bw X 4 Z cells slots 704 (LL b aX aM (nI i)) [] (LWd X (idsC nc) idsR 100 aX 0 aM σ τ) := by
  have hn := h.nc
  refine b_aload_n 1 hX dL_law_704 rfl rfl ?_
  refine l_arg 1 hX hXs hL hi dL_law_705 dL_law_706 dL_law_707 dL_law_708 dL_law_709 (by decide) (by decide) ?_
  refine l_call (ci := 6) (C := RX6) (T := TX6) (N := 13) (n := 1) (d := 13) (As := [.int (xs (i + 1))]) (S := []) Yok_X6_edge rfl rfl lwd_712 lwd_713 lwd_711 hX dL_law_710 (h100 hn).2.1 rfl (idsC_nodup nc hn) rfl (fun _ => rfl) rfl (by decide) (Nat.le_of_ble_eq_true rfl) (Nat.le_of_ble_eq_true rfl) hc hs (s_edge (d := 0) (e := 0) (Q := fun x σ' y τ' => y = x ∧ Inv nc σ' τ') h (fun _ _ _ q => ⟨rfl, q⟩)) (fun r σ' r1 hF => ?_)
  obtain ⟨x, rfl, hE⟩ := hF
  show Bw X 4 Z cells slots _ _ [.int x] _
  refine b_aload_n 2 hX dL_law_713 rfl rfl ?_
  refine l_arg 1 hX hXs hL hi dL_law_714 dL_law_715 dL_law_716 dL_law_717 dL_law_718 (by decide) (by decide) ?_
  refine l_call2 (ci := 7) (C := RX7) (T := TX7) (N := 51) (n := 1) (d := 8) (As := [.int (xs (i + 1))]) (S := [.int x]) Yok_X7_edge rfl rfl lwd_1195 lwd_1196 lwd_1194 hX dL_law_719 hR.2.1 rfl idsR_nodup rfl (fun _ => rfl) rfl (Nat.le_of_ble_eq_true rfl) (Nat.le_of_ble_eq_true rfl) (Nat.le_of_ble_eq_true rfl) hc hs hE (fun r τ' r1 hF => ?_)
  obtain ⟨y, rfl, rfl, hI⟩ := hF
  show Bw X 4 Z cells slots _ _ [.int y, .int y] _
  exact b_icmp_eq 1138 hX dL_law_722 (by decide) (fun _ => kk σ' τ' hI) (fun z => absurd rfl z)
theorem lc_19 (hX : Dok X 4 cL_law ret room_1 RL) (hXs : Xs X b Ln xs) (hL : Ln ≤ 3072) (hi : i + 6 ≤ Ln) (h : Inv nc σ τ) (hc : cells ≤ 679924) (hs : slots ≤ 7062475) (kk : ∀ σ' τ', Inv nc σ' τ' → Bw X 4 Z cells slots 1138 (LL b aX aM (nI i)) [] (LWd X (idsC nc) idsR 100 aX 0 aM σ' τ')) : Bw X 4 Z cells slots 727 (LL b aX aM (nI i)) [] (LWd X (idsC nc) idsR 100 aX 0 aM σ τ) := by
  have hn := h.nc
  refine b_aload_n 1 hX dL_law_727 rfl rfl ?_
  refine l_arg 1 hX hXs hL hi dL_law_728 dL_law_729 dL_law_730 dL_law_731 dL_law_732 (by decide) (by decide) ?_
  refine l_call (ci := 6) (C := RX6) (T := TX6) (N := 13) (n := 1) (d := 37) (As := [.int (xs (i + 1))]) (S := []) Yok_X6_reform rfl rfl lwd_721 lwd_722 lwd_720 hX dL_law_733 (h100 hn).2.1 rfl (idsC_nodup nc hn) rfl (fun _ => rfl) rfl (by decide) (Nat.le_of_ble_eq_true rfl) (Nat.le_of_ble_eq_true rfl) hc hs (s_reform (d := 0) (e := 0) (Q := fun x σ' y τ' => y = x ∧ Inv nc σ' τ') h (fun _ _ _ q => ⟨rfl, q⟩)) (fun r σ' r1 hF => ?_)
  obtain ⟨x, rfl, hE⟩ := hF
  show Bw X 4 Z cells slots _ _ [.int x] _
  refine b_aload_n 2 hX dL_law_736 rfl rfl ?_
  refine l_arg 1 hX hXs hL hi dL_law_737 dL_law_738 dL_law_739 dL_law_740 dL_law_741 (by decide) (by decide) ?_
  refine l_call2 (ci := 7) (C := RX7) (T := TX7) (N := 51) (n := 1) (d := 9) (As := [.int (xs (i + 1))]) (S := [.int x]) Yok_X7_reform rfl rfl lwd_1199 lwd_1200 lwd_1198 hX dL_law_742 hR.2.1 rfl idsR_nodup rfl (fun _ => rfl) rfl (Nat.le_of_ble_eq_true rfl) (Nat.le_of_ble_eq_true rfl) (Nat.le_of_ble_eq_true rfl) hc hs hE (fun r τ' r1 hF => ?_)
  obtain ⟨y, rfl, rfl, hI⟩ := hF
  show Bw X 4 Z cells slots _ _ [.int y, .int y] _
  exact b_icmp_eq 1138 hX dL_law_745 (by decide) (fun _ => kk σ' τ' hI) (fun z => absurd rfl z)
end LC
