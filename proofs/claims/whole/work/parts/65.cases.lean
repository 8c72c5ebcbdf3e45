/-! the law's cases -/
section LC
variable {X : CT} {Z : State → Prop} {cells slots b aX aM Ln i nc : Nat} {xs : Nat → Int32} {σ τ : St}
theorem lc_20 (hX : Dok X 4 cL_law ret room_1 RL) (hXs : Xs X b Ln xs) (hL : Ln ≤ 3072) (hi : i + 6 ≤ Ln) (h : Inv nc σ τ) (hc : cells ≤ 679924) (hs : slots ≤ 7062475) (kk : ∀ σ' τ', Inv nc σ' τ' → Bw X 4 Z cells slots 1138 (LL b aX aM (nI i)) [] (LWd X (idsC nc) idsR 100 aX 0 aM σ' τ')) : Bw X 4 Z cells slots 750 (LL b aX aM (nI i)) [] (LWd X (idsC nc) idsR 100 aX 0 aM σ τ) := by
  have hn := h.nc
  refine b_aload_n 1 hX dL_law_750 rfl rfl ?_
  refine l_arg 1 hX hXs hL hi dL_law_751 dL_law_752 dL_law_753 dL_law_754 dL_law_755 (by decide) (by decide) ?_
  refine l_arg 2 hX hXs hL hi dL_law_756 dL_law_757 dL_law_758 dL_law_759 dL_law_760 (by decide) (by decide) ?_
  refine l_arg 3 hX hXs hL hi dL_law_761 dL_law_762 dL_law_763 dL_law_764 dL_law_765 (by decide) (by decide) ?_
  refine l_arg 4 hX hXs hL hi dL_law_766 dL_law_767 dL_law_768 dL_law_769 dL_law_770 (by decide) (by decide) ?_
  refine l_call (ci := 6) (C := RX6) (T := TX6) (N := 13) (n := 4) (d := 8) (As := [.int (xs (i + 1)), .int (xs (i + 2)), .int (xs (i + 3)), .int (xs (i + 4))]) (S := []) Yok_X6_told rfl rfl lwd_726 lwd_727 lwd_725 hX dL_law_771 (h100 hn).2.1 rfl (idsC_nodup nc hn) rfl (fun _ => rfl) rfl (by decide) (Nat.le_of_ble_eq_true rfl) (Nat.le_of_ble_eq_true rfl) hc hs (s_told (d := 0) (e := 0) (Q := fun x σ' y τ' => y = x ∧ Inv nc σ' τ') h (fun _ _ _ q => ⟨rfl, q⟩)) (fun r σ' r1 hF => ?_)
  obtain ⟨x, rfl, hE⟩ := hF
  show Bw X 4 Z cells slots _ _ [.int x] _
  refine b_aload_n 2 hX dL_law_774 rfl rfl ?_
  refine l_arg 1 hX hXs hL hi dL_law_775 dL_law_776 dL_law_777 dL_law_778 dL_law_779 (by decide) (by decide) ?_
  refine l_arg 2 hX hXs hL hi dL_law_780 dL_law_781 dL_law_782 dL_law_783 dL_law_784 (by decide) (by decide) ?_
  refine l_arg 3 hX hXs hL hi dL_law_785 dL_law_786 dL_law_787 dL_law_788 dL_law_789 (by decide) (by decide) ?_
  refine l_arg 4 hX hXs hL hi dL_law_790 dL_law_791 dL_law_792 dL_law_793 dL_law_794 (by decide) (by decide) ?_
  refine l_call2 (ci := 7) (C := RX7) (T := TX7) (N := 51) (n := 4) (d := 8) (As := [.int (xs (i + 1)), .int (xs (i + 2)), .int (xs (i + 3)), .int (xs (i + 4))]) (S := [.int x]) Yok_X7_told rfl rfl lwd_1203 lwd_1204 lwd_1202 hX dL_law_795 hR.2.1 rfl idsR_nodup rfl (fun _ => rfl) rfl (Nat.le_of_ble_eq_true rfl) (Nat.le_of_ble_eq_true rfl) (Nat.le_of_ble_eq_true rfl) hc hs hE (fun r τ' r1 hF => ?_)
  obtain ⟨y, rfl, rfl, hI⟩ := hF
  show Bw X 4 Z cells slots _ _ [.int y, .int y] _
  exact b_icmp_eq 1138 hX dL_law_798 (by decide) (fun _ => kk σ' τ' hI) (fun z => absurd rfl z)
theorem lc_21 (hX : Dok X 4 cL_law ret room_1 RL) (hXs : Xs X b Ln xs) (hL : Ln ≤ 3072) (hi : i + 6 ≤ Ln) (h : Inv nc σ τ) (hc : cells ≤ 679924) (hs : slots ≤ 7062475) (kk : ∀ σ' τ', Inv nc σ' τ' → Bw X 4 Z cells slots 1138 (LL b aX aM (nI i)) [] (LWd X (idsC nc) idsR 100 aX 0 aM σ' τ')) : Bw X 4 Z cells slots 803 (LL b aX aM (nI i)) [] (LWd X (idsC nc) idsR 100 aX 0 aM σ τ) := by
  have hn := h.nc
  refine b_aload_n 1 hX dL_law_803 rfl rfl ?_
  refine l_arg 1 hX hXs hL hi dL_law_804 dL_law_805 dL_law_806 dL_law_807 dL_law_808 (by decide) (by decide) ?_
  refine l_arg 2 hX hXs hL hi dL_law_809 dL_law_810 dL_law_811 dL_law_812 dL_law_813 (by decide) (by decide) ?_
  refine l_arg 3 hX hXs hL hi dL_law_814 dL_law_815 dL_law_816 dL_law_817 dL_law_818 (by decide) (by decide) ?_
  refine l_call (ci := 6) (C := RX6) (T := TX6) (N := 13) (n := 3) (d := 11) (As := [.int (xs (i + 1)), .int (xs (i + 2)), .int (xs (i + 3))]) (S := []) Yok_X6_act rfl rfl lwd_733 lwd_734 lwd_732 hX dL_law_819 (h100 hn).2.1 rfl (idsC_nodup nc hn) rfl (fun _ => rfl) rfl (by decide) (Nat.le_of_ble_eq_true rfl) (Nat.le_of_ble_eq_true rfl) hc hs (s_act (d := 0) (e := 0) (Q := fun x σ' y τ' => y = x ∧ Inv nc σ' τ') h (fun _ _ _ q => ⟨rfl, q⟩)) (fun r σ' r1 hF => ?_)
  obtain ⟨x, rfl, hE⟩ := hF
  show Bw X 4 Z cells slots _ _ [.int x] _
  refine b_aload_n 2 hX dL_law_822 rfl rfl ?_
  refine l_arg 1 hX hXs hL hi dL_law_823 dL_law_824 dL_law_825 dL_law_826 dL_law_827 (by decide) (by decide) ?_
  refine l_arg 2 hX hXs hL hi dL_law_828 dL_law_829 dL_law_830 dL_law_831 dL_law_832 (by decide) (by decide) ?_
  refine l_arg 3 hX hXs hL hi dL_law_833 dL_law_834 dL_law_835 dL_law_836 dL_law_837 (by decide) (by decide) ?_
  refine l_call2 (ci := 7) (C := RX7) (T := TX7) (N := 51) (n := 3) (d := 9) (As := [.int (xs (i + 1)), .int (xs (i + 2)), .int (xs (i + 3))]) (S := [.int x]) Yok_X7_act rfl rfl lwd_1211 lwd_1212 lwd_1210 hX dL_law_838 hR.2.1 rfl idsR_nodup rfl (fun _ => rfl) rfl (Nat.le_of_ble_eq_true rfl) (Nat.le_of_ble_eq_true rfl) (Nat.le_of_ble_eq_true rfl) hc hs hE (fun r τ' r1 hF => ?_)
  obtain ⟨y, rfl, rfl, hI⟩ := hF
  show Bw X 4 Z cells slots _ _ [.int y, .int y] _
  exact b_icmp_eq 1138 hX dL_law_841 (by decide) (fun _ => kk σ' τ' hI) (fun z => absurd rfl z)
theorem lc_22 (hX : Dok X 4 cL_law ret room_1 RL) (hXs : Xs X b Ln xs) (hL : Ln ≤ 3072) (hi : i + 6 ≤ Ln) (h : Inv nc σ τ) (hc : cells ≤ 679924) (hs : slots ≤ 7062475) (kk : ∀ σ' τ', Inv nc σ' τ' → Bw X 4 Z cells slots 1138 (LL b aX aM (nI i)) [] (LWd X (idsC nc) idsR 100 aX 0 aM σ' τ')) : Bw X 4 Z cells slots 846 (LL b aX aM (nI i)) [] (LWd X (idsC nc) idsR 100 aX 0 aM σ τ) := by
  have hn := h.nc
  refine b_aload_n 1 hX dL_law_846 rfl rfl ?_
  refine l_arg 1 hX hXs hL hi dL_law_847 dL_law_848 dL_law_849 dL_law_850 dL_law_851 (by decide) (by decide) ?_
  refine l_call (ci := 6) (C := RX6) (T := TX6) (N := 13) (n := 1) (d := 2) (As := [.int (xs (i + 1))]) (S := []) Yok_X6_trace rfl rfl lwd_756 lwd_757 lwd_755 hX dL_law_852 (h100 hn).2.1 rfl (idsC_nodup nc hn) rfl (fun _ => rfl) rfl (by decide) (Nat.le_of_ble_eq_true rfl) (Nat.le_of_ble_eq_true rfl) hc hs (s_trace (d := 0) (e := 0) (Q := fun x σ' y τ' => y = x ∧ Inv nc σ' τ') h (fun _ _ _ q => ⟨rfl, q⟩)) (fun r σ' r1 hF => ?_)
  obtain ⟨x, rfl, hE⟩ := hF
  show Bw X 4 Z cells slots _ _ [.int x] _
  refine b_aload_n 2 hX dL_law_855 rfl rfl ?_
  refine l_arg 1 hX hXs hL hi dL_law_856 dL_law_857 dL_law_858 dL_law_859 dL_law_860 (by decide) (by decide) ?_
  refine l_call2 (ci := 7) (C := RX7) (T := TX7) (N := 51) (n := 1) (d := 2) (As := [.int (xs (i + 1))]) (S := [.int x]) Yok_X7_trace rfl rfl lwd_1247 lwd_1248 lwd_1246 hX dL_law_861 hR.2.1 rfl idsR_nodup rfl (fun _ => rfl) rfl (Nat.le_of_ble_eq_true rfl) (Nat.le_of_ble_eq_true rfl) (Nat.le_of_ble_eq_true rfl) hc hs hE (fun r τ' r1 hF => ?_)
  obtain ⟨y, rfl, rfl, hI⟩ := hF
  show Bw X 4 Z cells slots _ _ [.int y, .int y] _
  exact b_icmp_eq 1138 hX dL_law_864 (by decide) (fun _ => kk σ' τ' hI) (fun z => absurd rfl z)
theorem lc_23 (hX : Dok X 4 cL_law ret room_1 RL) (hXs : Xs X b Ln xs) (hL : Ln ≤ 3072) (hi : i + 6 ≤ Ln) (h : Inv nc σ τ) (hc : cells ≤ 679924) (hs : slots ≤ 7062475) (kk : ∀ σ' τ', Inv nc σ' τ' → Bw X 4 Z cells slots 1138 (LL b aX aM (nI i)) [] (LWd X (idsC nc) idsR 100 aX 0 aM σ' τ')) : Bw X 4 Z cells slots 869 (LL b aX aM (nI i)) [] (LWd X (idsC nc) idsR 100 aX 0 aM σ τ) := by
  have hn := h.nc
  refine b_aload_n 1 hX dL_law_869 rfl rfl ?_
  refine l_arg 1 hX hXs hL hi dL_law_870 dL_law_871 dL_law_872 dL_law_873 dL_law_874 (by decide) (by decide) ?_
  refine l_arg 2 hX hXs hL hi dL_law_875 dL_law_876 dL_law_877 dL_law_878 dL_law_879 (by decide) (by decide) ?_
  refine l_call (ci := 6) (C := RX6) (T := TX6) (N := 13) (n := 2) (d := 3) (As := [.int (xs (i + 1)), .int (xs (i + 2))]) (S := []) Yok_X6_taken rfl rfl lwd_764 lwd_765 lwd_763 hX dL_law_880 (h100 hn).2.1 rfl (idsC_nodup nc hn) rfl (fun _ => rfl) rfl (by decide) (Nat.le_of_ble_eq_true rfl) (Nat.le_of_ble_eq_true rfl) hc hs (s_taken (d := 0) (e := 0) (Q := fun x σ' y τ' => y = x ∧ Inv nc σ' τ') h (fun _ _ _ q => ⟨rfl, q⟩)) (fun r σ' r1 hF => ?_)
  obtain ⟨x, rfl, hE⟩ := hF
  show Bw X 4 Z cells slots _ _ [.int x] _
  refine b_aload_n 2 hX dL_law_883 rfl rfl ?_
  refine l_arg 1 hX hXs hL hi dL_law_884 dL_law_885 dL_law_886 dL_law_887 dL_law_888 (by decide) (by decide) ?_
  refine l_arg 2 hX hXs hL hi dL_law_889 dL_law_890 dL_law_891 dL_law_892 dL_law_893 (by decide) (by decide) ?_
  refine l_call2 (ci := 7) (C := RX7) (T := TX7) (N := 51) (n := 2) (d := 2) (As := [.int (xs (i + 1)), .int (xs (i + 2))]) (S := [.int x]) Yok_X7_taken rfl rfl lwd_1251 lwd_1252 lwd_1250 hX dL_law_894 hR.2.1 rfl idsR_nodup rfl (fun _ => rfl) rfl (Nat.le_of_ble_eq_true rfl) (Nat.le_of_ble_eq_true rfl) (Nat.le_of_ble_eq_true rfl) hc hs hE (fun r τ' r1 hF => ?_)
  obtain ⟨y, rfl, rfl, hI⟩ := hF
  show Bw X 4 Z cells slots _ _ [.int y, .int y] _
  exact b_icmp_eq 1138 hX dL_law_897 (by decide) (fun _ => kk σ' τ' hI) (fun z => absurd rfl z)
theorem lc_24 (hX : Dok X 4 cL_law ret room_1 RL) (hXs : Xs X b Ln xs) (hL : Ln ≤ 3072) (hi : i + 6 ≤ Ln) (h : Inv nc σ τ) (hc : cells ≤ 679924) (hs : slots ≤ 7062475) (kk : ∀ σ' τ', Inv nc σ' τ' → Bw X 4 Z cells slots 1138 (LL b aX aM (nI i)) [] (LWd X (idsC nc) idsR 100 aX 0 aM σ' τ')) : Bw X 4 Z cells slots 902 (LL b aX aM (nI i)) [] (LWd X (idsC nc) idsR 100 aX 0 aM σ τ) := by
  have hn := h.nc
  refine b_aload_n 1 hX dL_law_902 rfl rfl ?_
  refine l_arg 1 hX hXs hL hi dL_law_903 dL_law_904 dL_law_905 dL_law_906 dL_law_907 (by decide) (by decide) ?_
  refine l_call (ci := 6) (C := RX6) (T := TX6) (N := 13) (n := 1) (d := 1) (As := [.int (xs (i + 1))]) (S := []) Yok_X6_count rfl rfl lwd_772 lwd_773 lwd_771 hX dL_law_908 (h100 hn).2.1 rfl (idsC_nodup nc hn) rfl (fun _ => rfl) rfl (by decide) (Nat.le_of_ble_eq_true rfl) (Nat.le_of_ble_eq_true rfl) hc hs (s_count (d := 0) (e := 0) (Q := fun x σ' y τ' => y = x ∧ Inv nc σ' τ') h (fun _ _ _ q => ⟨rfl, q⟩)) (fun r σ' r1 hF => ?_)
  obtain ⟨x, rfl, hE⟩ := hF
  show Bw X 4 Z cells slots _ _ [.int x] _
  refine b_aload_n 2 hX dL_law_911 rfl rfl ?_
  refine l_arg 1 hX hXs hL hi dL_law_912 dL_law_913 dL_law_914 dL_law_915 dL_law_916 (by decide) (by decide) ?_
  refine l_call2 (ci := 7) (C := RX7) (T := TX7) (N := 51) (n := 1) (d := 1) (As := [.int (xs (i + 1))]) (S := [.int x]) Yok_X7_count rfl rfl lwd_1255 lwd_1256 lwd_1254 hX dL_law_917 hR.2.1 rfl idsR_nodup rfl (fun _ => rfl) rfl (Nat.le_of_ble_eq_true rfl) (Nat.le_of_ble_eq_true rfl) (Nat.le_of_ble_eq_true rfl) hc hs hE (fun r τ' r1 hF => ?_)
  obtain ⟨y, rfl, rfl, hI⟩ := hF
  show Bw X 4 Z cells slots _ _ [.int y, .int y] _
  exact b_icmp_eq 1138 hX dL_law_920 (by decide) (fun _ => kk σ' τ' hI) (fun z => absurd rfl z)
theorem lc_25 (hX : Dok X 4 cL_law ret room_1 RL) (hXs : Xs X b Ln xs) (hL : Ln ≤ 3072) (hi : i + 6 ≤ Ln) (h : Inv nc σ τ) (hc : cells ≤ 679924) (hs : slots ≤ 7062475) (kk : ∀ σ' τ', Inv nc σ' τ' → Bw X 4 Z cells slots 1138 (LL b aX aM (nI i)) [] (LWd X (idsC nc) idsR 100 aX 0 aM σ' τ')) : Bw X 4 Z cells slots 925 (LL b aX aM (nI i)) [] (LWd X (idsC nc) idsR 100 aX 0 aM σ τ) := by
  have hn := h.nc
  refine b_aload_n 1 hX dL_law_925 rfl rfl ?_
  refine l_arg 1 hX hXs hL hi dL_law_926 dL_law_927 dL_law_928 dL_law_929 dL_law_930 (by decide) (by decide) ?_
  refine l_arg 2 hX hXs hL hi dL_law_931 dL_law_932 dL_law_933 dL_law_934 dL_law_935 (by decide) (by decide) ?_
  refine l_arg 3 hX hXs hL hi dL_law_936 dL_law_937 dL_law_938 dL_law_939 dL_law_940 (by decide) (by decide) ?_
  refine l_call (ci := 6) (C := RX6) (T := TX6) (N := 13) (n := 3) (d := 2) (As := [.int (xs (i + 1)), .int (xs (i + 2)), .int (xs (i + 3))]) (S := []) Yok_X6_tape rfl rfl lwd_776 lwd_777 lwd_775 hX dL_law_941 (h100 hn).2.1 rfl (idsC_nodup nc hn) rfl (fun _ => rfl) rfl (by decide) (Nat.le_of_ble_eq_true rfl) (Nat.le_of_ble_eq_true rfl) hc hs (t_tape (d := 0) (e := 0) (Q := fun x σ' y τ' => y = x ∧ Inv nc σ' τ') h (fun _ _ _ q => ⟨rfl, q⟩)) (fun r σ' r1 hF => ?_)
  obtain ⟨x, rfl, hE⟩ := hF
  show Bw X 4 Z cells slots _ _ [.int x] _
  refine b_aload_n 2 hX dL_law_944 rfl rfl ?_
  refine l_arg 1 hX hXs hL hi dL_law_945 dL_law_946 dL_law_947 dL_law_948 dL_law_949 (by decide) (by decide) ?_
  refine l_arg 2 hX hXs hL hi dL_law_950 dL_law_951 dL_law_952 dL_law_953 dL_law_954 (by decide) (by decide) ?_
  refine l_arg 3 hX hXs hL hi dL_law_955 dL_law_956 dL_law_957 dL_law_958 dL_law_959 (by decide) (by decide) ?_
  refine l_call2 (ci := 7) (C := RX7) (T := TX7) (N := 51) (n := 3) (d := 3) (As := [.int (xs (i + 1)), .int (xs (i + 2)), .int (xs (i + 3))]) (S := [.int x]) Yok_X7_tape rfl rfl lwd_1259 lwd_1260 lwd_1258 hX dL_law_960 hR.2.1 rfl idsR_nodup rfl (fun _ => rfl) rfl (Nat.le_of_ble_eq_true rfl) (Nat.le_of_ble_eq_true rfl) (Nat.le_of_ble_eq_true rfl) hc hs hE (fun r τ' r1 hF => ?_)
  obtain ⟨y, rfl, rfl, hI⟩ := hF
  show Bw X 4 Z cells slots _ _ [.int y, .int y] _
  exact b_icmp_eq 1138 hX dL_law_963 (by decide) (fun _ => kk σ' τ' hI) (fun z => absurd rfl z)
theorem lc_26 (hX : Dok X 4 cL_law ret room_1 RL) (hXs : Xs X b Ln xs) (hL : Ln ≤ 3072) (hi : i + 6 ≤ Ln) (h : Inv nc σ τ) (hc : cells ≤ 679924) (hs : slots ≤ 7062475) (kk : ∀ σ' τ', Inv nc σ' τ' → Bw X 4 Z cells slots 1138 (LL b aX aM (nI i)) [] (LWd X (idsC nc) idsR 100 aX 0 aM σ' τ')) : Bw X 4 Z cells slots 968 (LL b aX aM (nI i)) [] (LWd X (idsC nc) idsR 100 aX 0 aM σ τ) := by
  have hn := h.nc
  refine b_aload_n 1 hX dL_law_968 rfl rfl ?_
  refine l_arg 1 hX hXs hL hi dL_law_969 dL_law_970 dL_law_971 dL_law_972 dL_law_973 (by decide) (by decide) ?_
  refine l_arg 2 hX hXs hL hi dL_law_974 dL_law_975 dL_law_976 dL_law_977 dL_law_978 (by decide) (by decide) ?_
  refine l_arg 3 hX hXs hL hi dL_law_979 dL_law_980 dL_law_981 dL_law_982 dL_law_983 (by decide) (by decide) ?_
  refine b_i2l hX dL_law_984 ?_
  refine b_bipush (v := 32) hX dL_law_985 (by decide) ?_
  refine b_lshl hX dL_law_987 ?_
  refine l_arg 4 hX hXs hL hi dL_law_988 dL_law_989 dL_law_990 dL_law_991 dL_law_992 (by decide) (by decide) ?_
  refine b_i2l hX dL_law_993 ?_
  refine b_ldc2 (v := 4294967295) hX dL_law_994 lwd_1279 ?_
  refine b_land hX dL_law_997 ?_
  refine b_lor hX dL_law_998 ?_
  refine l_call (ci := 6) (C := RX6) (T := TX6) (N := 13) (n := 3) (d := 2) (As := [.int (xs (i + 1)), .int (xs (i + 2)), .long (((xs (i + 3)).toInt64 <<< ((32 : Int32).toInt64 &&& 63)) ||| ((xs (i + 4)).toInt64 &&& 4294967295))]) (S := []) Yok_X6_item rfl rfl lwd_780 lwd_781 lwd_779 hX dL_law_999 (h100 hn).2.1 rfl (idsC_nodup nc hn) rfl (fun _ => rfl) rfl (by decide) (Nat.le_of_ble_eq_true rfl) (Nat.le_of_ble_eq_true rfl) hc hs (t_item (d := 0) (e := 0) (Q := fun x σ' y τ' => y = x ∧ Inv nc σ' τ') h (fun _ _ _ q => ⟨rfl, q⟩) rfl) (fun r σ' r1 hF => ?_)
  obtain ⟨x, rfl, hE⟩ := hF
  show Bw X 4 Z cells slots _ _ [.int x] _
  refine b_aload_n 2 hX dL_law_1002 rfl rfl ?_
  refine l_arg 1 hX hXs hL hi dL_law_1003 dL_law_1004 dL_law_1005 dL_law_1006 dL_law_1007 (by decide) (by decide) ?_
  refine l_arg 2 hX hXs hL hi dL_law_1008 dL_law_1009 dL_law_1010 dL_law_1011 dL_law_1012 (by decide) (by decide) ?_
  refine l_arg 3 hX hXs hL hi dL_law_1013 dL_law_1014 dL_law_1015 dL_law_1016 dL_law_1017 (by decide) (by decide) ?_
  refine b_i2l hX dL_law_1018 ?_
  refine b_bipush (v := 32) hX dL_law_1019 (by decide) ?_
  refine b_lshl hX dL_law_1021 ?_
  refine l_arg 4 hX hXs hL hi dL_law_1022 dL_law_1023 dL_law_1024 dL_law_1025 dL_law_1026 (by decide) (by decide) ?_
  refine b_i2l hX dL_law_1027 ?_
  refine b_ldc2 (v := 4294967295) hX dL_law_1028 lwd_1279 ?_
  refine b_land hX dL_law_1031 ?_
  refine b_lor hX dL_law_1032 ?_
  refine l_call2 (ci := 7) (C := RX7) (T := TX7) (N := 51) (n := 3) (d := 3) (As := [.int (xs (i + 1)), .int (xs (i + 2)), .long (((xs (i + 3)).toInt64 <<< ((32 : Int32).toInt64 &&& 63)) ||| ((xs (i + 4)).toInt64 &&& 4294967295))]) (S := [.int x]) Yok_X7_item rfl rfl lwd_1263 lwd_1264 lwd_1262 hX dL_law_1033 hR.2.1 rfl idsR_nodup rfl (fun _ => rfl) rfl (Nat.le_of_ble_eq_true rfl) (Nat.le_of_ble_eq_true rfl) (Nat.le_of_ble_eq_true rfl) hc hs hE (fun r τ' r1 hF => ?_)
  obtain ⟨y, rfl, rfl, hI⟩ := hF
  show Bw X 4 Z cells slots _ _ [.int y, .int y] _
  exact b_icmp_eq 1138 hX dL_law_1036 (by decide) (fun _ => kk σ' τ' hI) (fun z => absurd rfl z)
theorem lc_27 (hX : Dok X 4 cL_law ret room_1 RL) (hXs : Xs X b Ln xs) (hL : Ln ≤ 3072) (hi : i + 6 ≤ Ln) (h : Inv nc σ τ) (hc : cells ≤ 679924) (hs : slots ≤ 7062475) (kk : ∀ σ' τ', Inv nc σ' τ' → Bw X 4 Z cells slots 1138 (LL b aX aM (nI i)) [] (LWd X (idsC nc) idsR 100 aX 0 aM σ' τ')) : Bw X 4 Z cells slots 1041 (LL b aX aM (nI i)) [] (LWd X (idsC nc) idsR 100 aX 0 aM σ τ) := by
  have hn := h.nc
  refine b_aload_n 1 hX dL_law_1041 rfl rfl ?_
  refine l_arg 1 hX hXs hL hi dL_law_1042 dL_law_1043 dL_law_1044 dL_law_1045 dL_law_1046 (by decide) (by decide) ?_
  refine l_arg 2 hX hXs hL hi dL_law_1047 dL_law_1048 dL_law_1049 dL_law_1050 dL_law_1051 (by decide) (by decide) ?_
  refine l_call (ci := 6) (C := RX6) (T := TX6) (N := 13) (n := 2) (d := 2) (As := [.int (xs (i + 1)), .int (xs (i + 2))]) (S := []) Yok_X6_read rfl rfl lwd_787 lwd_788 lwd_786 hX dL_law_1052 (h100 hn).2.1 rfl (idsC_nodup nc hn) rfl (fun _ => rfl) rfl (by decide) (Nat.le_of_ble_eq_true rfl) (Nat.le_of_ble_eq_true rfl) hc hs (t_read (d := 0) (Q := fun x σ' y τ' => y = x ∧ Inv nc σ' τ') h (fun _ _ _ q => ⟨rfl, q⟩)) (fun r σ' r1 hF => ?_)
  obtain ⟨x, rfl, hE⟩ := hF
  show Bw X 4 Z cells slots _ _ [.long x] _
  refine b_aload_n 2 hX dL_law_1055 rfl rfl ?_
  refine l_arg 1 hX hXs hL hi dL_law_1056 dL_law_1057 dL_law_1058 dL_law_1059 dL_law_1060 (by decide) (by decide) ?_
  refine l_arg 2 hX hXs hL hi dL_law_1061 dL_law_1062 dL_law_1063 dL_law_1064 dL_law_1065 (by decide) (by decide) ?_
  refine l_call2 (ci := 7) (C := RX7) (T := TX7) (N := 51) (n := 2) (d := 3) (As := [.int (xs (i + 1)), .int (xs (i + 2))]) (S := [.long x]) Yok_X7_read rfl rfl lwd_1271 lwd_1272 lwd_1270 hX dL_law_1066 hR.2.1 rfl idsR_nodup rfl (fun _ => rfl) rfl (Nat.le_of_ble_eq_true rfl) (Nat.le_of_ble_eq_true rfl) (Nat.le_of_ble_eq_true rfl) hc hs hE (fun r τ' r1 hF => ?_)
  obtain ⟨y, rfl, rfl, hI⟩ := hF
  show Bw X 4 Z cells slots _ _ [.long y, .long y] _
  refine b_lcmp hX dL_law_1069 ?_
  exact b_if_eq 1138 hX dL_law_1070 (by decide) (fun _ => kk σ' τ' hI) (fun z => absurd lg_cmp_self z)
theorem lc_28 (hX : Dok X 4 cL_law ret room_1 RL) (hXs : Xs X b Ln xs) (hL : Ln ≤ 3072) (hi : i + 6 ≤ Ln) (h : Inv nc σ τ) (hc : cells ≤ 679924) (hs : slots ≤ 7062475) (kk : ∀ σ' τ', Inv nc σ' τ' → Bw X 4 Z cells slots 1138 (LL b aX aM (nI i)) [] (LWd X (idsC nc) idsR 100 aX 0 aM σ' τ')) : Bw X 4 Z cells slots 1075 (LL b aX aM (nI i)) [] (LWd X (idsC nc) idsR 100 aX 0 aM σ τ) := by
  have hn := h.nc
  refine b_aload_n 1 hX dL_law_1075 rfl rfl ?_
  refine l_arg 1 hX hXs hL hi dL_law_1076 dL_law_1077 dL_law_1078 dL_law_1079 dL_law_1080 (by decide) (by decide) ?_
  refine l_arg 2 hX hXs hL hi dL_law_1081 dL_law_1082 dL_law_1083 dL_law_1084 dL_law_1085 (by decide) (by decide) ?_
  refine l_arg 3 hX hXs hL hi dL_law_1086 dL_law_1087 dL_law_1088 dL_law_1089 dL_law_1090 (by decide) (by decide) ?_
  refine l_arg 4 hX hXs hL hi dL_law_1091 dL_law_1092 dL_law_1093 dL_law_1094 dL_law_1095 (by decide) (by decide) ?_
  refine l_arg 5 hX hXs hL hi dL_law_1096 dL_law_1097 dL_law_1098 dL_law_1099 dL_law_1100 (by decide) (by decide) ?_
  refine l_call (ci := 6) (C := RX6) (T := TX6) (N := 13) (n := 5) (d := 2) (As := [.int (xs (i + 1)), .int (xs (i + 2)), .int (xs (i + 3)), .int (xs (i + 4)), .int (xs (i + 5))]) (S := []) Yok_X6_shift rfl rfl lwd_792 lwd_793 lwd_791 hX dL_law_1101 (h100 hn).2.1 rfl (idsC_nodup nc hn) rfl (fun _ => rfl) rfl (by decide) (Nat.le_of_ble_eq_true rfl) (Nat.le_of_ble_eq_true rfl) hc hs (t_shift (d := 0) (e := 0) (Q := fun x σ' y τ' => y = x ∧ Inv nc σ' τ') h (fun _ _ _ q => ⟨rfl, q⟩) rfl) (fun r σ' r1 hF => ?_)
  obtain ⟨x, rfl, hE⟩ := hF
  show Bw X 4 Z cells slots _ _ [.int x] _
  refine b_aload_n 2 hX dL_law_1104 rfl rfl ?_
  refine l_arg 1 hX hXs hL hi dL_law_1105 dL_law_1106 dL_law_1107 dL_law_1108 dL_law_1109 (by decide) (by decide) ?_
  refine l_arg 2 hX hXs hL hi dL_law_1110 dL_law_1111 dL_law_1112 dL_law_1113 dL_law_1114 (by decide) (by decide) ?_
  refine l_arg 3 hX hXs hL hi dL_law_1115 dL_law_1116 dL_law_1117 dL_law_1118 dL_law_1119 (by decide) (by decide) ?_
  refine l_arg 4 hX hXs hL hi dL_law_1120 dL_law_1121 dL_law_1122 dL_law_1123 dL_law_1124 (by decide) (by decide) ?_
  refine l_arg 5 hX hXs hL hi dL_law_1125 dL_law_1126 dL_law_1127 dL_law_1128 dL_law_1129 (by decide) (by decide) ?_
  refine l_call2 (ci := 7) (C := RX7) (T := TX7) (N := 51) (n := 5) (d := 3) (As := [.int (xs (i + 1)), .int (xs (i + 2)), .int (xs (i + 3)), .int (xs (i + 4)), .int (xs (i + 5))]) (S := [.int x]) Yok_X7_shift rfl rfl lwd_1276 lwd_1277 lwd_1275 hX dL_law_1130 hR.2.1 rfl idsR_nodup rfl (fun _ => rfl) rfl (Nat.le_of_ble_eq_true rfl) (Nat.le_of_ble_eq_true rfl) (Nat.le_of_ble_eq_true rfl) hc hs hE (fun r τ' r1 hF => ?_)
  obtain ⟨y, rfl, rfl, hI⟩ := hF
  show Bw X 4 Z cells slots _ _ [.int y, .int y] _
  exact b_icmp_eq 1138 hX dL_law_1133 (by decide) (fun _ => kk σ' τ' hI) (fun z => absurd rfl z)
end LC
