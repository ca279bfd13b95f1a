set_option maxHeartbeats 1000000
set_option maxRecDepth 100000
theorem la_tally {C : zC} {cs : Nat × Nat} {b L i n : Nat} {xs : Nat → Int32} (E : zEl C) (hc : zSc C b L xs) (hi : i + 6 ≤ L) (hL : L ≤ 3072) (hn : n ≤ 512) {I : Nat → Nat → Int32} {J : Nat → Nat → Int64} {Rr : Nat → Nat → Option Nat} {D : zD} (hI : INV n I J Rr D) (h1 : cs.1 + 27 ≤ 600000) (h2 : cs.2 + 794 ≤ 7302249) (kk : ∀ S2, INVs (n + 1) S2 → zB C (cs.1 + 27, cs.2 + 794) 1159 (lvl C b i) [] S2) : zB C cs 827 (lvl C b i) [] (I, J, Rr, D) := by
  obtain ⟨r, S1, S2, k1, k2, hI2⟩ := arm_tally (by omega) hI (a1 := xs (i + 1)) (a2 := xs (i + 2)) (a3 := xs (i + 3))
  refine zb_aload_n E dl_827 2 rfl rfl ?_
  refine la_arg E hc hi hL 1 (by decide) (kz := 1) rfl dl_828 dl_829 dl_830 dl_831 dl_832 ?_
  refine la_arg E hc hi hL 2 (by decide) (kz := 2) rfl dl_833 dl_834 dl_835 dl_836 dl_837 ?_
  refine la_arg E hc hi hL 3 (by decide) (kz := 3) rfl dl_838 dl_839 dl_840 dl_841 dl_842 ?_
  refine zb_cVi E [.int (xs (i + 1)), .int (xs (i + 2)), .int (xs (i + 3))] 0 zy_X11_tally zw_953 (by decide) (zF_0 _ _ _ _) rfl (k1 _ _) ⟨Nat.le_of_ble_eq_true rfl, Nat.le_of_ble_eq_true rfl, by show _ ≤ 600000; (try dsimp only); omega, by show _ ≤ 7302249; (try dsimp only); omega⟩ rfl rfl (by first | decide | simp [Value.category]) dl_843 rfl ?_
  refine zb_aload_n E dl_846 3 rfl rfl ?_
  refine la_arg E hc hi hL 1 (by decide) (kz := 1) rfl dl_847 dl_848 dl_849 dl_850 dl_851 ?_
  refine la_arg E hc hi hL 2 (by decide) (kz := 2) rfl dl_852 dl_853 dl_854 dl_855 dl_856 ?_
  refine la_arg E hc hi hL 3 (by decide) (kz := 3) rfl dl_857 dl_858 dl_859 dl_860 dl_861 ?_
  refine zb_cVi E [.int (xs (i + 1)), .int (xs (i + 2)), .int (xs (i + 3))] 128 zy_X12_tally zw_1705 (by decide) (zF_128 _ _ _ _) rfl (k2 _ _) ⟨Nat.le_of_ble_eq_true rfl, Nat.le_of_ble_eq_true rfl, by show _ ≤ 600000; (try dsimp only); omega, by show _ ≤ 7302249; (try dsimp only); omega⟩ rfl rfl (by first | decide | simp [Value.category]) dl_862 rfl ?_
  refine zb_icmp_eq E dl_865 (tgt := 1159) rfl (fun _ => ?_) (fun h => absurd rfl h)
  exact zb_wide (by (try dsimp only); omega) (by (try dsimp only); omega) (kk _ hI2)
theorem la_fire {C : zC} {cs : Nat × Nat} {b L i n : Nat} {xs : Nat → Int32} (E : zEl C) (hc : zSc C b L xs) (hi : i + 6 ≤ L) (hL : L ≤ 3072) (hn : n ≤ 512) {I : Nat → Nat → Int32} {J : Nat → Nat → Int64} {Rr : Nat → Nat → Option Nat} {D : zD} (hI : INV n I J Rr D) (h1 : cs.1 + 27 ≤ 600000) (h2 : cs.2 + 794 ≤ 7302249) (kk : ∀ S2, INVs (n + 1) S2 → zB C (cs.1 + 27, cs.2 + 794) 1159 (lvl C b i) [] S2) : zB C cs 870 (lvl C b i) [] (I, J, Rr, D) := by
  obtain ⟨r, S1, S2, k1, k2, hI2⟩ := arm_fire (by omega) hI (a1 := xs (i + 1)) (a2 := xs (i + 2))
  refine zb_aload_n E dl_870 2 rfl rfl ?_
  refine la_arg E hc hi hL 1 (by decide) (kz := 1) rfl dl_871 dl_872 dl_873 dl_874 dl_875 ?_
  refine la_arg E hc hi hL 2 (by decide) (kz := 2) rfl dl_876 dl_877 dl_878 dl_879 dl_880 ?_
  refine zb_cVi E [.int (xs (i + 1)), .int (xs (i + 2))] 0 zy_X11_fire zw_957 (by decide) (zF_0 _ _ _ _) rfl (k1 _ _) ⟨Nat.le_of_ble_eq_true rfl, Nat.le_of_ble_eq_true rfl, by show _ ≤ 600000; (try dsimp only); omega, by show _ ≤ 7302249; (try dsimp only); omega⟩ rfl rfl (by first | decide | simp [Value.category]) dl_881 rfl ?_
  refine zb_aload_n E dl_884 3 rfl rfl ?_
  refine la_arg E hc hi hL 1 (by decide) (kz := 1) rfl dl_885 dl_886 dl_887 dl_888 dl_889 ?_
  refine la_arg E hc hi hL 2 (by decide) (kz := 2) rfl dl_890 dl_891 dl_892 dl_893 dl_894 ?_
  refine zb_cVi E [.int (xs (i + 1)), .int (xs (i + 2))] 128 zy_X12_fire zw_1709 (by decide) (zF_128 _ _ _ _) rfl (k2 _ _) ⟨Nat.le_of_ble_eq_true rfl, Nat.le_of_ble_eq_true rfl, by show _ ≤ 600000; (try dsimp only); omega, by show _ ≤ 7302249; (try dsimp only); omega⟩ rfl rfl (by first | decide | simp [Value.category]) dl_895 rfl ?_
  refine zb_icmp_eq E dl_898 (tgt := 1159) rfl (fun _ => ?_) (fun h => absurd rfl h)
  exact zb_wide (by (try dsimp only); omega) (by (try dsimp only); omega) (kk _ hI2)
theorem la_annul {C : zC} {cs : Nat × Nat} {b L i n : Nat} {xs : Nat → Int32} (E : zEl C) (hc : zSc C b L xs) (hi : i + 6 ≤ L) (hL : L ≤ 3072) (hn : n ≤ 512) {I : Nat → Nat → Int32} {J : Nat → Nat → Int64} {Rr : Nat → Nat → Option Nat} {D : zD} (hI : INV n I J Rr D) (h1 : cs.1 + 27 ≤ 600000) (h2 : cs.2 + 794 ≤ 7302249) (kk : ∀ S2, INVs (n + 1) S2 → zB C (cs.1 + 27, cs.2 + 794) 1159 (lvl C b i) [] S2) : zB C cs 903 (lvl C b i) [] (I, J, Rr, D) := by
  obtain ⟨r, S1, S2, k1, k2, hI2⟩ := arm_annul (by omega) hI (a1 := xs (i + 1))
  refine zb_aload_n E dl_903 2 rfl rfl ?_
  refine la_arg E hc hi hL 1 (by decide) (kz := 1) rfl dl_904 dl_905 dl_906 dl_907 dl_908 ?_
  refine zb_cVi E [.int (xs (i + 1))] 0 zy_X11_annul zw_962 (by decide) (zF_0 _ _ _ _) rfl (k1 _ _) ⟨Nat.le_of_ble_eq_true rfl, Nat.le_of_ble_eq_true rfl, by show _ ≤ 600000; (try dsimp only); omega, by show _ ≤ 7302249; (try dsimp only); omega⟩ rfl rfl (by first | decide | simp [Value.category]) dl_909 rfl ?_
  refine zb_aload_n E dl_912 3 rfl rfl ?_
  refine la_arg E hc hi hL 1 (by decide) (kz := 1) rfl dl_913 dl_914 dl_915 dl_916 dl_917 ?_
  refine zb_cVi E [.int (xs (i + 1))] 128 zy_X12_annul zw_1714 (by decide) (zF_128 _ _ _ _) rfl (k2 _ _) ⟨Nat.le_of_ble_eq_true rfl, Nat.le_of_ble_eq_true rfl, by show _ ≤ 600000; (try dsimp only); omega, by show _ ≤ 7302249; (try dsimp only); omega⟩ rfl rfl (by first | decide | simp [Value.category]) dl_918 rfl ?_
  refine zb_icmp_eq E dl_921 (tgt := 1159) rfl (fun _ => ?_) (fun h => absurd rfl h)
  exact zb_wide (by (try dsimp only); omega) (by (try dsimp only); omega) (kk _ hI2)
theorem la_as {C : zC} {cs : Nat × Nat} {b L i n : Nat} {xs : Nat → Int32} (E : zEl C) (hc : zSc C b L xs) (hi : i + 6 ≤ L) (hL : L ≤ 3072) (hn : n ≤ 512) {I : Nat → Nat → Int32} {J : Nat → Nat → Int64} {Rr : Nat → Nat → Option Nat} {D : zD} (hI : INV n I J Rr D) (h1 : cs.1 + 27 ≤ 600000) (h2 : cs.2 + 794 ≤ 7302249) (kk : ∀ S2, INVs (n + 1) S2 → zB C (cs.1 + 27, cs.2 + 794) 1159 (lvl C b i) [] S2) : zB C cs 926 (lvl C b i) [] (I, J, Rr, D) := by
  obtain ⟨r, S1, S2, k1, k2, hI2⟩ := arm_as (by omega) hI (a1 := xs (i + 1))
  refine zb_aload_n E dl_926 2 rfl rfl ?_
  refine la_arg E hc hi hL 1 (by decide) (kz := 1) rfl dl_927 dl_928 dl_929 dl_930 dl_931 ?_
  refine zb_cVi E [.int (xs (i + 1))] 0 zy_X11_as zw_970 (by decide) (zF_0 _ _ _ _) rfl (k1 _ _) ⟨Nat.le_of_ble_eq_true rfl, Nat.le_of_ble_eq_true rfl, by show _ ≤ 600000; (try dsimp only); omega, by show _ ≤ 7302249; (try dsimp only); omega⟩ rfl rfl (by first | decide | simp [Value.category]) dl_932 rfl ?_
  refine zb_aload_n E dl_935 3 rfl rfl ?_
  refine la_arg E hc hi hL 1 (by decide) (kz := 1) rfl dl_936 dl_937 dl_938 dl_939 dl_940 ?_
  refine zb_cVi E [.int (xs (i + 1))] 128 zy_X12_as zw_1718 (by decide) (zF_128 _ _ _ _) rfl (k2 _ _) ⟨Nat.le_of_ble_eq_true rfl, Nat.le_of_ble_eq_true rfl, by show _ ≤ 600000; (try dsimp only); omega, by show _ ≤ 7302249; (try dsimp only); omega⟩ rfl rfl (by first | decide | simp [Value.category]) dl_941 rfl ?_
  refine zb_icmp_eq E dl_944 (tgt := 1159) rfl (fun _ => ?_) (fun h => absurd rfl h)
  exact zb_wide (by (try dsimp only); omega) (by (try dsimp only); omega) (kk _ hI2)
theorem la_roll {C : zC} {cs : Nat × Nat} {b L i n : Nat} {xs : Nat → Int32} (E : zEl C) (hc : zSc C b L xs) (hi : i + 6 ≤ L) (hL : L ≤ 3072) (hn : n ≤ 512) {I : Nat → Nat → Int32} {J : Nat → Nat → Int64} {Rr : Nat → Nat → Option Nat} {D : zD} (hI : INV n I J Rr D) (h1 : cs.1 + 27 ≤ 600000) (h2 : cs.2 + 794 ≤ 7302249) (kk : ∀ S2, INVs (n + 1) S2 → zB C (cs.1 + 27, cs.2 + 794) 1159 (lvl C b i) [] S2) : zB C cs 949 (lvl C b i) [] (I, J, Rr, D) := by
  obtain ⟨r, S1, S2, k1, k2, hI2⟩ := arm_roll (by omega) hI (a1 := xs (i + 1)) (a2 := xs (i + 2)) (a3 := xs (i + 3))
  refine zb_aload_n E dl_949 2 rfl rfl ?_
  refine la_arg E hc hi hL 1 (by decide) (kz := 1) rfl dl_950 dl_951 dl_952 dl_953 dl_954 ?_
  refine la_arg E hc hi hL 2 (by decide) (kz := 2) rfl dl_955 dl_956 dl_957 dl_958 dl_959 ?_
  refine la_arg E hc hi hL 3 (by decide) (kz := 3) rfl dl_960 dl_961 dl_962 dl_963 dl_964 ?_
  refine zb_cVl E [.int (xs (i + 1)), .int (xs (i + 2)), .int (xs (i + 3))] 0 zy_X11_roll zw_974 (by decide) (zF_0 _ _ _ _) rfl (k1 _ _) ⟨Nat.le_of_ble_eq_true rfl, Nat.le_of_ble_eq_true rfl, by show _ ≤ 600000; (try dsimp only); omega, by show _ ≤ 7302249; (try dsimp only); omega⟩ rfl rfl (by first | decide | simp [Value.category]) dl_965 rfl ?_
  refine zb_aload_n E dl_968 3 rfl rfl ?_
  refine la_arg E hc hi hL 1 (by decide) (kz := 1) rfl dl_969 dl_970 dl_971 dl_972 dl_973 ?_
  refine la_arg E hc hi hL 2 (by decide) (kz := 2) rfl dl_974 dl_975 dl_976 dl_977 dl_978 ?_
  refine la_arg E hc hi hL 3 (by decide) (kz := 3) rfl dl_979 dl_980 dl_981 dl_982 dl_983 ?_
  refine zb_cVl E [.int (xs (i + 1)), .int (xs (i + 2)), .int (xs (i + 3))] 128 zy_X12_roll zw_1743 (by decide) (zF_128 _ _ _ _) rfl (k2 _ _) ⟨Nat.le_of_ble_eq_true rfl, Nat.le_of_ble_eq_true rfl, by show _ ≤ 600000; (try dsimp only); omega, by show _ ≤ 7302249; (try dsimp only); omega⟩ rfl rfl (by first | decide | simp [Value.category]) dl_984 rfl ?_
  refine zb_lcmp E dl_987 ?_
  refine zb_if_eq E dl_988 (tgt := 1159) rfl (fun _ => ?_) (fun h => absurd (lg_cmp_same r) h)
  exact zb_wide (by (try dsimp only); omega) (by (try dsimp only); omega) (kk _ hI2)
theorem la_owed {C : zC} {cs : Nat × Nat} {b L i n : Nat} {xs : Nat → Int32} (E : zEl C) (hc : zSc C b L xs) (hi : i + 6 ≤ L) (hL : L ≤ 3072) (hn : n ≤ 512) {I : Nat → Nat → Int32} {J : Nat → Nat → Int64} {Rr : Nat → Nat → Option Nat} {D : zD} (hI : INV n I J Rr D) (h1 : cs.1 + 27 ≤ 600000) (h2 : cs.2 + 794 ≤ 7302249) (kk : ∀ S2, INVs (n + 1) S2 → zB C (cs.1 + 27, cs.2 + 794) 1159 (lvl C b i) [] S2) : zB C cs 993 (lvl C b i) [] (I, J, Rr, D) := by
  obtain ⟨r, S1, S2, k1, k2, hI2⟩ := arm_owed (by omega) hI (a1 := xs (i + 1))
  refine zb_aload_n E dl_993 2 rfl rfl ?_
  refine la_arg E hc hi hL 1 (by decide) (kz := 1) rfl dl_994 dl_995 dl_996 dl_997 dl_998 ?_
  refine zb_cVl E [.int (xs (i + 1))] 0 zy_X11_owed zw_1071 (by decide) (zF_0 _ _ _ _) rfl (k1 _ _) ⟨Nat.le_of_ble_eq_true rfl, Nat.le_of_ble_eq_true rfl, by show _ ≤ 600000; (try dsimp only); omega, by show _ ≤ 7302249; (try dsimp only); omega⟩ rfl rfl (by first | decide | simp [Value.category]) dl_999 rfl ?_
  refine zb_aload_n E dl_1002 3 rfl rfl ?_
  refine la_arg E hc hi hL 1 (by decide) (kz := 1) rfl dl_1003 dl_1004 dl_1005 dl_1006 dl_1007 ?_
  refine zb_cVl E [.int (xs (i + 1))] 128 zy_X12_owed zw_1796 (by decide) (zF_128 _ _ _ _) rfl (k2 _ _) ⟨Nat.le_of_ble_eq_true rfl, Nat.le_of_ble_eq_true rfl, by show _ ≤ 600000; (try dsimp only); omega, by show _ ≤ 7302249; (try dsimp only); omega⟩ rfl rfl (by first | decide | simp [Value.category]) dl_1008 rfl ?_
  refine zb_lcmp E dl_1011 ?_
  refine zb_if_eq E dl_1012 (tgt := 1159) rfl (fun _ => ?_) (fun h => absurd (lg_cmp_same r) h)
  exact zb_wide (by (try dsimp only); omega) (by (try dsimp only); omega) (kk _ hI2)
theorem la_slip {C : zC} {cs : Nat × Nat} {b L i n : Nat} {xs : Nat → Int32} (E : zEl C) (hc : zSc C b L xs) (hi : i + 6 ≤ L) (hL : L ≤ 3072) (hn : n ≤ 512) {I : Nat → Nat → Int32} {J : Nat → Nat → Int64} {Rr : Nat → Nat → Option Nat} {D : zD} (hI : INV n I J Rr D) (h1 : cs.1 + 27 ≤ 600000) (h2 : cs.2 + 794 ≤ 7302249) (kk : ∀ S2, INVs (n + 1) S2 → zB C (cs.1 + 27, cs.2 + 794) 1159 (lvl C b i) [] S2) : zB C cs 1017 (lvl C b i) [] (I, J, Rr, D) := by
  obtain ⟨r, S1, S2, k1, k2, hI2⟩ := arm_slip (by omega) hI (a1 := xs (i + 1)) (a2 := xs (i + 2)) (a3 := (((xs (i + 3)).toInt64 <<< (((32 : Int32).toInt64) &&& 63)) ||| ((xs (i + 4)).toInt64 &&& (4294967295 : Int64))))
  refine zb_aload_n E dl_1017 2 rfl rfl ?_
  refine la_arg E hc hi hL 1 (by decide) (kz := 1) rfl dl_1018 dl_1019 dl_1020 dl_1021 dl_1022 ?_
  refine la_arg E hc hi hL 2 (by decide) (kz := 2) rfl dl_1023 dl_1024 dl_1025 dl_1026 dl_1027 ?_
  refine la_arg E hc hi hL 3 (by decide) (kz := 3) rfl dl_1028 dl_1029 dl_1030 dl_1031 dl_1032 ?_
  refine zb_i2l E dl_1033 ?_
  refine zb_bipush E dl_1034 (v := 32) rfl ?_
  refine zb_lshl E dl_1036 ?_
  refine la_arg E hc hi hL 4 (by decide) (kz := 4) rfl dl_1037 dl_1038 dl_1039 dl_1040 dl_1041 ?_
  refine zb_i2l E dl_1042 ?_
  refine zb_ldc2 E dl_1043 (v := 4294967295) zw_1816 ?_
  refine zb_land E dl_1046 ?_
  refine zb_lor E dl_1047 ?_
  refine zb_cVi E [.int (xs (i + 1)), .int (xs (i + 2)), .long ((((xs (i + 3)).toInt64 <<< (((32 : Int32).toInt64) &&& 63)) ||| ((xs (i + 4)).toInt64 &&& (4294967295 : Int64))))] 0 zy_X11_slip zw_1082 (by decide) (zF_0 _ _ _ _) rfl (k1 _ _) ⟨Nat.le_of_ble_eq_true rfl, Nat.le_of_ble_eq_true rfl, by show _ ≤ 600000; (try dsimp only); omega, by show _ ≤ 7302249; (try dsimp only); omega⟩ rfl rfl (by first | decide | simp [Value.category]) dl_1048 rfl ?_
  refine zb_aload_n E dl_1051 3 rfl rfl ?_
  refine la_arg E hc hi hL 1 (by decide) (kz := 1) rfl dl_1052 dl_1053 dl_1054 dl_1055 dl_1056 ?_
  refine la_arg E hc hi hL 2 (by decide) (kz := 2) rfl dl_1057 dl_1058 dl_1059 dl_1060 dl_1061 ?_
  refine la_arg E hc hi hL 3 (by decide) (kz := 3) rfl dl_1062 dl_1063 dl_1064 dl_1065 dl_1066 ?_
  refine zb_i2l E dl_1067 ?_
  refine zb_bipush E dl_1068 (v := 32) rfl ?_
  refine zb_lshl E dl_1070 ?_
  refine la_arg E hc hi hL 4 (by decide) (kz := 4) rfl dl_1071 dl_1072 dl_1073 dl_1074 dl_1075 ?_
  refine zb_i2l E dl_1076 ?_
  refine zb_ldc2 E dl_1077 (v := 4294967295) zw_1816 ?_
  refine zb_land E dl_1080 ?_
  refine zb_lor E dl_1081 ?_
  refine zb_cVi E [.int (xs (i + 1)), .int (xs (i + 2)), .long ((((xs (i + 3)).toInt64 <<< (((32 : Int32).toInt64) &&& 63)) ||| ((xs (i + 4)).toInt64 &&& (4294967295 : Int64))))] 128 zy_X12_slip zw_1800 (by decide) (zF_128 _ _ _ _) rfl (k2 _ _) ⟨Nat.le_of_ble_eq_true rfl, Nat.le_of_ble_eq_true rfl, by show _ ≤ 600000; (try dsimp only); omega, by show _ ≤ 7302249; (try dsimp only); omega⟩ rfl rfl (by first | decide | simp [Value.category]) dl_1082 rfl ?_
  refine zb_icmp_eq E dl_1085 (tgt := 1159) rfl (fun _ => ?_) (fun h => absurd rfl h)
  exact zb_wide (by (try dsimp only); omega) (by (try dsimp only); omega) (kk _ hI2)
theorem la_moved {C : zC} {cs : Nat × Nat} {b L i n : Nat} {xs : Nat → Int32} (E : zEl C) (hc : zSc C b L xs) (hi : i + 6 ≤ L) (hL : L ≤ 3072) (hn : n ≤ 512) {I : Nat → Nat → Int32} {J : Nat → Nat → Int64} {Rr : Nat → Nat → Option Nat} {D : zD} (hI : INV n I J Rr D) (h1 : cs.1 + 27 ≤ 600000) (h2 : cs.2 + 794 ≤ 7302249) (kk : ∀ S2, INVs (n + 1) S2 → zB C (cs.1 + 27, cs.2 + 794) 1159 (lvl C b i) [] S2) : zB C cs 1090 (lvl C b i) [] (I, J, Rr, D) := by
  obtain ⟨r, S1, S2, k1, k2, hI2⟩ := arm_moved (by omega) hI 
  refine zb_aload_n E dl_1090 2 rfl rfl ?_
  refine zb_cVi E [] 0 zy_X11_moved zw_1132 (by decide) (zF_0 _ _ _ _) rfl (k1 _ _) ⟨Nat.le_of_ble_eq_true rfl, Nat.le_of_ble_eq_true rfl, by show _ ≤ 600000; (try dsimp only); omega, by show _ ≤ 7302249; (try dsimp only); omega⟩ rfl rfl (by first | decide | simp [Value.category]) dl_1091 rfl ?_
  refine zb_aload_n E dl_1094 3 rfl rfl ?_
  refine zb_cVi E [] 128 zy_X12_moved zw_1804 (by decide) (zF_128 _ _ _ _) rfl (k2 _ _) ⟨Nat.le_of_ble_eq_true rfl, Nat.le_of_ble_eq_true rfl, by show _ ≤ 600000; (try dsimp only); omega, by show _ ≤ 7302249; (try dsimp only); omega⟩ rfl rfl (by first | decide | simp [Value.category]) dl_1095 rfl ?_
  refine zb_icmp_eq E dl_1098 (tgt := 1159) rfl (fun _ => ?_) (fun h => absurd rfl h)
  exact zb_wide (by (try dsimp only); omega) (by (try dsimp only); omega) (kk _ hI2)
theorem la_since {C : zC} {cs : Nat × Nat} {b L i n : Nat} {xs : Nat → Int32} (E : zEl C) (hc : zSc C b L xs) (hi : i + 6 ≤ L) (hL : L ≤ 3072) (hn : n ≤ 512) {I : Nat → Nat → Int32} {J : Nat → Nat → Int64} {Rr : Nat → Nat → Option Nat} {D : zD} (hI : INV n I J Rr D) (h1 : cs.1 + 27 ≤ 600000) (h2 : cs.2 + 794 ≤ 7302249) (kk : ∀ S2, INVs (n + 1) S2 → zB C (cs.1 + 27, cs.2 + 794) 1159 (lvl C b i) [] S2) : zB C cs 1103 (lvl C b i) [] (I, J, Rr, D) := by
  obtain ⟨r, S1, S2, k1, k2, hI2⟩ := arm_since (by omega) hI (a1 := xs (i + 1)) (a2 := xs (i + 2))
  refine zb_aload_n E dl_1103 2 rfl rfl ?_
  refine la_arg E hc hi hL 1 (by decide) (kz := 1) rfl dl_1104 dl_1105 dl_1106 dl_1107 dl_1108 ?_
  refine la_arg E hc hi hL 2 (by decide) (kz := 2) rfl dl_1109 dl_1110 dl_1111 dl_1112 dl_1113 ?_
  refine zb_cVi E [.int (xs (i + 1)), .int (xs (i + 2))] 0 zy_X11_since zw_1140 (by decide) (zF_0 _ _ _ _) rfl (k1 _ _) ⟨Nat.le_of_ble_eq_true rfl, Nat.le_of_ble_eq_true rfl, by show _ ≤ 600000; (try dsimp only); omega, by show _ ≤ 7302249; (try dsimp only); omega⟩ rfl rfl (by first | decide | simp [Value.category]) dl_1114 rfl ?_
  refine zb_aload_n E dl_1117 3 rfl rfl ?_
  refine la_arg E hc hi hL 1 (by decide) (kz := 1) rfl dl_1118 dl_1119 dl_1120 dl_1121 dl_1122 ?_
  refine la_arg E hc hi hL 2 (by decide) (kz := 2) rfl dl_1123 dl_1124 dl_1125 dl_1126 dl_1127 ?_
  refine zb_cVi E [.int (xs (i + 1)), .int (xs (i + 2))] 128 zy_X12_since zw_1808 (by decide) (zF_128 _ _ _ _) rfl (k2 _ _) ⟨Nat.le_of_ble_eq_true rfl, Nat.le_of_ble_eq_true rfl, by show _ ≤ 600000; (try dsimp only); omega, by show _ ≤ 7302249; (try dsimp only); omega⟩ rfl rfl (by first | decide | simp [Value.category]) dl_1128 rfl ?_
  refine zb_icmp_eq E dl_1131 (tgt := 1159) rfl (fun _ => ?_) (fun h => absurd rfl h)
  exact zb_wide (by (try dsimp only); omega) (by (try dsimp only); omega) (kk _ hI2)
theorem la_all {C : zC} {cs : Nat × Nat} {b L i n : Nat} {xs : Nat → Int32} (E : zEl C) (hc : zSc C b L xs) (hi : i + 6 ≤ L) (hL : L ≤ 3072) (hn : n ≤ 512) {I : Nat → Nat → Int32} {J : Nat → Nat → Int64} {Rr : Nat → Nat → Option Nat} {D : zD} (hI : INV n I J Rr D) (h1 : cs.1 + 27 ≤ 600000) (h2 : cs.2 + 794 ≤ 7302249) (kk : ∀ S2, INVs (n + 1) S2 → zB C (cs.1 + 27, cs.2 + 794) 1159 (lvl C b i) [] S2) : zB C cs 1136 (lvl C b i) [] (I, J, Rr, D) := by
  obtain ⟨r, S1, S2, k1, k2, hI2⟩ := arm_all (by omega) hI (a1 := xs (i + 1))
  refine zb_aload_n E dl_1136 2 rfl rfl ?_
  refine la_arg E hc hi hL 1 (by decide) (kz := 1) rfl dl_1137 dl_1138 dl_1139 dl_1140 dl_1141 ?_
  refine zb_cVi E [.int (xs (i + 1))] 0 zy_X11_all zw_1152 (by decide) (zF_0 _ _ _ _) rfl (k1 _ _) ⟨Nat.le_of_ble_eq_true rfl, Nat.le_of_ble_eq_true rfl, by show _ ≤ 600000; (try dsimp only); omega, by show _ ≤ 7302249; (try dsimp only); omega⟩ rfl rfl (by first | decide | simp [Value.category]) dl_1142 rfl ?_
  refine zb_aload_n E dl_1145 3 rfl rfl ?_
  refine la_arg E hc hi hL 1 (by decide) (kz := 1) rfl dl_1146 dl_1147 dl_1148 dl_1149 dl_1150 ?_
  refine zb_cVi E [.int (xs (i + 1))] 128 zy_X12_all zw_1812 (by decide) (zF_128 _ _ _ _) rfl (k2 _ _) ⟨Nat.le_of_ble_eq_true rfl, Nat.le_of_ble_eq_true rfl, by show _ ≤ 600000; (try dsimp only); omega, by show _ ≤ 7302249; (try dsimp only); omega⟩ rfl rfl (by first | decide | simp [Value.category]) dl_1151 rfl ?_
  refine zb_icmp_eq E dl_1154 (tgt := 1159) rfl (fun _ => ?_) (fun h => absurd rfl h)
  exact zb_wide (by (try dsimp only); omega) (by (try dsimp only); omega) (kk _ hI2)
