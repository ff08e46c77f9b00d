set_option maxRecDepth 100000 in
set_option maxHeartbeats 8000000 in
theorem cini_X13 (l : Launch) (D : va_G) (T : Cy) (h0 g sz : Nat) {SM : St} (h : m_begin g SM0 0 = some SM) : Mu l D T yX13_init cX13_init 1 4 88 40 63778 [(h0, .inr (10, fsM))] (fun u => wl Ym T (fun c => if c = 0 then h0 else u c) SM) [.ref h0] sz := by
  refine i_in (by decide) (Nat.le_of_ble_eq_true rfl) (fun p e s m below meth c ls C hr hk hin hj w hl => ?_)
  have hl : lv_has ls 1 [(0, .ref h0)] := hl
  have hfs : fsM.length = 68 := rfl
  refine lv_aload_n C.1 C.2.1 dX13_init_0 rfl (lv_at hl 0 rfl) ?_
  refine i_obj C oiM hl.1 ⟨by decide, by decide⟩ dX13_init_1 ?_
  refine lv_aload_n C.1 C.2.1 dX13_init_4 rfl (lv_at hl 0 rfl) ?_
  refine lv_bipush (v := 28) C.1 C.2.1 dX13_init_5 (by decide) ?_
  refine s_arrJ (N := 28) C w rfl (by decide) ⟨Nat.le_of_ble_eq_true rfl, Nat.le_of_ble_eq_true rfl⟩ dX13_init_7 (fun q1 H w => ?_)
  refine bM_namesA (ws := _ :: _) C w (fun H locs w => ?_)
  rw [List.cons_append] at w
  refine s_put (k := 0) C hin hfs w fM63 pfM_0 (by decide) rfl rfl dX13_init_199 (fun H locs hfs w => ?_)
  refine lv_aload_n C.1 C.2.1 dX13_init_202 rfl (lv_at hl 0 rfl) ?_
  refine lv_bipush (v := 28) C.1 C.2.1 dX13_init_203 (by decide) ?_
  refine s_arrJ (N := 28) C w rfl (by decide) ⟨Nat.le_of_ble_eq_true rfl, Nat.le_of_ble_eq_true rfl⟩ dX13_init_205 (fun q2 H w => ?_)
  refine bM_namesB (ws := _ :: _) C w (fun H locs w => ?_)
  rw [List.cons_append] at w
  refine s_put (k := 1) C hin hfs w fM125 pfM_1 (by decide) rfl rfl dX13_init_397 (fun H locs hfs w => ?_)
  refine lv_aload_n C.1 C.2.1 dX13_init_400 rfl (lv_at hl 0 rfl) ?_
  refine lv_bipush (v := 28) C.1 C.2.1 dX13_init_401 (by decide) ?_
  refine s_arrI (N := 28) C w rfl (by decide) ⟨Nat.le_of_ble_eq_true rfl, Nat.le_of_ble_eq_true rfl⟩ dX13_init_403 (fun q3 H w => ?_)
  refine bM_wordsA (ws := _ :: _) C w (fun H locs w => ?_)
  rw [List.cons_append] at w
  refine s_put (k := 2) C hin hfs w fM128 pfM_2 (by decide) rfl rfl dX13_init_585 (fun H locs hfs w => ?_)
  refine lv_aload_n C.1 C.2.1 dX13_init_588 rfl (lv_at hl 0 rfl) ?_
  refine lv_bipush (v := 28) C.1 C.2.1 dX13_init_589 (by decide) ?_
  refine s_arrI (N := 28) C w rfl (by decide) ⟨Nat.le_of_ble_eq_true rfl, Nat.le_of_ble_eq_true rfl⟩ dX13_init_591 (fun q4 H w => ?_)
  refine bM_wordsB (ws := _ :: _) C w (fun H locs w => ?_)
  rw [List.cons_append] at w
  refine s_put (k := 3) C hin hfs w fM132 pfM_3 (by decide) rfl rfl dX13_init_762 (fun H locs hfs w => ?_)
  refine lv_aload_n C.1 C.2.1 dX13_init_765 rfl (lv_at hl 0 rfl) ?_
  refine lv_sipush (v := 3000) C.1 C.2.1 dX13_init_766 (by decide) ?_
  refine s_newI (N := 3000) (k := 4) C hin hfs w rfl (by decide) ⟨Nat.le_of_ble_eq_true rfl, Nat.le_of_ble_eq_true rfl⟩ fM135 pfM_4 (by decide) dX13_init_769 dX13_init_771 (fun q5 H locs hfs w => ?_)
  refine lv_aload_n C.1 C.2.1 dX13_init_774 rfl (lv_at hl 0 rfl) ?_
  refine lv_sipush (v := 180) C.1 C.2.1 dX13_init_775 (by decide) ?_
  refine s_newI (N := 180) (k := 6) C hin hfs w rfl (by decide) ⟨Nat.le_of_ble_eq_true rfl, Nat.le_of_ble_eq_true rfl⟩ fM138 pfM_6 (by decide) dX13_init_778 dX13_init_780 (fun q6 H locs hfs w => ?_)
  refine lv_aload_n C.1 C.2.1 dX13_init_783 rfl (lv_at hl 0 rfl) ?_
  refine lv_sipush (v := 180) C.1 C.2.1 dX13_init_784 (by decide) ?_
  refine s_newI (N := 180) (k := 7) C hin hfs w rfl (by decide) ⟨Nat.le_of_ble_eq_true rfl, Nat.le_of_ble_eq_true rfl⟩ fM141 pfM_7 (by decide) dX13_init_787 dX13_init_789 (fun q7 H locs hfs w => ?_)
  refine lv_aload_n C.1 C.2.1 dX13_init_792 rfl (lv_at hl 0 rfl) ?_
  refine lv_sipush (v := 1800) C.1 C.2.1 dX13_init_793 (by decide) ?_
  refine s_newI (N := 1800) (k := 8) C hin hfs w rfl (by decide) ⟨Nat.le_of_ble_eq_true rfl, Nat.le_of_ble_eq_true rfl⟩ fM144 pfM_8 (by decide) dX13_init_796 dX13_init_798 (fun q8 H locs hfs w => ?_)
  refine lv_aload_n C.1 C.2.1 dX13_init_801 rfl (lv_at hl 0 rfl) ?_
  refine lv_sipush (v := 1800) C.1 C.2.1 dX13_init_802 (by decide) ?_
  refine s_newI (N := 1800) (k := 9) C hin hfs w rfl (by decide) ⟨Nat.le_of_ble_eq_true rfl, Nat.le_of_ble_eq_true rfl⟩ fM147 pfM_9 (by decide) dX13_init_805 dX13_init_807 (fun q9 H locs hfs w => ?_)
  refine lv_aload_n C.1 C.2.1 dX13_init_810 rfl (lv_at hl 0 rfl) ?_
  refine lv_sipush (v := 1800) C.1 C.2.1 dX13_init_811 (by decide) ?_
  refine s_newJ (N := 1800) (k := 10) C hin hfs w rfl (by decide) ⟨Nat.le_of_ble_eq_true rfl, Nat.le_of_ble_eq_true rfl⟩ fM150 pfM_10 (by decide) dX13_init_814 dX13_init_816 (fun q10 H locs hfs w => ?_)
  refine lv_aload_n C.1 C.2.1 dX13_init_819 rfl (lv_at hl 0 rfl) ?_
  refine lv_iconst (v := 3) C.1 C.2.1 dX13_init_820 (by decide) ?_
  refine s_newI (N := 3) (k := 11) C hin hfs w rfl (by decide) ⟨Nat.le_of_ble_eq_true rfl, Nat.le_of_ble_eq_true rfl⟩ fM153 pfM_11 (by decide) dX13_init_821 dX13_init_823 (fun q11 H locs hfs w => ?_)
  refine lv_aload_n C.1 C.2.1 dX13_init_826 rfl (lv_at hl 0 rfl) ?_
  refine lv_sipush (v := 6000) C.1 C.2.1 dX13_init_827 (by decide) ?_
  refine s_newI (N := 6000) (k := 13) C hin hfs w rfl (by decide) ⟨Nat.le_of_ble_eq_true rfl, Nat.le_of_ble_eq_true rfl⟩ fM156 pfM_13 (by decide) dX13_init_830 dX13_init_832 (fun q12 H locs hfs w => ?_)
  refine lv_aload_n C.1 C.2.1 dX13_init_835 rfl (lv_at hl 0 rfl) ?_
  refine lv_bipush (v := 48) C.1 C.2.1 dX13_init_836 (by decide) ?_
  refine s_newI (N := 48) (k := 14) C hin hfs w rfl (by decide) ⟨Nat.le_of_ble_eq_true rfl, Nat.le_of_ble_eq_true rfl⟩ fM159 pfM_14 (by decide) dX13_init_838 dX13_init_840 (fun q13 H locs hfs w => ?_)
  refine lv_aload_n C.1 C.2.1 dX13_init_843 rfl (lv_at hl 0 rfl) ?_
  refine lv_bipush (v := 48) C.1 C.2.1 dX13_init_844 (by decide) ?_
  refine s_newI (N := 48) (k := 15) C hin hfs w rfl (by decide) ⟨Nat.le_of_ble_eq_true rfl, Nat.le_of_ble_eq_true rfl⟩ fM162 pfM_15 (by decide) dX13_init_846 dX13_init_848 (fun q14 H locs hfs w => ?_)
  refine lv_aload_n C.1 C.2.1 dX13_init_851 rfl (lv_at hl 0 rfl) ?_
  refine lv_iconst (v := 2) C.1 C.2.1 dX13_init_852 (by decide) ?_
  refine s_newI (N := 2) (k := 16) C hin hfs w rfl (by decide) ⟨Nat.le_of_ble_eq_true rfl, Nat.le_of_ble_eq_true rfl⟩ fM165 pfM_16 (by decide) dX13_init_853 dX13_init_855 (fun q15 H locs hfs w => ?_)
  refine lv_aload_n C.1 C.2.1 dX13_init_858 rfl (lv_at hl 0 rfl) ?_
  refine lv_bipush (v := 24) C.1 C.2.1 dX13_init_859 (by decide) ?_
  refine s_newI (N := 24) (k := 17) C hin hfs w rfl (by decide) ⟨Nat.le_of_ble_eq_true rfl, Nat.le_of_ble_eq_true rfl⟩ fM168 pfM_17 (by decide) dX13_init_861 dX13_init_863 (fun q16 H locs hfs w => ?_)
  refine lv_aload_n C.1 C.2.1 dX13_init_866 rfl (lv_at hl 0 rfl) ?_
  refine lv_sipush (v := 401) C.1 C.2.1 dX13_init_867 (by decide) ?_
  refine s_newI (N := 401) (k := 25) C hin hfs w rfl (by decide) ⟨Nat.le_of_ble_eq_true rfl, Nat.le_of_ble_eq_true rfl⟩ fM171 pfM_25 (by decide) dX13_init_870 dX13_init_872 (fun q17 H locs hfs w => ?_)
  refine lv_aload_n C.1 C.2.1 dX13_init_875 rfl (lv_at hl 0 rfl) ?_
  refine lv_bipush (v := 61) C.1 C.2.1 dX13_init_876 (by decide) ?_
  refine s_newI (N := 61) (k := 31) C hin hfs w rfl (by decide) ⟨Nat.le_of_ble_eq_true rfl, Nat.le_of_ble_eq_true rfl⟩ fM174 pfM_31 (by decide) dX13_init_878 dX13_init_880 (fun q18 H locs hfs w => ?_)
  refine lv_aload_n C.1 C.2.1 dX13_init_883 rfl (lv_at hl 0 rfl) ?_
  refine lv_bipush (v := 61) C.1 C.2.1 dX13_init_884 (by decide) ?_
  refine s_newI (N := 61) (k := 32) C hin hfs w rfl (by decide) ⟨Nat.le_of_ble_eq_true rfl, Nat.le_of_ble_eq_true rfl⟩ fM177 pfM_32 (by decide) dX13_init_886 dX13_init_888 (fun q19 H locs hfs w => ?_)
  refine lv_aload_n C.1 C.2.1 dX13_init_891 rfl (lv_at hl 0 rfl) ?_
  refine lv_bipush (v := 61) C.1 C.2.1 dX13_init_892 (by decide) ?_
  refine s_newI (N := 61) (k := 33) C hin hfs w rfl (by decide) ⟨Nat.le_of_ble_eq_true rfl, Nat.le_of_ble_eq_true rfl⟩ fM180 pfM_33 (by decide) dX13_init_894 dX13_init_896 (fun q20 H locs hfs w => ?_)
  refine lv_aload_n C.1 C.2.1 dX13_init_899 rfl (lv_at hl 0 rfl) ?_
  refine lv_bipush (v := 61) C.1 C.2.1 dX13_init_900 (by decide) ?_
  refine s_newI (N := 61) (k := 34) C hin hfs w rfl (by decide) ⟨Nat.le_of_ble_eq_true rfl, Nat.le_of_ble_eq_true rfl⟩ fM183 pfM_34 (by decide) dX13_init_902 dX13_init_904 (fun q21 H locs hfs w => ?_)
  refine lv_aload_n C.1 C.2.1 dX13_init_907 rfl (lv_at hl 0 rfl) ?_
  refine lv_ldc C.1 C.2.1 C.2.2.2.1 (C.2.2.2.2 _ ncM_186) dX13_init_908 ?_
  refine s_newI (N := 34000) (k := 35) C hin hfs w rfl (by decide) ⟨Nat.le_of_ble_eq_true rfl, Nat.le_of_ble_eq_true rfl⟩ fM187 pfM_35 (by decide) dX13_init_910 dX13_init_912 (fun q22 H locs hfs w => ?_)
  refine lv_aload_n C.1 C.2.1 dX13_init_915 rfl (lv_at hl 0 rfl) ?_
  refine lv_sipush (v := 1700) C.1 C.2.1 dX13_init_916 (by decide) ?_
  refine s_newI (N := 1700) (k := 36) C hin hfs w rfl (by decide) ⟨Nat.le_of_ble_eq_true rfl, Nat.le_of_ble_eq_true rfl⟩ fM190 pfM_36 (by decide) dX13_init_919 dX13_init_921 (fun q23 H locs hfs w => ?_)
  refine lv_aload_n C.1 C.2.1 dX13_init_924 rfl (lv_at hl 0 rfl) ?_
  refine lv_sipush (v := 1700) C.1 C.2.1 dX13_init_925 (by decide) ?_
  refine s_newI (N := 1700) (k := 37) C hin hfs w rfl (by decide) ⟨Nat.le_of_ble_eq_true rfl, Nat.le_of_ble_eq_true rfl⟩ fM193 pfM_37 (by decide) dX13_init_928 dX13_init_930 (fun q24 H locs hfs w => ?_)
  refine lv_aload_n C.1 C.2.1 dX13_init_933 rfl (lv_at hl 0 rfl) ?_
  refine lv_bipush (v := 90) C.1 C.2.1 dX13_init_934 (by decide) ?_
  refine s_newI (N := 90) (k := 40) C hin hfs w rfl (by decide) ⟨Nat.le_of_ble_eq_true rfl, Nat.le_of_ble_eq_true rfl⟩ fM196 pfM_40 (by decide) dX13_init_936 dX13_init_938 (fun q25 H locs hfs w => ?_)
  refine lv_aload_n C.1 C.2.1 dX13_init_941 rfl (lv_at hl 0 rfl) ?_
  refine lv_bipush (v := 20) C.1 C.2.1 dX13_init_942 (by decide) ?_
  refine s_newI (N := 20) (k := 42) C hin hfs w rfl (by decide) ⟨Nat.le_of_ble_eq_true rfl, Nat.le_of_ble_eq_true rfl⟩ fM199 pfM_42 (by decide) dX13_init_944 dX13_init_946 (fun q26 H locs hfs w => ?_)
  refine lv_aload_n C.1 C.2.1 dX13_init_949 rfl (lv_at hl 0 rfl) ?_
  refine lv_bipush (v := 24) C.1 C.2.1 dX13_init_950 (by decide) ?_
  refine s_newI (N := 24) (k := 43) C hin hfs w rfl (by decide) ⟨Nat.le_of_ble_eq_true rfl, Nat.le_of_ble_eq_true rfl⟩ fM202 pfM_43 (by decide) dX13_init_952 dX13_init_954 (fun q27 H locs hfs w => ?_)
  refine lv_aload_n C.1 C.2.1 dX13_init_957 rfl (lv_at hl 0 rfl) ?_
  refine lv_bipush (v := 6) C.1 C.2.1 dX13_init_958 (by decide) ?_
  refine s_newI (N := 6) (k := 44) C hin hfs w rfl (by decide) ⟨Nat.le_of_ble_eq_true rfl, Nat.le_of_ble_eq_true rfl⟩ fM205 pfM_44 (by decide) dX13_init_960 dX13_init_962 (fun q28 H locs hfs w => ?_)
  refine lv_aload_n C.1 C.2.1 dX13_init_965 rfl (lv_at hl 0 rfl) ?_
  refine lv_bipush (v := 6) C.1 C.2.1 dX13_init_966 (by decide) ?_
  refine s_newI (N := 6) (k := 45) C hin hfs w rfl (by decide) ⟨Nat.le_of_ble_eq_true rfl, Nat.le_of_ble_eq_true rfl⟩ fM208 pfM_45 (by decide) dX13_init_968 dX13_init_970 (fun q29 H locs hfs w => ?_)
  refine lv_aload_n C.1 C.2.1 dX13_init_973 rfl (lv_at hl 0 rfl) ?_
  refine lv_sipush (v := 2400) C.1 C.2.1 dX13_init_974 (by decide) ?_
  refine s_newI (N := 2400) (k := 46) C hin hfs w rfl (by decide) ⟨Nat.le_of_ble_eq_true rfl, Nat.le_of_ble_eq_true rfl⟩ fM211 pfM_46 (by decide) dX13_init_977 dX13_init_979 (fun q30 H locs hfs w => ?_)
  refine lv_aload_n C.1 C.2.1 dX13_init_982 rfl (lv_at hl 0 rfl) ?_
  refine lv_bipush (v := 56) C.1 C.2.1 dX13_init_983 (by decide) ?_
  refine s_newI (N := 56) (k := 47) C hin hfs w rfl (by decide) ⟨Nat.le_of_ble_eq_true rfl, Nat.le_of_ble_eq_true rfl⟩ fM214 pfM_47 (by decide) dX13_init_985 dX13_init_987 (fun q31 H locs hfs w => ?_)
  refine lv_aload_n C.1 C.2.1 dX13_init_990 rfl (lv_at hl 0 rfl) ?_
  refine lv_bipush (v := 12) C.1 C.2.1 dX13_init_991 (by decide) ?_
  refine s_newJ (N := 12) (k := 48) C hin hfs w rfl (by decide) ⟨Nat.le_of_ble_eq_true rfl, Nat.le_of_ble_eq_true rfl⟩ fM217 pfM_48 (by decide) dX13_init_993 dX13_init_995 (fun q32 H locs hfs w => ?_)
  refine lv_aload_n C.1 C.2.1 dX13_init_998 rfl (lv_at hl 0 rfl) ?_
  refine lv_bipush (v := 30) C.1 C.2.1 dX13_init_999 (by decide) ?_
  refine s_newJ (N := 30) (k := 49) C hin hfs w rfl (by decide) ⟨Nat.le_of_ble_eq_true rfl, Nat.le_of_ble_eq_true rfl⟩ fM220 pfM_49 (by decide) dX13_init_1001 dX13_init_1003 (fun q33 H locs hfs w => ?_)
  refine lv_aload_n C.1 C.2.1 dX13_init_1006 rfl (lv_at hl 0 rfl) ?_
  refine lv_sipush (v := 600) C.1 C.2.1 dX13_init_1007 (by decide) ?_
  refine s_newI (N := 600) (k := 56) C hin hfs w rfl (by decide) ⟨Nat.le_of_ble_eq_true rfl, Nat.le_of_ble_eq_true rfl⟩ fM223 pfM_56 (by decide) dX13_init_1010 dX13_init_1012 (fun q34 H locs hfs w => ?_)
  refine lv_aload_n C.1 C.2.1 dX13_init_1015 rfl (lv_at hl 0 rfl) ?_
  refine lv_bipush (v := 61) C.1 C.2.1 dX13_init_1016 (by decide) ?_
  refine s_newI (N := 61) (k := 59) C hin hfs w rfl (by decide) ⟨Nat.le_of_ble_eq_true rfl, Nat.le_of_ble_eq_true rfl⟩ fM226 pfM_59 (by decide) dX13_init_1018 dX13_init_1020 (fun q35 H locs hfs w => ?_)
  refine lv_aload_n C.1 C.2.1 dX13_init_1023 rfl (lv_at hl 0 rfl) ?_
  refine lv_bipush (v := 61) C.1 C.2.1 dX13_init_1024 (by decide) ?_
  refine s_newI (N := 61) (k := 60) C hin hfs w rfl (by decide) ⟨Nat.le_of_ble_eq_true rfl, Nat.le_of_ble_eq_true rfl⟩ fM229 pfM_60 (by decide) dX13_init_1026 dX13_init_1028 (fun q36 H locs hfs w => ?_)
  refine lv_aload_n C.1 C.2.1 dX13_init_1031 rfl (lv_at hl 0 rfl) ?_
  refine lv_bipush (v := 66) C.1 C.2.1 dX13_init_1032 (by decide) ?_
  refine s_newI (N := 66) (k := 62) C hin hfs w rfl (by decide) ⟨Nat.le_of_ble_eq_true rfl, Nat.le_of_ble_eq_true rfl⟩ fM232 pfM_62 (by decide) dX13_init_1034 dX13_init_1036 (fun q37 H locs hfs w => ?_)
  refine lv_aload_n C.1 C.2.1 dX13_init_1039 rfl (lv_at hl 0 rfl) ?_
  refine lv_sipush (v := 402) C.1 C.2.1 dX13_init_1040 (by decide) ?_
  refine s_newI (N := 402) (k := 63) C hin hfs w rfl (by decide) ⟨Nat.le_of_ble_eq_true rfl, Nat.le_of_ble_eq_true rfl⟩ fM235 pfM_63 (by decide) dX13_init_1043 dX13_init_1045 (fun q38 H locs hfs w => ?_)
  refine lv_aload_n C.1 C.2.1 dX13_init_1048 rfl (lv_at hl 0 rfl) ?_
  refine lv_sipush (v := 402) C.1 C.2.1 dX13_init_1049 (by decide) ?_
  refine s_newI (N := 402) (k := 64) C hin hfs w rfl (by decide) ⟨Nat.le_of_ble_eq_true rfl, Nat.le_of_ble_eq_true rfl⟩ fM238 pfM_64 (by decide) dX13_init_1052 dX13_init_1054 (fun q39 H locs hfs w => ?_)
  refine lv_aload_n C.1 C.2.1 dX13_init_1057 rfl (lv_at hl 0 rfl) ?_
  refine lv_sipush (v := 6500) C.1 C.2.1 dX13_init_1058 (by decide) ?_
  refine s_newI (N := 6500) (k := 66) C hin hfs w rfl (by decide) ⟨Nat.le_of_ble_eq_true rfl, Nat.le_of_ble_eq_true rfl⟩ fM241 pfM_66 (by decide) dX13_init_1061 dX13_init_1063 (fun q40 H locs hfs w => ?_)
  refine lv_aload_n C.1 C.2.1 dX13_init_1066 rfl (lv_at hl 0 rfl) ?_
  refine lv_iconst (v := 0) C.1 C.2.1 dX13_init_1067 (by decide) ?_
  rw [endM T h0 q1 q2 q3 q4 q5 q6 q7 q8 q9 q10 q11 q12 q13 q14 q15 q16 q17 q18 q19 q20 q21 q22 q23 q24 q25 q26 q27 q28 q29 q30 q31 q32 q33 q34 q35 q36 q37 q38 q39 q40] at w
  have w : Wn Ym D T (roM h0 [q1, q2, q3, q4, q5, q6, q7, q8, q9, q10, q11, q12, q13, q14, q15, q16, q17, q18, q19, q20, q21, q22, q23, q24, q25, q26, q27, q28, q29, q30, q31, q32, q33, q34, q35, q36, q37, q38, q39, q40]) SM0 (va_A [(h0, .inr (10, fsM))] sz) s H locs := w
  refine x_callVv (q := (RX13, TX13, 68)) (o := 0) (As := [.int 0]) (rest := []) C w (k_begin l D T (roM h0 [q1, q2, q3, q4, q5, q6, q7, q8, q9, q10, q11, q12, q13, q14, q15, q16, q17, q18, q19, q20, q21, q22, q23, q24, q25, q26, q27, q28, q29, q30, q31, q32, q33, q34, q35, q36, q37, q38, q39, q40]) g H.size SM0 h) vM244 ⟨by decide, by decide⟩ ⟨by decide, rfl⟩ (by decide) rfl rfl rfl hl.1 (Nat.le_of_ble_eq_true rfl) ⟨Nat.le_of_ble_eq_true rfl, Nat.le_of_ble_eq_true rfl⟩ dX13_init_1068 (fun H locs w => ?_)
  exact W.widen (Nat.le_of_ble_eq_true rfl) (Nat.le_of_ble_eq_true rfl) (W.vret C.1 C.2.1 hr (fun t ht hW => ⟨⟨fun c => [q1, q2, q3, q4, q5, q6, q7, q8, q9, q10, q11, q12, q13, q14, q15, q16, q17, q18, q19, q20, q21, q22, q23, q24, q25, q26, q27, q28, q29, q30, q31, q32, q33, q34, q35, q36, q37, q38, q39, q40].getD (c - 1) 0, rfl, trivial, by rw [ht]; exact w.2.1, va_K.moved hW.alike w.1, w.2.2.1⟩, w.2.2.2.1.F ht⟩) w.2.2.2.1.2.2 dX13_init_1071 hk)
