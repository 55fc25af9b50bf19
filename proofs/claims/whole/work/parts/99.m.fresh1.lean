theorem d_law_927 : decode code 927 = .ok (.aload_n 1, 1) := by decide +kernel
theorem d_law_928 : decode code 928 = .ok (.aload_n 0, 1) := by decide +kernel
theorem d_law_929 : decode code 929 = .ok (.iload 4, 2) := by decide +kernel
theorem d_law_931 : decode code 931 = .ok (.iconst 1, 1) := by decide +kernel
theorem d_law_932 : decode code 932 = .ok (.iadd, 1) := by decide +kernel
theorem d_law_933 : decode code 933 = .ok (.iaload, 1) := by decide +kernel
theorem d_law_934 : decode code 934 = .ok (.aload_n 0, 1) := by decide +kernel
theorem d_law_935 : decode code 935 = .ok (.iload 4, 2) := by decide +kernel
theorem d_law_937 : decode code 937 = .ok (.iconst 2, 1) := by decide +kernel
theorem d_law_938 : decode code 938 = .ok (.iadd, 1) := by decide +kernel
theorem d_law_939 : decode code 939 = .ok (.iaload, 1) := by decide +kernel
theorem d_law_940 : decode code 940 = .ok (.ifCond .eq 7, 3) := by decide +kernel
theorem d_law_943 : decode code 943 = .ok (.iconst 1, 1) := by decide +kernel
theorem d_law_944 : decode code 944 = .ok (.goto 4, 3) := by decide +kernel
theorem d_law_947 : decode code 947 = .ok (.iconst 0, 1) := by decide +kernel
theorem d_law_948 : decode code 948 = .ok (.aload_n 0, 1) := by decide +kernel
theorem d_law_949 : decode code 949 = .ok (.iload 4, 2) := by decide +kernel
theorem d_law_951 : decode code 951 = .ok (.iconst 3, 1) := by decide +kernel
theorem d_law_952 : decode code 952 = .ok (.iadd, 1) := by decide +kernel
theorem d_law_953 : decode code 953 = .ok (.iaload, 1) := by decide +kernel
theorem d_law_954 : decode code 954 = .ok (.i2l, 1) := by decide +kernel
theorem d_law_955 : decode code 955 = .ok (.bipush 32, 2) := by decide +kernel
theorem d_law_957 : decode code 957 = .ok (.lshl, 1) := by decide +kernel
theorem d_law_958 : decode code 958 = .ok (.aload_n 0, 1) := by decide +kernel
theorem d_law_959 : decode code 959 = .ok (.iload 4, 2) := by decide +kernel
theorem d_law_961 : decode code 961 = .ok (.iconst 4, 1) := by decide +kernel
theorem d_law_962 : decode code 962 = .ok (.iadd, 1) := by decide +kernel
theorem d_law_963 : decode code 963 = .ok (.iaload, 1) := by decide +kernel
theorem d_law_964 : decode code 964 = .ok (.i2l, 1) := by decide +kernel
theorem d_law_965 : decode code 965 = .ok (.ldc2_w 70, 3) := by decide +kernel
theorem d_law_968 : decode code 968 = .ok (.land, 1) := by decide +kernel
theorem d_law_969 : decode code 969 = .ok (.lor, 1) := by decide +kernel
theorem d_law_970 : decode code 970 = .ok (.aload_n 0, 1) := by decide +kernel
theorem d_law_971 : decode code 971 = .ok (.iload 4, 2) := by decide +kernel
theorem d_law_973 : decode code 973 = .ok (.iconst 5, 1) := by decide +kernel
theorem d_law_974 : decode code 974 = .ok (.iadd, 1) := by decide +kernel
theorem d_law_975 : decode code 975 = .ok (.iaload, 1) := by decide +kernel
theorem d_law_976 : decode code 976 = .ok (.i2l, 1) := by decide +kernel
theorem d_law_977 : decode code 977 = .ok (.bipush 32, 2) := by decide +kernel
theorem d_law_979 : decode code 979 = .ok (.lshl, 1) := by decide +kernel
theorem d_law_980 : decode code 980 = .ok (.aload_n 0, 1) := by decide +kernel
theorem d_law_981 : decode code 981 = .ok (.iload 4, 2) := by decide +kernel
theorem d_law_983 : decode code 983 = .ok (.bipush 6, 2) := by decide +kernel
theorem d_law_985 : decode code 985 = .ok (.iadd, 1) := by decide +kernel
theorem d_law_986 : decode code 986 = .ok (.iaload, 1) := by decide +kernel
theorem d_law_987 : decode code 987 = .ok (.i2l, 1) := by decide +kernel
theorem d_law_988 : decode code 988 = .ok (.ldc2_w 70, 3) := by decide +kernel
theorem d_law_991 : decode code 991 = .ok (.land, 1) := by decide +kernel
theorem d_law_992 : decode code 992 = .ok (.lor, 1) := by decide +kernel
theorem d_law_993 : decode code 993 = .ok (.aload_n 0, 1) := by decide +kernel
theorem d_law_994 : decode code 994 = .ok (.iload 4, 2) := by decide +kernel
theorem d_law_996 : decode code 996 = .ok (.bipush 7, 2) := by decide +kernel
theorem d_law_998 : decode code 998 = .ok (.iadd, 1) := by decide +kernel
theorem d_law_999 : decode code 999 = .ok (.iaload, 1) := by decide +kernel
theorem d_law_1000 : decode code 1000 = .ok (.i2l, 1) := by decide +kernel
theorem d_law_1001 : decode code 1001 = .ok (.bipush 32, 2) := by decide +kernel
theorem d_law_1003 : decode code 1003 = .ok (.lshl, 1) := by decide +kernel
theorem d_law_1004 : decode code 1004 = .ok (.aload_n 0, 1) := by decide +kernel
theorem d_law_1005 : decode code 1005 = .ok (.iload 4, 2) := by decide +kernel
theorem d_law_1007 : decode code 1007 = .ok (.bipush 8, 2) := by decide +kernel
theorem d_law_1009 : decode code 1009 = .ok (.iadd, 1) := by decide +kernel
theorem d_law_1010 : decode code 1010 = .ok (.iaload, 1) := by decide +kernel
theorem d_law_1011 : decode code 1011 = .ok (.i2l, 1) := by decide +kernel
theorem d_law_1012 : decode code 1012 = .ok (.ldc2_w 70, 3) := by decide +kernel
theorem d_law_1015 : decode code 1015 = .ok (.land, 1) := by decide +kernel
theorem d_law_1016 : decode code 1016 = .ok (.lor, 1) := by decide +kernel
theorem d_law_1017 : decode code 1017 = .ok (.aload_n 0, 1) := by decide +kernel
theorem d_law_1018 : decode code 1018 = .ok (.iload 4, 2) := by decide +kernel
theorem d_law_1020 : decode code 1020 = .ok (.bipush 9, 2) := by decide +kernel
theorem d_law_1022 : decode code 1022 = .ok (.iadd, 1) := by decide +kernel
theorem d_law_1023 : decode code 1023 = .ok (.iaload, 1) := by decide +kernel
theorem d_law_1024 : decode code 1024 = .ok (.i2l, 1) := by decide +kernel
theorem d_law_1025 : decode code 1025 = .ok (.bipush 32, 2) := by decide +kernel
theorem d_law_1027 : decode code 1027 = .ok (.lshl, 1) := by decide +kernel
theorem d_law_1028 : decode code 1028 = .ok (.aload_n 0, 1) := by decide +kernel
theorem d_law_1029 : decode code 1029 = .ok (.iload 4, 2) := by decide +kernel
theorem d_law_1031 : decode code 1031 = .ok (.bipush 10, 2) := by decide +kernel
theorem d_law_1033 : decode code 1033 = .ok (.iadd, 1) := by decide +kernel
theorem d_law_1034 : decode code 1034 = .ok (.iaload, 1) := by decide +kernel
theorem d_law_1035 : decode code 1035 = .ok (.i2l, 1) := by decide +kernel
theorem d_law_1036 : decode code 1036 = .ok (.ldc2_w 70, 3) := by decide +kernel
theorem d_law_1039 : decode code 1039 = .ok (.land, 1) := by decide +kernel
theorem d_law_1040 : decode code 1040 = .ok (.lor, 1) := by decide +kernel
theorem d_law_1041 : decode code 1041 = .ok (.aload_n 3, 1) := by decide +kernel
theorem d_law_1042 : decode code 1042 = .ok (.invokestatic 93, 3) := by decide +kernel
theorem d_law_1045 : decode code 1045 = .ok (.istore 5, 2) := by decide +kernel
theorem d_law_1047 : decode code 1047 = .ok (.aload_n 2, 1) := by decide +kernel
theorem d_law_1048 : decode code 1048 = .ok (.aload_n 0, 1) := by decide +kernel
theorem d_law_1049 : decode code 1049 = .ok (.iload 4, 2) := by decide +kernel
theorem d_law_1051 : decode code 1051 = .ok (.iconst 1, 1) := by decide +kernel
theorem d_law_1052 : decode code 1052 = .ok (.iadd, 1) := by decide +kernel
theorem d_law_1053 : decode code 1053 = .ok (.iaload, 1) := by decide +kernel
theorem d_law_1054 : decode code 1054 = .ok (.aload_n 0, 1) := by decide +kernel
theorem d_law_1055 : decode code 1055 = .ok (.iload 4, 2) := by decide +kernel
theorem d_law_1057 : decode code 1057 = .ok (.iconst 2, 1) := by decide +kernel
theorem d_law_1058 : decode code 1058 = .ok (.iadd, 1) := by decide +kernel
theorem d_law_1059 : decode code 1059 = .ok (.iaload, 1) := by decide +kernel
theorem d_law_1060 : decode code 1060 = .ok (.ifCond .eq 7, 3) := by decide +kernel
theorem d_law_1063 : decode code 1063 = .ok (.iconst 1, 1) := by decide +kernel
theorem d_law_1064 : decode code 1064 = .ok (.goto 4, 3) := by decide +kernel
theorem d_law_1067 : decode code 1067 = .ok (.iconst 0, 1) := by decide +kernel
theorem d_law_1068 : decode code 1068 = .ok (.aload_n 0, 1) := by decide +kernel
theorem d_law_1069 : decode code 1069 = .ok (.iload 4, 2) := by decide +kernel
theorem d_law_1071 : decode code 1071 = .ok (.iconst 3, 1) := by decide +kernel
theorem d_law_1072 : decode code 1072 = .ok (.iadd, 1) := by decide +kernel
theorem d_law_1073 : decode code 1073 = .ok (.iaload, 1) := by decide +kernel
theorem d_law_1074 : decode code 1074 = .ok (.i2l, 1) := by decide +kernel
theorem d_law_1075 : decode code 1075 = .ok (.bipush 32, 2) := by decide +kernel
theorem d_law_1077 : decode code 1077 = .ok (.lshl, 1) := by decide +kernel
theorem d_law_1078 : decode code 1078 = .ok (.aload_n 0, 1) := by decide +kernel
theorem d_law_1079 : decode code 1079 = .ok (.iload 4, 2) := by decide +kernel
theorem d_law_1081 : decode code 1081 = .ok (.iconst 4, 1) := by decide +kernel
theorem d_law_1082 : decode code 1082 = .ok (.iadd, 1) := by decide +kernel
theorem d_law_1083 : decode code 1083 = .ok (.iaload, 1) := by decide +kernel
theorem d_law_1084 : decode code 1084 = .ok (.i2l, 1) := by decide +kernel
theorem d_law_1085 : decode code 1085 = .ok (.ldc2_w 70, 3) := by decide +kernel
theorem d_law_1088 : decode code 1088 = .ok (.land, 1) := by decide +kernel
theorem d_law_1089 : decode code 1089 = .ok (.lor, 1) := by decide +kernel
theorem d_law_1090 : decode code 1090 = .ok (.aload_n 0, 1) := by decide +kernel
theorem d_law_1091 : decode code 1091 = .ok (.iload 4, 2) := by decide +kernel
theorem d_law_1093 : decode code 1093 = .ok (.iconst 5, 1) := by decide +kernel
theorem d_law_1094 : decode code 1094 = .ok (.iadd, 1) := by decide +kernel
theorem d_law_1095 : decode code 1095 = .ok (.iaload, 1) := by decide +kernel
theorem d_law_1096 : decode code 1096 = .ok (.i2l, 1) := by decide +kernel
theorem d_law_1097 : decode code 1097 = .ok (.bipush 32, 2) := by decide +kernel
theorem d_law_1099 : decode code 1099 = .ok (.lshl, 1) := by decide +kernel
theorem d_law_1100 : decode code 1100 = .ok (.aload_n 0, 1) := by decide +kernel
theorem d_law_1101 : decode code 1101 = .ok (.iload 4, 2) := by decide +kernel
theorem d_law_1103 : decode code 1103 = .ok (.bipush 6, 2) := by decide +kernel
theorem d_law_1105 : decode code 1105 = .ok (.iadd, 1) := by decide +kernel
theorem d_law_1106 : decode code 1106 = .ok (.iaload, 1) := by decide +kernel
theorem d_law_1107 : decode code 1107 = .ok (.i2l, 1) := by decide +kernel
theorem d_law_1108 : decode code 1108 = .ok (.ldc2_w 70, 3) := by decide +kernel
theorem d_law_1111 : decode code 1111 = .ok (.land, 1) := by decide +kernel
theorem d_law_1112 : decode code 1112 = .ok (.lor, 1) := by decide +kernel
theorem d_law_1113 : decode code 1113 = .ok (.aload_n 0, 1) := by decide +kernel
theorem d_law_1114 : decode code 1114 = .ok (.iload 4, 2) := by decide +kernel
theorem d_law_1116 : decode code 1116 = .ok (.bipush 7, 2) := by decide +kernel
theorem d_law_1118 : decode code 1118 = .ok (.iadd, 1) := by decide +kernel
theorem d_law_1119 : decode code 1119 = .ok (.iaload, 1) := by decide +kernel
theorem d_law_1120 : decode code 1120 = .ok (.i2l, 1) := by decide +kernel
theorem d_law_1121 : decode code 1121 = .ok (.bipush 32, 2) := by decide +kernel
theorem d_law_1123 : decode code 1123 = .ok (.lshl, 1) := by decide +kernel
theorem d_law_1124 : decode code 1124 = .ok (.aload_n 0, 1) := by decide +kernel
theorem d_law_1125 : decode code 1125 = .ok (.iload 4, 2) := by decide +kernel
theorem d_law_1127 : decode code 1127 = .ok (.bipush 8, 2) := by decide +kernel
theorem d_law_1129 : decode code 1129 = .ok (.iadd, 1) := by decide +kernel
theorem d_law_1130 : decode code 1130 = .ok (.iaload, 1) := by decide +kernel
theorem d_law_1131 : decode code 1131 = .ok (.i2l, 1) := by decide +kernel
theorem d_law_1132 : decode code 1132 = .ok (.ldc2_w 70, 3) := by decide +kernel
theorem d_law_1135 : decode code 1135 = .ok (.land, 1) := by decide +kernel
theorem d_law_1136 : decode code 1136 = .ok (.lor, 1) := by decide +kernel
theorem d_law_1137 : decode code 1137 = .ok (.aload_n 0, 1) := by decide +kernel
theorem d_law_1138 : decode code 1138 = .ok (.iload 4, 2) := by decide +kernel
theorem d_law_1140 : decode code 1140 = .ok (.bipush 9, 2) := by decide +kernel
theorem d_law_1142 : decode code 1142 = .ok (.iadd, 1) := by decide +kernel
theorem d_law_1143 : decode code 1143 = .ok (.iaload, 1) := by decide +kernel
theorem d_law_1144 : decode code 1144 = .ok (.i2l, 1) := by decide +kernel
theorem d_law_1145 : decode code 1145 = .ok (.bipush 32, 2) := by decide +kernel
theorem d_law_1147 : decode code 1147 = .ok (.lshl, 1) := by decide +kernel
theorem d_law_1148 : decode code 1148 = .ok (.aload_n 0, 1) := by decide +kernel
theorem d_law_1149 : decode code 1149 = .ok (.iload 4, 2) := by decide +kernel
theorem d_law_1151 : decode code 1151 = .ok (.bipush 10, 2) := by decide +kernel
theorem d_law_1153 : decode code 1153 = .ok (.iadd, 1) := by decide +kernel
theorem d_law_1154 : decode code 1154 = .ok (.iaload, 1) := by decide +kernel
theorem d_law_1155 : decode code 1155 = .ok (.i2l, 1) := by decide +kernel
theorem d_law_1156 : decode code 1156 = .ok (.ldc2_w 70, 3) := by decide +kernel
theorem d_law_1159 : decode code 1159 = .ok (.land, 1) := by decide +kernel
theorem d_law_1160 : decode code 1160 = .ok (.lor, 1) := by decide +kernel
theorem d_law_1161 : decode code 1161 = .ok (.invokevirtual 96, 3) := by decide +kernel
theorem d_law_1164 : decode code 1164 = .ok (.istore 6, 2) := by decide +kernel
theorem d_law_1166 : decode code 1166 = .ok (.aload_n 2, 1) := by decide +kernel
theorem d_law_1167 : decode code 1167 = .ok (.invokevirtual 78, 3) := by decide +kernel
theorem d_law_1170 : decode code 1170 = .ok (.iload 5, 2) := by decide +kernel
theorem d_law_1172 : decode code 1172 = .ok (.if_icmp .eq 5, 3) := by decide +kernel
theorem d_law_1175 : decode code 1175 = .ok (.iconst 0, 1) := by decide +kernel
theorem d_law_1176 : decode code 1176 = .ok (.ireturn, 1) := by decide +kernel
theorem d_law_1177 : decode code 1177 = .ok (.iload 5, 2) := by decide +kernel
theorem d_law_1179 : decode code 1179 = .ok (.ifCond .ne 15, 3) := by decide +kernel
theorem d_law_1182 : decode code 1182 = .ok (.aload_n 3, 1) := by decide +kernel
theorem d_law_1183 : decode code 1183 = .ok (.iconst 0, 1) := by decide +kernel
theorem d_law_1184 : decode code 1184 = .ok (.laload, 1) := by decide +kernel
theorem d_law_1185 : decode code 1185 = .ok (.iload 6, 2) := by decide +kernel
theorem d_law_1187 : decode code 1187 = .ok (.i2l, 1) := by decide +kernel
theorem d_law_1188 : decode code 1188 = .ok (.lcmp, 1) := by decide +kernel
theorem d_law_1189 : decode code 1189 = .ok (.ifCond .eq 5, 3) := by decide +kernel
theorem d_law_1192 : decode code 1192 = .ok (.iconst 0, 1) := by decide +kernel
theorem d_law_1193 : decode code 1193 = .ok (.ireturn, 1) := by decide +kernel
theorem d_law_1194 : decode code 1194 = .ok (.goto 771, 3) := by decide +kernel
theorem d_law_1866 : decode code 1866 = .ok (.aload_n 1, 1) := by decide +kernel
theorem d_law_1867 : decode code 1867 = .ok (.aload_n 3, 1) := by decide +kernel
theorem d_law_1868 : decode code 1868 = .ok (.invokestatic 121, 3) := by decide +kernel
theorem d_law_1871 : decode code 1871 = .ok (.istore 5, 2) := by decide +kernel
theorem d_law_1873 : decode code 1873 = .ok (.aload_n 2, 1) := by decide +kernel
theorem d_law_1874 : decode code 1874 = .ok (.invokevirtual 123, 3) := by decide +kernel
theorem d_law_1877 : decode code 1877 = .ok (.istore 6, 2) := by decide +kernel
theorem d_law_1879 : decode code 1879 = .ok (.aload_n 2, 1) := by decide +kernel
theorem d_law_1880 : decode code 1880 = .ok (.invokevirtual 78, 3) := by decide +kernel
theorem d_law_1883 : decode code 1883 = .ok (.iload 5, 2) := by decide +kernel
theorem d_law_1885 : decode code 1885 = .ok (.if_icmp .eq 5, 3) := by decide +kernel
theorem d_law_1888 : decode code 1888 = .ok (.iconst 0, 1) := by decide +kernel
theorem d_law_1889 : decode code 1889 = .ok (.ireturn, 1) := by decide +kernel
theorem d_law_1890 : decode code 1890 = .ok (.iload 5, 2) := by decide +kernel
theorem d_law_1892 : decode code 1892 = .ok (.ifCond .ne 15, 3) := by decide +kernel
theorem d_law_1895 : decode code 1895 = .ok (.aload_n 3, 1) := by decide +kernel
theorem d_law_1896 : decode code 1896 = .ok (.iconst 0, 1) := by decide +kernel
theorem d_law_1897 : decode code 1897 = .ok (.laload, 1) := by decide +kernel
theorem d_law_1898 : decode code 1898 = .ok (.iload 6, 2) := by decide +kernel
theorem d_law_1900 : decode code 1900 = .ok (.i2l, 1) := by decide +kernel
theorem d_law_1901 : decode code 1901 = .ok (.lcmp, 1) := by decide +kernel
theorem d_law_1902 : decode code 1902 = .ok (.ifCond .eq 5, 3) := by decide +kernel
theorem d_law_1905 : decode code 1905 = .ok (.iconst 0, 1) := by decide +kernel
theorem d_law_1906 : decode code 1906 = .ok (.ireturn, 1) := by decide +kernel
theorem d_law_1907 : decode code 1907 = .ok (.goto 58, 3) := by decide +kernel
theorem cntZ : ∀ i, i < 11 → cntC tZ 0 0 0 0 i = 0 := by
  intro i hi
  match i, hi with
  | 0, _ => rfl
  | 1, _ => rfl
  | 2, _ => rfl
  | 3, _ => rfl
  | 4, _ => rfl
  | 5, _ => rfl
  | 6, _ => rfl
  | 7, _ => rfl
  | 8, _ => rfl
  | 9, _ => rfl
  | 10, _ => rfl
  | i + 11, hi => exact absurd hi (by omega)
set_option maxHeartbeats 16000000 in
set_option maxRecDepth 100000 in
theorem bk_key_f {p : Program} {l : Launch} {e : Env} {s : State} {m : MethodId} {below : List Frame} {meth : Method} {c : Code} {b L : Nat} {xs : Nat → Int32} {dC : Nat → ClassId} {dI : Nat → Nat → Nat} {cJ cI cR : ClassId} {A : Nat → Prop} {out b0 m0 : Nat} {rA sA wA : Nat} (C : LC p l s m meth c b L xs dC dI cJ cI cR A rA sA wA) {i cells slots : Nat} (hi : i + 14 ≤ L) (hcs : cells + 20 ≤ 601024 ∧ slots + 200 ≤ 7293034) (cont : LK p l e s m below meth c b dC dI cJ cI cR A out b0 m0 i (cells + 20) (slots + 200) 1965) {H : Heap} {locs : List Loc} {ls : Array Slot} (hS : va_S A s.heap H locs) (hI : LF dC dI cJ cI cR A out b0 m0 H) (hl : lv_has ls 8 [(4, .int (nI i)), (3, .ref out), (2, .ref m0), (1, .ref b0), (0, .ref b)]) : W p l e room_1 s m #[Value.ref b] below meth c H locs cells slots (lw_Z below #[Value.ref b] s) (F0 m 255 ls []) := by
  obtain ⟨hnt, ⟨hx, hb, hr, hml, hown, hts0, hX, hbl, hlocks, hgv⟩, hK, hA, hbA, hZha, hZx, hZn, hZw, hL⟩ := C
  have hown : s.vm.findClass "BallotBoardLaw" = some m.cls := hown
  have hts := lw_hts hts0
  refine hI _ (fun bd0 pr0 t0 au0 da h0 ro lo rb lb cm aw ax ay ka aa ba sa tu0 uka uaa uba usa a0 a1 a2 a3 a4 a5 a6 a7 a8 a9 mb0 mb1 oc mb2 mb3 mb4 mb5 cL of w tf nf cf ky lf md sh ccf csc cst bf sc st kf sf vf ct gu d0 d1 d2 d3 d4 d5 d6 d7 e0 R Lk hP hD => ?_)
  obtain ⟨x1, hx1⟩ : ∃ v, v = xs (i + 1) := ⟨_, rfl⟩
  obtain ⟨x2, hx2⟩ : ∃ v, v = jl (xs (i + 2)) (xs (i + 3)) := ⟨_, rfl⟩
  obtain ⟨x3, hx3⟩ : ∃ v, v = jl (xs (i + 4)) (xs (i + 5)) := ⟨_, rfl⟩
  obtain ⟨x4, hx4⟩ : ∃ v, v = jl (xs (i + 6)) (xs (i + 7)) := ⟨_, rfl⟩
  refine lv_aload_n hx hb d_law_255 rfl (lv_at hl 3 rfl) ?_
  refine lv_aload_n hx hb d_law_256 rfl (lv_at hl 4 rfl) ?_
  refine lv_iload hx hb d_law_257 (lv_at hl 0 rfl) ?_
  refine lv_iconst (v := 1) hx hb d_law_259 (by decide) ?_
  refine lv_iadd hx hb d_law_260 ?_
  rw [show ((nI i) + 1 : Int32) = nI (i + 1) from nI_add _ 1]
  refine va_sld hx hb hX hbl hbA hS (vp_in_nI (by omega) (by omega)) d_law_261 ?_
  rw [show (xs (nI (i + 1)).toNatClampNeg : Int32) = xs (i + 1) from by rw [nI_clamp (by omega)]]
  rw [show (xs (i + 1) : Int32) = x1 from hx1.symm]
  refine lv_aload_n hx hb d_law_262 rfl (lv_at hl 4 rfl) ?_
  refine lv_iload hx hb d_law_263 (lv_at hl 0 rfl) ?_
  refine lv_iconst (v := 2) hx hb d_law_265 (by decide) ?_
  refine lv_iadd hx hb d_law_266 ?_
  rw [show ((nI i) + 2 : Int32) = nI (i + 2) from nI_add _ 2]
  refine va_sld hx hb hX hbl hbA hS (vp_in_nI (by omega) (by omega)) d_law_267 ?_
  rw [show (xs (nI (i + 2)).toNatClampNeg : Int32) = xs (i + 2) from by rw [nI_clamp (by omega)]]
  refine lv_i2l (v := (xs (i + 2) : Int32).toInt64) hx hb d_law_268 rfl ?_
  refine lv_bipush (v := 32) hx hb d_law_269 (by decide) ?_
  refine lv_lshl (v := ((xs (i + 2) : Int32).toInt64 : Int64) <<< ((32 : Int32).toInt64 &&& 63)) hx hb d_law_271 rfl ?_
  refine lv_aload_n hx hb d_law_272 rfl (lv_at hl 4 rfl) ?_
  refine lv_iload hx hb d_law_273 (lv_at hl 0 rfl) ?_
  refine lv_iconst (v := 3) hx hb d_law_275 (by decide) ?_
  refine lv_iadd hx hb d_law_276 ?_
  rw [show ((nI i) + 3 : Int32) = nI (i + 3) from nI_add _ 3]
  refine va_sld hx hb hX hbl hbA hS (vp_in_nI (by omega) (by omega)) d_law_277 ?_
  rw [show (xs (nI (i + 3)).toNatClampNeg : Int32) = xs (i + 3) from by rw [nI_clamp (by omega)]]
  refine lv_i2l (v := (xs (i + 3) : Int32).toInt64) hx hb d_law_278 rfl ?_
  refine lv_ldc2 (v := 4294967295) hx hb hown (hts _ (List.mem_cons_of_mem _ gk_1202)) d_law_279 ?_
  refine lv_land hx hb d_law_282 ?_
  refine lv_lor hx hb d_law_283 ?_
  rw [show ((((xs (i + 2) : Int32).toInt64 : Int64) <<< ((32 : Int32).toInt64 &&& 63)) ||| (((xs (i + 3) : Int32).toInt64) &&& 4294967295) : Int64) = x2 from hx2.symm]
  refine lv_aload_n hx hb d_law_284 rfl (lv_at hl 4 rfl) ?_
  refine lv_iload hx hb d_law_285 (lv_at hl 0 rfl) ?_
  refine lv_iconst (v := 4) hx hb d_law_287 (by decide) ?_
  refine lv_iadd hx hb d_law_288 ?_
  rw [show ((nI i) + 4 : Int32) = nI (i + 4) from nI_add _ 4]
  refine va_sld hx hb hX hbl hbA hS (vp_in_nI (by omega) (by omega)) d_law_289 ?_
  rw [show (xs (nI (i + 4)).toNatClampNeg : Int32) = xs (i + 4) from by rw [nI_clamp (by omega)]]
  refine lv_i2l (v := (xs (i + 4) : Int32).toInt64) hx hb d_law_290 rfl ?_
  refine lv_bipush (v := 32) hx hb d_law_291 (by decide) ?_
  refine lv_lshl (v := ((xs (i + 4) : Int32).toInt64 : Int64) <<< ((32 : Int32).toInt64 &&& 63)) hx hb d_law_293 rfl ?_
  refine lv_aload_n hx hb d_law_294 rfl (lv_at hl 4 rfl) ?_
  refine lv_iload hx hb d_law_295 (lv_at hl 0 rfl) ?_
  refine lv_iconst (v := 5) hx hb d_law_297 (by decide) ?_
  refine lv_iadd hx hb d_law_298 ?_
  rw [show ((nI i) + 5 : Int32) = nI (i + 5) from nI_add _ 5]
  refine va_sld hx hb hX hbl hbA hS (vp_in_nI (by omega) (by omega)) d_law_299 ?_
  rw [show (xs (nI (i + 5)).toNatClampNeg : Int32) = xs (i + 5) from by rw [nI_clamp (by omega)]]
  refine lv_i2l (v := (xs (i + 5) : Int32).toInt64) hx hb d_law_300 rfl ?_
  refine lv_ldc2 (v := 4294967295) hx hb hown (hts _ (List.mem_cons_of_mem _ gk_1202)) d_law_301 ?_
  refine lv_land hx hb d_law_304 ?_
  refine lv_lor hx hb d_law_305 ?_
  rw [show ((((xs (i + 4) : Int32).toInt64 : Int64) <<< ((32 : Int32).toInt64 &&& 63)) ||| (((xs (i + 5) : Int32).toInt64) &&& 4294967295) : Int64) = x3 from hx3.symm]
  refine lv_aload_n hx hb d_law_306 rfl (lv_at hl 4 rfl) ?_
  refine lv_iload hx hb d_law_307 (lv_at hl 0 rfl) ?_
  refine lv_bipush (v := 6) hx hb d_law_309 (by decide) ?_
  refine lv_iadd hx hb d_law_311 ?_
  rw [show ((nI i) + 6 : Int32) = nI (i + 6) from nI_add _ 6]
  refine va_sld hx hb hX hbl hbA hS (vp_in_nI (by omega) (by omega)) d_law_312 ?_
  rw [show (xs (nI (i + 6)).toNatClampNeg : Int32) = xs (i + 6) from by rw [nI_clamp (by omega)]]
  refine lv_i2l (v := (xs (i + 6) : Int32).toInt64) hx hb d_law_313 rfl ?_
  refine lv_bipush (v := 32) hx hb d_law_314 (by decide) ?_
  refine lv_lshl (v := ((xs (i + 6) : Int32).toInt64 : Int64) <<< ((32 : Int32).toInt64 &&& 63)) hx hb d_law_316 rfl ?_
  refine lv_aload_n hx hb d_law_317 rfl (lv_at hl 4 rfl) ?_
  refine lv_iload hx hb d_law_318 (lv_at hl 0 rfl) ?_
  refine lv_bipush (v := 7) hx hb d_law_320 (by decide) ?_
  refine lv_iadd hx hb d_law_322 ?_
  rw [show ((nI i) + 7 : Int32) = nI (i + 7) from nI_add _ 7]
  refine va_sld hx hb hX hbl hbA hS (vp_in_nI (by omega) (by omega)) d_law_323 ?_
  rw [show (xs (nI (i + 7)).toNatClampNeg : Int32) = xs (i + 7) from by rw [nI_clamp (by omega)]]
  refine lv_i2l (v := (xs (i + 7) : Int32).toInt64) hx hb d_law_324 rfl ?_
  refine lv_ldc2 (v := 4294967295) hx hb hown (hts _ (List.mem_cons_of_mem _ gk_1202)) d_law_325 ?_
  refine lv_land hx hb d_law_328 ?_
  refine lv_lor hx hb d_law_329 ?_
  rw [show ((((xs (i + 6) : Int32).toInt64 : Int64) <<< ((32 : Int32).toInt64 &&& 63)) ||| (((xs (i + 7) : Int32).toInt64) &&& 4294967295) : Int64) = x4 from hx4.symm]
  refine lv_aload_n hx hb d_law_330 rfl (lv_at hl 1 rfl) ?_
  have hPc := hP.sub (ws' := (jw_ws out cJ 1 of ++ bb_ws b0 bd0 pr0 t0 au0 da .null)) [0, 1] rfl
  have hDc := hD.sub (ws' := (jw_ws out cJ 1 of ++ bb_ws b0 bd0 pr0 t0 au0 da .null)) [0, 1] (by decide) rfl
  have hKc := hK.sub (tys' := [(cJ, .long), (cI, .int), (cR, .array .long)]) [0, 1, 2] rfl
  have hFc := va_free (wc := (jw_ws out cJ 1 of ++ bb_ws b0 bd0 pr0 t0 au0 da .null)) hD hS hA [0, 1] rfl
  have hZc0 : xz (va_A (jw_ws out cJ 1 of ++ bb_ws b0 bd0 pr0 t0 au0 da .null) H.size) s H := (hZx.kept hS.2.1).narrow hFc
  have hZc1 : nc_Z s := hZn
  refine vx_calli (vx_runSX (hh := h_Lw_key) (As := [.ref b0, .int x1, .long x2, .long x3, .long x4, .ref out]) (rest := []) ⟨hx, hb, hml, hown, hts⟩ (c_Lw_key_n l hnt dC dI cJ cI cR H.size b0 bd0 pr0 t0 au0 da x1 x2 x3 x4 out of) (vx_cwSW 6 hts (gw_Sv gk_367 gk_368 gk_0 gk_369) rfl rfl rfl (by decide +kernel) ⟨(Nat.le_of_ble_eq_true rfl), (Nat.le_of_ble_eq_true rfl)⟩) ⟨fun a U g mk q => by obtain ⟨q0, q1, qP, qK, qD, qZ0, qZ1⟩ := q; exact ⟨q0, q1, qP, va_K.moved (u := U) (U := U.calling g mk a) (Vm.Alike.refl U.vm) qK, qD, xz.same (u := U) (U := U.calling g mk a) rfl qZ0, nc_Z.moved (u := U) (U := U.calling g mk a) (Vm.Alike.refl U.vm) qZ1⟩, fun U hU hW => ⟨rfl, by rw [hU], by rw [hU]; exact hPc, va_K.moved hW.alike hKc, hDc.weaken (fun _ _ _ _ => trivial), by rw [hU]; exact xz.warm hW hZc0, nc_Z.moved hW.alike hZc1⟩⟩ rfl rfl hl.1 rfl (lv_room (Nat.le_of_ble_eq_true rfl)) d_law_331 ⟨show cells + 8 ≤ 601024 by omega, show slots + 48 ≤ 7293034 by omega⟩) hS (fun q _ h => hFc q h) hFc (fun q _ h => hFc q h) (fun E9 ce9 q9 u8 t9 H1 locs ht hvm hpx hbx hz1 hk1 hS hce hcv hcl => hpx.elim) (fun r_1 u9 t9 H1 locs ht hvm hw hB hz1 hk1 hS => ?_)
  obtain ⟨hP1, hK1, hD1⟩ := hB
  rw [ht] at hP1
  obtain ⟨hP, hD⟩ := va_joinQ (X := (jw_ws out cJ 1 of ++ (bb_ws b0 bd0 pr0 t0 au0 da .null ++ (rw_ws da cJ (r8 d0 d1 d2 d3 d4 d5 d6 d7) ++ (bd_ws bd0 h0 ro lo 0 cR (rrf rb) (rrf lb) ++ (pr_ws pr0 h0 cm cJ ccf ++ (ha_ws h0 aw ax ay cJ cI w csc cst cL ++ (tt_ws t0 ka aa ba sa .null cJ tZ ++ (au_ws au0 bd0 pr0 tu0 0 ++ (tt_ws tu0 uka uaa uba usa gu cJ tZ ++ (mo_ws m0 e0 0 0 0 0 0 0 0 0 0 0 a0 a1 a2 a3 a4 a5 a6 a7 a8 a9 mb0 mb1 oc mb2 mb3 mb4 mb5 ++ (iw_ws a7 cI 256 bf ++ (iw_ws a8 cI 64 sc ++ (iw_ws a9 cI 8 st ++ (iw_ws mb0 cI 8 kS ++ (iw_ws mb1 cI 64 kR ++ (jw_ws a2 cJ 4 tf ++ (jw_ws a0 cJ 1232 nf ++ (jw_ws a1 cJ 616 cf ++ (iw_ws a4 cI 4 kf ++ (jw_ws mb2 cJ 4 ky ++ (jw_ws a3 cJ 16 lf ++ (iw_ws a5 cI 4 sf ++ (iw_ws a6 cI 64 vf ++ (jw_ws mb3 cJ 128 md ++ (jw_ws mb4 cJ 4 sh ++ iw_ws mb5 cI 64 ct)))))))))))))))))))))))))) (cx := (jw_ws out cJ 1 of ++ bb_ws b0 bd0 pr0 t0 au0 da .null)) (wr := (rw_ws da cJ (r8 d0 d1 d2 d3 d4 d5 d6 d7) ++ (bd_ws bd0 h0 ro lo 0 cR (rrf rb) (rrf lb) ++ (pr_ws pr0 h0 cm cJ ccf ++ (ha_ws h0 aw ax ay cJ cI w csc cst cL ++ (tt_ws t0 ka aa ba sa .null cJ tZ ++ (au_ws au0 bd0 pr0 tu0 0 ++ (tt_ws tu0 uka uaa uba usa gu cJ tZ ++ (mo_ws m0 e0 0 0 0 0 0 0 0 0 0 0 a0 a1 a2 a3 a4 a5 a6 a7 a8 a9 mb0 mb1 oc mb2 mb3 mb4 mb5 ++ (iw_ws a7 cI 256 bf ++ (iw_ws a8 cI 64 sc ++ (iw_ws a9 cI 8 st ++ (iw_ws mb0 cI 8 kS ++ (iw_ws mb1 cI 64 kR ++ (jw_ws a2 cJ 4 tf ++ (jw_ws a0 cJ 1232 nf ++ (jw_ws a1 cJ 616 cf ++ (iw_ws a4 cI 4 kf ++ (jw_ws mb2 cJ 4 ky ++ (jw_ws a3 cJ 16 lf ++ (iw_ws a5 cI 4 sf ++ (iw_ws a6 cI 64 vf ++ (jw_ws mb3 cJ 128 md ++ (jw_ws mb4 cJ 4 sh ++ iw_ws mb5 cI 64 ct)))))))))))))))))))))))) (w1 := (jw_ws out cJ 1 of ++ bb_ws b0 bd0 pr0 t0 au0 da .null)) (pl := bpool rb lb cJ R Lk) hP hD [0, 1] [2, 3, 4, 5, 6, 7, 8, 9, 10, 11, 12, 13, 14, 15, 16, 17, 18, 19, 20, 21, 22, 23, 24, 25, 26, 27, 28, 29, 30, 31, 32, 33, 34, 35, 36, 37, 38, 39] rfl rfl (by decide) (by decide) hk1 hFc hP1 hD1
  have hP := hP.part (cx := (jw_ws out cJ 1 of ++ (bb_ws b0 bd0 pr0 t0 au0 da .null ++ (rw_ws da cJ (r8 d0 d1 d2 d3 d4 d5 d6 d7) ++ (bd_ws bd0 h0 ro lo 0 cR (rrf rb) (rrf lb) ++ (pr_ws pr0 h0 cm cJ ccf ++ (ha_ws h0 aw ax ay cJ cI w csc cst cL ++ (tt_ws t0 ka aa ba sa .null cJ tZ ++ (au_ws au0 bd0 pr0 tu0 0 ++ (tt_ws tu0 uka uaa uba usa gu cJ tZ ++ (mo_ws m0 e0 0 0 0 0 0 0 0 0 0 0 a0 a1 a2 a3 a4 a5 a6 a7 a8 a9 mb0 mb1 oc mb2 mb3 mb4 mb5 ++ (iw_ws a7 cI 256 bf ++ (iw_ws a8 cI 64 sc ++ (iw_ws a9 cI 8 st ++ (iw_ws mb0 cI 8 kS ++ (iw_ws mb1 cI 64 kR ++ (jw_ws a2 cJ 4 tf ++ (jw_ws a0 cJ 1232 nf ++ (jw_ws a1 cJ 616 cf ++ (iw_ws a4 cI 4 kf ++ (jw_ws mb2 cJ 4 ky ++ (jw_ws a3 cJ 16 lf ++ (iw_ws a5 cI 4 sf ++ (iw_ws a6 cI 64 vf ++ (jw_ws mb3 cJ 128 md ++ (jw_ws mb4 cJ 4 sh ++ iw_ws mb5 cI 64 ct)))))))))))))))))))))))))) [38, 39, 0, 1, 2, 3, 4, 5, 6, 7, 8, 9, 10, 11, 12, 13, 14, 15, 16, 17, 18, 19, 20, 21, 22, 23, 24, 25, 26, 27, 28, 29, 30, 31, 32, 33, 34, 35, 36, 37] rfl
  have hD := hD.part (cx := (jw_ws out cJ 1 of ++ (bb_ws b0 bd0 pr0 t0 au0 da .null ++ (rw_ws da cJ (r8 d0 d1 d2 d3 d4 d5 d6 d7) ++ (bd_ws bd0 h0 ro lo 0 cR (rrf rb) (rrf lb) ++ (pr_ws pr0 h0 cm cJ ccf ++ (ha_ws h0 aw ax ay cJ cI w csc cst cL ++ (tt_ws t0 ka aa ba sa .null cJ tZ ++ (au_ws au0 bd0 pr0 tu0 0 ++ (tt_ws tu0 uka uaa uba usa gu cJ tZ ++ (mo_ws m0 e0 0 0 0 0 0 0 0 0 0 0 a0 a1 a2 a3 a4 a5 a6 a7 a8 a9 mb0 mb1 oc mb2 mb3 mb4 mb5 ++ (iw_ws a7 cI 256 bf ++ (iw_ws a8 cI 64 sc ++ (iw_ws a9 cI 8 st ++ (iw_ws mb0 cI 8 kS ++ (iw_ws mb1 cI 64 kR ++ (jw_ws a2 cJ 4 tf ++ (jw_ws a0 cJ 1232 nf ++ (jw_ws a1 cJ 616 cf ++ (iw_ws a4 cI 4 kf ++ (jw_ws mb2 cJ 4 ky ++ (jw_ws a3 cJ 16 lf ++ (iw_ws a5 cI 4 sf ++ (iw_ws a6 cI 64 vf ++ (jw_ws mb3 cJ 128 md ++ (jw_ws mb4 cJ 4 sh ++ iw_ws mb5 cI 64 ct)))))))))))))))))))))))))) [38, 39, 0, 1, 2, 3, 4, 5, 6, 7, 8, 9, 10, 11, 12, 13, 14, 15, 16, 17, 18, 19, 20, 21, 22, 23, 24, 25, 26, 27, 28, 29, 30, 31, 32, 33, 34, 35, 36, 37] (by decide) rfl
  generalize H1 = H at hP hS ⊢
  clear hPc hDc hFc hP1 hD1 hK1 ht hk1 hz1
  have hr9 : r_1 = 1 := hw
  subst hr9
  refine lv_istore (lv' := [(5, .int 1), (4, .int (nI i)), (3, .ref out), (2, .ref m0), (1, .ref b0), (0, .ref b)]) hx hb d_law_334 hl (by decide) rfl (fun ls hl => ?_)
  refine lv_aload_n hx hb d_law_336 rfl (lv_at hl 3 rfl) ?_
  refine lv_aload_n hx hb d_law_337 rfl (lv_at hl 5 rfl) ?_
  refine lv_iload hx hb d_law_338 (lv_at hl 1 rfl) ?_
  refine lv_iconst (v := 1) hx hb d_law_340 (by decide) ?_
  refine lv_iadd hx hb d_law_341 ?_
  rw [show ((nI i) + 1 : Int32) = nI (i + 1) from nI_add _ 1]
  refine va_sld hx hb hX hbl hbA hS (vp_in_nI (by omega) (by omega)) d_law_342 ?_
  rw [show (xs (nI (i + 1)).toNatClampNeg : Int32) = xs (i + 1) from by rw [nI_clamp (by omega)]]
  rw [show (xs (i + 1) : Int32) = x1 from hx1.symm]
  refine lv_aload_n hx hb d_law_343 rfl (lv_at hl 5 rfl) ?_
  refine lv_iload hx hb d_law_344 (lv_at hl 1 rfl) ?_
  refine lv_iconst (v := 2) hx hb d_law_346 (by decide) ?_
  refine lv_iadd hx hb d_law_347 ?_
  rw [show ((nI i) + 2 : Int32) = nI (i + 2) from nI_add _ 2]
  refine va_sld hx hb hX hbl hbA hS (vp_in_nI (by omega) (by omega)) d_law_348 ?_
  rw [show (xs (nI (i + 2)).toNatClampNeg : Int32) = xs (i + 2) from by rw [nI_clamp (by omega)]]
  refine lv_i2l (v := (xs (i + 2) : Int32).toInt64) hx hb d_law_349 rfl ?_
  refine lv_bipush (v := 32) hx hb d_law_350 (by decide) ?_
  refine lv_lshl (v := ((xs (i + 2) : Int32).toInt64 : Int64) <<< ((32 : Int32).toInt64 &&& 63)) hx hb d_law_352 rfl ?_
  refine lv_aload_n hx hb d_law_353 rfl (lv_at hl 5 rfl) ?_
  refine lv_iload hx hb d_law_354 (lv_at hl 1 rfl) ?_
  refine lv_iconst (v := 3) hx hb d_law_356 (by decide) ?_
  refine lv_iadd hx hb d_law_357 ?_
  rw [show ((nI i) + 3 : Int32) = nI (i + 3) from nI_add _ 3]
  refine va_sld hx hb hX hbl hbA hS (vp_in_nI (by omega) (by omega)) d_law_358 ?_
  rw [show (xs (nI (i + 3)).toNatClampNeg : Int32) = xs (i + 3) from by rw [nI_clamp (by omega)]]
  refine lv_i2l (v := (xs (i + 3) : Int32).toInt64) hx hb d_law_359 rfl ?_
  refine lv_ldc2 (v := 4294967295) hx hb hown (hts _ (List.mem_cons_of_mem _ gk_1202)) d_law_360 ?_
  refine lv_land hx hb d_law_363 ?_
  refine lv_lor hx hb d_law_364 ?_
  rw [show ((((xs (i + 2) : Int32).toInt64 : Int64) <<< ((32 : Int32).toInt64 &&& 63)) ||| (((xs (i + 3) : Int32).toInt64) &&& 4294967295) : Int64) = x2 from hx2.symm]
  refine lv_aload_n hx hb d_law_365 rfl (lv_at hl 5 rfl) ?_
  refine lv_iload hx hb d_law_366 (lv_at hl 1 rfl) ?_
  refine lv_iconst (v := 4) hx hb d_law_368 (by decide) ?_
  refine lv_iadd hx hb d_law_369 ?_
  rw [show ((nI i) + 4 : Int32) = nI (i + 4) from nI_add _ 4]
  refine va_sld hx hb hX hbl hbA hS (vp_in_nI (by omega) (by omega)) d_law_370 ?_
  rw [show (xs (nI (i + 4)).toNatClampNeg : Int32) = xs (i + 4) from by rw [nI_clamp (by omega)]]
  refine lv_i2l (v := (xs (i + 4) : Int32).toInt64) hx hb d_law_371 rfl ?_
  refine lv_bipush (v := 32) hx hb d_law_372 (by decide) ?_
  refine lv_lshl (v := ((xs (i + 4) : Int32).toInt64 : Int64) <<< ((32 : Int32).toInt64 &&& 63)) hx hb d_law_374 rfl ?_
  refine lv_aload_n hx hb d_law_375 rfl (lv_at hl 5 rfl) ?_
  refine lv_iload hx hb d_law_376 (lv_at hl 1 rfl) ?_
  refine lv_iconst (v := 5) hx hb d_law_378 (by decide) ?_
  refine lv_iadd hx hb d_law_379 ?_
  rw [show ((nI i) + 5 : Int32) = nI (i + 5) from nI_add _ 5]
  refine va_sld hx hb hX hbl hbA hS (vp_in_nI (by omega) (by omega)) d_law_380 ?_
  rw [show (xs (nI (i + 5)).toNatClampNeg : Int32) = xs (i + 5) from by rw [nI_clamp (by omega)]]
  refine lv_i2l (v := (xs (i + 5) : Int32).toInt64) hx hb d_law_381 rfl ?_
  refine lv_ldc2 (v := 4294967295) hx hb hown (hts _ (List.mem_cons_of_mem _ gk_1202)) d_law_382 ?_
  refine lv_land hx hb d_law_385 ?_
  refine lv_lor hx hb d_law_386 ?_
  rw [show ((((xs (i + 4) : Int32).toInt64 : Int64) <<< ((32 : Int32).toInt64 &&& 63)) ||| (((xs (i + 5) : Int32).toInt64) &&& 4294967295) : Int64) = x3 from hx3.symm]
  refine lv_aload_n hx hb d_law_387 rfl (lv_at hl 5 rfl) ?_
  refine lv_iload hx hb d_law_388 (lv_at hl 1 rfl) ?_
  refine lv_bipush (v := 6) hx hb d_law_390 (by decide) ?_
  refine lv_iadd hx hb d_law_392 ?_
  rw [show ((nI i) + 6 : Int32) = nI (i + 6) from nI_add _ 6]
  refine va_sld hx hb hX hbl hbA hS (vp_in_nI (by omega) (by omega)) d_law_393 ?_
  rw [show (xs (nI (i + 6)).toNatClampNeg : Int32) = xs (i + 6) from by rw [nI_clamp (by omega)]]
  refine lv_i2l (v := (xs (i + 6) : Int32).toInt64) hx hb d_law_394 rfl ?_
  refine lv_bipush (v := 32) hx hb d_law_395 (by decide) ?_
  refine lv_lshl (v := ((xs (i + 6) : Int32).toInt64 : Int64) <<< ((32 : Int32).toInt64 &&& 63)) hx hb d_law_397 rfl ?_
  refine lv_aload_n hx hb d_law_398 rfl (lv_at hl 5 rfl) ?_
  refine lv_iload hx hb d_law_399 (lv_at hl 1 rfl) ?_
  refine lv_bipush (v := 7) hx hb d_law_401 (by decide) ?_
  refine lv_iadd hx hb d_law_403 ?_
  rw [show ((nI i) + 7 : Int32) = nI (i + 7) from nI_add _ 7]
  refine va_sld hx hb hX hbl hbA hS (vp_in_nI (by omega) (by omega)) d_law_404 ?_
  rw [show (xs (nI (i + 7)).toNatClampNeg : Int32) = xs (i + 7) from by rw [nI_clamp (by omega)]]
  refine lv_i2l (v := (xs (i + 7) : Int32).toInt64) hx hb d_law_405 rfl ?_
  refine lv_ldc2 (v := 4294967295) hx hb hown (hts _ (List.mem_cons_of_mem _ gk_1202)) d_law_406 ?_
  refine lv_land hx hb d_law_409 ?_
  refine lv_lor hx hb d_law_410 ?_
  rw [show ((((xs (i + 6) : Int32).toInt64 : Int64) <<< ((32 : Int32).toInt64 &&& 63)) ||| (((xs (i + 7) : Int32).toInt64) &&& 4294967295) : Int64) = x4 from hx4.symm]
  have hPc := hP.sub (ws' := (mo_ws m0 e0 0 0 0 0 0 0 0 0 0 0 a0 a1 a2 a3 a4 a5 a6 a7 a8 a9 mb0 mb1 oc mb2 mb3 mb4 mb5)) [23] rfl
  have hDc := hD.sub (ws' := (mo_ws m0 e0 0 0 0 0 0 0 0 0 0 0 a0 a1 a2 a3 a4 a5 a6 a7 a8 a9 mb0 mb1 oc mb2 mb3 mb4 mb5)) [23] (by decide) rfl
  have hKc := hK.sub (tys' := [(cJ, .long), (cI, .int)]) [0, 1] rfl
  have hFc := va_free (wc := (mo_ws m0 e0 0 0 0 0 0 0 0 0 0 0 a0 a1 a2 a3 a4 a5 a6 a7 a8 a9 mb0 mb1 oc mb2 mb3 mb4 mb5)) hD hS hA [23] rfl
  refine va_calli (va_runV (As := [.int x1, .long x2, .long x3, .long x4]) (rest := []) ⟨hx, hb, hml, hown, hts⟩ (c_Bm_key_n l dC dI cJ cI H.size m0 e0 0 0 0 0 0 0 0 0 0 0 a0 a1 a2 a3 a4 a5 a6 a7 a8 a9 mb0 mb1 oc mb2 mb3 mb4 mb5 x1 x2 x3 x4 rfl) (cwV 4 hts (gw_V gk_1034 gk_1035 gk_1036 gk_7 gk_1037) rfl rfl rfl (by decide +kernel) ⟨(Nat.le_of_ble_eq_true rfl), (Nat.le_of_ble_eq_true rfl)⟩) ⟨fun a U g mk q => by obtain ⟨q0, q1, qP, qK, qD⟩ := q; exact ⟨q0, q1, qP, va_K.moved (u := U) (U := U.calling g mk a) (Vm.Alike.refl U.vm) qK, qD⟩, va_recv hK hP (ci := 8) (q0 := 23) rfl rfl, fun U hU hW => ⟨rfl, by rw [hU], by rw [hU]; exact hPc, va_K.moved hW.alike hKc, hDc.weaken (fun _ _ _ _ => trivial)⟩⟩ rfl rfl hl.1 rfl (lv_room (Nat.le_of_ble_eq_true rfl)) d_law_411 ⟨show cells + 8 + 0 ≤ 601024 by omega, show slots + 48 + 0 ≤ 7293034 by omega⟩) hS (fun q _ h => hFc q h) hFc (fun r_2 v9 t9 H1 locs ht hvm hw hB hz1 hk1 hS => ?_)
  obtain ⟨hP1, hK1, hD1⟩ := hB
  rw [ht] at hP1
  obtain ⟨hP, hD⟩ := va_joinQ (X := (jw_ws out cJ 1 of ++ (bb_ws b0 bd0 pr0 t0 au0 da .null ++ (rw_ws da cJ (r8 d0 d1 d2 d3 d4 d5 d6 d7) ++ (bd_ws bd0 h0 ro lo 0 cR (rrf rb) (rrf lb) ++ (pr_ws pr0 h0 cm cJ ccf ++ (ha_ws h0 aw ax ay cJ cI w csc cst cL ++ (tt_ws t0 ka aa ba sa .null cJ tZ ++ (au_ws au0 bd0 pr0 tu0 0 ++ (tt_ws tu0 uka uaa uba usa gu cJ tZ ++ (mo_ws m0 e0 0 0 0 0 0 0 0 0 0 0 a0 a1 a2 a3 a4 a5 a6 a7 a8 a9 mb0 mb1 oc mb2 mb3 mb4 mb5 ++ (iw_ws a7 cI 256 bf ++ (iw_ws a8 cI 64 sc ++ (iw_ws a9 cI 8 st ++ (iw_ws mb0 cI 8 kS ++ (iw_ws mb1 cI 64 kR ++ (jw_ws a2 cJ 4 tf ++ (jw_ws a0 cJ 1232 nf ++ (jw_ws a1 cJ 616 cf ++ (iw_ws a4 cI 4 kf ++ (jw_ws mb2 cJ 4 ky ++ (jw_ws a3 cJ 16 lf ++ (iw_ws a5 cI 4 sf ++ (iw_ws a6 cI 64 vf ++ (jw_ws mb3 cJ 128 md ++ (jw_ws mb4 cJ 4 sh ++ iw_ws mb5 cI 64 ct)))))))))))))))))))))))))) (cx := (mo_ws m0 e0 0 0 0 0 0 0 0 0 0 0 a0 a1 a2 a3 a4 a5 a6 a7 a8 a9 mb0 mb1 oc mb2 mb3 mb4 mb5)) (wr := (jw_ws out cJ 1 of ++ (bb_ws b0 bd0 pr0 t0 au0 da .null ++ (rw_ws da cJ (r8 d0 d1 d2 d3 d4 d5 d6 d7) ++ (bd_ws bd0 h0 ro lo 0 cR (rrf rb) (rrf lb) ++ (pr_ws pr0 h0 cm cJ ccf ++ (ha_ws h0 aw ax ay cJ cI w csc cst cL ++ (tt_ws t0 ka aa ba sa .null cJ tZ ++ (au_ws au0 bd0 pr0 tu0 0 ++ (tt_ws tu0 uka uaa uba usa gu cJ tZ ++ (iw_ws a7 cI 256 bf ++ (iw_ws a8 cI 64 sc ++ (iw_ws a9 cI 8 st ++ (iw_ws mb0 cI 8 kS ++ (iw_ws mb1 cI 64 kR ++ (jw_ws a2 cJ 4 tf ++ (jw_ws a0 cJ 1232 nf ++ (jw_ws a1 cJ 616 cf ++ (iw_ws a4 cI 4 kf ++ (jw_ws mb2 cJ 4 ky ++ (jw_ws a3 cJ 16 lf ++ (iw_ws a5 cI 4 sf ++ (iw_ws a6 cI 64 vf ++ (jw_ws mb3 cJ 128 md ++ (jw_ws mb4 cJ 4 sh ++ iw_ws mb5 cI 64 ct))))))))))))))))))))))))) (w1 := (mo_ws m0 1 0 0 0 0 0 0 0 0 0 0 a0 a1 a2 a3 a4 a5 a6 a7 a8 a9 mb0 mb1 oc mb2 mb3 mb4 mb5)) (pl := bpool rb lb cJ R Lk) hP hD [23] [0, 1, 2, 3, 4, 5, 6, 7, 8, 9, 10, 11, 12, 13, 14, 15, 16, 17, 18, 19, 20, 21, 22, 24, 25, 26, 27, 28, 29, 30, 31, 32, 33, 34, 35, 36, 37, 38, 39] rfl rfl (by decide) (by decide) hk1 hFc hP1 hD1
  have hP := hP.part (cx := (jw_ws out cJ 1 of ++ (bb_ws b0 bd0 pr0 t0 au0 da .null ++ (rw_ws da cJ (r8 d0 d1 d2 d3 d4 d5 d6 d7) ++ (bd_ws bd0 h0 ro lo 0 cR (rrf rb) (rrf lb) ++ (pr_ws pr0 h0 cm cJ ccf ++ (ha_ws h0 aw ax ay cJ cI w csc cst cL ++ (tt_ws t0 ka aa ba sa .null cJ tZ ++ (au_ws au0 bd0 pr0 tu0 0 ++ (tt_ws tu0 uka uaa uba usa gu cJ tZ ++ (mo_ws m0 1 0 0 0 0 0 0 0 0 0 0 a0 a1 a2 a3 a4 a5 a6 a7 a8 a9 mb0 mb1 oc mb2 mb3 mb4 mb5 ++ (iw_ws a7 cI 256 bf ++ (iw_ws a8 cI 64 sc ++ (iw_ws a9 cI 8 st ++ (iw_ws mb0 cI 8 kS ++ (iw_ws mb1 cI 64 kR ++ (jw_ws a2 cJ 4 tf ++ (jw_ws a0 cJ 1232 nf ++ (jw_ws a1 cJ 616 cf ++ (iw_ws a4 cI 4 kf ++ (jw_ws mb2 cJ 4 ky ++ (jw_ws a3 cJ 16 lf ++ (iw_ws a5 cI 4 sf ++ (iw_ws a6 cI 64 vf ++ (jw_ws mb3 cJ 128 md ++ (jw_ws mb4 cJ 4 sh ++ iw_ws mb5 cI 64 ct)))))))))))))))))))))))))) [0, 1, 2, 3, 4, 5, 6, 7, 8, 9, 10, 11, 12, 13, 14, 15, 16, 17, 18, 19, 20, 21, 22, 39, 23, 24, 25, 26, 27, 28, 29, 30, 31, 32, 33, 34, 35, 36, 37, 38] rfl
  have hD := hD.part (cx := (jw_ws out cJ 1 of ++ (bb_ws b0 bd0 pr0 t0 au0 da .null ++ (rw_ws da cJ (r8 d0 d1 d2 d3 d4 d5 d6 d7) ++ (bd_ws bd0 h0 ro lo 0 cR (rrf rb) (rrf lb) ++ (pr_ws pr0 h0 cm cJ ccf ++ (ha_ws h0 aw ax ay cJ cI w csc cst cL ++ (tt_ws t0 ka aa ba sa .null cJ tZ ++ (au_ws au0 bd0 pr0 tu0 0 ++ (tt_ws tu0 uka uaa uba usa gu cJ tZ ++ (mo_ws m0 1 0 0 0 0 0 0 0 0 0 0 a0 a1 a2 a3 a4 a5 a6 a7 a8 a9 mb0 mb1 oc mb2 mb3 mb4 mb5 ++ (iw_ws a7 cI 256 bf ++ (iw_ws a8 cI 64 sc ++ (iw_ws a9 cI 8 st ++ (iw_ws mb0 cI 8 kS ++ (iw_ws mb1 cI 64 kR ++ (jw_ws a2 cJ 4 tf ++ (jw_ws a0 cJ 1232 nf ++ (jw_ws a1 cJ 616 cf ++ (iw_ws a4 cI 4 kf ++ (jw_ws mb2 cJ 4 ky ++ (jw_ws a3 cJ 16 lf ++ (iw_ws a5 cI 4 sf ++ (iw_ws a6 cI 64 vf ++ (jw_ws mb3 cJ 128 md ++ (jw_ws mb4 cJ 4 sh ++ iw_ws mb5 cI 64 ct)))))))))))))))))))))))))) [0, 1, 2, 3, 4, 5, 6, 7, 8, 9, 10, 11, 12, 13, 14, 15, 16, 17, 18, 19, 20, 21, 22, 39, 23, 24, 25, 26, 27, 28, 29, 30, 31, 32, 33, 34, 35, 36, 37, 38] (by decide) rfl
  generalize H1 = H at hP hS ⊢
  clear hPc hDc hFc hP1 hD1 hK1 ht hk1 hz1
  refine lv_istore (lv' := [(6, .int r_2), (5, .int 1), (4, .int (nI i)), (3, .ref out), (2, .ref m0), (1, .ref b0), (0, .ref b)]) hx hb d_law_414 hl (by decide) rfl (fun ls hl => ?_)
  refine lv_aload_n hx hb d_law_416 rfl (lv_at hl 4 rfl) ?_
  have hPc := hP.sub (ws' := (mo_ws m0 1 0 0 0 0 0 0 0 0 0 0 a0 a1 a2 a3 a4 a5 a6 a7 a8 a9 mb0 mb1 oc mb2 mb3 mb4 mb5)) [23] rfl
  have hKc := hK.sub (tys' := [(cJ, .long), (cI, .int)]) [0, 1] rfl
  refine va_calli (va_runV (As := []) (rest := []) ⟨hx, hb, hml, hown, hts⟩ (c_Bm_thrown l H dC dI cJ cI m0 1 0 0 0 0 0 0 0 0 0 0 a0 a1 a2 a3 a4 a5 a6 a7 a8 a9 mb0 mb1 oc mb2 mb3 mb4 mb5 hPc) (cwV 0 hts (gw_V gk_1004 gk_1005 gk_1006 gk_7 gk_1007) rfl rfl rfl (by decide +kernel) ⟨(Nat.le_of_ble_eq_true rfl), (Nat.le_of_ble_eq_true rfl)⟩) ⟨fun a U g mk q => ⟨q.1, q.2.1, va_K.moved (u := U) (U := U.calling g mk a) (Vm.Alike.refl U.vm) q.2.2⟩, va_recv hK hP (ci := 8) (q0 := 23) rfl rfl, fun U hU hW => ⟨rfl, hU, va_K.moved hW.alike hKc⟩⟩ rfl rfl hl.1 rfl (lv_room (Nat.le_of_ble_eq_true rfl)) d_law_417 ⟨show cells + 8 + 0 + 0 ≤ 601024 by omega, show slots + 48 + 0 + 0 ≤ 7293034 by omega⟩) hS (fun q _ h => h.elim) (fun q h => h.elim) (fun r_3 w9 t9 H1 locs ht hvm hw9 hB hz1 hk1 hS => ?_)
  obtain rfl : H = H1 := hB.symm.trans ht
  have hw9 : r_3 = 1 := hw9
  subst hw9
  clear hPc hz1 hk1 hB
  refine lv_iload hx hb d_law_420 (lv_at hl 1 rfl) ?_
  refine lv_icmp_eq (tgt := 427) hx hb d_law_422 (by decide) (fun c_4 => ?_) (fun c_4 => ?_)
  · -- taken
    refine lv_iload hx hb d_law_427 (lv_at hl 1 rfl) ?_
    refine lv_if_ne (tgt := 444) hx hb d_law_429 (by decide) (fun c_5 => ?_) (fun c_5 => ?_)
    · -- taken
      refine lv_goto (tgt := 1965) hx hb d_law_444 (by decide) ?_
      refine W.widen (k := cells + 20) (n := slots + 200) (by omega) (by omega) ?_
      have hI9 : LI dC dI cJ cI cR A out b0 m0 H := LF.mk hP hD
      exact cont _ _ _ hS hI9 (lv_sub hl [2, 3, 4, 5, 6] rfl)
    · -- not taken
      exact absurd c_5 (by decide)
  · -- not taken
    exact absurd c_4 (by decide)
set_option maxHeartbeats 16000000 in
set_option maxRecDepth 100000 in
theorem bk_makeKey_f {p : Program} {l : Launch} {e : Env} {s : State} {m : MethodId} {below : List Frame} {meth : Method} {c : Code} {b L : Nat} {xs : Nat → Int32} {dC : Nat → ClassId} {dI : Nat → Nat → Nat} {cJ cI cR : ClassId} {A : Nat → Prop} {out b0 m0 : Nat} {rA sA wA : Nat} (C : LC p l s m meth c b L xs dC dI cJ cI cR A rA sA wA) {i cells slots : Nat} (hi : i + 14 ≤ L) (hcs : cells + 20 ≤ 601024 ∧ slots + 200 ≤ 7293034) (cont : LK p l e s m below meth c b dC dI cJ cI cR A out b0 m0 i (cells + 20) (slots + 200) 1965) {H : Heap} {locs : List Loc} {ls : Array Slot} (hS : va_S A s.heap H locs) (hI : LF dC dI cJ cI cR A out b0 m0 H) (hl : lv_has ls 8 [(4, .int (nI i)), (3, .ref out), (2, .ref m0), (1, .ref b0), (0, .ref b)]) : W p l e room_1 s m #[Value.ref b] below meth c H locs cells slots (lw_Z below #[Value.ref b] s) (F0 m 447 ls []) := by
  obtain ⟨hnt, ⟨hx, hb, hr, hml, hown, hts0, hX, hbl, hlocks, hgv⟩, hK, hA, hbA, hZha, hZx, hZn, hZw, hL⟩ := C
  have hown : s.vm.findClass "BallotBoardLaw" = some m.cls := hown
  have hts := lw_hts hts0
  refine hI _ (fun bd0 pr0 t0 au0 da h0 ro lo rb lb cm aw ax ay ka aa ba sa tu0 uka uaa uba usa a0 a1 a2 a3 a4 a5 a6 a7 a8 a9 mb0 mb1 oc mb2 mb3 mb4 mb5 cL of w tf nf cf ky lf md sh ccf csc cst bf sc st kf sf vf ct gu d0 d1 d2 d3 d4 d5 d6 d7 e0 R Lk hP hD => ?_)
  obtain ⟨x1, hx1⟩ : ∃ v, v = xs (i + 1) := ⟨_, rfl⟩
  obtain ⟨x2, hx2⟩ : ∃ v, v = jl (xs (i + 2)) (xs (i + 3)) := ⟨_, rfl⟩
  obtain ⟨x3, hx3⟩ : ∃ v, v = jl (xs (i + 4)) (xs (i + 5)) := ⟨_, rfl⟩
  refine lv_aload_n hx hb d_law_447 rfl (lv_at hl 3 rfl) ?_
  refine lv_aload_n hx hb d_law_448 rfl (lv_at hl 4 rfl) ?_
  refine lv_iload hx hb d_law_449 (lv_at hl 0 rfl) ?_
  refine lv_iconst (v := 1) hx hb d_law_451 (by decide) ?_
  refine lv_iadd hx hb d_law_452 ?_
  rw [show ((nI i) + 1 : Int32) = nI (i + 1) from nI_add _ 1]
  refine va_sld hx hb hX hbl hbA hS (vp_in_nI (by omega) (by omega)) d_law_453 ?_
  rw [show (xs (nI (i + 1)).toNatClampNeg : Int32) = xs (i + 1) from by rw [nI_clamp (by omega)]]
  rw [show (xs (i + 1) : Int32) = x1 from hx1.symm]
  refine lv_aload_n hx hb d_law_454 rfl (lv_at hl 4 rfl) ?_
  refine lv_iload hx hb d_law_455 (lv_at hl 0 rfl) ?_
  refine lv_iconst (v := 2) hx hb d_law_457 (by decide) ?_
  refine lv_iadd hx hb d_law_458 ?_
  rw [show ((nI i) + 2 : Int32) = nI (i + 2) from nI_add _ 2]
  refine va_sld hx hb hX hbl hbA hS (vp_in_nI (by omega) (by omega)) d_law_459 ?_
  rw [show (xs (nI (i + 2)).toNatClampNeg : Int32) = xs (i + 2) from by rw [nI_clamp (by omega)]]
  refine lv_i2l (v := (xs (i + 2) : Int32).toInt64) hx hb d_law_460 rfl ?_
  refine lv_bipush (v := 32) hx hb d_law_461 (by decide) ?_
  refine lv_lshl (v := ((xs (i + 2) : Int32).toInt64 : Int64) <<< ((32 : Int32).toInt64 &&& 63)) hx hb d_law_463 rfl ?_
  refine lv_aload_n hx hb d_law_464 rfl (lv_at hl 4 rfl) ?_
  refine lv_iload hx hb d_law_465 (lv_at hl 0 rfl) ?_
  refine lv_iconst (v := 3) hx hb d_law_467 (by decide) ?_
  refine lv_iadd hx hb d_law_468 ?_
  rw [show ((nI i) + 3 : Int32) = nI (i + 3) from nI_add _ 3]
  refine va_sld hx hb hX hbl hbA hS (vp_in_nI (by omega) (by omega)) d_law_469 ?_
  rw [show (xs (nI (i + 3)).toNatClampNeg : Int32) = xs (i + 3) from by rw [nI_clamp (by omega)]]
  refine lv_i2l (v := (xs (i + 3) : Int32).toInt64) hx hb d_law_470 rfl ?_
  refine lv_ldc2 (v := 4294967295) hx hb hown (hts _ (List.mem_cons_of_mem _ gk_1202)) d_law_471 ?_
  refine lv_land hx hb d_law_474 ?_
  refine lv_lor hx hb d_law_475 ?_
  rw [show ((((xs (i + 2) : Int32).toInt64 : Int64) <<< ((32 : Int32).toInt64 &&& 63)) ||| (((xs (i + 3) : Int32).toInt64) &&& 4294967295) : Int64) = x2 from hx2.symm]
  refine lv_aload_n hx hb d_law_476 rfl (lv_at hl 4 rfl) ?_
  refine lv_iload hx hb d_law_477 (lv_at hl 0 rfl) ?_
  refine lv_iconst (v := 4) hx hb d_law_479 (by decide) ?_
  refine lv_iadd hx hb d_law_480 ?_
  rw [show ((nI i) + 4 : Int32) = nI (i + 4) from nI_add _ 4]
  refine va_sld hx hb hX hbl hbA hS (vp_in_nI (by omega) (by omega)) d_law_481 ?_
  rw [show (xs (nI (i + 4)).toNatClampNeg : Int32) = xs (i + 4) from by rw [nI_clamp (by omega)]]
  refine lv_i2l (v := (xs (i + 4) : Int32).toInt64) hx hb d_law_482 rfl ?_
  refine lv_bipush (v := 32) hx hb d_law_483 (by decide) ?_
  refine lv_lshl (v := ((xs (i + 4) : Int32).toInt64 : Int64) <<< ((32 : Int32).toInt64 &&& 63)) hx hb d_law_485 rfl ?_
  refine lv_aload_n hx hb d_law_486 rfl (lv_at hl 4 rfl) ?_
  refine lv_iload hx hb d_law_487 (lv_at hl 0 rfl) ?_
  refine lv_iconst (v := 5) hx hb d_law_489 (by decide) ?_
  refine lv_iadd hx hb d_law_490 ?_
  rw [show ((nI i) + 5 : Int32) = nI (i + 5) from nI_add _ 5]
  refine va_sld hx hb hX hbl hbA hS (vp_in_nI (by omega) (by omega)) d_law_491 ?_
  rw [show (xs (nI (i + 5)).toNatClampNeg : Int32) = xs (i + 5) from by rw [nI_clamp (by omega)]]
  refine lv_i2l (v := (xs (i + 5) : Int32).toInt64) hx hb d_law_492 rfl ?_
  refine lv_ldc2 (v := 4294967295) hx hb hown (hts _ (List.mem_cons_of_mem _ gk_1202)) d_law_493 ?_
  refine lv_land hx hb d_law_496 ?_
  refine lv_lor hx hb d_law_497 ?_
  rw [show ((((xs (i + 4) : Int32).toInt64 : Int64) <<< ((32 : Int32).toInt64 &&& 63)) ||| (((xs (i + 5) : Int32).toInt64) &&& 4294967295) : Int64) = x3 from hx3.symm]
  refine lv_aload_n hx hb d_law_498 rfl (lv_at hl 1 rfl) ?_
  have hPc := hP.sub (ws' := (jw_ws out cJ 1 of ++ bb_ws b0 bd0 pr0 t0 au0 da .null)) [0, 1] rfl
  have hDc := hD.sub (ws' := (jw_ws out cJ 1 of ++ bb_ws b0 bd0 pr0 t0 au0 da .null)) [0, 1] (by decide) rfl
  have hKc := hK.sub (tys' := [(cJ, .long), (cI, .int), (cR, .array .long)]) [0, 1, 2] rfl
  have hFc := va_free (wc := (jw_ws out cJ 1 of ++ bb_ws b0 bd0 pr0 t0 au0 da .null)) hD hS hA [0, 1] rfl
  have hZc0 : xz (va_A (jw_ws out cJ 1 of ++ bb_ws b0 bd0 pr0 t0 au0 da .null) H.size) s H := (hZx.kept hS.2.1).narrow hFc
  have hZc1 : nc_Z s := hZn
  refine vx_calli (vx_runSX (hh := h_Lw_makeKey) (As := [.ref b0, .int x1, .long x2, .long x3, .ref out]) (rest := []) ⟨hx, hb, hml, hown, hts⟩ (c_Lw_makeKey_n l hnt dC dI cJ cI cR H.size b0 bd0 pr0 t0 au0 da x1 x2 x3 out of) (vx_cwSW 5 hts (gw_Sv gk_599 gk_600 gk_0 gk_601) rfl rfl rfl (by decide +kernel) ⟨(Nat.le_of_ble_eq_true rfl), (Nat.le_of_ble_eq_true rfl)⟩) ⟨fun a U g mk q => by obtain ⟨q0, q1, qP, qK, qD, qZ0, qZ1⟩ := q; exact ⟨q0, q1, qP, va_K.moved (u := U) (U := U.calling g mk a) (Vm.Alike.refl U.vm) qK, qD, xz.same (u := U) (U := U.calling g mk a) rfl qZ0, nc_Z.moved (u := U) (U := U.calling g mk a) (Vm.Alike.refl U.vm) qZ1⟩, fun U hU hW => ⟨rfl, by rw [hU], by rw [hU]; exact hPc, va_K.moved hW.alike hKc, hDc.weaken (fun _ _ _ _ => trivial), by rw [hU]; exact xz.warm hW hZc0, nc_Z.moved hW.alike hZc1⟩⟩ rfl rfl hl.1 rfl (lv_room (Nat.le_of_ble_eq_true rfl)) d_law_499 ⟨show cells + 8 ≤ 601024 by omega, show slots + 48 ≤ 7293034 by omega⟩) hS (fun q _ h => hFc q h) hFc (fun q _ h => hFc q h) (fun E9 ce9 q9 u8 t9 H1 locs ht hvm hpx hbx hz1 hk1 hS hce hcv hcl => hpx.elim) (fun r_1 u9 t9 H1 locs ht hvm hw hB hz1 hk1 hS => ?_)
  obtain ⟨hP1, hK1, hD1⟩ := hB
  rw [ht] at hP1
  obtain ⟨hP, hD⟩ := va_joinQ (X := (jw_ws out cJ 1 of ++ (bb_ws b0 bd0 pr0 t0 au0 da .null ++ (rw_ws da cJ (r8 d0 d1 d2 d3 d4 d5 d6 d7) ++ (bd_ws bd0 h0 ro lo 0 cR (rrf rb) (rrf lb) ++ (pr_ws pr0 h0 cm cJ ccf ++ (ha_ws h0 aw ax ay cJ cI w csc cst cL ++ (tt_ws t0 ka aa ba sa .null cJ tZ ++ (au_ws au0 bd0 pr0 tu0 0 ++ (tt_ws tu0 uka uaa uba usa gu cJ tZ ++ (mo_ws m0 e0 0 0 0 0 0 0 0 0 0 0 a0 a1 a2 a3 a4 a5 a6 a7 a8 a9 mb0 mb1 oc mb2 mb3 mb4 mb5 ++ (iw_ws a7 cI 256 bf ++ (iw_ws a8 cI 64 sc ++ (iw_ws a9 cI 8 st ++ (iw_ws mb0 cI 8 kS ++ (iw_ws mb1 cI 64 kR ++ (jw_ws a2 cJ 4 tf ++ (jw_ws a0 cJ 1232 nf ++ (jw_ws a1 cJ 616 cf ++ (iw_ws a4 cI 4 kf ++ (jw_ws mb2 cJ 4 ky ++ (jw_ws a3 cJ 16 lf ++ (iw_ws a5 cI 4 sf ++ (iw_ws a6 cI 64 vf ++ (jw_ws mb3 cJ 128 md ++ (jw_ws mb4 cJ 4 sh ++ iw_ws mb5 cI 64 ct)))))))))))))))))))))))))) (cx := (jw_ws out cJ 1 of ++ bb_ws b0 bd0 pr0 t0 au0 da .null)) (wr := (rw_ws da cJ (r8 d0 d1 d2 d3 d4 d5 d6 d7) ++ (bd_ws bd0 h0 ro lo 0 cR (rrf rb) (rrf lb) ++ (pr_ws pr0 h0 cm cJ ccf ++ (ha_ws h0 aw ax ay cJ cI w csc cst cL ++ (tt_ws t0 ka aa ba sa .null cJ tZ ++ (au_ws au0 bd0 pr0 tu0 0 ++ (tt_ws tu0 uka uaa uba usa gu cJ tZ ++ (mo_ws m0 e0 0 0 0 0 0 0 0 0 0 0 a0 a1 a2 a3 a4 a5 a6 a7 a8 a9 mb0 mb1 oc mb2 mb3 mb4 mb5 ++ (iw_ws a7 cI 256 bf ++ (iw_ws a8 cI 64 sc ++ (iw_ws a9 cI 8 st ++ (iw_ws mb0 cI 8 kS ++ (iw_ws mb1 cI 64 kR ++ (jw_ws a2 cJ 4 tf ++ (jw_ws a0 cJ 1232 nf ++ (jw_ws a1 cJ 616 cf ++ (iw_ws a4 cI 4 kf ++ (jw_ws mb2 cJ 4 ky ++ (jw_ws a3 cJ 16 lf ++ (iw_ws a5 cI 4 sf ++ (iw_ws a6 cI 64 vf ++ (jw_ws mb3 cJ 128 md ++ (jw_ws mb4 cJ 4 sh ++ iw_ws mb5 cI 64 ct)))))))))))))))))))))))) (w1 := (jw_ws out cJ 1 of ++ bb_ws b0 bd0 pr0 t0 au0 da .null)) (pl := bpool rb lb cJ R Lk) hP hD [0, 1] [2, 3, 4, 5, 6, 7, 8, 9, 10, 11, 12, 13, 14, 15, 16, 17, 18, 19, 20, 21, 22, 23, 24, 25, 26, 27, 28, 29, 30, 31, 32, 33, 34, 35, 36, 37, 38, 39] rfl rfl (by decide) (by decide) hk1 hFc hP1 hD1
  have hP := hP.part (cx := (jw_ws out cJ 1 of ++ (bb_ws b0 bd0 pr0 t0 au0 da .null ++ (rw_ws da cJ (r8 d0 d1 d2 d3 d4 d5 d6 d7) ++ (bd_ws bd0 h0 ro lo 0 cR (rrf rb) (rrf lb) ++ (pr_ws pr0 h0 cm cJ ccf ++ (ha_ws h0 aw ax ay cJ cI w csc cst cL ++ (tt_ws t0 ka aa ba sa .null cJ tZ ++ (au_ws au0 bd0 pr0 tu0 0 ++ (tt_ws tu0 uka uaa uba usa gu cJ tZ ++ (mo_ws m0 e0 0 0 0 0 0 0 0 0 0 0 a0 a1 a2 a3 a4 a5 a6 a7 a8 a9 mb0 mb1 oc mb2 mb3 mb4 mb5 ++ (iw_ws a7 cI 256 bf ++ (iw_ws a8 cI 64 sc ++ (iw_ws a9 cI 8 st ++ (iw_ws mb0 cI 8 kS ++ (iw_ws mb1 cI 64 kR ++ (jw_ws a2 cJ 4 tf ++ (jw_ws a0 cJ 1232 nf ++ (jw_ws a1 cJ 616 cf ++ (iw_ws a4 cI 4 kf ++ (jw_ws mb2 cJ 4 ky ++ (jw_ws a3 cJ 16 lf ++ (iw_ws a5 cI 4 sf ++ (iw_ws a6 cI 64 vf ++ (jw_ws mb3 cJ 128 md ++ (jw_ws mb4 cJ 4 sh ++ iw_ws mb5 cI 64 ct)))))))))))))))))))))))))) [38, 39, 0, 1, 2, 3, 4, 5, 6, 7, 8, 9, 10, 11, 12, 13, 14, 15, 16, 17, 18, 19, 20, 21, 22, 23, 24, 25, 26, 27, 28, 29, 30, 31, 32, 33, 34, 35, 36, 37] rfl
  have hD := hD.part (cx := (jw_ws out cJ 1 of ++ (bb_ws b0 bd0 pr0 t0 au0 da .null ++ (rw_ws da cJ (r8 d0 d1 d2 d3 d4 d5 d6 d7) ++ (bd_ws bd0 h0 ro lo 0 cR (rrf rb) (rrf lb) ++ (pr_ws pr0 h0 cm cJ ccf ++ (ha_ws h0 aw ax ay cJ cI w csc cst cL ++ (tt_ws t0 ka aa ba sa .null cJ tZ ++ (au_ws au0 bd0 pr0 tu0 0 ++ (tt_ws tu0 uka uaa uba usa gu cJ tZ ++ (mo_ws m0 e0 0 0 0 0 0 0 0 0 0 0 a0 a1 a2 a3 a4 a5 a6 a7 a8 a9 mb0 mb1 oc mb2 mb3 mb4 mb5 ++ (iw_ws a7 cI 256 bf ++ (iw_ws a8 cI 64 sc ++ (iw_ws a9 cI 8 st ++ (iw_ws mb0 cI 8 kS ++ (iw_ws mb1 cI 64 kR ++ (jw_ws a2 cJ 4 tf ++ (jw_ws a0 cJ 1232 nf ++ (jw_ws a1 cJ 616 cf ++ (iw_ws a4 cI 4 kf ++ (jw_ws mb2 cJ 4 ky ++ (jw_ws a3 cJ 16 lf ++ (iw_ws a5 cI 4 sf ++ (iw_ws a6 cI 64 vf ++ (jw_ws mb3 cJ 128 md ++ (jw_ws mb4 cJ 4 sh ++ iw_ws mb5 cI 64 ct)))))))))))))))))))))))))) [38, 39, 0, 1, 2, 3, 4, 5, 6, 7, 8, 9, 10, 11, 12, 13, 14, 15, 16, 17, 18, 19, 20, 21, 22, 23, 24, 25, 26, 27, 28, 29, 30, 31, 32, 33, 34, 35, 36, 37] (by decide) rfl
  generalize H1 = H at hP hS ⊢
  clear hPc hDc hFc hP1 hD1 hK1 ht hk1 hz1
  have hr9 : r_1 = 1 := hw
  subst hr9
  refine lv_istore (lv' := [(5, .int 1), (4, .int (nI i)), (3, .ref out), (2, .ref m0), (1, .ref b0), (0, .ref b)]) hx hb d_law_502 hl (by decide) rfl (fun ls hl => ?_)
  refine lv_aload_n hx hb d_law_504 rfl (lv_at hl 3 rfl) ?_
  refine lv_aload_n hx hb d_law_505 rfl (lv_at hl 5 rfl) ?_
  refine lv_iload hx hb d_law_506 (lv_at hl 1 rfl) ?_
  refine lv_iconst (v := 1) hx hb d_law_508 (by decide) ?_
  refine lv_iadd hx hb d_law_509 ?_
  rw [show ((nI i) + 1 : Int32) = nI (i + 1) from nI_add _ 1]
  refine va_sld hx hb hX hbl hbA hS (vp_in_nI (by omega) (by omega)) d_law_510 ?_
  rw [show (xs (nI (i + 1)).toNatClampNeg : Int32) = xs (i + 1) from by rw [nI_clamp (by omega)]]
  rw [show (xs (i + 1) : Int32) = x1 from hx1.symm]
  refine lv_aload_n hx hb d_law_511 rfl (lv_at hl 5 rfl) ?_
  refine lv_iload hx hb d_law_512 (lv_at hl 1 rfl) ?_
  refine lv_iconst (v := 2) hx hb d_law_514 (by decide) ?_
  refine lv_iadd hx hb d_law_515 ?_
  rw [show ((nI i) + 2 : Int32) = nI (i + 2) from nI_add _ 2]
  refine va_sld hx hb hX hbl hbA hS (vp_in_nI (by omega) (by omega)) d_law_516 ?_
  rw [show (xs (nI (i + 2)).toNatClampNeg : Int32) = xs (i + 2) from by rw [nI_clamp (by omega)]]
  refine lv_i2l (v := (xs (i + 2) : Int32).toInt64) hx hb d_law_517 rfl ?_
  refine lv_bipush (v := 32) hx hb d_law_518 (by decide) ?_
  refine lv_lshl (v := ((xs (i + 2) : Int32).toInt64 : Int64) <<< ((32 : Int32).toInt64 &&& 63)) hx hb d_law_520 rfl ?_
  refine lv_aload_n hx hb d_law_521 rfl (lv_at hl 5 rfl) ?_
  refine lv_iload hx hb d_law_522 (lv_at hl 1 rfl) ?_
  refine lv_iconst (v := 3) hx hb d_law_524 (by decide) ?_
  refine lv_iadd hx hb d_law_525 ?_
  rw [show ((nI i) + 3 : Int32) = nI (i + 3) from nI_add _ 3]
  refine va_sld hx hb hX hbl hbA hS (vp_in_nI (by omega) (by omega)) d_law_526 ?_
  rw [show (xs (nI (i + 3)).toNatClampNeg : Int32) = xs (i + 3) from by rw [nI_clamp (by omega)]]
  refine lv_i2l (v := (xs (i + 3) : Int32).toInt64) hx hb d_law_527 rfl ?_
  refine lv_ldc2 (v := 4294967295) hx hb hown (hts _ (List.mem_cons_of_mem _ gk_1202)) d_law_528 ?_
  refine lv_land hx hb d_law_531 ?_
  refine lv_lor hx hb d_law_532 ?_
  rw [show ((((xs (i + 2) : Int32).toInt64 : Int64) <<< ((32 : Int32).toInt64 &&& 63)) ||| (((xs (i + 3) : Int32).toInt64) &&& 4294967295) : Int64) = x2 from hx2.symm]
  refine lv_aload_n hx hb d_law_533 rfl (lv_at hl 5 rfl) ?_
  refine lv_iload hx hb d_law_534 (lv_at hl 1 rfl) ?_
  refine lv_iconst (v := 4) hx hb d_law_536 (by decide) ?_
  refine lv_iadd hx hb d_law_537 ?_
  rw [show ((nI i) + 4 : Int32) = nI (i + 4) from nI_add _ 4]
  refine va_sld hx hb hX hbl hbA hS (vp_in_nI (by omega) (by omega)) d_law_538 ?_
  rw [show (xs (nI (i + 4)).toNatClampNeg : Int32) = xs (i + 4) from by rw [nI_clamp (by omega)]]
  refine lv_i2l (v := (xs (i + 4) : Int32).toInt64) hx hb d_law_539 rfl ?_
  refine lv_bipush (v := 32) hx hb d_law_540 (by decide) ?_
  refine lv_lshl (v := ((xs (i + 4) : Int32).toInt64 : Int64) <<< ((32 : Int32).toInt64 &&& 63)) hx hb d_law_542 rfl ?_
  refine lv_aload_n hx hb d_law_543 rfl (lv_at hl 5 rfl) ?_
  refine lv_iload hx hb d_law_544 (lv_at hl 1 rfl) ?_
  refine lv_iconst (v := 5) hx hb d_law_546 (by decide) ?_
  refine lv_iadd hx hb d_law_547 ?_
  rw [show ((nI i) + 5 : Int32) = nI (i + 5) from nI_add _ 5]
  refine va_sld hx hb hX hbl hbA hS (vp_in_nI (by omega) (by omega)) d_law_548 ?_
  rw [show (xs (nI (i + 5)).toNatClampNeg : Int32) = xs (i + 5) from by rw [nI_clamp (by omega)]]
  refine lv_i2l (v := (xs (i + 5) : Int32).toInt64) hx hb d_law_549 rfl ?_
  refine lv_ldc2 (v := 4294967295) hx hb hown (hts _ (List.mem_cons_of_mem _ gk_1202)) d_law_550 ?_
  refine lv_land hx hb d_law_553 ?_
  refine lv_lor hx hb d_law_554 ?_
  rw [show ((((xs (i + 4) : Int32).toInt64 : Int64) <<< ((32 : Int32).toInt64 &&& 63)) ||| (((xs (i + 5) : Int32).toInt64) &&& 4294967295) : Int64) = x3 from hx3.symm]
  have hPc := hP.sub (ws' := (mo_ws m0 e0 0 0 0 0 0 0 0 0 0 0 a0 a1 a2 a3 a4 a5 a6 a7 a8 a9 mb0 mb1 oc mb2 mb3 mb4 mb5)) [23] rfl
  have hDc := hD.sub (ws' := (mo_ws m0 e0 0 0 0 0 0 0 0 0 0 0 a0 a1 a2 a3 a4 a5 a6 a7 a8 a9 mb0 mb1 oc mb2 mb3 mb4 mb5)) [23] (by decide) rfl
  have hKc := hK.sub (tys' := [(cJ, .long), (cI, .int)]) [0, 1] rfl
  have hFc := va_free (wc := (mo_ws m0 e0 0 0 0 0 0 0 0 0 0 0 a0 a1 a2 a3 a4 a5 a6 a7 a8 a9 mb0 mb1 oc mb2 mb3 mb4 mb5)) hD hS hA [23] rfl
  refine va_calli (va_runV (As := [.int x1, .long x2, .long x3]) (rest := []) ⟨hx, hb, hml, hown, hts⟩ (c_Bm_makeKey_n l dC dI cJ cI H.size m0 e0 0 0 0 0 0 0 0 0 0 0 a0 a1 a2 a3 a4 a5 a6 a7 a8 a9 mb0 mb1 oc mb2 mb3 mb4 mb5 x1 x2 x3 rfl) (cwV 3 hts (gw_V gk_1113 gk_1114 gk_1115 gk_7 gk_1116) rfl rfl rfl (by decide +kernel) ⟨(Nat.le_of_ble_eq_true rfl), (Nat.le_of_ble_eq_true rfl)⟩) ⟨fun a U g mk q => by obtain ⟨q0, q1, qP, qK, qD⟩ := q; exact ⟨q0, q1, qP, va_K.moved (u := U) (U := U.calling g mk a) (Vm.Alike.refl U.vm) qK, qD⟩, va_recv hK hP (ci := 8) (q0 := 23) rfl rfl, fun U hU hW => ⟨rfl, by rw [hU], by rw [hU]; exact hPc, va_K.moved hW.alike hKc, hDc.weaken (fun _ _ _ _ => trivial)⟩⟩ rfl rfl hl.1 rfl (lv_room (Nat.le_of_ble_eq_true rfl)) d_law_555 ⟨show cells + 8 + 0 ≤ 601024 by omega, show slots + 48 + 0 ≤ 7293034 by omega⟩) hS (fun q _ h => hFc q h) hFc (fun r_2 v9 t9 H1 locs ht hvm hw hB hz1 hk1 hS => ?_)
  obtain ⟨hP1, hK1, hD1⟩ := hB
  rw [ht] at hP1
  obtain ⟨hP, hD⟩ := va_joinQ (X := (jw_ws out cJ 1 of ++ (bb_ws b0 bd0 pr0 t0 au0 da .null ++ (rw_ws da cJ (r8 d0 d1 d2 d3 d4 d5 d6 d7) ++ (bd_ws bd0 h0 ro lo 0 cR (rrf rb) (rrf lb) ++ (pr_ws pr0 h0 cm cJ ccf ++ (ha_ws h0 aw ax ay cJ cI w csc cst cL ++ (tt_ws t0 ka aa ba sa .null cJ tZ ++ (au_ws au0 bd0 pr0 tu0 0 ++ (tt_ws tu0 uka uaa uba usa gu cJ tZ ++ (mo_ws m0 e0 0 0 0 0 0 0 0 0 0 0 a0 a1 a2 a3 a4 a5 a6 a7 a8 a9 mb0 mb1 oc mb2 mb3 mb4 mb5 ++ (iw_ws a7 cI 256 bf ++ (iw_ws a8 cI 64 sc ++ (iw_ws a9 cI 8 st ++ (iw_ws mb0 cI 8 kS ++ (iw_ws mb1 cI 64 kR ++ (jw_ws a2 cJ 4 tf ++ (jw_ws a0 cJ 1232 nf ++ (jw_ws a1 cJ 616 cf ++ (iw_ws a4 cI 4 kf ++ (jw_ws mb2 cJ 4 ky ++ (jw_ws a3 cJ 16 lf ++ (iw_ws a5 cI 4 sf ++ (iw_ws a6 cI 64 vf ++ (jw_ws mb3 cJ 128 md ++ (jw_ws mb4 cJ 4 sh ++ iw_ws mb5 cI 64 ct)))))))))))))))))))))))))) (cx := (mo_ws m0 e0 0 0 0 0 0 0 0 0 0 0 a0 a1 a2 a3 a4 a5 a6 a7 a8 a9 mb0 mb1 oc mb2 mb3 mb4 mb5)) (wr := (jw_ws out cJ 1 of ++ (bb_ws b0 bd0 pr0 t0 au0 da .null ++ (rw_ws da cJ (r8 d0 d1 d2 d3 d4 d5 d6 d7) ++ (bd_ws bd0 h0 ro lo 0 cR (rrf rb) (rrf lb) ++ (pr_ws pr0 h0 cm cJ ccf ++ (ha_ws h0 aw ax ay cJ cI w csc cst cL ++ (tt_ws t0 ka aa ba sa .null cJ tZ ++ (au_ws au0 bd0 pr0 tu0 0 ++ (tt_ws tu0 uka uaa uba usa gu cJ tZ ++ (iw_ws a7 cI 256 bf ++ (iw_ws a8 cI 64 sc ++ (iw_ws a9 cI 8 st ++ (iw_ws mb0 cI 8 kS ++ (iw_ws mb1 cI 64 kR ++ (jw_ws a2 cJ 4 tf ++ (jw_ws a0 cJ 1232 nf ++ (jw_ws a1 cJ 616 cf ++ (iw_ws a4 cI 4 kf ++ (jw_ws mb2 cJ 4 ky ++ (jw_ws a3 cJ 16 lf ++ (iw_ws a5 cI 4 sf ++ (iw_ws a6 cI 64 vf ++ (jw_ws mb3 cJ 128 md ++ (jw_ws mb4 cJ 4 sh ++ iw_ws mb5 cI 64 ct))))))))))))))))))))))))) (w1 := (mo_ws m0 1 0 0 0 0 0 0 0 0 0 0 a0 a1 a2 a3 a4 a5 a6 a7 a8 a9 mb0 mb1 oc mb2 mb3 mb4 mb5)) (pl := bpool rb lb cJ R Lk) hP hD [23] [0, 1, 2, 3, 4, 5, 6, 7, 8, 9, 10, 11, 12, 13, 14, 15, 16, 17, 18, 19, 20, 21, 22, 24, 25, 26, 27, 28, 29, 30, 31, 32, 33, 34, 35, 36, 37, 38, 39] rfl rfl (by decide) (by decide) hk1 hFc hP1 hD1
  have hP := hP.part (cx := (jw_ws out cJ 1 of ++ (bb_ws b0 bd0 pr0 t0 au0 da .null ++ (rw_ws da cJ (r8 d0 d1 d2 d3 d4 d5 d6 d7) ++ (bd_ws bd0 h0 ro lo 0 cR (rrf rb) (rrf lb) ++ (pr_ws pr0 h0 cm cJ ccf ++ (ha_ws h0 aw ax ay cJ cI w csc cst cL ++ (tt_ws t0 ka aa ba sa .null cJ tZ ++ (au_ws au0 bd0 pr0 tu0 0 ++ (tt_ws tu0 uka uaa uba usa gu cJ tZ ++ (mo_ws m0 1 0 0 0 0 0 0 0 0 0 0 a0 a1 a2 a3 a4 a5 a6 a7 a8 a9 mb0 mb1 oc mb2 mb3 mb4 mb5 ++ (iw_ws a7 cI 256 bf ++ (iw_ws a8 cI 64 sc ++ (iw_ws a9 cI 8 st ++ (iw_ws mb0 cI 8 kS ++ (iw_ws mb1 cI 64 kR ++ (jw_ws a2 cJ 4 tf ++ (jw_ws a0 cJ 1232 nf ++ (jw_ws a1 cJ 616 cf ++ (iw_ws a4 cI 4 kf ++ (jw_ws mb2 cJ 4 ky ++ (jw_ws a3 cJ 16 lf ++ (iw_ws a5 cI 4 sf ++ (iw_ws a6 cI 64 vf ++ (jw_ws mb3 cJ 128 md ++ (jw_ws mb4 cJ 4 sh ++ iw_ws mb5 cI 64 ct)))))))))))))))))))))))))) [0, 1, 2, 3, 4, 5, 6, 7, 8, 9, 10, 11, 12, 13, 14, 15, 16, 17, 18, 19, 20, 21, 22, 39, 23, 24, 25, 26, 27, 28, 29, 30, 31, 32, 33, 34, 35, 36, 37, 38] rfl
  have hD := hD.part (cx := (jw_ws out cJ 1 of ++ (bb_ws b0 bd0 pr0 t0 au0 da .null ++ (rw_ws da cJ (r8 d0 d1 d2 d3 d4 d5 d6 d7) ++ (bd_ws bd0 h0 ro lo 0 cR (rrf rb) (rrf lb) ++ (pr_ws pr0 h0 cm cJ ccf ++ (ha_ws h0 aw ax ay cJ cI w csc cst cL ++ (tt_ws t0 ka aa ba sa .null cJ tZ ++ (au_ws au0 bd0 pr0 tu0 0 ++ (tt_ws tu0 uka uaa uba usa gu cJ tZ ++ (mo_ws m0 1 0 0 0 0 0 0 0 0 0 0 a0 a1 a2 a3 a4 a5 a6 a7 a8 a9 mb0 mb1 oc mb2 mb3 mb4 mb5 ++ (iw_ws a7 cI 256 bf ++ (iw_ws a8 cI 64 sc ++ (iw_ws a9 cI 8 st ++ (iw_ws mb0 cI 8 kS ++ (iw_ws mb1 cI 64 kR ++ (jw_ws a2 cJ 4 tf ++ (jw_ws a0 cJ 1232 nf ++ (jw_ws a1 cJ 616 cf ++ (iw_ws a4 cI 4 kf ++ (jw_ws mb2 cJ 4 ky ++ (jw_ws a3 cJ 16 lf ++ (iw_ws a5 cI 4 sf ++ (iw_ws a6 cI 64 vf ++ (jw_ws mb3 cJ 128 md ++ (jw_ws mb4 cJ 4 sh ++ iw_ws mb5 cI 64 ct)))))))))))))))))))))))))) [0, 1, 2, 3, 4, 5, 6, 7, 8, 9, 10, 11, 12, 13, 14, 15, 16, 17, 18, 19, 20, 21, 22, 39, 23, 24, 25, 26, 27, 28, 29, 30, 31, 32, 33, 34, 35, 36, 37, 38] (by decide) rfl
  generalize H1 = H at hP hS ⊢
  clear hPc hDc hFc hP1 hD1 hK1 ht hk1 hz1
  refine lv_istore (lv' := [(6, .int r_2), (5, .int 1), (4, .int (nI i)), (3, .ref out), (2, .ref m0), (1, .ref b0), (0, .ref b)]) hx hb d_law_558 hl (by decide) rfl (fun ls hl => ?_)
  refine lv_aload_n hx hb d_law_560 rfl (lv_at hl 4 rfl) ?_
  have hPc := hP.sub (ws' := (mo_ws m0 1 0 0 0 0 0 0 0 0 0 0 a0 a1 a2 a3 a4 a5 a6 a7 a8 a9 mb0 mb1 oc mb2 mb3 mb4 mb5)) [23] rfl
  have hKc := hK.sub (tys' := [(cJ, .long), (cI, .int)]) [0, 1] rfl
  refine va_calli (va_runV (As := []) (rest := []) ⟨hx, hb, hml, hown, hts⟩ (c_Bm_thrown l H dC dI cJ cI m0 1 0 0 0 0 0 0 0 0 0 0 a0 a1 a2 a3 a4 a5 a6 a7 a8 a9 mb0 mb1 oc mb2 mb3 mb4 mb5 hPc) (cwV 0 hts (gw_V gk_1004 gk_1005 gk_1006 gk_7 gk_1007) rfl rfl rfl (by decide +kernel) ⟨(Nat.le_of_ble_eq_true rfl), (Nat.le_of_ble_eq_true rfl)⟩) ⟨fun a U g mk q => ⟨q.1, q.2.1, va_K.moved (u := U) (U := U.calling g mk a) (Vm.Alike.refl U.vm) q.2.2⟩, va_recv hK hP (ci := 8) (q0 := 23) rfl rfl, fun U hU hW => ⟨rfl, hU, va_K.moved hW.alike hKc⟩⟩ rfl rfl hl.1 rfl (lv_room (Nat.le_of_ble_eq_true rfl)) d_law_561 ⟨show cells + 8 + 0 + 0 ≤ 601024 by omega, show slots + 48 + 0 + 0 ≤ 7293034 by omega⟩) hS (fun q _ h => h.elim) (fun q h => h.elim) (fun r_3 w9 t9 H1 locs ht hvm hw9 hB hz1 hk1 hS => ?_)
  obtain rfl : H = H1 := hB.symm.trans ht
  have hw9 : r_3 = 1 := hw9
  subst hw9
  clear hPc hz1 hk1 hB
  refine lv_iload hx hb d_law_564 (lv_at hl 1 rfl) ?_
  refine lv_icmp_eq (tgt := 571) hx hb d_law_566 (by decide) (fun c_4 => ?_) (fun c_4 => ?_)
  · -- taken
    refine lv_iload hx hb d_law_571 (lv_at hl 1 rfl) ?_
    refine lv_if_ne (tgt := 588) hx hb d_law_573 (by decide) (fun c_5 => ?_) (fun c_5 => ?_)
    · -- taken
      refine lv_goto (tgt := 1965) hx hb d_law_588 (by decide) ?_
      refine W.widen (k := cells + 20) (n := slots + 200) (by omega) (by omega) ?_
      have hI9 : LI dC dI cJ cI cR A out b0 m0 H := LF.mk hP hD
      exact cont _ _ _ hS hI9 (lv_sub hl [2, 3, 4, 5, 6] rfl)
    · -- not taken
      exact absurd c_5 (by decide)
  · -- not taken
    exact absurd c_4 (by decide)
set_option maxHeartbeats 16000000 in
set_option maxRecDepth 100000 in
theorem bk_ballot_f {p : Program} {l : Launch} {e : Env} {s : State} {m : MethodId} {below : List Frame} {meth : Method} {c : Code} {b L : Nat} {xs : Nat → Int32} {dC : Nat → ClassId} {dI : Nat → Nat → Nat} {cJ cI cR : ClassId} {A : Nat → Prop} {out b0 m0 : Nat} {rA sA wA : Nat} (C : LC p l s m meth c b L xs dC dI cJ cI cR A rA sA wA) {i cells slots : Nat} (hi : i + 14 ≤ L) (hcs : cells + 20 ≤ 601024 ∧ slots + 200 ≤ 7293034) (cont : LK p l e s m below meth c b dC dI cJ cI cR A out b0 m0 i (cells + 20) (slots + 200) 1965) {H : Heap} {locs : List Loc} {ls : Array Slot} (hS : va_S A s.heap H locs) (hI : LF dC dI cJ cI cR A out b0 m0 H) (hl : lv_has ls 8 [(4, .int (nI i)), (3, .ref out), (2, .ref m0), (1, .ref b0), (0, .ref b)]) : W p l e room_1 s m #[Value.ref b] below meth c H locs cells slots (lw_Z below #[Value.ref b] s) (F0 m 591 ls []) := by
  obtain ⟨hnt, ⟨hx, hb, hr, hml, hown, hts0, hX, hbl, hlocks, hgv⟩, hK, hA, hbA, hZha, hZx, hZn, hZw, hL⟩ := C
  have hown : s.vm.findClass "BallotBoardLaw" = some m.cls := hown
  have hts := lw_hts hts0
  refine hI _ (fun bd0 pr0 t0 au0 da h0 ro lo rb lb cm aw ax ay ka aa ba sa tu0 uka uaa uba usa a0 a1 a2 a3 a4 a5 a6 a7 a8 a9 mb0 mb1 oc mb2 mb3 mb4 mb5 cL of w tf nf cf ky lf md sh ccf csc cst bf sc st kf sf vf ct gu d0 d1 d2 d3 d4 d5 d6 d7 e0 R Lk hP hD => ?_)
  obtain ⟨x1, hx1⟩ : ∃ v, v = xs (i + 1) := ⟨_, rfl⟩
  obtain ⟨x2, hx2⟩ : ∃ v, v = jl (xs (i + 2)) (xs (i + 3)) := ⟨_, rfl⟩
  obtain ⟨x3, hx3⟩ : ∃ v, v = jl (xs (i + 4)) (xs (i + 5)) := ⟨_, rfl⟩
  obtain ⟨x4, hx4⟩ : ∃ v, v = jl (xs (i + 6)) (xs (i + 7)) := ⟨_, rfl⟩
  obtain ⟨x5, hx5⟩ : ∃ v, v = jl (xs (i + 8)) (xs (i + 9)) := ⟨_, rfl⟩
  obtain ⟨x6, hx6⟩ : ∃ v, v = jl (xs (i + 10)) (xs (i + 11)) := ⟨_, rfl⟩
  obtain ⟨x7, hx7⟩ : ∃ v, v = jl (xs (i + 12)) (xs (i + 13)) := ⟨_, rfl⟩
  refine lv_aload_n hx hb d_law_591 rfl (lv_at hl 3 rfl) ?_
  refine lv_aload_n hx hb d_law_592 rfl (lv_at hl 4 rfl) ?_
  refine lv_iload hx hb d_law_593 (lv_at hl 0 rfl) ?_
  refine lv_iconst (v := 1) hx hb d_law_595 (by decide) ?_
  refine lv_iadd hx hb d_law_596 ?_
  rw [show ((nI i) + 1 : Int32) = nI (i + 1) from nI_add _ 1]
  refine va_sld hx hb hX hbl hbA hS (vp_in_nI (by omega) (by omega)) d_law_597 ?_
  rw [show (xs (nI (i + 1)).toNatClampNeg : Int32) = xs (i + 1) from by rw [nI_clamp (by omega)]]
  rw [show (xs (i + 1) : Int32) = x1 from hx1.symm]
  refine lv_aload_n hx hb d_law_598 rfl (lv_at hl 4 rfl) ?_
  refine lv_iload hx hb d_law_599 (lv_at hl 0 rfl) ?_
  refine lv_iconst (v := 2) hx hb d_law_601 (by decide) ?_
  refine lv_iadd hx hb d_law_602 ?_
  rw [show ((nI i) + 2 : Int32) = nI (i + 2) from nI_add _ 2]
  refine va_sld hx hb hX hbl hbA hS (vp_in_nI (by omega) (by omega)) d_law_603 ?_
  rw [show (xs (nI (i + 2)).toNatClampNeg : Int32) = xs (i + 2) from by rw [nI_clamp (by omega)]]
  refine lv_i2l (v := (xs (i + 2) : Int32).toInt64) hx hb d_law_604 rfl ?_
  refine lv_bipush (v := 32) hx hb d_law_605 (by decide) ?_
  refine lv_lshl (v := ((xs (i + 2) : Int32).toInt64 : Int64) <<< ((32 : Int32).toInt64 &&& 63)) hx hb d_law_607 rfl ?_
  refine lv_aload_n hx hb d_law_608 rfl (lv_at hl 4 rfl) ?_
  refine lv_iload hx hb d_law_609 (lv_at hl 0 rfl) ?_
  refine lv_iconst (v := 3) hx hb d_law_611 (by decide) ?_
  refine lv_iadd hx hb d_law_612 ?_
  rw [show ((nI i) + 3 : Int32) = nI (i + 3) from nI_add _ 3]
  refine va_sld hx hb hX hbl hbA hS (vp_in_nI (by omega) (by omega)) d_law_613 ?_
  rw [show (xs (nI (i + 3)).toNatClampNeg : Int32) = xs (i + 3) from by rw [nI_clamp (by omega)]]
  refine lv_i2l (v := (xs (i + 3) : Int32).toInt64) hx hb d_law_614 rfl ?_
  refine lv_ldc2 (v := 4294967295) hx hb hown (hts _ (List.mem_cons_of_mem _ gk_1202)) d_law_615 ?_
  refine lv_land hx hb d_law_618 ?_
  refine lv_lor hx hb d_law_619 ?_
  rw [show ((((xs (i + 2) : Int32).toInt64 : Int64) <<< ((32 : Int32).toInt64 &&& 63)) ||| (((xs (i + 3) : Int32).toInt64) &&& 4294967295) : Int64) = x2 from hx2.symm]
  refine lv_aload_n hx hb d_law_620 rfl (lv_at hl 4 rfl) ?_
  refine lv_iload hx hb d_law_621 (lv_at hl 0 rfl) ?_
  refine lv_iconst (v := 4) hx hb d_law_623 (by decide) ?_
  refine lv_iadd hx hb d_law_624 ?_
  rw [show ((nI i) + 4 : Int32) = nI (i + 4) from nI_add _ 4]
  refine va_sld hx hb hX hbl hbA hS (vp_in_nI (by omega) (by omega)) d_law_625 ?_
  rw [show (xs (nI (i + 4)).toNatClampNeg : Int32) = xs (i + 4) from by rw [nI_clamp (by omega)]]
  refine lv_i2l (v := (xs (i + 4) : Int32).toInt64) hx hb d_law_626 rfl ?_
  refine lv_bipush (v := 32) hx hb d_law_627 (by decide) ?_
  refine lv_lshl (v := ((xs (i + 4) : Int32).toInt64 : Int64) <<< ((32 : Int32).toInt64 &&& 63)) hx hb d_law_629 rfl ?_
  refine lv_aload_n hx hb d_law_630 rfl (lv_at hl 4 rfl) ?_
  refine lv_iload hx hb d_law_631 (lv_at hl 0 rfl) ?_
  refine lv_iconst (v := 5) hx hb d_law_633 (by decide) ?_
  refine lv_iadd hx hb d_law_634 ?_
  rw [show ((nI i) + 5 : Int32) = nI (i + 5) from nI_add _ 5]
  refine va_sld hx hb hX hbl hbA hS (vp_in_nI (by omega) (by omega)) d_law_635 ?_
  rw [show (xs (nI (i + 5)).toNatClampNeg : Int32) = xs (i + 5) from by rw [nI_clamp (by omega)]]
  refine lv_i2l (v := (xs (i + 5) : Int32).toInt64) hx hb d_law_636 rfl ?_
  refine lv_ldc2 (v := 4294967295) hx hb hown (hts _ (List.mem_cons_of_mem _ gk_1202)) d_law_637 ?_
  refine lv_land hx hb d_law_640 ?_
  refine lv_lor hx hb d_law_641 ?_
  rw [show ((((xs (i + 4) : Int32).toInt64 : Int64) <<< ((32 : Int32).toInt64 &&& 63)) ||| (((xs (i + 5) : Int32).toInt64) &&& 4294967295) : Int64) = x3 from hx3.symm]
  refine lv_aload_n hx hb d_law_642 rfl (lv_at hl 4 rfl) ?_
  refine lv_iload hx hb d_law_643 (lv_at hl 0 rfl) ?_
  refine lv_bipush (v := 6) hx hb d_law_645 (by decide) ?_
  refine lv_iadd hx hb d_law_647 ?_
  rw [show ((nI i) + 6 : Int32) = nI (i + 6) from nI_add _ 6]
  refine va_sld hx hb hX hbl hbA hS (vp_in_nI (by omega) (by omega)) d_law_648 ?_
  rw [show (xs (nI (i + 6)).toNatClampNeg : Int32) = xs (i + 6) from by rw [nI_clamp (by omega)]]
  refine lv_i2l (v := (xs (i + 6) : Int32).toInt64) hx hb d_law_649 rfl ?_
  refine lv_bipush (v := 32) hx hb d_law_650 (by decide) ?_
  refine lv_lshl (v := ((xs (i + 6) : Int32).toInt64 : Int64) <<< ((32 : Int32).toInt64 &&& 63)) hx hb d_law_652 rfl ?_
  refine lv_aload_n hx hb d_law_653 rfl (lv_at hl 4 rfl) ?_
  refine lv_iload hx hb d_law_654 (lv_at hl 0 rfl) ?_
  refine lv_bipush (v := 7) hx hb d_law_656 (by decide) ?_
  refine lv_iadd hx hb d_law_658 ?_
  rw [show ((nI i) + 7 : Int32) = nI (i + 7) from nI_add _ 7]
  refine va_sld hx hb hX hbl hbA hS (vp_in_nI (by omega) (by omega)) d_law_659 ?_
  rw [show (xs (nI (i + 7)).toNatClampNeg : Int32) = xs (i + 7) from by rw [nI_clamp (by omega)]]
  refine lv_i2l (v := (xs (i + 7) : Int32).toInt64) hx hb d_law_660 rfl ?_
  refine lv_ldc2 (v := 4294967295) hx hb hown (hts _ (List.mem_cons_of_mem _ gk_1202)) d_law_661 ?_
  refine lv_land hx hb d_law_664 ?_
  refine lv_lor hx hb d_law_665 ?_
  rw [show ((((xs (i + 6) : Int32).toInt64 : Int64) <<< ((32 : Int32).toInt64 &&& 63)) ||| (((xs (i + 7) : Int32).toInt64) &&& 4294967295) : Int64) = x4 from hx4.symm]
  refine lv_aload_n hx hb d_law_666 rfl (lv_at hl 4 rfl) ?_
  refine lv_iload hx hb d_law_667 (lv_at hl 0 rfl) ?_
  refine lv_bipush (v := 8) hx hb d_law_669 (by decide) ?_
  refine lv_iadd hx hb d_law_671 ?_
  rw [show ((nI i) + 8 : Int32) = nI (i + 8) from nI_add _ 8]
  refine va_sld hx hb hX hbl hbA hS (vp_in_nI (by omega) (by omega)) d_law_672 ?_
  rw [show (xs (nI (i + 8)).toNatClampNeg : Int32) = xs (i + 8) from by rw [nI_clamp (by omega)]]
  refine lv_i2l (v := (xs (i + 8) : Int32).toInt64) hx hb d_law_673 rfl ?_
  refine lv_bipush (v := 32) hx hb d_law_674 (by decide) ?_
  refine lv_lshl (v := ((xs (i + 8) : Int32).toInt64 : Int64) <<< ((32 : Int32).toInt64 &&& 63)) hx hb d_law_676 rfl ?_
  refine lv_aload_n hx hb d_law_677 rfl (lv_at hl 4 rfl) ?_
  refine lv_iload hx hb d_law_678 (lv_at hl 0 rfl) ?_
  refine lv_bipush (v := 9) hx hb d_law_680 (by decide) ?_
  refine lv_iadd hx hb d_law_682 ?_
  rw [show ((nI i) + 9 : Int32) = nI (i + 9) from nI_add _ 9]
  refine va_sld hx hb hX hbl hbA hS (vp_in_nI (by omega) (by omega)) d_law_683 ?_
  rw [show (xs (nI (i + 9)).toNatClampNeg : Int32) = xs (i + 9) from by rw [nI_clamp (by omega)]]
  refine lv_i2l (v := (xs (i + 9) : Int32).toInt64) hx hb d_law_684 rfl ?_
  refine lv_ldc2 (v := 4294967295) hx hb hown (hts _ (List.mem_cons_of_mem _ gk_1202)) d_law_685 ?_
  refine lv_land hx hb d_law_688 ?_
  refine lv_lor hx hb d_law_689 ?_
  rw [show ((((xs (i + 8) : Int32).toInt64 : Int64) <<< ((32 : Int32).toInt64 &&& 63)) ||| (((xs (i + 9) : Int32).toInt64) &&& 4294967295) : Int64) = x5 from hx5.symm]
  refine lv_aload_n hx hb d_law_690 rfl (lv_at hl 4 rfl) ?_
  refine lv_iload hx hb d_law_691 (lv_at hl 0 rfl) ?_
  refine lv_bipush (v := 10) hx hb d_law_693 (by decide) ?_
  refine lv_iadd hx hb d_law_695 ?_
  rw [show ((nI i) + 10 : Int32) = nI (i + 10) from nI_add _ 10]
  refine va_sld hx hb hX hbl hbA hS (vp_in_nI (by omega) (by omega)) d_law_696 ?_
  rw [show (xs (nI (i + 10)).toNatClampNeg : Int32) = xs (i + 10) from by rw [nI_clamp (by omega)]]
  refine lv_i2l (v := (xs (i + 10) : Int32).toInt64) hx hb d_law_697 rfl ?_
  refine lv_bipush (v := 32) hx hb d_law_698 (by decide) ?_
  refine lv_lshl (v := ((xs (i + 10) : Int32).toInt64 : Int64) <<< ((32 : Int32).toInt64 &&& 63)) hx hb d_law_700 rfl ?_
  refine lv_aload_n hx hb d_law_701 rfl (lv_at hl 4 rfl) ?_
  refine lv_iload hx hb d_law_702 (lv_at hl 0 rfl) ?_
  refine lv_bipush (v := 11) hx hb d_law_704 (by decide) ?_
  refine lv_iadd hx hb d_law_706 ?_
  rw [show ((nI i) + 11 : Int32) = nI (i + 11) from nI_add _ 11]
  refine va_sld hx hb hX hbl hbA hS (vp_in_nI (by omega) (by omega)) d_law_707 ?_
  rw [show (xs (nI (i + 11)).toNatClampNeg : Int32) = xs (i + 11) from by rw [nI_clamp (by omega)]]
  refine lv_i2l (v := (xs (i + 11) : Int32).toInt64) hx hb d_law_708 rfl ?_
  refine lv_ldc2 (v := 4294967295) hx hb hown (hts _ (List.mem_cons_of_mem _ gk_1202)) d_law_709 ?_
  refine lv_land hx hb d_law_712 ?_
  refine lv_lor hx hb d_law_713 ?_
  rw [show ((((xs (i + 10) : Int32).toInt64 : Int64) <<< ((32 : Int32).toInt64 &&& 63)) ||| (((xs (i + 11) : Int32).toInt64) &&& 4294967295) : Int64) = x6 from hx6.symm]
  refine lv_aload_n hx hb d_law_714 rfl (lv_at hl 4 rfl) ?_
  refine lv_iload hx hb d_law_715 (lv_at hl 0 rfl) ?_
  refine lv_bipush (v := 12) hx hb d_law_717 (by decide) ?_
  refine lv_iadd hx hb d_law_719 ?_
  rw [show ((nI i) + 12 : Int32) = nI (i + 12) from nI_add _ 12]
  refine va_sld hx hb hX hbl hbA hS (vp_in_nI (by omega) (by omega)) d_law_720 ?_
  rw [show (xs (nI (i + 12)).toNatClampNeg : Int32) = xs (i + 12) from by rw [nI_clamp (by omega)]]
  refine lv_i2l (v := (xs (i + 12) : Int32).toInt64) hx hb d_law_721 rfl ?_
  refine lv_bipush (v := 32) hx hb d_law_722 (by decide) ?_
  refine lv_lshl (v := ((xs (i + 12) : Int32).toInt64 : Int64) <<< ((32 : Int32).toInt64 &&& 63)) hx hb d_law_724 rfl ?_
  refine lv_aload_n hx hb d_law_725 rfl (lv_at hl 4 rfl) ?_
  refine lv_iload hx hb d_law_726 (lv_at hl 0 rfl) ?_
  refine lv_bipush (v := 13) hx hb d_law_728 (by decide) ?_
  refine lv_iadd hx hb d_law_730 ?_
  rw [show ((nI i) + 13 : Int32) = nI (i + 13) from nI_add _ 13]
  refine va_sld hx hb hX hbl hbA hS (vp_in_nI (by omega) (by omega)) d_law_731 ?_
  rw [show (xs (nI (i + 13)).toNatClampNeg : Int32) = xs (i + 13) from by rw [nI_clamp (by omega)]]
  refine lv_i2l (v := (xs (i + 13) : Int32).toInt64) hx hb d_law_732 rfl ?_
  refine lv_ldc2 (v := 4294967295) hx hb hown (hts _ (List.mem_cons_of_mem _ gk_1202)) d_law_733 ?_
  refine lv_land hx hb d_law_736 ?_
  refine lv_lor hx hb d_law_737 ?_
  rw [show ((((xs (i + 12) : Int32).toInt64 : Int64) <<< ((32 : Int32).toInt64 &&& 63)) ||| (((xs (i + 13) : Int32).toInt64) &&& 4294967295) : Int64) = x7 from hx7.symm]
  refine lv_aload_n hx hb d_law_738 rfl (lv_at hl 1 rfl) ?_
  have hPc := hP.sub (ws' := (jw_ws out cJ 1 of ++ bb_ws b0 bd0 pr0 t0 au0 da .null)) [0, 1] rfl
  have hDc := hD.sub (ws' := (jw_ws out cJ 1 of ++ bb_ws b0 bd0 pr0 t0 au0 da .null)) [0, 1] (by decide) rfl
  have hKc := hK.sub (tys' := [(cJ, .long), (cI, .int), (cR, .array .long)]) [0, 1, 2] rfl
  have hFc := va_free (wc := (jw_ws out cJ 1 of ++ bb_ws b0 bd0 pr0 t0 au0 da .null)) hD hS hA [0, 1] rfl
  have hZc0 : xz (va_A (jw_ws out cJ 1 of ++ bb_ws b0 bd0 pr0 t0 au0 da .null) H.size) s H := (hZx.kept hS.2.1).narrow hFc
  have hZc1 : nc_Z s := hZn
  refine vx_calli (vx_runSX (hh := h_Lw_ballot) (As := [.ref b0, .int x1, .long x2, .long x3, .long x4, .long x5, .long x6, .long x7, .ref out]) (rest := []) ⟨hx, hb, hml, hown, hts⟩ (c_Lw_ballot_n l hnt dC dI cJ cI cR H.size b0 bd0 pr0 t0 au0 da x1 x2 x3 x4 x5 x6 x7 out of) (vx_cwSW 9 hts (gw_Sv gk_624 gk_625 gk_0 gk_626) rfl rfl rfl (by decide +kernel) ⟨(Nat.le_of_ble_eq_true rfl), (Nat.le_of_ble_eq_true rfl)⟩) ⟨fun a U g mk q => by obtain ⟨q0, q1, qP, qK, qD, qZ0, qZ1⟩ := q; exact ⟨q0, q1, qP, va_K.moved (u := U) (U := U.calling g mk a) (Vm.Alike.refl U.vm) qK, qD, xz.same (u := U) (U := U.calling g mk a) rfl qZ0, nc_Z.moved (u := U) (U := U.calling g mk a) (Vm.Alike.refl U.vm) qZ1⟩, fun U hU hW => ⟨rfl, by rw [hU], by rw [hU]; exact hPc, va_K.moved hW.alike hKc, hDc.weaken (fun _ _ _ _ => trivial), by rw [hU]; exact xz.warm hW hZc0, nc_Z.moved hW.alike hZc1⟩⟩ rfl rfl hl.1 rfl (lv_room (Nat.le_of_ble_eq_true rfl)) d_law_739 ⟨show cells + 8 ≤ 601024 by omega, show slots + 48 ≤ 7293034 by omega⟩) hS (fun q _ h => hFc q h) hFc (fun q _ h => hFc q h) (fun E9 ce9 q9 u8 t9 H1 locs ht hvm hpx hbx hz1 hk1 hS hce hcv hcl => hpx.elim) (fun r_1 u9 t9 H1 locs ht hvm hw hB hz1 hk1 hS => ?_)
  obtain ⟨hP1, hK1, hD1⟩ := hB
  rw [ht] at hP1
  obtain ⟨hP, hD⟩ := va_joinQ (X := (jw_ws out cJ 1 of ++ (bb_ws b0 bd0 pr0 t0 au0 da .null ++ (rw_ws da cJ (r8 d0 d1 d2 d3 d4 d5 d6 d7) ++ (bd_ws bd0 h0 ro lo 0 cR (rrf rb) (rrf lb) ++ (pr_ws pr0 h0 cm cJ ccf ++ (ha_ws h0 aw ax ay cJ cI w csc cst cL ++ (tt_ws t0 ka aa ba sa .null cJ tZ ++ (au_ws au0 bd0 pr0 tu0 0 ++ (tt_ws tu0 uka uaa uba usa gu cJ tZ ++ (mo_ws m0 e0 0 0 0 0 0 0 0 0 0 0 a0 a1 a2 a3 a4 a5 a6 a7 a8 a9 mb0 mb1 oc mb2 mb3 mb4 mb5 ++ (iw_ws a7 cI 256 bf ++ (iw_ws a8 cI 64 sc ++ (iw_ws a9 cI 8 st ++ (iw_ws mb0 cI 8 kS ++ (iw_ws mb1 cI 64 kR ++ (jw_ws a2 cJ 4 tf ++ (jw_ws a0 cJ 1232 nf ++ (jw_ws a1 cJ 616 cf ++ (iw_ws a4 cI 4 kf ++ (jw_ws mb2 cJ 4 ky ++ (jw_ws a3 cJ 16 lf ++ (iw_ws a5 cI 4 sf ++ (iw_ws a6 cI 64 vf ++ (jw_ws mb3 cJ 128 md ++ (jw_ws mb4 cJ 4 sh ++ iw_ws mb5 cI 64 ct)))))))))))))))))))))))))) (cx := (jw_ws out cJ 1 of ++ bb_ws b0 bd0 pr0 t0 au0 da .null)) (wr := (rw_ws da cJ (r8 d0 d1 d2 d3 d4 d5 d6 d7) ++ (bd_ws bd0 h0 ro lo 0 cR (rrf rb) (rrf lb) ++ (pr_ws pr0 h0 cm cJ ccf ++ (ha_ws h0 aw ax ay cJ cI w csc cst cL ++ (tt_ws t0 ka aa ba sa .null cJ tZ ++ (au_ws au0 bd0 pr0 tu0 0 ++ (tt_ws tu0 uka uaa uba usa gu cJ tZ ++ (mo_ws m0 e0 0 0 0 0 0 0 0 0 0 0 a0 a1 a2 a3 a4 a5 a6 a7 a8 a9 mb0 mb1 oc mb2 mb3 mb4 mb5 ++ (iw_ws a7 cI 256 bf ++ (iw_ws a8 cI 64 sc ++ (iw_ws a9 cI 8 st ++ (iw_ws mb0 cI 8 kS ++ (iw_ws mb1 cI 64 kR ++ (jw_ws a2 cJ 4 tf ++ (jw_ws a0 cJ 1232 nf ++ (jw_ws a1 cJ 616 cf ++ (iw_ws a4 cI 4 kf ++ (jw_ws mb2 cJ 4 ky ++ (jw_ws a3 cJ 16 lf ++ (iw_ws a5 cI 4 sf ++ (iw_ws a6 cI 64 vf ++ (jw_ws mb3 cJ 128 md ++ (jw_ws mb4 cJ 4 sh ++ iw_ws mb5 cI 64 ct)))))))))))))))))))))))) (w1 := (jw_ws out cJ 1 of ++ bb_ws b0 bd0 pr0 t0 au0 da .null)) (pl := bpool rb lb cJ R Lk) hP hD [0, 1] [2, 3, 4, 5, 6, 7, 8, 9, 10, 11, 12, 13, 14, 15, 16, 17, 18, 19, 20, 21, 22, 23, 24, 25, 26, 27, 28, 29, 30, 31, 32, 33, 34, 35, 36, 37, 38, 39] rfl rfl (by decide) (by decide) hk1 hFc hP1 hD1
  have hP := hP.part (cx := (jw_ws out cJ 1 of ++ (bb_ws b0 bd0 pr0 t0 au0 da .null ++ (rw_ws da cJ (r8 d0 d1 d2 d3 d4 d5 d6 d7) ++ (bd_ws bd0 h0 ro lo 0 cR (rrf rb) (rrf lb) ++ (pr_ws pr0 h0 cm cJ ccf ++ (ha_ws h0 aw ax ay cJ cI w csc cst cL ++ (tt_ws t0 ka aa ba sa .null cJ tZ ++ (au_ws au0 bd0 pr0 tu0 0 ++ (tt_ws tu0 uka uaa uba usa gu cJ tZ ++ (mo_ws m0 e0 0 0 0 0 0 0 0 0 0 0 a0 a1 a2 a3 a4 a5 a6 a7 a8 a9 mb0 mb1 oc mb2 mb3 mb4 mb5 ++ (iw_ws a7 cI 256 bf ++ (iw_ws a8 cI 64 sc ++ (iw_ws a9 cI 8 st ++ (iw_ws mb0 cI 8 kS ++ (iw_ws mb1 cI 64 kR ++ (jw_ws a2 cJ 4 tf ++ (jw_ws a0 cJ 1232 nf ++ (jw_ws a1 cJ 616 cf ++ (iw_ws a4 cI 4 kf ++ (jw_ws mb2 cJ 4 ky ++ (jw_ws a3 cJ 16 lf ++ (iw_ws a5 cI 4 sf ++ (iw_ws a6 cI 64 vf ++ (jw_ws mb3 cJ 128 md ++ (jw_ws mb4 cJ 4 sh ++ iw_ws mb5 cI 64 ct)))))))))))))))))))))))))) [38, 39, 0, 1, 2, 3, 4, 5, 6, 7, 8, 9, 10, 11, 12, 13, 14, 15, 16, 17, 18, 19, 20, 21, 22, 23, 24, 25, 26, 27, 28, 29, 30, 31, 32, 33, 34, 35, 36, 37] rfl
  have hD := hD.part (cx := (jw_ws out cJ 1 of ++ (bb_ws b0 bd0 pr0 t0 au0 da .null ++ (rw_ws da cJ (r8 d0 d1 d2 d3 d4 d5 d6 d7) ++ (bd_ws bd0 h0 ro lo 0 cR (rrf rb) (rrf lb) ++ (pr_ws pr0 h0 cm cJ ccf ++ (ha_ws h0 aw ax ay cJ cI w csc cst cL ++ (tt_ws t0 ka aa ba sa .null cJ tZ ++ (au_ws au0 bd0 pr0 tu0 0 ++ (tt_ws tu0 uka uaa uba usa gu cJ tZ ++ (mo_ws m0 e0 0 0 0 0 0 0 0 0 0 0 a0 a1 a2 a3 a4 a5 a6 a7 a8 a9 mb0 mb1 oc mb2 mb3 mb4 mb5 ++ (iw_ws a7 cI 256 bf ++ (iw_ws a8 cI 64 sc ++ (iw_ws a9 cI 8 st ++ (iw_ws mb0 cI 8 kS ++ (iw_ws mb1 cI 64 kR ++ (jw_ws a2 cJ 4 tf ++ (jw_ws a0 cJ 1232 nf ++ (jw_ws a1 cJ 616 cf ++ (iw_ws a4 cI 4 kf ++ (jw_ws mb2 cJ 4 ky ++ (jw_ws a3 cJ 16 lf ++ (iw_ws a5 cI 4 sf ++ (iw_ws a6 cI 64 vf ++ (jw_ws mb3 cJ 128 md ++ (jw_ws mb4 cJ 4 sh ++ iw_ws mb5 cI 64 ct)))))))))))))))))))))))))) [38, 39, 0, 1, 2, 3, 4, 5, 6, 7, 8, 9, 10, 11, 12, 13, 14, 15, 16, 17, 18, 19, 20, 21, 22, 23, 24, 25, 26, 27, 28, 29, 30, 31, 32, 33, 34, 35, 36, 37] (by decide) rfl
  generalize H1 = H at hP hS ⊢
  clear hPc hDc hFc hP1 hD1 hK1 ht hk1 hz1
  have hr9 : r_1 = 1 := hw
  subst hr9
  refine lv_istore (lv' := [(5, .int 1), (4, .int (nI i)), (3, .ref out), (2, .ref m0), (1, .ref b0), (0, .ref b)]) hx hb d_law_742 hl (by decide) rfl (fun ls hl => ?_)
  refine lv_aload_n hx hb d_law_744 rfl (lv_at hl 3 rfl) ?_
  refine lv_aload_n hx hb d_law_745 rfl (lv_at hl 5 rfl) ?_
  refine lv_iload hx hb d_law_746 (lv_at hl 1 rfl) ?_
  refine lv_iconst (v := 1) hx hb d_law_748 (by decide) ?_
  refine lv_iadd hx hb d_law_749 ?_
  rw [show ((nI i) + 1 : Int32) = nI (i + 1) from nI_add _ 1]
  refine va_sld hx hb hX hbl hbA hS (vp_in_nI (by omega) (by omega)) d_law_750 ?_
  rw [show (xs (nI (i + 1)).toNatClampNeg : Int32) = xs (i + 1) from by rw [nI_clamp (by omega)]]
  rw [show (xs (i + 1) : Int32) = x1 from hx1.symm]
  refine lv_aload_n hx hb d_law_751 rfl (lv_at hl 5 rfl) ?_
  refine lv_iload hx hb d_law_752 (lv_at hl 1 rfl) ?_
  refine lv_iconst (v := 2) hx hb d_law_754 (by decide) ?_
  refine lv_iadd hx hb d_law_755 ?_
  rw [show ((nI i) + 2 : Int32) = nI (i + 2) from nI_add _ 2]
  refine va_sld hx hb hX hbl hbA hS (vp_in_nI (by omega) (by omega)) d_law_756 ?_
  rw [show (xs (nI (i + 2)).toNatClampNeg : Int32) = xs (i + 2) from by rw [nI_clamp (by omega)]]
  refine lv_i2l (v := (xs (i + 2) : Int32).toInt64) hx hb d_law_757 rfl ?_
  refine lv_bipush (v := 32) hx hb d_law_758 (by decide) ?_
  refine lv_lshl (v := ((xs (i + 2) : Int32).toInt64 : Int64) <<< ((32 : Int32).toInt64 &&& 63)) hx hb d_law_760 rfl ?_
  refine lv_aload_n hx hb d_law_761 rfl (lv_at hl 5 rfl) ?_
  refine lv_iload hx hb d_law_762 (lv_at hl 1 rfl) ?_
  refine lv_iconst (v := 3) hx hb d_law_764 (by decide) ?_
  refine lv_iadd hx hb d_law_765 ?_
  rw [show ((nI i) + 3 : Int32) = nI (i + 3) from nI_add _ 3]
  refine va_sld hx hb hX hbl hbA hS (vp_in_nI (by omega) (by omega)) d_law_766 ?_
  rw [show (xs (nI (i + 3)).toNatClampNeg : Int32) = xs (i + 3) from by rw [nI_clamp (by omega)]]
  refine lv_i2l (v := (xs (i + 3) : Int32).toInt64) hx hb d_law_767 rfl ?_
  refine lv_ldc2 (v := 4294967295) hx hb hown (hts _ (List.mem_cons_of_mem _ gk_1202)) d_law_768 ?_
  refine lv_land hx hb d_law_771 ?_
  refine lv_lor hx hb d_law_772 ?_
  rw [show ((((xs (i + 2) : Int32).toInt64 : Int64) <<< ((32 : Int32).toInt64 &&& 63)) ||| (((xs (i + 3) : Int32).toInt64) &&& 4294967295) : Int64) = x2 from hx2.symm]
  refine lv_aload_n hx hb d_law_773 rfl (lv_at hl 5 rfl) ?_
  refine lv_iload hx hb d_law_774 (lv_at hl 1 rfl) ?_
  refine lv_iconst (v := 4) hx hb d_law_776 (by decide) ?_
  refine lv_iadd hx hb d_law_777 ?_
  rw [show ((nI i) + 4 : Int32) = nI (i + 4) from nI_add _ 4]
  refine va_sld hx hb hX hbl hbA hS (vp_in_nI (by omega) (by omega)) d_law_778 ?_
  rw [show (xs (nI (i + 4)).toNatClampNeg : Int32) = xs (i + 4) from by rw [nI_clamp (by omega)]]
  refine lv_i2l (v := (xs (i + 4) : Int32).toInt64) hx hb d_law_779 rfl ?_
  refine lv_bipush (v := 32) hx hb d_law_780 (by decide) ?_
  refine lv_lshl (v := ((xs (i + 4) : Int32).toInt64 : Int64) <<< ((32 : Int32).toInt64 &&& 63)) hx hb d_law_782 rfl ?_
  refine lv_aload_n hx hb d_law_783 rfl (lv_at hl 5 rfl) ?_
  refine lv_iload hx hb d_law_784 (lv_at hl 1 rfl) ?_
  refine lv_iconst (v := 5) hx hb d_law_786 (by decide) ?_
  refine lv_iadd hx hb d_law_787 ?_
  rw [show ((nI i) + 5 : Int32) = nI (i + 5) from nI_add _ 5]
  refine va_sld hx hb hX hbl hbA hS (vp_in_nI (by omega) (by omega)) d_law_788 ?_
  rw [show (xs (nI (i + 5)).toNatClampNeg : Int32) = xs (i + 5) from by rw [nI_clamp (by omega)]]
  refine lv_i2l (v := (xs (i + 5) : Int32).toInt64) hx hb d_law_789 rfl ?_
  refine lv_ldc2 (v := 4294967295) hx hb hown (hts _ (List.mem_cons_of_mem _ gk_1202)) d_law_790 ?_
  refine lv_land hx hb d_law_793 ?_
  refine lv_lor hx hb d_law_794 ?_
  rw [show ((((xs (i + 4) : Int32).toInt64 : Int64) <<< ((32 : Int32).toInt64 &&& 63)) ||| (((xs (i + 5) : Int32).toInt64) &&& 4294967295) : Int64) = x3 from hx3.symm]
  refine lv_aload_n hx hb d_law_795 rfl (lv_at hl 5 rfl) ?_
  refine lv_iload hx hb d_law_796 (lv_at hl 1 rfl) ?_
  refine lv_bipush (v := 6) hx hb d_law_798 (by decide) ?_
  refine lv_iadd hx hb d_law_800 ?_
  rw [show ((nI i) + 6 : Int32) = nI (i + 6) from nI_add _ 6]
  refine va_sld hx hb hX hbl hbA hS (vp_in_nI (by omega) (by omega)) d_law_801 ?_
  rw [show (xs (nI (i + 6)).toNatClampNeg : Int32) = xs (i + 6) from by rw [nI_clamp (by omega)]]
  refine lv_i2l (v := (xs (i + 6) : Int32).toInt64) hx hb d_law_802 rfl ?_
  refine lv_bipush (v := 32) hx hb d_law_803 (by decide) ?_
  refine lv_lshl (v := ((xs (i + 6) : Int32).toInt64 : Int64) <<< ((32 : Int32).toInt64 &&& 63)) hx hb d_law_805 rfl ?_
  refine lv_aload_n hx hb d_law_806 rfl (lv_at hl 5 rfl) ?_
  refine lv_iload hx hb d_law_807 (lv_at hl 1 rfl) ?_
  refine lv_bipush (v := 7) hx hb d_law_809 (by decide) ?_
  refine lv_iadd hx hb d_law_811 ?_
  rw [show ((nI i) + 7 : Int32) = nI (i + 7) from nI_add _ 7]
  refine va_sld hx hb hX hbl hbA hS (vp_in_nI (by omega) (by omega)) d_law_812 ?_
  rw [show (xs (nI (i + 7)).toNatClampNeg : Int32) = xs (i + 7) from by rw [nI_clamp (by omega)]]
  refine lv_i2l (v := (xs (i + 7) : Int32).toInt64) hx hb d_law_813 rfl ?_
  refine lv_ldc2 (v := 4294967295) hx hb hown (hts _ (List.mem_cons_of_mem _ gk_1202)) d_law_814 ?_
  refine lv_land hx hb d_law_817 ?_
  refine lv_lor hx hb d_law_818 ?_
  rw [show ((((xs (i + 6) : Int32).toInt64 : Int64) <<< ((32 : Int32).toInt64 &&& 63)) ||| (((xs (i + 7) : Int32).toInt64) &&& 4294967295) : Int64) = x4 from hx4.symm]
  refine lv_aload_n hx hb d_law_819 rfl (lv_at hl 5 rfl) ?_
  refine lv_iload hx hb d_law_820 (lv_at hl 1 rfl) ?_
  refine lv_bipush (v := 8) hx hb d_law_822 (by decide) ?_
  refine lv_iadd hx hb d_law_824 ?_
  rw [show ((nI i) + 8 : Int32) = nI (i + 8) from nI_add _ 8]
  refine va_sld hx hb hX hbl hbA hS (vp_in_nI (by omega) (by omega)) d_law_825 ?_
  rw [show (xs (nI (i + 8)).toNatClampNeg : Int32) = xs (i + 8) from by rw [nI_clamp (by omega)]]
  refine lv_i2l (v := (xs (i + 8) : Int32).toInt64) hx hb d_law_826 rfl ?_
  refine lv_bipush (v := 32) hx hb d_law_827 (by decide) ?_
  refine lv_lshl (v := ((xs (i + 8) : Int32).toInt64 : Int64) <<< ((32 : Int32).toInt64 &&& 63)) hx hb d_law_829 rfl ?_
  refine lv_aload_n hx hb d_law_830 rfl (lv_at hl 5 rfl) ?_
  refine lv_iload hx hb d_law_831 (lv_at hl 1 rfl) ?_
  refine lv_bipush (v := 9) hx hb d_law_833 (by decide) ?_
  refine lv_iadd hx hb d_law_835 ?_
  rw [show ((nI i) + 9 : Int32) = nI (i + 9) from nI_add _ 9]
  refine va_sld hx hb hX hbl hbA hS (vp_in_nI (by omega) (by omega)) d_law_836 ?_
  rw [show (xs (nI (i + 9)).toNatClampNeg : Int32) = xs (i + 9) from by rw [nI_clamp (by omega)]]
  refine lv_i2l (v := (xs (i + 9) : Int32).toInt64) hx hb d_law_837 rfl ?_
  refine lv_ldc2 (v := 4294967295) hx hb hown (hts _ (List.mem_cons_of_mem _ gk_1202)) d_law_838 ?_
  refine lv_land hx hb d_law_841 ?_
  refine lv_lor hx hb d_law_842 ?_
  rw [show ((((xs (i + 8) : Int32).toInt64 : Int64) <<< ((32 : Int32).toInt64 &&& 63)) ||| (((xs (i + 9) : Int32).toInt64) &&& 4294967295) : Int64) = x5 from hx5.symm]
  refine lv_aload_n hx hb d_law_843 rfl (lv_at hl 5 rfl) ?_
  refine lv_iload hx hb d_law_844 (lv_at hl 1 rfl) ?_
  refine lv_bipush (v := 10) hx hb d_law_846 (by decide) ?_
  refine lv_iadd hx hb d_law_848 ?_
  rw [show ((nI i) + 10 : Int32) = nI (i + 10) from nI_add _ 10]
  refine va_sld hx hb hX hbl hbA hS (vp_in_nI (by omega) (by omega)) d_law_849 ?_
  rw [show (xs (nI (i + 10)).toNatClampNeg : Int32) = xs (i + 10) from by rw [nI_clamp (by omega)]]
  refine lv_i2l (v := (xs (i + 10) : Int32).toInt64) hx hb d_law_850 rfl ?_
  refine lv_bipush (v := 32) hx hb d_law_851 (by decide) ?_
  refine lv_lshl (v := ((xs (i + 10) : Int32).toInt64 : Int64) <<< ((32 : Int32).toInt64 &&& 63)) hx hb d_law_853 rfl ?_
  refine lv_aload_n hx hb d_law_854 rfl (lv_at hl 5 rfl) ?_
  refine lv_iload hx hb d_law_855 (lv_at hl 1 rfl) ?_
  refine lv_bipush (v := 11) hx hb d_law_857 (by decide) ?_
  refine lv_iadd hx hb d_law_859 ?_
  rw [show ((nI i) + 11 : Int32) = nI (i + 11) from nI_add _ 11]
  refine va_sld hx hb hX hbl hbA hS (vp_in_nI (by omega) (by omega)) d_law_860 ?_
  rw [show (xs (nI (i + 11)).toNatClampNeg : Int32) = xs (i + 11) from by rw [nI_clamp (by omega)]]
  refine lv_i2l (v := (xs (i + 11) : Int32).toInt64) hx hb d_law_861 rfl ?_
  refine lv_ldc2 (v := 4294967295) hx hb hown (hts _ (List.mem_cons_of_mem _ gk_1202)) d_law_862 ?_
  refine lv_land hx hb d_law_865 ?_
  refine lv_lor hx hb d_law_866 ?_
  rw [show ((((xs (i + 10) : Int32).toInt64 : Int64) <<< ((32 : Int32).toInt64 &&& 63)) ||| (((xs (i + 11) : Int32).toInt64) &&& 4294967295) : Int64) = x6 from hx6.symm]
  refine lv_aload_n hx hb d_law_867 rfl (lv_at hl 5 rfl) ?_
  refine lv_iload hx hb d_law_868 (lv_at hl 1 rfl) ?_
  refine lv_bipush (v := 12) hx hb d_law_870 (by decide) ?_
  refine lv_iadd hx hb d_law_872 ?_
  rw [show ((nI i) + 12 : Int32) = nI (i + 12) from nI_add _ 12]
  refine va_sld hx hb hX hbl hbA hS (vp_in_nI (by omega) (by omega)) d_law_873 ?_
  rw [show (xs (nI (i + 12)).toNatClampNeg : Int32) = xs (i + 12) from by rw [nI_clamp (by omega)]]
  refine lv_i2l (v := (xs (i + 12) : Int32).toInt64) hx hb d_law_874 rfl ?_
  refine lv_bipush (v := 32) hx hb d_law_875 (by decide) ?_
  refine lv_lshl (v := ((xs (i + 12) : Int32).toInt64 : Int64) <<< ((32 : Int32).toInt64 &&& 63)) hx hb d_law_877 rfl ?_
  refine lv_aload_n hx hb d_law_878 rfl (lv_at hl 5 rfl) ?_
  refine lv_iload hx hb d_law_879 (lv_at hl 1 rfl) ?_
  refine lv_bipush (v := 13) hx hb d_law_881 (by decide) ?_
  refine lv_iadd hx hb d_law_883 ?_
  rw [show ((nI i) + 13 : Int32) = nI (i + 13) from nI_add _ 13]
  refine va_sld hx hb hX hbl hbA hS (vp_in_nI (by omega) (by omega)) d_law_884 ?_
  rw [show (xs (nI (i + 13)).toNatClampNeg : Int32) = xs (i + 13) from by rw [nI_clamp (by omega)]]
  refine lv_i2l (v := (xs (i + 13) : Int32).toInt64) hx hb d_law_885 rfl ?_
  refine lv_ldc2 (v := 4294967295) hx hb hown (hts _ (List.mem_cons_of_mem _ gk_1202)) d_law_886 ?_
  refine lv_land hx hb d_law_889 ?_
  refine lv_lor hx hb d_law_890 ?_
  rw [show ((((xs (i + 12) : Int32).toInt64 : Int64) <<< ((32 : Int32).toInt64 &&& 63)) ||| (((xs (i + 13) : Int32).toInt64) &&& 4294967295) : Int64) = x7 from hx7.symm]
  have hPc := hP.sub (ws' := (mo_ws m0 e0 0 0 0 0 0 0 0 0 0 0 a0 a1 a2 a3 a4 a5 a6 a7 a8 a9 mb0 mb1 oc mb2 mb3 mb4 mb5)) [23] rfl
  have hDc := hD.sub (ws' := (mo_ws m0 e0 0 0 0 0 0 0 0 0 0 0 a0 a1 a2 a3 a4 a5 a6 a7 a8 a9 mb0 mb1 oc mb2 mb3 mb4 mb5)) [23] (by decide) rfl
  have hKc := hK.sub (tys' := [(cJ, .long), (cI, .int)]) [0, 1] rfl
  have hFc := va_free (wc := (mo_ws m0 e0 0 0 0 0 0 0 0 0 0 0 a0 a1 a2 a3 a4 a5 a6 a7 a8 a9 mb0 mb1 oc mb2 mb3 mb4 mb5)) hD hS hA [23] rfl
  refine va_calli (va_runV (As := [.int x1, .long x2, .long x3, .long x4, .long x5, .long x6, .long x7]) (rest := []) ⟨hx, hb, hml, hown, hts⟩ (c_Bm_ballot_n l dC dI cJ cI H.size m0 e0 0 0 0 0 0 0 0 0 0 0 a0 a1 a2 a3 a4 a5 a6 a7 a8 a9 mb0 mb1 oc mb2 mb3 mb4 mb5 x1 x2 x3 x4 x5 x6 x7 rfl) (cwV 7 hts (gw_V gk_1117 gk_1118 gk_1119 gk_7 gk_1120) rfl rfl rfl (by decide +kernel) ⟨(Nat.le_of_ble_eq_true rfl), (Nat.le_of_ble_eq_true rfl)⟩) ⟨fun a U g mk q => by obtain ⟨q0, q1, qP, qK, qD⟩ := q; exact ⟨q0, q1, qP, va_K.moved (u := U) (U := U.calling g mk a) (Vm.Alike.refl U.vm) qK, qD⟩, va_recv hK hP (ci := 8) (q0 := 23) rfl rfl, fun U hU hW => ⟨rfl, by rw [hU], by rw [hU]; exact hPc, va_K.moved hW.alike hKc, hDc.weaken (fun _ _ _ _ => trivial)⟩⟩ rfl rfl hl.1 rfl (lv_room (Nat.le_of_ble_eq_true rfl)) d_law_891 ⟨show cells + 8 + 0 ≤ 601024 by omega, show slots + 48 + 0 ≤ 7293034 by omega⟩) hS (fun q _ h => hFc q h) hFc (fun r_2 v9 t9 H1 locs ht hvm hw hB hz1 hk1 hS => ?_)
  obtain ⟨hP1, hK1, hD1⟩ := hB
  rw [ht] at hP1
  obtain ⟨hP, hD⟩ := va_joinQ (X := (jw_ws out cJ 1 of ++ (bb_ws b0 bd0 pr0 t0 au0 da .null ++ (rw_ws da cJ (r8 d0 d1 d2 d3 d4 d5 d6 d7) ++ (bd_ws bd0 h0 ro lo 0 cR (rrf rb) (rrf lb) ++ (pr_ws pr0 h0 cm cJ ccf ++ (ha_ws h0 aw ax ay cJ cI w csc cst cL ++ (tt_ws t0 ka aa ba sa .null cJ tZ ++ (au_ws au0 bd0 pr0 tu0 0 ++ (tt_ws tu0 uka uaa uba usa gu cJ tZ ++ (mo_ws m0 e0 0 0 0 0 0 0 0 0 0 0 a0 a1 a2 a3 a4 a5 a6 a7 a8 a9 mb0 mb1 oc mb2 mb3 mb4 mb5 ++ (iw_ws a7 cI 256 bf ++ (iw_ws a8 cI 64 sc ++ (iw_ws a9 cI 8 st ++ (iw_ws mb0 cI 8 kS ++ (iw_ws mb1 cI 64 kR ++ (jw_ws a2 cJ 4 tf ++ (jw_ws a0 cJ 1232 nf ++ (jw_ws a1 cJ 616 cf ++ (iw_ws a4 cI 4 kf ++ (jw_ws mb2 cJ 4 ky ++ (jw_ws a3 cJ 16 lf ++ (iw_ws a5 cI 4 sf ++ (iw_ws a6 cI 64 vf ++ (jw_ws mb3 cJ 128 md ++ (jw_ws mb4 cJ 4 sh ++ iw_ws mb5 cI 64 ct)))))))))))))))))))))))))) (cx := (mo_ws m0 e0 0 0 0 0 0 0 0 0 0 0 a0 a1 a2 a3 a4 a5 a6 a7 a8 a9 mb0 mb1 oc mb2 mb3 mb4 mb5)) (wr := (jw_ws out cJ 1 of ++ (bb_ws b0 bd0 pr0 t0 au0 da .null ++ (rw_ws da cJ (r8 d0 d1 d2 d3 d4 d5 d6 d7) ++ (bd_ws bd0 h0 ro lo 0 cR (rrf rb) (rrf lb) ++ (pr_ws pr0 h0 cm cJ ccf ++ (ha_ws h0 aw ax ay cJ cI w csc cst cL ++ (tt_ws t0 ka aa ba sa .null cJ tZ ++ (au_ws au0 bd0 pr0 tu0 0 ++ (tt_ws tu0 uka uaa uba usa gu cJ tZ ++ (iw_ws a7 cI 256 bf ++ (iw_ws a8 cI 64 sc ++ (iw_ws a9 cI 8 st ++ (iw_ws mb0 cI 8 kS ++ (iw_ws mb1 cI 64 kR ++ (jw_ws a2 cJ 4 tf ++ (jw_ws a0 cJ 1232 nf ++ (jw_ws a1 cJ 616 cf ++ (iw_ws a4 cI 4 kf ++ (jw_ws mb2 cJ 4 ky ++ (jw_ws a3 cJ 16 lf ++ (iw_ws a5 cI 4 sf ++ (iw_ws a6 cI 64 vf ++ (jw_ws mb3 cJ 128 md ++ (jw_ws mb4 cJ 4 sh ++ iw_ws mb5 cI 64 ct))))))))))))))))))))))))) (w1 := (mo_ws m0 1 0 0 0 0 0 0 0 0 0 0 a0 a1 a2 a3 a4 a5 a6 a7 a8 a9 mb0 mb1 oc mb2 mb3 mb4 mb5)) (pl := bpool rb lb cJ R Lk) hP hD [23] [0, 1, 2, 3, 4, 5, 6, 7, 8, 9, 10, 11, 12, 13, 14, 15, 16, 17, 18, 19, 20, 21, 22, 24, 25, 26, 27, 28, 29, 30, 31, 32, 33, 34, 35, 36, 37, 38, 39] rfl rfl (by decide) (by decide) hk1 hFc hP1 hD1
  have hP := hP.part (cx := (jw_ws out cJ 1 of ++ (bb_ws b0 bd0 pr0 t0 au0 da .null ++ (rw_ws da cJ (r8 d0 d1 d2 d3 d4 d5 d6 d7) ++ (bd_ws bd0 h0 ro lo 0 cR (rrf rb) (rrf lb) ++ (pr_ws pr0 h0 cm cJ ccf ++ (ha_ws h0 aw ax ay cJ cI w csc cst cL ++ (tt_ws t0 ka aa ba sa .null cJ tZ ++ (au_ws au0 bd0 pr0 tu0 0 ++ (tt_ws tu0 uka uaa uba usa gu cJ tZ ++ (mo_ws m0 1 0 0 0 0 0 0 0 0 0 0 a0 a1 a2 a3 a4 a5 a6 a7 a8 a9 mb0 mb1 oc mb2 mb3 mb4 mb5 ++ (iw_ws a7 cI 256 bf ++ (iw_ws a8 cI 64 sc ++ (iw_ws a9 cI 8 st ++ (iw_ws mb0 cI 8 kS ++ (iw_ws mb1 cI 64 kR ++ (jw_ws a2 cJ 4 tf ++ (jw_ws a0 cJ 1232 nf ++ (jw_ws a1 cJ 616 cf ++ (iw_ws a4 cI 4 kf ++ (jw_ws mb2 cJ 4 ky ++ (jw_ws a3 cJ 16 lf ++ (iw_ws a5 cI 4 sf ++ (iw_ws a6 cI 64 vf ++ (jw_ws mb3 cJ 128 md ++ (jw_ws mb4 cJ 4 sh ++ iw_ws mb5 cI 64 ct)))))))))))))))))))))))))) [0, 1, 2, 3, 4, 5, 6, 7, 8, 9, 10, 11, 12, 13, 14, 15, 16, 17, 18, 19, 20, 21, 22, 39, 23, 24, 25, 26, 27, 28, 29, 30, 31, 32, 33, 34, 35, 36, 37, 38] rfl
  have hD := hD.part (cx := (jw_ws out cJ 1 of ++ (bb_ws b0 bd0 pr0 t0 au0 da .null ++ (rw_ws da cJ (r8 d0 d1 d2 d3 d4 d5 d6 d7) ++ (bd_ws bd0 h0 ro lo 0 cR (rrf rb) (rrf lb) ++ (pr_ws pr0 h0 cm cJ ccf ++ (ha_ws h0 aw ax ay cJ cI w csc cst cL ++ (tt_ws t0 ka aa ba sa .null cJ tZ ++ (au_ws au0 bd0 pr0 tu0 0 ++ (tt_ws tu0 uka uaa uba usa gu cJ tZ ++ (mo_ws m0 1 0 0 0 0 0 0 0 0 0 0 a0 a1 a2 a3 a4 a5 a6 a7 a8 a9 mb0 mb1 oc mb2 mb3 mb4 mb5 ++ (iw_ws a7 cI 256 bf ++ (iw_ws a8 cI 64 sc ++ (iw_ws a9 cI 8 st ++ (iw_ws mb0 cI 8 kS ++ (iw_ws mb1 cI 64 kR ++ (jw_ws a2 cJ 4 tf ++ (jw_ws a0 cJ 1232 nf ++ (jw_ws a1 cJ 616 cf ++ (iw_ws a4 cI 4 kf ++ (jw_ws mb2 cJ 4 ky ++ (jw_ws a3 cJ 16 lf ++ (iw_ws a5 cI 4 sf ++ (iw_ws a6 cI 64 vf ++ (jw_ws mb3 cJ 128 md ++ (jw_ws mb4 cJ 4 sh ++ iw_ws mb5 cI 64 ct)))))))))))))))))))))))))) [0, 1, 2, 3, 4, 5, 6, 7, 8, 9, 10, 11, 12, 13, 14, 15, 16, 17, 18, 19, 20, 21, 22, 39, 23, 24, 25, 26, 27, 28, 29, 30, 31, 32, 33, 34, 35, 36, 37, 38] (by decide) rfl
  generalize H1 = H at hP hS ⊢
  clear hPc hDc hFc hP1 hD1 hK1 ht hk1 hz1
  refine lv_istore (lv' := [(6, .int r_2), (5, .int 1), (4, .int (nI i)), (3, .ref out), (2, .ref m0), (1, .ref b0), (0, .ref b)]) hx hb d_law_894 hl (by decide) rfl (fun ls hl => ?_)
  refine lv_aload_n hx hb d_law_896 rfl (lv_at hl 4 rfl) ?_
  have hPc := hP.sub (ws' := (mo_ws m0 1 0 0 0 0 0 0 0 0 0 0 a0 a1 a2 a3 a4 a5 a6 a7 a8 a9 mb0 mb1 oc mb2 mb3 mb4 mb5)) [23] rfl
  have hKc := hK.sub (tys' := [(cJ, .long), (cI, .int)]) [0, 1] rfl
  refine va_calli (va_runV (As := []) (rest := []) ⟨hx, hb, hml, hown, hts⟩ (c_Bm_thrown l H dC dI cJ cI m0 1 0 0 0 0 0 0 0 0 0 0 a0 a1 a2 a3 a4 a5 a6 a7 a8 a9 mb0 mb1 oc mb2 mb3 mb4 mb5 hPc) (cwV 0 hts (gw_V gk_1004 gk_1005 gk_1006 gk_7 gk_1007) rfl rfl rfl (by decide +kernel) ⟨(Nat.le_of_ble_eq_true rfl), (Nat.le_of_ble_eq_true rfl)⟩) ⟨fun a U g mk q => ⟨q.1, q.2.1, va_K.moved (u := U) (U := U.calling g mk a) (Vm.Alike.refl U.vm) q.2.2⟩, va_recv hK hP (ci := 8) (q0 := 23) rfl rfl, fun U hU hW => ⟨rfl, hU, va_K.moved hW.alike hKc⟩⟩ rfl rfl hl.1 rfl (lv_room (Nat.le_of_ble_eq_true rfl)) d_law_897 ⟨show cells + 8 + 0 + 0 ≤ 601024 by omega, show slots + 48 + 0 + 0 ≤ 7293034 by omega⟩) hS (fun q _ h => h.elim) (fun q h => h.elim) (fun r_3 w9 t9 H1 locs ht hvm hw9 hB hz1 hk1 hS => ?_)
  obtain rfl : H = H1 := hB.symm.trans ht
  have hw9 : r_3 = 1 := hw9
  subst hw9
  clear hPc hz1 hk1 hB
  refine lv_iload hx hb d_law_900 (lv_at hl 1 rfl) ?_
  refine lv_icmp_eq (tgt := 907) hx hb d_law_902 (by decide) (fun c_4 => ?_) (fun c_4 => ?_)
  · -- taken
    refine lv_iload hx hb d_law_907 (lv_at hl 1 rfl) ?_
    refine lv_if_ne (tgt := 924) hx hb d_law_909 (by decide) (fun c_5 => ?_) (fun c_5 => ?_)
    · -- taken
      refine lv_goto (tgt := 1965) hx hb d_law_924 (by decide) ?_
      refine W.widen (k := cells + 20) (n := slots + 200) (by omega) (by omega) ?_
      have hI9 : LI dC dI cJ cI cR A out b0 m0 H := LF.mk hP hD
      exact cont _ _ _ hS hI9 (lv_sub hl [2, 3, 4, 5, 6] rfl)
    · -- not taken
      exact absurd c_5 (by decide)
  · -- not taken
    exact absurd c_4 (by decide)
set_option maxHeartbeats 16000000 in
set_option maxRecDepth 100000 in
theorem bk_makeBallot_f {p : Program} {l : Launch} {e : Env} {s : State} {m : MethodId} {below : List Frame} {meth : Method} {c : Code} {b L : Nat} {xs : Nat → Int32} {dC : Nat → ClassId} {dI : Nat → Nat → Nat} {cJ cI cR : ClassId} {A : Nat → Prop} {out b0 m0 : Nat} {rA sA wA : Nat} (C : LC p l s m meth c b L xs dC dI cJ cI cR A rA sA wA) {i cells slots : Nat} (hi : i + 14 ≤ L) (hcs : cells + 20 ≤ 601024 ∧ slots + 200 ≤ 7293034) (cont : LK p l e s m below meth c b dC dI cJ cI cR A out b0 m0 i (cells + 20) (slots + 200) 1965) {H : Heap} {locs : List Loc} {ls : Array Slot} (hS : va_S A s.heap H locs) (hI : LF dC dI cJ cI cR A out b0 m0 H) (hl : lv_has ls 8 [(4, .int (nI i)), (3, .ref out), (2, .ref m0), (1, .ref b0), (0, .ref b)]) : W p l e room_1 s m #[Value.ref b] below meth c H locs cells slots (lw_Z below #[Value.ref b] s) (F0 m 927 ls []) := by
  obtain ⟨hnt, ⟨hx, hb, hr, hml, hown, hts0, hX, hbl, hlocks, hgv⟩, hK, hA, hbA, hZha, hZx, hZn, hZw, hL⟩ := C
  have hown : s.vm.findClass "BallotBoardLaw" = some m.cls := hown
  have hts := lw_hts hts0
  refine hI _ (fun bd0 pr0 t0 au0 da h0 ro lo rb lb cm aw ax ay ka aa ba sa tu0 uka uaa uba usa a0 a1 a2 a3 a4 a5 a6 a7 a8 a9 mb0 mb1 oc mb2 mb3 mb4 mb5 cL of w tf nf cf ky lf md sh ccf csc cst bf sc st kf sf vf ct gu d0 d1 d2 d3 d4 d5 d6 d7 e0 R Lk hP hD => ?_)
  obtain ⟨x1, hx1⟩ : ∃ v, v = xs (i + 1) := ⟨_, rfl⟩
  obtain ⟨x2, hx2⟩ : ∃ v, v = xs (i + 2) := ⟨_, rfl⟩
  obtain ⟨x3, hx3⟩ : ∃ v, v = jl (xs (i + 3)) (xs (i + 4)) := ⟨_, rfl⟩
  obtain ⟨x4, hx4⟩ : ∃ v, v = jl (xs (i + 5)) (xs (i + 6)) := ⟨_, rfl⟩
  obtain ⟨x5, hx5⟩ : ∃ v, v = jl (xs (i + 7)) (xs (i + 8)) := ⟨_, rfl⟩
  obtain ⟨x6, hx6⟩ : ∃ v, v = jl (xs (i + 9)) (xs (i + 10)) := ⟨_, rfl⟩
  by_cases hx0 : x2 = 0
  · -- it holds
    refine lv_aload_n hx hb d_law_927 rfl (lv_at hl 3 rfl) ?_
    refine lv_aload_n hx hb d_law_928 rfl (lv_at hl 4 rfl) ?_
    refine lv_iload hx hb d_law_929 (lv_at hl 0 rfl) ?_
    refine lv_iconst (v := 1) hx hb d_law_931 (by decide) ?_
    refine lv_iadd hx hb d_law_932 ?_
    rw [show ((nI i) + 1 : Int32) = nI (i + 1) from nI_add _ 1]
    refine va_sld hx hb hX hbl hbA hS (vp_in_nI (by omega) (by omega)) d_law_933 ?_
    rw [show (xs (nI (i + 1)).toNatClampNeg : Int32) = xs (i + 1) from by rw [nI_clamp (by omega)]]
    rw [show (xs (i + 1) : Int32) = x1 from hx1.symm]
    refine lv_aload_n hx hb d_law_934 rfl (lv_at hl 4 rfl) ?_
    refine lv_iload hx hb d_law_935 (lv_at hl 0 rfl) ?_
    refine lv_iconst (v := 2) hx hb d_law_937 (by decide) ?_
    refine lv_iadd hx hb d_law_938 ?_
    rw [show ((nI i) + 2 : Int32) = nI (i + 2) from nI_add _ 2]
    refine va_sld hx hb hX hbl hbA hS (vp_in_nI (by omega) (by omega)) d_law_939 ?_
    rw [show (xs (nI (i + 2)).toNatClampNeg : Int32) = xs (i + 2) from by rw [nI_clamp (by omega)]]
    rw [show (xs (i + 2) : Int32) = x2 from hx2.symm]
    refine lv_if_eq (tgt := 947) hx hb d_law_940 (by decide) (fun c_1 => ?_) (fun c_1 => ?_)
    · -- taken
      refine lv_iconst (v := 0) hx hb d_law_947 (by decide) ?_
      refine lv_aload_n hx hb d_law_948 rfl (lv_at hl 4 rfl) ?_
      refine lv_iload hx hb d_law_949 (lv_at hl 0 rfl) ?_
      refine lv_iconst (v := 3) hx hb d_law_951 (by decide) ?_
      refine lv_iadd hx hb d_law_952 ?_
      rw [show ((nI i) + 3 : Int32) = nI (i + 3) from nI_add _ 3]
      refine va_sld hx hb hX hbl hbA hS (vp_in_nI (by omega) (by omega)) d_law_953 ?_
      rw [show (xs (nI (i + 3)).toNatClampNeg : Int32) = xs (i + 3) from by rw [nI_clamp (by omega)]]
      refine lv_i2l (v := (xs (i + 3) : Int32).toInt64) hx hb d_law_954 rfl ?_
      refine lv_bipush (v := 32) hx hb d_law_955 (by decide) ?_
      refine lv_lshl (v := ((xs (i + 3) : Int32).toInt64 : Int64) <<< ((32 : Int32).toInt64 &&& 63)) hx hb d_law_957 rfl ?_
      refine lv_aload_n hx hb d_law_958 rfl (lv_at hl 4 rfl) ?_
      refine lv_iload hx hb d_law_959 (lv_at hl 0 rfl) ?_
      refine lv_iconst (v := 4) hx hb d_law_961 (by decide) ?_
      refine lv_iadd hx hb d_law_962 ?_
      rw [show ((nI i) + 4 : Int32) = nI (i + 4) from nI_add _ 4]
      refine va_sld hx hb hX hbl hbA hS (vp_in_nI (by omega) (by omega)) d_law_963 ?_
      rw [show (xs (nI (i + 4)).toNatClampNeg : Int32) = xs (i + 4) from by rw [nI_clamp (by omega)]]
      refine lv_i2l (v := (xs (i + 4) : Int32).toInt64) hx hb d_law_964 rfl ?_
      refine lv_ldc2 (v := 4294967295) hx hb hown (hts _ (List.mem_cons_of_mem _ gk_1202)) d_law_965 ?_
      refine lv_land hx hb d_law_968 ?_
      refine lv_lor hx hb d_law_969 ?_
      rw [show ((((xs (i + 3) : Int32).toInt64 : Int64) <<< ((32 : Int32).toInt64 &&& 63)) ||| (((xs (i + 4) : Int32).toInt64) &&& 4294967295) : Int64) = x3 from hx3.symm]
      refine lv_aload_n hx hb d_law_970 rfl (lv_at hl 4 rfl) ?_
      refine lv_iload hx hb d_law_971 (lv_at hl 0 rfl) ?_
      refine lv_iconst (v := 5) hx hb d_law_973 (by decide) ?_
      refine lv_iadd hx hb d_law_974 ?_
      rw [show ((nI i) + 5 : Int32) = nI (i + 5) from nI_add _ 5]
      refine va_sld hx hb hX hbl hbA hS (vp_in_nI (by omega) (by omega)) d_law_975 ?_
      rw [show (xs (nI (i + 5)).toNatClampNeg : Int32) = xs (i + 5) from by rw [nI_clamp (by omega)]]
      refine lv_i2l (v := (xs (i + 5) : Int32).toInt64) hx hb d_law_976 rfl ?_
      refine lv_bipush (v := 32) hx hb d_law_977 (by decide) ?_
      refine lv_lshl (v := ((xs (i + 5) : Int32).toInt64 : Int64) <<< ((32 : Int32).toInt64 &&& 63)) hx hb d_law_979 rfl ?_
      refine lv_aload_n hx hb d_law_980 rfl (lv_at hl 4 rfl) ?_
      refine lv_iload hx hb d_law_981 (lv_at hl 0 rfl) ?_
      refine lv_bipush (v := 6) hx hb d_law_983 (by decide) ?_
      refine lv_iadd hx hb d_law_985 ?_
      rw [show ((nI i) + 6 : Int32) = nI (i + 6) from nI_add _ 6]
      refine va_sld hx hb hX hbl hbA hS (vp_in_nI (by omega) (by omega)) d_law_986 ?_
      rw [show (xs (nI (i + 6)).toNatClampNeg : Int32) = xs (i + 6) from by rw [nI_clamp (by omega)]]
      refine lv_i2l (v := (xs (i + 6) : Int32).toInt64) hx hb d_law_987 rfl ?_
      refine lv_ldc2 (v := 4294967295) hx hb hown (hts _ (List.mem_cons_of_mem _ gk_1202)) d_law_988 ?_
      refine lv_land hx hb d_law_991 ?_
      refine lv_lor hx hb d_law_992 ?_
      rw [show ((((xs (i + 5) : Int32).toInt64 : Int64) <<< ((32 : Int32).toInt64 &&& 63)) ||| (((xs (i + 6) : Int32).toInt64) &&& 4294967295) : Int64) = x4 from hx4.symm]
      refine lv_aload_n hx hb d_law_993 rfl (lv_at hl 4 rfl) ?_
      refine lv_iload hx hb d_law_994 (lv_at hl 0 rfl) ?_
      refine lv_bipush (v := 7) hx hb d_law_996 (by decide) ?_
      refine lv_iadd hx hb d_law_998 ?_
      rw [show ((nI i) + 7 : Int32) = nI (i + 7) from nI_add _ 7]
      refine va_sld hx hb hX hbl hbA hS (vp_in_nI (by omega) (by omega)) d_law_999 ?_
      rw [show (xs (nI (i + 7)).toNatClampNeg : Int32) = xs (i + 7) from by rw [nI_clamp (by omega)]]
      refine lv_i2l (v := (xs (i + 7) : Int32).toInt64) hx hb d_law_1000 rfl ?_
      refine lv_bipush (v := 32) hx hb d_law_1001 (by decide) ?_
      refine lv_lshl (v := ((xs (i + 7) : Int32).toInt64 : Int64) <<< ((32 : Int32).toInt64 &&& 63)) hx hb d_law_1003 rfl ?_
      refine lv_aload_n hx hb d_law_1004 rfl (lv_at hl 4 rfl) ?_
      refine lv_iload hx hb d_law_1005 (lv_at hl 0 rfl) ?_
      refine lv_bipush (v := 8) hx hb d_law_1007 (by decide) ?_
      refine lv_iadd hx hb d_law_1009 ?_
      rw [show ((nI i) + 8 : Int32) = nI (i + 8) from nI_add _ 8]
      refine va_sld hx hb hX hbl hbA hS (vp_in_nI (by omega) (by omega)) d_law_1010 ?_
      rw [show (xs (nI (i + 8)).toNatClampNeg : Int32) = xs (i + 8) from by rw [nI_clamp (by omega)]]
      refine lv_i2l (v := (xs (i + 8) : Int32).toInt64) hx hb d_law_1011 rfl ?_
      refine lv_ldc2 (v := 4294967295) hx hb hown (hts _ (List.mem_cons_of_mem _ gk_1202)) d_law_1012 ?_
      refine lv_land hx hb d_law_1015 ?_
      refine lv_lor hx hb d_law_1016 ?_
      rw [show ((((xs (i + 7) : Int32).toInt64 : Int64) <<< ((32 : Int32).toInt64 &&& 63)) ||| (((xs (i + 8) : Int32).toInt64) &&& 4294967295) : Int64) = x5 from hx5.symm]
      refine lv_aload_n hx hb d_law_1017 rfl (lv_at hl 4 rfl) ?_
      refine lv_iload hx hb d_law_1018 (lv_at hl 0 rfl) ?_
      refine lv_bipush (v := 9) hx hb d_law_1020 (by decide) ?_
      refine lv_iadd hx hb d_law_1022 ?_
      rw [show ((nI i) + 9 : Int32) = nI (i + 9) from nI_add _ 9]
      refine va_sld hx hb hX hbl hbA hS (vp_in_nI (by omega) (by omega)) d_law_1023 ?_
      rw [show (xs (nI (i + 9)).toNatClampNeg : Int32) = xs (i + 9) from by rw [nI_clamp (by omega)]]
      refine lv_i2l (v := (xs (i + 9) : Int32).toInt64) hx hb d_law_1024 rfl ?_
      refine lv_bipush (v := 32) hx hb d_law_1025 (by decide) ?_
      refine lv_lshl (v := ((xs (i + 9) : Int32).toInt64 : Int64) <<< ((32 : Int32).toInt64 &&& 63)) hx hb d_law_1027 rfl ?_
      refine lv_aload_n hx hb d_law_1028 rfl (lv_at hl 4 rfl) ?_
      refine lv_iload hx hb d_law_1029 (lv_at hl 0 rfl) ?_
      refine lv_bipush (v := 10) hx hb d_law_1031 (by decide) ?_
      refine lv_iadd hx hb d_law_1033 ?_
      rw [show ((nI i) + 10 : Int32) = nI (i + 10) from nI_add _ 10]
      refine va_sld hx hb hX hbl hbA hS (vp_in_nI (by omega) (by omega)) d_law_1034 ?_
      rw [show (xs (nI (i + 10)).toNatClampNeg : Int32) = xs (i + 10) from by rw [nI_clamp (by omega)]]
      refine lv_i2l (v := (xs (i + 10) : Int32).toInt64) hx hb d_law_1035 rfl ?_
      refine lv_ldc2 (v := 4294967295) hx hb hown (hts _ (List.mem_cons_of_mem _ gk_1202)) d_law_1036 ?_
      refine lv_land hx hb d_law_1039 ?_
      refine lv_lor hx hb d_law_1040 ?_
      rw [show ((((xs (i + 9) : Int32).toInt64 : Int64) <<< ((32 : Int32).toInt64 &&& 63)) ||| (((xs (i + 10) : Int32).toInt64) &&& 4294967295) : Int64) = x6 from hx6.symm]
      refine lv_aload_n hx hb d_law_1041 rfl (lv_at hl 1 rfl) ?_
      have hPc := hP.sub (ws' := (jw_ws out cJ 1 of ++ bb_ws b0 bd0 pr0 t0 au0 da .null)) [0, 1] rfl
      have hDc := hD.sub (ws' := (jw_ws out cJ 1 of ++ bb_ws b0 bd0 pr0 t0 au0 da .null)) [0, 1] (by decide) rfl
      have hKc := hK.sub (tys' := [(cJ, .long), (cI, .int), (cR, .array .long)]) [0, 1, 2] rfl
      have hFc := va_free (wc := (jw_ws out cJ 1 of ++ bb_ws b0 bd0 pr0 t0 au0 da .null)) hD hS hA [0, 1] rfl
      have hZc0 : xz (va_A (jw_ws out cJ 1 of ++ bb_ws b0 bd0 pr0 t0 au0 da .null) H.size) s H := (hZx.kept hS.2.1).narrow hFc
      have hZc1 : nc_Z s := hZn
      refine vx_calli (vx_runSX (hh := h_Lw_makeBallot) (As := [.ref b0, .int x1, .int 0, .long x3, .long x4, .long x5, .long x6, .ref out]) (rest := []) ⟨hx, hb, hml, hown, hts⟩ (c_Lw_makeBallot_n l hnt dC dI cJ cI cR H.size b0 bd0 pr0 t0 au0 da x1 0 x3 x4 x5 x6 out of) (vx_cwSW 8 hts (gw_Sv gk_667 gk_668 gk_0 gk_669) rfl rfl rfl (by decide +kernel) ⟨(Nat.le_of_ble_eq_true rfl), (Nat.le_of_ble_eq_true rfl)⟩) ⟨fun a U g mk q => by obtain ⟨q0, q1, qP, qK, qD, qZ0, qZ1⟩ := q; exact ⟨q0, q1, qP, va_K.moved (u := U) (U := U.calling g mk a) (Vm.Alike.refl U.vm) qK, qD, xz.same (u := U) (U := U.calling g mk a) rfl qZ0, nc_Z.moved (u := U) (U := U.calling g mk a) (Vm.Alike.refl U.vm) qZ1⟩, fun U hU hW => ⟨rfl, by rw [hU], by rw [hU]; exact hPc, va_K.moved hW.alike hKc, hDc.weaken (fun _ _ _ _ => trivial), by rw [hU]; exact xz.warm hW hZc0, nc_Z.moved hW.alike hZc1⟩⟩ rfl rfl hl.1 rfl (lv_room (Nat.le_of_ble_eq_true rfl)) d_law_1042 ⟨show cells + 8 ≤ 601024 by omega, show slots + 48 ≤ 7293034 by omega⟩) hS (fun q _ h => hFc q h) hFc (fun q _ h => hFc q h) (fun E9 ce9 q9 u8 t9 H1 locs ht hvm hpx hbx hz1 hk1 hS hce hcv hcl => hpx.elim) (fun r_2 u9 t9 H1 locs ht hvm hw hB hz1 hk1 hS => ?_)
      obtain ⟨hP1, hK1, hD1⟩ := hB
      rw [ht] at hP1
      obtain ⟨hP, hD⟩ := va_joinQ (X := (jw_ws out cJ 1 of ++ (bb_ws b0 bd0 pr0 t0 au0 da .null ++ (rw_ws da cJ (r8 d0 d1 d2 d3 d4 d5 d6 d7) ++ (bd_ws bd0 h0 ro lo 0 cR (rrf rb) (rrf lb) ++ (pr_ws pr0 h0 cm cJ ccf ++ (ha_ws h0 aw ax ay cJ cI w csc cst cL ++ (tt_ws t0 ka aa ba sa .null cJ tZ ++ (au_ws au0 bd0 pr0 tu0 0 ++ (tt_ws tu0 uka uaa uba usa gu cJ tZ ++ (mo_ws m0 e0 0 0 0 0 0 0 0 0 0 0 a0 a1 a2 a3 a4 a5 a6 a7 a8 a9 mb0 mb1 oc mb2 mb3 mb4 mb5 ++ (iw_ws a7 cI 256 bf ++ (iw_ws a8 cI 64 sc ++ (iw_ws a9 cI 8 st ++ (iw_ws mb0 cI 8 kS ++ (iw_ws mb1 cI 64 kR ++ (jw_ws a2 cJ 4 tf ++ (jw_ws a0 cJ 1232 nf ++ (jw_ws a1 cJ 616 cf ++ (iw_ws a4 cI 4 kf ++ (jw_ws mb2 cJ 4 ky ++ (jw_ws a3 cJ 16 lf ++ (iw_ws a5 cI 4 sf ++ (iw_ws a6 cI 64 vf ++ (jw_ws mb3 cJ 128 md ++ (jw_ws mb4 cJ 4 sh ++ iw_ws mb5 cI 64 ct)))))))))))))))))))))))))) (cx := (jw_ws out cJ 1 of ++ bb_ws b0 bd0 pr0 t0 au0 da .null)) (wr := (rw_ws da cJ (r8 d0 d1 d2 d3 d4 d5 d6 d7) ++ (bd_ws bd0 h0 ro lo 0 cR (rrf rb) (rrf lb) ++ (pr_ws pr0 h0 cm cJ ccf ++ (ha_ws h0 aw ax ay cJ cI w csc cst cL ++ (tt_ws t0 ka aa ba sa .null cJ tZ ++ (au_ws au0 bd0 pr0 tu0 0 ++ (tt_ws tu0 uka uaa uba usa gu cJ tZ ++ (mo_ws m0 e0 0 0 0 0 0 0 0 0 0 0 a0 a1 a2 a3 a4 a5 a6 a7 a8 a9 mb0 mb1 oc mb2 mb3 mb4 mb5 ++ (iw_ws a7 cI 256 bf ++ (iw_ws a8 cI 64 sc ++ (iw_ws a9 cI 8 st ++ (iw_ws mb0 cI 8 kS ++ (iw_ws mb1 cI 64 kR ++ (jw_ws a2 cJ 4 tf ++ (jw_ws a0 cJ 1232 nf ++ (jw_ws a1 cJ 616 cf ++ (iw_ws a4 cI 4 kf ++ (jw_ws mb2 cJ 4 ky ++ (jw_ws a3 cJ 16 lf ++ (iw_ws a5 cI 4 sf ++ (iw_ws a6 cI 64 vf ++ (jw_ws mb3 cJ 128 md ++ (jw_ws mb4 cJ 4 sh ++ iw_ws mb5 cI 64 ct)))))))))))))))))))))))) (w1 := (jw_ws out cJ 1 of ++ bb_ws b0 bd0 pr0 t0 au0 da .null)) (pl := bpool rb lb cJ R Lk) hP hD [0, 1] [2, 3, 4, 5, 6, 7, 8, 9, 10, 11, 12, 13, 14, 15, 16, 17, 18, 19, 20, 21, 22, 23, 24, 25, 26, 27, 28, 29, 30, 31, 32, 33, 34, 35, 36, 37, 38, 39] rfl rfl (by decide) (by decide) hk1 hFc hP1 hD1
      have hP := hP.part (cx := (jw_ws out cJ 1 of ++ (bb_ws b0 bd0 pr0 t0 au0 da .null ++ (rw_ws da cJ (r8 d0 d1 d2 d3 d4 d5 d6 d7) ++ (bd_ws bd0 h0 ro lo 0 cR (rrf rb) (rrf lb) ++ (pr_ws pr0 h0 cm cJ ccf ++ (ha_ws h0 aw ax ay cJ cI w csc cst cL ++ (tt_ws t0 ka aa ba sa .null cJ tZ ++ (au_ws au0 bd0 pr0 tu0 0 ++ (tt_ws tu0 uka uaa uba usa gu cJ tZ ++ (mo_ws m0 e0 0 0 0 0 0 0 0 0 0 0 a0 a1 a2 a3 a4 a5 a6 a7 a8 a9 mb0 mb1 oc mb2 mb3 mb4 mb5 ++ (iw_ws a7 cI 256 bf ++ (iw_ws a8 cI 64 sc ++ (iw_ws a9 cI 8 st ++ (iw_ws mb0 cI 8 kS ++ (iw_ws mb1 cI 64 kR ++ (jw_ws a2 cJ 4 tf ++ (jw_ws a0 cJ 1232 nf ++ (jw_ws a1 cJ 616 cf ++ (iw_ws a4 cI 4 kf ++ (jw_ws mb2 cJ 4 ky ++ (jw_ws a3 cJ 16 lf ++ (iw_ws a5 cI 4 sf ++ (iw_ws a6 cI 64 vf ++ (jw_ws mb3 cJ 128 md ++ (jw_ws mb4 cJ 4 sh ++ iw_ws mb5 cI 64 ct)))))))))))))))))))))))))) [38, 39, 0, 1, 2, 3, 4, 5, 6, 7, 8, 9, 10, 11, 12, 13, 14, 15, 16, 17, 18, 19, 20, 21, 22, 23, 24, 25, 26, 27, 28, 29, 30, 31, 32, 33, 34, 35, 36, 37] rfl
      have hD := hD.part (cx := (jw_ws out cJ 1 of ++ (bb_ws b0 bd0 pr0 t0 au0 da .null ++ (rw_ws da cJ (r8 d0 d1 d2 d3 d4 d5 d6 d7) ++ (bd_ws bd0 h0 ro lo 0 cR (rrf rb) (rrf lb) ++ (pr_ws pr0 h0 cm cJ ccf ++ (ha_ws h0 aw ax ay cJ cI w csc cst cL ++ (tt_ws t0 ka aa ba sa .null cJ tZ ++ (au_ws au0 bd0 pr0 tu0 0 ++ (tt_ws tu0 uka uaa uba usa gu cJ tZ ++ (mo_ws m0 e0 0 0 0 0 0 0 0 0 0 0 a0 a1 a2 a3 a4 a5 a6 a7 a8 a9 mb0 mb1 oc mb2 mb3 mb4 mb5 ++ (iw_ws a7 cI 256 bf ++ (iw_ws a8 cI 64 sc ++ (iw_ws a9 cI 8 st ++ (iw_ws mb0 cI 8 kS ++ (iw_ws mb1 cI 64 kR ++ (jw_ws a2 cJ 4 tf ++ (jw_ws a0 cJ 1232 nf ++ (jw_ws a1 cJ 616 cf ++ (iw_ws a4 cI 4 kf ++ (jw_ws mb2 cJ 4 ky ++ (jw_ws a3 cJ 16 lf ++ (iw_ws a5 cI 4 sf ++ (iw_ws a6 cI 64 vf ++ (jw_ws mb3 cJ 128 md ++ (jw_ws mb4 cJ 4 sh ++ iw_ws mb5 cI 64 ct)))))))))))))))))))))))))) [38, 39, 0, 1, 2, 3, 4, 5, 6, 7, 8, 9, 10, 11, 12, 13, 14, 15, 16, 17, 18, 19, 20, 21, 22, 23, 24, 25, 26, 27, 28, 29, 30, 31, 32, 33, 34, 35, 36, 37] (by decide) rfl
      generalize H1 = H at hP hS ⊢
      clear hPc hDc hFc hP1 hD1 hK1 ht hk1 hz1
      have hr9 : r_2 = 1 := hw
      subst hr9
      refine lv_istore (lv' := [(5, .int 1), (4, .int (nI i)), (3, .ref out), (2, .ref m0), (1, .ref b0), (0, .ref b)]) hx hb d_law_1045 hl (by decide) rfl (fun ls hl => ?_)
      refine lv_aload_n hx hb d_law_1047 rfl (lv_at hl 3 rfl) ?_
      refine lv_aload_n hx hb d_law_1048 rfl (lv_at hl 5 rfl) ?_
      refine lv_iload hx hb d_law_1049 (lv_at hl 1 rfl) ?_
      refine lv_iconst (v := 1) hx hb d_law_1051 (by decide) ?_
      refine lv_iadd hx hb d_law_1052 ?_
      rw [show ((nI i) + 1 : Int32) = nI (i + 1) from nI_add _ 1]
      refine va_sld hx hb hX hbl hbA hS (vp_in_nI (by omega) (by omega)) d_law_1053 ?_
      rw [show (xs (nI (i + 1)).toNatClampNeg : Int32) = xs (i + 1) from by rw [nI_clamp (by omega)]]
      rw [show (xs (i + 1) : Int32) = x1 from hx1.symm]
      refine lv_aload_n hx hb d_law_1054 rfl (lv_at hl 5 rfl) ?_
      refine lv_iload hx hb d_law_1055 (lv_at hl 1 rfl) ?_
      refine lv_iconst (v := 2) hx hb d_law_1057 (by decide) ?_
      refine lv_iadd hx hb d_law_1058 ?_
      rw [show ((nI i) + 2 : Int32) = nI (i + 2) from nI_add _ 2]
      refine va_sld hx hb hX hbl hbA hS (vp_in_nI (by omega) (by omega)) d_law_1059 ?_
      rw [show (xs (nI (i + 2)).toNatClampNeg : Int32) = xs (i + 2) from by rw [nI_clamp (by omega)]]
      rw [show (xs (i + 2) : Int32) = x2 from hx2.symm]
      refine lv_if_eq (tgt := 1067) hx hb d_law_1060 (by decide) (fun c_3 => ?_) (fun c_3 => ?_)
      · -- taken
        refine lv_iconst (v := 0) hx hb d_law_1067 (by decide) ?_
        refine lv_aload_n hx hb d_law_1068 rfl (lv_at hl 5 rfl) ?_
        refine lv_iload hx hb d_law_1069 (lv_at hl 1 rfl) ?_
        refine lv_iconst (v := 3) hx hb d_law_1071 (by decide) ?_
        refine lv_iadd hx hb d_law_1072 ?_
        rw [show ((nI i) + 3 : Int32) = nI (i + 3) from nI_add _ 3]
        refine va_sld hx hb hX hbl hbA hS (vp_in_nI (by omega) (by omega)) d_law_1073 ?_
        rw [show (xs (nI (i + 3)).toNatClampNeg : Int32) = xs (i + 3) from by rw [nI_clamp (by omega)]]
        refine lv_i2l (v := (xs (i + 3) : Int32).toInt64) hx hb d_law_1074 rfl ?_
        refine lv_bipush (v := 32) hx hb d_law_1075 (by decide) ?_
        refine lv_lshl (v := ((xs (i + 3) : Int32).toInt64 : Int64) <<< ((32 : Int32).toInt64 &&& 63)) hx hb d_law_1077 rfl ?_
        refine lv_aload_n hx hb d_law_1078 rfl (lv_at hl 5 rfl) ?_
        refine lv_iload hx hb d_law_1079 (lv_at hl 1 rfl) ?_
        refine lv_iconst (v := 4) hx hb d_law_1081 (by decide) ?_
        refine lv_iadd hx hb d_law_1082 ?_
        rw [show ((nI i) + 4 : Int32) = nI (i + 4) from nI_add _ 4]
        refine va_sld hx hb hX hbl hbA hS (vp_in_nI (by omega) (by omega)) d_law_1083 ?_
        rw [show (xs (nI (i + 4)).toNatClampNeg : Int32) = xs (i + 4) from by rw [nI_clamp (by omega)]]
        refine lv_i2l (v := (xs (i + 4) : Int32).toInt64) hx hb d_law_1084 rfl ?_
        refine lv_ldc2 (v := 4294967295) hx hb hown (hts _ (List.mem_cons_of_mem _ gk_1202)) d_law_1085 ?_
        refine lv_land hx hb d_law_1088 ?_
        refine lv_lor hx hb d_law_1089 ?_
        rw [show ((((xs (i + 3) : Int32).toInt64 : Int64) <<< ((32 : Int32).toInt64 &&& 63)) ||| (((xs (i + 4) : Int32).toInt64) &&& 4294967295) : Int64) = x3 from hx3.symm]
        refine lv_aload_n hx hb d_law_1090 rfl (lv_at hl 5 rfl) ?_
        refine lv_iload hx hb d_law_1091 (lv_at hl 1 rfl) ?_
        refine lv_iconst (v := 5) hx hb d_law_1093 (by decide) ?_
        refine lv_iadd hx hb d_law_1094 ?_
        rw [show ((nI i) + 5 : Int32) = nI (i + 5) from nI_add _ 5]
        refine va_sld hx hb hX hbl hbA hS (vp_in_nI (by omega) (by omega)) d_law_1095 ?_
        rw [show (xs (nI (i + 5)).toNatClampNeg : Int32) = xs (i + 5) from by rw [nI_clamp (by omega)]]
        refine lv_i2l (v := (xs (i + 5) : Int32).toInt64) hx hb d_law_1096 rfl ?_
        refine lv_bipush (v := 32) hx hb d_law_1097 (by decide) ?_
        refine lv_lshl (v := ((xs (i + 5) : Int32).toInt64 : Int64) <<< ((32 : Int32).toInt64 &&& 63)) hx hb d_law_1099 rfl ?_
        refine lv_aload_n hx hb d_law_1100 rfl (lv_at hl 5 rfl) ?_
        refine lv_iload hx hb d_law_1101 (lv_at hl 1 rfl) ?_
        refine lv_bipush (v := 6) hx hb d_law_1103 (by decide) ?_
        refine lv_iadd hx hb d_law_1105 ?_
        rw [show ((nI i) + 6 : Int32) = nI (i + 6) from nI_add _ 6]
        refine va_sld hx hb hX hbl hbA hS (vp_in_nI (by omega) (by omega)) d_law_1106 ?_
        rw [show (xs (nI (i + 6)).toNatClampNeg : Int32) = xs (i + 6) from by rw [nI_clamp (by omega)]]
        refine lv_i2l (v := (xs (i + 6) : Int32).toInt64) hx hb d_law_1107 rfl ?_
        refine lv_ldc2 (v := 4294967295) hx hb hown (hts _ (List.mem_cons_of_mem _ gk_1202)) d_law_1108 ?_
        refine lv_land hx hb d_law_1111 ?_
        refine lv_lor hx hb d_law_1112 ?_
        rw [show ((((xs (i + 5) : Int32).toInt64 : Int64) <<< ((32 : Int32).toInt64 &&& 63)) ||| (((xs (i + 6) : Int32).toInt64) &&& 4294967295) : Int64) = x4 from hx4.symm]
        refine lv_aload_n hx hb d_law_1113 rfl (lv_at hl 5 rfl) ?_
        refine lv_iload hx hb d_law_1114 (lv_at hl 1 rfl) ?_
        refine lv_bipush (v := 7) hx hb d_law_1116 (by decide) ?_
        refine lv_iadd hx hb d_law_1118 ?_
        rw [show ((nI i) + 7 : Int32) = nI (i + 7) from nI_add _ 7]
        refine va_sld hx hb hX hbl hbA hS (vp_in_nI (by omega) (by omega)) d_law_1119 ?_
        rw [show (xs (nI (i + 7)).toNatClampNeg : Int32) = xs (i + 7) from by rw [nI_clamp (by omega)]]
        refine lv_i2l (v := (xs (i + 7) : Int32).toInt64) hx hb d_law_1120 rfl ?_
        refine lv_bipush (v := 32) hx hb d_law_1121 (by decide) ?_
        refine lv_lshl (v := ((xs (i + 7) : Int32).toInt64 : Int64) <<< ((32 : Int32).toInt64 &&& 63)) hx hb d_law_1123 rfl ?_
        refine lv_aload_n hx hb d_law_1124 rfl (lv_at hl 5 rfl) ?_
        refine lv_iload hx hb d_law_1125 (lv_at hl 1 rfl) ?_
        refine lv_bipush (v := 8) hx hb d_law_1127 (by decide) ?_
        refine lv_iadd hx hb d_law_1129 ?_
        rw [show ((nI i) + 8 : Int32) = nI (i + 8) from nI_add _ 8]
        refine va_sld hx hb hX hbl hbA hS (vp_in_nI (by omega) (by omega)) d_law_1130 ?_
        rw [show (xs (nI (i + 8)).toNatClampNeg : Int32) = xs (i + 8) from by rw [nI_clamp (by omega)]]
        refine lv_i2l (v := (xs (i + 8) : Int32).toInt64) hx hb d_law_1131 rfl ?_
        refine lv_ldc2 (v := 4294967295) hx hb hown (hts _ (List.mem_cons_of_mem _ gk_1202)) d_law_1132 ?_
        refine lv_land hx hb d_law_1135 ?_
        refine lv_lor hx hb d_law_1136 ?_
        rw [show ((((xs (i + 7) : Int32).toInt64 : Int64) <<< ((32 : Int32).toInt64 &&& 63)) ||| (((xs (i + 8) : Int32).toInt64) &&& 4294967295) : Int64) = x5 from hx5.symm]
        refine lv_aload_n hx hb d_law_1137 rfl (lv_at hl 5 rfl) ?_
        refine lv_iload hx hb d_law_1138 (lv_at hl 1 rfl) ?_
        refine lv_bipush (v := 9) hx hb d_law_1140 (by decide) ?_
        refine lv_iadd hx hb d_law_1142 ?_
        rw [show ((nI i) + 9 : Int32) = nI (i + 9) from nI_add _ 9]
        refine va_sld hx hb hX hbl hbA hS (vp_in_nI (by omega) (by omega)) d_law_1143 ?_
        rw [show (xs (nI (i + 9)).toNatClampNeg : Int32) = xs (i + 9) from by rw [nI_clamp (by omega)]]
        refine lv_i2l (v := (xs (i + 9) : Int32).toInt64) hx hb d_law_1144 rfl ?_
        refine lv_bipush (v := 32) hx hb d_law_1145 (by decide) ?_
        refine lv_lshl (v := ((xs (i + 9) : Int32).toInt64 : Int64) <<< ((32 : Int32).toInt64 &&& 63)) hx hb d_law_1147 rfl ?_
        refine lv_aload_n hx hb d_law_1148 rfl (lv_at hl 5 rfl) ?_
        refine lv_iload hx hb d_law_1149 (lv_at hl 1 rfl) ?_
        refine lv_bipush (v := 10) hx hb d_law_1151 (by decide) ?_
        refine lv_iadd hx hb d_law_1153 ?_
        rw [show ((nI i) + 10 : Int32) = nI (i + 10) from nI_add _ 10]
        refine va_sld hx hb hX hbl hbA hS (vp_in_nI (by omega) (by omega)) d_law_1154 ?_
        rw [show (xs (nI (i + 10)).toNatClampNeg : Int32) = xs (i + 10) from by rw [nI_clamp (by omega)]]
        refine lv_i2l (v := (xs (i + 10) : Int32).toInt64) hx hb d_law_1155 rfl ?_
        refine lv_ldc2 (v := 4294967295) hx hb hown (hts _ (List.mem_cons_of_mem _ gk_1202)) d_law_1156 ?_
        refine lv_land hx hb d_law_1159 ?_
        refine lv_lor hx hb d_law_1160 ?_
        rw [show ((((xs (i + 9) : Int32).toInt64 : Int64) <<< ((32 : Int32).toInt64 &&& 63)) ||| (((xs (i + 10) : Int32).toInt64) &&& 4294967295) : Int64) = x6 from hx6.symm]
        have hPc := hP.sub (ws' := (mo_ws m0 e0 0 0 0 0 0 0 0 0 0 0 a0 a1 a2 a3 a4 a5 a6 a7 a8 a9 mb0 mb1 oc mb2 mb3 mb4 mb5)) [23] rfl
        have hDc := hD.sub (ws' := (mo_ws m0 e0 0 0 0 0 0 0 0 0 0 0 a0 a1 a2 a3 a4 a5 a6 a7 a8 a9 mb0 mb1 oc mb2 mb3 mb4 mb5)) [23] (by decide) rfl
        have hKc := hK.sub (tys' := [(cJ, .long), (cI, .int)]) [0, 1] rfl
        have hFc := va_free (wc := (mo_ws m0 e0 0 0 0 0 0 0 0 0 0 0 a0 a1 a2 a3 a4 a5 a6 a7 a8 a9 mb0 mb1 oc mb2 mb3 mb4 mb5)) hD hS hA [23] rfl
        refine va_calli (va_runV (As := [.int x1, .int 0, .long x3, .long x4, .long x5, .long x6]) (rest := []) ⟨hx, hb, hml, hown, hts⟩ (c_Bm_makeBallot_n l dC dI cJ cI H.size m0 e0 0 0 0 0 0 0 0 0 0 0 a0 a1 a2 a3 a4 a5 a6 a7 a8 a9 mb0 mb1 oc mb2 mb3 mb4 mb5 x1 0 x3 x4 x5 x6 rfl) (cwV 6 hts (gw_V gk_1141 gk_1142 gk_1143 gk_7 gk_1144) rfl rfl rfl (by decide +kernel) ⟨(Nat.le_of_ble_eq_true rfl), (Nat.le_of_ble_eq_true rfl)⟩) ⟨fun a U g mk q => by obtain ⟨q0, q1, qP, qK, qD⟩ := q; exact ⟨q0, q1, qP, va_K.moved (u := U) (U := U.calling g mk a) (Vm.Alike.refl U.vm) qK, qD⟩, va_recv hK hP (ci := 8) (q0 := 23) rfl rfl, fun U hU hW => ⟨rfl, by rw [hU], by rw [hU]; exact hPc, va_K.moved hW.alike hKc, hDc.weaken (fun _ _ _ _ => trivial)⟩⟩ rfl rfl hl.1 rfl (lv_room (Nat.le_of_ble_eq_true rfl)) d_law_1161 ⟨show cells + 8 + 0 ≤ 601024 by omega, show slots + 48 + 0 ≤ 7293034 by omega⟩) hS (fun q _ h => hFc q h) hFc (fun r_4 v9 t9 H1 locs ht hvm hw hB hz1 hk1 hS => ?_)
        obtain ⟨hP1, hK1, hD1⟩ := hB
        rw [ht] at hP1
        obtain ⟨hP, hD⟩ := va_joinQ (X := (jw_ws out cJ 1 of ++ (bb_ws b0 bd0 pr0 t0 au0 da .null ++ (rw_ws da cJ (r8 d0 d1 d2 d3 d4 d5 d6 d7) ++ (bd_ws bd0 h0 ro lo 0 cR (rrf rb) (rrf lb) ++ (pr_ws pr0 h0 cm cJ ccf ++ (ha_ws h0 aw ax ay cJ cI w csc cst cL ++ (tt_ws t0 ka aa ba sa .null cJ tZ ++ (au_ws au0 bd0 pr0 tu0 0 ++ (tt_ws tu0 uka uaa uba usa gu cJ tZ ++ (mo_ws m0 e0 0 0 0 0 0 0 0 0 0 0 a0 a1 a2 a3 a4 a5 a6 a7 a8 a9 mb0 mb1 oc mb2 mb3 mb4 mb5 ++ (iw_ws a7 cI 256 bf ++ (iw_ws a8 cI 64 sc ++ (iw_ws a9 cI 8 st ++ (iw_ws mb0 cI 8 kS ++ (iw_ws mb1 cI 64 kR ++ (jw_ws a2 cJ 4 tf ++ (jw_ws a0 cJ 1232 nf ++ (jw_ws a1 cJ 616 cf ++ (iw_ws a4 cI 4 kf ++ (jw_ws mb2 cJ 4 ky ++ (jw_ws a3 cJ 16 lf ++ (iw_ws a5 cI 4 sf ++ (iw_ws a6 cI 64 vf ++ (jw_ws mb3 cJ 128 md ++ (jw_ws mb4 cJ 4 sh ++ iw_ws mb5 cI 64 ct)))))))))))))))))))))))))) (cx := (mo_ws m0 e0 0 0 0 0 0 0 0 0 0 0 a0 a1 a2 a3 a4 a5 a6 a7 a8 a9 mb0 mb1 oc mb2 mb3 mb4 mb5)) (wr := (jw_ws out cJ 1 of ++ (bb_ws b0 bd0 pr0 t0 au0 da .null ++ (rw_ws da cJ (r8 d0 d1 d2 d3 d4 d5 d6 d7) ++ (bd_ws bd0 h0 ro lo 0 cR (rrf rb) (rrf lb) ++ (pr_ws pr0 h0 cm cJ ccf ++ (ha_ws h0 aw ax ay cJ cI w csc cst cL ++ (tt_ws t0 ka aa ba sa .null cJ tZ ++ (au_ws au0 bd0 pr0 tu0 0 ++ (tt_ws tu0 uka uaa uba usa gu cJ tZ ++ (iw_ws a7 cI 256 bf ++ (iw_ws a8 cI 64 sc ++ (iw_ws a9 cI 8 st ++ (iw_ws mb0 cI 8 kS ++ (iw_ws mb1 cI 64 kR ++ (jw_ws a2 cJ 4 tf ++ (jw_ws a0 cJ 1232 nf ++ (jw_ws a1 cJ 616 cf ++ (iw_ws a4 cI 4 kf ++ (jw_ws mb2 cJ 4 ky ++ (jw_ws a3 cJ 16 lf ++ (iw_ws a5 cI 4 sf ++ (iw_ws a6 cI 64 vf ++ (jw_ws mb3 cJ 128 md ++ (jw_ws mb4 cJ 4 sh ++ iw_ws mb5 cI 64 ct))))))))))))))))))))))))) (w1 := (mo_ws m0 1 0 0 0 0 0 0 0 0 0 0 a0 a1 a2 a3 a4 a5 a6 a7 a8 a9 mb0 mb1 oc mb2 mb3 mb4 mb5)) (pl := bpool rb lb cJ R Lk) hP hD [23] [0, 1, 2, 3, 4, 5, 6, 7, 8, 9, 10, 11, 12, 13, 14, 15, 16, 17, 18, 19, 20, 21, 22, 24, 25, 26, 27, 28, 29, 30, 31, 32, 33, 34, 35, 36, 37, 38, 39] rfl rfl (by decide) (by decide) hk1 hFc hP1 hD1
        have hP := hP.part (cx := (jw_ws out cJ 1 of ++ (bb_ws b0 bd0 pr0 t0 au0 da .null ++ (rw_ws da cJ (r8 d0 d1 d2 d3 d4 d5 d6 d7) ++ (bd_ws bd0 h0 ro lo 0 cR (rrf rb) (rrf lb) ++ (pr_ws pr0 h0 cm cJ ccf ++ (ha_ws h0 aw ax ay cJ cI w csc cst cL ++ (tt_ws t0 ka aa ba sa .null cJ tZ ++ (au_ws au0 bd0 pr0 tu0 0 ++ (tt_ws tu0 uka uaa uba usa gu cJ tZ ++ (mo_ws m0 1 0 0 0 0 0 0 0 0 0 0 a0 a1 a2 a3 a4 a5 a6 a7 a8 a9 mb0 mb1 oc mb2 mb3 mb4 mb5 ++ (iw_ws a7 cI 256 bf ++ (iw_ws a8 cI 64 sc ++ (iw_ws a9 cI 8 st ++ (iw_ws mb0 cI 8 kS ++ (iw_ws mb1 cI 64 kR ++ (jw_ws a2 cJ 4 tf ++ (jw_ws a0 cJ 1232 nf ++ (jw_ws a1 cJ 616 cf ++ (iw_ws a4 cI 4 kf ++ (jw_ws mb2 cJ 4 ky ++ (jw_ws a3 cJ 16 lf ++ (iw_ws a5 cI 4 sf ++ (iw_ws a6 cI 64 vf ++ (jw_ws mb3 cJ 128 md ++ (jw_ws mb4 cJ 4 sh ++ iw_ws mb5 cI 64 ct)))))))))))))))))))))))))) [0, 1, 2, 3, 4, 5, 6, 7, 8, 9, 10, 11, 12, 13, 14, 15, 16, 17, 18, 19, 20, 21, 22, 39, 23, 24, 25, 26, 27, 28, 29, 30, 31, 32, 33, 34, 35, 36, 37, 38] rfl
        have hD := hD.part (cx := (jw_ws out cJ 1 of ++ (bb_ws b0 bd0 pr0 t0 au0 da .null ++ (rw_ws da cJ (r8 d0 d1 d2 d3 d4 d5 d6 d7) ++ (bd_ws bd0 h0 ro lo 0 cR (rrf rb) (rrf lb) ++ (pr_ws pr0 h0 cm cJ ccf ++ (ha_ws h0 aw ax ay cJ cI w csc cst cL ++ (tt_ws t0 ka aa ba sa .null cJ tZ ++ (au_ws au0 bd0 pr0 tu0 0 ++ (tt_ws tu0 uka uaa uba usa gu cJ tZ ++ (mo_ws m0 1 0 0 0 0 0 0 0 0 0 0 a0 a1 a2 a3 a4 a5 a6 a7 a8 a9 mb0 mb1 oc mb2 mb3 mb4 mb5 ++ (iw_ws a7 cI 256 bf ++ (iw_ws a8 cI 64 sc ++ (iw_ws a9 cI 8 st ++ (iw_ws mb0 cI 8 kS ++ (iw_ws mb1 cI 64 kR ++ (jw_ws a2 cJ 4 tf ++ (jw_ws a0 cJ 1232 nf ++ (jw_ws a1 cJ 616 cf ++ (iw_ws a4 cI 4 kf ++ (jw_ws mb2 cJ 4 ky ++ (jw_ws a3 cJ 16 lf ++ (iw_ws a5 cI 4 sf ++ (iw_ws a6 cI 64 vf ++ (jw_ws mb3 cJ 128 md ++ (jw_ws mb4 cJ 4 sh ++ iw_ws mb5 cI 64 ct)))))))))))))))))))))))))) [0, 1, 2, 3, 4, 5, 6, 7, 8, 9, 10, 11, 12, 13, 14, 15, 16, 17, 18, 19, 20, 21, 22, 39, 23, 24, 25, 26, 27, 28, 29, 30, 31, 32, 33, 34, 35, 36, 37, 38] (by decide) rfl
        generalize H1 = H at hP hS ⊢
        clear hPc hDc hFc hP1 hD1 hK1 ht hk1 hz1
        refine lv_istore (lv' := [(6, .int r_4), (5, .int 1), (4, .int (nI i)), (3, .ref out), (2, .ref m0), (1, .ref b0), (0, .ref b)]) hx hb d_law_1164 hl (by decide) rfl (fun ls hl => ?_)
        refine lv_aload_n hx hb d_law_1166 rfl (lv_at hl 4 rfl) ?_
        have hPc := hP.sub (ws' := (mo_ws m0 1 0 0 0 0 0 0 0 0 0 0 a0 a1 a2 a3 a4 a5 a6 a7 a8 a9 mb0 mb1 oc mb2 mb3 mb4 mb5)) [23] rfl
        have hKc := hK.sub (tys' := [(cJ, .long), (cI, .int)]) [0, 1] rfl
        refine va_calli (va_runV (As := []) (rest := []) ⟨hx, hb, hml, hown, hts⟩ (c_Bm_thrown l H dC dI cJ cI m0 1 0 0 0 0 0 0 0 0 0 0 a0 a1 a2 a3 a4 a5 a6 a7 a8 a9 mb0 mb1 oc mb2 mb3 mb4 mb5 hPc) (cwV 0 hts (gw_V gk_1004 gk_1005 gk_1006 gk_7 gk_1007) rfl rfl rfl (by decide +kernel) ⟨(Nat.le_of_ble_eq_true rfl), (Nat.le_of_ble_eq_true rfl)⟩) ⟨fun a U g mk q => ⟨q.1, q.2.1, va_K.moved (u := U) (U := U.calling g mk a) (Vm.Alike.refl U.vm) q.2.2⟩, va_recv hK hP (ci := 8) (q0 := 23) rfl rfl, fun U hU hW => ⟨rfl, hU, va_K.moved hW.alike hKc⟩⟩ rfl rfl hl.1 rfl (lv_room (Nat.le_of_ble_eq_true rfl)) d_law_1167 ⟨show cells + 8 + 0 + 0 ≤ 601024 by omega, show slots + 48 + 0 + 0 ≤ 7293034 by omega⟩) hS (fun q _ h => h.elim) (fun q h => h.elim) (fun r_5 w9 t9 H1 locs ht hvm hw9 hB hz1 hk1 hS => ?_)
        obtain rfl : H = H1 := hB.symm.trans ht
        have hw9 : r_5 = 1 := hw9
        subst hw9
        clear hPc hz1 hk1 hB
        refine lv_iload hx hb d_law_1170 (lv_at hl 1 rfl) ?_
        refine lv_icmp_eq (tgt := 1177) hx hb d_law_1172 (by decide) (fun c_6 => ?_) (fun c_6 => ?_)
        · -- taken
          refine lv_iload hx hb d_law_1177 (lv_at hl 1 rfl) ?_
          refine lv_if_ne (tgt := 1194) hx hb d_law_1179 (by decide) (fun c_7 => ?_) (fun c_7 => ?_)
          · -- taken
            refine lv_goto (tgt := 1965) hx hb d_law_1194 (by decide) ?_
            refine W.widen (k := cells + 20) (n := slots + 200) (by omega) (by omega) ?_
            have hI9 : LI dC dI cJ cI cR A out b0 m0 H := LF.mk hP hD
            exact cont _ _ _ hS hI9 (lv_sub hl [2, 3, 4, 5, 6] rfl)
          · -- not taken
            exact absurd c_7 (by decide)
        · -- not taken
          exact absurd c_6 (by decide)
      · -- not taken
        exact absurd hx0 c_3
    · -- not taken
      exact absurd hx0 c_1
  refine lv_aload_n hx hb d_law_927 rfl (lv_at hl 3 rfl) ?_
  refine lv_aload_n hx hb d_law_928 rfl (lv_at hl 4 rfl) ?_
  refine lv_iload hx hb d_law_929 (lv_at hl 0 rfl) ?_
  refine lv_iconst (v := 1) hx hb d_law_931 (by decide) ?_
  refine lv_iadd hx hb d_law_932 ?_
  rw [show ((nI i) + 1 : Int32) = nI (i + 1) from nI_add _ 1]
  refine va_sld hx hb hX hbl hbA hS (vp_in_nI (by omega) (by omega)) d_law_933 ?_
  rw [show (xs (nI (i + 1)).toNatClampNeg : Int32) = xs (i + 1) from by rw [nI_clamp (by omega)]]
  rw [show (xs (i + 1) : Int32) = x1 from hx1.symm]
  refine lv_aload_n hx hb d_law_934 rfl (lv_at hl 4 rfl) ?_
  refine lv_iload hx hb d_law_935 (lv_at hl 0 rfl) ?_
  refine lv_iconst (v := 2) hx hb d_law_937 (by decide) ?_
  refine lv_iadd hx hb d_law_938 ?_
  rw [show ((nI i) + 2 : Int32) = nI (i + 2) from nI_add _ 2]
  refine va_sld hx hb hX hbl hbA hS (vp_in_nI (by omega) (by omega)) d_law_939 ?_
  rw [show (xs (nI (i + 2)).toNatClampNeg : Int32) = xs (i + 2) from by rw [nI_clamp (by omega)]]
  rw [show (xs (i + 2) : Int32) = x2 from hx2.symm]
  refine lv_if_eq (tgt := 947) hx hb d_law_940 (by decide) (fun c_8 => ?_) (fun c_8 => ?_)
  · -- taken
    exact absurd c_8 hx0
  · -- not taken
    refine lv_iconst (v := 1) hx hb d_law_943 (by decide) ?_
    refine lv_goto (tgt := 948) hx hb d_law_944 (by decide) ?_
    refine lv_aload_n hx hb d_law_948 rfl (lv_at hl 4 rfl) ?_
    refine lv_iload hx hb d_law_949 (lv_at hl 0 rfl) ?_
    refine lv_iconst (v := 3) hx hb d_law_951 (by decide) ?_
    refine lv_iadd hx hb d_law_952 ?_
    rw [show ((nI i) + 3 : Int32) = nI (i + 3) from nI_add _ 3]
    refine va_sld hx hb hX hbl hbA hS (vp_in_nI (by omega) (by omega)) d_law_953 ?_
    rw [show (xs (nI (i + 3)).toNatClampNeg : Int32) = xs (i + 3) from by rw [nI_clamp (by omega)]]
    refine lv_i2l (v := (xs (i + 3) : Int32).toInt64) hx hb d_law_954 rfl ?_
    refine lv_bipush (v := 32) hx hb d_law_955 (by decide) ?_
    refine lv_lshl (v := ((xs (i + 3) : Int32).toInt64 : Int64) <<< ((32 : Int32).toInt64 &&& 63)) hx hb d_law_957 rfl ?_
    refine lv_aload_n hx hb d_law_958 rfl (lv_at hl 4 rfl) ?_
    refine lv_iload hx hb d_law_959 (lv_at hl 0 rfl) ?_
    refine lv_iconst (v := 4) hx hb d_law_961 (by decide) ?_
    refine lv_iadd hx hb d_law_962 ?_
    rw [show ((nI i) + 4 : Int32) = nI (i + 4) from nI_add _ 4]
    refine va_sld hx hb hX hbl hbA hS (vp_in_nI (by omega) (by omega)) d_law_963 ?_
    rw [show (xs (nI (i + 4)).toNatClampNeg : Int32) = xs (i + 4) from by rw [nI_clamp (by omega)]]
    refine lv_i2l (v := (xs (i + 4) : Int32).toInt64) hx hb d_law_964 rfl ?_
    refine lv_ldc2 (v := 4294967295) hx hb hown (hts _ (List.mem_cons_of_mem _ gk_1202)) d_law_965 ?_
    refine lv_land hx hb d_law_968 ?_
    refine lv_lor hx hb d_law_969 ?_
    rw [show ((((xs (i + 3) : Int32).toInt64 : Int64) <<< ((32 : Int32).toInt64 &&& 63)) ||| (((xs (i + 4) : Int32).toInt64) &&& 4294967295) : Int64) = x3 from hx3.symm]
    refine lv_aload_n hx hb d_law_970 rfl (lv_at hl 4 rfl) ?_
    refine lv_iload hx hb d_law_971 (lv_at hl 0 rfl) ?_
    refine lv_iconst (v := 5) hx hb d_law_973 (by decide) ?_
    refine lv_iadd hx hb d_law_974 ?_
    rw [show ((nI i) + 5 : Int32) = nI (i + 5) from nI_add _ 5]
    refine va_sld hx hb hX hbl hbA hS (vp_in_nI (by omega) (by omega)) d_law_975 ?_
    rw [show (xs (nI (i + 5)).toNatClampNeg : Int32) = xs (i + 5) from by rw [nI_clamp (by omega)]]
    refine lv_i2l (v := (xs (i + 5) : Int32).toInt64) hx hb d_law_976 rfl ?_
    refine lv_bipush (v := 32) hx hb d_law_977 (by decide) ?_
    refine lv_lshl (v := ((xs (i + 5) : Int32).toInt64 : Int64) <<< ((32 : Int32).toInt64 &&& 63)) hx hb d_law_979 rfl ?_
    refine lv_aload_n hx hb d_law_980 rfl (lv_at hl 4 rfl) ?_
    refine lv_iload hx hb d_law_981 (lv_at hl 0 rfl) ?_
    refine lv_bipush (v := 6) hx hb d_law_983 (by decide) ?_
    refine lv_iadd hx hb d_law_985 ?_
    rw [show ((nI i) + 6 : Int32) = nI (i + 6) from nI_add _ 6]
    refine va_sld hx hb hX hbl hbA hS (vp_in_nI (by omega) (by omega)) d_law_986 ?_
    rw [show (xs (nI (i + 6)).toNatClampNeg : Int32) = xs (i + 6) from by rw [nI_clamp (by omega)]]
    refine lv_i2l (v := (xs (i + 6) : Int32).toInt64) hx hb d_law_987 rfl ?_
    refine lv_ldc2 (v := 4294967295) hx hb hown (hts _ (List.mem_cons_of_mem _ gk_1202)) d_law_988 ?_
    refine lv_land hx hb d_law_991 ?_
    refine lv_lor hx hb d_law_992 ?_
    rw [show ((((xs (i + 5) : Int32).toInt64 : Int64) <<< ((32 : Int32).toInt64 &&& 63)) ||| (((xs (i + 6) : Int32).toInt64) &&& 4294967295) : Int64) = x4 from hx4.symm]
    refine lv_aload_n hx hb d_law_993 rfl (lv_at hl 4 rfl) ?_
    refine lv_iload hx hb d_law_994 (lv_at hl 0 rfl) ?_
    refine lv_bipush (v := 7) hx hb d_law_996 (by decide) ?_
    refine lv_iadd hx hb d_law_998 ?_
    rw [show ((nI i) + 7 : Int32) = nI (i + 7) from nI_add _ 7]
    refine va_sld hx hb hX hbl hbA hS (vp_in_nI (by omega) (by omega)) d_law_999 ?_
    rw [show (xs (nI (i + 7)).toNatClampNeg : Int32) = xs (i + 7) from by rw [nI_clamp (by omega)]]
    refine lv_i2l (v := (xs (i + 7) : Int32).toInt64) hx hb d_law_1000 rfl ?_
    refine lv_bipush (v := 32) hx hb d_law_1001 (by decide) ?_
    refine lv_lshl (v := ((xs (i + 7) : Int32).toInt64 : Int64) <<< ((32 : Int32).toInt64 &&& 63)) hx hb d_law_1003 rfl ?_
    refine lv_aload_n hx hb d_law_1004 rfl (lv_at hl 4 rfl) ?_
    refine lv_iload hx hb d_law_1005 (lv_at hl 0 rfl) ?_
    refine lv_bipush (v := 8) hx hb d_law_1007 (by decide) ?_
    refine lv_iadd hx hb d_law_1009 ?_
    rw [show ((nI i) + 8 : Int32) = nI (i + 8) from nI_add _ 8]
    refine va_sld hx hb hX hbl hbA hS (vp_in_nI (by omega) (by omega)) d_law_1010 ?_
    rw [show (xs (nI (i + 8)).toNatClampNeg : Int32) = xs (i + 8) from by rw [nI_clamp (by omega)]]
    refine lv_i2l (v := (xs (i + 8) : Int32).toInt64) hx hb d_law_1011 rfl ?_
    refine lv_ldc2 (v := 4294967295) hx hb hown (hts _ (List.mem_cons_of_mem _ gk_1202)) d_law_1012 ?_
    refine lv_land hx hb d_law_1015 ?_
    refine lv_lor hx hb d_law_1016 ?_
    rw [show ((((xs (i + 7) : Int32).toInt64 : Int64) <<< ((32 : Int32).toInt64 &&& 63)) ||| (((xs (i + 8) : Int32).toInt64) &&& 4294967295) : Int64) = x5 from hx5.symm]
    refine lv_aload_n hx hb d_law_1017 rfl (lv_at hl 4 rfl) ?_
    refine lv_iload hx hb d_law_1018 (lv_at hl 0 rfl) ?_
    refine lv_bipush (v := 9) hx hb d_law_1020 (by decide) ?_
    refine lv_iadd hx hb d_law_1022 ?_
    rw [show ((nI i) + 9 : Int32) = nI (i + 9) from nI_add _ 9]
    refine va_sld hx hb hX hbl hbA hS (vp_in_nI (by omega) (by omega)) d_law_1023 ?_
    rw [show (xs (nI (i + 9)).toNatClampNeg : Int32) = xs (i + 9) from by rw [nI_clamp (by omega)]]
    refine lv_i2l (v := (xs (i + 9) : Int32).toInt64) hx hb d_law_1024 rfl ?_
    refine lv_bipush (v := 32) hx hb d_law_1025 (by decide) ?_
    refine lv_lshl (v := ((xs (i + 9) : Int32).toInt64 : Int64) <<< ((32 : Int32).toInt64 &&& 63)) hx hb d_law_1027 rfl ?_
    refine lv_aload_n hx hb d_law_1028 rfl (lv_at hl 4 rfl) ?_
    refine lv_iload hx hb d_law_1029 (lv_at hl 0 rfl) ?_
    refine lv_bipush (v := 10) hx hb d_law_1031 (by decide) ?_
    refine lv_iadd hx hb d_law_1033 ?_
    rw [show ((nI i) + 10 : Int32) = nI (i + 10) from nI_add _ 10]
    refine va_sld hx hb hX hbl hbA hS (vp_in_nI (by omega) (by omega)) d_law_1034 ?_
    rw [show (xs (nI (i + 10)).toNatClampNeg : Int32) = xs (i + 10) from by rw [nI_clamp (by omega)]]
    refine lv_i2l (v := (xs (i + 10) : Int32).toInt64) hx hb d_law_1035 rfl ?_
    refine lv_ldc2 (v := 4294967295) hx hb hown (hts _ (List.mem_cons_of_mem _ gk_1202)) d_law_1036 ?_
    refine lv_land hx hb d_law_1039 ?_
    refine lv_lor hx hb d_law_1040 ?_
    rw [show ((((xs (i + 9) : Int32).toInt64 : Int64) <<< ((32 : Int32).toInt64 &&& 63)) ||| (((xs (i + 10) : Int32).toInt64) &&& 4294967295) : Int64) = x6 from hx6.symm]
    refine lv_aload_n hx hb d_law_1041 rfl (lv_at hl 1 rfl) ?_
    have hPc := hP.sub (ws' := (jw_ws out cJ 1 of ++ bb_ws b0 bd0 pr0 t0 au0 da .null)) [0, 1] rfl
    have hDc := hD.sub (ws' := (jw_ws out cJ 1 of ++ bb_ws b0 bd0 pr0 t0 au0 da .null)) [0, 1] (by decide) rfl
    have hKc := hK.sub (tys' := [(cJ, .long), (cI, .int), (cR, .array .long)]) [0, 1, 2] rfl
    have hFc := va_free (wc := (jw_ws out cJ 1 of ++ bb_ws b0 bd0 pr0 t0 au0 da .null)) hD hS hA [0, 1] rfl
    have hZc0 : xz (va_A (jw_ws out cJ 1 of ++ bb_ws b0 bd0 pr0 t0 au0 da .null) H.size) s H := (hZx.kept hS.2.1).narrow hFc
    have hZc1 : nc_Z s := hZn
    refine vx_calli (vx_runSX (hh := h_Lw_makeBallot) (As := [.ref b0, .int x1, .int 1, .long x3, .long x4, .long x5, .long x6, .ref out]) (rest := []) ⟨hx, hb, hml, hown, hts⟩ (c_Lw_makeBallot_n l hnt dC dI cJ cI cR H.size b0 bd0 pr0 t0 au0 da x1 1 x3 x4 x5 x6 out of) (vx_cwSW 8 hts (gw_Sv gk_667 gk_668 gk_0 gk_669) rfl rfl rfl (by decide +kernel) ⟨(Nat.le_of_ble_eq_true rfl), (Nat.le_of_ble_eq_true rfl)⟩) ⟨fun a U g mk q => by obtain ⟨q0, q1, qP, qK, qD, qZ0, qZ1⟩ := q; exact ⟨q0, q1, qP, va_K.moved (u := U) (U := U.calling g mk a) (Vm.Alike.refl U.vm) qK, qD, xz.same (u := U) (U := U.calling g mk a) rfl qZ0, nc_Z.moved (u := U) (U := U.calling g mk a) (Vm.Alike.refl U.vm) qZ1⟩, fun U hU hW => ⟨rfl, by rw [hU], by rw [hU]; exact hPc, va_K.moved hW.alike hKc, hDc.weaken (fun _ _ _ _ => trivial), by rw [hU]; exact xz.warm hW hZc0, nc_Z.moved hW.alike hZc1⟩⟩ rfl rfl hl.1 rfl (lv_room (Nat.le_of_ble_eq_true rfl)) d_law_1042 ⟨show cells + 8 ≤ 601024 by omega, show slots + 48 ≤ 7293034 by omega⟩) hS (fun q _ h => hFc q h) hFc (fun q _ h => hFc q h) (fun E9 ce9 q9 u8 t9 H1 locs ht hvm hpx hbx hz1 hk1 hS hce hcv hcl => hpx.elim) (fun r_9 u9 t9 H1 locs ht hvm hw hB hz1 hk1 hS => ?_)
    obtain ⟨hP1, hK1, hD1⟩ := hB
    rw [ht] at hP1
    obtain ⟨hP, hD⟩ := va_joinQ (X := (jw_ws out cJ 1 of ++ (bb_ws b0 bd0 pr0 t0 au0 da .null ++ (rw_ws da cJ (r8 d0 d1 d2 d3 d4 d5 d6 d7) ++ (bd_ws bd0 h0 ro lo 0 cR (rrf rb) (rrf lb) ++ (pr_ws pr0 h0 cm cJ ccf ++ (ha_ws h0 aw ax ay cJ cI w csc cst cL ++ (tt_ws t0 ka aa ba sa .null cJ tZ ++ (au_ws au0 bd0 pr0 tu0 0 ++ (tt_ws tu0 uka uaa uba usa gu cJ tZ ++ (mo_ws m0 e0 0 0 0 0 0 0 0 0 0 0 a0 a1 a2 a3 a4 a5 a6 a7 a8 a9 mb0 mb1 oc mb2 mb3 mb4 mb5 ++ (iw_ws a7 cI 256 bf ++ (iw_ws a8 cI 64 sc ++ (iw_ws a9 cI 8 st ++ (iw_ws mb0 cI 8 kS ++ (iw_ws mb1 cI 64 kR ++ (jw_ws a2 cJ 4 tf ++ (jw_ws a0 cJ 1232 nf ++ (jw_ws a1 cJ 616 cf ++ (iw_ws a4 cI 4 kf ++ (jw_ws mb2 cJ 4 ky ++ (jw_ws a3 cJ 16 lf ++ (iw_ws a5 cI 4 sf ++ (iw_ws a6 cI 64 vf ++ (jw_ws mb3 cJ 128 md ++ (jw_ws mb4 cJ 4 sh ++ iw_ws mb5 cI 64 ct)))))))))))))))))))))))))) (cx := (jw_ws out cJ 1 of ++ bb_ws b0 bd0 pr0 t0 au0 da .null)) (wr := (rw_ws da cJ (r8 d0 d1 d2 d3 d4 d5 d6 d7) ++ (bd_ws bd0 h0 ro lo 0 cR (rrf rb) (rrf lb) ++ (pr_ws pr0 h0 cm cJ ccf ++ (ha_ws h0 aw ax ay cJ cI w csc cst cL ++ (tt_ws t0 ka aa ba sa .null cJ tZ ++ (au_ws au0 bd0 pr0 tu0 0 ++ (tt_ws tu0 uka uaa uba usa gu cJ tZ ++ (mo_ws m0 e0 0 0 0 0 0 0 0 0 0 0 a0 a1 a2 a3 a4 a5 a6 a7 a8 a9 mb0 mb1 oc mb2 mb3 mb4 mb5 ++ (iw_ws a7 cI 256 bf ++ (iw_ws a8 cI 64 sc ++ (iw_ws a9 cI 8 st ++ (iw_ws mb0 cI 8 kS ++ (iw_ws mb1 cI 64 kR ++ (jw_ws a2 cJ 4 tf ++ (jw_ws a0 cJ 1232 nf ++ (jw_ws a1 cJ 616 cf ++ (iw_ws a4 cI 4 kf ++ (jw_ws mb2 cJ 4 ky ++ (jw_ws a3 cJ 16 lf ++ (iw_ws a5 cI 4 sf ++ (iw_ws a6 cI 64 vf ++ (jw_ws mb3 cJ 128 md ++ (jw_ws mb4 cJ 4 sh ++ iw_ws mb5 cI 64 ct)))))))))))))))))))))))) (w1 := (jw_ws out cJ 1 of ++ bb_ws b0 bd0 pr0 t0 au0 da .null)) (pl := bpool rb lb cJ R Lk) hP hD [0, 1] [2, 3, 4, 5, 6, 7, 8, 9, 10, 11, 12, 13, 14, 15, 16, 17, 18, 19, 20, 21, 22, 23, 24, 25, 26, 27, 28, 29, 30, 31, 32, 33, 34, 35, 36, 37, 38, 39] rfl rfl (by decide) (by decide) hk1 hFc hP1 hD1
    have hP := hP.part (cx := (jw_ws out cJ 1 of ++ (bb_ws b0 bd0 pr0 t0 au0 da .null ++ (rw_ws da cJ (r8 d0 d1 d2 d3 d4 d5 d6 d7) ++ (bd_ws bd0 h0 ro lo 0 cR (rrf rb) (rrf lb) ++ (pr_ws pr0 h0 cm cJ ccf ++ (ha_ws h0 aw ax ay cJ cI w csc cst cL ++ (tt_ws t0 ka aa ba sa .null cJ tZ ++ (au_ws au0 bd0 pr0 tu0 0 ++ (tt_ws tu0 uka uaa uba usa gu cJ tZ ++ (mo_ws m0 e0 0 0 0 0 0 0 0 0 0 0 a0 a1 a2 a3 a4 a5 a6 a7 a8 a9 mb0 mb1 oc mb2 mb3 mb4 mb5 ++ (iw_ws a7 cI 256 bf ++ (iw_ws a8 cI 64 sc ++ (iw_ws a9 cI 8 st ++ (iw_ws mb0 cI 8 kS ++ (iw_ws mb1 cI 64 kR ++ (jw_ws a2 cJ 4 tf ++ (jw_ws a0 cJ 1232 nf ++ (jw_ws a1 cJ 616 cf ++ (iw_ws a4 cI 4 kf ++ (jw_ws mb2 cJ 4 ky ++ (jw_ws a3 cJ 16 lf ++ (iw_ws a5 cI 4 sf ++ (iw_ws a6 cI 64 vf ++ (jw_ws mb3 cJ 128 md ++ (jw_ws mb4 cJ 4 sh ++ iw_ws mb5 cI 64 ct)))))))))))))))))))))))))) [38, 39, 0, 1, 2, 3, 4, 5, 6, 7, 8, 9, 10, 11, 12, 13, 14, 15, 16, 17, 18, 19, 20, 21, 22, 23, 24, 25, 26, 27, 28, 29, 30, 31, 32, 33, 34, 35, 36, 37] rfl
    have hD := hD.part (cx := (jw_ws out cJ 1 of ++ (bb_ws b0 bd0 pr0 t0 au0 da .null ++ (rw_ws da cJ (r8 d0 d1 d2 d3 d4 d5 d6 d7) ++ (bd_ws bd0 h0 ro lo 0 cR (rrf rb) (rrf lb) ++ (pr_ws pr0 h0 cm cJ ccf ++ (ha_ws h0 aw ax ay cJ cI w csc cst cL ++ (tt_ws t0 ka aa ba sa .null cJ tZ ++ (au_ws au0 bd0 pr0 tu0 0 ++ (tt_ws tu0 uka uaa uba usa gu cJ tZ ++ (mo_ws m0 e0 0 0 0 0 0 0 0 0 0 0 a0 a1 a2 a3 a4 a5 a6 a7 a8 a9 mb0 mb1 oc mb2 mb3 mb4 mb5 ++ (iw_ws a7 cI 256 bf ++ (iw_ws a8 cI 64 sc ++ (iw_ws a9 cI 8 st ++ (iw_ws mb0 cI 8 kS ++ (iw_ws mb1 cI 64 kR ++ (jw_ws a2 cJ 4 tf ++ (jw_ws a0 cJ 1232 nf ++ (jw_ws a1 cJ 616 cf ++ (iw_ws a4 cI 4 kf ++ (jw_ws mb2 cJ 4 ky ++ (jw_ws a3 cJ 16 lf ++ (iw_ws a5 cI 4 sf ++ (iw_ws a6 cI 64 vf ++ (jw_ws mb3 cJ 128 md ++ (jw_ws mb4 cJ 4 sh ++ iw_ws mb5 cI 64 ct)))))))))))))))))))))))))) [38, 39, 0, 1, 2, 3, 4, 5, 6, 7, 8, 9, 10, 11, 12, 13, 14, 15, 16, 17, 18, 19, 20, 21, 22, 23, 24, 25, 26, 27, 28, 29, 30, 31, 32, 33, 34, 35, 36, 37] (by decide) rfl
    generalize H1 = H at hP hS ⊢
    clear hPc hDc hFc hP1 hD1 hK1 ht hk1 hz1
    have hr9 : r_9 = 1 := hw
    subst hr9
    refine lv_istore (lv' := [(5, .int 1), (4, .int (nI i)), (3, .ref out), (2, .ref m0), (1, .ref b0), (0, .ref b)]) hx hb d_law_1045 hl (by decide) rfl (fun ls hl => ?_)
    refine lv_aload_n hx hb d_law_1047 rfl (lv_at hl 3 rfl) ?_
    refine lv_aload_n hx hb d_law_1048 rfl (lv_at hl 5 rfl) ?_
    refine lv_iload hx hb d_law_1049 (lv_at hl 1 rfl) ?_
    refine lv_iconst (v := 1) hx hb d_law_1051 (by decide) ?_
    refine lv_iadd hx hb d_law_1052 ?_
    rw [show ((nI i) + 1 : Int32) = nI (i + 1) from nI_add _ 1]
    refine va_sld hx hb hX hbl hbA hS (vp_in_nI (by omega) (by omega)) d_law_1053 ?_
    rw [show (xs (nI (i + 1)).toNatClampNeg : Int32) = xs (i + 1) from by rw [nI_clamp (by omega)]]
    rw [show (xs (i + 1) : Int32) = x1 from hx1.symm]
    refine lv_aload_n hx hb d_law_1054 rfl (lv_at hl 5 rfl) ?_
    refine lv_iload hx hb d_law_1055 (lv_at hl 1 rfl) ?_
    refine lv_iconst (v := 2) hx hb d_law_1057 (by decide) ?_
    refine lv_iadd hx hb d_law_1058 ?_
    rw [show ((nI i) + 2 : Int32) = nI (i + 2) from nI_add _ 2]
    refine va_sld hx hb hX hbl hbA hS (vp_in_nI (by omega) (by omega)) d_law_1059 ?_
    rw [show (xs (nI (i + 2)).toNatClampNeg : Int32) = xs (i + 2) from by rw [nI_clamp (by omega)]]
    rw [show (xs (i + 2) : Int32) = x2 from hx2.symm]
    refine lv_if_eq (tgt := 1067) hx hb d_law_1060 (by decide) (fun c_10 => ?_) (fun c_10 => ?_)
    · -- taken
      exact absurd c_10 hx0
    · -- not taken
      refine lv_iconst (v := 1) hx hb d_law_1063 (by decide) ?_
      refine lv_goto (tgt := 1068) hx hb d_law_1064 (by decide) ?_
      refine lv_aload_n hx hb d_law_1068 rfl (lv_at hl 5 rfl) ?_
      refine lv_iload hx hb d_law_1069 (lv_at hl 1 rfl) ?_
      refine lv_iconst (v := 3) hx hb d_law_1071 (by decide) ?_
      refine lv_iadd hx hb d_law_1072 ?_
      rw [show ((nI i) + 3 : Int32) = nI (i + 3) from nI_add _ 3]
      refine va_sld hx hb hX hbl hbA hS (vp_in_nI (by omega) (by omega)) d_law_1073 ?_
      rw [show (xs (nI (i + 3)).toNatClampNeg : Int32) = xs (i + 3) from by rw [nI_clamp (by omega)]]
      refine lv_i2l (v := (xs (i + 3) : Int32).toInt64) hx hb d_law_1074 rfl ?_
      refine lv_bipush (v := 32) hx hb d_law_1075 (by decide) ?_
      refine lv_lshl (v := ((xs (i + 3) : Int32).toInt64 : Int64) <<< ((32 : Int32).toInt64 &&& 63)) hx hb d_law_1077 rfl ?_
      refine lv_aload_n hx hb d_law_1078 rfl (lv_at hl 5 rfl) ?_
      refine lv_iload hx hb d_law_1079 (lv_at hl 1 rfl) ?_
      refine lv_iconst (v := 4) hx hb d_law_1081 (by decide) ?_
      refine lv_iadd hx hb d_law_1082 ?_
      rw [show ((nI i) + 4 : Int32) = nI (i + 4) from nI_add _ 4]
      refine va_sld hx hb hX hbl hbA hS (vp_in_nI (by omega) (by omega)) d_law_1083 ?_
      rw [show (xs (nI (i + 4)).toNatClampNeg : Int32) = xs (i + 4) from by rw [nI_clamp (by omega)]]
      refine lv_i2l (v := (xs (i + 4) : Int32).toInt64) hx hb d_law_1084 rfl ?_
      refine lv_ldc2 (v := 4294967295) hx hb hown (hts _ (List.mem_cons_of_mem _ gk_1202)) d_law_1085 ?_
      refine lv_land hx hb d_law_1088 ?_
      refine lv_lor hx hb d_law_1089 ?_
      rw [show ((((xs (i + 3) : Int32).toInt64 : Int64) <<< ((32 : Int32).toInt64 &&& 63)) ||| (((xs (i + 4) : Int32).toInt64) &&& 4294967295) : Int64) = x3 from hx3.symm]
      refine lv_aload_n hx hb d_law_1090 rfl (lv_at hl 5 rfl) ?_
      refine lv_iload hx hb d_law_1091 (lv_at hl 1 rfl) ?_
      refine lv_iconst (v := 5) hx hb d_law_1093 (by decide) ?_
      refine lv_iadd hx hb d_law_1094 ?_
      rw [show ((nI i) + 5 : Int32) = nI (i + 5) from nI_add _ 5]
      refine va_sld hx hb hX hbl hbA hS (vp_in_nI (by omega) (by omega)) d_law_1095 ?_
      rw [show (xs (nI (i + 5)).toNatClampNeg : Int32) = xs (i + 5) from by rw [nI_clamp (by omega)]]
      refine lv_i2l (v := (xs (i + 5) : Int32).toInt64) hx hb d_law_1096 rfl ?_
      refine lv_bipush (v := 32) hx hb d_law_1097 (by decide) ?_
      refine lv_lshl (v := ((xs (i + 5) : Int32).toInt64 : Int64) <<< ((32 : Int32).toInt64 &&& 63)) hx hb d_law_1099 rfl ?_
      refine lv_aload_n hx hb d_law_1100 rfl (lv_at hl 5 rfl) ?_
      refine lv_iload hx hb d_law_1101 (lv_at hl 1 rfl) ?_
      refine lv_bipush (v := 6) hx hb d_law_1103 (by decide) ?_
      refine lv_iadd hx hb d_law_1105 ?_
      rw [show ((nI i) + 6 : Int32) = nI (i + 6) from nI_add _ 6]
      refine va_sld hx hb hX hbl hbA hS (vp_in_nI (by omega) (by omega)) d_law_1106 ?_
      rw [show (xs (nI (i + 6)).toNatClampNeg : Int32) = xs (i + 6) from by rw [nI_clamp (by omega)]]
      refine lv_i2l (v := (xs (i + 6) : Int32).toInt64) hx hb d_law_1107 rfl ?_
      refine lv_ldc2 (v := 4294967295) hx hb hown (hts _ (List.mem_cons_of_mem _ gk_1202)) d_law_1108 ?_
      refine lv_land hx hb d_law_1111 ?_
      refine lv_lor hx hb d_law_1112 ?_
      rw [show ((((xs (i + 5) : Int32).toInt64 : Int64) <<< ((32 : Int32).toInt64 &&& 63)) ||| (((xs (i + 6) : Int32).toInt64) &&& 4294967295) : Int64) = x4 from hx4.symm]
      refine lv_aload_n hx hb d_law_1113 rfl (lv_at hl 5 rfl) ?_
      refine lv_iload hx hb d_law_1114 (lv_at hl 1 rfl) ?_
      refine lv_bipush (v := 7) hx hb d_law_1116 (by decide) ?_
      refine lv_iadd hx hb d_law_1118 ?_
      rw [show ((nI i) + 7 : Int32) = nI (i + 7) from nI_add _ 7]
      refine va_sld hx hb hX hbl hbA hS (vp_in_nI (by omega) (by omega)) d_law_1119 ?_
      rw [show (xs (nI (i + 7)).toNatClampNeg : Int32) = xs (i + 7) from by rw [nI_clamp (by omega)]]
      refine lv_i2l (v := (xs (i + 7) : Int32).toInt64) hx hb d_law_1120 rfl ?_
      refine lv_bipush (v := 32) hx hb d_law_1121 (by decide) ?_
      refine lv_lshl (v := ((xs (i + 7) : Int32).toInt64 : Int64) <<< ((32 : Int32).toInt64 &&& 63)) hx hb d_law_1123 rfl ?_
      refine lv_aload_n hx hb d_law_1124 rfl (lv_at hl 5 rfl) ?_
      refine lv_iload hx hb d_law_1125 (lv_at hl 1 rfl) ?_
      refine lv_bipush (v := 8) hx hb d_law_1127 (by decide) ?_
      refine lv_iadd hx hb d_law_1129 ?_
      rw [show ((nI i) + 8 : Int32) = nI (i + 8) from nI_add _ 8]
      refine va_sld hx hb hX hbl hbA hS (vp_in_nI (by omega) (by omega)) d_law_1130 ?_
      rw [show (xs (nI (i + 8)).toNatClampNeg : Int32) = xs (i + 8) from by rw [nI_clamp (by omega)]]
      refine lv_i2l (v := (xs (i + 8) : Int32).toInt64) hx hb d_law_1131 rfl ?_
      refine lv_ldc2 (v := 4294967295) hx hb hown (hts _ (List.mem_cons_of_mem _ gk_1202)) d_law_1132 ?_
      refine lv_land hx hb d_law_1135 ?_
      refine lv_lor hx hb d_law_1136 ?_
      rw [show ((((xs (i + 7) : Int32).toInt64 : Int64) <<< ((32 : Int32).toInt64 &&& 63)) ||| (((xs (i + 8) : Int32).toInt64) &&& 4294967295) : Int64) = x5 from hx5.symm]
      refine lv_aload_n hx hb d_law_1137 rfl (lv_at hl 5 rfl) ?_
      refine lv_iload hx hb d_law_1138 (lv_at hl 1 rfl) ?_
      refine lv_bipush (v := 9) hx hb d_law_1140 (by decide) ?_
      refine lv_iadd hx hb d_law_1142 ?_
      rw [show ((nI i) + 9 : Int32) = nI (i + 9) from nI_add _ 9]
      refine va_sld hx hb hX hbl hbA hS (vp_in_nI (by omega) (by omega)) d_law_1143 ?_
      rw [show (xs (nI (i + 9)).toNatClampNeg : Int32) = xs (i + 9) from by rw [nI_clamp (by omega)]]
      refine lv_i2l (v := (xs (i + 9) : Int32).toInt64) hx hb d_law_1144 rfl ?_
      refine lv_bipush (v := 32) hx hb d_law_1145 (by decide) ?_
      refine lv_lshl (v := ((xs (i + 9) : Int32).toInt64 : Int64) <<< ((32 : Int32).toInt64 &&& 63)) hx hb d_law_1147 rfl ?_
      refine lv_aload_n hx hb d_law_1148 rfl (lv_at hl 5 rfl) ?_
      refine lv_iload hx hb d_law_1149 (lv_at hl 1 rfl) ?_
      refine lv_bipush (v := 10) hx hb d_law_1151 (by decide) ?_
      refine lv_iadd hx hb d_law_1153 ?_
      rw [show ((nI i) + 10 : Int32) = nI (i + 10) from nI_add _ 10]
      refine va_sld hx hb hX hbl hbA hS (vp_in_nI (by omega) (by omega)) d_law_1154 ?_
      rw [show (xs (nI (i + 10)).toNatClampNeg : Int32) = xs (i + 10) from by rw [nI_clamp (by omega)]]
      refine lv_i2l (v := (xs (i + 10) : Int32).toInt64) hx hb d_law_1155 rfl ?_
      refine lv_ldc2 (v := 4294967295) hx hb hown (hts _ (List.mem_cons_of_mem _ gk_1202)) d_law_1156 ?_
      refine lv_land hx hb d_law_1159 ?_
      refine lv_lor hx hb d_law_1160 ?_
      rw [show ((((xs (i + 9) : Int32).toInt64 : Int64) <<< ((32 : Int32).toInt64 &&& 63)) ||| (((xs (i + 10) : Int32).toInt64) &&& 4294967295) : Int64) = x6 from hx6.symm]
      have hPc := hP.sub (ws' := (mo_ws m0 e0 0 0 0 0 0 0 0 0 0 0 a0 a1 a2 a3 a4 a5 a6 a7 a8 a9 mb0 mb1 oc mb2 mb3 mb4 mb5)) [23] rfl
      have hDc := hD.sub (ws' := (mo_ws m0 e0 0 0 0 0 0 0 0 0 0 0 a0 a1 a2 a3 a4 a5 a6 a7 a8 a9 mb0 mb1 oc mb2 mb3 mb4 mb5)) [23] (by decide) rfl
      have hKc := hK.sub (tys' := [(cJ, .long), (cI, .int)]) [0, 1] rfl
      have hFc := va_free (wc := (mo_ws m0 e0 0 0 0 0 0 0 0 0 0 0 a0 a1 a2 a3 a4 a5 a6 a7 a8 a9 mb0 mb1 oc mb2 mb3 mb4 mb5)) hD hS hA [23] rfl
      refine va_calli (va_runV (As := [.int x1, .int 1, .long x3, .long x4, .long x5, .long x6]) (rest := []) ⟨hx, hb, hml, hown, hts⟩ (c_Bm_makeBallot_n l dC dI cJ cI H.size m0 e0 0 0 0 0 0 0 0 0 0 0 a0 a1 a2 a3 a4 a5 a6 a7 a8 a9 mb0 mb1 oc mb2 mb3 mb4 mb5 x1 1 x3 x4 x5 x6 rfl) (cwV 6 hts (gw_V gk_1141 gk_1142 gk_1143 gk_7 gk_1144) rfl rfl rfl (by decide +kernel) ⟨(Nat.le_of_ble_eq_true rfl), (Nat.le_of_ble_eq_true rfl)⟩) ⟨fun a U g mk q => by obtain ⟨q0, q1, qP, qK, qD⟩ := q; exact ⟨q0, q1, qP, va_K.moved (u := U) (U := U.calling g mk a) (Vm.Alike.refl U.vm) qK, qD⟩, va_recv hK hP (ci := 8) (q0 := 23) rfl rfl, fun U hU hW => ⟨rfl, by rw [hU], by rw [hU]; exact hPc, va_K.moved hW.alike hKc, hDc.weaken (fun _ _ _ _ => trivial)⟩⟩ rfl rfl hl.1 rfl (lv_room (Nat.le_of_ble_eq_true rfl)) d_law_1161 ⟨show cells + 8 + 0 ≤ 601024 by omega, show slots + 48 + 0 ≤ 7293034 by omega⟩) hS (fun q _ h => hFc q h) hFc (fun r_11 v9 t9 H1 locs ht hvm hw hB hz1 hk1 hS => ?_)
      obtain ⟨hP1, hK1, hD1⟩ := hB
      rw [ht] at hP1
      obtain ⟨hP, hD⟩ := va_joinQ (X := (jw_ws out cJ 1 of ++ (bb_ws b0 bd0 pr0 t0 au0 da .null ++ (rw_ws da cJ (r8 d0 d1 d2 d3 d4 d5 d6 d7) ++ (bd_ws bd0 h0 ro lo 0 cR (rrf rb) (rrf lb) ++ (pr_ws pr0 h0 cm cJ ccf ++ (ha_ws h0 aw ax ay cJ cI w csc cst cL ++ (tt_ws t0 ka aa ba sa .null cJ tZ ++ (au_ws au0 bd0 pr0 tu0 0 ++ (tt_ws tu0 uka uaa uba usa gu cJ tZ ++ (mo_ws m0 e0 0 0 0 0 0 0 0 0 0 0 a0 a1 a2 a3 a4 a5 a6 a7 a8 a9 mb0 mb1 oc mb2 mb3 mb4 mb5 ++ (iw_ws a7 cI 256 bf ++ (iw_ws a8 cI 64 sc ++ (iw_ws a9 cI 8 st ++ (iw_ws mb0 cI 8 kS ++ (iw_ws mb1 cI 64 kR ++ (jw_ws a2 cJ 4 tf ++ (jw_ws a0 cJ 1232 nf ++ (jw_ws a1 cJ 616 cf ++ (iw_ws a4 cI 4 kf ++ (jw_ws mb2 cJ 4 ky ++ (jw_ws a3 cJ 16 lf ++ (iw_ws a5 cI 4 sf ++ (iw_ws a6 cI 64 vf ++ (jw_ws mb3 cJ 128 md ++ (jw_ws mb4 cJ 4 sh ++ iw_ws mb5 cI 64 ct)))))))))))))))))))))))))) (cx := (mo_ws m0 e0 0 0 0 0 0 0 0 0 0 0 a0 a1 a2 a3 a4 a5 a6 a7 a8 a9 mb0 mb1 oc mb2 mb3 mb4 mb5)) (wr := (jw_ws out cJ 1 of ++ (bb_ws b0 bd0 pr0 t0 au0 da .null ++ (rw_ws da cJ (r8 d0 d1 d2 d3 d4 d5 d6 d7) ++ (bd_ws bd0 h0 ro lo 0 cR (rrf rb) (rrf lb) ++ (pr_ws pr0 h0 cm cJ ccf ++ (ha_ws h0 aw ax ay cJ cI w csc cst cL ++ (tt_ws t0 ka aa ba sa .null cJ tZ ++ (au_ws au0 bd0 pr0 tu0 0 ++ (tt_ws tu0 uka uaa uba usa gu cJ tZ ++ (iw_ws a7 cI 256 bf ++ (iw_ws a8 cI 64 sc ++ (iw_ws a9 cI 8 st ++ (iw_ws mb0 cI 8 kS ++ (iw_ws mb1 cI 64 kR ++ (jw_ws a2 cJ 4 tf ++ (jw_ws a0 cJ 1232 nf ++ (jw_ws a1 cJ 616 cf ++ (iw_ws a4 cI 4 kf ++ (jw_ws mb2 cJ 4 ky ++ (jw_ws a3 cJ 16 lf ++ (iw_ws a5 cI 4 sf ++ (iw_ws a6 cI 64 vf ++ (jw_ws mb3 cJ 128 md ++ (jw_ws mb4 cJ 4 sh ++ iw_ws mb5 cI 64 ct))))))))))))))))))))))))) (w1 := (mo_ws m0 1 0 0 0 0 0 0 0 0 0 0 a0 a1 a2 a3 a4 a5 a6 a7 a8 a9 mb0 mb1 oc mb2 mb3 mb4 mb5)) (pl := bpool rb lb cJ R Lk) hP hD [23] [0, 1, 2, 3, 4, 5, 6, 7, 8, 9, 10, 11, 12, 13, 14, 15, 16, 17, 18, 19, 20, 21, 22, 24, 25, 26, 27, 28, 29, 30, 31, 32, 33, 34, 35, 36, 37, 38, 39] rfl rfl (by decide) (by decide) hk1 hFc hP1 hD1
      have hP := hP.part (cx := (jw_ws out cJ 1 of ++ (bb_ws b0 bd0 pr0 t0 au0 da .null ++ (rw_ws da cJ (r8 d0 d1 d2 d3 d4 d5 d6 d7) ++ (bd_ws bd0 h0 ro lo 0 cR (rrf rb) (rrf lb) ++ (pr_ws pr0 h0 cm cJ ccf ++ (ha_ws h0 aw ax ay cJ cI w csc cst cL ++ (tt_ws t0 ka aa ba sa .null cJ tZ ++ (au_ws au0 bd0 pr0 tu0 0 ++ (tt_ws tu0 uka uaa uba usa gu cJ tZ ++ (mo_ws m0 1 0 0 0 0 0 0 0 0 0 0 a0 a1 a2 a3 a4 a5 a6 a7 a8 a9 mb0 mb1 oc mb2 mb3 mb4 mb5 ++ (iw_ws a7 cI 256 bf ++ (iw_ws a8 cI 64 sc ++ (iw_ws a9 cI 8 st ++ (iw_ws mb0 cI 8 kS ++ (iw_ws mb1 cI 64 kR ++ (jw_ws a2 cJ 4 tf ++ (jw_ws a0 cJ 1232 nf ++ (jw_ws a1 cJ 616 cf ++ (iw_ws a4 cI 4 kf ++ (jw_ws mb2 cJ 4 ky ++ (jw_ws a3 cJ 16 lf ++ (iw_ws a5 cI 4 sf ++ (iw_ws a6 cI 64 vf ++ (jw_ws mb3 cJ 128 md ++ (jw_ws mb4 cJ 4 sh ++ iw_ws mb5 cI 64 ct)))))))))))))))))))))))))) [0, 1, 2, 3, 4, 5, 6, 7, 8, 9, 10, 11, 12, 13, 14, 15, 16, 17, 18, 19, 20, 21, 22, 39, 23, 24, 25, 26, 27, 28, 29, 30, 31, 32, 33, 34, 35, 36, 37, 38] rfl
      have hD := hD.part (cx := (jw_ws out cJ 1 of ++ (bb_ws b0 bd0 pr0 t0 au0 da .null ++ (rw_ws da cJ (r8 d0 d1 d2 d3 d4 d5 d6 d7) ++ (bd_ws bd0 h0 ro lo 0 cR (rrf rb) (rrf lb) ++ (pr_ws pr0 h0 cm cJ ccf ++ (ha_ws h0 aw ax ay cJ cI w csc cst cL ++ (tt_ws t0 ka aa ba sa .null cJ tZ ++ (au_ws au0 bd0 pr0 tu0 0 ++ (tt_ws tu0 uka uaa uba usa gu cJ tZ ++ (mo_ws m0 1 0 0 0 0 0 0 0 0 0 0 a0 a1 a2 a3 a4 a5 a6 a7 a8 a9 mb0 mb1 oc mb2 mb3 mb4 mb5 ++ (iw_ws a7 cI 256 bf ++ (iw_ws a8 cI 64 sc ++ (iw_ws a9 cI 8 st ++ (iw_ws mb0 cI 8 kS ++ (iw_ws mb1 cI 64 kR ++ (jw_ws a2 cJ 4 tf ++ (jw_ws a0 cJ 1232 nf ++ (jw_ws a1 cJ 616 cf ++ (iw_ws a4 cI 4 kf ++ (jw_ws mb2 cJ 4 ky ++ (jw_ws a3 cJ 16 lf ++ (iw_ws a5 cI 4 sf ++ (iw_ws a6 cI 64 vf ++ (jw_ws mb3 cJ 128 md ++ (jw_ws mb4 cJ 4 sh ++ iw_ws mb5 cI 64 ct)))))))))))))))))))))))))) [0, 1, 2, 3, 4, 5, 6, 7, 8, 9, 10, 11, 12, 13, 14, 15, 16, 17, 18, 19, 20, 21, 22, 39, 23, 24, 25, 26, 27, 28, 29, 30, 31, 32, 33, 34, 35, 36, 37, 38] (by decide) rfl
      generalize H1 = H at hP hS ⊢
      clear hPc hDc hFc hP1 hD1 hK1 ht hk1 hz1
      refine lv_istore (lv' := [(6, .int r_11), (5, .int 1), (4, .int (nI i)), (3, .ref out), (2, .ref m0), (1, .ref b0), (0, .ref b)]) hx hb d_law_1164 hl (by decide) rfl (fun ls hl => ?_)
      refine lv_aload_n hx hb d_law_1166 rfl (lv_at hl 4 rfl) ?_
      have hPc := hP.sub (ws' := (mo_ws m0 1 0 0 0 0 0 0 0 0 0 0 a0 a1 a2 a3 a4 a5 a6 a7 a8 a9 mb0 mb1 oc mb2 mb3 mb4 mb5)) [23] rfl
      have hKc := hK.sub (tys' := [(cJ, .long), (cI, .int)]) [0, 1] rfl
      refine va_calli (va_runV (As := []) (rest := []) ⟨hx, hb, hml, hown, hts⟩ (c_Bm_thrown l H dC dI cJ cI m0 1 0 0 0 0 0 0 0 0 0 0 a0 a1 a2 a3 a4 a5 a6 a7 a8 a9 mb0 mb1 oc mb2 mb3 mb4 mb5 hPc) (cwV 0 hts (gw_V gk_1004 gk_1005 gk_1006 gk_7 gk_1007) rfl rfl rfl (by decide +kernel) ⟨(Nat.le_of_ble_eq_true rfl), (Nat.le_of_ble_eq_true rfl)⟩) ⟨fun a U g mk q => ⟨q.1, q.2.1, va_K.moved (u := U) (U := U.calling g mk a) (Vm.Alike.refl U.vm) q.2.2⟩, va_recv hK hP (ci := 8) (q0 := 23) rfl rfl, fun U hU hW => ⟨rfl, hU, va_K.moved hW.alike hKc⟩⟩ rfl rfl hl.1 rfl (lv_room (Nat.le_of_ble_eq_true rfl)) d_law_1167 ⟨show cells + 8 + 0 + 0 ≤ 601024 by omega, show slots + 48 + 0 + 0 ≤ 7293034 by omega⟩) hS (fun q _ h => h.elim) (fun q h => h.elim) (fun r_12 w9 t9 H1 locs ht hvm hw9 hB hz1 hk1 hS => ?_)
      obtain rfl : H = H1 := hB.symm.trans ht
      have hw9 : r_12 = 1 := hw9
      subst hw9
      clear hPc hz1 hk1 hB
      refine lv_iload hx hb d_law_1170 (lv_at hl 1 rfl) ?_
      refine lv_icmp_eq (tgt := 1177) hx hb d_law_1172 (by decide) (fun c_13 => ?_) (fun c_13 => ?_)
      · -- taken
        refine lv_iload hx hb d_law_1177 (lv_at hl 1 rfl) ?_
        refine lv_if_ne (tgt := 1194) hx hb d_law_1179 (by decide) (fun c_14 => ?_) (fun c_14 => ?_)
        · -- taken
          refine lv_goto (tgt := 1965) hx hb d_law_1194 (by decide) ?_
          refine W.widen (k := cells + 20) (n := slots + 200) (by omega) (by omega) ?_
          have hI9 : LI dC dI cJ cI cR A out b0 m0 H := LF.mk hP hD
          exact cont _ _ _ hS hI9 (lv_sub hl [2, 3, 4, 5, 6] rfl)
        · -- not taken
          exact absurd c_14 (by decide)
      · -- not taken
        exact absurd c_13 (by decide)
set_option maxHeartbeats 16000000 in
set_option maxRecDepth 100000 in
theorem bk_close_f {p : Program} {l : Launch} {e : Env} {s : State} {m : MethodId} {below : List Frame} {meth : Method} {c : Code} {b L : Nat} {xs : Nat → Int32} {dC : Nat → ClassId} {dI : Nat → Nat → Nat} {cJ cI cR : ClassId} {A : Nat → Prop} {out b0 m0 : Nat} {rA sA wA : Nat} (C : LC p l s m meth c b L xs dC dI cJ cI cR A rA sA wA) {i cells slots : Nat} (hi : i + 14 ≤ L) (hcs : cells + 20 ≤ 601024 ∧ slots + 200 ≤ 7293034) (cont : LK p l e s m below meth c b dC dI cJ cI cR A out b0 m0 i (cells + 20) (slots + 200) 1965) {H : Heap} {locs : List Loc} {ls : Array Slot} (hS : va_S A s.heap H locs) (hI : LF dC dI cJ cI cR A out b0 m0 H) (hl : lv_has ls 8 [(4, .int (nI i)), (3, .ref out), (2, .ref m0), (1, .ref b0), (0, .ref b)]) : W p l e room_1 s m #[Value.ref b] below meth c H locs cells slots (lw_Z below #[Value.ref b] s) (F0 m 1197 ls []) := by
  obtain ⟨hnt, ⟨hx, hb, hr, hml, hown, hts0, hX, hbl, hlocks, hgv⟩, hK, hA, hbA, hZha, hZx, hZn, hZw, hL⟩ := C
  have hown : s.vm.findClass "BallotBoardLaw" = some m.cls := hown
  have hts := lw_hts hts0
  refine hI _ (fun bd0 pr0 t0 au0 da h0 ro lo rb lb cm aw ax ay ka aa ba sa tu0 uka uaa uba usa a0 a1 a2 a3 a4 a5 a6 a7 a8 a9 mb0 mb1 oc mb2 mb3 mb4 mb5 cL of w tf nf cf ky lf md sh ccf csc cst bf sc st kf sf vf ct gu d0 d1 d2 d3 d4 d5 d6 d7 e0 R Lk hP hD => ?_)
  refine lv_aload_n hx hb d_law_1197 rfl (lv_at hl 3 rfl) ?_
  refine lv_aload_n hx hb d_law_1198 rfl (lv_at hl 1 rfl) ?_
  have hPc := hP.sub (ws' := (jw_ws out cJ 1 of ++ bb_ws b0 bd0 pr0 t0 au0 da .null)) [0, 1] rfl
  have hDc := hD.sub (ws' := (jw_ws out cJ 1 of ++ bb_ws b0 bd0 pr0 t0 au0 da .null)) [0, 1] (by decide) rfl
  have hKc := hK.sub (tys' := [(cJ, .long), (cI, .int), (cR, .array .long)]) [0, 1, 2] rfl
  have hFc := va_free (wc := (jw_ws out cJ 1 of ++ bb_ws b0 bd0 pr0 t0 au0 da .null)) hD hS hA [0, 1] rfl
  have hZc0 : xz (va_A (jw_ws out cJ 1 of ++ bb_ws b0 bd0 pr0 t0 au0 da .null) H.size) s H := (hZx.kept hS.2.1).narrow hFc
  have hZc1 : nc_Z s := hZn
  refine vx_calli (vx_runSX (hh := h_Lw_close) (As := [.ref b0, .ref out]) (rest := []) ⟨hx, hb, hml, hown, hts⟩ (c_Lw_close_n l hnt dC dI cJ cI cR H.size b0 bd0 pr0 t0 au0 da out of) (vx_cwSW 2 hts (gw_Sv gk_687 gk_688 gk_0 gk_689) rfl rfl rfl (by decide +kernel) ⟨(Nat.le_of_ble_eq_true rfl), (Nat.le_of_ble_eq_true rfl)⟩) ⟨fun a U g mk q => by obtain ⟨q0, q1, qP, qK, qD, qZ0, qZ1⟩ := q; exact ⟨q0, q1, qP, va_K.moved (u := U) (U := U.calling g mk a) (Vm.Alike.refl U.vm) qK, qD, xz.same (u := U) (U := U.calling g mk a) rfl qZ0, nc_Z.moved (u := U) (U := U.calling g mk a) (Vm.Alike.refl U.vm) qZ1⟩, fun U hU hW => ⟨rfl, by rw [hU], by rw [hU]; exact hPc, va_K.moved hW.alike hKc, hDc.weaken (fun _ _ _ _ => trivial), by rw [hU]; exact xz.warm hW hZc0, nc_Z.moved hW.alike hZc1⟩⟩ rfl rfl hl.1 rfl (lv_room (Nat.le_of_ble_eq_true rfl)) d_law_1199 ⟨show cells + 8 ≤ 601024 by omega, show slots + 48 ≤ 7293034 by omega⟩) hS (fun q _ h => hFc q h) hFc (fun q _ h => hFc q h) (fun E9 ce9 q9 u8 t9 H1 locs ht hvm hpx hbx hz1 hk1 hS hce hcv hcl => hpx.elim) (fun r_1 u9 t9 H1 locs ht hvm hw hB hz1 hk1 hS => ?_)
  obtain ⟨hP1, hK1, hD1⟩ := hB
  rw [ht] at hP1
  obtain ⟨hP, hD⟩ := va_joinQ (X := (jw_ws out cJ 1 of ++ (bb_ws b0 bd0 pr0 t0 au0 da .null ++ (rw_ws da cJ (r8 d0 d1 d2 d3 d4 d5 d6 d7) ++ (bd_ws bd0 h0 ro lo 0 cR (rrf rb) (rrf lb) ++ (pr_ws pr0 h0 cm cJ ccf ++ (ha_ws h0 aw ax ay cJ cI w csc cst cL ++ (tt_ws t0 ka aa ba sa .null cJ tZ ++ (au_ws au0 bd0 pr0 tu0 0 ++ (tt_ws tu0 uka uaa uba usa gu cJ tZ ++ (mo_ws m0 e0 0 0 0 0 0 0 0 0 0 0 a0 a1 a2 a3 a4 a5 a6 a7 a8 a9 mb0 mb1 oc mb2 mb3 mb4 mb5 ++ (iw_ws a7 cI 256 bf ++ (iw_ws a8 cI 64 sc ++ (iw_ws a9 cI 8 st ++ (iw_ws mb0 cI 8 kS ++ (iw_ws mb1 cI 64 kR ++ (jw_ws a2 cJ 4 tf ++ (jw_ws a0 cJ 1232 nf ++ (jw_ws a1 cJ 616 cf ++ (iw_ws a4 cI 4 kf ++ (jw_ws mb2 cJ 4 ky ++ (jw_ws a3 cJ 16 lf ++ (iw_ws a5 cI 4 sf ++ (iw_ws a6 cI 64 vf ++ (jw_ws mb3 cJ 128 md ++ (jw_ws mb4 cJ 4 sh ++ iw_ws mb5 cI 64 ct)))))))))))))))))))))))))) (cx := (jw_ws out cJ 1 of ++ bb_ws b0 bd0 pr0 t0 au0 da .null)) (wr := (rw_ws da cJ (r8 d0 d1 d2 d3 d4 d5 d6 d7) ++ (bd_ws bd0 h0 ro lo 0 cR (rrf rb) (rrf lb) ++ (pr_ws pr0 h0 cm cJ ccf ++ (ha_ws h0 aw ax ay cJ cI w csc cst cL ++ (tt_ws t0 ka aa ba sa .null cJ tZ ++ (au_ws au0 bd0 pr0 tu0 0 ++ (tt_ws tu0 uka uaa uba usa gu cJ tZ ++ (mo_ws m0 e0 0 0 0 0 0 0 0 0 0 0 a0 a1 a2 a3 a4 a5 a6 a7 a8 a9 mb0 mb1 oc mb2 mb3 mb4 mb5 ++ (iw_ws a7 cI 256 bf ++ (iw_ws a8 cI 64 sc ++ (iw_ws a9 cI 8 st ++ (iw_ws mb0 cI 8 kS ++ (iw_ws mb1 cI 64 kR ++ (jw_ws a2 cJ 4 tf ++ (jw_ws a0 cJ 1232 nf ++ (jw_ws a1 cJ 616 cf ++ (iw_ws a4 cI 4 kf ++ (jw_ws mb2 cJ 4 ky ++ (jw_ws a3 cJ 16 lf ++ (iw_ws a5 cI 4 sf ++ (iw_ws a6 cI 64 vf ++ (jw_ws mb3 cJ 128 md ++ (jw_ws mb4 cJ 4 sh ++ iw_ws mb5 cI 64 ct)))))))))))))))))))))))) (w1 := (jw_ws out cJ 1 of ++ bb_ws b0 bd0 pr0 t0 au0 da .null)) (pl := bpool rb lb cJ R Lk) hP hD [0, 1] [2, 3, 4, 5, 6, 7, 8, 9, 10, 11, 12, 13, 14, 15, 16, 17, 18, 19, 20, 21, 22, 23, 24, 25, 26, 27, 28, 29, 30, 31, 32, 33, 34, 35, 36, 37, 38, 39] rfl rfl (by decide) (by decide) hk1 hFc hP1 hD1
  have hP := hP.part (cx := (jw_ws out cJ 1 of ++ (bb_ws b0 bd0 pr0 t0 au0 da .null ++ (rw_ws da cJ (r8 d0 d1 d2 d3 d4 d5 d6 d7) ++ (bd_ws bd0 h0 ro lo 0 cR (rrf rb) (rrf lb) ++ (pr_ws pr0 h0 cm cJ ccf ++ (ha_ws h0 aw ax ay cJ cI w csc cst cL ++ (tt_ws t0 ka aa ba sa .null cJ tZ ++ (au_ws au0 bd0 pr0 tu0 0 ++ (tt_ws tu0 uka uaa uba usa gu cJ tZ ++ (mo_ws m0 e0 0 0 0 0 0 0 0 0 0 0 a0 a1 a2 a3 a4 a5 a6 a7 a8 a9 mb0 mb1 oc mb2 mb3 mb4 mb5 ++ (iw_ws a7 cI 256 bf ++ (iw_ws a8 cI 64 sc ++ (iw_ws a9 cI 8 st ++ (iw_ws mb0 cI 8 kS ++ (iw_ws mb1 cI 64 kR ++ (jw_ws a2 cJ 4 tf ++ (jw_ws a0 cJ 1232 nf ++ (jw_ws a1 cJ 616 cf ++ (iw_ws a4 cI 4 kf ++ (jw_ws mb2 cJ 4 ky ++ (jw_ws a3 cJ 16 lf ++ (iw_ws a5 cI 4 sf ++ (iw_ws a6 cI 64 vf ++ (jw_ws mb3 cJ 128 md ++ (jw_ws mb4 cJ 4 sh ++ iw_ws mb5 cI 64 ct)))))))))))))))))))))))))) [38, 39, 0, 1, 2, 3, 4, 5, 6, 7, 8, 9, 10, 11, 12, 13, 14, 15, 16, 17, 18, 19, 20, 21, 22, 23, 24, 25, 26, 27, 28, 29, 30, 31, 32, 33, 34, 35, 36, 37] rfl
  have hD := hD.part (cx := (jw_ws out cJ 1 of ++ (bb_ws b0 bd0 pr0 t0 au0 da .null ++ (rw_ws da cJ (r8 d0 d1 d2 d3 d4 d5 d6 d7) ++ (bd_ws bd0 h0 ro lo 0 cR (rrf rb) (rrf lb) ++ (pr_ws pr0 h0 cm cJ ccf ++ (ha_ws h0 aw ax ay cJ cI w csc cst cL ++ (tt_ws t0 ka aa ba sa .null cJ tZ ++ (au_ws au0 bd0 pr0 tu0 0 ++ (tt_ws tu0 uka uaa uba usa gu cJ tZ ++ (mo_ws m0 e0 0 0 0 0 0 0 0 0 0 0 a0 a1 a2 a3 a4 a5 a6 a7 a8 a9 mb0 mb1 oc mb2 mb3 mb4 mb5 ++ (iw_ws a7 cI 256 bf ++ (iw_ws a8 cI 64 sc ++ (iw_ws a9 cI 8 st ++ (iw_ws mb0 cI 8 kS ++ (iw_ws mb1 cI 64 kR ++ (jw_ws a2 cJ 4 tf ++ (jw_ws a0 cJ 1232 nf ++ (jw_ws a1 cJ 616 cf ++ (iw_ws a4 cI 4 kf ++ (jw_ws mb2 cJ 4 ky ++ (jw_ws a3 cJ 16 lf ++ (iw_ws a5 cI 4 sf ++ (iw_ws a6 cI 64 vf ++ (jw_ws mb3 cJ 128 md ++ (jw_ws mb4 cJ 4 sh ++ iw_ws mb5 cI 64 ct)))))))))))))))))))))))))) [38, 39, 0, 1, 2, 3, 4, 5, 6, 7, 8, 9, 10, 11, 12, 13, 14, 15, 16, 17, 18, 19, 20, 21, 22, 23, 24, 25, 26, 27, 28, 29, 30, 31, 32, 33, 34, 35, 36, 37] (by decide) rfl
  generalize H1 = H at hP hS ⊢
  clear hPc hDc hFc hP1 hD1 hK1 ht hk1 hz1
  have hr9 : r_1 = 1 := hw
  subst hr9
  refine lv_istore (lv' := [(5, .int 1), (4, .int (nI i)), (3, .ref out), (2, .ref m0), (1, .ref b0), (0, .ref b)]) hx hb d_law_1202 hl (by decide) rfl (fun ls hl => ?_)
  refine lv_aload_n hx hb d_law_1204 rfl (lv_at hl 3 rfl) ?_
  have hPc := hP.sub (ws' := (mo_ws m0 e0 0 0 0 0 0 0 0 0 0 0 a0 a1 a2 a3 a4 a5 a6 a7 a8 a9 mb0 mb1 oc mb2 mb3 mb4 mb5)) [23] rfl
  have hDc := hD.sub (ws' := (mo_ws m0 e0 0 0 0 0 0 0 0 0 0 0 a0 a1 a2 a3 a4 a5 a6 a7 a8 a9 mb0 mb1 oc mb2 mb3 mb4 mb5)) [23] (by decide) rfl
  have hKc := hK.sub (tys' := [(cJ, .long), (cI, .int)]) [0, 1] rfl
  have hFc := va_free (wc := (mo_ws m0 e0 0 0 0 0 0 0 0 0 0 0 a0 a1 a2 a3 a4 a5 a6 a7 a8 a9 mb0 mb1 oc mb2 mb3 mb4 mb5)) hD hS hA [23] rfl
  refine va_calli (va_runV (As := []) (rest := []) ⟨hx, hb, hml, hown, hts⟩ (c_Bm_close_n l dC dI cJ cI H.size m0 e0 0 0 0 0 0 0 0 0 0 0 a0 a1 a2 a3 a4 a5 a6 a7 a8 a9 mb0 mb1 oc mb2 mb3 mb4 mb5 rfl) (cwV 0 hts (gw_V gk_1145 gk_1146 gk_1147 gk_7 gk_1148) rfl rfl rfl (by decide +kernel) ⟨(Nat.le_of_ble_eq_true rfl), (Nat.le_of_ble_eq_true rfl)⟩) ⟨fun a U g mk q => by obtain ⟨q0, q1, qP, qK, qD⟩ := q; exact ⟨q0, q1, qP, va_K.moved (u := U) (U := U.calling g mk a) (Vm.Alike.refl U.vm) qK, qD⟩, va_recv hK hP (ci := 8) (q0 := 23) rfl rfl, fun U hU hW => ⟨rfl, by rw [hU], by rw [hU]; exact hPc, va_K.moved hW.alike hKc, hDc.weaken (fun _ _ _ _ => trivial)⟩⟩ rfl rfl hl.1 rfl (lv_room (Nat.le_of_ble_eq_true rfl)) d_law_1205 ⟨show cells + 8 + 0 ≤ 601024 by omega, show slots + 48 + 0 ≤ 7293034 by omega⟩) hS (fun q _ h => hFc q h) hFc (fun r_2 v9 t9 H1 locs ht hvm hw hB hz1 hk1 hS => ?_)
  obtain ⟨hP1, hK1, hD1⟩ := hB
  rw [ht] at hP1
  obtain ⟨hP, hD⟩ := va_joinQ (X := (jw_ws out cJ 1 of ++ (bb_ws b0 bd0 pr0 t0 au0 da .null ++ (rw_ws da cJ (r8 d0 d1 d2 d3 d4 d5 d6 d7) ++ (bd_ws bd0 h0 ro lo 0 cR (rrf rb) (rrf lb) ++ (pr_ws pr0 h0 cm cJ ccf ++ (ha_ws h0 aw ax ay cJ cI w csc cst cL ++ (tt_ws t0 ka aa ba sa .null cJ tZ ++ (au_ws au0 bd0 pr0 tu0 0 ++ (tt_ws tu0 uka uaa uba usa gu cJ tZ ++ (mo_ws m0 e0 0 0 0 0 0 0 0 0 0 0 a0 a1 a2 a3 a4 a5 a6 a7 a8 a9 mb0 mb1 oc mb2 mb3 mb4 mb5 ++ (iw_ws a7 cI 256 bf ++ (iw_ws a8 cI 64 sc ++ (iw_ws a9 cI 8 st ++ (iw_ws mb0 cI 8 kS ++ (iw_ws mb1 cI 64 kR ++ (jw_ws a2 cJ 4 tf ++ (jw_ws a0 cJ 1232 nf ++ (jw_ws a1 cJ 616 cf ++ (iw_ws a4 cI 4 kf ++ (jw_ws mb2 cJ 4 ky ++ (jw_ws a3 cJ 16 lf ++ (iw_ws a5 cI 4 sf ++ (iw_ws a6 cI 64 vf ++ (jw_ws mb3 cJ 128 md ++ (jw_ws mb4 cJ 4 sh ++ iw_ws mb5 cI 64 ct)))))))))))))))))))))))))) (cx := (mo_ws m0 e0 0 0 0 0 0 0 0 0 0 0 a0 a1 a2 a3 a4 a5 a6 a7 a8 a9 mb0 mb1 oc mb2 mb3 mb4 mb5)) (wr := (jw_ws out cJ 1 of ++ (bb_ws b0 bd0 pr0 t0 au0 da .null ++ (rw_ws da cJ (r8 d0 d1 d2 d3 d4 d5 d6 d7) ++ (bd_ws bd0 h0 ro lo 0 cR (rrf rb) (rrf lb) ++ (pr_ws pr0 h0 cm cJ ccf ++ (ha_ws h0 aw ax ay cJ cI w csc cst cL ++ (tt_ws t0 ka aa ba sa .null cJ tZ ++ (au_ws au0 bd0 pr0 tu0 0 ++ (tt_ws tu0 uka uaa uba usa gu cJ tZ ++ (iw_ws a7 cI 256 bf ++ (iw_ws a8 cI 64 sc ++ (iw_ws a9 cI 8 st ++ (iw_ws mb0 cI 8 kS ++ (iw_ws mb1 cI 64 kR ++ (jw_ws a2 cJ 4 tf ++ (jw_ws a0 cJ 1232 nf ++ (jw_ws a1 cJ 616 cf ++ (iw_ws a4 cI 4 kf ++ (jw_ws mb2 cJ 4 ky ++ (jw_ws a3 cJ 16 lf ++ (iw_ws a5 cI 4 sf ++ (iw_ws a6 cI 64 vf ++ (jw_ws mb3 cJ 128 md ++ (jw_ws mb4 cJ 4 sh ++ iw_ws mb5 cI 64 ct))))))))))))))))))))))))) (w1 := (mo_ws m0 1 0 0 0 0 0 0 0 0 0 0 a0 a1 a2 a3 a4 a5 a6 a7 a8 a9 mb0 mb1 oc mb2 mb3 mb4 mb5)) (pl := bpool rb lb cJ R Lk) hP hD [23] [0, 1, 2, 3, 4, 5, 6, 7, 8, 9, 10, 11, 12, 13, 14, 15, 16, 17, 18, 19, 20, 21, 22, 24, 25, 26, 27, 28, 29, 30, 31, 32, 33, 34, 35, 36, 37, 38, 39] rfl rfl (by decide) (by decide) hk1 hFc hP1 hD1
  have hP := hP.part (cx := (jw_ws out cJ 1 of ++ (bb_ws b0 bd0 pr0 t0 au0 da .null ++ (rw_ws da cJ (r8 d0 d1 d2 d3 d4 d5 d6 d7) ++ (bd_ws bd0 h0 ro lo 0 cR (rrf rb) (rrf lb) ++ (pr_ws pr0 h0 cm cJ ccf ++ (ha_ws h0 aw ax ay cJ cI w csc cst cL ++ (tt_ws t0 ka aa ba sa .null cJ tZ ++ (au_ws au0 bd0 pr0 tu0 0 ++ (tt_ws tu0 uka uaa uba usa gu cJ tZ ++ (mo_ws m0 1 0 0 0 0 0 0 0 0 0 0 a0 a1 a2 a3 a4 a5 a6 a7 a8 a9 mb0 mb1 oc mb2 mb3 mb4 mb5 ++ (iw_ws a7 cI 256 bf ++ (iw_ws a8 cI 64 sc ++ (iw_ws a9 cI 8 st ++ (iw_ws mb0 cI 8 kS ++ (iw_ws mb1 cI 64 kR ++ (jw_ws a2 cJ 4 tf ++ (jw_ws a0 cJ 1232 nf ++ (jw_ws a1 cJ 616 cf ++ (iw_ws a4 cI 4 kf ++ (jw_ws mb2 cJ 4 ky ++ (jw_ws a3 cJ 16 lf ++ (iw_ws a5 cI 4 sf ++ (iw_ws a6 cI 64 vf ++ (jw_ws mb3 cJ 128 md ++ (jw_ws mb4 cJ 4 sh ++ iw_ws mb5 cI 64 ct)))))))))))))))))))))))))) [0, 1, 2, 3, 4, 5, 6, 7, 8, 9, 10, 11, 12, 13, 14, 15, 16, 17, 18, 19, 20, 21, 22, 39, 23, 24, 25, 26, 27, 28, 29, 30, 31, 32, 33, 34, 35, 36, 37, 38] rfl
  have hD := hD.part (cx := (jw_ws out cJ 1 of ++ (bb_ws b0 bd0 pr0 t0 au0 da .null ++ (rw_ws da cJ (r8 d0 d1 d2 d3 d4 d5 d6 d7) ++ (bd_ws bd0 h0 ro lo 0 cR (rrf rb) (rrf lb) ++ (pr_ws pr0 h0 cm cJ ccf ++ (ha_ws h0 aw ax ay cJ cI w csc cst cL ++ (tt_ws t0 ka aa ba sa .null cJ tZ ++ (au_ws au0 bd0 pr0 tu0 0 ++ (tt_ws tu0 uka uaa uba usa gu cJ tZ ++ (mo_ws m0 1 0 0 0 0 0 0 0 0 0 0 a0 a1 a2 a3 a4 a5 a6 a7 a8 a9 mb0 mb1 oc mb2 mb3 mb4 mb5 ++ (iw_ws a7 cI 256 bf ++ (iw_ws a8 cI 64 sc ++ (iw_ws a9 cI 8 st ++ (iw_ws mb0 cI 8 kS ++ (iw_ws mb1 cI 64 kR ++ (jw_ws a2 cJ 4 tf ++ (jw_ws a0 cJ 1232 nf ++ (jw_ws a1 cJ 616 cf ++ (iw_ws a4 cI 4 kf ++ (jw_ws mb2 cJ 4 ky ++ (jw_ws a3 cJ 16 lf ++ (iw_ws a5 cI 4 sf ++ (iw_ws a6 cI 64 vf ++ (jw_ws mb3 cJ 128 md ++ (jw_ws mb4 cJ 4 sh ++ iw_ws mb5 cI 64 ct)))))))))))))))))))))))))) [0, 1, 2, 3, 4, 5, 6, 7, 8, 9, 10, 11, 12, 13, 14, 15, 16, 17, 18, 19, 20, 21, 22, 39, 23, 24, 25, 26, 27, 28, 29, 30, 31, 32, 33, 34, 35, 36, 37, 38] (by decide) rfl
  generalize H1 = H at hP hS ⊢
  clear hPc hDc hFc hP1 hD1 hK1 ht hk1 hz1
  refine lv_istore (lv' := [(6, .int r_2), (5, .int 1), (4, .int (nI i)), (3, .ref out), (2, .ref m0), (1, .ref b0), (0, .ref b)]) hx hb d_law_1208 hl (by decide) rfl (fun ls hl => ?_)
  refine lv_aload_n hx hb d_law_1210 rfl (lv_at hl 4 rfl) ?_
  have hPc := hP.sub (ws' := (mo_ws m0 1 0 0 0 0 0 0 0 0 0 0 a0 a1 a2 a3 a4 a5 a6 a7 a8 a9 mb0 mb1 oc mb2 mb3 mb4 mb5)) [23] rfl
  have hKc := hK.sub (tys' := [(cJ, .long), (cI, .int)]) [0, 1] rfl
  refine va_calli (va_runV (As := []) (rest := []) ⟨hx, hb, hml, hown, hts⟩ (c_Bm_thrown l H dC dI cJ cI m0 1 0 0 0 0 0 0 0 0 0 0 a0 a1 a2 a3 a4 a5 a6 a7 a8 a9 mb0 mb1 oc mb2 mb3 mb4 mb5 hPc) (cwV 0 hts (gw_V gk_1004 gk_1005 gk_1006 gk_7 gk_1007) rfl rfl rfl (by decide +kernel) ⟨(Nat.le_of_ble_eq_true rfl), (Nat.le_of_ble_eq_true rfl)⟩) ⟨fun a U g mk q => ⟨q.1, q.2.1, va_K.moved (u := U) (U := U.calling g mk a) (Vm.Alike.refl U.vm) q.2.2⟩, va_recv hK hP (ci := 8) (q0 := 23) rfl rfl, fun U hU hW => ⟨rfl, hU, va_K.moved hW.alike hKc⟩⟩ rfl rfl hl.1 rfl (lv_room (Nat.le_of_ble_eq_true rfl)) d_law_1211 ⟨show cells + 8 + 0 + 0 ≤ 601024 by omega, show slots + 48 + 0 + 0 ≤ 7293034 by omega⟩) hS (fun q _ h => h.elim) (fun q h => h.elim) (fun r_3 w9 t9 H1 locs ht hvm hw9 hB hz1 hk1 hS => ?_)
  obtain rfl : H = H1 := hB.symm.trans ht
  have hw9 : r_3 = 1 := hw9
  subst hw9
  clear hPc hz1 hk1 hB
  refine lv_iload hx hb d_law_1214 (lv_at hl 1 rfl) ?_
  refine lv_icmp_eq (tgt := 1221) hx hb d_law_1216 (by decide) (fun c_4 => ?_) (fun c_4 => ?_)
  · -- taken
    refine lv_iload hx hb d_law_1221 (lv_at hl 1 rfl) ?_
    refine lv_if_ne (tgt := 1238) hx hb d_law_1223 (by decide) (fun c_5 => ?_) (fun c_5 => ?_)
    · -- taken
      refine lv_goto (tgt := 1965) hx hb d_law_1238 (by decide) ?_
      refine W.widen (k := cells + 20) (n := slots + 200) (by omega) (by omega) ?_
      have hI9 : LI dC dI cJ cI cR A out b0 m0 H := LF.mk hP hD
      exact cont _ _ _ hS hI9 (lv_sub hl [2, 3, 4, 5, 6] rfl)
    · -- not taken
      exact absurd c_5 (by decide)
  · -- not taken
    exact absurd c_4 (by decide)
