theorem l_gt1 {x : Int64} (h : ¬ lg_cmp x 1 ≤ 0) : ∃ Y, Y < 2 ^ 63 ∧ 2 ≤ Y ∧ x = lN Y := by
  obtain ⟨Y, hY, h1, rfl⟩ := l_ge 1 (by omega) rfl (fun k => h (Int32.le_of_lt k))
  refine ⟨Y, hY, ?_, rfl⟩
  rcases Nat.lt_or_ge 1 Y with h2 | h2
  · exact h2
  · exfalso
    obtain rfl : Y = 1 := by omega
    exact h (by rw [show lg_cmp (lN 1) 1 = 0 from (cmpe (k := 1) (by omega) 1 (by omega) rfl).mpr rfl]; decide)
theorem nt_Rf_lt {P : Nat} (h : nt_Rf P) (h61 : P ≤ 2 ^ 61) : P < 2 ^ 61 := by
  rcases Nat.lt_or_ge P (2 ^ 61) with h1 | h1
  · exact h1
  · exfalso
    obtain rfl : P = 2 ^ 61 := by omega
    obtain ⟨_, h | h⟩ := h
    · omega
    · exact h.1 2 (by omega) (by omega) (Nat.dvd_of_mod_eq_zero (by decide))
theorem bz_in14 {r x1 : Int32} (h : r = if 1 ≤ x1 ∧ x1 ≤ 4 then 1 else 0) : bz r (∃ N, x1 = nI N ∧ 1 ≤ N ∧ N ≤ 4) := by
  by_cases c : 1 ≤ x1 ∧ x1 ≤ 4
  · rw [if_pos c] at h
    rw [h]
    refine bz_1 ?_
    obtain ⟨J, hJ, rfl⟩ := i_nn (x := x1) (fun k => absurd (Int32.le_trans (show (0 : Int32) ≤ 1 by decide) c.1) (Int32.not_le.mpr k))
    exact ⟨J, rfl, (nI_leI (a := 1) (by omega) (by omega)).mp c.1, (nI_leI (b := 4) (by omega) (by omega)).mp c.2⟩
  · rw [if_neg c] at h
    rw [h]
    refine bz_0 ?_
    rintro ⟨J, rfl, h1, h2⟩
    exact c ⟨(nI_leI (a := 1) (by omega) (by omega)).mpr h1, (nI_leI (b := 4) (by omega) (by omega)).mpr h2⟩
def bgR (x1 x2 : Int64) (x3 : Int32) : Prop := ∃ P G N, x1 = lN P ∧ x2 = lN G ∧ x3 = nI N ∧ 7 ≤ P ∧ P ≤ 2 ^ 61 ∧ nt_Rf P ∧ nt_Rf ((P - 1) / 2) ∧ (1 ≤ N ∧ N ≤ 4) ∧ 2 ≤ G ∧ G < P ∧ G ^ ((P - 1) / 2) % P = 1
/-- -1 below i -/
def mf (f : Nat → Int32) (i : Nat) : Nat → Int32 := fun j => if j < i then -1 else f j
theorem mf_0 (f : Nat → Int32) : f = mf f 0 := by
  funext j
  unfold mf
  rw [if_neg (by omega)]
theorem mf_upd (f : Nat → Int32) (i : Nat) : upd (mf f i) i (-1) = mf f (i + 1) := by
  funext j
  unfold upd mf
  by_cases h : j = i
  · rw [if_pos h, if_pos (by omega)]
  · rw [if_neg h]
    by_cases h2 : j < i
    · rw [if_pos h2, if_pos (by omega)]
    · rw [if_neg h2, if_neg (by omega)]
abbrev b_Bm_begin : ByteArray := prog_10_method_23_code
abbrev y_Bm_begin : MethodName := ⟨"BallotBoardModel", "begin", "(JJI)J"⟩
abbrev w_Bm_begin : List Cond := .code y_Bm_begin b_Bm_begin 8 (some .long) :: gw
theorem d_Bm_begin_0 : decode b_Bm_begin 0 = .ok (.aload_n 0, 1) := by decide +kernel
theorem d_Bm_begin_1 : decode b_Bm_begin 1 = .ok (.iconst 0, 1) := by decide +kernel
theorem d_Bm_begin_2 : decode b_Bm_begin 2 = .ok (.putfield 131, 3) := by decide +kernel
theorem d_Bm_begin_5 : decode b_Bm_begin 5 = .ok (.lload_n 1, 1) := by decide +kernel
theorem d_Bm_begin_6 : decode b_Bm_begin 6 = .ok (.ldc2_w 195, 3) := by decide +kernel
theorem d_Bm_begin_9 : decode b_Bm_begin 9 = .ok (.lcmp, 1) := by decide +kernel
theorem d_Bm_begin_10 : decode b_Bm_begin 10 = .ok (.ifCond .lt 45, 3) := by decide +kernel
theorem d_Bm_begin_13 : decode b_Bm_begin 13 = .ok (.lload_n 1, 1) := by decide +kernel
theorem d_Bm_begin_14 : decode b_Bm_begin 14 = .ok (.ldc2_w 197, 3) := by decide +kernel
theorem d_Bm_begin_17 : decode b_Bm_begin 17 = .ok (.lcmp, 1) := by decide +kernel
theorem d_Bm_begin_18 : decode b_Bm_begin 18 = .ok (.ifCond .gt 37, 3) := by decide +kernel
theorem d_Bm_begin_21 : decode b_Bm_begin 21 = .ok (.lload_n 1, 1) := by decide +kernel
theorem d_Bm_begin_22 : decode b_Bm_begin 22 = .ok (.invokestatic 199, 3) := by decide +kernel
theorem d_Bm_begin_25 : decode b_Bm_begin 25 = .ok (.ifCond .eq 30, 3) := by decide +kernel
theorem d_Bm_begin_28 : decode b_Bm_begin 28 = .ok (.lload_n 1, 1) := by decide +kernel
theorem d_Bm_begin_29 : decode b_Bm_begin 29 = .ok (.lconst 1, 1) := by decide +kernel
theorem d_Bm_begin_30 : decode b_Bm_begin 30 = .ok (.lsub, 1) := by decide +kernel
theorem d_Bm_begin_31 : decode b_Bm_begin 31 = .ok (.ldc2_w 159, 3) := by decide +kernel
theorem d_Bm_begin_34 : decode b_Bm_begin 34 = .ok (.ldiv, 1) := by decide +kernel
theorem d_Bm_begin_35 : decode b_Bm_begin 35 = .ok (.invokestatic 199, 3) := by decide +kernel
theorem d_Bm_begin_38 : decode b_Bm_begin 38 = .ok (.ifCond .eq 17, 3) := by decide +kernel
theorem d_Bm_begin_41 : decode b_Bm_begin 41 = .ok (.iload 5, 2) := by decide +kernel
theorem d_Bm_begin_43 : decode b_Bm_begin 43 = .ok (.iconst 1, 1) := by decide +kernel
theorem d_Bm_begin_44 : decode b_Bm_begin 44 = .ok (.iconst 4, 1) := by decide +kernel
theorem d_Bm_begin_45 : decode b_Bm_begin 45 = .ok (.invokestatic 203, 3) := by decide +kernel
theorem d_Bm_begin_48 : decode b_Bm_begin 48 = .ok (.ifCond .eq 7, 3) := by decide +kernel
theorem d_Bm_begin_51 : decode b_Bm_begin 51 = .ok (.iconst 1, 1) := by decide +kernel
theorem d_Bm_begin_52 : decode b_Bm_begin 52 = .ok (.goto 4, 3) := by decide +kernel
theorem d_Bm_begin_55 : decode b_Bm_begin 55 = .ok (.iconst 0, 1) := by decide +kernel
theorem d_Bm_begin_56 : decode b_Bm_begin 56 = .ok (.istore 6, 2) := by decide +kernel
theorem d_Bm_begin_58 : decode b_Bm_begin 58 = .ok (.iload 6, 2) := by decide +kernel
theorem d_Bm_begin_60 : decode b_Bm_begin 60 = .ok (.ifCond .eq 39, 3) := by decide +kernel
theorem d_Bm_begin_63 : decode b_Bm_begin 63 = .ok (.lload_n 3, 1) := by decide +kernel
theorem d_Bm_begin_64 : decode b_Bm_begin 64 = .ok (.lconst 1, 1) := by decide +kernel
theorem d_Bm_begin_65 : decode b_Bm_begin 65 = .ok (.lcmp, 1) := by decide +kernel
theorem d_Bm_begin_66 : decode b_Bm_begin 66 = .ok (.ifCond .le 30, 3) := by decide +kernel
theorem d_Bm_begin_69 : decode b_Bm_begin 69 = .ok (.lload_n 3, 1) := by decide +kernel
theorem d_Bm_begin_70 : decode b_Bm_begin 70 = .ok (.lload_n 1, 1) := by decide +kernel
theorem d_Bm_begin_71 : decode b_Bm_begin 71 = .ok (.lcmp, 1) := by decide +kernel
theorem d_Bm_begin_72 : decode b_Bm_begin 72 = .ok (.ifCond .ge 24, 3) := by decide +kernel
theorem d_Bm_begin_75 : decode b_Bm_begin 75 = .ok (.lload_n 3, 1) := by decide +kernel
theorem d_Bm_begin_76 : decode b_Bm_begin 76 = .ok (.lload_n 1, 1) := by decide +kernel
theorem d_Bm_begin_77 : decode b_Bm_begin 77 = .ok (.lconst 1, 1) := by decide +kernel
theorem d_Bm_begin_78 : decode b_Bm_begin 78 = .ok (.lsub, 1) := by decide +kernel
theorem d_Bm_begin_79 : decode b_Bm_begin 79 = .ok (.ldc2_w 159, 3) := by decide +kernel
theorem d_Bm_begin_82 : decode b_Bm_begin 82 = .ok (.ldiv, 1) := by decide +kernel
theorem d_Bm_begin_83 : decode b_Bm_begin 83 = .ok (.lload_n 1, 1) := by decide +kernel
theorem d_Bm_begin_84 : decode b_Bm_begin 84 = .ok (.invokestatic 161, 3) := by decide +kernel
theorem d_Bm_begin_87 : decode b_Bm_begin 87 = .ok (.lconst 1, 1) := by decide +kernel
theorem d_Bm_begin_88 : decode b_Bm_begin 88 = .ok (.lcmp, 1) := by decide +kernel
theorem d_Bm_begin_89 : decode b_Bm_begin 89 = .ok (.ifCond .ne 7, 3) := by decide +kernel
theorem d_Bm_begin_92 : decode b_Bm_begin 92 = .ok (.iconst 1, 1) := by decide +kernel
theorem d_Bm_begin_93 : decode b_Bm_begin 93 = .ok (.goto 4, 3) := by decide +kernel
theorem d_Bm_begin_96 : decode b_Bm_begin 96 = .ok (.iconst 0, 1) := by decide +kernel
theorem d_Bm_begin_97 : decode b_Bm_begin 97 = .ok (.istore 6, 2) := by decide +kernel
theorem d_Bm_begin_99 : decode b_Bm_begin 99 = .ok (.aload_n 0, 1) := by decide +kernel
theorem d_Bm_begin_100 : decode b_Bm_begin 100 = .ok (.iload 6, 2) := by decide +kernel
theorem d_Bm_begin_102 : decode b_Bm_begin 102 = .ok (.ifCond .ne 7, 3) := by decide +kernel
theorem d_Bm_begin_105 : decode b_Bm_begin 105 = .ok (.iconst 1, 1) := by decide +kernel
theorem d_Bm_begin_106 : decode b_Bm_begin 106 = .ok (.goto 4, 3) := by decide +kernel
theorem d_Bm_begin_109 : decode b_Bm_begin 109 = .ok (.iconst 0, 1) := by decide +kernel
theorem d_Bm_begin_110 : decode b_Bm_begin 110 = .ok (.iconst 1, 1) := by decide +kernel
theorem d_Bm_begin_111 : decode b_Bm_begin 111 = .ok (.invokevirtual 207, 3) := by decide +kernel
theorem d_Bm_begin_114 : decode b_Bm_begin 114 = .ok (.ifCond .eq 5, 3) := by decide +kernel
theorem d_Bm_begin_117 : decode b_Bm_begin 117 = .ok (.lconst 0, 1) := by decide +kernel
theorem d_Bm_begin_118 : decode b_Bm_begin 118 = .ok (.lreturn, 1) := by decide +kernel
theorem d_Bm_begin_119 : decode b_Bm_begin 119 = .ok (.aload_n 0, 1) := by decide +kernel
theorem d_Bm_begin_120 : decode b_Bm_begin 120 = .ok (.lload_n 1, 1) := by decide +kernel
theorem d_Bm_begin_121 : decode b_Bm_begin 121 = .ok (.putfield 164, 3) := by decide +kernel
theorem d_Bm_begin_124 : decode b_Bm_begin 124 = .ok (.aload_n 0, 1) := by decide +kernel
theorem d_Bm_begin_125 : decode b_Bm_begin 125 = .ok (.aload_n 0, 1) := by decide +kernel
theorem d_Bm_begin_126 : decode b_Bm_begin 126 = .ok (.getfield 164, 3) := by decide +kernel
theorem d_Bm_begin_129 : decode b_Bm_begin 129 = .ok (.lconst 1, 1) := by decide +kernel
theorem d_Bm_begin_130 : decode b_Bm_begin 130 = .ok (.lsub, 1) := by decide +kernel
theorem d_Bm_begin_131 : decode b_Bm_begin 131 = .ok (.ldc2_w 159, 3) := by decide +kernel
theorem d_Bm_begin_134 : decode b_Bm_begin 134 = .ok (.ldiv, 1) := by decide +kernel
theorem d_Bm_begin_135 : decode b_Bm_begin 135 = .ok (.putfield 168, 3) := by decide +kernel
theorem d_Bm_begin_138 : decode b_Bm_begin 138 = .ok (.aload_n 0, 1) := by decide +kernel
theorem d_Bm_begin_139 : decode b_Bm_begin 139 = .ok (.lload_n 3, 1) := by decide +kernel
theorem d_Bm_begin_140 : decode b_Bm_begin 140 = .ok (.putfield 180, 3) := by decide +kernel
theorem d_Bm_begin_143 : decode b_Bm_begin 143 = .ok (.aload_n 0, 1) := by decide +kernel
theorem d_Bm_begin_144 : decode b_Bm_begin 144 = .ok (.iload 5, 2) := by decide +kernel
theorem d_Bm_begin_146 : decode b_Bm_begin 146 = .ok (.putfield 211, 3) := by decide +kernel
theorem d_Bm_begin_149 : decode b_Bm_begin 149 = .ok (.aload_n 0, 1) := by decide +kernel
theorem d_Bm_begin_150 : decode b_Bm_begin 150 = .ok (.iconst 0, 1) := by decide +kernel
theorem d_Bm_begin_151 : decode b_Bm_begin 151 = .ok (.putfield 214, 3) := by decide +kernel
theorem d_Bm_begin_154 : decode b_Bm_begin 154 = .ok (.aload_n 0, 1) := by decide +kernel
theorem d_Bm_begin_155 : decode b_Bm_begin 155 = .ok (.iconst 0, 1) := by decide +kernel
theorem d_Bm_begin_156 : decode b_Bm_begin 156 = .ok (.putfield 217, 3) := by decide +kernel
theorem d_Bm_begin_159 : decode b_Bm_begin 159 = .ok (.aload_n 0, 1) := by decide +kernel
theorem d_Bm_begin_160 : decode b_Bm_begin 160 = .ok (.iconst 0, 1) := by decide +kernel
theorem d_Bm_begin_161 : decode b_Bm_begin 161 = .ok (.putfield 220, 3) := by decide +kernel
theorem d_Bm_begin_164 : decode b_Bm_begin 164 = .ok (.aload_n 0, 1) := by decide +kernel
theorem d_Bm_begin_165 : decode b_Bm_begin 165 = .ok (.lconst 0, 1) := by decide +kernel
theorem d_Bm_begin_166 : decode b_Bm_begin 166 = .ok (.putfield 224, 3) := by decide +kernel
theorem d_Bm_begin_169 : decode b_Bm_begin 169 = .ok (.aload_n 0, 1) := by decide +kernel
theorem d_Bm_begin_170 : decode b_Bm_begin 170 = .ok (.lconst 0, 1) := by decide +kernel
theorem d_Bm_begin_171 : decode b_Bm_begin 171 = .ok (.putfield 227, 3) := by decide +kernel
theorem d_Bm_begin_174 : decode b_Bm_begin 174 = .ok (.aload_n 0, 1) := by decide +kernel
theorem d_Bm_begin_175 : decode b_Bm_begin 175 = .ok (.lconst 0, 1) := by decide +kernel
theorem d_Bm_begin_176 : decode b_Bm_begin 176 = .ok (.putfield 230, 3) := by decide +kernel
theorem d_Bm_begin_179 : decode b_Bm_begin 179 = .ok (.iconst 0, 1) := by decide +kernel
theorem d_Bm_begin_180 : decode b_Bm_begin 180 = .ok (.istore 7, 2) := by decide +kernel
theorem d_Bm_begin_182 : decode b_Bm_begin 182 = .ok (.iload 7, 2) := by decide +kernel
theorem d_Bm_begin_184 : decode b_Bm_begin 184 = .ok (.iconst 4, 1) := by decide +kernel
theorem d_Bm_begin_185 : decode b_Bm_begin 185 = .ok (.if_icmp .ge 25, 3) := by decide +kernel
theorem d_Bm_begin_188 : decode b_Bm_begin 188 = .ok (.aload_n 0, 1) := by decide +kernel
theorem d_Bm_begin_189 : decode b_Bm_begin 189 = .ok (.getfield 22, 3) := by decide +kernel
theorem d_Bm_begin_192 : decode b_Bm_begin 192 = .ok (.iload 7, 2) := by decide +kernel
theorem d_Bm_begin_194 : decode b_Bm_begin 194 = .ok (.iconst (-1), 1) := by decide +kernel
theorem d_Bm_begin_195 : decode b_Bm_begin 195 = .ok (.iastore, 1) := by decide +kernel
theorem d_Bm_begin_196 : decode b_Bm_begin 196 = .ok (.aload_n 0, 1) := by decide +kernel
theorem d_Bm_begin_197 : decode b_Bm_begin 197 = .ok (.getfield 26, 3) := by decide +kernel
theorem d_Bm_begin_200 : decode b_Bm_begin 200 = .ok (.iload 7, 2) := by decide +kernel
theorem d_Bm_begin_202 : decode b_Bm_begin 202 = .ok (.iconst (-1), 1) := by decide +kernel
theorem d_Bm_begin_203 : decode b_Bm_begin 203 = .ok (.iastore, 1) := by decide +kernel
theorem d_Bm_begin_204 : decode b_Bm_begin 204 = .ok (.iinc 7 1, 3) := by decide +kernel
theorem d_Bm_begin_207 : decode b_Bm_begin 207 = .ok (.goto (-25), 3) := by decide +kernel
theorem d_Bm_begin_210 : decode b_Bm_begin 210 = .ok (.iconst 0, 1) := by decide +kernel
theorem d_Bm_begin_211 : decode b_Bm_begin 211 = .ok (.istore 7, 2) := by decide +kernel
theorem d_Bm_begin_213 : decode b_Bm_begin 213 = .ok (.iload 7, 2) := by decide +kernel
theorem d_Bm_begin_215 : decode b_Bm_begin 215 = .ok (.bipush 64, 2) := by decide +kernel
theorem d_Bm_begin_217 : decode b_Bm_begin 217 = .ok (.if_icmp .ge 17, 3) := by decide +kernel
theorem d_Bm_begin_220 : decode b_Bm_begin 220 = .ok (.aload_n 0, 1) := by decide +kernel
theorem d_Bm_begin_221 : decode b_Bm_begin 221 = .ok (.getfield 29, 3) := by decide +kernel
theorem d_Bm_begin_224 : decode b_Bm_begin 224 = .ok (.iload 7, 2) := by decide +kernel
theorem d_Bm_begin_226 : decode b_Bm_begin 226 = .ok (.iconst (-1), 1) := by decide +kernel
theorem d_Bm_begin_227 : decode b_Bm_begin 227 = .ok (.iastore, 1) := by decide +kernel
theorem d_Bm_begin_228 : decode b_Bm_begin 228 = .ok (.iinc 7 1, 3) := by decide +kernel
theorem d_Bm_begin_231 : decode b_Bm_begin 231 = .ok (.goto (-18), 3) := by decide +kernel
theorem d_Bm_begin_234 : decode b_Bm_begin 234 = .ok (.aload_n 0, 1) := by decide +kernel
theorem d_Bm_begin_235 : decode b_Bm_begin 235 = .ok (.getfield 168, 3) := by decide +kernel
theorem d_Bm_begin_238 : decode b_Bm_begin 238 = .ok (.lreturn, 1) := by decide +kernel
set_option maxHeartbeats 8000000 in
set_option maxRecDepth 100000 in
theorem c_Bm_begin_1 (l : Launch) (dC : Nat → ClassId) (dI : Nat → Nat → Nat) (cJ cI : ClassId) (sz : Nat) (m0 : Nat) (z0 z1 z2 z3 : Int32) (z4 z5 z6 z7 z8 z9 : Int64) (z10 : Int32) (a0 a1 a2 a3 a4 a5 a6 a7 a8 a9 b0 b1 oc b2 b3 b4 b5 : Nat) (kf sf vf : Nat → Int32)  (x1 x2 : Int64) (x3 : Int32) (hC : ¬ bgR x1 x2 x3) : Met l y_Bm_begin w_Bm_begin ({ frames := 4, cells := 0, slots := 0, locals := 117 }) (va_Pc [.ref m0, .long x1, .long x2, .int x3] (fun U => U.heap.size = sz ∧ va_P (dC, dI) classes (mo_ws m0 z0 z1 z2 z3 z4 z5 z6 z7 z8 z9 z10 a0 a1 a2 a3 a4 a5 a6 a7 a8 a9 b0 b1 oc b2 b3 b4 b5 ++ (iw_ws a4 cI 4 kf ++ (iw_ws a5 cI 4 sf ++ (iw_ws a6 cI 64 vf)))) U.heap ∧ va_K (dC, dI) classes [(cJ, .long), (cI, .int)] U ∧ va_D (fun _ => True) (mo_ws m0 z0 z1 z2 z3 z4 z5 z6 z7 z8 z9 z10 a0 a1 a2 a3 a4 a5 a6 a7 a8 a9 b0 b1 oc b2 b3 b4 b5 ++ (iw_ws a4 cI 4 kf ++ (iw_ws a5 cI 4 sf ++ (iw_ws a6 cI 64 vf)))))) (va_Ql (fun (r : Int64) (_ : Unit) => True) (fun _ t => va_P (dC, dI) classes (mo_ws m0 1 z1 z2 z3 z4 z5 z6 z7 z8 z9 z10 a0 a1 a2 a3 a4 a5 a6 a7 a8 a9 b0 b1 oc b2 b3 b4 b5 ++ (iw_ws a4 cI 4 kf ++ (iw_ws a5 cI 4 sf ++ (iw_ws a6 cI 64 vf)))) t.heap ∧ va_K (dC, dI) classes [(cJ, .long), (cI, .int)] t ∧ va_D (va_A (mo_ws m0 z0 z1 z2 z3 z4 z5 z6 z7 z8 z9 z10 a0 a1 a2 a3 a4 a5 a6 a7 a8 a9 b0 b1 oc b2 b3 b4 b5 ++ (iw_ws a4 cI 4 kf ++ (iw_ws a5 cI 4 sf ++ (iw_ws a6 cI 64 vf)))) sz) (mo_ws m0 1 z1 z2 z3 z4 z5 z6 z7 z8 z9 z10 a0 a1 a2 a3 a4 a5 a6 a7 a8 a9 b0 b1 oc b2 b3 b4 b5 ++ (iw_ws a4 cI 4 kf ++ (iw_ws a5 cI 4 sf ++ (iw_ws a6 cI 64 vf))))) (va_A (mo_ws m0 z0 z1 z2 z3 z4 z5 z6 z7 z8 z9 z10 a0 a1 a2 a3 a4 a5 a6 a7 a8 a9 b0 b1 oc b2 b3 b4 b5 ++ (iw_ws a4 cI 4 kf ++ (iw_ws a5 cI 4 sf ++ (iw_ws a6 cI 64 vf)))) sz)) 0 0 (va_A (mo_ws m0 z0 z1 z2 z3 z4 z5 z6 z7 z8 z9 z10 a0 a1 a2 a3 a4 a5 a6 a7 a8 a9 b0 b1 oc b2 b3 b4 b5 ++ (iw_ws a4 cI 4 kf ++ (iw_ws a5 cI 4 sf ++ (iw_ws a6 cI 64 vf)))) sz) := by
  refine Met.ofW (cc := b_Bm_begin) (maxL := 8) (ret := (some .long)) (by decide) rfl ?_
  intro p e s m args below meth c s₁ Bd hml hv
  obtain ⟨rfl, hsz, hP, hK, hD0⟩ := hv
  have hx := Bd.exec
  have hb := Bd.bytes
  have hr := Bd.returns
  have hts := atoms_spec (ws := w_Bm_begin) Bd.pre
  have hown : s.vm.findClass "BallotBoardModel" = some m.cls := findClass_of_methodNamed Bd.named
  have hlocks := Bd.notSynchronized
  subst hsz
  have hD := hD0.self (sz := s.heap.size)
  generalize hAe : va_A (mo_ws m0 z0 z1 z2 z3 z4 z5 z6 z7 z8 z9 z10 a0 a1 a2 a3 a4 a5 a6 a7 a8 a9 b0 b1 oc b2 b3 b4 b5 ++ (iw_ws a4 cI 4 kf ++ (iw_ws a5 cI 4 sf ++ (iw_ws a6 cI 64 vf)))) s.heap.size = A at hD ⊢
  have hA : ∀ q : Nat, s.heap.size ≤ q → A q := fun q h => by rw [← hAe]; exact Or.inr h
  have hS : va_S A s.heap s.heap [] := va_S.rf
  have hl := lv_entry ([.ref m0, .long x1, .long x2, .int x3]) (n := 8) (Nat.le_of_ble_eq_true rfl)
  rw [lg_entry_eq]
  generalize (lg_sl ([.ref m0, .long x1, .long x2, .int x3]) ++ List.replicate (8 - (lg_sl ([.ref m0, .long x1, .long x2, .int x3])).length) Slot.unset).toArray = ls at hl ⊢
  have hl : lv_has ls 8 [(0, .ref m0), (1, .long x1), (3, .long x2), (5, .int x3)] := hl
  refine lv_aload_n hx hb d_Bm_begin_0 rfl (lv_at hl 0 rfl) ?_
  refine lv_iconst (v := 0) hx hb d_Bm_begin_1 (by decide) ?_
  refine va_put (D := (dC, dI)) (ci := 8) (v := .int 0) (ty := .int) (C := "BallotBoardModel") (T := F_Bm) (N := 28) hx hb hts (fun w9 h9 => List.mem_cons_of_mem _ (i_Bm w9 h9)) t_Bm t_Bm_ok n_Bm hown hK hP hD hS 0 rfl rfl 0 (by decide) (hts _ (List.mem_cons_of_mem _ gk_919)) (fun _ h9 => h9) rfl (by decide +kernel) rfl rfl (Nat.le_of_ble_eq_true rfl) d_Bm_begin_2 (fun H locs hP hD hS => ?_)
  have hP : va_P (dC, dI) classes [(m0, .inr (8, [.int 0, .int z1, .int z2, .int z3, .long z4, .long z5, .long z6, .long z7, .long z8, .long z9, .int z10, .ref a0, .ref a1, .ref a2, .ref a3, .ref a4, .ref a5, .ref a6, .ref a7, .ref a8, .ref a9, .ref b0, .ref b1, .int (nI oc), .ref b2, .ref b3, .ref b4, .ref b5])), (a4, .inl (cI, 4, .inl kf)), (a5, .inl (cI, 4, .inl sf)), (a6, .inl (cI, 64, .inl vf))] H := hP
  have hD : va_D A [(m0, .inr (8, [.int 0, .int z1, .int z2, .int z3, .long z4, .long z5, .long z6, .long z7, .long z8, .long z9, .int z10, .ref a0, .ref a1, .ref a2, .ref a3, .ref a4, .ref a5, .ref a6, .ref a7, .ref a8, .ref a9, .ref b0, .ref b1, .int (nI oc), .ref b2, .ref b3, .ref b4, .ref b5])), (a4, .inl (cI, 4, .inl kf)), (a5, .inl (cI, 4, .inl sf)), (a6, .inl (cI, 64, .inl vf))] := hD
  refine lv_lload_n hx hb d_Bm_begin_5 rfl (lv_at hl 1 rfl) ?_
  refine lv_ldc2 (v := 7) hx hb hown (hts _ (List.mem_cons_of_mem _ gk_1012)) d_Bm_begin_6 ?_
  refine W.lcmp hx hb d_Bm_begin_9 ?_
  refine lv_if_lt (tgt := 55) hx hb d_Bm_begin_10 (by decide) (fun c_1 => ?_) (fun c_1 => ?_)
  · -- taken
    refine lv_iconst (v := 0) hx hb d_Bm_begin_55 (by decide) ?_
    refine lv_istore (lv' := [(6, .int 0), (0, .ref m0), (1, .long x1), (3, .long x2), (5, .int x3)]) hx hb d_Bm_begin_56 hl (by decide) rfl (fun ls hl => ?_)
    refine lv_iload hx hb d_Bm_begin_58 (lv_at hl 0 rfl) ?_
    refine lv_if_eq (tgt := 99) hx hb d_Bm_begin_60 (by decide) (fun c_2 => ?_) (fun c_2 => ?_)
    · -- taken
      refine lv_aload_n hx hb d_Bm_begin_99 rfl (lv_at hl 1 rfl) ?_
      refine lv_iload hx hb d_Bm_begin_100 (lv_at hl 0 rfl) ?_
      refine lv_if_ne (tgt := 109) hx hb d_Bm_begin_102 (by decide) (fun c_3 => ?_) (fun c_3 => ?_)
      · -- taken
        exact absurd rfl c_3
      · -- not taken
        refine lv_iconst (v := 1) hx hb d_Bm_begin_105 (by decide) ?_
        refine lv_goto (tgt := 110) hx hb d_Bm_begin_106 (by decide) ?_
        refine lv_iconst (v := 1) hx hb d_Bm_begin_110 (by decide) ?_
        have hPc := hP.sub (ws' := (mo_ws m0 0 z1 z2 z3 z4 z5 z6 z7 z8 z9 z10 a0 a1 a2 a3 a4 a5 a6 a7 a8 a9 b0 b1 oc b2 b3 b4 b5)) [0] rfl
        have hDc := hD.sub (ws' := (mo_ws m0 0 z1 z2 z3 z4 z5 z6 z7 z8 z9 z10 a0 a1 a2 a3 a4 a5 a6 a7 a8 a9 b0 b1 oc b2 b3 b4 b5)) [0] (by decide) rfl
        have hKc := hK.sub (tys' := [(cJ, .long), (cI, .int)]) [0, 1] rfl
        have hFc := va_free (wc := (mo_ws m0 0 z1 z2 z3 z4 z5 z6 z7 z8 z9 z10 a0 a1 a2 a3 a4 a5 a6 a7 a8 a9 b0 b1 oc b2 b3 b4 b5)) hD hS hA [0] rfl
        refine va_calli (va_runV (As := [.int 1, .int 1]) (rest := []) ⟨hx, hb, hml, hown, hts⟩ (c_Bm_fails_1 l dC dI cJ cI H.size m0 z1 z2 z3 z4 z5 z6 z7 z8 z9 z10 a0 a1 a2 a3 a4 a5 a6 a7 a8 a9 b0 b1 oc b2 b3 b4 b5 1 (by decide)) (cwV 2 hts (gw_V gk_1030 gk_1032 gp_27 gk_7 gk_1033) rfl rfl rfl (by decide +kernel) ⟨Nat.le_of_ble_eq_true rfl, Nat.le_of_ble_eq_true rfl⟩) ⟨fun a U g mk q => by obtain ⟨q0, q1, qP, qK, qD⟩ := q; exact ⟨q0, q1, qP, va_K.moved (u := U) (U := U.calling g mk a) (Vm.Alike.refl U.vm) qK, qD⟩, va_recv hK hP (ci := 8) (q0 := 0) rfl rfl, fun U hU hW => ⟨rfl, by rw [hU], by rw [hU]; exact hPc, va_K.moved hW.alike hKc, hDc.weaken (fun _ _ _ _ => trivial)⟩⟩ rfl rfl hl.1 rfl (lv_room (Nat.le_of_ble_eq_true rfl)) d_Bm_begin_111 ⟨Nat.le_of_ble_eq_true rfl, Nat.le_of_ble_eq_true rfl⟩) hS (fun q _ h => hFc q h) hFc (fun r_4 u9 t9 H1 locs ht hvm hw hB hz1 hk1 hS => ?_)
        have hw : r_4 = 1 := hw
        subst hw
        obtain ⟨hP1, hK1, hD1⟩ := hB
        rw [ht] at hP1
        obtain ⟨hP, hD⟩ := va_join (wr := [(a4, .inl (cI, 4, .inl kf)), (a5, .inl (cI, 4, .inl sf)), (a6, .inl (cI, 64, .inl vf))]) (w1 := [(m0, .inr (8, [.int 1, .int z1, .int z2, .int z3, .long z4, .long z5, .long z6, .long z7, .long z8, .long z9, .int z10, .ref a0, .ref a1, .ref a2, .ref a3, .ref a4, .ref a5, .ref a6, .ref a7, .ref a8, .ref a9, .ref b0, .ref b1, .int (nI oc), .ref b2, .ref b3, .ref b4, .ref b5]))]) hP hD [0] [1, 2, 3] rfl rfl (by decide) (by decide) hk1 hFc hP1 hD1
        have hP := hP.sub (ws' := [(m0, .inr (8, [.int 1, .int z1, .int z2, .int z3, .long z4, .long z5, .long z6, .long z7, .long z8, .long z9, .int z10, .ref a0, .ref a1, .ref a2, .ref a3, .ref a4, .ref a5, .ref a6, .ref a7, .ref a8, .ref a9, .ref b0, .ref b1, .int (nI oc), .ref b2, .ref b3, .ref b4, .ref b5])), (a4, .inl (cI, 4, .inl kf)), (a5, .inl (cI, 4, .inl sf)), (a6, .inl (cI, 64, .inl vf))]) [3, 0, 1, 2] rfl
        have hD := hD.sub (ws' := [(m0, .inr (8, [.int 1, .int z1, .int z2, .int z3, .long z4, .long z5, .long z6, .long z7, .long z8, .long z9, .int z10, .ref a0, .ref a1, .ref a2, .ref a3, .ref a4, .ref a5, .ref a6, .ref a7, .ref a8, .ref a9, .ref b0, .ref b1, .int (nI oc), .ref b2, .ref b3, .ref b4, .ref b5])), (a4, .inl (cI, 4, .inl kf)), (a5, .inl (cI, 4, .inl sf)), (a6, .inl (cI, 64, .inl vf))]) [3, 0, 1, 2] (by decide) rfl
        generalize H1 = H at hP hS ⊢
        refine lv_if_eq (tgt := 119) hx hb d_Bm_begin_114 (by decide) (fun c_5 => ?_) (fun c_5 => ?_)
        · -- taken
          exact absurd c_5 (by decide)
        · -- not taken
          refine lv_lconst (v := 0) hx hb d_Bm_begin_117 (by decide) ?_
          exact W.lret (v := 0) hx hb hr (fun t ht9 hW => ⟨⟨_, (), rfl, trivial, by rw [ht9]; exact hP, va_K.moved hW.alike hK, hD⟩, hS.F ht9⟩) hS.2.2 d_Bm_begin_118
    · -- not taken
      exact absurd rfl c_2
  · -- not taken
    obtain ⟨P, hP63, hP7, rfl⟩ := l_ge 7 (by omega) rfl c_1
    refine lv_lload_n hx hb d_Bm_begin_13 rfl (lv_at hl 1 rfl) ?_
    refine lv_ldc2 (v := 2305843009213693952) hx hb hown (hts _ (List.mem_cons_of_mem _ gk_1013)) d_Bm_begin_14 ?_
    refine W.lcmp hx hb d_Bm_begin_17 ?_
    refine lv_if_gt (tgt := 55) hx hb d_Bm_begin_18 (by decide) (fun c_6 => ?_) (fun c_6 => ?_)
    · -- taken
      refine lv_iconst (v := 0) hx hb d_Bm_begin_55 (by decide) ?_
      refine lv_istore (lv' := [(6, .int 0), (0, .ref m0), (1, .long (lN P)), (3, .long x2), (5, .int x3)]) hx hb d_Bm_begin_56 hl (by decide) rfl (fun ls hl => ?_)
      refine lv_iload hx hb d_Bm_begin_58 (lv_at hl 0 rfl) ?_
      refine lv_if_eq (tgt := 99) hx hb d_Bm_begin_60 (by decide) (fun c_7 => ?_) (fun c_7 => ?_)
      · -- taken
        refine lv_aload_n hx hb d_Bm_begin_99 rfl (lv_at hl 1 rfl) ?_
        refine lv_iload hx hb d_Bm_begin_100 (lv_at hl 0 rfl) ?_
        refine lv_if_ne (tgt := 109) hx hb d_Bm_begin_102 (by decide) (fun c_8 => ?_) (fun c_8 => ?_)
        · -- taken
          exact absurd rfl c_8
        · -- not taken
          refine lv_iconst (v := 1) hx hb d_Bm_begin_105 (by decide) ?_
          refine lv_goto (tgt := 110) hx hb d_Bm_begin_106 (by decide) ?_
          refine lv_iconst (v := 1) hx hb d_Bm_begin_110 (by decide) ?_
          have hPc := hP.sub (ws' := (mo_ws m0 0 z1 z2 z3 z4 z5 z6 z7 z8 z9 z10 a0 a1 a2 a3 a4 a5 a6 a7 a8 a9 b0 b1 oc b2 b3 b4 b5)) [0] rfl
          have hDc := hD.sub (ws' := (mo_ws m0 0 z1 z2 z3 z4 z5 z6 z7 z8 z9 z10 a0 a1 a2 a3 a4 a5 a6 a7 a8 a9 b0 b1 oc b2 b3 b4 b5)) [0] (by decide) rfl
          have hKc := hK.sub (tys' := [(cJ, .long), (cI, .int)]) [0, 1] rfl
          have hFc := va_free (wc := (mo_ws m0 0 z1 z2 z3 z4 z5 z6 z7 z8 z9 z10 a0 a1 a2 a3 a4 a5 a6 a7 a8 a9 b0 b1 oc b2 b3 b4 b5)) hD hS hA [0] rfl
          refine va_calli (va_runV (As := [.int 1, .int 1]) (rest := []) ⟨hx, hb, hml, hown, hts⟩ (c_Bm_fails_1 l dC dI cJ cI H.size m0 z1 z2 z3 z4 z5 z6 z7 z8 z9 z10 a0 a1 a2 a3 a4 a5 a6 a7 a8 a9 b0 b1 oc b2 b3 b4 b5 1 (by decide)) (cwV 2 hts (gw_V gk_1030 gk_1032 gp_27 gk_7 gk_1033) rfl rfl rfl (by decide +kernel) ⟨Nat.le_of_ble_eq_true rfl, Nat.le_of_ble_eq_true rfl⟩) ⟨fun a U g mk q => by obtain ⟨q0, q1, qP, qK, qD⟩ := q; exact ⟨q0, q1, qP, va_K.moved (u := U) (U := U.calling g mk a) (Vm.Alike.refl U.vm) qK, qD⟩, va_recv hK hP (ci := 8) (q0 := 0) rfl rfl, fun U hU hW => ⟨rfl, by rw [hU], by rw [hU]; exact hPc, va_K.moved hW.alike hKc, hDc.weaken (fun _ _ _ _ => trivial)⟩⟩ rfl rfl hl.1 rfl (lv_room (Nat.le_of_ble_eq_true rfl)) d_Bm_begin_111 ⟨Nat.le_of_ble_eq_true rfl, Nat.le_of_ble_eq_true rfl⟩) hS (fun q _ h => hFc q h) hFc (fun r_9 u9 t9 H1 locs ht hvm hw hB hz1 hk1 hS => ?_)
          have hw : r_9 = 1 := hw
          subst hw
          obtain ⟨hP1, hK1, hD1⟩ := hB
          rw [ht] at hP1
          obtain ⟨hP, hD⟩ := va_join (wr := [(a4, .inl (cI, 4, .inl kf)), (a5, .inl (cI, 4, .inl sf)), (a6, .inl (cI, 64, .inl vf))]) (w1 := [(m0, .inr (8, [.int 1, .int z1, .int z2, .int z3, .long z4, .long z5, .long z6, .long z7, .long z8, .long z9, .int z10, .ref a0, .ref a1, .ref a2, .ref a3, .ref a4, .ref a5, .ref a6, .ref a7, .ref a8, .ref a9, .ref b0, .ref b1, .int (nI oc), .ref b2, .ref b3, .ref b4, .ref b5]))]) hP hD [0] [1, 2, 3] rfl rfl (by decide) (by decide) hk1 hFc hP1 hD1
          have hP := hP.sub (ws' := [(m0, .inr (8, [.int 1, .int z1, .int z2, .int z3, .long z4, .long z5, .long z6, .long z7, .long z8, .long z9, .int z10, .ref a0, .ref a1, .ref a2, .ref a3, .ref a4, .ref a5, .ref a6, .ref a7, .ref a8, .ref a9, .ref b0, .ref b1, .int (nI oc), .ref b2, .ref b3, .ref b4, .ref b5])), (a4, .inl (cI, 4, .inl kf)), (a5, .inl (cI, 4, .inl sf)), (a6, .inl (cI, 64, .inl vf))]) [3, 0, 1, 2] rfl
          have hD := hD.sub (ws' := [(m0, .inr (8, [.int 1, .int z1, .int z2, .int z3, .long z4, .long z5, .long z6, .long z7, .long z8, .long z9, .int z10, .ref a0, .ref a1, .ref a2, .ref a3, .ref a4, .ref a5, .ref a6, .ref a7, .ref a8, .ref a9, .ref b0, .ref b1, .int (nI oc), .ref b2, .ref b3, .ref b4, .ref b5])), (a4, .inl (cI, 4, .inl kf)), (a5, .inl (cI, 4, .inl sf)), (a6, .inl (cI, 64, .inl vf))]) [3, 0, 1, 2] (by decide) rfl
          generalize H1 = H at hP hS ⊢
          refine lv_if_eq (tgt := 119) hx hb d_Bm_begin_114 (by decide) (fun c_10 => ?_) (fun c_10 => ?_)
          · -- taken
            exact absurd c_10 (by decide)
          · -- not taken
            refine lv_lconst (v := 0) hx hb d_Bm_begin_117 (by decide) ?_
            exact W.lret (v := 0) hx hb hr (fun t ht9 hW => ⟨⟨_, (), rfl, trivial, by rw [ht9]; exact hP, va_K.moved hW.alike hK, hD⟩, hS.F ht9⟩) hS.2.2 d_Bm_begin_118
      · -- not taken
        exact absurd rfl c_7
    · -- not taken
      have hP61 : P ≤ 2 ^ 61 := Nat.le_of_not_lt (fun h => c_6 ((cmp_gt hP63 2305843009213693952 (by omega) c61).mpr h))
      refine lv_lload_n hx hb d_Bm_begin_21 rfl (lv_at hl 1 rfl) ?_
      refine va_calli (va_runS (As := [.long (lN P)]) (rest := []) ⟨hx, hb, hml, hown, hts⟩ (c_Bm_isPrime l H P (by omega)) (cwS 1 hts (gw_S gk_1014 gk_1015 gk_7 gk_1016) rfl rfl rfl (by decide +kernel) ⟨Nat.le_of_ble_eq_true rfl, Nat.le_of_ble_eq_true rfl⟩) ⟨fun a U g mk q => q, fun U hU hW => ⟨rfl, hU⟩⟩ rfl rfl hl.1 rfl (lv_room (Nat.le_of_ble_eq_true rfl)) d_Bm_begin_22 ⟨Nat.le_of_ble_eq_true rfl, Nat.le_of_ble_eq_true rfl⟩) hS (fun q _ h => h.elim) (fun q h => h.elim) (fun r22 u9 t9 H1 locs ht hvm hw hB hz1 hk1 hS => ?_)
      obtain rfl : H = H1 := hB.symm.trans ht
      have h22 : bz r22 (nt_Rf P) := hw
      refine lv_if_eq (tgt := 55) hx hb d_Bm_begin_25 (by decide) (fun c_11 => ?_) (fun c_11 => ?_)
      · -- taken
        have bo22 := bz_f h22 c_11
        refine lv_iconst (v := 0) hx hb d_Bm_begin_55 (by decide) ?_
        refine lv_istore (lv' := [(6, .int 0), (0, .ref m0), (1, .long (lN P)), (3, .long x2), (5, .int x3)]) hx hb d_Bm_begin_56 hl (by decide) rfl (fun ls hl => ?_)
        refine lv_iload hx hb d_Bm_begin_58 (lv_at hl 0 rfl) ?_
        refine lv_if_eq (tgt := 99) hx hb d_Bm_begin_60 (by decide) (fun c_12 => ?_) (fun c_12 => ?_)
        · -- taken
          refine lv_aload_n hx hb d_Bm_begin_99 rfl (lv_at hl 1 rfl) ?_
          refine lv_iload hx hb d_Bm_begin_100 (lv_at hl 0 rfl) ?_
          refine lv_if_ne (tgt := 109) hx hb d_Bm_begin_102 (by decide) (fun c_13 => ?_) (fun c_13 => ?_)
          · -- taken
            exact absurd rfl c_13
          · -- not taken
            refine lv_iconst (v := 1) hx hb d_Bm_begin_105 (by decide) ?_
            refine lv_goto (tgt := 110) hx hb d_Bm_begin_106 (by decide) ?_
            refine lv_iconst (v := 1) hx hb d_Bm_begin_110 (by decide) ?_
            have hPc := hP.sub (ws' := (mo_ws m0 0 z1 z2 z3 z4 z5 z6 z7 z8 z9 z10 a0 a1 a2 a3 a4 a5 a6 a7 a8 a9 b0 b1 oc b2 b3 b4 b5)) [0] rfl
            have hDc := hD.sub (ws' := (mo_ws m0 0 z1 z2 z3 z4 z5 z6 z7 z8 z9 z10 a0 a1 a2 a3 a4 a5 a6 a7 a8 a9 b0 b1 oc b2 b3 b4 b5)) [0] (by decide) rfl
            have hKc := hK.sub (tys' := [(cJ, .long), (cI, .int)]) [0, 1] rfl
            have hFc := va_free (wc := (mo_ws m0 0 z1 z2 z3 z4 z5 z6 z7 z8 z9 z10 a0 a1 a2 a3 a4 a5 a6 a7 a8 a9 b0 b1 oc b2 b3 b4 b5)) hD hS hA [0] rfl
            refine va_calli (va_runV (As := [.int 1, .int 1]) (rest := []) ⟨hx, hb, hml, hown, hts⟩ (c_Bm_fails_1 l dC dI cJ cI H.size m0 z1 z2 z3 z4 z5 z6 z7 z8 z9 z10 a0 a1 a2 a3 a4 a5 a6 a7 a8 a9 b0 b1 oc b2 b3 b4 b5 1 (by decide)) (cwV 2 hts (gw_V gk_1030 gk_1032 gp_27 gk_7 gk_1033) rfl rfl rfl (by decide +kernel) ⟨Nat.le_of_ble_eq_true rfl, Nat.le_of_ble_eq_true rfl⟩) ⟨fun a U g mk q => by obtain ⟨q0, q1, qP, qK, qD⟩ := q; exact ⟨q0, q1, qP, va_K.moved (u := U) (U := U.calling g mk a) (Vm.Alike.refl U.vm) qK, qD⟩, va_recv hK hP (ci := 8) (q0 := 0) rfl rfl, fun U hU hW => ⟨rfl, by rw [hU], by rw [hU]; exact hPc, va_K.moved hW.alike hKc, hDc.weaken (fun _ _ _ _ => trivial)⟩⟩ rfl rfl hl.1 rfl (lv_room (Nat.le_of_ble_eq_true rfl)) d_Bm_begin_111 ⟨Nat.le_of_ble_eq_true rfl, Nat.le_of_ble_eq_true rfl⟩) hS (fun q _ h => hFc q h) hFc (fun r_14 u9 t9 H1 locs ht hvm hw hB hz1 hk1 hS => ?_)
            have hw : r_14 = 1 := hw
            subst hw
            obtain ⟨hP1, hK1, hD1⟩ := hB
            rw [ht] at hP1
            obtain ⟨hP, hD⟩ := va_join (wr := [(a4, .inl (cI, 4, .inl kf)), (a5, .inl (cI, 4, .inl sf)), (a6, .inl (cI, 64, .inl vf))]) (w1 := [(m0, .inr (8, [.int 1, .int z1, .int z2, .int z3, .long z4, .long z5, .long z6, .long z7, .long z8, .long z9, .int z10, .ref a0, .ref a1, .ref a2, .ref a3, .ref a4, .ref a5, .ref a6, .ref a7, .ref a8, .ref a9, .ref b0, .ref b1, .int (nI oc), .ref b2, .ref b3, .ref b4, .ref b5]))]) hP hD [0] [1, 2, 3] rfl rfl (by decide) (by decide) hk1 hFc hP1 hD1
            have hP := hP.sub (ws' := [(m0, .inr (8, [.int 1, .int z1, .int z2, .int z3, .long z4, .long z5, .long z6, .long z7, .long z8, .long z9, .int z10, .ref a0, .ref a1, .ref a2, .ref a3, .ref a4, .ref a5, .ref a6, .ref a7, .ref a8, .ref a9, .ref b0, .ref b1, .int (nI oc), .ref b2, .ref b3, .ref b4, .ref b5])), (a4, .inl (cI, 4, .inl kf)), (a5, .inl (cI, 4, .inl sf)), (a6, .inl (cI, 64, .inl vf))]) [3, 0, 1, 2] rfl
            have hD := hD.sub (ws' := [(m0, .inr (8, [.int 1, .int z1, .int z2, .int z3, .long z4, .long z5, .long z6, .long z7, .long z8, .long z9, .int z10, .ref a0, .ref a1, .ref a2, .ref a3, .ref a4, .ref a5, .ref a6, .ref a7, .ref a8, .ref a9, .ref b0, .ref b1, .int (nI oc), .ref b2, .ref b3, .ref b4, .ref b5])), (a4, .inl (cI, 4, .inl kf)), (a5, .inl (cI, 4, .inl sf)), (a6, .inl (cI, 64, .inl vf))]) [3, 0, 1, 2] (by decide) rfl
            generalize H1 = H at hP hS ⊢
            refine lv_if_eq (tgt := 119) hx hb d_Bm_begin_114 (by decide) (fun c_15 => ?_) (fun c_15 => ?_)
            · -- taken
              exact absurd c_15 (by decide)
            · -- not taken
              refine lv_lconst (v := 0) hx hb d_Bm_begin_117 (by decide) ?_
              exact W.lret (v := 0) hx hb hr (fun t ht9 hW => ⟨⟨_, (), rfl, trivial, by rw [ht9]; exact hP, va_K.moved hW.alike hK, hD⟩, hS.F ht9⟩) hS.2.2 d_Bm_begin_118
        · -- not taken
          exact absurd rfl c_12
      · -- not taken
        have bo22 := bz_t h22 c_11
        refine lv_lload_n hx hb d_Bm_begin_28 rfl (lv_at hl 1 rfl) ?_
        refine lv_lconst (v := 1) hx hb d_Bm_begin_29 (by decide) ?_
        refine lv_lsub hx hb d_Bm_begin_30 ?_
        rw [show ((lN P) - 1 : Int64) = (lN (P - 1)) from lN_sub (b := 1) (by omega)]
        refine lv_ldc2 (v := 2) hx hb hown (hts _ (List.mem_cons_of_mem _ gk_1017)) d_Bm_begin_31 ?_
        refine lv_ldiv hx hb d_Bm_begin_34 (by decide) ?_
        rw [show ((lN (P - 1)) / 2 : Int64) = (lN ((P - 1) / 2)) from pk_lDiv (b := 2) (by omega) (by omega) (by omega)]
        refine va_calli (va_runS (As := [.long (lN ((P - 1) / 2))]) (rest := []) ⟨hx, hb, hml, hown, hts⟩ (c_Bm_isPrime l H ((P - 1) / 2) (by omega)) (cwS 1 hts (gw_S gk_1014 gk_1015 gk_7 gk_1016) rfl rfl rfl (by decide +kernel) ⟨Nat.le_of_ble_eq_true rfl, Nat.le_of_ble_eq_true rfl⟩) ⟨fun a U g mk q => q, fun U hU hW => ⟨rfl, hU⟩⟩ rfl rfl hl.1 rfl (lv_room (Nat.le_of_ble_eq_true rfl)) d_Bm_begin_35 ⟨Nat.le_of_ble_eq_true rfl, Nat.le_of_ble_eq_true rfl⟩) hS (fun q _ h => h.elim) (fun q h => h.elim) (fun r35 u9 t9 H1 locs ht hvm hw hB hz1 hk1 hS => ?_)
        obtain rfl : H = H1 := hB.symm.trans ht
        have h35 : bz r35 (nt_Rf ((P - 1) / 2)) := hw
        refine lv_if_eq (tgt := 55) hx hb d_Bm_begin_38 (by decide) (fun c_16 => ?_) (fun c_16 => ?_)
        · -- taken
          have bo35 := bz_f h35 c_16
          refine lv_iconst (v := 0) hx hb d_Bm_begin_55 (by decide) ?_
          refine lv_istore (lv' := [(6, .int 0), (0, .ref m0), (1, .long (lN P)), (3, .long x2), (5, .int x3)]) hx hb d_Bm_begin_56 hl (by decide) rfl (fun ls hl => ?_)
          refine lv_iload hx hb d_Bm_begin_58 (lv_at hl 0 rfl) ?_
          refine lv_if_eq (tgt := 99) hx hb d_Bm_begin_60 (by decide) (fun c_17 => ?_) (fun c_17 => ?_)
          · -- taken
            refine lv_aload_n hx hb d_Bm_begin_99 rfl (lv_at hl 1 rfl) ?_
            refine lv_iload hx hb d_Bm_begin_100 (lv_at hl 0 rfl) ?_
            refine lv_if_ne (tgt := 109) hx hb d_Bm_begin_102 (by decide) (fun c_18 => ?_) (fun c_18 => ?_)
            · -- taken
              exact absurd rfl c_18
            · -- not taken
              refine lv_iconst (v := 1) hx hb d_Bm_begin_105 (by decide) ?_
              refine lv_goto (tgt := 110) hx hb d_Bm_begin_106 (by decide) ?_
              refine lv_iconst (v := 1) hx hb d_Bm_begin_110 (by decide) ?_
              have hPc := hP.sub (ws' := (mo_ws m0 0 z1 z2 z3 z4 z5 z6 z7 z8 z9 z10 a0 a1 a2 a3 a4 a5 a6 a7 a8 a9 b0 b1 oc b2 b3 b4 b5)) [0] rfl
              have hDc := hD.sub (ws' := (mo_ws m0 0 z1 z2 z3 z4 z5 z6 z7 z8 z9 z10 a0 a1 a2 a3 a4 a5 a6 a7 a8 a9 b0 b1 oc b2 b3 b4 b5)) [0] (by decide) rfl
              have hKc := hK.sub (tys' := [(cJ, .long), (cI, .int)]) [0, 1] rfl
              have hFc := va_free (wc := (mo_ws m0 0 z1 z2 z3 z4 z5 z6 z7 z8 z9 z10 a0 a1 a2 a3 a4 a5 a6 a7 a8 a9 b0 b1 oc b2 b3 b4 b5)) hD hS hA [0] rfl
              refine va_calli (va_runV (As := [.int 1, .int 1]) (rest := []) ⟨hx, hb, hml, hown, hts⟩ (c_Bm_fails_1 l dC dI cJ cI H.size m0 z1 z2 z3 z4 z5 z6 z7 z8 z9 z10 a0 a1 a2 a3 a4 a5 a6 a7 a8 a9 b0 b1 oc b2 b3 b4 b5 1 (by decide)) (cwV 2 hts (gw_V gk_1030 gk_1032 gp_27 gk_7 gk_1033) rfl rfl rfl (by decide +kernel) ⟨Nat.le_of_ble_eq_true rfl, Nat.le_of_ble_eq_true rfl⟩) ⟨fun a U g mk q => by obtain ⟨q0, q1, qP, qK, qD⟩ := q; exact ⟨q0, q1, qP, va_K.moved (u := U) (U := U.calling g mk a) (Vm.Alike.refl U.vm) qK, qD⟩, va_recv hK hP (ci := 8) (q0 := 0) rfl rfl, fun U hU hW => ⟨rfl, by rw [hU], by rw [hU]; exact hPc, va_K.moved hW.alike hKc, hDc.weaken (fun _ _ _ _ => trivial)⟩⟩ rfl rfl hl.1 rfl (lv_room (Nat.le_of_ble_eq_true rfl)) d_Bm_begin_111 ⟨Nat.le_of_ble_eq_true rfl, Nat.le_of_ble_eq_true rfl⟩) hS (fun q _ h => hFc q h) hFc (fun r_19 u9 t9 H1 locs ht hvm hw hB hz1 hk1 hS => ?_)
              have hw : r_19 = 1 := hw
              subst hw
              obtain ⟨hP1, hK1, hD1⟩ := hB
              rw [ht] at hP1
              obtain ⟨hP, hD⟩ := va_join (wr := [(a4, .inl (cI, 4, .inl kf)), (a5, .inl (cI, 4, .inl sf)), (a6, .inl (cI, 64, .inl vf))]) (w1 := [(m0, .inr (8, [.int 1, .int z1, .int z2, .int z3, .long z4, .long z5, .long z6, .long z7, .long z8, .long z9, .int z10, .ref a0, .ref a1, .ref a2, .ref a3, .ref a4, .ref a5, .ref a6, .ref a7, .ref a8, .ref a9, .ref b0, .ref b1, .int (nI oc), .ref b2, .ref b3, .ref b4, .ref b5]))]) hP hD [0] [1, 2, 3] rfl rfl (by decide) (by decide) hk1 hFc hP1 hD1
              have hP := hP.sub (ws' := [(m0, .inr (8, [.int 1, .int z1, .int z2, .int z3, .long z4, .long z5, .long z6, .long z7, .long z8, .long z9, .int z10, .ref a0, .ref a1, .ref a2, .ref a3, .ref a4, .ref a5, .ref a6, .ref a7, .ref a8, .ref a9, .ref b0, .ref b1, .int (nI oc), .ref b2, .ref b3, .ref b4, .ref b5])), (a4, .inl (cI, 4, .inl kf)), (a5, .inl (cI, 4, .inl sf)), (a6, .inl (cI, 64, .inl vf))]) [3, 0, 1, 2] rfl
              have hD := hD.sub (ws' := [(m0, .inr (8, [.int 1, .int z1, .int z2, .int z3, .long z4, .long z5, .long z6, .long z7, .long z8, .long z9, .int z10, .ref a0, .ref a1, .ref a2, .ref a3, .ref a4, .ref a5, .ref a6, .ref a7, .ref a8, .ref a9, .ref b0, .ref b1, .int (nI oc), .ref b2, .ref b3, .ref b4, .ref b5])), (a4, .inl (cI, 4, .inl kf)), (a5, .inl (cI, 4, .inl sf)), (a6, .inl (cI, 64, .inl vf))]) [3, 0, 1, 2] (by decide) rfl
              generalize H1 = H at hP hS ⊢
              refine lv_if_eq (tgt := 119) hx hb d_Bm_begin_114 (by decide) (fun c_20 => ?_) (fun c_20 => ?_)
              · -- taken
                exact absurd c_20 (by decide)
              · -- not taken
                refine lv_lconst (v := 0) hx hb d_Bm_begin_117 (by decide) ?_
                exact W.lret (v := 0) hx hb hr (fun t ht9 hW => ⟨⟨_, (), rfl, trivial, by rw [ht9]; exact hP, va_K.moved hW.alike hK, hD⟩, hS.F ht9⟩) hS.2.2 d_Bm_begin_118
          · -- not taken
            exact absurd rfl c_17
        · -- not taken
          have bo35 := bz_t h35 c_16
          refine lv_iload hx hb d_Bm_begin_41 (lv_at hl 3 rfl) ?_
          refine lv_iconst (v := 1) hx hb d_Bm_begin_43 (by decide) ?_
          refine lv_iconst (v := 4) hx hb d_Bm_begin_44 (by decide) ?_
          refine va_calli (va_runS (As := [.int x3, .int 1, .int 4]) (rest := []) ⟨hx, hb, hml, hown, hts⟩ (c_Bm_in l H x3 1 4) (cwS 3 hts (gw_S gk_1027 gk_1028 gk_7 gk_1029) rfl rfl rfl (by decide +kernel) ⟨Nat.le_of_ble_eq_true rfl, Nat.le_of_ble_eq_true rfl⟩) ⟨fun a U g mk q => q, fun U hU hW => ⟨rfl, hU⟩⟩ rfl rfl hl.1 rfl (lv_room (Nat.le_of_ble_eq_true rfl)) d_Bm_begin_45 ⟨Nat.le_of_ble_eq_true rfl, Nat.le_of_ble_eq_true rfl⟩) hS (fun q _ h => h.elim) (fun q h => h.elim) (fun r45 u9 t9 H1 locs ht hvm hw hB hz1 hk1 hS => ?_)
          obtain rfl : H = H1 := hB.symm.trans ht
          have h45 : bz r45 (∃ N9, x3 = nI N9 ∧ 1 ≤ N9 ∧ N9 ≤ 4) := bz_in14 hw
          refine lv_if_eq (tgt := 55) hx hb d_Bm_begin_48 (by decide) (fun c_21 => ?_) (fun c_21 => ?_)
          · -- taken
            have bo45 := bz_f h45 c_21
            refine lv_iconst (v := 0) hx hb d_Bm_begin_55 (by decide) ?_
            refine lv_istore (lv' := [(6, .int 0), (0, .ref m0), (1, .long (lN P)), (3, .long x2), (5, .int x3)]) hx hb d_Bm_begin_56 hl (by decide) rfl (fun ls hl => ?_)
            refine lv_iload hx hb d_Bm_begin_58 (lv_at hl 0 rfl) ?_
            refine lv_if_eq (tgt := 99) hx hb d_Bm_begin_60 (by decide) (fun c_22 => ?_) (fun c_22 => ?_)
            · -- taken
              refine lv_aload_n hx hb d_Bm_begin_99 rfl (lv_at hl 1 rfl) ?_
              refine lv_iload hx hb d_Bm_begin_100 (lv_at hl 0 rfl) ?_
              refine lv_if_ne (tgt := 109) hx hb d_Bm_begin_102 (by decide) (fun c_23 => ?_) (fun c_23 => ?_)
              · -- taken
                exact absurd rfl c_23
              · -- not taken
                refine lv_iconst (v := 1) hx hb d_Bm_begin_105 (by decide) ?_
                refine lv_goto (tgt := 110) hx hb d_Bm_begin_106 (by decide) ?_
                refine lv_iconst (v := 1) hx hb d_Bm_begin_110 (by decide) ?_
                have hPc := hP.sub (ws' := (mo_ws m0 0 z1 z2 z3 z4 z5 z6 z7 z8 z9 z10 a0 a1 a2 a3 a4 a5 a6 a7 a8 a9 b0 b1 oc b2 b3 b4 b5)) [0] rfl
                have hDc := hD.sub (ws' := (mo_ws m0 0 z1 z2 z3 z4 z5 z6 z7 z8 z9 z10 a0 a1 a2 a3 a4 a5 a6 a7 a8 a9 b0 b1 oc b2 b3 b4 b5)) [0] (by decide) rfl
                have hKc := hK.sub (tys' := [(cJ, .long), (cI, .int)]) [0, 1] rfl
                have hFc := va_free (wc := (mo_ws m0 0 z1 z2 z3 z4 z5 z6 z7 z8 z9 z10 a0 a1 a2 a3 a4 a5 a6 a7 a8 a9 b0 b1 oc b2 b3 b4 b5)) hD hS hA [0] rfl
                refine va_calli (va_runV (As := [.int 1, .int 1]) (rest := []) ⟨hx, hb, hml, hown, hts⟩ (c_Bm_fails_1 l dC dI cJ cI H.size m0 z1 z2 z3 z4 z5 z6 z7 z8 z9 z10 a0 a1 a2 a3 a4 a5 a6 a7 a8 a9 b0 b1 oc b2 b3 b4 b5 1 (by decide)) (cwV 2 hts (gw_V gk_1030 gk_1032 gp_27 gk_7 gk_1033) rfl rfl rfl (by decide +kernel) ⟨Nat.le_of_ble_eq_true rfl, Nat.le_of_ble_eq_true rfl⟩) ⟨fun a U g mk q => by obtain ⟨q0, q1, qP, qK, qD⟩ := q; exact ⟨q0, q1, qP, va_K.moved (u := U) (U := U.calling g mk a) (Vm.Alike.refl U.vm) qK, qD⟩, va_recv hK hP (ci := 8) (q0 := 0) rfl rfl, fun U hU hW => ⟨rfl, by rw [hU], by rw [hU]; exact hPc, va_K.moved hW.alike hKc, hDc.weaken (fun _ _ _ _ => trivial)⟩⟩ rfl rfl hl.1 rfl (lv_room (Nat.le_of_ble_eq_true rfl)) d_Bm_begin_111 ⟨Nat.le_of_ble_eq_true rfl, Nat.le_of_ble_eq_true rfl⟩) hS (fun q _ h => hFc q h) hFc (fun r_24 u9 t9 H1 locs ht hvm hw hB hz1 hk1 hS => ?_)
                have hw : r_24 = 1 := hw
                subst hw
                obtain ⟨hP1, hK1, hD1⟩ := hB
                rw [ht] at hP1
                obtain ⟨hP, hD⟩ := va_join (wr := [(a4, .inl (cI, 4, .inl kf)), (a5, .inl (cI, 4, .inl sf)), (a6, .inl (cI, 64, .inl vf))]) (w1 := [(m0, .inr (8, [.int 1, .int z1, .int z2, .int z3, .long z4, .long z5, .long z6, .long z7, .long z8, .long z9, .int z10, .ref a0, .ref a1, .ref a2, .ref a3, .ref a4, .ref a5, .ref a6, .ref a7, .ref a8, .ref a9, .ref b0, .ref b1, .int (nI oc), .ref b2, .ref b3, .ref b4, .ref b5]))]) hP hD [0] [1, 2, 3] rfl rfl (by decide) (by decide) hk1 hFc hP1 hD1
                have hP := hP.sub (ws' := [(m0, .inr (8, [.int 1, .int z1, .int z2, .int z3, .long z4, .long z5, .long z6, .long z7, .long z8, .long z9, .int z10, .ref a0, .ref a1, .ref a2, .ref a3, .ref a4, .ref a5, .ref a6, .ref a7, .ref a8, .ref a9, .ref b0, .ref b1, .int (nI oc), .ref b2, .ref b3, .ref b4, .ref b5])), (a4, .inl (cI, 4, .inl kf)), (a5, .inl (cI, 4, .inl sf)), (a6, .inl (cI, 64, .inl vf))]) [3, 0, 1, 2] rfl
                have hD := hD.sub (ws' := [(m0, .inr (8, [.int 1, .int z1, .int z2, .int z3, .long z4, .long z5, .long z6, .long z7, .long z8, .long z9, .int z10, .ref a0, .ref a1, .ref a2, .ref a3, .ref a4, .ref a5, .ref a6, .ref a7, .ref a8, .ref a9, .ref b0, .ref b1, .int (nI oc), .ref b2, .ref b3, .ref b4, .ref b5])), (a4, .inl (cI, 4, .inl kf)), (a5, .inl (cI, 4, .inl sf)), (a6, .inl (cI, 64, .inl vf))]) [3, 0, 1, 2] (by decide) rfl
                generalize H1 = H at hP hS ⊢
                refine lv_if_eq (tgt := 119) hx hb d_Bm_begin_114 (by decide) (fun c_25 => ?_) (fun c_25 => ?_)
                · -- taken
                  exact absurd c_25 (by decide)
                · -- not taken
                  refine lv_lconst (v := 0) hx hb d_Bm_begin_117 (by decide) ?_
                  exact W.lret (v := 0) hx hb hr (fun t ht9 hW => ⟨⟨_, (), rfl, trivial, by rw [ht9]; exact hP, va_K.moved hW.alike hK, hD⟩, hS.F ht9⟩) hS.2.2 d_Bm_begin_118
            · -- not taken
              exact absurd rfl c_22
          · -- not taken
            have bo45 := bz_t h45 c_21
            refine lv_iconst (v := 1) hx hb d_Bm_begin_51 (by decide) ?_
            refine lv_goto (tgt := 56) hx hb d_Bm_begin_52 (by decide) ?_
            refine lv_istore (lv' := [(6, .int 1), (0, .ref m0), (1, .long (lN P)), (3, .long x2), (5, .int x3)]) hx hb d_Bm_begin_56 hl (by decide) rfl (fun ls hl => ?_)
            refine lv_iload hx hb d_Bm_begin_58 (lv_at hl 0 rfl) ?_
            refine lv_if_eq (tgt := 99) hx hb d_Bm_begin_60 (by decide) (fun c_26 => ?_) (fun c_26 => ?_)
            · -- taken
              exact absurd c_26 (by decide)
            · -- not taken
              refine lv_lload_n hx hb d_Bm_begin_63 rfl (lv_at hl 3 rfl) ?_
              refine lv_lconst (v := 1) hx hb d_Bm_begin_64 (by decide) ?_
              refine W.lcmp hx hb d_Bm_begin_65 ?_
              refine lv_if_le (tgt := 96) hx hb d_Bm_begin_66 (by decide) (fun c_27 => ?_) (fun c_27 => ?_)
              · -- taken
                refine lv_iconst (v := 0) hx hb d_Bm_begin_96 (by decide) ?_
                refine lv_istore (lv' := [(6, .int 0), (0, .ref m0), (1, .long (lN P)), (3, .long x2), (5, .int x3)]) hx hb d_Bm_begin_97 hl (by decide) rfl (fun ls hl => ?_)
                refine lv_aload_n hx hb d_Bm_begin_99 rfl (lv_at hl 1 rfl) ?_
                refine lv_iload hx hb d_Bm_begin_100 (lv_at hl 0 rfl) ?_
                refine lv_if_ne (tgt := 109) hx hb d_Bm_begin_102 (by decide) (fun c_28 => ?_) (fun c_28 => ?_)
                · -- taken
                  exact absurd rfl c_28
                · -- not taken
                  refine lv_iconst (v := 1) hx hb d_Bm_begin_105 (by decide) ?_
                  refine lv_goto (tgt := 110) hx hb d_Bm_begin_106 (by decide) ?_
                  refine lv_iconst (v := 1) hx hb d_Bm_begin_110 (by decide) ?_
                  have hPc := hP.sub (ws' := (mo_ws m0 0 z1 z2 z3 z4 z5 z6 z7 z8 z9 z10 a0 a1 a2 a3 a4 a5 a6 a7 a8 a9 b0 b1 oc b2 b3 b4 b5)) [0] rfl
                  have hDc := hD.sub (ws' := (mo_ws m0 0 z1 z2 z3 z4 z5 z6 z7 z8 z9 z10 a0 a1 a2 a3 a4 a5 a6 a7 a8 a9 b0 b1 oc b2 b3 b4 b5)) [0] (by decide) rfl
                  have hKc := hK.sub (tys' := [(cJ, .long), (cI, .int)]) [0, 1] rfl
                  have hFc := va_free (wc := (mo_ws m0 0 z1 z2 z3 z4 z5 z6 z7 z8 z9 z10 a0 a1 a2 a3 a4 a5 a6 a7 a8 a9 b0 b1 oc b2 b3 b4 b5)) hD hS hA [0] rfl
                  refine va_calli (va_runV (As := [.int 1, .int 1]) (rest := []) ⟨hx, hb, hml, hown, hts⟩ (c_Bm_fails_1 l dC dI cJ cI H.size m0 z1 z2 z3 z4 z5 z6 z7 z8 z9 z10 a0 a1 a2 a3 a4 a5 a6 a7 a8 a9 b0 b1 oc b2 b3 b4 b5 1 (by decide)) (cwV 2 hts (gw_V gk_1030 gk_1032 gp_27 gk_7 gk_1033) rfl rfl rfl (by decide +kernel) ⟨Nat.le_of_ble_eq_true rfl, Nat.le_of_ble_eq_true rfl⟩) ⟨fun a U g mk q => by obtain ⟨q0, q1, qP, qK, qD⟩ := q; exact ⟨q0, q1, qP, va_K.moved (u := U) (U := U.calling g mk a) (Vm.Alike.refl U.vm) qK, qD⟩, va_recv hK hP (ci := 8) (q0 := 0) rfl rfl, fun U hU hW => ⟨rfl, by rw [hU], by rw [hU]; exact hPc, va_K.moved hW.alike hKc, hDc.weaken (fun _ _ _ _ => trivial)⟩⟩ rfl rfl hl.1 rfl (lv_room (Nat.le_of_ble_eq_true rfl)) d_Bm_begin_111 ⟨Nat.le_of_ble_eq_true rfl, Nat.le_of_ble_eq_true rfl⟩) hS (fun q _ h => hFc q h) hFc (fun r_29 u9 t9 H1 locs ht hvm hw hB hz1 hk1 hS => ?_)
                  have hw : r_29 = 1 := hw
                  subst hw
                  obtain ⟨hP1, hK1, hD1⟩ := hB
                  rw [ht] at hP1
                  obtain ⟨hP, hD⟩ := va_join (wr := [(a4, .inl (cI, 4, .inl kf)), (a5, .inl (cI, 4, .inl sf)), (a6, .inl (cI, 64, .inl vf))]) (w1 := [(m0, .inr (8, [.int 1, .int z1, .int z2, .int z3, .long z4, .long z5, .long z6, .long z7, .long z8, .long z9, .int z10, .ref a0, .ref a1, .ref a2, .ref a3, .ref a4, .ref a5, .ref a6, .ref a7, .ref a8, .ref a9, .ref b0, .ref b1, .int (nI oc), .ref b2, .ref b3, .ref b4, .ref b5]))]) hP hD [0] [1, 2, 3] rfl rfl (by decide) (by decide) hk1 hFc hP1 hD1
                  have hP := hP.sub (ws' := [(m0, .inr (8, [.int 1, .int z1, .int z2, .int z3, .long z4, .long z5, .long z6, .long z7, .long z8, .long z9, .int z10, .ref a0, .ref a1, .ref a2, .ref a3, .ref a4, .ref a5, .ref a6, .ref a7, .ref a8, .ref a9, .ref b0, .ref b1, .int (nI oc), .ref b2, .ref b3, .ref b4, .ref b5])), (a4, .inl (cI, 4, .inl kf)), (a5, .inl (cI, 4, .inl sf)), (a6, .inl (cI, 64, .inl vf))]) [3, 0, 1, 2] rfl
                  have hD := hD.sub (ws' := [(m0, .inr (8, [.int 1, .int z1, .int z2, .int z3, .long z4, .long z5, .long z6, .long z7, .long z8, .long z9, .int z10, .ref a0, .ref a1, .ref a2, .ref a3, .ref a4, .ref a5, .ref a6, .ref a7, .ref a8, .ref a9, .ref b0, .ref b1, .int (nI oc), .ref b2, .ref b3, .ref b4, .ref b5])), (a4, .inl (cI, 4, .inl kf)), (a5, .inl (cI, 4, .inl sf)), (a6, .inl (cI, 64, .inl vf))]) [3, 0, 1, 2] (by decide) rfl
                  generalize H1 = H at hP hS ⊢
                  refine lv_if_eq (tgt := 119) hx hb d_Bm_begin_114 (by decide) (fun c_30 => ?_) (fun c_30 => ?_)
                  · -- taken
                    exact absurd c_30 (by decide)
                  · -- not taken
                    refine lv_lconst (v := 0) hx hb d_Bm_begin_117 (by decide) ?_
                    exact W.lret (v := 0) hx hb hr (fun t ht9 hW => ⟨⟨_, (), rfl, trivial, by rw [ht9]; exact hP, va_K.moved hW.alike hK, hD⟩, hS.F ht9⟩) hS.2.2 d_Bm_begin_118
              · -- not taken
                obtain ⟨G, hG63, hG2, rfl⟩ := l_gt1 c_27
                have hPlt := nt_Rf_lt bo22 hP61
                refine lv_lload_n hx hb d_Bm_begin_69 rfl (lv_at hl 3 rfl) ?_
                refine lv_lload_n hx hb d_Bm_begin_70 rfl (lv_at hl 2 rfl) ?_
                refine W.lcmp hx hb d_Bm_begin_71 ?_
                refine lv_if_ge (tgt := 96) hx hb d_Bm_begin_72 (by decide) (fun c_31 => ?_) (fun c_31 => ?_)
                · -- taken
                  refine lv_iconst (v := 0) hx hb d_Bm_begin_96 (by decide) ?_
                  refine lv_istore (lv' := [(6, .int 0), (0, .ref m0), (1, .long (lN P)), (3, .long (lN G)), (5, .int x3)]) hx hb d_Bm_begin_97 hl (by decide) rfl (fun ls hl => ?_)
                  refine lv_aload_n hx hb d_Bm_begin_99 rfl (lv_at hl 1 rfl) ?_
                  refine lv_iload hx hb d_Bm_begin_100 (lv_at hl 0 rfl) ?_
                  refine lv_if_ne (tgt := 109) hx hb d_Bm_begin_102 (by decide) (fun c_32 => ?_) (fun c_32 => ?_)
                  · -- taken
                    exact absurd rfl c_32
                  · -- not taken
                    refine lv_iconst (v := 1) hx hb d_Bm_begin_105 (by decide) ?_
                    refine lv_goto (tgt := 110) hx hb d_Bm_begin_106 (by decide) ?_
                    refine lv_iconst (v := 1) hx hb d_Bm_begin_110 (by decide) ?_
                    have hPc := hP.sub (ws' := (mo_ws m0 0 z1 z2 z3 z4 z5 z6 z7 z8 z9 z10 a0 a1 a2 a3 a4 a5 a6 a7 a8 a9 b0 b1 oc b2 b3 b4 b5)) [0] rfl
                    have hDc := hD.sub (ws' := (mo_ws m0 0 z1 z2 z3 z4 z5 z6 z7 z8 z9 z10 a0 a1 a2 a3 a4 a5 a6 a7 a8 a9 b0 b1 oc b2 b3 b4 b5)) [0] (by decide) rfl
                    have hKc := hK.sub (tys' := [(cJ, .long), (cI, .int)]) [0, 1] rfl
                    have hFc := va_free (wc := (mo_ws m0 0 z1 z2 z3 z4 z5 z6 z7 z8 z9 z10 a0 a1 a2 a3 a4 a5 a6 a7 a8 a9 b0 b1 oc b2 b3 b4 b5)) hD hS hA [0] rfl
                    refine va_calli (va_runV (As := [.int 1, .int 1]) (rest := []) ⟨hx, hb, hml, hown, hts⟩ (c_Bm_fails_1 l dC dI cJ cI H.size m0 z1 z2 z3 z4 z5 z6 z7 z8 z9 z10 a0 a1 a2 a3 a4 a5 a6 a7 a8 a9 b0 b1 oc b2 b3 b4 b5 1 (by decide)) (cwV 2 hts (gw_V gk_1030 gk_1032 gp_27 gk_7 gk_1033) rfl rfl rfl (by decide +kernel) ⟨Nat.le_of_ble_eq_true rfl, Nat.le_of_ble_eq_true rfl⟩) ⟨fun a U g mk q => by obtain ⟨q0, q1, qP, qK, qD⟩ := q; exact ⟨q0, q1, qP, va_K.moved (u := U) (U := U.calling g mk a) (Vm.Alike.refl U.vm) qK, qD⟩, va_recv hK hP (ci := 8) (q0 := 0) rfl rfl, fun U hU hW => ⟨rfl, by rw [hU], by rw [hU]; exact hPc, va_K.moved hW.alike hKc, hDc.weaken (fun _ _ _ _ => trivial)⟩⟩ rfl rfl hl.1 rfl (lv_room (Nat.le_of_ble_eq_true rfl)) d_Bm_begin_111 ⟨Nat.le_of_ble_eq_true rfl, Nat.le_of_ble_eq_true rfl⟩) hS (fun q _ h => hFc q h) hFc (fun r_33 u9 t9 H1 locs ht hvm hw hB hz1 hk1 hS => ?_)
                    have hw : r_33 = 1 := hw
                    subst hw
                    obtain ⟨hP1, hK1, hD1⟩ := hB
                    rw [ht] at hP1
                    obtain ⟨hP, hD⟩ := va_join (wr := [(a4, .inl (cI, 4, .inl kf)), (a5, .inl (cI, 4, .inl sf)), (a6, .inl (cI, 64, .inl vf))]) (w1 := [(m0, .inr (8, [.int 1, .int z1, .int z2, .int z3, .long z4, .long z5, .long z6, .long z7, .long z8, .long z9, .int z10, .ref a0, .ref a1, .ref a2, .ref a3, .ref a4, .ref a5, .ref a6, .ref a7, .ref a8, .ref a9, .ref b0, .ref b1, .int (nI oc), .ref b2, .ref b3, .ref b4, .ref b5]))]) hP hD [0] [1, 2, 3] rfl rfl (by decide) (by decide) hk1 hFc hP1 hD1
                    have hP := hP.sub (ws' := [(m0, .inr (8, [.int 1, .int z1, .int z2, .int z3, .long z4, .long z5, .long z6, .long z7, .long z8, .long z9, .int z10, .ref a0, .ref a1, .ref a2, .ref a3, .ref a4, .ref a5, .ref a6, .ref a7, .ref a8, .ref a9, .ref b0, .ref b1, .int (nI oc), .ref b2, .ref b3, .ref b4, .ref b5])), (a4, .inl (cI, 4, .inl kf)), (a5, .inl (cI, 4, .inl sf)), (a6, .inl (cI, 64, .inl vf))]) [3, 0, 1, 2] rfl
                    have hD := hD.sub (ws' := [(m0, .inr (8, [.int 1, .int z1, .int z2, .int z3, .long z4, .long z5, .long z6, .long z7, .long z8, .long z9, .int z10, .ref a0, .ref a1, .ref a2, .ref a3, .ref a4, .ref a5, .ref a6, .ref a7, .ref a8, .ref a9, .ref b0, .ref b1, .int (nI oc), .ref b2, .ref b3, .ref b4, .ref b5])), (a4, .inl (cI, 4, .inl kf)), (a5, .inl (cI, 4, .inl sf)), (a6, .inl (cI, 64, .inl vf))]) [3, 0, 1, 2] (by decide) rfl
                    generalize H1 = H at hP hS ⊢
                    refine lv_if_eq (tgt := 119) hx hb d_Bm_begin_114 (by decide) (fun c_34 => ?_) (fun c_34 => ?_)
                    · -- taken
                      exact absurd c_34 (by decide)
                    · -- not taken
                      refine lv_lconst (v := 0) hx hb d_Bm_begin_117 (by decide) ?_
                      exact W.lret (v := 0) hx hb hr (fun t ht9 hW => ⟨⟨_, (), rfl, trivial, by rw [ht9]; exact hP, va_K.moved hW.alike hK, hD⟩, hS.F ht9⟩) hS.2.2 d_Bm_begin_118
                · -- not taken
                  have hGP : G < P := Nat.lt_of_not_le (fun h => c_31 ((cmpge hG63 P (by omega)).mpr h))
                  refine lv_lload_n hx hb d_Bm_begin_75 rfl (lv_at hl 3 rfl) ?_
                  refine lv_lload_n hx hb d_Bm_begin_76 rfl (lv_at hl 2 rfl) ?_
                  refine lv_lconst (v := 1) hx hb d_Bm_begin_77 (by decide) ?_
                  refine lv_lsub hx hb d_Bm_begin_78 ?_
                  rw [show ((lN P) - 1 : Int64) = (lN (P - 1)) from lN_sub (b := 1) (by omega)]
                  refine lv_ldc2 (v := 2) hx hb hown (hts _ (List.mem_cons_of_mem _ gk_1017)) d_Bm_begin_79 ?_
                  refine lv_ldiv hx hb d_Bm_begin_82 (by decide) ?_
                  rw [show ((lN (P - 1)) / 2 : Int64) = (lN ((P - 1) / 2)) from pk_lDiv (b := 2) (by omega) (by omega) (by omega)]
                  refine lv_lload_n hx hb d_Bm_begin_83 rfl (lv_at hl 2 rfl) ?_
                  refine va_calll (va_runS (As := [.long (lN G), .long (lN ((P - 1) / 2)), .long (lN P)]) (rest := []) ⟨hx, hb, hml, hown, hts⟩ (c_Bm_power l H G ((P - 1) / 2) P hGP (by omega) (by omega)) (cwS 3 hts (gw_S gk_1018 gk_1019 gk_7 gk_1020) rfl rfl rfl (by decide +kernel) ⟨Nat.le_of_ble_eq_true rfl, Nat.le_of_ble_eq_true rfl⟩) ⟨fun a U g mk q => q, fun U hU hW => ⟨rfl, hU⟩⟩ rfl rfl hl.1 rfl (lv_room (Nat.le_of_ble_eq_true rfl)) d_Bm_begin_84 ⟨Nat.le_of_ble_eq_true rfl, Nat.le_of_ble_eq_true rfl⟩) hS (fun q _ h => h.elim) (fun q h => h.elim) (fun r84 u9 t9 H1 locs ht hvm hw hB hz1 hk1 hS => ?_)
                  obtain rfl : H = H1 := hB.symm.trans ht
                  have hw : r84 = lN (G ^ ((P - 1) / 2) % P) := hw
                  subst hw
                  refine lv_lconst (v := 1) hx hb d_Bm_begin_87 (by decide) ?_
                  refine W.lcmp hx hb d_Bm_begin_88 ?_
                  refine lv_if_ne (tgt := 96) hx hb d_Bm_begin_89 (by decide) (fun c_35 => ?_) (fun c_35 => ?_)
                  · -- taken
                    refine lv_iconst (v := 0) hx hb d_Bm_begin_96 (by decide) ?_
                    refine lv_istore (lv' := [(6, .int 0), (0, .ref m0), (1, .long (lN P)), (3, .long (lN G)), (5, .int x3)]) hx hb d_Bm_begin_97 hl (by decide) rfl (fun ls hl => ?_)
                    refine lv_aload_n hx hb d_Bm_begin_99 rfl (lv_at hl 1 rfl) ?_
                    refine lv_iload hx hb d_Bm_begin_100 (lv_at hl 0 rfl) ?_
                    refine lv_if_ne (tgt := 109) hx hb d_Bm_begin_102 (by decide) (fun c_36 => ?_) (fun c_36 => ?_)
                    · -- taken
                      exact absurd rfl c_36
                    · -- not taken
                      refine lv_iconst (v := 1) hx hb d_Bm_begin_105 (by decide) ?_
                      refine lv_goto (tgt := 110) hx hb d_Bm_begin_106 (by decide) ?_
                      refine lv_iconst (v := 1) hx hb d_Bm_begin_110 (by decide) ?_
                      have hPc := hP.sub (ws' := (mo_ws m0 0 z1 z2 z3 z4 z5 z6 z7 z8 z9 z10 a0 a1 a2 a3 a4 a5 a6 a7 a8 a9 b0 b1 oc b2 b3 b4 b5)) [0] rfl
                      have hDc := hD.sub (ws' := (mo_ws m0 0 z1 z2 z3 z4 z5 z6 z7 z8 z9 z10 a0 a1 a2 a3 a4 a5 a6 a7 a8 a9 b0 b1 oc b2 b3 b4 b5)) [0] (by decide) rfl
                      have hKc := hK.sub (tys' := [(cJ, .long), (cI, .int)]) [0, 1] rfl
                      have hFc := va_free (wc := (mo_ws m0 0 z1 z2 z3 z4 z5 z6 z7 z8 z9 z10 a0 a1 a2 a3 a4 a5 a6 a7 a8 a9 b0 b1 oc b2 b3 b4 b5)) hD hS hA [0] rfl
                      refine va_calli (va_runV (As := [.int 1, .int 1]) (rest := []) ⟨hx, hb, hml, hown, hts⟩ (c_Bm_fails_1 l dC dI cJ cI H.size m0 z1 z2 z3 z4 z5 z6 z7 z8 z9 z10 a0 a1 a2 a3 a4 a5 a6 a7 a8 a9 b0 b1 oc b2 b3 b4 b5 1 (by decide)) (cwV 2 hts (gw_V gk_1030 gk_1032 gp_27 gk_7 gk_1033) rfl rfl rfl (by decide +kernel) ⟨Nat.le_of_ble_eq_true rfl, Nat.le_of_ble_eq_true rfl⟩) ⟨fun a U g mk q => by obtain ⟨q0, q1, qP, qK, qD⟩ := q; exact ⟨q0, q1, qP, va_K.moved (u := U) (U := U.calling g mk a) (Vm.Alike.refl U.vm) qK, qD⟩, va_recv hK hP (ci := 8) (q0 := 0) rfl rfl, fun U hU hW => ⟨rfl, by rw [hU], by rw [hU]; exact hPc, va_K.moved hW.alike hKc, hDc.weaken (fun _ _ _ _ => trivial)⟩⟩ rfl rfl hl.1 rfl (lv_room (Nat.le_of_ble_eq_true rfl)) d_Bm_begin_111 ⟨Nat.le_of_ble_eq_true rfl, Nat.le_of_ble_eq_true rfl⟩) hS (fun q _ h => hFc q h) hFc (fun r_37 u9 t9 H1 locs ht hvm hw hB hz1 hk1 hS => ?_)
                      have hw : r_37 = 1 := hw
                      subst hw
                      obtain ⟨hP1, hK1, hD1⟩ := hB
                      rw [ht] at hP1
                      obtain ⟨hP, hD⟩ := va_join (wr := [(a4, .inl (cI, 4, .inl kf)), (a5, .inl (cI, 4, .inl sf)), (a6, .inl (cI, 64, .inl vf))]) (w1 := [(m0, .inr (8, [.int 1, .int z1, .int z2, .int z3, .long z4, .long z5, .long z6, .long z7, .long z8, .long z9, .int z10, .ref a0, .ref a1, .ref a2, .ref a3, .ref a4, .ref a5, .ref a6, .ref a7, .ref a8, .ref a9, .ref b0, .ref b1, .int (nI oc), .ref b2, .ref b3, .ref b4, .ref b5]))]) hP hD [0] [1, 2, 3] rfl rfl (by decide) (by decide) hk1 hFc hP1 hD1
                      have hP := hP.sub (ws' := [(m0, .inr (8, [.int 1, .int z1, .int z2, .int z3, .long z4, .long z5, .long z6, .long z7, .long z8, .long z9, .int z10, .ref a0, .ref a1, .ref a2, .ref a3, .ref a4, .ref a5, .ref a6, .ref a7, .ref a8, .ref a9, .ref b0, .ref b1, .int (nI oc), .ref b2, .ref b3, .ref b4, .ref b5])), (a4, .inl (cI, 4, .inl kf)), (a5, .inl (cI, 4, .inl sf)), (a6, .inl (cI, 64, .inl vf))]) [3, 0, 1, 2] rfl
                      have hD := hD.sub (ws' := [(m0, .inr (8, [.int 1, .int z1, .int z2, .int z3, .long z4, .long z5, .long z6, .long z7, .long z8, .long z9, .int z10, .ref a0, .ref a1, .ref a2, .ref a3, .ref a4, .ref a5, .ref a6, .ref a7, .ref a8, .ref a9, .ref b0, .ref b1, .int (nI oc), .ref b2, .ref b3, .ref b4, .ref b5])), (a4, .inl (cI, 4, .inl kf)), (a5, .inl (cI, 4, .inl sf)), (a6, .inl (cI, 64, .inl vf))]) [3, 0, 1, 2] (by decide) rfl
                      generalize H1 = H at hP hS ⊢
                      refine lv_if_eq (tgt := 119) hx hb d_Bm_begin_114 (by decide) (fun c_38 => ?_) (fun c_38 => ?_)
                      · -- taken
                        exact absurd c_38 (by decide)
                      · -- not taken
                        refine lv_lconst (v := 0) hx hb d_Bm_begin_117 (by decide) ?_
                        exact W.lret (v := 0) hx hb hr (fun t ht9 hW => ⟨⟨_, (), rfl, trivial, by rw [ht9]; exact hP, va_K.moved hW.alike hK, hD⟩, hS.F ht9⟩) hS.2.2 d_Bm_begin_118
                  · -- not taken
                    exfalso
                    obtain ⟨N, e3, h3⟩ := bo45
                    exact hC ⟨P, G, N, rfl, rfl, e3, hP7, hP61, bo22, bo35, h3, hG2, hGP, (cmpe (Nat.lt_trans (Nat.mod_lt _ (by omega)) (by omega)) 1 (by omega) rfl).mp c_35⟩
set_option maxHeartbeats 8000000 in
set_option maxRecDepth 100000 in
theorem c_Bm_begin_0 (l : Launch) (dC : Nat → ClassId) (dI : Nat → Nat → Nat) (cJ cI : ClassId) (sz : Nat) (m0 : Nat) (z0 z1 z2 z3 : Int32) (z4 z5 z6 z7 z8 z9 : Int64) (z10 : Int32) (a0 a1 a2 a3 a4 a5 a6 a7 a8 a9 b0 b1 oc b2 b3 b4 b5 : Nat) (kf sf vf : Nat → Int32)  (P G N : Nat) (hP7 : 7 ≤ P) (hP61 : P ≤ 2 ^ 61) (hR1 : nt_Rf P) (hR2 : nt_Rf ((P - 1) / 2)) (hN1 : 1 ≤ N) (hN4 : N ≤ 4) (hG2 : 2 ≤ G) (hGP : G < P) (hGQ : G ^ ((P - 1) / 2) % P = 1) : Met l y_Bm_begin w_Bm_begin ({ frames := 4, cells := 0, slots := 0, locals := 117 }) (va_Pc [.ref m0, .long (lN P), .long (lN G), .int (nI N)] (fun U => U.heap.size = sz ∧ va_P (dC, dI) classes (mo_ws m0 z0 z1 z2 z3 z4 z5 z6 z7 z8 z9 z10 a0 a1 a2 a3 a4 a5 a6 a7 a8 a9 b0 b1 oc b2 b3 b4 b5 ++ (iw_ws a4 cI 4 kf ++ (iw_ws a5 cI 4 sf ++ (iw_ws a6 cI 64 vf)))) U.heap ∧ va_K (dC, dI) classes [(cJ, .long), (cI, .int)] U ∧ va_D (fun _ => True) (mo_ws m0 z0 z1 z2 z3 z4 z5 z6 z7 z8 z9 z10 a0 a1 a2 a3 a4 a5 a6 a7 a8 a9 b0 b1 oc b2 b3 b4 b5 ++ (iw_ws a4 cI 4 kf ++ (iw_ws a5 cI 4 sf ++ (iw_ws a6 cI 64 vf)))))) (va_Ql (fun (r : Int64) (_ : Unit) => r = lN ((P - 1) / 2)) (fun _ t => va_P (dC, dI) classes (mo_ws m0 0 (nI N) 0 0 (lN P) (lN ((P - 1) / 2)) (lN G) 0 0 0 0 a0 a1 a2 a3 a4 a5 a6 a7 a8 a9 b0 b1 oc b2 b3 b4 b5 ++ (iw_ws a4 cI 4 (mf kf 4) ++ (iw_ws a5 cI 4 (mf sf 4) ++ (iw_ws a6 cI 64 (mf vf 64))))) t.heap ∧ va_K (dC, dI) classes [(cJ, .long), (cI, .int)] t ∧ va_D (va_A (mo_ws m0 z0 z1 z2 z3 z4 z5 z6 z7 z8 z9 z10 a0 a1 a2 a3 a4 a5 a6 a7 a8 a9 b0 b1 oc b2 b3 b4 b5 ++ (iw_ws a4 cI 4 kf ++ (iw_ws a5 cI 4 sf ++ (iw_ws a6 cI 64 vf)))) sz) (mo_ws m0 0 (nI N) 0 0 (lN P) (lN ((P - 1) / 2)) (lN G) 0 0 0 0 a0 a1 a2 a3 a4 a5 a6 a7 a8 a9 b0 b1 oc b2 b3 b4 b5 ++ (iw_ws a4 cI 4 (mf kf 4) ++ (iw_ws a5 cI 4 (mf sf 4) ++ (iw_ws a6 cI 64 (mf vf 64)))))) (va_A (mo_ws m0 z0 z1 z2 z3 z4 z5 z6 z7 z8 z9 z10 a0 a1 a2 a3 a4 a5 a6 a7 a8 a9 b0 b1 oc b2 b3 b4 b5 ++ (iw_ws a4 cI 4 kf ++ (iw_ws a5 cI 4 sf ++ (iw_ws a6 cI 64 vf)))) sz)) 0 0 (va_A (mo_ws m0 z0 z1 z2 z3 z4 z5 z6 z7 z8 z9 z10 a0 a1 a2 a3 a4 a5 a6 a7 a8 a9 b0 b1 oc b2 b3 b4 b5 ++ (iw_ws a4 cI 4 kf ++ (iw_ws a5 cI 4 sf ++ (iw_ws a6 cI 64 vf)))) sz) := by
  refine Met.ofW (cc := b_Bm_begin) (maxL := 8) (ret := (some .long)) (by decide) rfl ?_
  intro p e s m args below meth c s₁ Bd hml hv
  obtain ⟨rfl, hsz, hP, hK, hD0⟩ := hv
  have hx := Bd.exec
  have hb := Bd.bytes
  have hr := Bd.returns
  have hts := atoms_spec (ws := w_Bm_begin) Bd.pre
  have hown : s.vm.findClass "BallotBoardModel" = some m.cls := findClass_of_methodNamed Bd.named
  have hlocks := Bd.notSynchronized
  subst hsz
  have hD := hD0.self (sz := s.heap.size)
  generalize hAe : va_A (mo_ws m0 z0 z1 z2 z3 z4 z5 z6 z7 z8 z9 z10 a0 a1 a2 a3 a4 a5 a6 a7 a8 a9 b0 b1 oc b2 b3 b4 b5 ++ (iw_ws a4 cI 4 kf ++ (iw_ws a5 cI 4 sf ++ (iw_ws a6 cI 64 vf)))) s.heap.size = A at hD ⊢
  have hA : ∀ q : Nat, s.heap.size ≤ q → A q := fun q h => by rw [← hAe]; exact Or.inr h
  have hS : va_S A s.heap s.heap [] := va_S.rf
  have hl := lv_entry ([.ref m0, .long (lN P), .long (lN G), .int (nI N)]) (n := 8) (Nat.le_of_ble_eq_true rfl)
  rw [lg_entry_eq]
  generalize (lg_sl ([.ref m0, .long (lN P), .long (lN G), .int (nI N)]) ++ List.replicate (8 - (lg_sl ([.ref m0, .long (lN P), .long (lN G), .int (nI N)])).length) Slot.unset).toArray = ls at hl ⊢
  have hl : lv_has ls 8 [(0, .ref m0), (1, .long (lN P)), (3, .long (lN G)), (5, .int (nI N))] := hl
  have hPlt := nt_Rf_lt hR1 hP61
  refine lv_aload_n hx hb d_Bm_begin_0 rfl (lv_at hl 0 rfl) ?_
  refine lv_iconst (v := 0) hx hb d_Bm_begin_1 (by decide) ?_
  refine va_put (D := (dC, dI)) (ci := 8) (v := .int 0) (ty := .int) (C := "BallotBoardModel") (T := F_Bm) (N := 28) hx hb hts (fun w9 h9 => List.mem_cons_of_mem _ (i_Bm w9 h9)) t_Bm t_Bm_ok n_Bm hown hK hP hD hS 0 rfl rfl 0 (by decide) (hts _ (List.mem_cons_of_mem _ gk_919)) (fun _ h9 => h9) rfl (by decide +kernel) rfl rfl (Nat.le_of_ble_eq_true rfl) d_Bm_begin_2 (fun H locs hP hD hS => ?_)
  have hP : va_P (dC, dI) classes [(m0, .inr (8, [.int 0, .int z1, .int z2, .int z3, .long z4, .long z5, .long z6, .long z7, .long z8, .long z9, .int z10, .ref a0, .ref a1, .ref a2, .ref a3, .ref a4, .ref a5, .ref a6, .ref a7, .ref a8, .ref a9, .ref b0, .ref b1, .int (nI oc), .ref b2, .ref b3, .ref b4, .ref b5])), (a4, .inl (cI, 4, .inl kf)), (a5, .inl (cI, 4, .inl sf)), (a6, .inl (cI, 64, .inl vf))] H := hP
  have hD : va_D A [(m0, .inr (8, [.int 0, .int z1, .int z2, .int z3, .long z4, .long z5, .long z6, .long z7, .long z8, .long z9, .int z10, .ref a0, .ref a1, .ref a2, .ref a3, .ref a4, .ref a5, .ref a6, .ref a7, .ref a8, .ref a9, .ref b0, .ref b1, .int (nI oc), .ref b2, .ref b3, .ref b4, .ref b5])), (a4, .inl (cI, 4, .inl kf)), (a5, .inl (cI, 4, .inl sf)), (a6, .inl (cI, 64, .inl vf))] := hD
  refine lv_lload_n hx hb d_Bm_begin_5 rfl (lv_at hl 1 rfl) ?_
  refine lv_ldc2 (v := 7) hx hb hown (hts _ (List.mem_cons_of_mem _ gk_1012)) d_Bm_begin_6 ?_
  refine W.lcmp hx hb d_Bm_begin_9 ?_
  refine lv_if_lt (tgt := 55) hx hb d_Bm_begin_10 (by decide) (fun c_1 => ?_) (fun c_1 => ?_)
  · -- taken
    exact absurd ((ln_cmp_lt (b := 7) (by omega) (by omega)).mp c_1) (by omega)
  · -- not taken
    refine lv_lload_n hx hb d_Bm_begin_13 rfl (lv_at hl 1 rfl) ?_
    refine lv_ldc2 (v := 2305843009213693952) hx hb hown (hts _ (List.mem_cons_of_mem _ gk_1013)) d_Bm_begin_14 ?_
    refine W.lcmp hx hb d_Bm_begin_17 ?_
    refine lv_if_gt (tgt := 55) hx hb d_Bm_begin_18 (by decide) (fun c_2 => ?_) (fun c_2 => ?_)
    · -- taken
      exact absurd ((cmp_gt (by omega) 2305843009213693952 (by omega) c61).mp c_2) (by omega)
    · -- not taken
      refine lv_lload_n hx hb d_Bm_begin_21 rfl (lv_at hl 1 rfl) ?_
      refine va_calli (va_runS (As := [.long (lN P)]) (rest := []) ⟨hx, hb, hml, hown, hts⟩ (c_Bm_isPrime l H P (by omega)) (cwS 1 hts (gw_S gk_1014 gk_1015 gk_7 gk_1016) rfl rfl rfl (by decide +kernel) ⟨Nat.le_of_ble_eq_true rfl, Nat.le_of_ble_eq_true rfl⟩) ⟨fun a U g mk q => q, fun U hU hW => ⟨rfl, hU⟩⟩ rfl rfl hl.1 rfl (lv_room (Nat.le_of_ble_eq_true rfl)) d_Bm_begin_22 ⟨Nat.le_of_ble_eq_true rfl, Nat.le_of_ble_eq_true rfl⟩) hS (fun q _ h => h.elim) (fun q h => h.elim) (fun r22 u9 t9 H1 locs ht hvm hw hB hz1 hk1 hS => ?_)
      obtain rfl : H = H1 := hB.symm.trans ht
      have h22 : bz r22 (nt_Rf P) := hw
      refine lv_if_eq (tgt := 55) hx hb d_Bm_begin_25 (by decide) (fun c_3 => ?_) (fun c_3 => ?_)
      · -- taken
        exact absurd hR1 (bz_f h22 c_3)
      · -- not taken
        have bo22 := bz_t h22 c_3
        refine lv_lload_n hx hb d_Bm_begin_28 rfl (lv_at hl 1 rfl) ?_
        refine lv_lconst (v := 1) hx hb d_Bm_begin_29 (by decide) ?_
        refine lv_lsub hx hb d_Bm_begin_30 ?_
        rw [show ((lN P) - 1 : Int64) = (lN (P - 1)) from lN_sub (b := 1) (by omega)]
        refine lv_ldc2 (v := 2) hx hb hown (hts _ (List.mem_cons_of_mem _ gk_1017)) d_Bm_begin_31 ?_
        refine lv_ldiv hx hb d_Bm_begin_34 (by decide) ?_
        rw [show ((lN (P - 1)) / 2 : Int64) = (lN ((P - 1) / 2)) from pk_lDiv (b := 2) (by omega) (by omega) (by omega)]
        refine va_calli (va_runS (As := [.long (lN ((P - 1) / 2))]) (rest := []) ⟨hx, hb, hml, hown, hts⟩ (c_Bm_isPrime l H ((P - 1) / 2) (by omega)) (cwS 1 hts (gw_S gk_1014 gk_1015 gk_7 gk_1016) rfl rfl rfl (by decide +kernel) ⟨Nat.le_of_ble_eq_true rfl, Nat.le_of_ble_eq_true rfl⟩) ⟨fun a U g mk q => q, fun U hU hW => ⟨rfl, hU⟩⟩ rfl rfl hl.1 rfl (lv_room (Nat.le_of_ble_eq_true rfl)) d_Bm_begin_35 ⟨Nat.le_of_ble_eq_true rfl, Nat.le_of_ble_eq_true rfl⟩) hS (fun q _ h => h.elim) (fun q h => h.elim) (fun r35 u9 t9 H1 locs ht hvm hw hB hz1 hk1 hS => ?_)
        obtain rfl : H = H1 := hB.symm.trans ht
        have h35 : bz r35 (nt_Rf ((P - 1) / 2)) := hw
        refine lv_if_eq (tgt := 55) hx hb d_Bm_begin_38 (by decide) (fun c_4 => ?_) (fun c_4 => ?_)
        · -- taken
          exact absurd hR2 (bz_f h35 c_4)
        · -- not taken
          have bo35 := bz_t h35 c_4
          refine lv_iload hx hb d_Bm_begin_41 (lv_at hl 3 rfl) ?_
          refine lv_iconst (v := 1) hx hb d_Bm_begin_43 (by decide) ?_
          refine lv_iconst (v := 4) hx hb d_Bm_begin_44 (by decide) ?_
          refine va_calli (va_runS (As := [.int (nI N), .int 1, .int 4]) (rest := []) ⟨hx, hb, hml, hown, hts⟩ (c_Bm_in l H (nI N) 1 4) (cwS 3 hts (gw_S gk_1027 gk_1028 gk_7 gk_1029) rfl rfl rfl (by decide +kernel) ⟨Nat.le_of_ble_eq_true rfl, Nat.le_of_ble_eq_true rfl⟩) ⟨fun a U g mk q => q, fun U hU hW => ⟨rfl, hU⟩⟩ rfl rfl hl.1 rfl (lv_room (Nat.le_of_ble_eq_true rfl)) d_Bm_begin_45 ⟨Nat.le_of_ble_eq_true rfl, Nat.le_of_ble_eq_true rfl⟩) hS (fun q _ h => h.elim) (fun q h => h.elim) (fun r45 u9 t9 H1 locs ht hvm hw hB hz1 hk1 hS => ?_)
          obtain rfl : H = H1 := hB.symm.trans ht
          have h45 : bz r45 (∃ N9, (nI N) = nI N9 ∧ 1 ≤ N9 ∧ N9 ≤ 4) := bz_in14 hw
          refine lv_if_eq (tgt := 55) hx hb d_Bm_begin_48 (by decide) (fun c_5 => ?_) (fun c_5 => ?_)
          · -- taken
            exact absurd ⟨N, rfl, hN1, hN4⟩ (bz_f h45 c_5)
          · -- not taken
            have bo45 := bz_t h45 c_5
            refine lv_iconst (v := 1) hx hb d_Bm_begin_51 (by decide) ?_
            refine lv_goto (tgt := 56) hx hb d_Bm_begin_52 (by decide) ?_
            refine lv_istore (lv' := [(6, .int 1), (0, .ref m0), (1, .long (lN P)), (3, .long (lN G)), (5, .int (nI N))]) hx hb d_Bm_begin_56 hl (by decide) rfl (fun ls hl => ?_)
            refine lv_iload hx hb d_Bm_begin_58 (lv_at hl 0 rfl) ?_
            refine lv_if_eq (tgt := 99) hx hb d_Bm_begin_60 (by decide) (fun c_6 => ?_) (fun c_6 => ?_)
            · -- taken
              exact absurd c_6 (by decide)
            · -- not taken
              refine lv_lload_n hx hb d_Bm_begin_63 rfl (lv_at hl 3 rfl) ?_
              refine lv_lconst (v := 1) hx hb d_Bm_begin_64 (by decide) ?_
              refine W.lcmp hx hb d_Bm_begin_65 ?_
              refine lv_if_le (tgt := 96) hx hb d_Bm_begin_66 (by decide) (fun c_7 => ?_) (fun c_7 => ?_)
              · -- taken
                exfalso
                have h9 : lg_cmp (lN G) 1 ≤ 0 := c_7
                rcases Int32.le_iff_lt_or_eq.mp h9 with h8 | h8
                · exact absurd ((ln_lt1 (by omega)).mp h8) (by omega)
                · exact absurd ((cmpe (by omega) 1 (by omega) rfl).mp h8) (by omega)
              · -- not taken
                refine lv_lload_n hx hb d_Bm_begin_69 rfl (lv_at hl 3 rfl) ?_
                refine lv_lload_n hx hb d_Bm_begin_70 rfl (lv_at hl 2 rfl) ?_
                refine W.lcmp hx hb d_Bm_begin_71 ?_
                refine lv_if_ge (tgt := 96) hx hb d_Bm_begin_72 (by decide) (fun c_8 => ?_) (fun c_8 => ?_)
                · -- taken
                  exact absurd ((cmpge (by omega) P (by omega)).mp c_8) (by omega)
                · -- not taken
                  refine lv_lload_n hx hb d_Bm_begin_75 rfl (lv_at hl 3 rfl) ?_
                  refine lv_lload_n hx hb d_Bm_begin_76 rfl (lv_at hl 2 rfl) ?_
                  refine lv_lconst (v := 1) hx hb d_Bm_begin_77 (by decide) ?_
                  refine lv_lsub hx hb d_Bm_begin_78 ?_
                  rw [show ((lN P) - 1 : Int64) = (lN (P - 1)) from lN_sub (b := 1) (by omega)]
                  refine lv_ldc2 (v := 2) hx hb hown (hts _ (List.mem_cons_of_mem _ gk_1017)) d_Bm_begin_79 ?_
                  refine lv_ldiv hx hb d_Bm_begin_82 (by decide) ?_
                  rw [show ((lN (P - 1)) / 2 : Int64) = (lN ((P - 1) / 2)) from pk_lDiv (b := 2) (by omega) (by omega) (by omega)]
                  refine lv_lload_n hx hb d_Bm_begin_83 rfl (lv_at hl 2 rfl) ?_
                  refine va_calll (va_runS (As := [.long (lN G), .long (lN ((P - 1) / 2)), .long (lN P)]) (rest := []) ⟨hx, hb, hml, hown, hts⟩ (c_Bm_power l H G ((P - 1) / 2) P hGP (by omega) (by omega)) (cwS 3 hts (gw_S gk_1018 gk_1019 gk_7 gk_1020) rfl rfl rfl (by decide +kernel) ⟨Nat.le_of_ble_eq_true rfl, Nat.le_of_ble_eq_true rfl⟩) ⟨fun a U g mk q => q, fun U hU hW => ⟨rfl, hU⟩⟩ rfl rfl hl.1 rfl (lv_room (Nat.le_of_ble_eq_true rfl)) d_Bm_begin_84 ⟨Nat.le_of_ble_eq_true rfl, Nat.le_of_ble_eq_true rfl⟩) hS (fun q _ h => h.elim) (fun q h => h.elim) (fun r84 u9 t9 H1 locs ht hvm hw hB hz1 hk1 hS => ?_)
                  obtain rfl : H = H1 := hB.symm.trans ht
                  have hw : r84 = lN (G ^ ((P - 1) / 2) % P) := hw
                  subst hw
                  refine lv_lconst (v := 1) hx hb d_Bm_begin_87 (by decide) ?_
                  refine W.lcmp hx hb d_Bm_begin_88 ?_
                  refine lv_if_ne (tgt := 96) hx hb d_Bm_begin_89 (by decide) (fun c_9 => ?_) (fun c_9 => ?_)
                  · -- taken
                    exact absurd ((cmpe (Nat.lt_trans (Nat.mod_lt _ (by omega)) (by omega)) 1 (by omega) rfl).mpr hGQ) c_9
                  · -- not taken
                    refine lv_iconst (v := 1) hx hb d_Bm_begin_92 (by decide) ?_
                    refine lv_goto (tgt := 97) hx hb d_Bm_begin_93 (by decide) ?_
                    refine lv_istore (lv' := [(6, .int 1), (0, .ref m0), (1, .long (lN P)), (3, .long (lN G)), (5, .int (nI N))]) hx hb d_Bm_begin_97 hl (by decide) rfl (fun ls hl => ?_)
                    refine lv_aload_n hx hb d_Bm_begin_99 rfl (lv_at hl 1 rfl) ?_
                    refine lv_iload hx hb d_Bm_begin_100 (lv_at hl 0 rfl) ?_
                    refine lv_if_ne (tgt := 109) hx hb d_Bm_begin_102 (by decide) (fun c_10 => ?_) (fun c_10 => ?_)
                    · -- taken
                      refine lv_iconst (v := 0) hx hb d_Bm_begin_109 (by decide) ?_
                      refine lv_iconst (v := 1) hx hb d_Bm_begin_110 (by decide) ?_
                      have hPc := hP.sub (ws' := (mo_ws m0 0 z1 z2 z3 z4 z5 z6 z7 z8 z9 z10 a0 a1 a2 a3 a4 a5 a6 a7 a8 a9 b0 b1 oc b2 b3 b4 b5)) [0] rfl
                      have hDc := hD.sub (ws' := (mo_ws m0 0 z1 z2 z3 z4 z5 z6 z7 z8 z9 z10 a0 a1 a2 a3 a4 a5 a6 a7 a8 a9 b0 b1 oc b2 b3 b4 b5)) [0] (by decide) rfl
                      have hKc := hK.sub (tys' := [(cJ, .long), (cI, .int)]) [0, 1] rfl
                      have hFc := va_free (wc := (mo_ws m0 0 z1 z2 z3 z4 z5 z6 z7 z8 z9 z10 a0 a1 a2 a3 a4 a5 a6 a7 a8 a9 b0 b1 oc b2 b3 b4 b5)) hD hS hA [0] rfl
                      refine va_calli (va_runV (As := [.int 0, .int 1]) (rest := []) ⟨hx, hb, hml, hown, hts⟩ (c_Bm_fails_0 l dC dI cJ cI H.size m0 z1 z2 z3 z4 z5 z6 z7 z8 z9 z10 a0 a1 a2 a3 a4 a5 a6 a7 a8 a9 b0 b1 oc b2 b3 b4 b5 1) (cwV 2 hts (gw_V gk_1030 gk_1032 gp_27 gk_7 gk_1033) rfl rfl rfl (by decide +kernel) ⟨Nat.le_of_ble_eq_true rfl, Nat.le_of_ble_eq_true rfl⟩) ⟨fun a U g mk q => by obtain ⟨q0, q1, qP, qK, qD⟩ := q; exact ⟨q0, q1, qP, va_K.moved (u := U) (U := U.calling g mk a) (Vm.Alike.refl U.vm) qK, qD⟩, va_recv hK hP (ci := 8) (q0 := 0) rfl rfl, fun U hU hW => ⟨rfl, by rw [hU], by rw [hU]; exact hPc, va_K.moved hW.alike hKc, hDc.weaken (fun _ _ _ _ => trivial)⟩⟩ rfl rfl hl.1 rfl (lv_room (Nat.le_of_ble_eq_true rfl)) d_Bm_begin_111 ⟨Nat.le_of_ble_eq_true rfl, Nat.le_of_ble_eq_true rfl⟩) hS (fun q _ h => hFc q h) hFc (fun r_11 u9 t9 H1 locs ht hvm hw hB hz1 hk1 hS => ?_)
                      have hw : r_11 = 0 := hw
                      subst hw
                      obtain ⟨hP1, hK1, hD1⟩ := hB
                      rw [ht] at hP1
                      obtain ⟨hP, hD⟩ := va_join (wr := [(a4, .inl (cI, 4, .inl kf)), (a5, .inl (cI, 4, .inl sf)), (a6, .inl (cI, 64, .inl vf))]) (w1 := [(m0, .inr (8, [.int 0, .int z1, .int z2, .int z3, .long z4, .long z5, .long z6, .long z7, .long z8, .long z9, .int z10, .ref a0, .ref a1, .ref a2, .ref a3, .ref a4, .ref a5, .ref a6, .ref a7, .ref a8, .ref a9, .ref b0, .ref b1, .int (nI oc), .ref b2, .ref b3, .ref b4, .ref b5]))]) hP hD [0] [1, 2, 3] rfl rfl (by decide) (by decide) hk1 hFc hP1 hD1
                      have hP := hP.sub (ws' := [(m0, .inr (8, [.int 0, .int z1, .int z2, .int z3, .long z4, .long z5, .long z6, .long z7, .long z8, .long z9, .int z10, .ref a0, .ref a1, .ref a2, .ref a3, .ref a4, .ref a5, .ref a6, .ref a7, .ref a8, .ref a9, .ref b0, .ref b1, .int (nI oc), .ref b2, .ref b3, .ref b4, .ref b5])), (a4, .inl (cI, 4, .inl kf)), (a5, .inl (cI, 4, .inl sf)), (a6, .inl (cI, 64, .inl vf))]) [3, 0, 1, 2] rfl
                      have hD := hD.sub (ws' := [(m0, .inr (8, [.int 0, .int z1, .int z2, .int z3, .long z4, .long z5, .long z6, .long z7, .long z8, .long z9, .int z10, .ref a0, .ref a1, .ref a2, .ref a3, .ref a4, .ref a5, .ref a6, .ref a7, .ref a8, .ref a9, .ref b0, .ref b1, .int (nI oc), .ref b2, .ref b3, .ref b4, .ref b5])), (a4, .inl (cI, 4, .inl kf)), (a5, .inl (cI, 4, .inl sf)), (a6, .inl (cI, 64, .inl vf))]) [3, 0, 1, 2] (by decide) rfl
                      generalize H1 = H at hP hS ⊢
                      refine lv_if_eq (tgt := 119) hx hb d_Bm_begin_114 (by decide) (fun c_12 => ?_) (fun c_12 => ?_)
                      · -- taken
                        refine lv_aload_n hx hb d_Bm_begin_119 rfl (lv_at hl 1 rfl) ?_
                        refine lv_lload_n hx hb d_Bm_begin_120 rfl (lv_at hl 2 rfl) ?_
                        refine va_put (D := (dC, dI)) (ci := 8) (v := .long (lN P)) (ty := .long) (C := "BallotBoardModel") (T := F_Bm) (N := 28) hx hb hts (fun w9 h9 => List.mem_cons_of_mem _ (i_Bm w9 h9)) t_Bm t_Bm_ok n_Bm hown hK hP hD hS 0 rfl rfl 4 (by decide) (hts _ (List.mem_cons_of_mem _ gk_923)) (fun _ h9 => h9) rfl (by decide +kernel) rfl rfl (Nat.le_of_ble_eq_true rfl) d_Bm_begin_121 (fun H locs hP hD hS => ?_)
                        have hP : va_P (dC, dI) classes [(m0, .inr (8, [.int 0, .int z1, .int z2, .int z3, .long (lN P), .long z5, .long z6, .long z7, .long z8, .long z9, .int z10, .ref a0, .ref a1, .ref a2, .ref a3, .ref a4, .ref a5, .ref a6, .ref a7, .ref a8, .ref a9, .ref b0, .ref b1, .int (nI oc), .ref b2, .ref b3, .ref b4, .ref b5])), (a4, .inl (cI, 4, .inl kf)), (a5, .inl (cI, 4, .inl sf)), (a6, .inl (cI, 64, .inl vf))] H := hP
                        have hD : va_D A [(m0, .inr (8, [.int 0, .int z1, .int z2, .int z3, .long (lN P), .long z5, .long z6, .long z7, .long z8, .long z9, .int z10, .ref a0, .ref a1, .ref a2, .ref a3, .ref a4, .ref a5, .ref a6, .ref a7, .ref a8, .ref a9, .ref b0, .ref b1, .int (nI oc), .ref b2, .ref b3, .ref b4, .ref b5])), (a4, .inl (cI, 4, .inl kf)), (a5, .inl (cI, 4, .inl sf)), (a6, .inl (cI, 64, .inl vf))] := hD
                        refine lv_aload_n hx hb d_Bm_begin_124 rfl (lv_at hl 1 rfl) ?_
                        refine lv_aload_n hx hb d_Bm_begin_125 rfl (lv_at hl 1 rfl) ?_
                        refine va_get (D := (dC, dI)) (ci := 8) (v := .long (lN P)) (C := "BallotBoardModel") (T := F_Bm) (N := 28) hx hb hts (fun w9 h9 => List.mem_cons_of_mem _ (i_Bm w9 h9)) hown hK hP 0 rfl rfl 4 (by decide) (hts _ (List.mem_cons_of_mem _ gk_923)) (fun _ h9 => h9) rfl d_Bm_begin_126 ?_
                        refine lv_lconst (v := 1) hx hb d_Bm_begin_129 (by decide) ?_
                        refine lv_lsub hx hb d_Bm_begin_130 ?_
                        rw [show ((lN P) - 1 : Int64) = (lN (P - 1)) from lN_sub (b := 1) (by omega)]
                        refine lv_ldc2 (v := 2) hx hb hown (hts _ (List.mem_cons_of_mem _ gk_1017)) d_Bm_begin_131 ?_
                        refine lv_ldiv hx hb d_Bm_begin_134 (by decide) ?_
                        rw [show ((lN (P - 1)) / 2 : Int64) = (lN ((P - 1) / 2)) from pk_lDiv (b := 2) (by omega) (by omega) (by omega)]
                        refine va_put (D := (dC, dI)) (ci := 8) (v := .long (lN ((P - 1) / 2))) (ty := .long) (C := "BallotBoardModel") (T := F_Bm) (N := 28) hx hb hts (fun w9 h9 => List.mem_cons_of_mem _ (i_Bm w9 h9)) t_Bm t_Bm_ok n_Bm hown hK hP hD hS 0 rfl rfl 5 (by decide) (hts _ (List.mem_cons_of_mem _ gk_924)) (fun _ h9 => h9) rfl (by decide +kernel) rfl rfl (Nat.le_of_ble_eq_true rfl) d_Bm_begin_135 (fun H locs hP hD hS => ?_)
                        have hP : va_P (dC, dI) classes [(m0, .inr (8, [.int 0, .int z1, .int z2, .int z3, .long (lN P), .long (lN ((P - 1) / 2)), .long z6, .long z7, .long z8, .long z9, .int z10, .ref a0, .ref a1, .ref a2, .ref a3, .ref a4, .ref a5, .ref a6, .ref a7, .ref a8, .ref a9, .ref b0, .ref b1, .int (nI oc), .ref b2, .ref b3, .ref b4, .ref b5])), (a4, .inl (cI, 4, .inl kf)), (a5, .inl (cI, 4, .inl sf)), (a6, .inl (cI, 64, .inl vf))] H := hP
                        have hD : va_D A [(m0, .inr (8, [.int 0, .int z1, .int z2, .int z3, .long (lN P), .long (lN ((P - 1) / 2)), .long z6, .long z7, .long z8, .long z9, .int z10, .ref a0, .ref a1, .ref a2, .ref a3, .ref a4, .ref a5, .ref a6, .ref a7, .ref a8, .ref a9, .ref b0, .ref b1, .int (nI oc), .ref b2, .ref b3, .ref b4, .ref b5])), (a4, .inl (cI, 4, .inl kf)), (a5, .inl (cI, 4, .inl sf)), (a6, .inl (cI, 64, .inl vf))] := hD
                        refine lv_aload_n hx hb d_Bm_begin_138 rfl (lv_at hl 1 rfl) ?_
                        refine lv_lload_n hx hb d_Bm_begin_139 rfl (lv_at hl 3 rfl) ?_
                        refine va_put (D := (dC, dI)) (ci := 8) (v := .long (lN G)) (ty := .long) (C := "BallotBoardModel") (T := F_Bm) (N := 28) hx hb hts (fun w9 h9 => List.mem_cons_of_mem _ (i_Bm w9 h9)) t_Bm t_Bm_ok n_Bm hown hK hP hD hS 0 rfl rfl 6 (by decide) (hts _ (List.mem_cons_of_mem _ gk_925)) (fun _ h9 => h9) rfl (by decide +kernel) rfl rfl (Nat.le_of_ble_eq_true rfl) d_Bm_begin_140 (fun H locs hP hD hS => ?_)
                        have hP : va_P (dC, dI) classes [(m0, .inr (8, [.int 0, .int z1, .int z2, .int z3, .long (lN P), .long (lN ((P - 1) / 2)), .long (lN G), .long z7, .long z8, .long z9, .int z10, .ref a0, .ref a1, .ref a2, .ref a3, .ref a4, .ref a5, .ref a6, .ref a7, .ref a8, .ref a9, .ref b0, .ref b1, .int (nI oc), .ref b2, .ref b3, .ref b4, .ref b5])), (a4, .inl (cI, 4, .inl kf)), (a5, .inl (cI, 4, .inl sf)), (a6, .inl (cI, 64, .inl vf))] H := hP
                        have hD : va_D A [(m0, .inr (8, [.int 0, .int z1, .int z2, .int z3, .long (lN P), .long (lN ((P - 1) / 2)), .long (lN G), .long z7, .long z8, .long z9, .int z10, .ref a0, .ref a1, .ref a2, .ref a3, .ref a4, .ref a5, .ref a6, .ref a7, .ref a8, .ref a9, .ref b0, .ref b1, .int (nI oc), .ref b2, .ref b3, .ref b4, .ref b5])), (a4, .inl (cI, 4, .inl kf)), (a5, .inl (cI, 4, .inl sf)), (a6, .inl (cI, 64, .inl vf))] := hD
                        refine lv_aload_n hx hb d_Bm_begin_143 rfl (lv_at hl 1 rfl) ?_
                        refine lv_iload hx hb d_Bm_begin_144 (lv_at hl 4 rfl) ?_
                        refine va_put (D := (dC, dI)) (ci := 8) (v := .int (nI N)) (ty := .int) (C := "BallotBoardModel") (T := F_Bm) (N := 28) hx hb hts (fun w9 h9 => List.mem_cons_of_mem _ (i_Bm w9 h9)) t_Bm t_Bm_ok n_Bm hown hK hP hD hS 0 rfl rfl 1 (by decide) (hts _ (List.mem_cons_of_mem _ gk_920)) (fun _ h9 => h9) rfl (by decide +kernel) rfl rfl (Nat.le_of_ble_eq_true rfl) d_Bm_begin_146 (fun H locs hP hD hS => ?_)
                        have hP : va_P (dC, dI) classes [(m0, .inr (8, [.int 0, .int (nI N), .int z2, .int z3, .long (lN P), .long (lN ((P - 1) / 2)), .long (lN G), .long z7, .long z8, .long z9, .int z10, .ref a0, .ref a1, .ref a2, .ref a3, .ref a4, .ref a5, .ref a6, .ref a7, .ref a8, .ref a9, .ref b0, .ref b1, .int (nI oc), .ref b2, .ref b3, .ref b4, .ref b5])), (a4, .inl (cI, 4, .inl kf)), (a5, .inl (cI, 4, .inl sf)), (a6, .inl (cI, 64, .inl vf))] H := hP
                        have hD : va_D A [(m0, .inr (8, [.int 0, .int (nI N), .int z2, .int z3, .long (lN P), .long (lN ((P - 1) / 2)), .long (lN G), .long z7, .long z8, .long z9, .int z10, .ref a0, .ref a1, .ref a2, .ref a3, .ref a4, .ref a5, .ref a6, .ref a7, .ref a8, .ref a9, .ref b0, .ref b1, .int (nI oc), .ref b2, .ref b3, .ref b4, .ref b5])), (a4, .inl (cI, 4, .inl kf)), (a5, .inl (cI, 4, .inl sf)), (a6, .inl (cI, 64, .inl vf))] := hD
                        refine lv_aload_n hx hb d_Bm_begin_149 rfl (lv_at hl 1 rfl) ?_
                        refine lv_iconst (v := 0) hx hb d_Bm_begin_150 (by decide) ?_
                        refine va_put (D := (dC, dI)) (ci := 8) (v := .int 0) (ty := .int) (C := "BallotBoardModel") (T := F_Bm) (N := 28) hx hb hts (fun w9 h9 => List.mem_cons_of_mem _ (i_Bm w9 h9)) t_Bm t_Bm_ok n_Bm hown hK hP hD hS 0 rfl rfl 2 (by decide) (hts _ (List.mem_cons_of_mem _ gk_921)) (fun _ h9 => h9) rfl (by decide +kernel) rfl rfl (Nat.le_of_ble_eq_true rfl) d_Bm_begin_151 (fun H locs hP hD hS => ?_)
                        have hP : va_P (dC, dI) classes [(m0, .inr (8, [.int 0, .int (nI N), .int 0, .int z3, .long (lN P), .long (lN ((P - 1) / 2)), .long (lN G), .long z7, .long z8, .long z9, .int z10, .ref a0, .ref a1, .ref a2, .ref a3, .ref a4, .ref a5, .ref a6, .ref a7, .ref a8, .ref a9, .ref b0, .ref b1, .int (nI oc), .ref b2, .ref b3, .ref b4, .ref b5])), (a4, .inl (cI, 4, .inl kf)), (a5, .inl (cI, 4, .inl sf)), (a6, .inl (cI, 64, .inl vf))] H := hP
                        have hD : va_D A [(m0, .inr (8, [.int 0, .int (nI N), .int 0, .int z3, .long (lN P), .long (lN ((P - 1) / 2)), .long (lN G), .long z7, .long z8, .long z9, .int z10, .ref a0, .ref a1, .ref a2, .ref a3, .ref a4, .ref a5, .ref a6, .ref a7, .ref a8, .ref a9, .ref b0, .ref b1, .int (nI oc), .ref b2, .ref b3, .ref b4, .ref b5])), (a4, .inl (cI, 4, .inl kf)), (a5, .inl (cI, 4, .inl sf)), (a6, .inl (cI, 64, .inl vf))] := hD
                        refine lv_aload_n hx hb d_Bm_begin_154 rfl (lv_at hl 1 rfl) ?_
                        refine lv_iconst (v := 0) hx hb d_Bm_begin_155 (by decide) ?_
                        refine va_put (D := (dC, dI)) (ci := 8) (v := .int 0) (ty := .int) (C := "BallotBoardModel") (T := F_Bm) (N := 28) hx hb hts (fun w9 h9 => List.mem_cons_of_mem _ (i_Bm w9 h9)) t_Bm t_Bm_ok n_Bm hown hK hP hD hS 0 rfl rfl 3 (by decide) (hts _ (List.mem_cons_of_mem _ gk_922)) (fun _ h9 => h9) rfl (by decide +kernel) rfl rfl (Nat.le_of_ble_eq_true rfl) d_Bm_begin_156 (fun H locs hP hD hS => ?_)
                        have hP : va_P (dC, dI) classes [(m0, .inr (8, [.int 0, .int (nI N), .int 0, .int 0, .long (lN P), .long (lN ((P - 1) / 2)), .long (lN G), .long z7, .long z8, .long z9, .int z10, .ref a0, .ref a1, .ref a2, .ref a3, .ref a4, .ref a5, .ref a6, .ref a7, .ref a8, .ref a9, .ref b0, .ref b1, .int (nI oc), .ref b2, .ref b3, .ref b4, .ref b5])), (a4, .inl (cI, 4, .inl kf)), (a5, .inl (cI, 4, .inl sf)), (a6, .inl (cI, 64, .inl vf))] H := hP
                        have hD : va_D A [(m0, .inr (8, [.int 0, .int (nI N), .int 0, .int 0, .long (lN P), .long (lN ((P - 1) / 2)), .long (lN G), .long z7, .long z8, .long z9, .int z10, .ref a0, .ref a1, .ref a2, .ref a3, .ref a4, .ref a5, .ref a6, .ref a7, .ref a8, .ref a9, .ref b0, .ref b1, .int (nI oc), .ref b2, .ref b3, .ref b4, .ref b5])), (a4, .inl (cI, 4, .inl kf)), (a5, .inl (cI, 4, .inl sf)), (a6, .inl (cI, 64, .inl vf))] := hD
                        refine lv_aload_n hx hb d_Bm_begin_159 rfl (lv_at hl 1 rfl) ?_
                        refine lv_iconst (v := 0) hx hb d_Bm_begin_160 (by decide) ?_
                        refine va_put (D := (dC, dI)) (ci := 8) (v := .int 0) (ty := .boolean) (C := "BallotBoardModel") (T := F_Bm) (N := 28) hx hb hts (fun w9 h9 => List.mem_cons_of_mem _ (i_Bm w9 h9)) t_Bm t_Bm_ok n_Bm hown hK hP hD hS 0 rfl rfl 10 (by decide) (hts _ (List.mem_cons_of_mem _ gk_929)) (fun _ h9 => h9) rfl (by decide +kernel) rfl rfl (Nat.le_of_ble_eq_true rfl) d_Bm_begin_161 (fun H locs hP hD hS => ?_)
                        have hP : va_P (dC, dI) classes [(m0, .inr (8, [.int 0, .int (nI N), .int 0, .int 0, .long (lN P), .long (lN ((P - 1) / 2)), .long (lN G), .long z7, .long z8, .long z9, .int 0, .ref a0, .ref a1, .ref a2, .ref a3, .ref a4, .ref a5, .ref a6, .ref a7, .ref a8, .ref a9, .ref b0, .ref b1, .int (nI oc), .ref b2, .ref b3, .ref b4, .ref b5])), (a4, .inl (cI, 4, .inl kf)), (a5, .inl (cI, 4, .inl sf)), (a6, .inl (cI, 64, .inl vf))] H := hP
                        have hD : va_D A [(m0, .inr (8, [.int 0, .int (nI N), .int 0, .int 0, .long (lN P), .long (lN ((P - 1) / 2)), .long (lN G), .long z7, .long z8, .long z9, .int 0, .ref a0, .ref a1, .ref a2, .ref a3, .ref a4, .ref a5, .ref a6, .ref a7, .ref a8, .ref a9, .ref b0, .ref b1, .int (nI oc), .ref b2, .ref b3, .ref b4, .ref b5])), (a4, .inl (cI, 4, .inl kf)), (a5, .inl (cI, 4, .inl sf)), (a6, .inl (cI, 64, .inl vf))] := hD
                        refine lv_aload_n hx hb d_Bm_begin_164 rfl (lv_at hl 1 rfl) ?_
                        refine lv_lconst (v := 0) hx hb d_Bm_begin_165 (by decide) ?_
                        refine va_put (D := (dC, dI)) (ci := 8) (v := .long 0) (ty := .long) (C := "BallotBoardModel") (T := F_Bm) (N := 28) hx hb hts (fun w9 h9 => List.mem_cons_of_mem _ (i_Bm w9 h9)) t_Bm t_Bm_ok n_Bm hown hK hP hD hS 0 rfl rfl 7 (by decide) (hts _ (List.mem_cons_of_mem _ gk_926)) (fun _ h9 => h9) rfl (by decide +kernel) rfl rfl (Nat.le_of_ble_eq_true rfl) d_Bm_begin_166 (fun H locs hP hD hS => ?_)
                        have hP : va_P (dC, dI) classes [(m0, .inr (8, [.int 0, .int (nI N), .int 0, .int 0, .long (lN P), .long (lN ((P - 1) / 2)), .long (lN G), .long 0, .long z8, .long z9, .int 0, .ref a0, .ref a1, .ref a2, .ref a3, .ref a4, .ref a5, .ref a6, .ref a7, .ref a8, .ref a9, .ref b0, .ref b1, .int (nI oc), .ref b2, .ref b3, .ref b4, .ref b5])), (a4, .inl (cI, 4, .inl kf)), (a5, .inl (cI, 4, .inl sf)), (a6, .inl (cI, 64, .inl vf))] H := hP
                        have hD : va_D A [(m0, .inr (8, [.int 0, .int (nI N), .int 0, .int 0, .long (lN P), .long (lN ((P - 1) / 2)), .long (lN G), .long 0, .long z8, .long z9, .int 0, .ref a0, .ref a1, .ref a2, .ref a3, .ref a4, .ref a5, .ref a6, .ref a7, .ref a8, .ref a9, .ref b0, .ref b1, .int (nI oc), .ref b2, .ref b3, .ref b4, .ref b5])), (a4, .inl (cI, 4, .inl kf)), (a5, .inl (cI, 4, .inl sf)), (a6, .inl (cI, 64, .inl vf))] := hD
                        refine lv_aload_n hx hb d_Bm_begin_169 rfl (lv_at hl 1 rfl) ?_
                        refine lv_lconst (v := 0) hx hb d_Bm_begin_170 (by decide) ?_
                        refine va_put (D := (dC, dI)) (ci := 8) (v := .long 0) (ty := .long) (C := "BallotBoardModel") (T := F_Bm) (N := 28) hx hb hts (fun w9 h9 => List.mem_cons_of_mem _ (i_Bm w9 h9)) t_Bm t_Bm_ok n_Bm hown hK hP hD hS 0 rfl rfl 8 (by decide) (hts _ (List.mem_cons_of_mem _ gk_927)) (fun _ h9 => h9) rfl (by decide +kernel) rfl rfl (Nat.le_of_ble_eq_true rfl) d_Bm_begin_171 (fun H locs hP hD hS => ?_)
                        have hP : va_P (dC, dI) classes [(m0, .inr (8, [.int 0, .int (nI N), .int 0, .int 0, .long (lN P), .long (lN ((P - 1) / 2)), .long (lN G), .long 0, .long 0, .long z9, .int 0, .ref a0, .ref a1, .ref a2, .ref a3, .ref a4, .ref a5, .ref a6, .ref a7, .ref a8, .ref a9, .ref b0, .ref b1, .int (nI oc), .ref b2, .ref b3, .ref b4, .ref b5])), (a4, .inl (cI, 4, .inl kf)), (a5, .inl (cI, 4, .inl sf)), (a6, .inl (cI, 64, .inl vf))] H := hP
                        have hD : va_D A [(m0, .inr (8, [.int 0, .int (nI N), .int 0, .int 0, .long (lN P), .long (lN ((P - 1) / 2)), .long (lN G), .long 0, .long 0, .long z9, .int 0, .ref a0, .ref a1, .ref a2, .ref a3, .ref a4, .ref a5, .ref a6, .ref a7, .ref a8, .ref a9, .ref b0, .ref b1, .int (nI oc), .ref b2, .ref b3, .ref b4, .ref b5])), (a4, .inl (cI, 4, .inl kf)), (a5, .inl (cI, 4, .inl sf)), (a6, .inl (cI, 64, .inl vf))] := hD
                        refine lv_aload_n hx hb d_Bm_begin_174 rfl (lv_at hl 1 rfl) ?_
                        refine lv_lconst (v := 0) hx hb d_Bm_begin_175 (by decide) ?_
                        refine va_put (D := (dC, dI)) (ci := 8) (v := .long 0) (ty := .long) (C := "BallotBoardModel") (T := F_Bm) (N := 28) hx hb hts (fun w9 h9 => List.mem_cons_of_mem _ (i_Bm w9 h9)) t_Bm t_Bm_ok n_Bm hown hK hP hD hS 0 rfl rfl 9 (by decide) (hts _ (List.mem_cons_of_mem _ gk_928)) (fun _ h9 => h9) rfl (by decide +kernel) rfl rfl (Nat.le_of_ble_eq_true rfl) d_Bm_begin_176 (fun H locs hP hD hS => ?_)
                        have hP : va_P (dC, dI) classes [(m0, .inr (8, [.int 0, .int (nI N), .int 0, .int 0, .long (lN P), .long (lN ((P - 1) / 2)), .long (lN G), .long 0, .long 0, .long 0, .int 0, .ref a0, .ref a1, .ref a2, .ref a3, .ref a4, .ref a5, .ref a6, .ref a7, .ref a8, .ref a9, .ref b0, .ref b1, .int (nI oc), .ref b2, .ref b3, .ref b4, .ref b5])), (a4, .inl (cI, 4, .inl kf)), (a5, .inl (cI, 4, .inl sf)), (a6, .inl (cI, 64, .inl vf))] H := hP
                        have hD : va_D A [(m0, .inr (8, [.int 0, .int (nI N), .int 0, .int 0, .long (lN P), .long (lN ((P - 1) / 2)), .long (lN G), .long 0, .long 0, .long 0, .int 0, .ref a0, .ref a1, .ref a2, .ref a3, .ref a4, .ref a5, .ref a6, .ref a7, .ref a8, .ref a9, .ref b0, .ref b1, .int (nI oc), .ref b2, .ref b3, .ref b4, .ref b5])), (a4, .inl (cI, 4, .inl kf)), (a5, .inl (cI, 4, .inl sf)), (a6, .inl (cI, 64, .inl vf))] := hD
                        refine lv_iconst (v := 0) hx hb d_Bm_begin_179 (by decide) ?_
                        refine lv_istore (lv' := [(7, .int 0), (6, .int 1), (0, .ref m0), (1, .long (lN P)), (3, .long (lN G)), (5, .int (nI N))]) hx hb d_Bm_begin_180 hl (by decide) rfl (fun ls hl => ?_)
                        have loop1 : ∀ (j i : Nat), i + j = 4 → ∀ (H : Heap) (locs : List Loc), va_S A s.heap H locs → va_P (dC, dI) classes [(m0, .inr (8, [.int 0, .int (nI N), .int 0, .int 0, .long (lN P), .long (lN ((P - 1) / 2)), .long (lN G), .long 0, .long 0, .long 0, .int 0, .ref a0, .ref a1, .ref a2, .ref a3, .ref a4, .ref a5, .ref a6, .ref a7, .ref a8, .ref a9, .ref b0, .ref b1, .int (nI oc), .ref b2, .ref b3, .ref b4, .ref b5])), (a4, .inl (cI, 4, .inl (mf kf i))), (a5, .inl (cI, 4, .inl (mf sf i))), (a6, .inl (cI, 64, .inl vf))] H → va_D A [(m0, .inr (8, [.int 0, .int (nI N), .int 0, .int 0, .long (lN P), .long (lN ((P - 1) / 2)), .long (lN G), .long 0, .long 0, .long 0, .int 0, .ref a0, .ref a1, .ref a2, .ref a3, .ref a4, .ref a5, .ref a6, .ref a7, .ref a8, .ref a9, .ref b0, .ref b1, .int (nI oc), .ref b2, .ref b3, .ref b4, .ref b5])), (a4, .inl (cI, 4, .inl (mf kf i))), (a5, .inl (cI, 4, .inl (mf sf i))), (a6, .inl (cI, 64, .inl vf))] → ∀ (ls : Array Slot), lv_has ls 8 [(0, .ref m0), (1, .long (lN P)), (3, .long (lN G)), (5, .int (nI N)), (6, .int 1), (7, .int (nI i))] → W p l e ({ frames := 4, cells := 0, slots := 0, locals := 117 } : Room) s m ([.ref m0, .long (lN P), .long (lN G), .int (nI N)] : List Value).toArray below meth c H locs 0 0 (MQ below (va_Ql (fun (r : Int64) (_ : Unit) => r = lN ((P - 1) / 2)) (fun _ t => va_P (dC, dI) classes (mo_ws m0 0 (nI N) 0 0 (lN P) (lN ((P - 1) / 2)) (lN G) 0 0 0 0 a0 a1 a2 a3 a4 a5 a6 a7 a8 a9 b0 b1 oc b2 b3 b4 b5 ++ (iw_ws a4 cI 4 (mf kf 4) ++ (iw_ws a5 cI 4 (mf sf 4) ++ (iw_ws a6 cI 64 (mf vf 64))))) t.heap ∧ va_K (dC, dI) classes [(cJ, .long), (cI, .int)] t ∧ va_D A (mo_ws m0 0 (nI N) 0 0 (lN P) (lN ((P - 1) / 2)) (lN G) 0 0 0 0 a0 a1 a2 a3 a4 a5 a6 a7 a8 a9 b0 b1 oc b2 b3 b4 b5 ++ (iw_ws a4 cI 4 (mf kf 4) ++ (iw_ws a5 cI 4 (mf sf 4) ++ (iw_ws a6 cI 64 (mf vf 64)))))) A) ([.ref m0, .long (lN P), .long (lN G), .int (nI N)] : List Value).toArray s 0 0 A) (F0 m 182 ls []) := by
                          intro j
                          induction j using Nat.strongRecOn with
                          | ind j ih =>
                            intro i hij H locs hS hP hD ls hl
                            refine lv_iload hx hb d_Bm_begin_182 (lv_at hl 5 rfl) ?_
                            refine lv_iconst (v := 4) hx hb d_Bm_begin_184 (by decide) ?_
                            refine lv_icmp_ge (tgt := 210) hx hb d_Bm_begin_185 (by decide) (fun c_13 => ?_) (fun c_13 => ?_)
                            · -- taken
                              have hi9 : i = 4 := by
                                have := (ige 4 (by omega) (by omega) rfl).mp c_13
                                omega
                              rw [hi9] at hP hD
                              refine lv_iconst (v := 0) hx hb d_Bm_begin_210 (by decide) ?_
                              refine lv_istore (lv' := [(7, .int 0), (0, .ref m0), (1, .long (lN P)), (3, .long (lN G)), (5, .int (nI N)), (6, .int 1)]) hx hb d_Bm_begin_211 hl (by decide) rfl (fun ls hl => ?_)
                              have loop2 : ∀ (j i : Nat), i + j = 64 → ∀ (H : Heap) (locs : List Loc), va_S A s.heap H locs → va_P (dC, dI) classes [(m0, .inr (8, [.int 0, .int (nI N), .int 0, .int 0, .long (lN P), .long (lN ((P - 1) / 2)), .long (lN G), .long 0, .long 0, .long 0, .int 0, .ref a0, .ref a1, .ref a2, .ref a3, .ref a4, .ref a5, .ref a6, .ref a7, .ref a8, .ref a9, .ref b0, .ref b1, .int (nI oc), .ref b2, .ref b3, .ref b4, .ref b5])), (a4, .inl (cI, 4, .inl (mf kf 4))), (a5, .inl (cI, 4, .inl (mf sf 4))), (a6, .inl (cI, 64, .inl (mf vf i)))] H → va_D A [(m0, .inr (8, [.int 0, .int (nI N), .int 0, .int 0, .long (lN P), .long (lN ((P - 1) / 2)), .long (lN G), .long 0, .long 0, .long 0, .int 0, .ref a0, .ref a1, .ref a2, .ref a3, .ref a4, .ref a5, .ref a6, .ref a7, .ref a8, .ref a9, .ref b0, .ref b1, .int (nI oc), .ref b2, .ref b3, .ref b4, .ref b5])), (a4, .inl (cI, 4, .inl (mf kf 4))), (a5, .inl (cI, 4, .inl (mf sf 4))), (a6, .inl (cI, 64, .inl (mf vf i)))] → ∀ (ls : Array Slot), lv_has ls 8 [(0, .ref m0), (1, .long (lN P)), (3, .long (lN G)), (5, .int (nI N)), (6, .int 1), (7, .int (nI i))] → W p l e ({ frames := 4, cells := 0, slots := 0, locals := 117 } : Room) s m ([.ref m0, .long (lN P), .long (lN G), .int (nI N)] : List Value).toArray below meth c H locs 0 0 (MQ below (va_Ql (fun (r : Int64) (_ : Unit) => r = lN ((P - 1) / 2)) (fun _ t => va_P (dC, dI) classes (mo_ws m0 0 (nI N) 0 0 (lN P) (lN ((P - 1) / 2)) (lN G) 0 0 0 0 a0 a1 a2 a3 a4 a5 a6 a7 a8 a9 b0 b1 oc b2 b3 b4 b5 ++ (iw_ws a4 cI 4 (mf kf 4) ++ (iw_ws a5 cI 4 (mf sf 4) ++ (iw_ws a6 cI 64 (mf vf 64))))) t.heap ∧ va_K (dC, dI) classes [(cJ, .long), (cI, .int)] t ∧ va_D A (mo_ws m0 0 (nI N) 0 0 (lN P) (lN ((P - 1) / 2)) (lN G) 0 0 0 0 a0 a1 a2 a3 a4 a5 a6 a7 a8 a9 b0 b1 oc b2 b3 b4 b5 ++ (iw_ws a4 cI 4 (mf kf 4) ++ (iw_ws a5 cI 4 (mf sf 4) ++ (iw_ws a6 cI 64 (mf vf 64)))))) A) ([.ref m0, .long (lN P), .long (lN G), .int (nI N)] : List Value).toArray s 0 0 A) (F0 m 213 ls []) := by
                                intro j
                                induction j using Nat.strongRecOn with
                                | ind j ih =>
                                  intro i hij H locs hS hP hD ls hl
                                  refine lv_iload hx hb d_Bm_begin_213 (lv_at hl 5 rfl) ?_
                                  refine lv_bipush (v := 64) hx hb d_Bm_begin_215 (by decide) ?_
                                  refine lv_icmp_ge (tgt := 234) hx hb d_Bm_begin_217 (by decide) (fun c_14 => ?_) (fun c_14 => ?_)
                                  · -- taken
                                    have hi9 : i = 64 := by
                                      have := (ige 64 (by omega) (by omega) rfl).mp c_14
                                      omega
                                    rw [hi9] at hP hD
                                    refine lv_aload_n hx hb d_Bm_begin_234 rfl (lv_at hl 0 rfl) ?_
                                    refine va_get (D := (dC, dI)) (ci := 8) (v := .long (lN ((P - 1) / 2))) (C := "BallotBoardModel") (T := F_Bm) (N := 28) hx hb hts (fun w9 h9 => List.mem_cons_of_mem _ (i_Bm w9 h9)) hown hK hP 0 rfl rfl 5 (by decide) (hts _ (List.mem_cons_of_mem _ gk_924)) (fun _ h9 => h9) rfl d_Bm_begin_235 ?_
                                    exact W.lret (v := (lN ((P - 1) / 2))) hx hb hr (fun t ht9 hW => ⟨⟨_, (), rfl, rfl, by rw [ht9]; exact hP, va_K.moved hW.alike hK, hD⟩, hS.F ht9⟩) hS.2.2 d_Bm_begin_238
                                  · -- not taken
                                    have hi9 : i < 64 := by
                                      have : ¬ 64 ≤ i := fun h => c_14 ((ige 64 (by omega) (by omega) rfl).mpr h)
                                      omega
                                    refine lv_aload_n hx hb d_Bm_begin_220 rfl (lv_at hl 0 rfl) ?_
                                    refine va_get (D := (dC, dI)) (ci := 8) (v := .ref a6) (C := "BallotBoardModel") (T := F_Bm) (N := 28) hx hb hts (fun w9 h9 => List.mem_cons_of_mem _ (i_Bm w9 h9)) hown hK hP 0 rfl rfl 17 (by decide) (hts _ (List.mem_cons_of_mem _ gk_936)) (fun _ h9 => h9) rfl d_Bm_begin_221 ?_
                                    refine lv_iload hx hb d_Bm_begin_224 (lv_at hl 5 rfl) ?_
                                    refine lv_iconst (v := (-1)) hx hb d_Bm_begin_226 (by decide) ?_
                                    refine va_iast hx hb hK hP hD hS 3 1 rfl rfl (vp_in_nI (by omega) (by omega)) d_Bm_begin_227 (fun H locs hP hD hS => ?_)
                                    have hfe : upd (mf vf i) (nI i : Int32).toNatClampNeg (-1) = mf vf (i + 1) := by rw [nI_clamp (by omega)]; exact mf_upd _ _
                                    have hP : va_P (dC, dI) classes [(m0, .inr (8, [.int 0, .int (nI N), .int 0, .int 0, .long (lN P), .long (lN ((P - 1) / 2)), .long (lN G), .long 0, .long 0, .long 0, .int 0, .ref a0, .ref a1, .ref a2, .ref a3, .ref a4, .ref a5, .ref a6, .ref a7, .ref a8, .ref a9, .ref b0, .ref b1, .int (nI oc), .ref b2, .ref b3, .ref b4, .ref b5])), (a4, .inl (cI, 4, .inl (mf kf 4))), (a5, .inl (cI, 4, .inl (mf sf 4))), (a6, .inl (cI, 64, .inl (upd (mf vf i) (nI i : Int32).toNatClampNeg (-1))))] H := hP
                                    have hD : va_D A [(m0, .inr (8, [.int 0, .int (nI N), .int 0, .int 0, .long (lN P), .long (lN ((P - 1) / 2)), .long (lN G), .long 0, .long 0, .long 0, .int 0, .ref a0, .ref a1, .ref a2, .ref a3, .ref a4, .ref a5, .ref a6, .ref a7, .ref a8, .ref a9, .ref b0, .ref b1, .int (nI oc), .ref b2, .ref b3, .ref b4, .ref b5])), (a4, .inl (cI, 4, .inl (mf kf 4))), (a5, .inl (cI, 4, .inl (mf sf 4))), (a6, .inl (cI, 64, .inl (upd (mf vf i) (nI i : Int32).toNatClampNeg (-1))))] := hD
                                    rw [hfe] at hP hD
                                    obtain ⟨i_15, ei_15⟩ : ∃ y : Int32, y = (nI i) + 1 := ⟨_, rfl⟩
                                    refine lv_iinc (v := i_15) (lv' := [(7, .int i_15), (0, .ref m0), (1, .long (lN P)), (3, .long (lN G)), (5, .int (nI N)), (6, .int 1)]) hx hb d_Bm_begin_228 hl (k := 5) rfl (by rw [ei_15]; rfl) (by decide) rfl (fun ls hl => ?_)
                                    obtain rfl : i_15 = nI (i + 1) := by rw [ei_15]; exact nI_1 i
                                    refine lv_goto (tgt := 213) hx hb d_Bm_begin_231 (by decide) ?_
                                    exact ih (j - 1) (by omega) (i + 1) (by omega) H locs hS hP hD ls (lv_sub hl [1, 2, 3, 4, 5, 0] rfl)
                              have hP : va_P (dC, dI) classes [(m0, .inr (8, [.int 0, .int (nI N), .int 0, .int 0, .long (lN P), .long (lN ((P - 1) / 2)), .long (lN G), .long 0, .long 0, .long 0, .int 0, .ref a0, .ref a1, .ref a2, .ref a3, .ref a4, .ref a5, .ref a6, .ref a7, .ref a8, .ref a9, .ref b0, .ref b1, .int (nI oc), .ref b2, .ref b3, .ref b4, .ref b5])), (a4, .inl (cI, 4, .inl (mf kf 4))), (a5, .inl (cI, 4, .inl (mf sf 4))), (a6, .inl (cI, 64, .inl (mf vf 0)))] H := by rw [← mf_0 vf]; exact hP
                              have hD : va_D A [(m0, .inr (8, [.int 0, .int (nI N), .int 0, .int 0, .long (lN P), .long (lN ((P - 1) / 2)), .long (lN G), .long 0, .long 0, .long 0, .int 0, .ref a0, .ref a1, .ref a2, .ref a3, .ref a4, .ref a5, .ref a6, .ref a7, .ref a8, .ref a9, .ref b0, .ref b1, .int (nI oc), .ref b2, .ref b3, .ref b4, .ref b5])), (a4, .inl (cI, 4, .inl (mf kf 4))), (a5, .inl (cI, 4, .inl (mf sf 4))), (a6, .inl (cI, 64, .inl (mf vf 0)))] := by rw [← mf_0 vf]; exact hD
                              exact loop2 64 0 (by omega) H _ hS hP hD ls (lv_sub hl [1, 2, 3, 4, 5, 0] rfl)
                            · -- not taken
                              have hi9 : i < 4 := by
                                have : ¬ 4 ≤ i := fun h => c_13 ((ige 4 (by omega) (by omega) rfl).mpr h)
                                omega
                              refine lv_aload_n hx hb d_Bm_begin_188 rfl (lv_at hl 0 rfl) ?_
                              refine va_get (D := (dC, dI)) (ci := 8) (v := .ref a4) (C := "BallotBoardModel") (T := F_Bm) (N := 28) hx hb hts (fun w9 h9 => List.mem_cons_of_mem _ (i_Bm w9 h9)) hown hK hP 0 rfl rfl 15 (by decide) (hts _ (List.mem_cons_of_mem _ gk_934)) (fun _ h9 => h9) rfl d_Bm_begin_189 ?_
                              refine lv_iload hx hb d_Bm_begin_192 (lv_at hl 5 rfl) ?_
                              refine lv_iconst (v := (-1)) hx hb d_Bm_begin_194 (by decide) ?_
                              refine va_iast hx hb hK hP hD hS 1 1 rfl rfl (vp_in_nI (by omega) (by omega)) d_Bm_begin_195 (fun H locs hP hD hS => ?_)
                              have hfe : upd (mf kf i) (nI i : Int32).toNatClampNeg (-1) = mf kf (i + 1) := by rw [nI_clamp (by omega)]; exact mf_upd _ _
                              have hP : va_P (dC, dI) classes [(m0, .inr (8, [.int 0, .int (nI N), .int 0, .int 0, .long (lN P), .long (lN ((P - 1) / 2)), .long (lN G), .long 0, .long 0, .long 0, .int 0, .ref a0, .ref a1, .ref a2, .ref a3, .ref a4, .ref a5, .ref a6, .ref a7, .ref a8, .ref a9, .ref b0, .ref b1, .int (nI oc), .ref b2, .ref b3, .ref b4, .ref b5])), (a4, .inl (cI, 4, .inl (upd (mf kf i) (nI i : Int32).toNatClampNeg (-1)))), (a5, .inl (cI, 4, .inl (mf sf i))), (a6, .inl (cI, 64, .inl vf))] H := hP
                              have hD : va_D A [(m0, .inr (8, [.int 0, .int (nI N), .int 0, .int 0, .long (lN P), .long (lN ((P - 1) / 2)), .long (lN G), .long 0, .long 0, .long 0, .int 0, .ref a0, .ref a1, .ref a2, .ref a3, .ref a4, .ref a5, .ref a6, .ref a7, .ref a8, .ref a9, .ref b0, .ref b1, .int (nI oc), .ref b2, .ref b3, .ref b4, .ref b5])), (a4, .inl (cI, 4, .inl (upd (mf kf i) (nI i : Int32).toNatClampNeg (-1)))), (a5, .inl (cI, 4, .inl (mf sf i))), (a6, .inl (cI, 64, .inl vf))] := hD
                              rw [hfe] at hP hD
                              refine lv_aload_n hx hb d_Bm_begin_196 rfl (lv_at hl 0 rfl) ?_
                              refine va_get (D := (dC, dI)) (ci := 8) (v := .ref a5) (C := "BallotBoardModel") (T := F_Bm) (N := 28) hx hb hts (fun w9 h9 => List.mem_cons_of_mem _ (i_Bm w9 h9)) hown hK hP 0 rfl rfl 16 (by decide) (hts _ (List.mem_cons_of_mem _ gk_935)) (fun _ h9 => h9) rfl d_Bm_begin_197 ?_
                              refine lv_iload hx hb d_Bm_begin_200 (lv_at hl 5 rfl) ?_
                              refine lv_iconst (v := (-1)) hx hb d_Bm_begin_202 (by decide) ?_
                              refine va_iast hx hb hK hP hD hS 2 1 rfl rfl (vp_in_nI (by omega) (by omega)) d_Bm_begin_203 (fun H locs hP hD hS => ?_)
                              have hfe : upd (mf sf i) (nI i : Int32).toNatClampNeg (-1) = mf sf (i + 1) := by rw [nI_clamp (by omega)]; exact mf_upd _ _
                              have hP : va_P (dC, dI) classes [(m0, .inr (8, [.int 0, .int (nI N), .int 0, .int 0, .long (lN P), .long (lN ((P - 1) / 2)), .long (lN G), .long 0, .long 0, .long 0, .int 0, .ref a0, .ref a1, .ref a2, .ref a3, .ref a4, .ref a5, .ref a6, .ref a7, .ref a8, .ref a9, .ref b0, .ref b1, .int (nI oc), .ref b2, .ref b3, .ref b4, .ref b5])), (a4, .inl (cI, 4, .inl (mf kf (i + 1)))), (a5, .inl (cI, 4, .inl (upd (mf sf i) (nI i : Int32).toNatClampNeg (-1)))), (a6, .inl (cI, 64, .inl vf))] H := hP
                              have hD : va_D A [(m0, .inr (8, [.int 0, .int (nI N), .int 0, .int 0, .long (lN P), .long (lN ((P - 1) / 2)), .long (lN G), .long 0, .long 0, .long 0, .int 0, .ref a0, .ref a1, .ref a2, .ref a3, .ref a4, .ref a5, .ref a6, .ref a7, .ref a8, .ref a9, .ref b0, .ref b1, .int (nI oc), .ref b2, .ref b3, .ref b4, .ref b5])), (a4, .inl (cI, 4, .inl (mf kf (i + 1)))), (a5, .inl (cI, 4, .inl (upd (mf sf i) (nI i : Int32).toNatClampNeg (-1)))), (a6, .inl (cI, 64, .inl vf))] := hD
                              rw [hfe] at hP hD
                              obtain ⟨i_16, ei_16⟩ : ∃ y : Int32, y = (nI i) + 1 := ⟨_, rfl⟩
                              refine lv_iinc (v := i_16) (lv' := [(7, .int i_16), (0, .ref m0), (1, .long (lN P)), (3, .long (lN G)), (5, .int (nI N)), (6, .int 1)]) hx hb d_Bm_begin_204 hl (k := 5) rfl (by rw [ei_16]; rfl) (by decide) rfl (fun ls hl => ?_)
                              obtain rfl : i_16 = nI (i + 1) := by rw [ei_16]; exact nI_1 i
                              refine lv_goto (tgt := 182) hx hb d_Bm_begin_207 (by decide) ?_
                              exact ih (j - 1) (by omega) (i + 1) (by omega) H locs hS hP hD ls (lv_sub hl [1, 2, 3, 4, 5, 0] rfl)
                        have hP : va_P (dC, dI) classes [(m0, .inr (8, [.int 0, .int (nI N), .int 0, .int 0, .long (lN P), .long (lN ((P - 1) / 2)), .long (lN G), .long 0, .long 0, .long 0, .int 0, .ref a0, .ref a1, .ref a2, .ref a3, .ref a4, .ref a5, .ref a6, .ref a7, .ref a8, .ref a9, .ref b0, .ref b1, .int (nI oc), .ref b2, .ref b3, .ref b4, .ref b5])), (a4, .inl (cI, 4, .inl (mf kf 0))), (a5, .inl (cI, 4, .inl (mf sf 0))), (a6, .inl (cI, 64, .inl vf))] H := by rw [← mf_0 kf, ← mf_0 sf]; exact hP
                        have hD : va_D A [(m0, .inr (8, [.int 0, .int (nI N), .int 0, .int 0, .long (lN P), .long (lN ((P - 1) / 2)), .long (lN G), .long 0, .long 0, .long 0, .int 0, .ref a0, .ref a1, .ref a2, .ref a3, .ref a4, .ref a5, .ref a6, .ref a7, .ref a8, .ref a9, .ref b0, .ref b1, .int (nI oc), .ref b2, .ref b3, .ref b4, .ref b5])), (a4, .inl (cI, 4, .inl (mf kf 0))), (a5, .inl (cI, 4, .inl (mf sf 0))), (a6, .inl (cI, 64, .inl vf))] := by rw [← mf_0 kf, ← mf_0 sf]; exact hD
                        exact loop1 4 0 (by omega) H _ hS hP hD ls (lv_sub hl [2, 3, 4, 5, 1, 0] rfl)
                      · -- not taken
                        exact absurd rfl c_12
                    · -- not taken
                      exact absurd c_10 (by decide)
