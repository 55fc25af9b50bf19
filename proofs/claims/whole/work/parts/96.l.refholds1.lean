abbrev b_Bm_holds : ByteArray := prog_10_method_49_code
abbrev y_Bm_holds : MethodName := ⟨"BallotBoardModel", "holds", "(I)Z"⟩
abbrev w_Bm_holds : List Cond := .code y_Bm_holds b_Bm_holds 6 (some .boolean) :: gw
theorem d_Bm_holds_0 : decode b_Bm_holds 0 = .ok (.aload_n 0, 1) := by decide +kernel
theorem d_Bm_holds_1 : decode b_Bm_holds 1 = .ok (.iload_n 1, 1) := by decide +kernel
theorem d_Bm_holds_2 : decode b_Bm_holds 2 = .ok (.invokevirtual 233, 3) := by decide +kernel
theorem d_Bm_holds_5 : decode b_Bm_holds 5 = .ok (.iconst 0, 1) := by decide +kernel
theorem d_Bm_holds_6 : decode b_Bm_holds 6 = .ok (.istore_n 2, 1) := by decide +kernel
theorem d_Bm_holds_7 : decode b_Bm_holds 7 = .ok (.iload_n 2, 1) := by decide +kernel
theorem d_Bm_holds_8 : decode b_Bm_holds 8 = .ok (.iconst 4, 1) := by decide +kernel
theorem d_Bm_holds_9 : decode b_Bm_holds 9 = .ok (.if_icmp .ge 31, 3) := by decide +kernel
theorem d_Bm_holds_12 : decode b_Bm_holds 12 = .ok (.aload_n 0, 1) := by decide +kernel
theorem d_Bm_holds_13 : decode b_Bm_holds 13 = .ok (.getfield 16, 3) := by decide +kernel
theorem d_Bm_holds_16 : decode b_Bm_holds 16 = .ok (.iload_n 2, 1) := by decide +kernel
theorem d_Bm_holds_17 : decode b_Bm_holds 17 = .ok (.laload, 1) := by decide +kernel
theorem d_Bm_holds_18 : decode b_Bm_holds 18 = .ok (.aload_n 0, 1) := by decide +kernel
theorem d_Bm_holds_19 : decode b_Bm_holds 19 = .ok (.getfield 13, 3) := by decide +kernel
theorem d_Bm_holds_22 : decode b_Bm_holds 22 = .ok (.iconst 4, 1) := by decide +kernel
theorem d_Bm_holds_23 : decode b_Bm_holds 23 = .ok (.iload_n 1, 1) := by decide +kernel
theorem d_Bm_holds_24 : decode b_Bm_holds 24 = .ok (.imul, 1) := by decide +kernel
theorem d_Bm_holds_25 : decode b_Bm_holds 25 = .ok (.iload_n 2, 1) := by decide +kernel
theorem d_Bm_holds_26 : decode b_Bm_holds 26 = .ok (.iadd, 1) := by decide +kernel
theorem d_Bm_holds_27 : decode b_Bm_holds 27 = .ok (.laload, 1) := by decide +kernel
theorem d_Bm_holds_28 : decode b_Bm_holds 28 = .ok (.lcmp, 1) := by decide +kernel
theorem d_Bm_holds_29 : decode b_Bm_holds 29 = .ok (.ifCond .eq 5, 3) := by decide +kernel
theorem d_Bm_holds_32 : decode b_Bm_holds 32 = .ok (.iconst 0, 1) := by decide +kernel
theorem d_Bm_holds_33 : decode b_Bm_holds 33 = .ok (.ireturn, 1) := by decide +kernel
theorem d_Bm_holds_34 : decode b_Bm_holds 34 = .ok (.iinc 2 1, 3) := by decide +kernel
theorem d_Bm_holds_37 : decode b_Bm_holds 37 = .ok (.goto (-30), 3) := by decide +kernel
theorem d_Bm_holds_40 : decode b_Bm_holds 40 = .ok (.aload_n 0, 1) := by decide +kernel
theorem d_Bm_holds_41 : decode b_Bm_holds 41 = .ok (.iload_n 1, 1) := by decide +kernel
theorem d_Bm_holds_42 : decode b_Bm_holds 42 = .ok (.iconst 1, 1) := by decide +kernel
theorem d_Bm_holds_43 : decode b_Bm_holds 43 = .ok (.invokevirtual 236, 3) := by decide +kernel
theorem d_Bm_holds_46 : decode b_Bm_holds 46 = .ok (.l2i, 1) := by decide +kernel
theorem d_Bm_holds_47 : decode b_Bm_holds 47 = .ok (.istore_n 2, 1) := by decide +kernel
theorem d_Bm_holds_48 : decode b_Bm_holds 48 = .ok (.aload_n 0, 1) := by decide +kernel
theorem d_Bm_holds_49 : decode b_Bm_holds 49 = .ok (.iload_n 1, 1) := by decide +kernel
theorem d_Bm_holds_50 : decode b_Bm_holds 50 = .ok (.iconst 0, 1) := by decide +kernel
theorem d_Bm_holds_51 : decode b_Bm_holds 51 = .ok (.invokevirtual 236, 3) := by decide +kernel
theorem d_Bm_holds_54 : decode b_Bm_holds 54 = .ok (.lconst 1, 1) := by decide +kernel
theorem d_Bm_holds_55 : decode b_Bm_holds 55 = .ok (.lcmp, 1) := by decide +kernel
theorem d_Bm_holds_56 : decode b_Bm_holds 56 = .ok (.ifCond .ne 27, 3) := by decide +kernel
theorem d_Bm_holds_59 : decode b_Bm_holds 59 = .ok (.aload_n 0, 1) := by decide +kernel
theorem d_Bm_holds_60 : decode b_Bm_holds 60 = .ok (.iload_n 2, 1) := by decide +kernel
theorem d_Bm_holds_61 : decode b_Bm_holds 61 = .ok (.aload_n 0, 1) := by decide +kernel
theorem d_Bm_holds_62 : decode b_Bm_holds 62 = .ok (.iload_n 1, 1) := by decide +kernel
theorem d_Bm_holds_63 : decode b_Bm_holds 63 = .ok (.iconst 2, 1) := by decide +kernel
theorem d_Bm_holds_64 : decode b_Bm_holds 64 = .ok (.invokevirtual 236, 3) := by decide +kernel
theorem d_Bm_holds_67 : decode b_Bm_holds 67 = .ok (.aload_n 0, 1) := by decide +kernel
theorem d_Bm_holds_68 : decode b_Bm_holds 68 = .ok (.iload_n 1, 1) := by decide +kernel
theorem d_Bm_holds_69 : decode b_Bm_holds 69 = .ok (.iconst 3, 1) := by decide +kernel
theorem d_Bm_holds_70 : decode b_Bm_holds 70 = .ok (.invokevirtual 236, 3) := by decide +kernel
theorem d_Bm_holds_73 : decode b_Bm_holds 73 = .ok (.aload_n 0, 1) := by decide +kernel
theorem d_Bm_holds_74 : decode b_Bm_holds 74 = .ok (.iload_n 1, 1) := by decide +kernel
theorem d_Bm_holds_75 : decode b_Bm_holds 75 = .ok (.iconst 4, 1) := by decide +kernel
theorem d_Bm_holds_76 : decode b_Bm_holds 76 = .ok (.invokevirtual 236, 3) := by decide +kernel
theorem d_Bm_holds_79 : decode b_Bm_holds 79 = .ok (.invokevirtual 254, 3) := by decide +kernel
theorem d_Bm_holds_82 : decode b_Bm_holds 82 = .ok (.ireturn, 1) := by decide +kernel
theorem d_Bm_holds_83 : decode b_Bm_holds 83 = .ok (.aload_n 0, 1) := by decide +kernel
theorem d_Bm_holds_84 : decode b_Bm_holds 84 = .ok (.iload_n 1, 1) := by decide +kernel
theorem d_Bm_holds_85 : decode b_Bm_holds 85 = .ok (.iconst 0, 1) := by decide +kernel
theorem d_Bm_holds_86 : decode b_Bm_holds 86 = .ok (.invokevirtual 236, 3) := by decide +kernel
theorem d_Bm_holds_89 : decode b_Bm_holds 89 = .ok (.ldc2_w 159, 3) := by decide +kernel
theorem d_Bm_holds_92 : decode b_Bm_holds 92 = .ok (.lcmp, 1) := by decide +kernel
theorem d_Bm_holds_93 : decode b_Bm_holds 93 = .ok (.ifCond .ne 93, 3) := by decide +kernel
theorem d_Bm_holds_96 : decode b_Bm_holds 96 = .ok (.lconst 1, 1) := by decide +kernel
theorem d_Bm_holds_97 : decode b_Bm_holds 97 = .ok (.lstore_n 3, 1) := by decide +kernel
theorem d_Bm_holds_98 : decode b_Bm_holds 98 = .ok (.iconst 0, 1) := by decide +kernel
theorem d_Bm_holds_99 : decode b_Bm_holds 99 = .ok (.istore 5, 2) := by decide +kernel
theorem d_Bm_holds_101 : decode b_Bm_holds 101 = .ok (.iload 5, 2) := by decide +kernel
theorem d_Bm_holds_103 : decode b_Bm_holds 103 = .ok (.aload_n 0, 1) := by decide +kernel
theorem d_Bm_holds_104 : decode b_Bm_holds 104 = .ok (.getfield 211, 3) := by decide +kernel
theorem d_Bm_holds_107 : decode b_Bm_holds 107 = .ok (.if_icmp .ge 27, 3) := by decide +kernel
theorem d_Bm_holds_110 : decode b_Bm_holds 110 = .ok (.aload_n 0, 1) := by decide +kernel
theorem d_Bm_holds_111 : decode b_Bm_holds 111 = .ok (.lload_n 3, 1) := by decide +kernel
theorem d_Bm_holds_112 : decode b_Bm_holds 112 = .ok (.aload_n 0, 1) := by decide +kernel
theorem d_Bm_holds_113 : decode b_Bm_holds 113 = .ok (.aload_n 0, 1) := by decide +kernel
theorem d_Bm_holds_114 : decode b_Bm_holds 114 = .ok (.getfield 22, 3) := by decide +kernel
theorem d_Bm_holds_117 : decode b_Bm_holds 117 = .ok (.iload 5, 2) := by decide +kernel
theorem d_Bm_holds_119 : decode b_Bm_holds 119 = .ok (.iaload, 1) := by decide +kernel
theorem d_Bm_holds_120 : decode b_Bm_holds 120 = .ok (.iconst 2, 1) := by decide +kernel
theorem d_Bm_holds_121 : decode b_Bm_holds 121 = .ok (.invokevirtual 236, 3) := by decide +kernel
theorem d_Bm_holds_124 : decode b_Bm_holds 124 = .ok (.invokevirtual 177, 3) := by decide +kernel
theorem d_Bm_holds_127 : decode b_Bm_holds 127 = .ok (.lstore_n 3, 1) := by decide +kernel
theorem d_Bm_holds_128 : decode b_Bm_holds 128 = .ok (.iinc 5 1, 3) := by decide +kernel
theorem d_Bm_holds_131 : decode b_Bm_holds 131 = .ok (.goto (-30), 3) := by decide +kernel
theorem d_Bm_holds_134 : decode b_Bm_holds 134 = .ok (.aload_n 0, 1) := by decide +kernel
theorem d_Bm_holds_135 : decode b_Bm_holds 135 = .ok (.getfield 128, 3) := by decide +kernel
theorem d_Bm_holds_138 : decode b_Bm_holds 138 = .ok (.iload_n 2, 1) := by decide +kernel
theorem d_Bm_holds_139 : decode b_Bm_holds 139 = .ok (.iload_n 1, 1) := by decide +kernel
theorem d_Bm_holds_140 : decode b_Bm_holds 140 = .ok (.iastore, 1) := by decide +kernel
theorem d_Bm_holds_141 : decode b_Bm_holds 141 = .ok (.aload_n 0, 1) := by decide +kernel
theorem d_Bm_holds_142 : decode b_Bm_holds 142 = .ok (.iload_n 2, 1) := by decide +kernel
theorem d_Bm_holds_143 : decode b_Bm_holds 143 = .ok (.aload_n 0, 1) := by decide +kernel
theorem d_Bm_holds_144 : decode b_Bm_holds 144 = .ok (.iload_n 1, 1) := by decide +kernel
theorem d_Bm_holds_145 : decode b_Bm_holds 145 = .ok (.iconst 2, 1) := by decide +kernel
theorem d_Bm_holds_146 : decode b_Bm_holds 146 = .ok (.invokevirtual 236, 3) := by decide +kernel
theorem d_Bm_holds_149 : decode b_Bm_holds 149 = .ok (.aload_n 0, 1) := by decide +kernel
theorem d_Bm_holds_150 : decode b_Bm_holds 150 = .ok (.iload_n 1, 1) := by decide +kernel
theorem d_Bm_holds_151 : decode b_Bm_holds 151 = .ok (.iconst 3, 1) := by decide +kernel
theorem d_Bm_holds_152 : decode b_Bm_holds 152 = .ok (.invokevirtual 236, 3) := by decide +kernel
theorem d_Bm_holds_155 : decode b_Bm_holds 155 = .ok (.aload_n 0, 1) := by decide +kernel
theorem d_Bm_holds_156 : decode b_Bm_holds 156 = .ok (.iload_n 1, 1) := by decide +kernel
theorem d_Bm_holds_157 : decode b_Bm_holds 157 = .ok (.iconst 4, 1) := by decide +kernel
theorem d_Bm_holds_158 : decode b_Bm_holds 158 = .ok (.invokevirtual 236, 3) := by decide +kernel
theorem d_Bm_holds_161 : decode b_Bm_holds 161 = .ok (.aload_n 0, 1) := by decide +kernel
theorem d_Bm_holds_162 : decode b_Bm_holds 162 = .ok (.iload_n 1, 1) := by decide +kernel
theorem d_Bm_holds_163 : decode b_Bm_holds 163 = .ok (.iconst 5, 1) := by decide +kernel
theorem d_Bm_holds_164 : decode b_Bm_holds 164 = .ok (.invokevirtual 236, 3) := by decide +kernel
theorem d_Bm_holds_167 : decode b_Bm_holds 167 = .ok (.aload_n 0, 1) := by decide +kernel
theorem d_Bm_holds_168 : decode b_Bm_holds 168 = .ok (.iload_n 1, 1) := by decide +kernel
theorem d_Bm_holds_169 : decode b_Bm_holds 169 = .ok (.bipush 6, 2) := by decide +kernel
theorem d_Bm_holds_171 : decode b_Bm_holds 171 = .ok (.invokevirtual 236, 3) := by decide +kernel
theorem d_Bm_holds_174 : decode b_Bm_holds 174 = .ok (.aload_n 0, 1) := by decide +kernel
theorem d_Bm_holds_175 : decode b_Bm_holds 175 = .ok (.iload_n 1, 1) := by decide +kernel
theorem d_Bm_holds_176 : decode b_Bm_holds 176 = .ok (.bipush 7, 2) := by decide +kernel
theorem d_Bm_holds_178 : decode b_Bm_holds 178 = .ok (.invokevirtual 236, 3) := by decide +kernel
theorem d_Bm_holds_181 : decode b_Bm_holds 181 = .ok (.lload_n 3, 1) := by decide +kernel
theorem d_Bm_holds_182 : decode b_Bm_holds 182 = .ok (.invokevirtual 280, 3) := by decide +kernel
theorem d_Bm_holds_185 : decode b_Bm_holds 185 = .ok (.ireturn, 1) := by decide +kernel
theorem d_Bm_holds_186 : decode b_Bm_holds 186 = .ok (.lconst 1, 1) := by decide +kernel
theorem d_Bm_holds_187 : decode b_Bm_holds 187 = .ok (.lstore_n 3, 1) := by decide +kernel
theorem d_Bm_holds_188 : decode b_Bm_holds 188 = .ok (.iconst 0, 1) := by decide +kernel
theorem d_Bm_holds_189 : decode b_Bm_holds 189 = .ok (.istore 5, 2) := by decide +kernel
theorem d_Bm_holds_191 : decode b_Bm_holds 191 = .ok (.iload 5, 2) := by decide +kernel
theorem d_Bm_holds_193 : decode b_Bm_holds 193 = .ok (.bipush 64, 2) := by decide +kernel
theorem d_Bm_holds_195 : decode b_Bm_holds 195 = .ok (.if_icmp .ge 37, 3) := by decide +kernel
theorem d_Bm_holds_198 : decode b_Bm_holds 198 = .ok (.aload_n 0, 1) := by decide +kernel
theorem d_Bm_holds_199 : decode b_Bm_holds 199 = .ok (.getfield 128, 3) := by decide +kernel
theorem d_Bm_holds_202 : decode b_Bm_holds 202 = .ok (.iload 5, 2) := by decide +kernel
theorem d_Bm_holds_204 : decode b_Bm_holds 204 = .ok (.iaload, 1) := by decide +kernel
theorem d_Bm_holds_205 : decode b_Bm_holds 205 = .ok (.ifCond .lt 21, 3) := by decide +kernel
theorem d_Bm_holds_208 : decode b_Bm_holds 208 = .ok (.aload_n 0, 1) := by decide +kernel
theorem d_Bm_holds_209 : decode b_Bm_holds 209 = .ok (.lload_n 3, 1) := by decide +kernel
theorem d_Bm_holds_210 : decode b_Bm_holds 210 = .ok (.aload_n 0, 1) := by decide +kernel
theorem d_Bm_holds_211 : decode b_Bm_holds 211 = .ok (.aload_n 0, 1) := by decide +kernel
theorem d_Bm_holds_212 : decode b_Bm_holds 212 = .ok (.getfield 128, 3) := by decide +kernel
theorem d_Bm_holds_215 : decode b_Bm_holds 215 = .ok (.iload 5, 2) := by decide +kernel
theorem d_Bm_holds_217 : decode b_Bm_holds 217 = .ok (.iaload, 1) := by decide +kernel
theorem d_Bm_holds_218 : decode b_Bm_holds 218 = .ok (.iconst 2, 1) := by decide +kernel
theorem d_Bm_holds_219 : decode b_Bm_holds 219 = .ok (.invokevirtual 236, 3) := by decide +kernel
theorem d_Bm_holds_222 : decode b_Bm_holds 222 = .ok (.invokevirtual 177, 3) := by decide +kernel
theorem d_Bm_holds_225 : decode b_Bm_holds 225 = .ok (.lstore_n 3, 1) := by decide +kernel
theorem d_Bm_holds_226 : decode b_Bm_holds 226 = .ok (.iinc 5 1, 3) := by decide +kernel
theorem d_Bm_holds_229 : decode b_Bm_holds 229 = .ok (.goto (-38), 3) := by decide +kernel
theorem d_Bm_holds_232 : decode b_Bm_holds 232 = .ok (.aload_n 0, 1) := by decide +kernel
theorem d_Bm_holds_233 : decode b_Bm_holds 233 = .ok (.iload_n 2, 1) := by decide +kernel
theorem d_Bm_holds_234 : decode b_Bm_holds 234 = .ok (.aload_n 0, 1) := by decide +kernel
theorem d_Bm_holds_235 : decode b_Bm_holds 235 = .ok (.iload_n 1, 1) := by decide +kernel
theorem d_Bm_holds_236 : decode b_Bm_holds 236 = .ok (.iconst 2, 1) := by decide +kernel
theorem d_Bm_holds_237 : decode b_Bm_holds 237 = .ok (.invokevirtual 236, 3) := by decide +kernel
theorem d_Bm_holds_240 : decode b_Bm_holds 240 = .ok (.aload_n 0, 1) := by decide +kernel
theorem d_Bm_holds_241 : decode b_Bm_holds 241 = .ok (.iload_n 1, 1) := by decide +kernel
theorem d_Bm_holds_242 : decode b_Bm_holds 242 = .ok (.iconst 3, 1) := by decide +kernel
theorem d_Bm_holds_243 : decode b_Bm_holds 243 = .ok (.invokevirtual 236, 3) := by decide +kernel
theorem d_Bm_holds_246 : decode b_Bm_holds 246 = .ok (.aload_n 0, 1) := by decide +kernel
theorem d_Bm_holds_247 : decode b_Bm_holds 247 = .ok (.iload_n 1, 1) := by decide +kernel
theorem d_Bm_holds_248 : decode b_Bm_holds 248 = .ok (.iconst 4, 1) := by decide +kernel
theorem d_Bm_holds_249 : decode b_Bm_holds 249 = .ok (.invokevirtual 236, 3) := by decide +kernel
theorem d_Bm_holds_252 : decode b_Bm_holds 252 = .ok (.aload_n 0, 1) := by decide +kernel
theorem d_Bm_holds_253 : decode b_Bm_holds 253 = .ok (.aload_n 0, 1) := by decide +kernel
theorem d_Bm_holds_254 : decode b_Bm_holds 254 = .ok (.getfield 22, 3) := by decide +kernel
theorem d_Bm_holds_257 : decode b_Bm_holds 257 = .ok (.iload_n 2, 1) := by decide +kernel
theorem d_Bm_holds_258 : decode b_Bm_holds 258 = .ok (.iaload, 1) := by decide +kernel
theorem d_Bm_holds_259 : decode b_Bm_holds 259 = .ok (.iconst 2, 1) := by decide +kernel
theorem d_Bm_holds_260 : decode b_Bm_holds 260 = .ok (.invokevirtual 236, 3) := by decide +kernel
theorem d_Bm_holds_263 : decode b_Bm_holds 263 = .ok (.lload_n 3, 1) := by decide +kernel
theorem d_Bm_holds_264 : decode b_Bm_holds 264 = .ok (.invokevirtual 294, 3) := by decide +kernel
theorem d_Bm_holds_267 : decode b_Bm_holds 267 = .ok (.ireturn, 1) := by decide +kernel
set_option maxHeartbeats 8000000 in
set_option maxRecDepth 100000 in
theorem c_Bm_holds_10 (l : Launch) (dC : Nat → ClassId) (dI : Nat → Nat → Nat) (cJ cI : ClassId) (sz : Nat) (m0 : Nat) (e0 : Int32) (N n bc P Q G al pa pb : Nat) (cl : Int32) (a0 a1 a2 a3 a4 a5 a6 a7 a8 a9 b0 b1 oc b2 b3 b4 b5 : Nat) (bf sc st kf ct : Nat → Int32) (tf nf cf lf : Nat → Int64) (T0 : TS) (kd wh : Nat → Nat) (R Lk : Nat → Nat → Int64) (k : Nat) (hPQ : P = 2 * Q + 1) (h61F : P < 2 ^ 61) (hQ3 : 3 ≤ Q) (hG2 : 2 ≤ G) (hGP : G < P) (hGQ : G ^ Q % P = 1) (hN : N ≤ 4) (hN0 : 0 < N) (hwf : wfE n N kd wh R) (hE : EI n N kd wh) (hnf : ∀ e, e < n → ∀ j, j < wdt (kd e) → nf (8 * e + j) = R e j) (hcf : ∀ e, e < n → ∀ j, j < 4 → cf (4 * e + j) = Lk e j) (hkf : ∀ e, e < n → kd e = 1 → kf (wh e) = nI e) (h0k : tOk P N (tStart N T0)) (hk : k < n) (hkK : kd k = 1) (hk0 : k = 0) (hall : ∀ i, i < k → hds P Q G N T0 kd wh R Lk i) (hCR : CR k (aud P N T0 kd wh R k) R ct) : Met l y_Bm_holds w_Bm_holds ({ frames := 7, cells := 0, slots := 0, locals := 236 }) (va_Pc [.ref m0, .int (nI k)] (fun U => U.heap.size = sz ∧ va_P (dC, dI) classes (mo_ws m0 e0 (nI N) (nI n) (nI bc) (lN P) (lN Q) (lN G) (lN al) (lN pa) (lN pb) cl a0 a1 a2 a3 a4 a5 a6 a7 a8 a9 b0 b1 oc b2 b3 b4 b5 ++ (iw_ws a7 cI 256 bf ++ (iw_ws a8 cI 64 sc ++ (iw_ws a9 cI 8 st ++ (iw_ws b0 cI 8 kS ++ (iw_ws b1 cI 64 kR ++ (jw_ws a2 cJ 4 tf ++ (jw_ws a0 cJ 1232 nf ++ (jw_ws a1 cJ 616 cf ++ (iw_ws a4 cI 4 kf ++ (iw_ws b5 cI 64 ct ++ (jw_ws a3 cJ 16 lf)))))))))))) U.heap ∧ va_K (dC, dI) classes [(cJ, .long), (cI, .int)] U ∧ va_D (fun _ => True) (mo_ws m0 e0 (nI N) (nI n) (nI bc) (lN P) (lN Q) (lN G) (lN al) (lN pa) (lN pb) cl a0 a1 a2 a3 a4 a5 a6 a7 a8 a9 b0 b1 oc b2 b3 b4 b5 ++ (iw_ws a7 cI 256 bf ++ (iw_ws a8 cI 64 sc ++ (iw_ws a9 cI 8 st ++ (iw_ws b0 cI 8 kS ++ (iw_ws b1 cI 64 kR ++ (jw_ws a2 cJ 4 tf ++ (jw_ws a0 cJ 1232 nf ++ (jw_ws a1 cJ 616 cf ++ (iw_ws a4 cI 4 kf ++ (iw_ws b5 cI 64 ct ++ (jw_ws a3 cJ 16 lf)))))))))))))) (va_Qi (fun (r : Int32) (u9 : DU × (Nat → Int64) × (Nat → Int32)) => bz r (hds P Q G N T0 kd wh R Lk k) ∧ (hds P Q G N T0 kd wh R Lk k → CR (k + 1) (aud P N T0 kd wh R (k + 1)) R u9.2.2)) (fun u9 t => va_P (dC, dI) classes (mo_ws m0 e0 (nI N) (nI n) (nI bc) (lN P) (lN Q) (lN G) (lN al) (lN pa) (lN pb) cl a0 a1 a2 a3 a4 a5 a6 a7 a8 a9 b0 b1 u9.1.2.2.2.2 b2 b3 b4 b5 ++ (iw_ws a7 cI 256 u9.1.1 ++ (iw_ws a8 cI 64 u9.1.2.1 ++ (iw_ws a9 cI 8 u9.1.2.2.1 ++ (iw_ws b0 cI 8 kS ++ (iw_ws b1 cI 64 kR ++ (jw_ws a2 cJ 4 u9.1.2.2.2.1 ++ (jw_ws a0 cJ 1232 nf ++ (jw_ws a1 cJ 616 cf ++ (iw_ws a4 cI 4 kf ++ (iw_ws b5 cI 64 u9.2.2 ++ (jw_ws a3 cJ 16 u9.2.1)))))))))))) t.heap ∧ va_K (dC, dI) classes [(cJ, .long), (cI, .int)] t ∧ va_D (va_A (mo_ws m0 e0 (nI N) (nI n) (nI bc) (lN P) (lN Q) (lN G) (lN al) (lN pa) (lN pb) cl a0 a1 a2 a3 a4 a5 a6 a7 a8 a9 b0 b1 oc b2 b3 b4 b5 ++ (iw_ws a7 cI 256 bf ++ (iw_ws a8 cI 64 sc ++ (iw_ws a9 cI 8 st ++ (iw_ws b0 cI 8 kS ++ (iw_ws b1 cI 64 kR ++ (jw_ws a2 cJ 4 tf ++ (jw_ws a0 cJ 1232 nf ++ (jw_ws a1 cJ 616 cf ++ (iw_ws a4 cI 4 kf ++ (iw_ws b5 cI 64 ct ++ (jw_ws a3 cJ 16 lf)))))))))))) sz) (mo_ws m0 e0 (nI N) (nI n) (nI bc) (lN P) (lN Q) (lN G) (lN al) (lN pa) (lN pb) cl a0 a1 a2 a3 a4 a5 a6 a7 a8 a9 b0 b1 u9.1.2.2.2.2 b2 b3 b4 b5 ++ (iw_ws a7 cI 256 u9.1.1 ++ (iw_ws a8 cI 64 u9.1.2.1 ++ (iw_ws a9 cI 8 u9.1.2.2.1 ++ (iw_ws b0 cI 8 kS ++ (iw_ws b1 cI 64 kR ++ (jw_ws a2 cJ 4 u9.1.2.2.2.1 ++ (jw_ws a0 cJ 1232 nf ++ (jw_ws a1 cJ 616 cf ++ (iw_ws a4 cI 4 kf ++ (iw_ws b5 cI 64 u9.2.2 ++ (jw_ws a3 cJ 16 u9.2.1))))))))))))) (va_A (mo_ws m0 e0 (nI N) (nI n) (nI bc) (lN P) (lN Q) (lN G) (lN al) (lN pa) (lN pb) cl a0 a1 a2 a3 a4 a5 a6 a7 a8 a9 b0 b1 oc b2 b3 b4 b5 ++ (iw_ws a7 cI 256 bf ++ (iw_ws a8 cI 64 sc ++ (iw_ws a9 cI 8 st ++ (iw_ws b0 cI 8 kS ++ (iw_ws b1 cI 64 kR ++ (jw_ws a2 cJ 4 tf ++ (jw_ws a0 cJ 1232 nf ++ (jw_ws a1 cJ 616 cf ++ (iw_ws a4 cI 4 kf ++ (iw_ws b5 cI 64 ct ++ (jw_ws a3 cJ 16 lf)))))))))))) sz)) 0 0 (va_A (mo_ws m0 e0 (nI N) (nI n) (nI bc) (lN P) (lN Q) (lN G) (lN al) (lN pa) (lN pb) cl a0 a1 a2 a3 a4 a5 a6 a7 a8 a9 b0 b1 oc b2 b3 b4 b5 ++ (iw_ws a7 cI 256 bf ++ (iw_ws a8 cI 64 sc ++ (iw_ws a9 cI 8 st ++ (iw_ws b0 cI 8 kS ++ (iw_ws b1 cI 64 kR ++ (jw_ws a2 cJ 4 tf ++ (jw_ws a0 cJ 1232 nf ++ (jw_ws a1 cJ 616 cf ++ (iw_ws a4 cI 4 kf ++ (iw_ws b5 cI 64 ct ++ (jw_ws a3 cJ 16 lf)))))))))))) sz) := by
  refine Met.ofW (cc := b_Bm_holds) (maxL := 6) (ret := (some .boolean)) (by decide) rfl ?_
  intro p e s m args below meth c s₁ Bd hml hv
  obtain ⟨rfl, hsz, hP, hK, hD0⟩ := hv
  have hx := Bd.exec
  have hb := Bd.bytes
  have hr := Bd.returns
  have hts := atoms_spec (ws := w_Bm_holds) Bd.pre
  have hown : s.vm.findClass "BallotBoardModel" = some m.cls := findClass_of_methodNamed Bd.named
  have hlocks := Bd.notSynchronized
  subst hsz
  have hD := hD0.self (sz := s.heap.size)
  generalize hAe : va_A (mo_ws m0 e0 (nI N) (nI n) (nI bc) (lN P) (lN Q) (lN G) (lN al) (lN pa) (lN pb) cl a0 a1 a2 a3 a4 a5 a6 a7 a8 a9 b0 b1 oc b2 b3 b4 b5 ++ (iw_ws a7 cI 256 bf ++ (iw_ws a8 cI 64 sc ++ (iw_ws a9 cI 8 st ++ (iw_ws b0 cI 8 kS ++ (iw_ws b1 cI 64 kR ++ (jw_ws a2 cJ 4 tf ++ (jw_ws a0 cJ 1232 nf ++ (jw_ws a1 cJ 616 cf ++ (iw_ws a4 cI 4 kf ++ (iw_ws b5 cI 64 ct ++ (jw_ws a3 cJ 16 lf)))))))))))) s.heap.size = A at hD ⊢
  have hA : ∀ q : Nat, s.heap.size ≤ q → A q := fun q h => by rw [← hAe]; exact Or.inr h
  have hS : va_S A s.heap s.heap [] := va_S.rf
  have hl := lv_entry ([.ref m0, .int (nI k)]) (n := 6) (Nat.le_of_ble_eq_true rfl)
  rw [lg_entry_eq]
  generalize (lg_sl ([.ref m0, .int (nI k)]) ++ List.replicate (6 - (lg_sl ([.ref m0, .int (nI k)])).length) Slot.unset).toArray = ls at hl ⊢
  have hl : lv_has ls 6 [(0, .ref m0), (1, .int (nI k))] := hl
  obtain ⟨hkd, hr0, hr1, hb64, hwN⟩ := hwf.2.1 k hk
  have hn154 := hwf.1
  have hP62 : P < 2 ^ 62 := by omega
  have hPone : 1 < P := by omega
  have hAI := AI_aud (Q := Q) (G := G) (T0 := T0) (Lk := Lk) hN hPone hP62 hwf hE k (by omega) hall
  have htok := aud_ok (n := n) hPone hP62 h0k k hall
  have hCS : hds P Q G N T0 kd wh R Lk k → CR (k + 1) (aud P N T0 kd wh R (k + 1)) R (if kd k = 2 then upd ct (wh k) (nI k) else ct) := fun h => CR_step hP62 hwf hk hCR h.2
  obtain ⟨TA, hTA⟩ : ∃ T, T = aud P N T0 kd wh R k := ⟨_, rfl⟩
  rw [← hTA] at hAI htok hCR
  have hw8 := wdt_le2 (kd k)
  have hw5 := wdt_ge2 (kd k)
  have hmsg : [0, 0, 0, 0, nf (8 * k + 0), nf (8 * k + 1), nf (8 * k + 2), nf (8 * k + 3), nf (8 * k + 4)] = msgL (kd k) k (R k) Lk := by
    unfold msgL prvL rowL
    rw [if_pos hk0, if_neg (show ¬ kd k = 2 by omega), hnf k hk 0 (by omega), hnf k hk 1 (by omega), hnf k hk 2 (by omega), hnf k hk 3 (by omega), hnf k hk 4 (by omega)]
    rfl
  have hhk : hds P Q G N T0 kd wh R Lk k ↔ lnk4 (Lk k) (msgL (kd k) k (R k) Lk) ∧ keyHd P Q G (wh k) (R k 2) (R k 3) (R k 4) := by
    unfold hds prf
    rw [← hTA, if_pos hkK]
  refine lv_aload_n hx hb d_Bm_holds_0 rfl (lv_at hl 0 rfl) ?_
  refine lv_iload_n hx hb d_Bm_holds_1 rfl (lv_at hl 1 rfl) ?_
  have hPc := hP.sub (ws' := (mo_ws m0 e0 (nI N) (nI n) (nI bc) (lN P) (lN Q) (lN G) (lN al) (lN pa) (lN pb) cl a0 a1 a2 a3 a4 a5 a6 a7 a8 a9 b0 b1 oc b2 b3 b4 b5 ++ (iw_ws a7 cI 256 bf ++ (iw_ws a8 cI 64 sc ++ (iw_ws a9 cI 8 st ++ (iw_ws b0 cI 8 kS ++ (iw_ws b1 cI 64 kR ++ (jw_ws a2 cJ 4 tf ++ (jw_ws a0 cJ 1232 nf ++ (jw_ws a1 cJ 616 cf)))))))))) [0, 1, 2, 3, 4, 5, 6, 7, 8] rfl
  have hDc := hD.sub (ws' := (mo_ws m0 e0 (nI N) (nI n) (nI bc) (lN P) (lN Q) (lN G) (lN al) (lN pa) (lN pb) cl a0 a1 a2 a3 a4 a5 a6 a7 a8 a9 b0 b1 oc b2 b3 b4 b5 ++ (iw_ws a7 cI 256 bf ++ (iw_ws a8 cI 64 sc ++ (iw_ws a9 cI 8 st ++ (iw_ws b0 cI 8 kS ++ (iw_ws b1 cI 64 kR ++ (jw_ws a2 cJ 4 tf ++ (jw_ws a0 cJ 1232 nf ++ (jw_ws a1 cJ 616 cf)))))))))) [0, 1, 2, 3, 4, 5, 6, 7, 8] (by decide) rfl
  have hKc := hK.sub (tys' := [(cJ, .long), (cI, .int)]) [0, 1] rfl
  have hFc := va_free (wc := (mo_ws m0 e0 (nI N) (nI n) (nI bc) (lN P) (lN Q) (lN G) (lN al) (lN pa) (lN pb) cl a0 a1 a2 a3 a4 a5 a6 a7 a8 a9 b0 b1 oc b2 b3 b4 b5 ++ (iw_ws a7 cI 256 bf ++ (iw_ws a8 cI 64 sc ++ (iw_ws a9 cI 8 st ++ (iw_ws b0 cI 8 kS ++ (iw_ws b1 cI 64 kR ++ (jw_ws a2 cJ 4 tf ++ (jw_ws a0 cJ 1232 nf ++ (jw_ws a1 cJ 616 cf)))))))))) hD hS hA [0, 1, 2, 3, 4, 5, 6, 7, 8] rfl
  refine va_callv (va_runV (As := [.int (nI k)]) (rest := []) ⟨hx, hb, hml, hown, hts⟩ (c_Bm_link_0 l dC dI cJ cI s.heap.size m0 e0 (nI N) (nI n) (nI bc) (lN P) (lN Q) (lN G) (lN al) (lN pa) (lN pb) cl a0 a1 a2 a3 a4 a5 a6 a7 a8 a9 b0 b1 oc b2 b3 b4 b5 bf sc st tf nf cf k (msgL (kd k) k (R k) Lk) (by omega) hk0 (by rw [hnf k hk 0 (by omega), hr0, hkK]; exact fun h => absurd (lN_inj (b := 2) (by omega) (by omega) h) (by omega)) hmsg) (cwV 1 hts (gw_V gk_1098 gk_1100 gp_41 gk_7 gk_1101) rfl rfl rfl (by decide +kernel) ⟨Nat.le_of_ble_eq_true rfl, Nat.le_of_ble_eq_true rfl⟩) ⟨fun a U g mk q => by obtain ⟨q0, q1, qP, qK, qD⟩ := q; exact ⟨q0, q1, qP, va_K.moved (u := U) (U := U.calling g mk a) (Vm.Alike.refl U.vm) qK, qD⟩, va_recv hK hP (ci := 8) (q0 := 0) rfl rfl, fun U hU hW => ⟨rfl, by rw [hU], by rw [hU]; exact hPc, va_K.moved hW.alike hKc, hDc.weaken (fun _ _ _ _ => trivial)⟩⟩ rfl rfl hl.1 rfl (lv_room (Nat.le_of_ble_eq_true rfl)) d_Bm_holds_2 ⟨Nat.le_of_ble_eq_true rfl, Nat.le_of_ble_eq_true rfl⟩) hS (fun q _ h => hFc q h) hFc (fun u9 t9 H1 locs ht hvm hw hB hz1 hk1 hS => ?_)
  obtain ⟨gbk_1, gsk_1, gtk_1, gfk_1, gok_1⟩ := u9
  have hdg : dgo gtk_1 (msgL (kd k) k (R k) Lk) ∧ ∀ j, j < 4 → gfk_1 j = lkw (msgL (kd k) k (R k) Lk) j := hw
  obtain ⟨hP1, hK1, hD1⟩ := hB
  rw [ht] at hP1
  obtain ⟨hP, hD⟩ := va_join (wr := [(a4, .inl (cI, 4, .inl kf)), (b5, .inl (cI, 64, .inl ct)), (a3, .inl (cJ, 16, .inr (.inl lf)))]) (w1 := [(m0, .inr (8, [.int e0, .int (nI N), .int (nI n), .int (nI bc), .long (lN P), .long (lN Q), .long (lN G), .long (lN al), .long (lN pa), .long (lN pb), .int cl, .ref a0, .ref a1, .ref a2, .ref a3, .ref a4, .ref a5, .ref a6, .ref a7, .ref a8, .ref a9, .ref b0, .ref b1, .int (nI gok_1), .ref b2, .ref b3, .ref b4, .ref b5])), (a7, .inl (cI, 256, .inl gbk_1)), (a8, .inl (cI, 64, .inl gsk_1)), (a9, .inl (cI, 8, .inl gtk_1)), (b0, .inl (cI, 8, .inl kS)), (b1, .inl (cI, 64, .inl kR)), (a2, .inl (cJ, 4, .inr (.inl gfk_1))), (a0, .inl (cJ, 1232, .inr (.inl nf))), (a1, .inl (cJ, 616, .inr (.inl cf)))]) hP hD [0, 1, 2, 3, 4, 5, 6, 7, 8] [9, 10, 11] rfl rfl (by decide) (by decide) hk1 hFc hP1 hD1
  have hP := hP.sub (ws' := [(m0, .inr (8, [.int e0, .int (nI N), .int (nI n), .int (nI bc), .long (lN P), .long (lN Q), .long (lN G), .long (lN al), .long (lN pa), .long (lN pb), .int cl, .ref a0, .ref a1, .ref a2, .ref a3, .ref a4, .ref a5, .ref a6, .ref a7, .ref a8, .ref a9, .ref b0, .ref b1, .int (nI gok_1), .ref b2, .ref b3, .ref b4, .ref b5])), (a7, .inl (cI, 256, .inl gbk_1)), (a8, .inl (cI, 64, .inl gsk_1)), (a9, .inl (cI, 8, .inl gtk_1)), (b0, .inl (cI, 8, .inl kS)), (b1, .inl (cI, 64, .inl kR)), (a2, .inl (cJ, 4, .inr (.inl gfk_1))), (a0, .inl (cJ, 1232, .inr (.inl nf))), (a1, .inl (cJ, 616, .inr (.inl cf))), (a4, .inl (cI, 4, .inl kf)), (b5, .inl (cI, 64, .inl ct)), (a3, .inl (cJ, 16, .inr (.inl lf)))]) [3, 4, 5, 6, 7, 8, 9, 10, 11, 0, 1, 2] rfl
  have hD := hD.sub (ws' := [(m0, .inr (8, [.int e0, .int (nI N), .int (nI n), .int (nI bc), .long (lN P), .long (lN Q), .long (lN G), .long (lN al), .long (lN pa), .long (lN pb), .int cl, .ref a0, .ref a1, .ref a2, .ref a3, .ref a4, .ref a5, .ref a6, .ref a7, .ref a8, .ref a9, .ref b0, .ref b1, .int (nI gok_1), .ref b2, .ref b3, .ref b4, .ref b5])), (a7, .inl (cI, 256, .inl gbk_1)), (a8, .inl (cI, 64, .inl gsk_1)), (a9, .inl (cI, 8, .inl gtk_1)), (b0, .inl (cI, 8, .inl kS)), (b1, .inl (cI, 64, .inl kR)), (a2, .inl (cJ, 4, .inr (.inl gfk_1))), (a0, .inl (cJ, 1232, .inr (.inl nf))), (a1, .inl (cJ, 616, .inr (.inl cf))), (a4, .inl (cI, 4, .inl kf)), (b5, .inl (cI, 64, .inl ct)), (a3, .inl (cJ, 16, .inr (.inl lf)))]) [3, 4, 5, 6, 7, 8, 9, 10, 11, 0, 1, 2] (by decide) rfl
  generalize H1 = H at hP hS ⊢
  refine lv_iconst (v := 0) hx hb d_Bm_holds_5 (by decide) ?_
  refine lv_istore_n (lv' := [(2, .int 0), (0, .ref m0), (1, .int (nI k))]) hx hb d_Bm_holds_6 rfl hl (by decide) rfl (fun ls hl => ?_)
  refine lv_iload_n hx hb d_Bm_holds_7 rfl (lv_at hl 0 rfl) ?_
  refine lv_iconst (v := 4) hx hb d_Bm_holds_8 (by decide) ?_
  refine lv_icmp_ge (tgt := 40) hx hb d_Bm_holds_9 (by decide) (fun c_3 => ?_) (fun c_3 => ?_)
  · -- taken
    exact absurd c_3 (by decide)
  · -- not taken
    refine lv_aload_n hx hb d_Bm_holds_12 rfl (lv_at hl 1 rfl) ?_
    refine va_get (D := (dC, dI)) (ci := 8) (v := .ref a2) (C := "BallotBoardModel") (T := F_Bm) (N := 28) hx hb hts (fun w9 h9 => List.mem_cons_of_mem _ (i_Bm w9 h9)) hown hK hP 0 rfl rfl 13 (by decide) (hts _ (List.mem_cons_of_mem _ gk_932)) (fun _ h9 => h9) rfl d_Bm_holds_13 ?_
    refine lv_iload_n hx hb d_Bm_holds_16 rfl (lv_at hl 0 rfl) ?_
    refine va_lald hx hb hK hP 6 0 rfl rfl (vp_lit rfl) d_Bm_holds_17 ?_
    rw [show (gfk_1 (0 : Int32).toNatClampNeg : Int64) = gfk_1 0 from rfl]
    rw [show (gfk_1 0 : Int64) = (lkw (msgL (kd k) k (R k) Lk) 0) from hdg.2 0 (by omega)]
    refine lv_aload_n hx hb d_Bm_holds_18 rfl (lv_at hl 1 rfl) ?_
    refine va_get (D := (dC, dI)) (ci := 8) (v := .ref a1) (C := "BallotBoardModel") (T := F_Bm) (N := 28) hx hb hts (fun w9 h9 => List.mem_cons_of_mem _ (i_Bm w9 h9)) hown hK hP 0 rfl rfl 12 (by decide) (hts _ (List.mem_cons_of_mem _ gk_931)) (fun _ h9 => h9) rfl d_Bm_holds_19 ?_
    refine lv_iconst (v := 4) hx hb d_Bm_holds_22 (by decide) ?_
    refine lv_iload_n hx hb d_Bm_holds_23 rfl (lv_at hl 2 rfl) ?_
    refine lv_imul hx hb d_Bm_holds_24 ?_
    rw [show (4 * (nI k) : Int32) = (nI (4 * k)) from pk_mul 4 k]
    refine lv_iload_n hx hb d_Bm_holds_25 rfl (lv_at hl 0 rfl) ?_
    refine lv_iadd hx hb d_Bm_holds_26 ?_
    rw [show ((nI (4 * k)) + 0 : Int32) = (nI (4 * k + 0)) from nI_add _ 0]
    refine va_lald hx hb hK hP 8 0 rfl rfl (vp_in_nI (by omega) (by omega)) d_Bm_holds_27 ?_
    rw [show (cf (nI (4 * k + 0) : Int32).toNatClampNeg : Int64) = cf (4 * k + 0) from by rw [nI_clamp (by omega)]]
    rw [show (cf (4 * k + 0) : Int64) = (Lk k 0) from hcf k hk 0 (by omega)]
    refine W.lcmp hx hb d_Bm_holds_28 ?_
    refine lv_if_eq (tgt := 34) hx hb d_Bm_holds_29 (by decide) (fun c_4 => ?_) (fun c_4 => ?_)
    · -- taken
      have q0 := (lg_cmp_eq _ _).mp c_4
      obtain ⟨i_5, ei_5⟩ : ∃ y : Int32, y = 0 + 1 := ⟨_, rfl⟩
      refine lv_iinc (v := i_5) (lv' := [(2, .int i_5), (0, .ref m0), (1, .int (nI k))]) hx hb d_Bm_holds_34 hl (k := 0) rfl (by rw [ei_5]; rfl) (by decide) rfl (fun ls hl => ?_)
      obtain rfl : i_5 = 1 := by rw [ei_5]; exact by decide
      refine lv_goto (tgt := 7) hx hb d_Bm_holds_37 (by decide) ?_
      refine lv_iload_n hx hb d_Bm_holds_7 rfl (lv_at hl 0 rfl) ?_
      refine lv_iconst (v := 4) hx hb d_Bm_holds_8 (by decide) ?_
      refine lv_icmp_ge (tgt := 40) hx hb d_Bm_holds_9 (by decide) (fun c_6 => ?_) (fun c_6 => ?_)
      · -- taken
        exact absurd c_6 (by decide)
      · -- not taken
        refine lv_aload_n hx hb d_Bm_holds_12 rfl (lv_at hl 1 rfl) ?_
        refine va_get (D := (dC, dI)) (ci := 8) (v := .ref a2) (C := "BallotBoardModel") (T := F_Bm) (N := 28) hx hb hts (fun w9 h9 => List.mem_cons_of_mem _ (i_Bm w9 h9)) hown hK hP 0 rfl rfl 13 (by decide) (hts _ (List.mem_cons_of_mem _ gk_932)) (fun _ h9 => h9) rfl d_Bm_holds_13 ?_
        refine lv_iload_n hx hb d_Bm_holds_16 rfl (lv_at hl 0 rfl) ?_
        refine va_lald hx hb hK hP 6 0 rfl rfl (vp_lit rfl) d_Bm_holds_17 ?_
        rw [show (gfk_1 (1 : Int32).toNatClampNeg : Int64) = gfk_1 1 from rfl]
        rw [show (gfk_1 1 : Int64) = (lkw (msgL (kd k) k (R k) Lk) 1) from hdg.2 1 (by omega)]
        refine lv_aload_n hx hb d_Bm_holds_18 rfl (lv_at hl 1 rfl) ?_
        refine va_get (D := (dC, dI)) (ci := 8) (v := .ref a1) (C := "BallotBoardModel") (T := F_Bm) (N := 28) hx hb hts (fun w9 h9 => List.mem_cons_of_mem _ (i_Bm w9 h9)) hown hK hP 0 rfl rfl 12 (by decide) (hts _ (List.mem_cons_of_mem _ gk_931)) (fun _ h9 => h9) rfl d_Bm_holds_19 ?_
        refine lv_iconst (v := 4) hx hb d_Bm_holds_22 (by decide) ?_
        refine lv_iload_n hx hb d_Bm_holds_23 rfl (lv_at hl 2 rfl) ?_
        refine lv_imul hx hb d_Bm_holds_24 ?_
        rw [show (4 * (nI k) : Int32) = (nI (4 * k)) from pk_mul 4 k]
        refine lv_iload_n hx hb d_Bm_holds_25 rfl (lv_at hl 0 rfl) ?_
        refine lv_iadd hx hb d_Bm_holds_26 ?_
        rw [show ((nI (4 * k)) + 1 : Int32) = (nI (4 * k + 1)) from nI_add _ 1]
        refine va_lald hx hb hK hP 8 0 rfl rfl (vp_in_nI (by omega) (by omega)) d_Bm_holds_27 ?_
        rw [show (cf (nI (4 * k + 1) : Int32).toNatClampNeg : Int64) = cf (4 * k + 1) from by rw [nI_clamp (by omega)]]
        rw [show (cf (4 * k + 1) : Int64) = (Lk k 1) from hcf k hk 1 (by omega)]
        refine W.lcmp hx hb d_Bm_holds_28 ?_
        refine lv_if_eq (tgt := 34) hx hb d_Bm_holds_29 (by decide) (fun c_7 => ?_) (fun c_7 => ?_)
        · -- taken
          have q1 := (lg_cmp_eq _ _).mp c_7
          obtain ⟨i_8, ei_8⟩ : ∃ y : Int32, y = 1 + 1 := ⟨_, rfl⟩
          refine lv_iinc (v := i_8) (lv' := [(2, .int i_8), (0, .ref m0), (1, .int (nI k))]) hx hb d_Bm_holds_34 hl (k := 0) rfl (by rw [ei_8]; rfl) (by decide) rfl (fun ls hl => ?_)
          obtain rfl : i_8 = 2 := by rw [ei_8]; exact by decide
          refine lv_goto (tgt := 7) hx hb d_Bm_holds_37 (by decide) ?_
          refine lv_iload_n hx hb d_Bm_holds_7 rfl (lv_at hl 0 rfl) ?_
          refine lv_iconst (v := 4) hx hb d_Bm_holds_8 (by decide) ?_
          refine lv_icmp_ge (tgt := 40) hx hb d_Bm_holds_9 (by decide) (fun c_9 => ?_) (fun c_9 => ?_)
          · -- taken
            exact absurd c_9 (by decide)
          · -- not taken
            refine lv_aload_n hx hb d_Bm_holds_12 rfl (lv_at hl 1 rfl) ?_
            refine va_get (D := (dC, dI)) (ci := 8) (v := .ref a2) (C := "BallotBoardModel") (T := F_Bm) (N := 28) hx hb hts (fun w9 h9 => List.mem_cons_of_mem _ (i_Bm w9 h9)) hown hK hP 0 rfl rfl 13 (by decide) (hts _ (List.mem_cons_of_mem _ gk_932)) (fun _ h9 => h9) rfl d_Bm_holds_13 ?_
            refine lv_iload_n hx hb d_Bm_holds_16 rfl (lv_at hl 0 rfl) ?_
            refine va_lald hx hb hK hP 6 0 rfl rfl (vp_lit rfl) d_Bm_holds_17 ?_
            rw [show (gfk_1 (2 : Int32).toNatClampNeg : Int64) = gfk_1 2 from rfl]
            rw [show (gfk_1 2 : Int64) = (lkw (msgL (kd k) k (R k) Lk) 2) from hdg.2 2 (by omega)]
            refine lv_aload_n hx hb d_Bm_holds_18 rfl (lv_at hl 1 rfl) ?_
            refine va_get (D := (dC, dI)) (ci := 8) (v := .ref a1) (C := "BallotBoardModel") (T := F_Bm) (N := 28) hx hb hts (fun w9 h9 => List.mem_cons_of_mem _ (i_Bm w9 h9)) hown hK hP 0 rfl rfl 12 (by decide) (hts _ (List.mem_cons_of_mem _ gk_931)) (fun _ h9 => h9) rfl d_Bm_holds_19 ?_
            refine lv_iconst (v := 4) hx hb d_Bm_holds_22 (by decide) ?_
            refine lv_iload_n hx hb d_Bm_holds_23 rfl (lv_at hl 2 rfl) ?_
            refine lv_imul hx hb d_Bm_holds_24 ?_
            rw [show (4 * (nI k) : Int32) = (nI (4 * k)) from pk_mul 4 k]
            refine lv_iload_n hx hb d_Bm_holds_25 rfl (lv_at hl 0 rfl) ?_
            refine lv_iadd hx hb d_Bm_holds_26 ?_
            rw [show ((nI (4 * k)) + 2 : Int32) = (nI (4 * k + 2)) from nI_add _ 2]
            refine va_lald hx hb hK hP 8 0 rfl rfl (vp_in_nI (by omega) (by omega)) d_Bm_holds_27 ?_
            rw [show (cf (nI (4 * k + 2) : Int32).toNatClampNeg : Int64) = cf (4 * k + 2) from by rw [nI_clamp (by omega)]]
            rw [show (cf (4 * k + 2) : Int64) = (Lk k 2) from hcf k hk 2 (by omega)]
            refine W.lcmp hx hb d_Bm_holds_28 ?_
            refine lv_if_eq (tgt := 34) hx hb d_Bm_holds_29 (by decide) (fun c_10 => ?_) (fun c_10 => ?_)
            · -- taken
              have q2 := (lg_cmp_eq _ _).mp c_10
              obtain ⟨i_11, ei_11⟩ : ∃ y : Int32, y = 2 + 1 := ⟨_, rfl⟩
              refine lv_iinc (v := i_11) (lv' := [(2, .int i_11), (0, .ref m0), (1, .int (nI k))]) hx hb d_Bm_holds_34 hl (k := 0) rfl (by rw [ei_11]; rfl) (by decide) rfl (fun ls hl => ?_)
              obtain rfl : i_11 = 3 := by rw [ei_11]; exact by decide
              refine lv_goto (tgt := 7) hx hb d_Bm_holds_37 (by decide) ?_
              refine lv_iload_n hx hb d_Bm_holds_7 rfl (lv_at hl 0 rfl) ?_
              refine lv_iconst (v := 4) hx hb d_Bm_holds_8 (by decide) ?_
              refine lv_icmp_ge (tgt := 40) hx hb d_Bm_holds_9 (by decide) (fun c_12 => ?_) (fun c_12 => ?_)
              · -- taken
                exact absurd c_12 (by decide)
              · -- not taken
                refine lv_aload_n hx hb d_Bm_holds_12 rfl (lv_at hl 1 rfl) ?_
                refine va_get (D := (dC, dI)) (ci := 8) (v := .ref a2) (C := "BallotBoardModel") (T := F_Bm) (N := 28) hx hb hts (fun w9 h9 => List.mem_cons_of_mem _ (i_Bm w9 h9)) hown hK hP 0 rfl rfl 13 (by decide) (hts _ (List.mem_cons_of_mem _ gk_932)) (fun _ h9 => h9) rfl d_Bm_holds_13 ?_
                refine lv_iload_n hx hb d_Bm_holds_16 rfl (lv_at hl 0 rfl) ?_
                refine va_lald hx hb hK hP 6 0 rfl rfl (vp_lit rfl) d_Bm_holds_17 ?_
                rw [show (gfk_1 (3 : Int32).toNatClampNeg : Int64) = gfk_1 3 from rfl]
                rw [show (gfk_1 3 : Int64) = (lkw (msgL (kd k) k (R k) Lk) 3) from hdg.2 3 (by omega)]
                refine lv_aload_n hx hb d_Bm_holds_18 rfl (lv_at hl 1 rfl) ?_
                refine va_get (D := (dC, dI)) (ci := 8) (v := .ref a1) (C := "BallotBoardModel") (T := F_Bm) (N := 28) hx hb hts (fun w9 h9 => List.mem_cons_of_mem _ (i_Bm w9 h9)) hown hK hP 0 rfl rfl 12 (by decide) (hts _ (List.mem_cons_of_mem _ gk_931)) (fun _ h9 => h9) rfl d_Bm_holds_19 ?_
                refine lv_iconst (v := 4) hx hb d_Bm_holds_22 (by decide) ?_
                refine lv_iload_n hx hb d_Bm_holds_23 rfl (lv_at hl 2 rfl) ?_
                refine lv_imul hx hb d_Bm_holds_24 ?_
                rw [show (4 * (nI k) : Int32) = (nI (4 * k)) from pk_mul 4 k]
                refine lv_iload_n hx hb d_Bm_holds_25 rfl (lv_at hl 0 rfl) ?_
                refine lv_iadd hx hb d_Bm_holds_26 ?_
                rw [show ((nI (4 * k)) + 3 : Int32) = (nI (4 * k + 3)) from nI_add _ 3]
                refine va_lald hx hb hK hP 8 0 rfl rfl (vp_in_nI (by omega) (by omega)) d_Bm_holds_27 ?_
                rw [show (cf (nI (4 * k + 3) : Int32).toNatClampNeg : Int64) = cf (4 * k + 3) from by rw [nI_clamp (by omega)]]
                rw [show (cf (4 * k + 3) : Int64) = (Lk k 3) from hcf k hk 3 (by omega)]
                refine W.lcmp hx hb d_Bm_holds_28 ?_
                refine lv_if_eq (tgt := 34) hx hb d_Bm_holds_29 (by decide) (fun c_13 => ?_) (fun c_13 => ?_)
                · -- taken
                  have q3 := (lg_cmp_eq _ _).mp c_13
                  obtain ⟨i_14, ei_14⟩ : ∃ y : Int32, y = 3 + 1 := ⟨_, rfl⟩
                  refine lv_iinc (v := i_14) (lv' := [(2, .int i_14), (0, .ref m0), (1, .int (nI k))]) hx hb d_Bm_holds_34 hl (k := 0) rfl (by rw [ei_14]; rfl) (by decide) rfl (fun ls hl => ?_)
                  obtain rfl : i_14 = 4 := by rw [ei_14]; exact by decide
                  refine lv_goto (tgt := 7) hx hb d_Bm_holds_37 (by decide) ?_
                  refine lv_iload_n hx hb d_Bm_holds_7 rfl (lv_at hl 0 rfl) ?_
                  refine lv_iconst (v := 4) hx hb d_Bm_holds_8 (by decide) ?_
                  refine lv_icmp_ge (tgt := 40) hx hb d_Bm_holds_9 (by decide) (fun c_15 => ?_) (fun c_15 => ?_)
                  · -- taken
                    have hln : lnk4 (Lk k) (msgL (kd k) k (R k) Lk) := ⟨q0.symm, q1.symm, q2.symm, q3.symm⟩
                    have hwk64 : wh k < 64 := by
                      by_cases e9 : kd k = 2
                      · exact hb64 e9
                      · have := hwN e9
                        omega
                    refine lv_aload_n hx hb d_Bm_holds_40 rfl (lv_at hl 1 rfl) ?_
                    refine lv_iload_n hx hb d_Bm_holds_41 rfl (lv_at hl 2 rfl) ?_
                    refine lv_iconst (v := 1) hx hb d_Bm_holds_42 (by decide) ?_
                    have hPc := hP.sub (ws' := (mo_ws m0 e0 (nI N) (nI n) (nI bc) (lN P) (lN Q) (lN G) (lN al) (lN pa) (lN pb) cl a0 a1 a2 a3 a4 a5 a6 a7 a8 a9 b0 b1 gok_1 b2 b3 b4 b5 ++ (jw_ws a0 cJ 1232 nf))) [0, 7] rfl
                    have hKc := hK.sub (tys' := [(cJ, .long), (cI, .int)]) [0, 1] rfl
                    refine va_calll (va_runV (As := [.int (nI k), .int 1]) (rest := []) ⟨hx, hb, hml, hown, hts⟩ (c_Bm_at l H dC dI cJ cI m0 e0 (nI N) (nI n) (nI bc) (lN P) (lN Q) (lN G) (lN al) (lN pa) (lN pb) cl a0 a1 a2 a3 a4 a5 a6 a7 a8 a9 b0 b1 gok_1 b2 b3 b4 b5 nf k 1 hPc (by omega)) (cwV 2 hts (gw_V gk_1102 gk_1104 gp_42 gk_7 gk_1105) rfl rfl rfl (by decide +kernel) ⟨Nat.le_of_ble_eq_true rfl, Nat.le_of_ble_eq_true rfl⟩) ⟨fun a U g mk q => ⟨q.1, q.2.1, va_K.moved (u := U) (U := U.calling g mk a) (Vm.Alike.refl U.vm) q.2.2⟩, va_recv hK hP (ci := 8) (q0 := 0) rfl rfl, fun U hU hW => ⟨rfl, hU, va_K.moved hW.alike hKc⟩⟩ rfl rfl hl.1 rfl (lv_room (Nat.le_of_ble_eq_true rfl)) d_Bm_holds_43 ⟨Nat.le_of_ble_eq_true rfl, Nat.le_of_ble_eq_true rfl⟩) hS (fun q _ h => h.elim) (fun q h => h.elim) (fun r43 u9 t9 H1 locs ht hvm hw hB hz1 hk1 hS => ?_)
                    obtain rfl : H = H1 := hB.symm.trans ht
                    have hw : r43 = nf (8 * k + 1) := hw
                    subst hw
                    rw [show (nf (8 * k + 1) : Int64) = (lN (wh k)) from (hnf k hk 1 (by omega)).trans hr1]
                    refine lv_l2i (v := (lN (wh k) : Int64).toInt32) hx hb d_Bm_holds_46 rfl ?_
                    rw [show ((lN (wh k) : Int64).toInt32 : Int32) = (nI (wh k)) from lN_toI (by omega)]
                    refine lv_istore_n (lv' := [(2, .int (nI (wh k))), (0, .ref m0), (1, .int (nI k))]) hx hb d_Bm_holds_47 rfl hl (by decide) rfl (fun ls hl => ?_)
                    refine lv_aload_n hx hb d_Bm_holds_48 rfl (lv_at hl 1 rfl) ?_
                    refine lv_iload_n hx hb d_Bm_holds_49 rfl (lv_at hl 2 rfl) ?_
                    refine lv_iconst (v := 0) hx hb d_Bm_holds_50 (by decide) ?_
                    have hPc := hP.sub (ws' := (mo_ws m0 e0 (nI N) (nI n) (nI bc) (lN P) (lN Q) (lN G) (lN al) (lN pa) (lN pb) cl a0 a1 a2 a3 a4 a5 a6 a7 a8 a9 b0 b1 gok_1 b2 b3 b4 b5 ++ (jw_ws a0 cJ 1232 nf))) [0, 7] rfl
                    have hKc := hK.sub (tys' := [(cJ, .long), (cI, .int)]) [0, 1] rfl
                    refine va_calll (va_runV (As := [.int (nI k), .int 0]) (rest := []) ⟨hx, hb, hml, hown, hts⟩ (c_Bm_at l H dC dI cJ cI m0 e0 (nI N) (nI n) (nI bc) (lN P) (lN Q) (lN G) (lN al) (lN pa) (lN pb) cl a0 a1 a2 a3 a4 a5 a6 a7 a8 a9 b0 b1 gok_1 b2 b3 b4 b5 nf k 0 hPc (by omega)) (cwV 2 hts (gw_V gk_1102 gk_1104 gp_42 gk_7 gk_1105) rfl rfl rfl (by decide +kernel) ⟨Nat.le_of_ble_eq_true rfl, Nat.le_of_ble_eq_true rfl⟩) ⟨fun a U g mk q => ⟨q.1, q.2.1, va_K.moved (u := U) (U := U.calling g mk a) (Vm.Alike.refl U.vm) q.2.2⟩, va_recv hK hP (ci := 8) (q0 := 0) rfl rfl, fun U hU hW => ⟨rfl, hU, va_K.moved hW.alike hKc⟩⟩ rfl rfl hl.1 rfl (lv_room (Nat.le_of_ble_eq_true rfl)) d_Bm_holds_51 ⟨Nat.le_of_ble_eq_true rfl, Nat.le_of_ble_eq_true rfl⟩) hS (fun q _ h => h.elim) (fun q h => h.elim) (fun r51 u9 t9 H1 locs ht hvm hw hB hz1 hk1 hS => ?_)
                    obtain rfl : H = H1 := hB.symm.trans ht
                    have hw : r51 = nf (8 * k + 0) := hw
                    subst hw
                    rw [show (nf (8 * k + 0) : Int64) = (lN 1) from (hnf k hk 0 (by omega)).trans (by rw [hr0, hkK])]
                    refine lv_lconst (v := 1) hx hb d_Bm_holds_54 (by decide) ?_
                    refine W.lcmp hx hb d_Bm_holds_55 ?_
                    refine lv_if_ne (tgt := 83) hx hb d_Bm_holds_56 (by decide) (fun c_16 => ?_) (fun c_16 => ?_)
                    · -- taken
                      exact absurd ((cmpe (k := 1) (by omega) 1 (by omega) rfl).mpr rfl) c_16
                    · -- not taken
                      refine lv_aload_n hx hb d_Bm_holds_59 rfl (lv_at hl 1 rfl) ?_
                      refine lv_iload_n hx hb d_Bm_holds_60 rfl (lv_at hl 0 rfl) ?_
                      refine lv_aload_n hx hb d_Bm_holds_61 rfl (lv_at hl 1 rfl) ?_
                      refine lv_iload_n hx hb d_Bm_holds_62 rfl (lv_at hl 2 rfl) ?_
                      refine lv_iconst (v := 2) hx hb d_Bm_holds_63 (by decide) ?_
                      have hPc := hP.sub (ws' := (mo_ws m0 e0 (nI N) (nI n) (nI bc) (lN P) (lN Q) (lN G) (lN al) (lN pa) (lN pb) cl a0 a1 a2 a3 a4 a5 a6 a7 a8 a9 b0 b1 gok_1 b2 b3 b4 b5 ++ (jw_ws a0 cJ 1232 nf))) [0, 7] rfl
                      have hKc := hK.sub (tys' := [(cJ, .long), (cI, .int)]) [0, 1] rfl
                      refine va_calll (va_runV (As := [.int (nI k), .int 2]) (rest := [.int (nI (wh k)), .ref m0]) ⟨hx, hb, hml, hown, hts⟩ (c_Bm_at l H dC dI cJ cI m0 e0 (nI N) (nI n) (nI bc) (lN P) (lN Q) (lN G) (lN al) (lN pa) (lN pb) cl a0 a1 a2 a3 a4 a5 a6 a7 a8 a9 b0 b1 gok_1 b2 b3 b4 b5 nf k 2 hPc (by omega)) (cwV 2 hts (gw_V gk_1102 gk_1104 gp_42 gk_7 gk_1105) rfl rfl rfl (by decide +kernel) ⟨Nat.le_of_ble_eq_true rfl, Nat.le_of_ble_eq_true rfl⟩) ⟨fun a U g mk q => ⟨q.1, q.2.1, va_K.moved (u := U) (U := U.calling g mk a) (Vm.Alike.refl U.vm) q.2.2⟩, va_recv hK hP (ci := 8) (q0 := 0) rfl rfl, fun U hU hW => ⟨rfl, hU, va_K.moved hW.alike hKc⟩⟩ rfl rfl hl.1 rfl (lv_room (Nat.le_of_ble_eq_true rfl)) d_Bm_holds_64 ⟨Nat.le_of_ble_eq_true rfl, Nat.le_of_ble_eq_true rfl⟩) hS (fun q _ h => h.elim) (fun q h => h.elim) (fun r64 u9 t9 H1 locs ht hvm hw hB hz1 hk1 hS => ?_)
                      obtain rfl : H = H1 := hB.symm.trans ht
                      have hw : r64 = nf (8 * k + 2) := hw
                      subst hw
                      rw [show (nf (8 * k + 2) : Int64) = (R k 2) from hnf k hk 2 (by omega)]
                      refine lv_aload_n hx hb d_Bm_holds_67 rfl (lv_at hl 1 rfl) ?_
                      refine lv_iload_n hx hb d_Bm_holds_68 rfl (lv_at hl 2 rfl) ?_
                      refine lv_iconst (v := 3) hx hb d_Bm_holds_69 (by decide) ?_
                      have hPc := hP.sub (ws' := (mo_ws m0 e0 (nI N) (nI n) (nI bc) (lN P) (lN Q) (lN G) (lN al) (lN pa) (lN pb) cl a0 a1 a2 a3 a4 a5 a6 a7 a8 a9 b0 b1 gok_1 b2 b3 b4 b5 ++ (jw_ws a0 cJ 1232 nf))) [0, 7] rfl
                      have hKc := hK.sub (tys' := [(cJ, .long), (cI, .int)]) [0, 1] rfl
                      refine va_calll (va_runV (As := [.int (nI k), .int 3]) (rest := [.long (R k 2), .int (nI (wh k)), .ref m0]) ⟨hx, hb, hml, hown, hts⟩ (c_Bm_at l H dC dI cJ cI m0 e0 (nI N) (nI n) (nI bc) (lN P) (lN Q) (lN G) (lN al) (lN pa) (lN pb) cl a0 a1 a2 a3 a4 a5 a6 a7 a8 a9 b0 b1 gok_1 b2 b3 b4 b5 nf k 3 hPc (by omega)) (cwV 2 hts (gw_V gk_1102 gk_1104 gp_42 gk_7 gk_1105) rfl rfl rfl (by decide +kernel) ⟨Nat.le_of_ble_eq_true rfl, Nat.le_of_ble_eq_true rfl⟩) ⟨fun a U g mk q => ⟨q.1, q.2.1, va_K.moved (u := U) (U := U.calling g mk a) (Vm.Alike.refl U.vm) q.2.2⟩, va_recv hK hP (ci := 8) (q0 := 0) rfl rfl, fun U hU hW => ⟨rfl, hU, va_K.moved hW.alike hKc⟩⟩ rfl rfl hl.1 rfl (lv_room (Nat.le_of_ble_eq_true rfl)) d_Bm_holds_70 ⟨Nat.le_of_ble_eq_true rfl, Nat.le_of_ble_eq_true rfl⟩) hS (fun q _ h => h.elim) (fun q h => h.elim) (fun r70 u9 t9 H1 locs ht hvm hw hB hz1 hk1 hS => ?_)
                      obtain rfl : H = H1 := hB.symm.trans ht
                      have hw : r70 = nf (8 * k + 3) := hw
                      subst hw
                      rw [show (nf (8 * k + 3) : Int64) = (R k 3) from hnf k hk 3 (by omega)]
                      refine lv_aload_n hx hb d_Bm_holds_73 rfl (lv_at hl 1 rfl) ?_
                      refine lv_iload_n hx hb d_Bm_holds_74 rfl (lv_at hl 2 rfl) ?_
                      refine lv_iconst (v := 4) hx hb d_Bm_holds_75 (by decide) ?_
                      have hPc := hP.sub (ws' := (mo_ws m0 e0 (nI N) (nI n) (nI bc) (lN P) (lN Q) (lN G) (lN al) (lN pa) (lN pb) cl a0 a1 a2 a3 a4 a5 a6 a7 a8 a9 b0 b1 gok_1 b2 b3 b4 b5 ++ (jw_ws a0 cJ 1232 nf))) [0, 7] rfl
                      have hKc := hK.sub (tys' := [(cJ, .long), (cI, .int)]) [0, 1] rfl
                      refine va_calll (va_runV (As := [.int (nI k), .int 4]) (rest := [.long (R k 3), .long (R k 2), .int (nI (wh k)), .ref m0]) ⟨hx, hb, hml, hown, hts⟩ (c_Bm_at l H dC dI cJ cI m0 e0 (nI N) (nI n) (nI bc) (lN P) (lN Q) (lN G) (lN al) (lN pa) (lN pb) cl a0 a1 a2 a3 a4 a5 a6 a7 a8 a9 b0 b1 gok_1 b2 b3 b4 b5 nf k 4 hPc (by omega)) (cwV 2 hts (gw_V gk_1102 gk_1104 gp_42 gk_7 gk_1105) rfl rfl rfl (by decide +kernel) ⟨Nat.le_of_ble_eq_true rfl, Nat.le_of_ble_eq_true rfl⟩) ⟨fun a U g mk q => ⟨q.1, q.2.1, va_K.moved (u := U) (U := U.calling g mk a) (Vm.Alike.refl U.vm) q.2.2⟩, va_recv hK hP (ci := 8) (q0 := 0) rfl rfl, fun U hU hW => ⟨rfl, hU, va_K.moved hW.alike hKc⟩⟩ rfl rfl hl.1 rfl (lv_room (Nat.le_of_ble_eq_true rfl)) d_Bm_holds_76 ⟨Nat.le_of_ble_eq_true rfl, Nat.le_of_ble_eq_true rfl⟩) hS (fun q _ h => h.elim) (fun q h => h.elim) (fun r76 u9 t9 H1 locs ht hvm hw hB hz1 hk1 hS => ?_)
                      obtain rfl : H = H1 := hB.symm.trans ht
                      have hw : r76 = nf (8 * k + 4) := hw
                      subst hw
                      rw [show (nf (8 * k + 4) : Int64) = (R k 4) from hnf k hk 4 (by omega)]
                      have hPc := hP.sub (ws' := (mo_ws m0 e0 (nI N) (nI n) (nI bc) (lN P) (lN Q) (lN G) (lN al) (lN pa) (lN pb) cl a0 a1 a2 a3 a4 a5 a6 a7 a8 a9 b0 b1 gok_1 b2 b3 b4 b5 ++ (iw_ws a7 cI 256 gbk_1 ++ (iw_ws a8 cI 64 gsk_1 ++ (iw_ws a9 cI 8 gtk_1 ++ (iw_ws b0 cI 8 kS ++ (iw_ws b1 cI 64 kR ++ (jw_ws a2 cJ 4 gfk_1 ++ (jw_ws a3 cJ 16 lf))))))))) [0, 1, 2, 3, 4, 5, 6, 11] rfl
                      have hDc := hD.sub (ws' := (mo_ws m0 e0 (nI N) (nI n) (nI bc) (lN P) (lN Q) (lN G) (lN al) (lN pa) (lN pb) cl a0 a1 a2 a3 a4 a5 a6 a7 a8 a9 b0 b1 gok_1 b2 b3 b4 b5 ++ (iw_ws a7 cI 256 gbk_1 ++ (iw_ws a8 cI 64 gsk_1 ++ (iw_ws a9 cI 8 gtk_1 ++ (iw_ws b0 cI 8 kS ++ (iw_ws b1 cI 64 kR ++ (jw_ws a2 cJ 4 gfk_1 ++ (jw_ws a3 cJ 16 lf))))))))) [0, 1, 2, 3, 4, 5, 6, 11] (by decide) rfl
                      have hKc := hK.sub (tys' := [(cJ, .long), (cI, .int)]) [0, 1] rfl
                      have hFc := va_free (wc := (mo_ws m0 e0 (nI N) (nI n) (nI bc) (lN P) (lN Q) (lN G) (lN al) (lN pa) (lN pb) cl a0 a1 a2 a3 a4 a5 a6 a7 a8 a9 b0 b1 gok_1 b2 b3 b4 b5 ++ (iw_ws a7 cI 256 gbk_1 ++ (iw_ws a8 cI 64 gsk_1 ++ (iw_ws a9 cI 8 gtk_1 ++ (iw_ws b0 cI 8 kS ++ (iw_ws b1 cI 64 kR ++ (jw_ws a2 cJ 4 gfk_1 ++ (jw_ws a3 cJ 16 lf))))))))) hD hS hA [0, 1, 2, 3, 4, 5, 6, 11] rfl
                      refine va_calli (va_runV (As := [.int (nI (wh k)), .long (R k 2), .long (R k 3), .long (R k 4)]) (rest := []) ⟨hx, hb, hml, hown, hts⟩ (c_Bm_keyHolds l dC dI cJ cI H.size m0 e0 (nI N) (nI n) (nI bc) (lN al) (lN pa) (lN pb) cl a0 a1 a2 a3 a4 a5 a6 a7 a8 a9 b0 b1 gok_1 b2 b3 b4 b5 P Q G gbk_1 gsk_1 gtk_1 gfk_1 lf (wh k) (R k 2) (R k 3) (R k 4) hPQ h61F hQ3 hG2 hGP hGQ (by omega)) (cwV 4 hts (gw_V gk_1038 gk_1040 gp_28 gk_7 gk_1041) rfl rfl rfl (by decide +kernel) ⟨Nat.le_of_ble_eq_true rfl, Nat.le_of_ble_eq_true rfl⟩) ⟨fun a U g mk q => by obtain ⟨q0, q1, qP, qK, qD⟩ := q; exact ⟨q0, q1, qP, va_K.moved (u := U) (U := U.calling g mk a) (Vm.Alike.refl U.vm) qK, qD⟩, va_recv hK hP (ci := 8) (q0 := 0) rfl rfl, fun U hU hW => ⟨rfl, by rw [hU], by rw [hU]; exact hPc, va_K.moved hW.alike hKc, hDc.weaken (fun _ _ _ _ => trivial)⟩⟩ rfl rfl hl.1 rfl (lv_room (Nat.le_of_ble_eq_true rfl)) d_Bm_holds_79 ⟨Nat.le_of_ble_eq_true rfl, Nat.le_of_ble_eq_true rfl⟩) hS (fun q _ h => hFc q h) hFc (fun r_18 u9 t9 H1 locs ht hvm hw hB hz1 hk1 hS => ?_)
                      obtain ⟨⟨gbk_17, gsk_17, gtk_17, gfk_17, gok_17⟩, glk_17⟩ := u9
                      have hr_18 := hw
                      obtain ⟨hP1, hK1, hD1⟩ := hB
                      rw [ht] at hP1
                      obtain ⟨hP, hD⟩ := va_join (wr := [(a0, .inl (cJ, 1232, .inr (.inl nf))), (a1, .inl (cJ, 616, .inr (.inl cf))), (a4, .inl (cI, 4, .inl kf)), (b5, .inl (cI, 64, .inl ct))]) (w1 := [(m0, .inr (8, [.int e0, .int (nI N), .int (nI n), .int (nI bc), .long (lN P), .long (lN Q), .long (lN G), .long (lN al), .long (lN pa), .long (lN pb), .int cl, .ref a0, .ref a1, .ref a2, .ref a3, .ref a4, .ref a5, .ref a6, .ref a7, .ref a8, .ref a9, .ref b0, .ref b1, .int (nI gok_17), .ref b2, .ref b3, .ref b4, .ref b5])), (a7, .inl (cI, 256, .inl gbk_17)), (a8, .inl (cI, 64, .inl gsk_17)), (a9, .inl (cI, 8, .inl gtk_17)), (b0, .inl (cI, 8, .inl kS)), (b1, .inl (cI, 64, .inl kR)), (a2, .inl (cJ, 4, .inr (.inl gfk_17))), (a3, .inl (cJ, 16, .inr (.inl glk_17)))]) hP hD [0, 1, 2, 3, 4, 5, 6, 11] [7, 8, 9, 10] rfl rfl (by decide) (by decide) hk1 hFc hP1 hD1
                      have hP := hP.sub (ws' := [(m0, .inr (8, [.int e0, .int (nI N), .int (nI n), .int (nI bc), .long (lN P), .long (lN Q), .long (lN G), .long (lN al), .long (lN pa), .long (lN pb), .int cl, .ref a0, .ref a1, .ref a2, .ref a3, .ref a4, .ref a5, .ref a6, .ref a7, .ref a8, .ref a9, .ref b0, .ref b1, .int (nI gok_17), .ref b2, .ref b3, .ref b4, .ref b5])), (a7, .inl (cI, 256, .inl gbk_17)), (a8, .inl (cI, 64, .inl gsk_17)), (a9, .inl (cI, 8, .inl gtk_17)), (b0, .inl (cI, 8, .inl kS)), (b1, .inl (cI, 64, .inl kR)), (a2, .inl (cJ, 4, .inr (.inl gfk_17))), (a0, .inl (cJ, 1232, .inr (.inl nf))), (a1, .inl (cJ, 616, .inr (.inl cf))), (a4, .inl (cI, 4, .inl kf)), (b5, .inl (cI, 64, .inl ct)), (a3, .inl (cJ, 16, .inr (.inl glk_17)))]) [4, 5, 6, 7, 8, 9, 10, 0, 1, 2, 3, 11] rfl
                      have hD := hD.sub (ws' := [(m0, .inr (8, [.int e0, .int (nI N), .int (nI n), .int (nI bc), .long (lN P), .long (lN Q), .long (lN G), .long (lN al), .long (lN pa), .long (lN pb), .int cl, .ref a0, .ref a1, .ref a2, .ref a3, .ref a4, .ref a5, .ref a6, .ref a7, .ref a8, .ref a9, .ref b0, .ref b1, .int (nI gok_17), .ref b2, .ref b3, .ref b4, .ref b5])), (a7, .inl (cI, 256, .inl gbk_17)), (a8, .inl (cI, 64, .inl gsk_17)), (a9, .inl (cI, 8, .inl gtk_17)), (b0, .inl (cI, 8, .inl kS)), (b1, .inl (cI, 64, .inl kR)), (a2, .inl (cJ, 4, .inr (.inl gfk_17))), (a0, .inl (cJ, 1232, .inr (.inl nf))), (a1, .inl (cJ, 616, .inr (.inl cf))), (a4, .inl (cI, 4, .inl kf)), (b5, .inl (cI, 64, .inl ct)), (a3, .inl (cJ, 16, .inr (.inl glk_17)))]) [4, 5, 6, 7, 8, 9, 10, 0, 1, 2, 3, 11] (by decide) rfl
                      generalize H1 = H at hP hS ⊢
                      skip
                      exact W.zret (v := r_18) hx hb hr (by rcases hr_18 with ⟨h, _⟩ | ⟨h, _⟩ <;> rw [h] <;> decide) (fun t ht9 hW => ⟨⟨_, ((gbk_17, gsk_17, gtk_17, gfk_17, gok_17), glk_17, ct), rfl, ⟨bz_iff hr_18 ⟨fun h => hhk.mpr ⟨hln, h⟩, fun h => (hhk.mp h).2⟩, fun h => by
                        have h9 := hCS h
                        rw [if_neg (show ¬ kd k = 2 by omega)] at h9
                        exact h9⟩, by rw [ht9]; exact hP, va_K.moved hW.alike hK, hD⟩, hS.F ht9⟩) hS.2.2 d_Bm_holds_82
                  · -- not taken
                    exact absurd c_15 (by decide)
                · -- not taken
                  have hbad : ¬ hds P Q G N T0 kd wh R Lk k := fun h => c_13 ((lg_cmp_eq _ _).mpr (hhk.mp h).1.2.2.2.symm)
                  refine lv_iconst (v := 0) hx hb d_Bm_holds_32 (by decide) ?_
                  exact W.zret (v := 0) hx hb hr (by decide) (fun t ht9 hW => ⟨⟨_, ((gbk_1, gsk_1, gtk_1, gfk_1, gok_1), lf, ct), rfl, ⟨bz_0 hbad, fun h => absurd h hbad⟩, by rw [ht9]; exact hP, va_K.moved hW.alike hK, hD⟩, hS.F ht9⟩) hS.2.2 d_Bm_holds_33
            · -- not taken
              have hbad : ¬ hds P Q G N T0 kd wh R Lk k := fun h => c_10 ((lg_cmp_eq _ _).mpr (hhk.mp h).1.2.2.1.symm)
              refine lv_iconst (v := 0) hx hb d_Bm_holds_32 (by decide) ?_
              exact W.zret (v := 0) hx hb hr (by decide) (fun t ht9 hW => ⟨⟨_, ((gbk_1, gsk_1, gtk_1, gfk_1, gok_1), lf, ct), rfl, ⟨bz_0 hbad, fun h => absurd h hbad⟩, by rw [ht9]; exact hP, va_K.moved hW.alike hK, hD⟩, hS.F ht9⟩) hS.2.2 d_Bm_holds_33
        · -- not taken
          have hbad : ¬ hds P Q G N T0 kd wh R Lk k := fun h => c_7 ((lg_cmp_eq _ _).mpr (hhk.mp h).1.2.1.symm)
          refine lv_iconst (v := 0) hx hb d_Bm_holds_32 (by decide) ?_
          exact W.zret (v := 0) hx hb hr (by decide) (fun t ht9 hW => ⟨⟨_, ((gbk_1, gsk_1, gtk_1, gfk_1, gok_1), lf, ct), rfl, ⟨bz_0 hbad, fun h => absurd h hbad⟩, by rw [ht9]; exact hP, va_K.moved hW.alike hK, hD⟩, hS.F ht9⟩) hS.2.2 d_Bm_holds_33
    · -- not taken
      have hbad : ¬ hds P Q G N T0 kd wh R Lk k := fun h => c_4 ((lg_cmp_eq _ _).mpr (hhk.mp h).1.1.symm)
      refine lv_iconst (v := 0) hx hb d_Bm_holds_32 (by decide) ?_
      exact W.zret (v := 0) hx hb hr (by decide) (fun t ht9 hW => ⟨⟨_, ((gbk_1, gsk_1, gtk_1, gfk_1, gok_1), lf, ct), rfl, ⟨bz_0 hbad, fun h => absurd h hbad⟩, by rw [ht9]; exact hP, va_K.moved hW.alike hK, hD⟩, hS.F ht9⟩) hS.2.2 d_Bm_holds_33
set_option maxHeartbeats 8000000 in
set_option maxRecDepth 100000 in
theorem c_Bm_holds_15 (l : Launch) (dC : Nat → ClassId) (dI : Nat → Nat → Nat) (cJ cI : ClassId) (sz : Nat) (m0 : Nat) (e0 : Int32) (N n bc P Q G al pa pb : Nat) (cl : Int32) (a0 a1 a2 a3 a4 a5 a6 a7 a8 a9 b0 b1 oc b2 b3 b4 b5 : Nat) (bf sc st kf ct : Nat → Int32) (tf nf cf lf : Nat → Int64) (T0 : TS) (kd wh : Nat → Nat) (R Lk : Nat → Nat → Int64) (k : Nat) (hPQ : P = 2 * Q + 1) (h61F : P < 2 ^ 61) (hQ3 : 3 ≤ Q) (hG2 : 2 ≤ G) (hGP : G < P) (hGQ : G ^ Q % P = 1) (hN : N ≤ 4) (hN0 : 0 < N) (hwf : wfE n N kd wh R) (hE : EI n N kd wh) (hnf : ∀ e, e < n → ∀ j, j < wdt (kd e) → nf (8 * e + j) = R e j) (hcf : ∀ e, e < n → ∀ j, j < 4 → cf (4 * e + j) = Lk e j) (hkf : ∀ e, e < n → kd e = 1 → kf (wh e) = nI e) (h0k : tOk P N (tStart N T0)) (hk : k < n) (hkK : kd k = 1) (hk0 : 0 < k) (hall : ∀ i, i < k → hds P Q G N T0 kd wh R Lk i) (hCR : CR k (aud P N T0 kd wh R k) R ct) : Met l y_Bm_holds w_Bm_holds ({ frames := 7, cells := 0, slots := 0, locals := 236 }) (va_Pc [.ref m0, .int (nI k)] (fun U => U.heap.size = sz ∧ va_P (dC, dI) classes (mo_ws m0 e0 (nI N) (nI n) (nI bc) (lN P) (lN Q) (lN G) (lN al) (lN pa) (lN pb) cl a0 a1 a2 a3 a4 a5 a6 a7 a8 a9 b0 b1 oc b2 b3 b4 b5 ++ (iw_ws a7 cI 256 bf ++ (iw_ws a8 cI 64 sc ++ (iw_ws a9 cI 8 st ++ (iw_ws b0 cI 8 kS ++ (iw_ws b1 cI 64 kR ++ (jw_ws a2 cJ 4 tf ++ (jw_ws a0 cJ 1232 nf ++ (jw_ws a1 cJ 616 cf ++ (iw_ws a4 cI 4 kf ++ (iw_ws b5 cI 64 ct ++ (jw_ws a3 cJ 16 lf)))))))))))) U.heap ∧ va_K (dC, dI) classes [(cJ, .long), (cI, .int)] U ∧ va_D (fun _ => True) (mo_ws m0 e0 (nI N) (nI n) (nI bc) (lN P) (lN Q) (lN G) (lN al) (lN pa) (lN pb) cl a0 a1 a2 a3 a4 a5 a6 a7 a8 a9 b0 b1 oc b2 b3 b4 b5 ++ (iw_ws a7 cI 256 bf ++ (iw_ws a8 cI 64 sc ++ (iw_ws a9 cI 8 st ++ (iw_ws b0 cI 8 kS ++ (iw_ws b1 cI 64 kR ++ (jw_ws a2 cJ 4 tf ++ (jw_ws a0 cJ 1232 nf ++ (jw_ws a1 cJ 616 cf ++ (iw_ws a4 cI 4 kf ++ (iw_ws b5 cI 64 ct ++ (jw_ws a3 cJ 16 lf)))))))))))))) (va_Qi (fun (r : Int32) (u9 : DU × (Nat → Int64) × (Nat → Int32)) => bz r (hds P Q G N T0 kd wh R Lk k) ∧ (hds P Q G N T0 kd wh R Lk k → CR (k + 1) (aud P N T0 kd wh R (k + 1)) R u9.2.2)) (fun u9 t => va_P (dC, dI) classes (mo_ws m0 e0 (nI N) (nI n) (nI bc) (lN P) (lN Q) (lN G) (lN al) (lN pa) (lN pb) cl a0 a1 a2 a3 a4 a5 a6 a7 a8 a9 b0 b1 u9.1.2.2.2.2 b2 b3 b4 b5 ++ (iw_ws a7 cI 256 u9.1.1 ++ (iw_ws a8 cI 64 u9.1.2.1 ++ (iw_ws a9 cI 8 u9.1.2.2.1 ++ (iw_ws b0 cI 8 kS ++ (iw_ws b1 cI 64 kR ++ (jw_ws a2 cJ 4 u9.1.2.2.2.1 ++ (jw_ws a0 cJ 1232 nf ++ (jw_ws a1 cJ 616 cf ++ (iw_ws a4 cI 4 kf ++ (iw_ws b5 cI 64 u9.2.2 ++ (jw_ws a3 cJ 16 u9.2.1)))))))))))) t.heap ∧ va_K (dC, dI) classes [(cJ, .long), (cI, .int)] t ∧ va_D (va_A (mo_ws m0 e0 (nI N) (nI n) (nI bc) (lN P) (lN Q) (lN G) (lN al) (lN pa) (lN pb) cl a0 a1 a2 a3 a4 a5 a6 a7 a8 a9 b0 b1 oc b2 b3 b4 b5 ++ (iw_ws a7 cI 256 bf ++ (iw_ws a8 cI 64 sc ++ (iw_ws a9 cI 8 st ++ (iw_ws b0 cI 8 kS ++ (iw_ws b1 cI 64 kR ++ (jw_ws a2 cJ 4 tf ++ (jw_ws a0 cJ 1232 nf ++ (jw_ws a1 cJ 616 cf ++ (iw_ws a4 cI 4 kf ++ (iw_ws b5 cI 64 ct ++ (jw_ws a3 cJ 16 lf)))))))))))) sz) (mo_ws m0 e0 (nI N) (nI n) (nI bc) (lN P) (lN Q) (lN G) (lN al) (lN pa) (lN pb) cl a0 a1 a2 a3 a4 a5 a6 a7 a8 a9 b0 b1 u9.1.2.2.2.2 b2 b3 b4 b5 ++ (iw_ws a7 cI 256 u9.1.1 ++ (iw_ws a8 cI 64 u9.1.2.1 ++ (iw_ws a9 cI 8 u9.1.2.2.1 ++ (iw_ws b0 cI 8 kS ++ (iw_ws b1 cI 64 kR ++ (jw_ws a2 cJ 4 u9.1.2.2.2.1 ++ (jw_ws a0 cJ 1232 nf ++ (jw_ws a1 cJ 616 cf ++ (iw_ws a4 cI 4 kf ++ (iw_ws b5 cI 64 u9.2.2 ++ (jw_ws a3 cJ 16 u9.2.1))))))))))))) (va_A (mo_ws m0 e0 (nI N) (nI n) (nI bc) (lN P) (lN Q) (lN G) (lN al) (lN pa) (lN pb) cl a0 a1 a2 a3 a4 a5 a6 a7 a8 a9 b0 b1 oc b2 b3 b4 b5 ++ (iw_ws a7 cI 256 bf ++ (iw_ws a8 cI 64 sc ++ (iw_ws a9 cI 8 st ++ (iw_ws b0 cI 8 kS ++ (iw_ws b1 cI 64 kR ++ (jw_ws a2 cJ 4 tf ++ (jw_ws a0 cJ 1232 nf ++ (jw_ws a1 cJ 616 cf ++ (iw_ws a4 cI 4 kf ++ (iw_ws b5 cI 64 ct ++ (jw_ws a3 cJ 16 lf)))))))))))) sz)) 0 0 (va_A (mo_ws m0 e0 (nI N) (nI n) (nI bc) (lN P) (lN Q) (lN G) (lN al) (lN pa) (lN pb) cl a0 a1 a2 a3 a4 a5 a6 a7 a8 a9 b0 b1 oc b2 b3 b4 b5 ++ (iw_ws a7 cI 256 bf ++ (iw_ws a8 cI 64 sc ++ (iw_ws a9 cI 8 st ++ (iw_ws b0 cI 8 kS ++ (iw_ws b1 cI 64 kR ++ (jw_ws a2 cJ 4 tf ++ (jw_ws a0 cJ 1232 nf ++ (jw_ws a1 cJ 616 cf ++ (iw_ws a4 cI 4 kf ++ (iw_ws b5 cI 64 ct ++ (jw_ws a3 cJ 16 lf)))))))))))) sz) := by
  refine Met.ofW (cc := b_Bm_holds) (maxL := 6) (ret := (some .boolean)) (by decide) rfl ?_
  intro p e s m args below meth c s₁ Bd hml hv
  obtain ⟨rfl, hsz, hP, hK, hD0⟩ := hv
  have hx := Bd.exec
  have hb := Bd.bytes
  have hr := Bd.returns
  have hts := atoms_spec (ws := w_Bm_holds) Bd.pre
  have hown : s.vm.findClass "BallotBoardModel" = some m.cls := findClass_of_methodNamed Bd.named
  have hlocks := Bd.notSynchronized
  subst hsz
  have hD := hD0.self (sz := s.heap.size)
  generalize hAe : va_A (mo_ws m0 e0 (nI N) (nI n) (nI bc) (lN P) (lN Q) (lN G) (lN al) (lN pa) (lN pb) cl a0 a1 a2 a3 a4 a5 a6 a7 a8 a9 b0 b1 oc b2 b3 b4 b5 ++ (iw_ws a7 cI 256 bf ++ (iw_ws a8 cI 64 sc ++ (iw_ws a9 cI 8 st ++ (iw_ws b0 cI 8 kS ++ (iw_ws b1 cI 64 kR ++ (jw_ws a2 cJ 4 tf ++ (jw_ws a0 cJ 1232 nf ++ (jw_ws a1 cJ 616 cf ++ (iw_ws a4 cI 4 kf ++ (iw_ws b5 cI 64 ct ++ (jw_ws a3 cJ 16 lf)))))))))))) s.heap.size = A at hD ⊢
  have hA : ∀ q : Nat, s.heap.size ≤ q → A q := fun q h => by rw [← hAe]; exact Or.inr h
  have hS : va_S A s.heap s.heap [] := va_S.rf
  have hl := lv_entry ([.ref m0, .int (nI k)]) (n := 6) (Nat.le_of_ble_eq_true rfl)
  rw [lg_entry_eq]
  generalize (lg_sl ([.ref m0, .int (nI k)]) ++ List.replicate (6 - (lg_sl ([.ref m0, .int (nI k)])).length) Slot.unset).toArray = ls at hl ⊢
  have hl : lv_has ls 6 [(0, .ref m0), (1, .int (nI k))] := hl
  obtain ⟨hkd, hr0, hr1, hb64, hwN⟩ := hwf.2.1 k hk
  have hn154 := hwf.1
  have hP62 : P < 2 ^ 62 := by omega
  have hPone : 1 < P := by omega
  have hAI := AI_aud (Q := Q) (G := G) (T0 := T0) (Lk := Lk) hN hPone hP62 hwf hE k (by omega) hall
  have htok := aud_ok (n := n) hPone hP62 h0k k hall
  have hCS : hds P Q G N T0 kd wh R Lk k → CR (k + 1) (aud P N T0 kd wh R (k + 1)) R (if kd k = 2 then upd ct (wh k) (nI k) else ct) := fun h => CR_step hP62 hwf hk hCR h.2
  obtain ⟨TA, hTA⟩ : ∃ T, T = aud P N T0 kd wh R k := ⟨_, rfl⟩
  rw [← hTA] at hAI htok hCR
  have hw8 := wdt_le2 (kd k)
  have hw5 := wdt_ge2 (kd k)
  have hmsg : [cf (4 * (k - 1) + 0), cf (4 * (k - 1) + 1), cf (4 * (k - 1) + 2), cf (4 * (k - 1) + 3), nf (8 * k + 0), nf (8 * k + 1), nf (8 * k + 2), nf (8 * k + 3), nf (8 * k + 4)] = msgL (kd k) k (R k) Lk := by
    unfold msgL prvL rowL
    rw [if_neg (show ¬ k = 0 by omega), if_neg (show ¬ kd k = 2 by omega), hcf (k - 1) (by omega) 0 (by omega), hcf (k - 1) (by omega) 1 (by omega), hcf (k - 1) (by omega) 2 (by omega), hcf (k - 1) (by omega) 3 (by omega), hnf k hk 0 (by omega), hnf k hk 1 (by omega), hnf k hk 2 (by omega), hnf k hk 3 (by omega), hnf k hk 4 (by omega)]
    rfl
  have hhk : hds P Q G N T0 kd wh R Lk k ↔ lnk4 (Lk k) (msgL (kd k) k (R k) Lk) ∧ keyHd P Q G (wh k) (R k 2) (R k 3) (R k 4) := by
    unfold hds prf
    rw [← hTA, if_pos hkK]
  refine lv_aload_n hx hb d_Bm_holds_0 rfl (lv_at hl 0 rfl) ?_
  refine lv_iload_n hx hb d_Bm_holds_1 rfl (lv_at hl 1 rfl) ?_
  have hPc := hP.sub (ws' := (mo_ws m0 e0 (nI N) (nI n) (nI bc) (lN P) (lN Q) (lN G) (lN al) (lN pa) (lN pb) cl a0 a1 a2 a3 a4 a5 a6 a7 a8 a9 b0 b1 oc b2 b3 b4 b5 ++ (iw_ws a7 cI 256 bf ++ (iw_ws a8 cI 64 sc ++ (iw_ws a9 cI 8 st ++ (iw_ws b0 cI 8 kS ++ (iw_ws b1 cI 64 kR ++ (jw_ws a2 cJ 4 tf ++ (jw_ws a0 cJ 1232 nf ++ (jw_ws a1 cJ 616 cf)))))))))) [0, 1, 2, 3, 4, 5, 6, 7, 8] rfl
  have hDc := hD.sub (ws' := (mo_ws m0 e0 (nI N) (nI n) (nI bc) (lN P) (lN Q) (lN G) (lN al) (lN pa) (lN pb) cl a0 a1 a2 a3 a4 a5 a6 a7 a8 a9 b0 b1 oc b2 b3 b4 b5 ++ (iw_ws a7 cI 256 bf ++ (iw_ws a8 cI 64 sc ++ (iw_ws a9 cI 8 st ++ (iw_ws b0 cI 8 kS ++ (iw_ws b1 cI 64 kR ++ (jw_ws a2 cJ 4 tf ++ (jw_ws a0 cJ 1232 nf ++ (jw_ws a1 cJ 616 cf)))))))))) [0, 1, 2, 3, 4, 5, 6, 7, 8] (by decide) rfl
  have hKc := hK.sub (tys' := [(cJ, .long), (cI, .int)]) [0, 1] rfl
  have hFc := va_free (wc := (mo_ws m0 e0 (nI N) (nI n) (nI bc) (lN P) (lN Q) (lN G) (lN al) (lN pa) (lN pb) cl a0 a1 a2 a3 a4 a5 a6 a7 a8 a9 b0 b1 oc b2 b3 b4 b5 ++ (iw_ws a7 cI 256 bf ++ (iw_ws a8 cI 64 sc ++ (iw_ws a9 cI 8 st ++ (iw_ws b0 cI 8 kS ++ (iw_ws b1 cI 64 kR ++ (jw_ws a2 cJ 4 tf ++ (jw_ws a0 cJ 1232 nf ++ (jw_ws a1 cJ 616 cf)))))))))) hD hS hA [0, 1, 2, 3, 4, 5, 6, 7, 8] rfl
  refine va_callv (va_runV (As := [.int (nI k)]) (rest := []) ⟨hx, hb, hml, hown, hts⟩ (c_Bm_link_5 l dC dI cJ cI s.heap.size m0 e0 (nI N) (nI n) (nI bc) (lN P) (lN Q) (lN G) (lN al) (lN pa) (lN pb) cl a0 a1 a2 a3 a4 a5 a6 a7 a8 a9 b0 b1 oc b2 b3 b4 b5 bf sc st tf nf cf k (msgL (kd k) k (R k) Lk) (by omega) hk0 (by rw [hnf k hk 0 (by omega), hr0, hkK]; exact fun h => absurd (lN_inj (b := 2) (by omega) (by omega) h) (by omega)) hmsg) (cwV 1 hts (gw_V gk_1098 gk_1100 gp_41 gk_7 gk_1101) rfl rfl rfl (by decide +kernel) ⟨Nat.le_of_ble_eq_true rfl, Nat.le_of_ble_eq_true rfl⟩) ⟨fun a U g mk q => by obtain ⟨q0, q1, qP, qK, qD⟩ := q; exact ⟨q0, q1, qP, va_K.moved (u := U) (U := U.calling g mk a) (Vm.Alike.refl U.vm) qK, qD⟩, va_recv hK hP (ci := 8) (q0 := 0) rfl rfl, fun U hU hW => ⟨rfl, by rw [hU], by rw [hU]; exact hPc, va_K.moved hW.alike hKc, hDc.weaken (fun _ _ _ _ => trivial)⟩⟩ rfl rfl hl.1 rfl (lv_room (Nat.le_of_ble_eq_true rfl)) d_Bm_holds_2 ⟨Nat.le_of_ble_eq_true rfl, Nat.le_of_ble_eq_true rfl⟩) hS (fun q _ h => hFc q h) hFc (fun u9 t9 H1 locs ht hvm hw hB hz1 hk1 hS => ?_)
  obtain ⟨gbk_1, gsk_1, gtk_1, gfk_1, gok_1⟩ := u9
  have hdg : dgo gtk_1 (msgL (kd k) k (R k) Lk) ∧ ∀ j, j < 4 → gfk_1 j = lkw (msgL (kd k) k (R k) Lk) j := hw
  obtain ⟨hP1, hK1, hD1⟩ := hB
  rw [ht] at hP1
  obtain ⟨hP, hD⟩ := va_join (wr := [(a4, .inl (cI, 4, .inl kf)), (b5, .inl (cI, 64, .inl ct)), (a3, .inl (cJ, 16, .inr (.inl lf)))]) (w1 := [(m0, .inr (8, [.int e0, .int (nI N), .int (nI n), .int (nI bc), .long (lN P), .long (lN Q), .long (lN G), .long (lN al), .long (lN pa), .long (lN pb), .int cl, .ref a0, .ref a1, .ref a2, .ref a3, .ref a4, .ref a5, .ref a6, .ref a7, .ref a8, .ref a9, .ref b0, .ref b1, .int (nI gok_1), .ref b2, .ref b3, .ref b4, .ref b5])), (a7, .inl (cI, 256, .inl gbk_1)), (a8, .inl (cI, 64, .inl gsk_1)), (a9, .inl (cI, 8, .inl gtk_1)), (b0, .inl (cI, 8, .inl kS)), (b1, .inl (cI, 64, .inl kR)), (a2, .inl (cJ, 4, .inr (.inl gfk_1))), (a0, .inl (cJ, 1232, .inr (.inl nf))), (a1, .inl (cJ, 616, .inr (.inl cf)))]) hP hD [0, 1, 2, 3, 4, 5, 6, 7, 8] [9, 10, 11] rfl rfl (by decide) (by decide) hk1 hFc hP1 hD1
  have hP := hP.sub (ws' := [(m0, .inr (8, [.int e0, .int (nI N), .int (nI n), .int (nI bc), .long (lN P), .long (lN Q), .long (lN G), .long (lN al), .long (lN pa), .long (lN pb), .int cl, .ref a0, .ref a1, .ref a2, .ref a3, .ref a4, .ref a5, .ref a6, .ref a7, .ref a8, .ref a9, .ref b0, .ref b1, .int (nI gok_1), .ref b2, .ref b3, .ref b4, .ref b5])), (a7, .inl (cI, 256, .inl gbk_1)), (a8, .inl (cI, 64, .inl gsk_1)), (a9, .inl (cI, 8, .inl gtk_1)), (b0, .inl (cI, 8, .inl kS)), (b1, .inl (cI, 64, .inl kR)), (a2, .inl (cJ, 4, .inr (.inl gfk_1))), (a0, .inl (cJ, 1232, .inr (.inl nf))), (a1, .inl (cJ, 616, .inr (.inl cf))), (a4, .inl (cI, 4, .inl kf)), (b5, .inl (cI, 64, .inl ct)), (a3, .inl (cJ, 16, .inr (.inl lf)))]) [3, 4, 5, 6, 7, 8, 9, 10, 11, 0, 1, 2] rfl
  have hD := hD.sub (ws' := [(m0, .inr (8, [.int e0, .int (nI N), .int (nI n), .int (nI bc), .long (lN P), .long (lN Q), .long (lN G), .long (lN al), .long (lN pa), .long (lN pb), .int cl, .ref a0, .ref a1, .ref a2, .ref a3, .ref a4, .ref a5, .ref a6, .ref a7, .ref a8, .ref a9, .ref b0, .ref b1, .int (nI gok_1), .ref b2, .ref b3, .ref b4, .ref b5])), (a7, .inl (cI, 256, .inl gbk_1)), (a8, .inl (cI, 64, .inl gsk_1)), (a9, .inl (cI, 8, .inl gtk_1)), (b0, .inl (cI, 8, .inl kS)), (b1, .inl (cI, 64, .inl kR)), (a2, .inl (cJ, 4, .inr (.inl gfk_1))), (a0, .inl (cJ, 1232, .inr (.inl nf))), (a1, .inl (cJ, 616, .inr (.inl cf))), (a4, .inl (cI, 4, .inl kf)), (b5, .inl (cI, 64, .inl ct)), (a3, .inl (cJ, 16, .inr (.inl lf)))]) [3, 4, 5, 6, 7, 8, 9, 10, 11, 0, 1, 2] (by decide) rfl
  generalize H1 = H at hP hS ⊢
  refine lv_iconst (v := 0) hx hb d_Bm_holds_5 (by decide) ?_
  refine lv_istore_n (lv' := [(2, .int 0), (0, .ref m0), (1, .int (nI k))]) hx hb d_Bm_holds_6 rfl hl (by decide) rfl (fun ls hl => ?_)
  refine lv_iload_n hx hb d_Bm_holds_7 rfl (lv_at hl 0 rfl) ?_
  refine lv_iconst (v := 4) hx hb d_Bm_holds_8 (by decide) ?_
  refine lv_icmp_ge (tgt := 40) hx hb d_Bm_holds_9 (by decide) (fun c_3 => ?_) (fun c_3 => ?_)
  · -- taken
    exact absurd c_3 (by decide)
  · -- not taken
    refine lv_aload_n hx hb d_Bm_holds_12 rfl (lv_at hl 1 rfl) ?_
    refine va_get (D := (dC, dI)) (ci := 8) (v := .ref a2) (C := "BallotBoardModel") (T := F_Bm) (N := 28) hx hb hts (fun w9 h9 => List.mem_cons_of_mem _ (i_Bm w9 h9)) hown hK hP 0 rfl rfl 13 (by decide) (hts _ (List.mem_cons_of_mem _ gk_932)) (fun _ h9 => h9) rfl d_Bm_holds_13 ?_
    refine lv_iload_n hx hb d_Bm_holds_16 rfl (lv_at hl 0 rfl) ?_
    refine va_lald hx hb hK hP 6 0 rfl rfl (vp_lit rfl) d_Bm_holds_17 ?_
    rw [show (gfk_1 (0 : Int32).toNatClampNeg : Int64) = gfk_1 0 from rfl]
    rw [show (gfk_1 0 : Int64) = (lkw (msgL (kd k) k (R k) Lk) 0) from hdg.2 0 (by omega)]
    refine lv_aload_n hx hb d_Bm_holds_18 rfl (lv_at hl 1 rfl) ?_
    refine va_get (D := (dC, dI)) (ci := 8) (v := .ref a1) (C := "BallotBoardModel") (T := F_Bm) (N := 28) hx hb hts (fun w9 h9 => List.mem_cons_of_mem _ (i_Bm w9 h9)) hown hK hP 0 rfl rfl 12 (by decide) (hts _ (List.mem_cons_of_mem _ gk_931)) (fun _ h9 => h9) rfl d_Bm_holds_19 ?_
    refine lv_iconst (v := 4) hx hb d_Bm_holds_22 (by decide) ?_
    refine lv_iload_n hx hb d_Bm_holds_23 rfl (lv_at hl 2 rfl) ?_
    refine lv_imul hx hb d_Bm_holds_24 ?_
    rw [show (4 * (nI k) : Int32) = (nI (4 * k)) from pk_mul 4 k]
    refine lv_iload_n hx hb d_Bm_holds_25 rfl (lv_at hl 0 rfl) ?_
    refine lv_iadd hx hb d_Bm_holds_26 ?_
    rw [show ((nI (4 * k)) + 0 : Int32) = (nI (4 * k + 0)) from nI_add _ 0]
    refine va_lald hx hb hK hP 8 0 rfl rfl (vp_in_nI (by omega) (by omega)) d_Bm_holds_27 ?_
    rw [show (cf (nI (4 * k + 0) : Int32).toNatClampNeg : Int64) = cf (4 * k + 0) from by rw [nI_clamp (by omega)]]
    rw [show (cf (4 * k + 0) : Int64) = (Lk k 0) from hcf k hk 0 (by omega)]
    refine W.lcmp hx hb d_Bm_holds_28 ?_
    refine lv_if_eq (tgt := 34) hx hb d_Bm_holds_29 (by decide) (fun c_4 => ?_) (fun c_4 => ?_)
    · -- taken
      have q0 := (lg_cmp_eq _ _).mp c_4
      obtain ⟨i_5, ei_5⟩ : ∃ y : Int32, y = 0 + 1 := ⟨_, rfl⟩
      refine lv_iinc (v := i_5) (lv' := [(2, .int i_5), (0, .ref m0), (1, .int (nI k))]) hx hb d_Bm_holds_34 hl (k := 0) rfl (by rw [ei_5]; rfl) (by decide) rfl (fun ls hl => ?_)
      obtain rfl : i_5 = 1 := by rw [ei_5]; exact by decide
      refine lv_goto (tgt := 7) hx hb d_Bm_holds_37 (by decide) ?_
      refine lv_iload_n hx hb d_Bm_holds_7 rfl (lv_at hl 0 rfl) ?_
      refine lv_iconst (v := 4) hx hb d_Bm_holds_8 (by decide) ?_
      refine lv_icmp_ge (tgt := 40) hx hb d_Bm_holds_9 (by decide) (fun c_6 => ?_) (fun c_6 => ?_)
      · -- taken
        exact absurd c_6 (by decide)
      · -- not taken
        refine lv_aload_n hx hb d_Bm_holds_12 rfl (lv_at hl 1 rfl) ?_
        refine va_get (D := (dC, dI)) (ci := 8) (v := .ref a2) (C := "BallotBoardModel") (T := F_Bm) (N := 28) hx hb hts (fun w9 h9 => List.mem_cons_of_mem _ (i_Bm w9 h9)) hown hK hP 0 rfl rfl 13 (by decide) (hts _ (List.mem_cons_of_mem _ gk_932)) (fun _ h9 => h9) rfl d_Bm_holds_13 ?_
        refine lv_iload_n hx hb d_Bm_holds_16 rfl (lv_at hl 0 rfl) ?_
        refine va_lald hx hb hK hP 6 0 rfl rfl (vp_lit rfl) d_Bm_holds_17 ?_
        rw [show (gfk_1 (1 : Int32).toNatClampNeg : Int64) = gfk_1 1 from rfl]
        rw [show (gfk_1 1 : Int64) = (lkw (msgL (kd k) k (R k) Lk) 1) from hdg.2 1 (by omega)]
        refine lv_aload_n hx hb d_Bm_holds_18 rfl (lv_at hl 1 rfl) ?_
        refine va_get (D := (dC, dI)) (ci := 8) (v := .ref a1) (C := "BallotBoardModel") (T := F_Bm) (N := 28) hx hb hts (fun w9 h9 => List.mem_cons_of_mem _ (i_Bm w9 h9)) hown hK hP 0 rfl rfl 12 (by decide) (hts _ (List.mem_cons_of_mem _ gk_931)) (fun _ h9 => h9) rfl d_Bm_holds_19 ?_
        refine lv_iconst (v := 4) hx hb d_Bm_holds_22 (by decide) ?_
        refine lv_iload_n hx hb d_Bm_holds_23 rfl (lv_at hl 2 rfl) ?_
        refine lv_imul hx hb d_Bm_holds_24 ?_
        rw [show (4 * (nI k) : Int32) = (nI (4 * k)) from pk_mul 4 k]
        refine lv_iload_n hx hb d_Bm_holds_25 rfl (lv_at hl 0 rfl) ?_
        refine lv_iadd hx hb d_Bm_holds_26 ?_
        rw [show ((nI (4 * k)) + 1 : Int32) = (nI (4 * k + 1)) from nI_add _ 1]
        refine va_lald hx hb hK hP 8 0 rfl rfl (vp_in_nI (by omega) (by omega)) d_Bm_holds_27 ?_
        rw [show (cf (nI (4 * k + 1) : Int32).toNatClampNeg : Int64) = cf (4 * k + 1) from by rw [nI_clamp (by omega)]]
        rw [show (cf (4 * k + 1) : Int64) = (Lk k 1) from hcf k hk 1 (by omega)]
        refine W.lcmp hx hb d_Bm_holds_28 ?_
        refine lv_if_eq (tgt := 34) hx hb d_Bm_holds_29 (by decide) (fun c_7 => ?_) (fun c_7 => ?_)
        · -- taken
          have q1 := (lg_cmp_eq _ _).mp c_7
          obtain ⟨i_8, ei_8⟩ : ∃ y : Int32, y = 1 + 1 := ⟨_, rfl⟩
          refine lv_iinc (v := i_8) (lv' := [(2, .int i_8), (0, .ref m0), (1, .int (nI k))]) hx hb d_Bm_holds_34 hl (k := 0) rfl (by rw [ei_8]; rfl) (by decide) rfl (fun ls hl => ?_)
          obtain rfl : i_8 = 2 := by rw [ei_8]; exact by decide
          refine lv_goto (tgt := 7) hx hb d_Bm_holds_37 (by decide) ?_
          refine lv_iload_n hx hb d_Bm_holds_7 rfl (lv_at hl 0 rfl) ?_
          refine lv_iconst (v := 4) hx hb d_Bm_holds_8 (by decide) ?_
          refine lv_icmp_ge (tgt := 40) hx hb d_Bm_holds_9 (by decide) (fun c_9 => ?_) (fun c_9 => ?_)
          · -- taken
            exact absurd c_9 (by decide)
          · -- not taken
            refine lv_aload_n hx hb d_Bm_holds_12 rfl (lv_at hl 1 rfl) ?_
            refine va_get (D := (dC, dI)) (ci := 8) (v := .ref a2) (C := "BallotBoardModel") (T := F_Bm) (N := 28) hx hb hts (fun w9 h9 => List.mem_cons_of_mem _ (i_Bm w9 h9)) hown hK hP 0 rfl rfl 13 (by decide) (hts _ (List.mem_cons_of_mem _ gk_932)) (fun _ h9 => h9) rfl d_Bm_holds_13 ?_
            refine lv_iload_n hx hb d_Bm_holds_16 rfl (lv_at hl 0 rfl) ?_
            refine va_lald hx hb hK hP 6 0 rfl rfl (vp_lit rfl) d_Bm_holds_17 ?_
            rw [show (gfk_1 (2 : Int32).toNatClampNeg : Int64) = gfk_1 2 from rfl]
            rw [show (gfk_1 2 : Int64) = (lkw (msgL (kd k) k (R k) Lk) 2) from hdg.2 2 (by omega)]
            refine lv_aload_n hx hb d_Bm_holds_18 rfl (lv_at hl 1 rfl) ?_
            refine va_get (D := (dC, dI)) (ci := 8) (v := .ref a1) (C := "BallotBoardModel") (T := F_Bm) (N := 28) hx hb hts (fun w9 h9 => List.mem_cons_of_mem _ (i_Bm w9 h9)) hown hK hP 0 rfl rfl 12 (by decide) (hts _ (List.mem_cons_of_mem _ gk_931)) (fun _ h9 => h9) rfl d_Bm_holds_19 ?_
            refine lv_iconst (v := 4) hx hb d_Bm_holds_22 (by decide) ?_
            refine lv_iload_n hx hb d_Bm_holds_23 rfl (lv_at hl 2 rfl) ?_
            refine lv_imul hx hb d_Bm_holds_24 ?_
            rw [show (4 * (nI k) : Int32) = (nI (4 * k)) from pk_mul 4 k]
            refine lv_iload_n hx hb d_Bm_holds_25 rfl (lv_at hl 0 rfl) ?_
            refine lv_iadd hx hb d_Bm_holds_26 ?_
            rw [show ((nI (4 * k)) + 2 : Int32) = (nI (4 * k + 2)) from nI_add _ 2]
            refine va_lald hx hb hK hP 8 0 rfl rfl (vp_in_nI (by omega) (by omega)) d_Bm_holds_27 ?_
            rw [show (cf (nI (4 * k + 2) : Int32).toNatClampNeg : Int64) = cf (4 * k + 2) from by rw [nI_clamp (by omega)]]
            rw [show (cf (4 * k + 2) : Int64) = (Lk k 2) from hcf k hk 2 (by omega)]
            refine W.lcmp hx hb d_Bm_holds_28 ?_
            refine lv_if_eq (tgt := 34) hx hb d_Bm_holds_29 (by decide) (fun c_10 => ?_) (fun c_10 => ?_)
            · -- taken
              have q2 := (lg_cmp_eq _ _).mp c_10
              obtain ⟨i_11, ei_11⟩ : ∃ y : Int32, y = 2 + 1 := ⟨_, rfl⟩
              refine lv_iinc (v := i_11) (lv' := [(2, .int i_11), (0, .ref m0), (1, .int (nI k))]) hx hb d_Bm_holds_34 hl (k := 0) rfl (by rw [ei_11]; rfl) (by decide) rfl (fun ls hl => ?_)
              obtain rfl : i_11 = 3 := by rw [ei_11]; exact by decide
              refine lv_goto (tgt := 7) hx hb d_Bm_holds_37 (by decide) ?_
              refine lv_iload_n hx hb d_Bm_holds_7 rfl (lv_at hl 0 rfl) ?_
              refine lv_iconst (v := 4) hx hb d_Bm_holds_8 (by decide) ?_
              refine lv_icmp_ge (tgt := 40) hx hb d_Bm_holds_9 (by decide) (fun c_12 => ?_) (fun c_12 => ?_)
              · -- taken
                exact absurd c_12 (by decide)
              · -- not taken
                refine lv_aload_n hx hb d_Bm_holds_12 rfl (lv_at hl 1 rfl) ?_
                refine va_get (D := (dC, dI)) (ci := 8) (v := .ref a2) (C := "BallotBoardModel") (T := F_Bm) (N := 28) hx hb hts (fun w9 h9 => List.mem_cons_of_mem _ (i_Bm w9 h9)) hown hK hP 0 rfl rfl 13 (by decide) (hts _ (List.mem_cons_of_mem _ gk_932)) (fun _ h9 => h9) rfl d_Bm_holds_13 ?_
                refine lv_iload_n hx hb d_Bm_holds_16 rfl (lv_at hl 0 rfl) ?_
                refine va_lald hx hb hK hP 6 0 rfl rfl (vp_lit rfl) d_Bm_holds_17 ?_
                rw [show (gfk_1 (3 : Int32).toNatClampNeg : Int64) = gfk_1 3 from rfl]
                rw [show (gfk_1 3 : Int64) = (lkw (msgL (kd k) k (R k) Lk) 3) from hdg.2 3 (by omega)]
                refine lv_aload_n hx hb d_Bm_holds_18 rfl (lv_at hl 1 rfl) ?_
                refine va_get (D := (dC, dI)) (ci := 8) (v := .ref a1) (C := "BallotBoardModel") (T := F_Bm) (N := 28) hx hb hts (fun w9 h9 => List.mem_cons_of_mem _ (i_Bm w9 h9)) hown hK hP 0 rfl rfl 12 (by decide) (hts _ (List.mem_cons_of_mem _ gk_931)) (fun _ h9 => h9) rfl d_Bm_holds_19 ?_
                refine lv_iconst (v := 4) hx hb d_Bm_holds_22 (by decide) ?_
                refine lv_iload_n hx hb d_Bm_holds_23 rfl (lv_at hl 2 rfl) ?_
                refine lv_imul hx hb d_Bm_holds_24 ?_
                rw [show (4 * (nI k) : Int32) = (nI (4 * k)) from pk_mul 4 k]
                refine lv_iload_n hx hb d_Bm_holds_25 rfl (lv_at hl 0 rfl) ?_
                refine lv_iadd hx hb d_Bm_holds_26 ?_
                rw [show ((nI (4 * k)) + 3 : Int32) = (nI (4 * k + 3)) from nI_add _ 3]
                refine va_lald hx hb hK hP 8 0 rfl rfl (vp_in_nI (by omega) (by omega)) d_Bm_holds_27 ?_
                rw [show (cf (nI (4 * k + 3) : Int32).toNatClampNeg : Int64) = cf (4 * k + 3) from by rw [nI_clamp (by omega)]]
                rw [show (cf (4 * k + 3) : Int64) = (Lk k 3) from hcf k hk 3 (by omega)]
                refine W.lcmp hx hb d_Bm_holds_28 ?_
                refine lv_if_eq (tgt := 34) hx hb d_Bm_holds_29 (by decide) (fun c_13 => ?_) (fun c_13 => ?_)
                · -- taken
                  have q3 := (lg_cmp_eq _ _).mp c_13
                  obtain ⟨i_14, ei_14⟩ : ∃ y : Int32, y = 3 + 1 := ⟨_, rfl⟩
                  refine lv_iinc (v := i_14) (lv' := [(2, .int i_14), (0, .ref m0), (1, .int (nI k))]) hx hb d_Bm_holds_34 hl (k := 0) rfl (by rw [ei_14]; rfl) (by decide) rfl (fun ls hl => ?_)
                  obtain rfl : i_14 = 4 := by rw [ei_14]; exact by decide
                  refine lv_goto (tgt := 7) hx hb d_Bm_holds_37 (by decide) ?_
                  refine lv_iload_n hx hb d_Bm_holds_7 rfl (lv_at hl 0 rfl) ?_
                  refine lv_iconst (v := 4) hx hb d_Bm_holds_8 (by decide) ?_
                  refine lv_icmp_ge (tgt := 40) hx hb d_Bm_holds_9 (by decide) (fun c_15 => ?_) (fun c_15 => ?_)
                  · -- taken
                    have hln : lnk4 (Lk k) (msgL (kd k) k (R k) Lk) := ⟨q0.symm, q1.symm, q2.symm, q3.symm⟩
                    have hwk64 : wh k < 64 := by
                      by_cases e9 : kd k = 2
                      · exact hb64 e9
                      · have := hwN e9
                        omega
                    refine lv_aload_n hx hb d_Bm_holds_40 rfl (lv_at hl 1 rfl) ?_
                    refine lv_iload_n hx hb d_Bm_holds_41 rfl (lv_at hl 2 rfl) ?_
                    refine lv_iconst (v := 1) hx hb d_Bm_holds_42 (by decide) ?_
                    have hPc := hP.sub (ws' := (mo_ws m0 e0 (nI N) (nI n) (nI bc) (lN P) (lN Q) (lN G) (lN al) (lN pa) (lN pb) cl a0 a1 a2 a3 a4 a5 a6 a7 a8 a9 b0 b1 gok_1 b2 b3 b4 b5 ++ (jw_ws a0 cJ 1232 nf))) [0, 7] rfl
                    have hKc := hK.sub (tys' := [(cJ, .long), (cI, .int)]) [0, 1] rfl
                    refine va_calll (va_runV (As := [.int (nI k), .int 1]) (rest := []) ⟨hx, hb, hml, hown, hts⟩ (c_Bm_at l H dC dI cJ cI m0 e0 (nI N) (nI n) (nI bc) (lN P) (lN Q) (lN G) (lN al) (lN pa) (lN pb) cl a0 a1 a2 a3 a4 a5 a6 a7 a8 a9 b0 b1 gok_1 b2 b3 b4 b5 nf k 1 hPc (by omega)) (cwV 2 hts (gw_V gk_1102 gk_1104 gp_42 gk_7 gk_1105) rfl rfl rfl (by decide +kernel) ⟨Nat.le_of_ble_eq_true rfl, Nat.le_of_ble_eq_true rfl⟩) ⟨fun a U g mk q => ⟨q.1, q.2.1, va_K.moved (u := U) (U := U.calling g mk a) (Vm.Alike.refl U.vm) q.2.2⟩, va_recv hK hP (ci := 8) (q0 := 0) rfl rfl, fun U hU hW => ⟨rfl, hU, va_K.moved hW.alike hKc⟩⟩ rfl rfl hl.1 rfl (lv_room (Nat.le_of_ble_eq_true rfl)) d_Bm_holds_43 ⟨Nat.le_of_ble_eq_true rfl, Nat.le_of_ble_eq_true rfl⟩) hS (fun q _ h => h.elim) (fun q h => h.elim) (fun r43 u9 t9 H1 locs ht hvm hw hB hz1 hk1 hS => ?_)
                    obtain rfl : H = H1 := hB.symm.trans ht
                    have hw : r43 = nf (8 * k + 1) := hw
                    subst hw
                    rw [show (nf (8 * k + 1) : Int64) = (lN (wh k)) from (hnf k hk 1 (by omega)).trans hr1]
                    refine lv_l2i (v := (lN (wh k) : Int64).toInt32) hx hb d_Bm_holds_46 rfl ?_
                    rw [show ((lN (wh k) : Int64).toInt32 : Int32) = (nI (wh k)) from lN_toI (by omega)]
                    refine lv_istore_n (lv' := [(2, .int (nI (wh k))), (0, .ref m0), (1, .int (nI k))]) hx hb d_Bm_holds_47 rfl hl (by decide) rfl (fun ls hl => ?_)
                    refine lv_aload_n hx hb d_Bm_holds_48 rfl (lv_at hl 1 rfl) ?_
                    refine lv_iload_n hx hb d_Bm_holds_49 rfl (lv_at hl 2 rfl) ?_
                    refine lv_iconst (v := 0) hx hb d_Bm_holds_50 (by decide) ?_
                    have hPc := hP.sub (ws' := (mo_ws m0 e0 (nI N) (nI n) (nI bc) (lN P) (lN Q) (lN G) (lN al) (lN pa) (lN pb) cl a0 a1 a2 a3 a4 a5 a6 a7 a8 a9 b0 b1 gok_1 b2 b3 b4 b5 ++ (jw_ws a0 cJ 1232 nf))) [0, 7] rfl
                    have hKc := hK.sub (tys' := [(cJ, .long), (cI, .int)]) [0, 1] rfl
                    refine va_calll (va_runV (As := [.int (nI k), .int 0]) (rest := []) ⟨hx, hb, hml, hown, hts⟩ (c_Bm_at l H dC dI cJ cI m0 e0 (nI N) (nI n) (nI bc) (lN P) (lN Q) (lN G) (lN al) (lN pa) (lN pb) cl a0 a1 a2 a3 a4 a5 a6 a7 a8 a9 b0 b1 gok_1 b2 b3 b4 b5 nf k 0 hPc (by omega)) (cwV 2 hts (gw_V gk_1102 gk_1104 gp_42 gk_7 gk_1105) rfl rfl rfl (by decide +kernel) ⟨Nat.le_of_ble_eq_true rfl, Nat.le_of_ble_eq_true rfl⟩) ⟨fun a U g mk q => ⟨q.1, q.2.1, va_K.moved (u := U) (U := U.calling g mk a) (Vm.Alike.refl U.vm) q.2.2⟩, va_recv hK hP (ci := 8) (q0 := 0) rfl rfl, fun U hU hW => ⟨rfl, hU, va_K.moved hW.alike hKc⟩⟩ rfl rfl hl.1 rfl (lv_room (Nat.le_of_ble_eq_true rfl)) d_Bm_holds_51 ⟨Nat.le_of_ble_eq_true rfl, Nat.le_of_ble_eq_true rfl⟩) hS (fun q _ h => h.elim) (fun q h => h.elim) (fun r51 u9 t9 H1 locs ht hvm hw hB hz1 hk1 hS => ?_)
                    obtain rfl : H = H1 := hB.symm.trans ht
                    have hw : r51 = nf (8 * k + 0) := hw
                    subst hw
                    rw [show (nf (8 * k + 0) : Int64) = (lN 1) from (hnf k hk 0 (by omega)).trans (by rw [hr0, hkK])]
                    refine lv_lconst (v := 1) hx hb d_Bm_holds_54 (by decide) ?_
                    refine W.lcmp hx hb d_Bm_holds_55 ?_
                    refine lv_if_ne (tgt := 83) hx hb d_Bm_holds_56 (by decide) (fun c_16 => ?_) (fun c_16 => ?_)
                    · -- taken
                      exact absurd ((cmpe (k := 1) (by omega) 1 (by omega) rfl).mpr rfl) c_16
                    · -- not taken
                      refine lv_aload_n hx hb d_Bm_holds_59 rfl (lv_at hl 1 rfl) ?_
                      refine lv_iload_n hx hb d_Bm_holds_60 rfl (lv_at hl 0 rfl) ?_
                      refine lv_aload_n hx hb d_Bm_holds_61 rfl (lv_at hl 1 rfl) ?_
                      refine lv_iload_n hx hb d_Bm_holds_62 rfl (lv_at hl 2 rfl) ?_
                      refine lv_iconst (v := 2) hx hb d_Bm_holds_63 (by decide) ?_
                      have hPc := hP.sub (ws' := (mo_ws m0 e0 (nI N) (nI n) (nI bc) (lN P) (lN Q) (lN G) (lN al) (lN pa) (lN pb) cl a0 a1 a2 a3 a4 a5 a6 a7 a8 a9 b0 b1 gok_1 b2 b3 b4 b5 ++ (jw_ws a0 cJ 1232 nf))) [0, 7] rfl
                      have hKc := hK.sub (tys' := [(cJ, .long), (cI, .int)]) [0, 1] rfl
                      refine va_calll (va_runV (As := [.int (nI k), .int 2]) (rest := [.int (nI (wh k)), .ref m0]) ⟨hx, hb, hml, hown, hts⟩ (c_Bm_at l H dC dI cJ cI m0 e0 (nI N) (nI n) (nI bc) (lN P) (lN Q) (lN G) (lN al) (lN pa) (lN pb) cl a0 a1 a2 a3 a4 a5 a6 a7 a8 a9 b0 b1 gok_1 b2 b3 b4 b5 nf k 2 hPc (by omega)) (cwV 2 hts (gw_V gk_1102 gk_1104 gp_42 gk_7 gk_1105) rfl rfl rfl (by decide +kernel) ⟨Nat.le_of_ble_eq_true rfl, Nat.le_of_ble_eq_true rfl⟩) ⟨fun a U g mk q => ⟨q.1, q.2.1, va_K.moved (u := U) (U := U.calling g mk a) (Vm.Alike.refl U.vm) q.2.2⟩, va_recv hK hP (ci := 8) (q0 := 0) rfl rfl, fun U hU hW => ⟨rfl, hU, va_K.moved hW.alike hKc⟩⟩ rfl rfl hl.1 rfl (lv_room (Nat.le_of_ble_eq_true rfl)) d_Bm_holds_64 ⟨Nat.le_of_ble_eq_true rfl, Nat.le_of_ble_eq_true rfl⟩) hS (fun q _ h => h.elim) (fun q h => h.elim) (fun r64 u9 t9 H1 locs ht hvm hw hB hz1 hk1 hS => ?_)
                      obtain rfl : H = H1 := hB.symm.trans ht
                      have hw : r64 = nf (8 * k + 2) := hw
                      subst hw
                      rw [show (nf (8 * k + 2) : Int64) = (R k 2) from hnf k hk 2 (by omega)]
                      refine lv_aload_n hx hb d_Bm_holds_67 rfl (lv_at hl 1 rfl) ?_
                      refine lv_iload_n hx hb d_Bm_holds_68 rfl (lv_at hl 2 rfl) ?_
                      refine lv_iconst (v := 3) hx hb d_Bm_holds_69 (by decide) ?_
                      have hPc := hP.sub (ws' := (mo_ws m0 e0 (nI N) (nI n) (nI bc) (lN P) (lN Q) (lN G) (lN al) (lN pa) (lN pb) cl a0 a1 a2 a3 a4 a5 a6 a7 a8 a9 b0 b1 gok_1 b2 b3 b4 b5 ++ (jw_ws a0 cJ 1232 nf))) [0, 7] rfl
                      have hKc := hK.sub (tys' := [(cJ, .long), (cI, .int)]) [0, 1] rfl
                      refine va_calll (va_runV (As := [.int (nI k), .int 3]) (rest := [.long (R k 2), .int (nI (wh k)), .ref m0]) ⟨hx, hb, hml, hown, hts⟩ (c_Bm_at l H dC dI cJ cI m0 e0 (nI N) (nI n) (nI bc) (lN P) (lN Q) (lN G) (lN al) (lN pa) (lN pb) cl a0 a1 a2 a3 a4 a5 a6 a7 a8 a9 b0 b1 gok_1 b2 b3 b4 b5 nf k 3 hPc (by omega)) (cwV 2 hts (gw_V gk_1102 gk_1104 gp_42 gk_7 gk_1105) rfl rfl rfl (by decide +kernel) ⟨Nat.le_of_ble_eq_true rfl, Nat.le_of_ble_eq_true rfl⟩) ⟨fun a U g mk q => ⟨q.1, q.2.1, va_K.moved (u := U) (U := U.calling g mk a) (Vm.Alike.refl U.vm) q.2.2⟩, va_recv hK hP (ci := 8) (q0 := 0) rfl rfl, fun U hU hW => ⟨rfl, hU, va_K.moved hW.alike hKc⟩⟩ rfl rfl hl.1 rfl (lv_room (Nat.le_of_ble_eq_true rfl)) d_Bm_holds_70 ⟨Nat.le_of_ble_eq_true rfl, Nat.le_of_ble_eq_true rfl⟩) hS (fun q _ h => h.elim) (fun q h => h.elim) (fun r70 u9 t9 H1 locs ht hvm hw hB hz1 hk1 hS => ?_)
                      obtain rfl : H = H1 := hB.symm.trans ht
                      have hw : r70 = nf (8 * k + 3) := hw
                      subst hw
                      rw [show (nf (8 * k + 3) : Int64) = (R k 3) from hnf k hk 3 (by omega)]
                      refine lv_aload_n hx hb d_Bm_holds_73 rfl (lv_at hl 1 rfl) ?_
                      refine lv_iload_n hx hb d_Bm_holds_74 rfl (lv_at hl 2 rfl) ?_
                      refine lv_iconst (v := 4) hx hb d_Bm_holds_75 (by decide) ?_
                      have hPc := hP.sub (ws' := (mo_ws m0 e0 (nI N) (nI n) (nI bc) (lN P) (lN Q) (lN G) (lN al) (lN pa) (lN pb) cl a0 a1 a2 a3 a4 a5 a6 a7 a8 a9 b0 b1 gok_1 b2 b3 b4 b5 ++ (jw_ws a0 cJ 1232 nf))) [0, 7] rfl
                      have hKc := hK.sub (tys' := [(cJ, .long), (cI, .int)]) [0, 1] rfl
                      refine va_calll (va_runV (As := [.int (nI k), .int 4]) (rest := [.long (R k 3), .long (R k 2), .int (nI (wh k)), .ref m0]) ⟨hx, hb, hml, hown, hts⟩ (c_Bm_at l H dC dI cJ cI m0 e0 (nI N) (nI n) (nI bc) (lN P) (lN Q) (lN G) (lN al) (lN pa) (lN pb) cl a0 a1 a2 a3 a4 a5 a6 a7 a8 a9 b0 b1 gok_1 b2 b3 b4 b5 nf k 4 hPc (by omega)) (cwV 2 hts (gw_V gk_1102 gk_1104 gp_42 gk_7 gk_1105) rfl rfl rfl (by decide +kernel) ⟨Nat.le_of_ble_eq_true rfl, Nat.le_of_ble_eq_true rfl⟩) ⟨fun a U g mk q => ⟨q.1, q.2.1, va_K.moved (u := U) (U := U.calling g mk a) (Vm.Alike.refl U.vm) q.2.2⟩, va_recv hK hP (ci := 8) (q0 := 0) rfl rfl, fun U hU hW => ⟨rfl, hU, va_K.moved hW.alike hKc⟩⟩ rfl rfl hl.1 rfl (lv_room (Nat.le_of_ble_eq_true rfl)) d_Bm_holds_76 ⟨Nat.le_of_ble_eq_true rfl, Nat.le_of_ble_eq_true rfl⟩) hS (fun q _ h => h.elim) (fun q h => h.elim) (fun r76 u9 t9 H1 locs ht hvm hw hB hz1 hk1 hS => ?_)
                      obtain rfl : H = H1 := hB.symm.trans ht
                      have hw : r76 = nf (8 * k + 4) := hw
                      subst hw
                      rw [show (nf (8 * k + 4) : Int64) = (R k 4) from hnf k hk 4 (by omega)]
                      have hPc := hP.sub (ws' := (mo_ws m0 e0 (nI N) (nI n) (nI bc) (lN P) (lN Q) (lN G) (lN al) (lN pa) (lN pb) cl a0 a1 a2 a3 a4 a5 a6 a7 a8 a9 b0 b1 gok_1 b2 b3 b4 b5 ++ (iw_ws a7 cI 256 gbk_1 ++ (iw_ws a8 cI 64 gsk_1 ++ (iw_ws a9 cI 8 gtk_1 ++ (iw_ws b0 cI 8 kS ++ (iw_ws b1 cI 64 kR ++ (jw_ws a2 cJ 4 gfk_1 ++ (jw_ws a3 cJ 16 lf))))))))) [0, 1, 2, 3, 4, 5, 6, 11] rfl
                      have hDc := hD.sub (ws' := (mo_ws m0 e0 (nI N) (nI n) (nI bc) (lN P) (lN Q) (lN G) (lN al) (lN pa) (lN pb) cl a0 a1 a2 a3 a4 a5 a6 a7 a8 a9 b0 b1 gok_1 b2 b3 b4 b5 ++ (iw_ws a7 cI 256 gbk_1 ++ (iw_ws a8 cI 64 gsk_1 ++ (iw_ws a9 cI 8 gtk_1 ++ (iw_ws b0 cI 8 kS ++ (iw_ws b1 cI 64 kR ++ (jw_ws a2 cJ 4 gfk_1 ++ (jw_ws a3 cJ 16 lf))))))))) [0, 1, 2, 3, 4, 5, 6, 11] (by decide) rfl
                      have hKc := hK.sub (tys' := [(cJ, .long), (cI, .int)]) [0, 1] rfl
                      have hFc := va_free (wc := (mo_ws m0 e0 (nI N) (nI n) (nI bc) (lN P) (lN Q) (lN G) (lN al) (lN pa) (lN pb) cl a0 a1 a2 a3 a4 a5 a6 a7 a8 a9 b0 b1 gok_1 b2 b3 b4 b5 ++ (iw_ws a7 cI 256 gbk_1 ++ (iw_ws a8 cI 64 gsk_1 ++ (iw_ws a9 cI 8 gtk_1 ++ (iw_ws b0 cI 8 kS ++ (iw_ws b1 cI 64 kR ++ (jw_ws a2 cJ 4 gfk_1 ++ (jw_ws a3 cJ 16 lf))))))))) hD hS hA [0, 1, 2, 3, 4, 5, 6, 11] rfl
                      refine va_calli (va_runV (As := [.int (nI (wh k)), .long (R k 2), .long (R k 3), .long (R k 4)]) (rest := []) ⟨hx, hb, hml, hown, hts⟩ (c_Bm_keyHolds l dC dI cJ cI H.size m0 e0 (nI N) (nI n) (nI bc) (lN al) (lN pa) (lN pb) cl a0 a1 a2 a3 a4 a5 a6 a7 a8 a9 b0 b1 gok_1 b2 b3 b4 b5 P Q G gbk_1 gsk_1 gtk_1 gfk_1 lf (wh k) (R k 2) (R k 3) (R k 4) hPQ h61F hQ3 hG2 hGP hGQ (by omega)) (cwV 4 hts (gw_V gk_1038 gk_1040 gp_28 gk_7 gk_1041) rfl rfl rfl (by decide +kernel) ⟨Nat.le_of_ble_eq_true rfl, Nat.le_of_ble_eq_true rfl⟩) ⟨fun a U g mk q => by obtain ⟨q0, q1, qP, qK, qD⟩ := q; exact ⟨q0, q1, qP, va_K.moved (u := U) (U := U.calling g mk a) (Vm.Alike.refl U.vm) qK, qD⟩, va_recv hK hP (ci := 8) (q0 := 0) rfl rfl, fun U hU hW => ⟨rfl, by rw [hU], by rw [hU]; exact hPc, va_K.moved hW.alike hKc, hDc.weaken (fun _ _ _ _ => trivial)⟩⟩ rfl rfl hl.1 rfl (lv_room (Nat.le_of_ble_eq_true rfl)) d_Bm_holds_79 ⟨Nat.le_of_ble_eq_true rfl, Nat.le_of_ble_eq_true rfl⟩) hS (fun q _ h => hFc q h) hFc (fun r_18 u9 t9 H1 locs ht hvm hw hB hz1 hk1 hS => ?_)
                      obtain ⟨⟨gbk_17, gsk_17, gtk_17, gfk_17, gok_17⟩, glk_17⟩ := u9
                      have hr_18 := hw
                      obtain ⟨hP1, hK1, hD1⟩ := hB
                      rw [ht] at hP1
                      obtain ⟨hP, hD⟩ := va_join (wr := [(a0, .inl (cJ, 1232, .inr (.inl nf))), (a1, .inl (cJ, 616, .inr (.inl cf))), (a4, .inl (cI, 4, .inl kf)), (b5, .inl (cI, 64, .inl ct))]) (w1 := [(m0, .inr (8, [.int e0, .int (nI N), .int (nI n), .int (nI bc), .long (lN P), .long (lN Q), .long (lN G), .long (lN al), .long (lN pa), .long (lN pb), .int cl, .ref a0, .ref a1, .ref a2, .ref a3, .ref a4, .ref a5, .ref a6, .ref a7, .ref a8, .ref a9, .ref b0, .ref b1, .int (nI gok_17), .ref b2, .ref b3, .ref b4, .ref b5])), (a7, .inl (cI, 256, .inl gbk_17)), (a8, .inl (cI, 64, .inl gsk_17)), (a9, .inl (cI, 8, .inl gtk_17)), (b0, .inl (cI, 8, .inl kS)), (b1, .inl (cI, 64, .inl kR)), (a2, .inl (cJ, 4, .inr (.inl gfk_17))), (a3, .inl (cJ, 16, .inr (.inl glk_17)))]) hP hD [0, 1, 2, 3, 4, 5, 6, 11] [7, 8, 9, 10] rfl rfl (by decide) (by decide) hk1 hFc hP1 hD1
                      have hP := hP.sub (ws' := [(m0, .inr (8, [.int e0, .int (nI N), .int (nI n), .int (nI bc), .long (lN P), .long (lN Q), .long (lN G), .long (lN al), .long (lN pa), .long (lN pb), .int cl, .ref a0, .ref a1, .ref a2, .ref a3, .ref a4, .ref a5, .ref a6, .ref a7, .ref a8, .ref a9, .ref b0, .ref b1, .int (nI gok_17), .ref b2, .ref b3, .ref b4, .ref b5])), (a7, .inl (cI, 256, .inl gbk_17)), (a8, .inl (cI, 64, .inl gsk_17)), (a9, .inl (cI, 8, .inl gtk_17)), (b0, .inl (cI, 8, .inl kS)), (b1, .inl (cI, 64, .inl kR)), (a2, .inl (cJ, 4, .inr (.inl gfk_17))), (a0, .inl (cJ, 1232, .inr (.inl nf))), (a1, .inl (cJ, 616, .inr (.inl cf))), (a4, .inl (cI, 4, .inl kf)), (b5, .inl (cI, 64, .inl ct)), (a3, .inl (cJ, 16, .inr (.inl glk_17)))]) [4, 5, 6, 7, 8, 9, 10, 0, 1, 2, 3, 11] rfl
                      have hD := hD.sub (ws' := [(m0, .inr (8, [.int e0, .int (nI N), .int (nI n), .int (nI bc), .long (lN P), .long (lN Q), .long (lN G), .long (lN al), .long (lN pa), .long (lN pb), .int cl, .ref a0, .ref a1, .ref a2, .ref a3, .ref a4, .ref a5, .ref a6, .ref a7, .ref a8, .ref a9, .ref b0, .ref b1, .int (nI gok_17), .ref b2, .ref b3, .ref b4, .ref b5])), (a7, .inl (cI, 256, .inl gbk_17)), (a8, .inl (cI, 64, .inl gsk_17)), (a9, .inl (cI, 8, .inl gtk_17)), (b0, .inl (cI, 8, .inl kS)), (b1, .inl (cI, 64, .inl kR)), (a2, .inl (cJ, 4, .inr (.inl gfk_17))), (a0, .inl (cJ, 1232, .inr (.inl nf))), (a1, .inl (cJ, 616, .inr (.inl cf))), (a4, .inl (cI, 4, .inl kf)), (b5, .inl (cI, 64, .inl ct)), (a3, .inl (cJ, 16, .inr (.inl glk_17)))]) [4, 5, 6, 7, 8, 9, 10, 0, 1, 2, 3, 11] (by decide) rfl
                      generalize H1 = H at hP hS ⊢
                      skip
                      exact W.zret (v := r_18) hx hb hr (by rcases hr_18 with ⟨h, _⟩ | ⟨h, _⟩ <;> rw [h] <;> decide) (fun t ht9 hW => ⟨⟨_, ((gbk_17, gsk_17, gtk_17, gfk_17, gok_17), glk_17, ct), rfl, ⟨bz_iff hr_18 ⟨fun h => hhk.mpr ⟨hln, h⟩, fun h => (hhk.mp h).2⟩, fun h => by
                        have h9 := hCS h
                        rw [if_neg (show ¬ kd k = 2 by omega)] at h9
                        exact h9⟩, by rw [ht9]; exact hP, va_K.moved hW.alike hK, hD⟩, hS.F ht9⟩) hS.2.2 d_Bm_holds_82
                  · -- not taken
                    exact absurd c_15 (by decide)
                · -- not taken
                  have hbad : ¬ hds P Q G N T0 kd wh R Lk k := fun h => c_13 ((lg_cmp_eq _ _).mpr (hhk.mp h).1.2.2.2.symm)
                  refine lv_iconst (v := 0) hx hb d_Bm_holds_32 (by decide) ?_
                  exact W.zret (v := 0) hx hb hr (by decide) (fun t ht9 hW => ⟨⟨_, ((gbk_1, gsk_1, gtk_1, gfk_1, gok_1), lf, ct), rfl, ⟨bz_0 hbad, fun h => absurd h hbad⟩, by rw [ht9]; exact hP, va_K.moved hW.alike hK, hD⟩, hS.F ht9⟩) hS.2.2 d_Bm_holds_33
            · -- not taken
              have hbad : ¬ hds P Q G N T0 kd wh R Lk k := fun h => c_10 ((lg_cmp_eq _ _).mpr (hhk.mp h).1.2.2.1.symm)
              refine lv_iconst (v := 0) hx hb d_Bm_holds_32 (by decide) ?_
              exact W.zret (v := 0) hx hb hr (by decide) (fun t ht9 hW => ⟨⟨_, ((gbk_1, gsk_1, gtk_1, gfk_1, gok_1), lf, ct), rfl, ⟨bz_0 hbad, fun h => absurd h hbad⟩, by rw [ht9]; exact hP, va_K.moved hW.alike hK, hD⟩, hS.F ht9⟩) hS.2.2 d_Bm_holds_33
        · -- not taken
          have hbad : ¬ hds P Q G N T0 kd wh R Lk k := fun h => c_7 ((lg_cmp_eq _ _).mpr (hhk.mp h).1.2.1.symm)
          refine lv_iconst (v := 0) hx hb d_Bm_holds_32 (by decide) ?_
          exact W.zret (v := 0) hx hb hr (by decide) (fun t ht9 hW => ⟨⟨_, ((gbk_1, gsk_1, gtk_1, gfk_1, gok_1), lf, ct), rfl, ⟨bz_0 hbad, fun h => absurd h hbad⟩, by rw [ht9]; exact hP, va_K.moved hW.alike hK, hD⟩, hS.F ht9⟩) hS.2.2 d_Bm_holds_33
    · -- not taken
      have hbad : ¬ hds P Q G N T0 kd wh R Lk k := fun h => c_4 ((lg_cmp_eq _ _).mpr (hhk.mp h).1.1.symm)
      refine lv_iconst (v := 0) hx hb d_Bm_holds_32 (by decide) ?_
      exact W.zret (v := 0) hx hb hr (by decide) (fun t ht9 hW => ⟨⟨_, ((gbk_1, gsk_1, gtk_1, gfk_1, gok_1), lf, ct), rfl, ⟨bz_0 hbad, fun h => absurd h hbad⟩, by rw [ht9]; exact hP, va_K.moved hW.alike hK, hD⟩, hS.F ht9⟩) hS.2.2 d_Bm_holds_33
