abbrev b_Ha_mix : ByteArray := prog_5_method_7_code
abbrev y_Ha_mix : MethodName := ⟨"BallotBoard$Hash", "mix", "()V"⟩
abbrev w_Ha_mix : List Cond := .code y_Ha_mix b_Ha_mix 14 none :: gw
theorem d_Ha_mix_0 : decode b_Ha_mix 0 = .ok (.aload_n 0, 1) := by decide +kernel
theorem d_Ha_mix_1 : decode b_Ha_mix 1 = .ok (.getfield 23, 3) := by decide +kernel
theorem d_Ha_mix_4 : decode b_Ha_mix 4 = .ok (.iconst 0, 1) := by decide +kernel
theorem d_Ha_mix_5 : decode b_Ha_mix 5 = .ok (.iaload, 1) := by decide +kernel
theorem d_Ha_mix_6 : decode b_Ha_mix 6 = .ok (.istore_n 1, 1) := by decide +kernel
theorem d_Ha_mix_7 : decode b_Ha_mix 7 = .ok (.aload_n 0, 1) := by decide +kernel
theorem d_Ha_mix_8 : decode b_Ha_mix 8 = .ok (.getfield 23, 3) := by decide +kernel
theorem d_Ha_mix_11 : decode b_Ha_mix 11 = .ok (.iconst 1, 1) := by decide +kernel
theorem d_Ha_mix_12 : decode b_Ha_mix 12 = .ok (.iaload, 1) := by decide +kernel
theorem d_Ha_mix_13 : decode b_Ha_mix 13 = .ok (.istore_n 2, 1) := by decide +kernel
theorem d_Ha_mix_14 : decode b_Ha_mix 14 = .ok (.aload_n 0, 1) := by decide +kernel
theorem d_Ha_mix_15 : decode b_Ha_mix 15 = .ok (.getfield 23, 3) := by decide +kernel
theorem d_Ha_mix_18 : decode b_Ha_mix 18 = .ok (.iconst 2, 1) := by decide +kernel
theorem d_Ha_mix_19 : decode b_Ha_mix 19 = .ok (.iaload, 1) := by decide +kernel
theorem d_Ha_mix_20 : decode b_Ha_mix 20 = .ok (.istore_n 3, 1) := by decide +kernel
theorem d_Ha_mix_21 : decode b_Ha_mix 21 = .ok (.aload_n 0, 1) := by decide +kernel
theorem d_Ha_mix_22 : decode b_Ha_mix 22 = .ok (.getfield 23, 3) := by decide +kernel
theorem d_Ha_mix_25 : decode b_Ha_mix 25 = .ok (.iconst 3, 1) := by decide +kernel
theorem d_Ha_mix_26 : decode b_Ha_mix 26 = .ok (.iaload, 1) := by decide +kernel
theorem d_Ha_mix_27 : decode b_Ha_mix 27 = .ok (.istore 4, 2) := by decide +kernel
theorem d_Ha_mix_29 : decode b_Ha_mix 29 = .ok (.aload_n 0, 1) := by decide +kernel
theorem d_Ha_mix_30 : decode b_Ha_mix 30 = .ok (.getfield 23, 3) := by decide +kernel
theorem d_Ha_mix_33 : decode b_Ha_mix 33 = .ok (.iconst 4, 1) := by decide +kernel
theorem d_Ha_mix_34 : decode b_Ha_mix 34 = .ok (.iaload, 1) := by decide +kernel
theorem d_Ha_mix_35 : decode b_Ha_mix 35 = .ok (.istore 5, 2) := by decide +kernel
theorem d_Ha_mix_37 : decode b_Ha_mix 37 = .ok (.aload_n 0, 1) := by decide +kernel
theorem d_Ha_mix_38 : decode b_Ha_mix 38 = .ok (.getfield 23, 3) := by decide +kernel
theorem d_Ha_mix_41 : decode b_Ha_mix 41 = .ok (.iconst 5, 1) := by decide +kernel
theorem d_Ha_mix_42 : decode b_Ha_mix 42 = .ok (.iaload, 1) := by decide +kernel
theorem d_Ha_mix_43 : decode b_Ha_mix 43 = .ok (.istore 6, 2) := by decide +kernel
theorem d_Ha_mix_45 : decode b_Ha_mix 45 = .ok (.aload_n 0, 1) := by decide +kernel
theorem d_Ha_mix_46 : decode b_Ha_mix 46 = .ok (.getfield 23, 3) := by decide +kernel
theorem d_Ha_mix_49 : decode b_Ha_mix 49 = .ok (.bipush 6, 2) := by decide +kernel
theorem d_Ha_mix_51 : decode b_Ha_mix 51 = .ok (.iaload, 1) := by decide +kernel
theorem d_Ha_mix_52 : decode b_Ha_mix 52 = .ok (.istore 7, 2) := by decide +kernel
theorem d_Ha_mix_54 : decode b_Ha_mix 54 = .ok (.aload_n 0, 1) := by decide +kernel
theorem d_Ha_mix_55 : decode b_Ha_mix 55 = .ok (.getfield 23, 3) := by decide +kernel
theorem d_Ha_mix_58 : decode b_Ha_mix 58 = .ok (.bipush 7, 2) := by decide +kernel
theorem d_Ha_mix_60 : decode b_Ha_mix 60 = .ok (.iaload, 1) := by decide +kernel
theorem d_Ha_mix_61 : decode b_Ha_mix 61 = .ok (.istore 8, 2) := by decide +kernel
theorem d_Ha_mix_63 : decode b_Ha_mix 63 = .ok (.iconst 0, 1) := by decide +kernel
theorem d_Ha_mix_64 : decode b_Ha_mix 64 = .ok (.istore 9, 2) := by decide +kernel
theorem d_Ha_mix_66 : decode b_Ha_mix 66 = .ok (.iload 9, 2) := by decide +kernel
theorem d_Ha_mix_68 : decode b_Ha_mix 68 = .ok (.getstatic 13, 3) := by decide +kernel
theorem d_Ha_mix_71 : decode b_Ha_mix 71 = .ok (.arraylength, 1) := by decide +kernel
theorem d_Ha_mix_72 : decode b_Ha_mix 72 = .ok (.if_icmp .ge 139, 3) := by decide +kernel
theorem d_Ha_mix_75 : decode b_Ha_mix 75 = .ok (.iload 5, 2) := by decide +kernel
theorem d_Ha_mix_77 : decode b_Ha_mix 77 = .ok (.iload 6, 2) := by decide +kernel
theorem d_Ha_mix_79 : decode b_Ha_mix 79 = .ok (.iand, 1) := by decide +kernel
theorem d_Ha_mix_80 : decode b_Ha_mix 80 = .ok (.iload 5, 2) := by decide +kernel
theorem d_Ha_mix_82 : decode b_Ha_mix 82 = .ok (.iconst (-1), 1) := by decide +kernel
theorem d_Ha_mix_83 : decode b_Ha_mix 83 = .ok (.ixor, 1) := by decide +kernel
theorem d_Ha_mix_84 : decode b_Ha_mix 84 = .ok (.iload 7, 2) := by decide +kernel
theorem d_Ha_mix_86 : decode b_Ha_mix 86 = .ok (.iand, 1) := by decide +kernel
theorem d_Ha_mix_87 : decode b_Ha_mix 87 = .ok (.ixor, 1) := by decide +kernel
theorem d_Ha_mix_88 : decode b_Ha_mix 88 = .ok (.istore 10, 2) := by decide +kernel
theorem d_Ha_mix_90 : decode b_Ha_mix 90 = .ok (.iload_n 1, 1) := by decide +kernel
theorem d_Ha_mix_91 : decode b_Ha_mix 91 = .ok (.iload_n 2, 1) := by decide +kernel
theorem d_Ha_mix_92 : decode b_Ha_mix 92 = .ok (.iand, 1) := by decide +kernel
theorem d_Ha_mix_93 : decode b_Ha_mix 93 = .ok (.iload_n 1, 1) := by decide +kernel
theorem d_Ha_mix_94 : decode b_Ha_mix 94 = .ok (.iload_n 3, 1) := by decide +kernel
theorem d_Ha_mix_95 : decode b_Ha_mix 95 = .ok (.iand, 1) := by decide +kernel
theorem d_Ha_mix_96 : decode b_Ha_mix 96 = .ok (.ixor, 1) := by decide +kernel
theorem d_Ha_mix_97 : decode b_Ha_mix 97 = .ok (.iload_n 2, 1) := by decide +kernel
theorem d_Ha_mix_98 : decode b_Ha_mix 98 = .ok (.iload_n 3, 1) := by decide +kernel
theorem d_Ha_mix_99 : decode b_Ha_mix 99 = .ok (.iand, 1) := by decide +kernel
theorem d_Ha_mix_100 : decode b_Ha_mix 100 = .ok (.ixor, 1) := by decide +kernel
theorem d_Ha_mix_101 : decode b_Ha_mix 101 = .ok (.istore 11, 2) := by decide +kernel
theorem d_Ha_mix_103 : decode b_Ha_mix 103 = .ok (.iload 8, 2) := by decide +kernel
theorem d_Ha_mix_105 : decode b_Ha_mix 105 = .ok (.iload 5, 2) := by decide +kernel
theorem d_Ha_mix_107 : decode b_Ha_mix 107 = .ok (.bipush 6, 2) := by decide +kernel
theorem d_Ha_mix_109 : decode b_Ha_mix 109 = .ok (.invokestatic 49, 3) := by decide +kernel
theorem d_Ha_mix_112 : decode b_Ha_mix 112 = .ok (.iload 5, 2) := by decide +kernel
theorem d_Ha_mix_114 : decode b_Ha_mix 114 = .ok (.bipush 11, 2) := by decide +kernel
theorem d_Ha_mix_116 : decode b_Ha_mix 116 = .ok (.invokestatic 49, 3) := by decide +kernel
theorem d_Ha_mix_119 : decode b_Ha_mix 119 = .ok (.ixor, 1) := by decide +kernel
theorem d_Ha_mix_120 : decode b_Ha_mix 120 = .ok (.iload 5, 2) := by decide +kernel
theorem d_Ha_mix_122 : decode b_Ha_mix 122 = .ok (.bipush 25, 2) := by decide +kernel
theorem d_Ha_mix_124 : decode b_Ha_mix 124 = .ok (.invokestatic 49, 3) := by decide +kernel
theorem d_Ha_mix_127 : decode b_Ha_mix 127 = .ok (.ixor, 1) := by decide +kernel
theorem d_Ha_mix_128 : decode b_Ha_mix 128 = .ok (.iadd, 1) := by decide +kernel
theorem d_Ha_mix_129 : decode b_Ha_mix 129 = .ok (.iload 10, 2) := by decide +kernel
theorem d_Ha_mix_131 : decode b_Ha_mix 131 = .ok (.iadd, 1) := by decide +kernel
theorem d_Ha_mix_132 : decode b_Ha_mix 132 = .ok (.getstatic 13, 3) := by decide +kernel
theorem d_Ha_mix_135 : decode b_Ha_mix 135 = .ok (.iload 9, 2) := by decide +kernel
theorem d_Ha_mix_137 : decode b_Ha_mix 137 = .ok (.iaload, 1) := by decide +kernel
theorem d_Ha_mix_138 : decode b_Ha_mix 138 = .ok (.iadd, 1) := by decide +kernel
theorem d_Ha_mix_139 : decode b_Ha_mix 139 = .ok (.aload_n 0, 1) := by decide +kernel
theorem d_Ha_mix_140 : decode b_Ha_mix 140 = .ok (.getfield 17, 3) := by decide +kernel
theorem d_Ha_mix_143 : decode b_Ha_mix 143 = .ok (.iload 9, 2) := by decide +kernel
theorem d_Ha_mix_145 : decode b_Ha_mix 145 = .ok (.iaload, 1) := by decide +kernel
theorem d_Ha_mix_146 : decode b_Ha_mix 146 = .ok (.iadd, 1) := by decide +kernel
theorem d_Ha_mix_147 : decode b_Ha_mix 147 = .ok (.istore 12, 2) := by decide +kernel
theorem d_Ha_mix_149 : decode b_Ha_mix 149 = .ok (.iload_n 1, 1) := by decide +kernel
theorem d_Ha_mix_150 : decode b_Ha_mix 150 = .ok (.iconst 2, 1) := by decide +kernel
theorem d_Ha_mix_151 : decode b_Ha_mix 151 = .ok (.invokestatic 49, 3) := by decide +kernel
theorem d_Ha_mix_154 : decode b_Ha_mix 154 = .ok (.iload_n 1, 1) := by decide +kernel
theorem d_Ha_mix_155 : decode b_Ha_mix 155 = .ok (.bipush 13, 2) := by decide +kernel
theorem d_Ha_mix_157 : decode b_Ha_mix 157 = .ok (.invokestatic 49, 3) := by decide +kernel
theorem d_Ha_mix_160 : decode b_Ha_mix 160 = .ok (.ixor, 1) := by decide +kernel
theorem d_Ha_mix_161 : decode b_Ha_mix 161 = .ok (.iload_n 1, 1) := by decide +kernel
theorem d_Ha_mix_162 : decode b_Ha_mix 162 = .ok (.bipush 22, 2) := by decide +kernel
theorem d_Ha_mix_164 : decode b_Ha_mix 164 = .ok (.invokestatic 49, 3) := by decide +kernel
theorem d_Ha_mix_167 : decode b_Ha_mix 167 = .ok (.ixor, 1) := by decide +kernel
theorem d_Ha_mix_168 : decode b_Ha_mix 168 = .ok (.iload 11, 2) := by decide +kernel
theorem d_Ha_mix_170 : decode b_Ha_mix 170 = .ok (.iadd, 1) := by decide +kernel
theorem d_Ha_mix_171 : decode b_Ha_mix 171 = .ok (.istore 13, 2) := by decide +kernel
theorem d_Ha_mix_173 : decode b_Ha_mix 173 = .ok (.iload 7, 2) := by decide +kernel
theorem d_Ha_mix_175 : decode b_Ha_mix 175 = .ok (.istore 8, 2) := by decide +kernel
theorem d_Ha_mix_177 : decode b_Ha_mix 177 = .ok (.iload 6, 2) := by decide +kernel
theorem d_Ha_mix_179 : decode b_Ha_mix 179 = .ok (.istore 7, 2) := by decide +kernel
theorem d_Ha_mix_181 : decode b_Ha_mix 181 = .ok (.iload 5, 2) := by decide +kernel
theorem d_Ha_mix_183 : decode b_Ha_mix 183 = .ok (.istore 6, 2) := by decide +kernel
theorem d_Ha_mix_185 : decode b_Ha_mix 185 = .ok (.iload 4, 2) := by decide +kernel
theorem d_Ha_mix_187 : decode b_Ha_mix 187 = .ok (.iload 12, 2) := by decide +kernel
theorem d_Ha_mix_189 : decode b_Ha_mix 189 = .ok (.iadd, 1) := by decide +kernel
theorem d_Ha_mix_190 : decode b_Ha_mix 190 = .ok (.istore 5, 2) := by decide +kernel
theorem d_Ha_mix_192 : decode b_Ha_mix 192 = .ok (.iload_n 3, 1) := by decide +kernel
theorem d_Ha_mix_193 : decode b_Ha_mix 193 = .ok (.istore 4, 2) := by decide +kernel
theorem d_Ha_mix_195 : decode b_Ha_mix 195 = .ok (.iload_n 2, 1) := by decide +kernel
theorem d_Ha_mix_196 : decode b_Ha_mix 196 = .ok (.istore_n 3, 1) := by decide +kernel
theorem d_Ha_mix_197 : decode b_Ha_mix 197 = .ok (.iload_n 1, 1) := by decide +kernel
theorem d_Ha_mix_198 : decode b_Ha_mix 198 = .ok (.istore_n 2, 1) := by decide +kernel
theorem d_Ha_mix_199 : decode b_Ha_mix 199 = .ok (.iload 12, 2) := by decide +kernel
theorem d_Ha_mix_201 : decode b_Ha_mix 201 = .ok (.iload 13, 2) := by decide +kernel
theorem d_Ha_mix_203 : decode b_Ha_mix 203 = .ok (.iadd, 1) := by decide +kernel
theorem d_Ha_mix_204 : decode b_Ha_mix 204 = .ok (.istore_n 1, 1) := by decide +kernel
theorem d_Ha_mix_205 : decode b_Ha_mix 205 = .ok (.iinc 9 1, 3) := by decide +kernel
theorem d_Ha_mix_208 : decode b_Ha_mix 208 = .ok (.goto (-142), 3) := by decide +kernel
theorem d_Ha_mix_211 : decode b_Ha_mix 211 = .ok (.aload_n 0, 1) := by decide +kernel
theorem d_Ha_mix_212 : decode b_Ha_mix 212 = .ok (.getfield 23, 3) := by decide +kernel
theorem d_Ha_mix_215 : decode b_Ha_mix 215 = .ok (.iconst 0, 1) := by decide +kernel
theorem d_Ha_mix_216 : decode b_Ha_mix 216 = .ok (.dup2, 1) := by decide +kernel
theorem d_Ha_mix_217 : decode b_Ha_mix 217 = .ok (.iaload, 1) := by decide +kernel
theorem d_Ha_mix_218 : decode b_Ha_mix 218 = .ok (.iload_n 1, 1) := by decide +kernel
theorem d_Ha_mix_219 : decode b_Ha_mix 219 = .ok (.iadd, 1) := by decide +kernel
theorem d_Ha_mix_220 : decode b_Ha_mix 220 = .ok (.iastore, 1) := by decide +kernel
theorem d_Ha_mix_221 : decode b_Ha_mix 221 = .ok (.aload_n 0, 1) := by decide +kernel
theorem d_Ha_mix_222 : decode b_Ha_mix 222 = .ok (.getfield 23, 3) := by decide +kernel
theorem d_Ha_mix_225 : decode b_Ha_mix 225 = .ok (.iconst 1, 1) := by decide +kernel
theorem d_Ha_mix_226 : decode b_Ha_mix 226 = .ok (.dup2, 1) := by decide +kernel
theorem d_Ha_mix_227 : decode b_Ha_mix 227 = .ok (.iaload, 1) := by decide +kernel
theorem d_Ha_mix_228 : decode b_Ha_mix 228 = .ok (.iload_n 2, 1) := by decide +kernel
theorem d_Ha_mix_229 : decode b_Ha_mix 229 = .ok (.iadd, 1) := by decide +kernel
theorem d_Ha_mix_230 : decode b_Ha_mix 230 = .ok (.iastore, 1) := by decide +kernel
theorem d_Ha_mix_231 : decode b_Ha_mix 231 = .ok (.aload_n 0, 1) := by decide +kernel
theorem d_Ha_mix_232 : decode b_Ha_mix 232 = .ok (.getfield 23, 3) := by decide +kernel
theorem d_Ha_mix_235 : decode b_Ha_mix 235 = .ok (.iconst 2, 1) := by decide +kernel
theorem d_Ha_mix_236 : decode b_Ha_mix 236 = .ok (.dup2, 1) := by decide +kernel
theorem d_Ha_mix_237 : decode b_Ha_mix 237 = .ok (.iaload, 1) := by decide +kernel
theorem d_Ha_mix_238 : decode b_Ha_mix 238 = .ok (.iload_n 3, 1) := by decide +kernel
theorem d_Ha_mix_239 : decode b_Ha_mix 239 = .ok (.iadd, 1) := by decide +kernel
theorem d_Ha_mix_240 : decode b_Ha_mix 240 = .ok (.iastore, 1) := by decide +kernel
theorem d_Ha_mix_241 : decode b_Ha_mix 241 = .ok (.aload_n 0, 1) := by decide +kernel
theorem d_Ha_mix_242 : decode b_Ha_mix 242 = .ok (.getfield 23, 3) := by decide +kernel
theorem d_Ha_mix_245 : decode b_Ha_mix 245 = .ok (.iconst 3, 1) := by decide +kernel
theorem d_Ha_mix_246 : decode b_Ha_mix 246 = .ok (.dup2, 1) := by decide +kernel
theorem d_Ha_mix_247 : decode b_Ha_mix 247 = .ok (.iaload, 1) := by decide +kernel
theorem d_Ha_mix_248 : decode b_Ha_mix 248 = .ok (.iload 4, 2) := by decide +kernel
theorem d_Ha_mix_250 : decode b_Ha_mix 250 = .ok (.iadd, 1) := by decide +kernel
theorem d_Ha_mix_251 : decode b_Ha_mix 251 = .ok (.iastore, 1) := by decide +kernel
theorem d_Ha_mix_252 : decode b_Ha_mix 252 = .ok (.aload_n 0, 1) := by decide +kernel
theorem d_Ha_mix_253 : decode b_Ha_mix 253 = .ok (.getfield 23, 3) := by decide +kernel
theorem d_Ha_mix_256 : decode b_Ha_mix 256 = .ok (.iconst 4, 1) := by decide +kernel
theorem d_Ha_mix_257 : decode b_Ha_mix 257 = .ok (.dup2, 1) := by decide +kernel
theorem d_Ha_mix_258 : decode b_Ha_mix 258 = .ok (.iaload, 1) := by decide +kernel
theorem d_Ha_mix_259 : decode b_Ha_mix 259 = .ok (.iload 5, 2) := by decide +kernel
theorem d_Ha_mix_261 : decode b_Ha_mix 261 = .ok (.iadd, 1) := by decide +kernel
theorem d_Ha_mix_262 : decode b_Ha_mix 262 = .ok (.iastore, 1) := by decide +kernel
theorem d_Ha_mix_263 : decode b_Ha_mix 263 = .ok (.aload_n 0, 1) := by decide +kernel
theorem d_Ha_mix_264 : decode b_Ha_mix 264 = .ok (.getfield 23, 3) := by decide +kernel
theorem d_Ha_mix_267 : decode b_Ha_mix 267 = .ok (.iconst 5, 1) := by decide +kernel
theorem d_Ha_mix_268 : decode b_Ha_mix 268 = .ok (.dup2, 1) := by decide +kernel
theorem d_Ha_mix_269 : decode b_Ha_mix 269 = .ok (.iaload, 1) := by decide +kernel
theorem d_Ha_mix_270 : decode b_Ha_mix 270 = .ok (.iload 6, 2) := by decide +kernel
theorem d_Ha_mix_272 : decode b_Ha_mix 272 = .ok (.iadd, 1) := by decide +kernel
theorem d_Ha_mix_273 : decode b_Ha_mix 273 = .ok (.iastore, 1) := by decide +kernel
theorem d_Ha_mix_274 : decode b_Ha_mix 274 = .ok (.aload_n 0, 1) := by decide +kernel
theorem d_Ha_mix_275 : decode b_Ha_mix 275 = .ok (.getfield 23, 3) := by decide +kernel
theorem d_Ha_mix_278 : decode b_Ha_mix 278 = .ok (.bipush 6, 2) := by decide +kernel
theorem d_Ha_mix_280 : decode b_Ha_mix 280 = .ok (.dup2, 1) := by decide +kernel
theorem d_Ha_mix_281 : decode b_Ha_mix 281 = .ok (.iaload, 1) := by decide +kernel
theorem d_Ha_mix_282 : decode b_Ha_mix 282 = .ok (.iload 7, 2) := by decide +kernel
theorem d_Ha_mix_284 : decode b_Ha_mix 284 = .ok (.iadd, 1) := by decide +kernel
theorem d_Ha_mix_285 : decode b_Ha_mix 285 = .ok (.iastore, 1) := by decide +kernel
theorem d_Ha_mix_286 : decode b_Ha_mix 286 = .ok (.aload_n 0, 1) := by decide +kernel
theorem d_Ha_mix_287 : decode b_Ha_mix 287 = .ok (.getfield 23, 3) := by decide +kernel
theorem d_Ha_mix_290 : decode b_Ha_mix 290 = .ok (.bipush 7, 2) := by decide +kernel
theorem d_Ha_mix_292 : decode b_Ha_mix 292 = .ok (.dup2, 1) := by decide +kernel
theorem d_Ha_mix_293 : decode b_Ha_mix 293 = .ok (.iaload, 1) := by decide +kernel
theorem d_Ha_mix_294 : decode b_Ha_mix 294 = .ok (.iload 8, 2) := by decide +kernel
theorem d_Ha_mix_296 : decode b_Ha_mix 296 = .ok (.iadd, 1) := by decide +kernel
theorem d_Ha_mix_297 : decode b_Ha_mix 297 = .ok (.iastore, 1) := by decide +kernel
theorem d_Ha_mix_298 : decode b_Ha_mix 298 = .ok (.return_, 1) := by decide +kernel
set_option maxHeartbeats 4000000 in
set_option maxRecDepth 100000 in
theorem c_Ha_mix (l : Launch) (dC : Nat → ClassId) (dI : Nat → Nat → Nat) (h0 sz : Nat) (aw ax ay : Nat) (cJ cI : ClassId) (w : Nat → Int64) (sc st : Nat → Int32) (L : Nat) (rA sA : Nat)  : Met l y_Ha_mix w_Ha_mix ({ frames := 1, cells := 0, slots := 0, locals := 21 }) (va_Pc [.ref h0] (fun U => U.heap.size = sz ∧ va_P (dC, dI) classes (ha_ws h0 aw ax ay cJ cI w sc st L) U.heap ∧ va_K (dC, dI) classes [(cJ, .long), (cI, .int)] U ∧ va_D (fun _ => True) (ha_ws h0 aw ax ay cJ cI w sc st L) ∧ ha_Z rA sA (va_A (ha_ws h0 aw ax ay cJ cI w sc st L) sz) U U.heap)) (va_Qv (fun _ : Unit => True) (fun _ t => va_P (dC, dI) classes (ha_ws h0 aw ax ay cJ cI w sc (mxa sc st 8) L) t.heap ∧ va_K (dC, dI) classes [(cJ, .long), (cI, .int)] t ∧ va_D (va_A (ha_ws h0 aw ax ay cJ cI w sc st L) sz) (ha_ws h0 aw ax ay cJ cI w sc (mxa sc st 8) L)) (va_A (ha_ws h0 aw ax ay cJ cI w sc st L) sz)) 0 0 (va_A (ha_ws h0 aw ax ay cJ cI w sc st L) sz) := by
  refine Met.ofW (cc := b_Ha_mix) (maxL := 14) (ret := none) (by decide) rfl ?_
  intro p e s m args below meth c s₁ Bd hml hv
  obtain ⟨rfl, hsz, hP, hK, hD0, hZ⟩ := hv
  have hx := Bd.exec
  have hb := Bd.bytes
  have hr := Bd.returns
  have hts := atoms_spec (ws := w_Ha_mix) Bd.pre
  have hown : s.vm.findClass "BallotBoard$Hash" = some m.cls := findClass_of_methodNamed Bd.named
  have hlocks := Bd.notSynchronized
  subst hsz
  have hD := hD0.self (sz := s.heap.size)
  generalize hAe : va_A (ha_ws h0 aw ax ay cJ cI w sc st L) s.heap.size = A at hD hZ ⊢
  have hA : ∀ q : Nat, s.heap.size ≤ q → A q := fun q h => by rw [← hAe]; exact Or.inr h
  have hS : va_S A s.heap s.heap [] := va_S.rf
  have hl := lv_entry ([.ref h0]) (n := 14) (Nat.le_of_ble_eq_true rfl)
  rw [lg_entry_eq]
  generalize (lg_sl ([.ref h0]) ++ List.replicate (14 - (lg_sl ([.ref h0])).length) Slot.unset).toArray = ls at hl ⊢
  have hl : lv_has ls 14 [(0, .ref h0)] := hl
  have loop : ∀ (j i : Nat), i + j = 64 → ∀ (H : Heap) (locs : List Loc), va_S A s.heap H locs → va_P (dC, dI) classes (ha_ws h0 aw ax ay cJ cI w sc st L) H → va_D A (ha_ws h0 aw ax ay cJ cI w sc st L) → ∀ (ls : Array Slot), lv_has ls 14 [(0, .ref h0), (1, .int (mx sc st i 0)), (2, .int (mx sc st i 1)), (3, .int (mx sc st i 2)), (4, .int (mx sc st i 3)), (5, .int (mx sc st i 4)), (6, .int (mx sc st i 5)), (7, .int (mx sc st i 6)), (8, .int (mx sc st i 7)), (9, .int (nI i))] → W p l e ({ frames := 1, cells := 0, slots := 0, locals := 21 } : Room) s m ([.ref h0] : List Value).toArray below meth c H locs 0 0 (MQ below (va_Qv (fun _ : Unit => True) (fun _ t => va_P (dC, dI) classes (ha_ws h0 aw ax ay cJ cI w sc (mxa sc st 8) L) t.heap ∧ va_K (dC, dI) classes [(cJ, .long), (cI, .int)] t ∧ va_D A (ha_ws h0 aw ax ay cJ cI w sc (mxa sc st 8) L)) A) ([.ref h0] : List Value).toArray s 0 0 A) (F0 m 66 ls []) := by
    intro j
    induction j using Nat.strongRecOn with
    | ind j ih =>
      intro i hij H locs hS hP hD ls hl
      refine lv_iload hx hb d_Ha_mix_66 (lv_at hl 9 rfl) ?_
      refine va_gets (v := .ref rA) hx hb hZ.1 hS hown (hts _ (List.mem_cons_of_mem _ gk_33)) (fun _ h9 => h9) d_Ha_mix_68 ?_
      refine va_tlen (v := 64) hx hb hZ.2.1 hS rfl d_Ha_mix_71 ?_
      refine lv_icmp_ge (tgt := 211) hx hb d_Ha_mix_72 (by decide) (fun c_1 => ?_) (fun c_1 => ?_)
      · -- taken
        have hi64 : i = 64 := by
          have := (ige 64 (by omega) (by omega) rfl).mp c_1
          omega
        subst hi64
        refine lv_aload_n hx hb d_Ha_mix_211 rfl (lv_at hl 0 rfl) ?_
        refine va_get (D := (dC, dI)) (ci := 2) (v := .ref ay) (C := "BallotBoard$Hash") (T := F_Ha) (N := 4) hx hb hts (fun w9 h9 => List.mem_cons_of_mem _ (i_Ha w9 h9)) hown hK hP 0 rfl rfl 2 (by decide) (hts _ (List.mem_cons_of_mem _ gk_39)) (fun _ h9 => h9) rfl d_Ha_mix_212 ?_
        refine lv_iconst (v := 0) hx hb d_Ha_mix_215 (by decide) ?_
        refine lv_dup2_11 hx hb d_Ha_mix_216 rfl rfl ?_
        refine va_iald hx hb hK hP 3 1 rfl rfl (vp_lit rfl) d_Ha_mix_217 ?_
        rw [show (st (0 : Int32).toNatClampNeg : Int32) = st 0 from rfl]
        refine lv_iload_n hx hb d_Ha_mix_218 rfl (lv_at hl 1 rfl) ?_
        refine lv_iadd hx hb d_Ha_mix_219 ?_
        refine va_iast hx hb hK hP hD hS 3 1 rfl rfl (vp_lit rfl) d_Ha_mix_220 (fun H locs hP hD hS => ?_)
        have hfe : upd st (0 : Int32).toNatClampNeg ((st 0) + (mx sc st 64 0)) = mxa sc st 1 := rfl
        have hP : va_P (dC, dI) classes [(h0, .inr (2, [.ref aw, .ref ax, .ref ay, .int (nI L)])), (aw, .inl (cJ, 16, .inr (.inl w))), (ax, .inl (cI, 64, .inl sc)), (ay, .inl (cI, 8, .inl (upd st (0 : Int32).toNatClampNeg ((st 0) + (mx sc st 64 0)))))] H := hP
        have hD : va_D A [(h0, .inr (2, [.ref aw, .ref ax, .ref ay, .int (nI L)])), (aw, .inl (cJ, 16, .inr (.inl w))), (ax, .inl (cI, 64, .inl sc)), (ay, .inl (cI, 8, .inl (upd st (0 : Int32).toNatClampNeg ((st 0) + (mx sc st 64 0)))))] := hD
        rw [hfe] at hP hD
        refine lv_aload_n hx hb d_Ha_mix_221 rfl (lv_at hl 0 rfl) ?_
        refine va_get (D := (dC, dI)) (ci := 2) (v := .ref ay) (C := "BallotBoard$Hash") (T := F_Ha) (N := 4) hx hb hts (fun w9 h9 => List.mem_cons_of_mem _ (i_Ha w9 h9)) hown hK hP 0 rfl rfl 2 (by decide) (hts _ (List.mem_cons_of_mem _ gk_39)) (fun _ h9 => h9) rfl d_Ha_mix_222 ?_
        refine lv_iconst (v := 1) hx hb d_Ha_mix_225 (by decide) ?_
        refine lv_dup2_11 hx hb d_Ha_mix_226 rfl rfl ?_
        refine va_iald hx hb hK hP 3 1 rfl rfl (vp_lit rfl) d_Ha_mix_227 ?_
        rw [show (mxa sc st 1 (1 : Int32).toNatClampNeg : Int32) = (mxa sc st 1) 1 from rfl]
        rw [show ((mxa sc st 1) 1 : Int32) = (st 1) from rfl]
        refine lv_iload_n hx hb d_Ha_mix_228 rfl (lv_at hl 2 rfl) ?_
        refine lv_iadd hx hb d_Ha_mix_229 ?_
        refine va_iast hx hb hK hP hD hS 3 1 rfl rfl (vp_lit rfl) d_Ha_mix_230 (fun H locs hP hD hS => ?_)
        have hfe : upd (mxa sc st 1) (1 : Int32).toNatClampNeg ((st 1) + (mx sc st 64 1)) = mxa sc st 2 := rfl
        have hP : va_P (dC, dI) classes [(h0, .inr (2, [.ref aw, .ref ax, .ref ay, .int (nI L)])), (aw, .inl (cJ, 16, .inr (.inl w))), (ax, .inl (cI, 64, .inl sc)), (ay, .inl (cI, 8, .inl (upd (mxa sc st 1) (1 : Int32).toNatClampNeg ((st 1) + (mx sc st 64 1)))))] H := hP
        have hD : va_D A [(h0, .inr (2, [.ref aw, .ref ax, .ref ay, .int (nI L)])), (aw, .inl (cJ, 16, .inr (.inl w))), (ax, .inl (cI, 64, .inl sc)), (ay, .inl (cI, 8, .inl (upd (mxa sc st 1) (1 : Int32).toNatClampNeg ((st 1) + (mx sc st 64 1)))))] := hD
        rw [hfe] at hP hD
        refine lv_aload_n hx hb d_Ha_mix_231 rfl (lv_at hl 0 rfl) ?_
        refine va_get (D := (dC, dI)) (ci := 2) (v := .ref ay) (C := "BallotBoard$Hash") (T := F_Ha) (N := 4) hx hb hts (fun w9 h9 => List.mem_cons_of_mem _ (i_Ha w9 h9)) hown hK hP 0 rfl rfl 2 (by decide) (hts _ (List.mem_cons_of_mem _ gk_39)) (fun _ h9 => h9) rfl d_Ha_mix_232 ?_
        refine lv_iconst (v := 2) hx hb d_Ha_mix_235 (by decide) ?_
        refine lv_dup2_11 hx hb d_Ha_mix_236 rfl rfl ?_
        refine va_iald hx hb hK hP 3 1 rfl rfl (vp_lit rfl) d_Ha_mix_237 ?_
        rw [show (mxa sc st 2 (2 : Int32).toNatClampNeg : Int32) = (mxa sc st 2) 2 from rfl]
        rw [show ((mxa sc st 2) 2 : Int32) = (st 2) from rfl]
        refine lv_iload_n hx hb d_Ha_mix_238 rfl (lv_at hl 3 rfl) ?_
        refine lv_iadd hx hb d_Ha_mix_239 ?_
        refine va_iast hx hb hK hP hD hS 3 1 rfl rfl (vp_lit rfl) d_Ha_mix_240 (fun H locs hP hD hS => ?_)
        have hfe : upd (mxa sc st 2) (2 : Int32).toNatClampNeg ((st 2) + (mx sc st 64 2)) = mxa sc st 3 := rfl
        have hP : va_P (dC, dI) classes [(h0, .inr (2, [.ref aw, .ref ax, .ref ay, .int (nI L)])), (aw, .inl (cJ, 16, .inr (.inl w))), (ax, .inl (cI, 64, .inl sc)), (ay, .inl (cI, 8, .inl (upd (mxa sc st 2) (2 : Int32).toNatClampNeg ((st 2) + (mx sc st 64 2)))))] H := hP
        have hD : va_D A [(h0, .inr (2, [.ref aw, .ref ax, .ref ay, .int (nI L)])), (aw, .inl (cJ, 16, .inr (.inl w))), (ax, .inl (cI, 64, .inl sc)), (ay, .inl (cI, 8, .inl (upd (mxa sc st 2) (2 : Int32).toNatClampNeg ((st 2) + (mx sc st 64 2)))))] := hD
        rw [hfe] at hP hD
        refine lv_aload_n hx hb d_Ha_mix_241 rfl (lv_at hl 0 rfl) ?_
        refine va_get (D := (dC, dI)) (ci := 2) (v := .ref ay) (C := "BallotBoard$Hash") (T := F_Ha) (N := 4) hx hb hts (fun w9 h9 => List.mem_cons_of_mem _ (i_Ha w9 h9)) hown hK hP 0 rfl rfl 2 (by decide) (hts _ (List.mem_cons_of_mem _ gk_39)) (fun _ h9 => h9) rfl d_Ha_mix_242 ?_
        refine lv_iconst (v := 3) hx hb d_Ha_mix_245 (by decide) ?_
        refine lv_dup2_11 hx hb d_Ha_mix_246 rfl rfl ?_
        refine va_iald hx hb hK hP 3 1 rfl rfl (vp_lit rfl) d_Ha_mix_247 ?_
        rw [show (mxa sc st 3 (3 : Int32).toNatClampNeg : Int32) = (mxa sc st 3) 3 from rfl]
        rw [show ((mxa sc st 3) 3 : Int32) = (st 3) from rfl]
        refine lv_iload hx hb d_Ha_mix_248 (lv_at hl 4 rfl) ?_
        refine lv_iadd hx hb d_Ha_mix_250 ?_
        refine va_iast hx hb hK hP hD hS 3 1 rfl rfl (vp_lit rfl) d_Ha_mix_251 (fun H locs hP hD hS => ?_)
        have hfe : upd (mxa sc st 3) (3 : Int32).toNatClampNeg ((st 3) + (mx sc st 64 3)) = mxa sc st 4 := rfl
        have hP : va_P (dC, dI) classes [(h0, .inr (2, [.ref aw, .ref ax, .ref ay, .int (nI L)])), (aw, .inl (cJ, 16, .inr (.inl w))), (ax, .inl (cI, 64, .inl sc)), (ay, .inl (cI, 8, .inl (upd (mxa sc st 3) (3 : Int32).toNatClampNeg ((st 3) + (mx sc st 64 3)))))] H := hP
        have hD : va_D A [(h0, .inr (2, [.ref aw, .ref ax, .ref ay, .int (nI L)])), (aw, .inl (cJ, 16, .inr (.inl w))), (ax, .inl (cI, 64, .inl sc)), (ay, .inl (cI, 8, .inl (upd (mxa sc st 3) (3 : Int32).toNatClampNeg ((st 3) + (mx sc st 64 3)))))] := hD
        rw [hfe] at hP hD
        refine lv_aload_n hx hb d_Ha_mix_252 rfl (lv_at hl 0 rfl) ?_
        refine va_get (D := (dC, dI)) (ci := 2) (v := .ref ay) (C := "BallotBoard$Hash") (T := F_Ha) (N := 4) hx hb hts (fun w9 h9 => List.mem_cons_of_mem _ (i_Ha w9 h9)) hown hK hP 0 rfl rfl 2 (by decide) (hts _ (List.mem_cons_of_mem _ gk_39)) (fun _ h9 => h9) rfl d_Ha_mix_253 ?_
        refine lv_iconst (v := 4) hx hb d_Ha_mix_256 (by decide) ?_
        refine lv_dup2_11 hx hb d_Ha_mix_257 rfl rfl ?_
        refine va_iald hx hb hK hP 3 1 rfl rfl (vp_lit rfl) d_Ha_mix_258 ?_
        rw [show (mxa sc st 4 (4 : Int32).toNatClampNeg : Int32) = (mxa sc st 4) 4 from rfl]
        rw [show ((mxa sc st 4) 4 : Int32) = (st 4) from rfl]
        refine lv_iload hx hb d_Ha_mix_259 (lv_at hl 5 rfl) ?_
        refine lv_iadd hx hb d_Ha_mix_261 ?_
        refine va_iast hx hb hK hP hD hS 3 1 rfl rfl (vp_lit rfl) d_Ha_mix_262 (fun H locs hP hD hS => ?_)
        have hfe : upd (mxa sc st 4) (4 : Int32).toNatClampNeg ((st 4) + (mx sc st 64 4)) = mxa sc st 5 := rfl
        have hP : va_P (dC, dI) classes [(h0, .inr (2, [.ref aw, .ref ax, .ref ay, .int (nI L)])), (aw, .inl (cJ, 16, .inr (.inl w))), (ax, .inl (cI, 64, .inl sc)), (ay, .inl (cI, 8, .inl (upd (mxa sc st 4) (4 : Int32).toNatClampNeg ((st 4) + (mx sc st 64 4)))))] H := hP
        have hD : va_D A [(h0, .inr (2, [.ref aw, .ref ax, .ref ay, .int (nI L)])), (aw, .inl (cJ, 16, .inr (.inl w))), (ax, .inl (cI, 64, .inl sc)), (ay, .inl (cI, 8, .inl (upd (mxa sc st 4) (4 : Int32).toNatClampNeg ((st 4) + (mx sc st 64 4)))))] := hD
        rw [hfe] at hP hD
        refine lv_aload_n hx hb d_Ha_mix_263 rfl (lv_at hl 0 rfl) ?_
        refine va_get (D := (dC, dI)) (ci := 2) (v := .ref ay) (C := "BallotBoard$Hash") (T := F_Ha) (N := 4) hx hb hts (fun w9 h9 => List.mem_cons_of_mem _ (i_Ha w9 h9)) hown hK hP 0 rfl rfl 2 (by decide) (hts _ (List.mem_cons_of_mem _ gk_39)) (fun _ h9 => h9) rfl d_Ha_mix_264 ?_
        refine lv_iconst (v := 5) hx hb d_Ha_mix_267 (by decide) ?_
        refine lv_dup2_11 hx hb d_Ha_mix_268 rfl rfl ?_
        refine va_iald hx hb hK hP 3 1 rfl rfl (vp_lit rfl) d_Ha_mix_269 ?_
        rw [show (mxa sc st 5 (5 : Int32).toNatClampNeg : Int32) = (mxa sc st 5) 5 from rfl]
        rw [show ((mxa sc st 5) 5 : Int32) = (st 5) from rfl]
        refine lv_iload hx hb d_Ha_mix_270 (lv_at hl 6 rfl) ?_
        refine lv_iadd hx hb d_Ha_mix_272 ?_
        refine va_iast hx hb hK hP hD hS 3 1 rfl rfl (vp_lit rfl) d_Ha_mix_273 (fun H locs hP hD hS => ?_)
        have hfe : upd (mxa sc st 5) (5 : Int32).toNatClampNeg ((st 5) + (mx sc st 64 5)) = mxa sc st 6 := rfl
        have hP : va_P (dC, dI) classes [(h0, .inr (2, [.ref aw, .ref ax, .ref ay, .int (nI L)])), (aw, .inl (cJ, 16, .inr (.inl w))), (ax, .inl (cI, 64, .inl sc)), (ay, .inl (cI, 8, .inl (upd (mxa sc st 5) (5 : Int32).toNatClampNeg ((st 5) + (mx sc st 64 5)))))] H := hP
        have hD : va_D A [(h0, .inr (2, [.ref aw, .ref ax, .ref ay, .int (nI L)])), (aw, .inl (cJ, 16, .inr (.inl w))), (ax, .inl (cI, 64, .inl sc)), (ay, .inl (cI, 8, .inl (upd (mxa sc st 5) (5 : Int32).toNatClampNeg ((st 5) + (mx sc st 64 5)))))] := hD
        rw [hfe] at hP hD
        refine lv_aload_n hx hb d_Ha_mix_274 rfl (lv_at hl 0 rfl) ?_
        refine va_get (D := (dC, dI)) (ci := 2) (v := .ref ay) (C := "BallotBoard$Hash") (T := F_Ha) (N := 4) hx hb hts (fun w9 h9 => List.mem_cons_of_mem _ (i_Ha w9 h9)) hown hK hP 0 rfl rfl 2 (by decide) (hts _ (List.mem_cons_of_mem _ gk_39)) (fun _ h9 => h9) rfl d_Ha_mix_275 ?_
        refine lv_bipush (v := 6) hx hb d_Ha_mix_278 (by decide) ?_
        refine lv_dup2_11 hx hb d_Ha_mix_280 rfl rfl ?_
        refine va_iald hx hb hK hP 3 1 rfl rfl (vp_lit rfl) d_Ha_mix_281 ?_
        rw [show (mxa sc st 6 (6 : Int32).toNatClampNeg : Int32) = (mxa sc st 6) 6 from rfl]
        rw [show ((mxa sc st 6) 6 : Int32) = (st 6) from rfl]
        refine lv_iload hx hb d_Ha_mix_282 (lv_at hl 7 rfl) ?_
        refine lv_iadd hx hb d_Ha_mix_284 ?_
        refine va_iast hx hb hK hP hD hS 3 1 rfl rfl (vp_lit rfl) d_Ha_mix_285 (fun H locs hP hD hS => ?_)
        have hfe : upd (mxa sc st 6) (6 : Int32).toNatClampNeg ((st 6) + (mx sc st 64 6)) = mxa sc st 7 := rfl
        have hP : va_P (dC, dI) classes [(h0, .inr (2, [.ref aw, .ref ax, .ref ay, .int (nI L)])), (aw, .inl (cJ, 16, .inr (.inl w))), (ax, .inl (cI, 64, .inl sc)), (ay, .inl (cI, 8, .inl (upd (mxa sc st 6) (6 : Int32).toNatClampNeg ((st 6) + (mx sc st 64 6)))))] H := hP
        have hD : va_D A [(h0, .inr (2, [.ref aw, .ref ax, .ref ay, .int (nI L)])), (aw, .inl (cJ, 16, .inr (.inl w))), (ax, .inl (cI, 64, .inl sc)), (ay, .inl (cI, 8, .inl (upd (mxa sc st 6) (6 : Int32).toNatClampNeg ((st 6) + (mx sc st 64 6)))))] := hD
        rw [hfe] at hP hD
        refine lv_aload_n hx hb d_Ha_mix_286 rfl (lv_at hl 0 rfl) ?_
        refine va_get (D := (dC, dI)) (ci := 2) (v := .ref ay) (C := "BallotBoard$Hash") (T := F_Ha) (N := 4) hx hb hts (fun w9 h9 => List.mem_cons_of_mem _ (i_Ha w9 h9)) hown hK hP 0 rfl rfl 2 (by decide) (hts _ (List.mem_cons_of_mem _ gk_39)) (fun _ h9 => h9) rfl d_Ha_mix_287 ?_
        refine lv_bipush (v := 7) hx hb d_Ha_mix_290 (by decide) ?_
        refine lv_dup2_11 hx hb d_Ha_mix_292 rfl rfl ?_
        refine va_iald hx hb hK hP 3 1 rfl rfl (vp_lit rfl) d_Ha_mix_293 ?_
        rw [show (mxa sc st 7 (7 : Int32).toNatClampNeg : Int32) = (mxa sc st 7) 7 from rfl]
        rw [show ((mxa sc st 7) 7 : Int32) = (st 7) from rfl]
        refine lv_iload hx hb d_Ha_mix_294 (lv_at hl 8 rfl) ?_
        refine lv_iadd hx hb d_Ha_mix_296 ?_
        refine va_iast hx hb hK hP hD hS 3 1 rfl rfl (vp_lit rfl) d_Ha_mix_297 (fun H locs hP hD hS => ?_)
        have hfe : upd (mxa sc st 7) (7 : Int32).toNatClampNeg ((st 7) + (mx sc st 64 7)) = mxa sc st 8 := rfl
        have hP : va_P (dC, dI) classes [(h0, .inr (2, [.ref aw, .ref ax, .ref ay, .int (nI L)])), (aw, .inl (cJ, 16, .inr (.inl w))), (ax, .inl (cI, 64, .inl sc)), (ay, .inl (cI, 8, .inl (upd (mxa sc st 7) (7 : Int32).toNatClampNeg ((st 7) + (mx sc st 64 7)))))] H := hP
        have hD : va_D A [(h0, .inr (2, [.ref aw, .ref ax, .ref ay, .int (nI L)])), (aw, .inl (cJ, 16, .inr (.inl w))), (ax, .inl (cI, 64, .inl sc)), (ay, .inl (cI, 8, .inl (upd (mxa sc st 7) (7 : Int32).toNatClampNeg ((st 7) + (mx sc st 64 7)))))] := hD
        rw [hfe] at hP hD
        exact W.vret hx hb hr (fun t ht9 hW => ⟨⟨(), rfl, trivial, by rw [ht9]; exact hP, va_K.moved hW.alike hK, hD⟩, hS.F ht9⟩) hS.2.2 d_Ha_mix_298
      · -- not taken
        have hi64 : i < 64 := by
          have : ¬ 64 ≤ i := fun h => c_1 ((ige 64 (by omega) (by omega) rfl).mpr h)
          omega
        refine lv_iload hx hb d_Ha_mix_75 (lv_at hl 5 rfl) ?_
        refine lv_iload hx hb d_Ha_mix_77 (lv_at hl 6 rfl) ?_
        refine lv_iand hx hb d_Ha_mix_79 ?_
        refine lv_iload hx hb d_Ha_mix_80 (lv_at hl 5 rfl) ?_
        refine lv_iconst (v := (-1)) hx hb d_Ha_mix_82 (by decide) ?_
        refine lv_ixor hx hb d_Ha_mix_83 ?_
        refine lv_iload hx hb d_Ha_mix_84 (lv_at hl 7 rfl) ?_
        refine lv_iand hx hb d_Ha_mix_86 ?_
        refine lv_ixor hx hb d_Ha_mix_87 ?_
        refine lv_istore (lv' := [(10, .int (((mx sc st i 4) &&& (mx sc st i 5)) ^^^ (((mx sc st i 4) ^^^ (-1)) &&& (mx sc st i 6)))), (0, .ref h0), (1, .int (mx sc st i 0)), (2, .int (mx sc st i 1)), (3, .int (mx sc st i 2)), (4, .int (mx sc st i 3)), (5, .int (mx sc st i 4)), (6, .int (mx sc st i 5)), (7, .int (mx sc st i 6)), (8, .int (mx sc st i 7)), (9, .int (nI i))]) hx hb d_Ha_mix_88 hl (by decide) rfl (fun ls hl => ?_)
        refine lv_iload_n hx hb d_Ha_mix_90 rfl (lv_at hl 2 rfl) ?_
        refine lv_iload_n hx hb d_Ha_mix_91 rfl (lv_at hl 3 rfl) ?_
        refine lv_iand hx hb d_Ha_mix_92 ?_
        refine lv_iload_n hx hb d_Ha_mix_93 rfl (lv_at hl 2 rfl) ?_
        refine lv_iload_n hx hb d_Ha_mix_94 rfl (lv_at hl 4 rfl) ?_
        refine lv_iand hx hb d_Ha_mix_95 ?_
        refine lv_ixor hx hb d_Ha_mix_96 ?_
        refine lv_iload_n hx hb d_Ha_mix_97 rfl (lv_at hl 3 rfl) ?_
        refine lv_iload_n hx hb d_Ha_mix_98 rfl (lv_at hl 4 rfl) ?_
        refine lv_iand hx hb d_Ha_mix_99 ?_
        refine lv_ixor hx hb d_Ha_mix_100 ?_
        refine lv_istore (lv' := [(11, .int ((((mx sc st i 0) &&& (mx sc st i 1)) ^^^ ((mx sc st i 0) &&& (mx sc st i 2))) ^^^ ((mx sc st i 1) &&& (mx sc st i 2)))), (10, .int (((mx sc st i 4) &&& (mx sc st i 5)) ^^^ (((mx sc st i 4) ^^^ (-1)) &&& (mx sc st i 6)))), (0, .ref h0), (1, .int (mx sc st i 0)), (2, .int (mx sc st i 1)), (3, .int (mx sc st i 2)), (4, .int (mx sc st i 3)), (5, .int (mx sc st i 4)), (6, .int (mx sc st i 5)), (7, .int (mx sc st i 6)), (8, .int (mx sc st i 7)), (9, .int (nI i))]) hx hb d_Ha_mix_101 hl (by decide) rfl (fun ls hl => ?_)
        refine lv_iload hx hb d_Ha_mix_103 (lv_at hl 10 rfl) ?_
        refine lv_iload hx hb d_Ha_mix_105 (lv_at hl 7 rfl) ?_
        refine lv_bipush (v := 6) hx hb d_Ha_mix_107 (by decide) ?_
        refine va_calli (va_runS (As := [.int (mx sc st i 4), .int 6]) (rest := [.int (mx sc st i 7)]) ⟨hx, hb, hml, hown, hts⟩ (c_Ha_turned l H (mx sc st i 4) 6) (cwS 2 hts (gw_S gk_528 gk_529 gk_2 gk_530) rfl rfl rfl (by decide +kernel) ⟨Nat.le_of_ble_eq_true rfl, Nat.le_of_ble_eq_true rfl⟩) ⟨fun a U g mk q => q, fun U hU hW => ⟨rfl, hU⟩⟩ rfl rfl hl.1 rfl (lv_room (Nat.le_of_ble_eq_true rfl)) d_Ha_mix_109 ⟨Nat.zero_le _, Nat.zero_le _⟩) hS (fun q _ h => h.elim) (fun q h => h.elim) (fun r_2 u9 t9 H1 locs ht hvm hw hB hz1 hk1 hS => ?_)
        obtain rfl : H = H1 := hB.symm.trans ht
        have hw : r_2 = tn (mx sc st i 4) 6 := hw
        subst hw
        refine lv_iload hx hb d_Ha_mix_112 (lv_at hl 7 rfl) ?_
        refine lv_bipush (v := 11) hx hb d_Ha_mix_114 (by decide) ?_
        refine va_calli (va_runS (As := [.int (mx sc st i 4), .int 11]) (rest := [.int (tn (mx sc st i 4) 6), .int (mx sc st i 7)]) ⟨hx, hb, hml, hown, hts⟩ (c_Ha_turned l H (mx sc st i 4) 11) (cwS 2 hts (gw_S gk_528 gk_529 gk_2 gk_530) rfl rfl rfl (by decide +kernel) ⟨Nat.le_of_ble_eq_true rfl, Nat.le_of_ble_eq_true rfl⟩) ⟨fun a U g mk q => q, fun U hU hW => ⟨rfl, hU⟩⟩ rfl rfl hl.1 rfl (lv_room (Nat.le_of_ble_eq_true rfl)) d_Ha_mix_116 ⟨Nat.zero_le _, Nat.zero_le _⟩) hS (fun q _ h => h.elim) (fun q h => h.elim) (fun r_3 u9 t9 H1 locs ht hvm hw hB hz1 hk1 hS => ?_)
        obtain rfl : H = H1 := hB.symm.trans ht
        have hw : r_3 = tn (mx sc st i 4) 11 := hw
        subst hw
        refine lv_ixor hx hb d_Ha_mix_119 ?_
        refine lv_iload hx hb d_Ha_mix_120 (lv_at hl 7 rfl) ?_
        refine lv_bipush (v := 25) hx hb d_Ha_mix_122 (by decide) ?_
        refine va_calli (va_runS (As := [.int (mx sc st i 4), .int 25]) (rest := [.int ((tn (mx sc st i 4) 6) ^^^ (tn (mx sc st i 4) 11)), .int (mx sc st i 7)]) ⟨hx, hb, hml, hown, hts⟩ (c_Ha_turned l H (mx sc st i 4) 25) (cwS 2 hts (gw_S gk_528 gk_529 gk_2 gk_530) rfl rfl rfl (by decide +kernel) ⟨Nat.le_of_ble_eq_true rfl, Nat.le_of_ble_eq_true rfl⟩) ⟨fun a U g mk q => q, fun U hU hW => ⟨rfl, hU⟩⟩ rfl rfl hl.1 rfl (lv_room (Nat.le_of_ble_eq_true rfl)) d_Ha_mix_124 ⟨Nat.zero_le _, Nat.zero_le _⟩) hS (fun q _ h => h.elim) (fun q h => h.elim) (fun r_4 u9 t9 H1 locs ht hvm hw hB hz1 hk1 hS => ?_)
        obtain rfl : H = H1 := hB.symm.trans ht
        have hw : r_4 = tn (mx sc st i 4) 25 := hw
        subst hw
        refine lv_ixor hx hb d_Ha_mix_127 ?_
        refine lv_iadd hx hb d_Ha_mix_128 ?_
        refine lv_iload hx hb d_Ha_mix_129 (lv_at hl 1 rfl) ?_
        refine lv_iadd hx hb d_Ha_mix_131 ?_
        refine va_gets (v := .ref rA) hx hb hZ.1 hS hown (hts _ (List.mem_cons_of_mem _ gk_33)) (fun _ h9 => h9) d_Ha_mix_132 ?_
        refine lv_iload hx hb d_Ha_mix_135 (lv_at hl 11 rfl) ?_
        refine va_ti (v := .int (kR (nI i : Int32).toNatClampNeg)) hx hb hZ.2.1 hS (vp_in_nI (by omega) (by omega)) rfl d_Ha_mix_137 ?_
        rw [show (kR (nI i : Int32).toNatClampNeg : Int32) = kR i from by rw [nI_clamp (by omega)]]
        refine lv_iadd hx hb d_Ha_mix_138 ?_
        refine lv_aload_n hx hb d_Ha_mix_139 rfl (lv_at hl 2 rfl) ?_
        refine va_get (D := (dC, dI)) (ci := 2) (v := .ref ax) (C := "BallotBoard$Hash") (T := F_Ha) (N := 4) hx hb hts (fun w9 h9 => List.mem_cons_of_mem _ (i_Ha w9 h9)) hown hK hP 0 rfl rfl 1 (by decide) (hts _ (List.mem_cons_of_mem _ gk_38)) (fun _ h9 => h9) rfl d_Ha_mix_140 ?_
        refine lv_iload hx hb d_Ha_mix_143 (lv_at hl 11 rfl) ?_
        refine va_iald hx hb hK hP 2 1 rfl rfl (vp_in_nI (by omega) (by omega)) d_Ha_mix_145 ?_
        rw [show (sc (nI i : Int32).toNatClampNeg : Int32) = sc i from by rw [nI_clamp (by omega)]]
        refine lv_iadd hx hb d_Ha_mix_146 ?_
        refine lv_istore (lv' := [(12, .int (((((mx sc st i 7) + (((tn (mx sc st i 4) 6) ^^^ (tn (mx sc st i 4) 11)) ^^^ (tn (mx sc st i 4) 25))) + (((mx sc st i 4) &&& (mx sc st i 5)) ^^^ (((mx sc st i 4) ^^^ (-1)) &&& (mx sc st i 6)))) + (kR i)) + (sc i))), (11, .int ((((mx sc st i 0) &&& (mx sc st i 1)) ^^^ ((mx sc st i 0) &&& (mx sc st i 2))) ^^^ ((mx sc st i 1) &&& (mx sc st i 2)))), (10, .int (((mx sc st i 4) &&& (mx sc st i 5)) ^^^ (((mx sc st i 4) ^^^ (-1)) &&& (mx sc st i 6)))), (0, .ref h0), (1, .int (mx sc st i 0)), (2, .int (mx sc st i 1)), (3, .int (mx sc st i 2)), (4, .int (mx sc st i 3)), (5, .int (mx sc st i 4)), (6, .int (mx sc st i 5)), (7, .int (mx sc st i 6)), (8, .int (mx sc st i 7)), (9, .int (nI i))]) hx hb d_Ha_mix_147 hl (by decide) rfl (fun ls hl => ?_)
        refine lv_iload_n hx hb d_Ha_mix_149 rfl (lv_at hl 4 rfl) ?_
        refine lv_iconst (v := 2) hx hb d_Ha_mix_150 (by decide) ?_
        refine va_calli (va_runS (As := [.int (mx sc st i 0), .int 2]) (rest := []) ⟨hx, hb, hml, hown, hts⟩ (c_Ha_turned l H (mx sc st i 0) 2) (cwS 2 hts (gw_S gk_528 gk_529 gk_2 gk_530) rfl rfl rfl (by decide +kernel) ⟨Nat.le_of_ble_eq_true rfl, Nat.le_of_ble_eq_true rfl⟩) ⟨fun a U g mk q => q, fun U hU hW => ⟨rfl, hU⟩⟩ rfl rfl hl.1 rfl (lv_room (Nat.le_of_ble_eq_true rfl)) d_Ha_mix_151 ⟨Nat.zero_le _, Nat.zero_le _⟩) hS (fun q _ h => h.elim) (fun q h => h.elim) (fun r_5 u9 t9 H1 locs ht hvm hw hB hz1 hk1 hS => ?_)
        obtain rfl : H = H1 := hB.symm.trans ht
        have hw : r_5 = tn (mx sc st i 0) 2 := hw
        subst hw
        refine lv_iload_n hx hb d_Ha_mix_154 rfl (lv_at hl 4 rfl) ?_
        refine lv_bipush (v := 13) hx hb d_Ha_mix_155 (by decide) ?_
        refine va_calli (va_runS (As := [.int (mx sc st i 0), .int 13]) (rest := [.int (tn (mx sc st i 0) 2)]) ⟨hx, hb, hml, hown, hts⟩ (c_Ha_turned l H (mx sc st i 0) 13) (cwS 2 hts (gw_S gk_528 gk_529 gk_2 gk_530) rfl rfl rfl (by decide +kernel) ⟨Nat.le_of_ble_eq_true rfl, Nat.le_of_ble_eq_true rfl⟩) ⟨fun a U g mk q => q, fun U hU hW => ⟨rfl, hU⟩⟩ rfl rfl hl.1 rfl (lv_room (Nat.le_of_ble_eq_true rfl)) d_Ha_mix_157 ⟨Nat.zero_le _, Nat.zero_le _⟩) hS (fun q _ h => h.elim) (fun q h => h.elim) (fun r_6 u9 t9 H1 locs ht hvm hw hB hz1 hk1 hS => ?_)
        obtain rfl : H = H1 := hB.symm.trans ht
        have hw : r_6 = tn (mx sc st i 0) 13 := hw
        subst hw
        refine lv_ixor hx hb d_Ha_mix_160 ?_
        refine lv_iload_n hx hb d_Ha_mix_161 rfl (lv_at hl 4 rfl) ?_
        refine lv_bipush (v := 22) hx hb d_Ha_mix_162 (by decide) ?_
        refine va_calli (va_runS (As := [.int (mx sc st i 0), .int 22]) (rest := [.int ((tn (mx sc st i 0) 2) ^^^ (tn (mx sc st i 0) 13))]) ⟨hx, hb, hml, hown, hts⟩ (c_Ha_turned l H (mx sc st i 0) 22) (cwS 2 hts (gw_S gk_528 gk_529 gk_2 gk_530) rfl rfl rfl (by decide +kernel) ⟨Nat.le_of_ble_eq_true rfl, Nat.le_of_ble_eq_true rfl⟩) ⟨fun a U g mk q => q, fun U hU hW => ⟨rfl, hU⟩⟩ rfl rfl hl.1 rfl (lv_room (Nat.le_of_ble_eq_true rfl)) d_Ha_mix_164 ⟨Nat.zero_le _, Nat.zero_le _⟩) hS (fun q _ h => h.elim) (fun q h => h.elim) (fun r_7 u9 t9 H1 locs ht hvm hw hB hz1 hk1 hS => ?_)
        obtain rfl : H = H1 := hB.symm.trans ht
        have hw : r_7 = tn (mx sc st i 0) 22 := hw
        subst hw
        refine lv_ixor hx hb d_Ha_mix_167 ?_
        refine lv_iload hx hb d_Ha_mix_168 (lv_at hl 1 rfl) ?_
        refine lv_iadd hx hb d_Ha_mix_170 ?_
        refine lv_istore (lv' := [(13, .int ((((tn (mx sc st i 0) 2) ^^^ (tn (mx sc st i 0) 13)) ^^^ (tn (mx sc st i 0) 22)) + ((((mx sc st i 0) &&& (mx sc st i 1)) ^^^ ((mx sc st i 0) &&& (mx sc st i 2))) ^^^ ((mx sc st i 1) &&& (mx sc st i 2))))), (12, .int (((((mx sc st i 7) + (((tn (mx sc st i 4) 6) ^^^ (tn (mx sc st i 4) 11)) ^^^ (tn (mx sc st i 4) 25))) + (((mx sc st i 4) &&& (mx sc st i 5)) ^^^ (((mx sc st i 4) ^^^ (-1)) &&& (mx sc st i 6)))) + (kR i)) + (sc i))), (11, .int ((((mx sc st i 0) &&& (mx sc st i 1)) ^^^ ((mx sc st i 0) &&& (mx sc st i 2))) ^^^ ((mx sc st i 1) &&& (mx sc st i 2)))), (10, .int (((mx sc st i 4) &&& (mx sc st i 5)) ^^^ (((mx sc st i 4) ^^^ (-1)) &&& (mx sc st i 6)))), (0, .ref h0), (1, .int (mx sc st i 0)), (2, .int (mx sc st i 1)), (3, .int (mx sc st i 2)), (4, .int (mx sc st i 3)), (5, .int (mx sc st i 4)), (6, .int (mx sc st i 5)), (7, .int (mx sc st i 6)), (8, .int (mx sc st i 7)), (9, .int (nI i))]) hx hb d_Ha_mix_171 hl (by decide) rfl (fun ls hl => ?_)
        refine lv_iload hx hb d_Ha_mix_173 (lv_at hl 11 rfl) ?_
        refine lv_istore (lv' := [(8, .int (mx sc st i 6)), (13, .int ((((tn (mx sc st i 0) 2) ^^^ (tn (mx sc st i 0) 13)) ^^^ (tn (mx sc st i 0) 22)) + ((((mx sc st i 0) &&& (mx sc st i 1)) ^^^ ((mx sc st i 0) &&& (mx sc st i 2))) ^^^ ((mx sc st i 1) &&& (mx sc st i 2))))), (12, .int (((((mx sc st i 7) + (((tn (mx sc st i 4) 6) ^^^ (tn (mx sc st i 4) 11)) ^^^ (tn (mx sc st i 4) 25))) + (((mx sc st i 4) &&& (mx sc st i 5)) ^^^ (((mx sc st i 4) ^^^ (-1)) &&& (mx sc st i 6)))) + (kR i)) + (sc i))), (11, .int ((((mx sc st i 0) &&& (mx sc st i 1)) ^^^ ((mx sc st i 0) &&& (mx sc st i 2))) ^^^ ((mx sc st i 1) &&& (mx sc st i 2)))), (10, .int (((mx sc st i 4) &&& (mx sc st i 5)) ^^^ (((mx sc st i 4) ^^^ (-1)) &&& (mx sc st i 6)))), (0, .ref h0), (1, .int (mx sc st i 0)), (2, .int (mx sc st i 1)), (3, .int (mx sc st i 2)), (4, .int (mx sc st i 3)), (5, .int (mx sc st i 4)), (6, .int (mx sc st i 5)), (7, .int (mx sc st i 6)), (9, .int (nI i))]) hx hb d_Ha_mix_175 hl (by decide) rfl (fun ls hl => ?_)
        refine lv_iload hx hb d_Ha_mix_177 (lv_at hl 11 rfl) ?_
        refine lv_istore (lv' := [(7, .int (mx sc st i 5)), (8, .int (mx sc st i 6)), (13, .int ((((tn (mx sc st i 0) 2) ^^^ (tn (mx sc st i 0) 13)) ^^^ (tn (mx sc st i 0) 22)) + ((((mx sc st i 0) &&& (mx sc st i 1)) ^^^ ((mx sc st i 0) &&& (mx sc st i 2))) ^^^ ((mx sc st i 1) &&& (mx sc st i 2))))), (12, .int (((((mx sc st i 7) + (((tn (mx sc st i 4) 6) ^^^ (tn (mx sc st i 4) 11)) ^^^ (tn (mx sc st i 4) 25))) + (((mx sc st i 4) &&& (mx sc st i 5)) ^^^ (((mx sc st i 4) ^^^ (-1)) &&& (mx sc st i 6)))) + (kR i)) + (sc i))), (11, .int ((((mx sc st i 0) &&& (mx sc st i 1)) ^^^ ((mx sc st i 0) &&& (mx sc st i 2))) ^^^ ((mx sc st i 1) &&& (mx sc st i 2)))), (10, .int (((mx sc st i 4) &&& (mx sc st i 5)) ^^^ (((mx sc st i 4) ^^^ (-1)) &&& (mx sc st i 6)))), (0, .ref h0), (1, .int (mx sc st i 0)), (2, .int (mx sc st i 1)), (3, .int (mx sc st i 2)), (4, .int (mx sc st i 3)), (5, .int (mx sc st i 4)), (6, .int (mx sc st i 5)), (9, .int (nI i))]) hx hb d_Ha_mix_179 hl (by decide) rfl (fun ls hl => ?_)
        refine lv_iload hx hb d_Ha_mix_181 (lv_at hl 11 rfl) ?_
        refine lv_istore (lv' := [(6, .int (mx sc st i 4)), (7, .int (mx sc st i 5)), (8, .int (mx sc st i 6)), (13, .int ((((tn (mx sc st i 0) 2) ^^^ (tn (mx sc st i 0) 13)) ^^^ (tn (mx sc st i 0) 22)) + ((((mx sc st i 0) &&& (mx sc st i 1)) ^^^ ((mx sc st i 0) &&& (mx sc st i 2))) ^^^ ((mx sc st i 1) &&& (mx sc st i 2))))), (12, .int (((((mx sc st i 7) + (((tn (mx sc st i 4) 6) ^^^ (tn (mx sc st i 4) 11)) ^^^ (tn (mx sc st i 4) 25))) + (((mx sc st i 4) &&& (mx sc st i 5)) ^^^ (((mx sc st i 4) ^^^ (-1)) &&& (mx sc st i 6)))) + (kR i)) + (sc i))), (11, .int ((((mx sc st i 0) &&& (mx sc st i 1)) ^^^ ((mx sc st i 0) &&& (mx sc st i 2))) ^^^ ((mx sc st i 1) &&& (mx sc st i 2)))), (10, .int (((mx sc st i 4) &&& (mx sc st i 5)) ^^^ (((mx sc st i 4) ^^^ (-1)) &&& (mx sc st i 6)))), (0, .ref h0), (1, .int (mx sc st i 0)), (2, .int (mx sc st i 1)), (3, .int (mx sc st i 2)), (4, .int (mx sc st i 3)), (5, .int (mx sc st i 4)), (9, .int (nI i))]) hx hb d_Ha_mix_183 hl (by decide) rfl (fun ls hl => ?_)
        refine lv_iload hx hb d_Ha_mix_185 (lv_at hl 11 rfl) ?_
        refine lv_iload hx hb d_Ha_mix_187 (lv_at hl 4 rfl) ?_
        refine lv_iadd hx hb d_Ha_mix_189 ?_
        refine lv_istore (lv' := [(5, .int ((mx sc st i 3) + (((((mx sc st i 7) + (((tn (mx sc st i 4) 6) ^^^ (tn (mx sc st i 4) 11)) ^^^ (tn (mx sc st i 4) 25))) + (((mx sc st i 4) &&& (mx sc st i 5)) ^^^ (((mx sc st i 4) ^^^ (-1)) &&& (mx sc st i 6)))) + (kR i)) + (sc i)))), (6, .int (mx sc st i 4)), (7, .int (mx sc st i 5)), (8, .int (mx sc st i 6)), (13, .int ((((tn (mx sc st i 0) 2) ^^^ (tn (mx sc st i 0) 13)) ^^^ (tn (mx sc st i 0) 22)) + ((((mx sc st i 0) &&& (mx sc st i 1)) ^^^ ((mx sc st i 0) &&& (mx sc st i 2))) ^^^ ((mx sc st i 1) &&& (mx sc st i 2))))), (12, .int (((((mx sc st i 7) + (((tn (mx sc st i 4) 6) ^^^ (tn (mx sc st i 4) 11)) ^^^ (tn (mx sc st i 4) 25))) + (((mx sc st i 4) &&& (mx sc st i 5)) ^^^ (((mx sc st i 4) ^^^ (-1)) &&& (mx sc st i 6)))) + (kR i)) + (sc i))), (11, .int ((((mx sc st i 0) &&& (mx sc st i 1)) ^^^ ((mx sc st i 0) &&& (mx sc st i 2))) ^^^ ((mx sc st i 1) &&& (mx sc st i 2)))), (10, .int (((mx sc st i 4) &&& (mx sc st i 5)) ^^^ (((mx sc st i 4) ^^^ (-1)) &&& (mx sc st i 6)))), (0, .ref h0), (1, .int (mx sc st i 0)), (2, .int (mx sc st i 1)), (3, .int (mx sc st i 2)), (4, .int (mx sc st i 3)), (9, .int (nI i))]) hx hb d_Ha_mix_190 hl (by decide) rfl (fun ls hl => ?_)
        refine lv_iload_n hx hb d_Ha_mix_192 rfl (lv_at hl 11 rfl) ?_
        refine lv_istore (lv' := [(4, .int (mx sc st i 2)), (5, .int ((mx sc st i 3) + (((((mx sc st i 7) + (((tn (mx sc st i 4) 6) ^^^ (tn (mx sc st i 4) 11)) ^^^ (tn (mx sc st i 4) 25))) + (((mx sc st i 4) &&& (mx sc st i 5)) ^^^ (((mx sc st i 4) ^^^ (-1)) &&& (mx sc st i 6)))) + (kR i)) + (sc i)))), (6, .int (mx sc st i 4)), (7, .int (mx sc st i 5)), (8, .int (mx sc st i 6)), (13, .int ((((tn (mx sc st i 0) 2) ^^^ (tn (mx sc st i 0) 13)) ^^^ (tn (mx sc st i 0) 22)) + ((((mx sc st i 0) &&& (mx sc st i 1)) ^^^ ((mx sc st i 0) &&& (mx sc st i 2))) ^^^ ((mx sc st i 1) &&& (mx sc st i 2))))), (12, .int (((((mx sc st i 7) + (((tn (mx sc st i 4) 6) ^^^ (tn (mx sc st i 4) 11)) ^^^ (tn (mx sc st i 4) 25))) + (((mx sc st i 4) &&& (mx sc st i 5)) ^^^ (((mx sc st i 4) ^^^ (-1)) &&& (mx sc st i 6)))) + (kR i)) + (sc i))), (11, .int ((((mx sc st i 0) &&& (mx sc st i 1)) ^^^ ((mx sc st i 0) &&& (mx sc st i 2))) ^^^ ((mx sc st i 1) &&& (mx sc st i 2)))), (10, .int (((mx sc st i 4) &&& (mx sc st i 5)) ^^^ (((mx sc st i 4) ^^^ (-1)) &&& (mx sc st i 6)))), (0, .ref h0), (1, .int (mx sc st i 0)), (2, .int (mx sc st i 1)), (3, .int (mx sc st i 2)), (9, .int (nI i))]) hx hb d_Ha_mix_193 hl (by decide) rfl (fun ls hl => ?_)
        refine lv_iload_n hx hb d_Ha_mix_195 rfl (lv_at hl 11 rfl) ?_
        refine lv_istore_n (lv' := [(3, .int (mx sc st i 1)), (4, .int (mx sc st i 2)), (5, .int ((mx sc st i 3) + (((((mx sc st i 7) + (((tn (mx sc st i 4) 6) ^^^ (tn (mx sc st i 4) 11)) ^^^ (tn (mx sc st i 4) 25))) + (((mx sc st i 4) &&& (mx sc st i 5)) ^^^ (((mx sc st i 4) ^^^ (-1)) &&& (mx sc st i 6)))) + (kR i)) + (sc i)))), (6, .int (mx sc st i 4)), (7, .int (mx sc st i 5)), (8, .int (mx sc st i 6)), (13, .int ((((tn (mx sc st i 0) 2) ^^^ (tn (mx sc st i 0) 13)) ^^^ (tn (mx sc st i 0) 22)) + ((((mx sc st i 0) &&& (mx sc st i 1)) ^^^ ((mx sc st i 0) &&& (mx sc st i 2))) ^^^ ((mx sc st i 1) &&& (mx sc st i 2))))), (12, .int (((((mx sc st i 7) + (((tn (mx sc st i 4) 6) ^^^ (tn (mx sc st i 4) 11)) ^^^ (tn (mx sc st i 4) 25))) + (((mx sc st i 4) &&& (mx sc st i 5)) ^^^ (((mx sc st i 4) ^^^ (-1)) &&& (mx sc st i 6)))) + (kR i)) + (sc i))), (11, .int ((((mx sc st i 0) &&& (mx sc st i 1)) ^^^ ((mx sc st i 0) &&& (mx sc st i 2))) ^^^ ((mx sc st i 1) &&& (mx sc st i 2)))), (10, .int (((mx sc st i 4) &&& (mx sc st i 5)) ^^^ (((mx sc st i 4) ^^^ (-1)) &&& (mx sc st i 6)))), (0, .ref h0), (1, .int (mx sc st i 0)), (2, .int (mx sc st i 1)), (9, .int (nI i))]) hx hb d_Ha_mix_196 rfl hl (by decide) rfl (fun ls hl => ?_)
        refine lv_iload_n hx hb d_Ha_mix_197 rfl (lv_at hl 11 rfl) ?_
        refine lv_istore_n (lv' := [(2, .int (mx sc st i 0)), (3, .int (mx sc st i 1)), (4, .int (mx sc st i 2)), (5, .int ((mx sc st i 3) + (((((mx sc st i 7) + (((tn (mx sc st i 4) 6) ^^^ (tn (mx sc st i 4) 11)) ^^^ (tn (mx sc st i 4) 25))) + (((mx sc st i 4) &&& (mx sc st i 5)) ^^^ (((mx sc st i 4) ^^^ (-1)) &&& (mx sc st i 6)))) + (kR i)) + (sc i)))), (6, .int (mx sc st i 4)), (7, .int (mx sc st i 5)), (8, .int (mx sc st i 6)), (13, .int ((((tn (mx sc st i 0) 2) ^^^ (tn (mx sc st i 0) 13)) ^^^ (tn (mx sc st i 0) 22)) + ((((mx sc st i 0) &&& (mx sc st i 1)) ^^^ ((mx sc st i 0) &&& (mx sc st i 2))) ^^^ ((mx sc st i 1) &&& (mx sc st i 2))))), (12, .int (((((mx sc st i 7) + (((tn (mx sc st i 4) 6) ^^^ (tn (mx sc st i 4) 11)) ^^^ (tn (mx sc st i 4) 25))) + (((mx sc st i 4) &&& (mx sc st i 5)) ^^^ (((mx sc st i 4) ^^^ (-1)) &&& (mx sc st i 6)))) + (kR i)) + (sc i))), (11, .int ((((mx sc st i 0) &&& (mx sc st i 1)) ^^^ ((mx sc st i 0) &&& (mx sc st i 2))) ^^^ ((mx sc st i 1) &&& (mx sc st i 2)))), (10, .int (((mx sc st i 4) &&& (mx sc st i 5)) ^^^ (((mx sc st i 4) ^^^ (-1)) &&& (mx sc st i 6)))), (0, .ref h0), (1, .int (mx sc st i 0)), (9, .int (nI i))]) hx hb d_Ha_mix_198 rfl hl (by decide) rfl (fun ls hl => ?_)
        refine lv_iload hx hb d_Ha_mix_199 (lv_at hl 8 rfl) ?_
        refine lv_iload hx hb d_Ha_mix_201 (lv_at hl 7 rfl) ?_
        refine lv_iadd hx hb d_Ha_mix_203 ?_
        refine lv_istore_n (lv' := [(1, .int ((((((mx sc st i 7) + (((tn (mx sc st i 4) 6) ^^^ (tn (mx sc st i 4) 11)) ^^^ (tn (mx sc st i 4) 25))) + (((mx sc st i 4) &&& (mx sc st i 5)) ^^^ (((mx sc st i 4) ^^^ (-1)) &&& (mx sc st i 6)))) + (kR i)) + (sc i)) + ((((tn (mx sc st i 0) 2) ^^^ (tn (mx sc st i 0) 13)) ^^^ (tn (mx sc st i 0) 22)) + ((((mx sc st i 0) &&& (mx sc st i 1)) ^^^ ((mx sc st i 0) &&& (mx sc st i 2))) ^^^ ((mx sc st i 1) &&& (mx sc st i 2)))))), (2, .int (mx sc st i 0)), (3, .int (mx sc st i 1)), (4, .int (mx sc st i 2)), (5, .int ((mx sc st i 3) + (((((mx sc st i 7) + (((tn (mx sc st i 4) 6) ^^^ (tn (mx sc st i 4) 11)) ^^^ (tn (mx sc st i 4) 25))) + (((mx sc st i 4) &&& (mx sc st i 5)) ^^^ (((mx sc st i 4) ^^^ (-1)) &&& (mx sc st i 6)))) + (kR i)) + (sc i)))), (6, .int (mx sc st i 4)), (7, .int (mx sc st i 5)), (8, .int (mx sc st i 6)), (13, .int ((((tn (mx sc st i 0) 2) ^^^ (tn (mx sc st i 0) 13)) ^^^ (tn (mx sc st i 0) 22)) + ((((mx sc st i 0) &&& (mx sc st i 1)) ^^^ ((mx sc st i 0) &&& (mx sc st i 2))) ^^^ ((mx sc st i 1) &&& (mx sc st i 2))))), (12, .int (((((mx sc st i 7) + (((tn (mx sc st i 4) 6) ^^^ (tn (mx sc st i 4) 11)) ^^^ (tn (mx sc st i 4) 25))) + (((mx sc st i 4) &&& (mx sc st i 5)) ^^^ (((mx sc st i 4) ^^^ (-1)) &&& (mx sc st i 6)))) + (kR i)) + (sc i))), (11, .int ((((mx sc st i 0) &&& (mx sc st i 1)) ^^^ ((mx sc st i 0) &&& (mx sc st i 2))) ^^^ ((mx sc st i 1) &&& (mx sc st i 2)))), (10, .int (((mx sc st i 4) &&& (mx sc st i 5)) ^^^ (((mx sc st i 4) ^^^ (-1)) &&& (mx sc st i 6)))), (0, .ref h0), (9, .int (nI i))]) hx hb d_Ha_mix_204 rfl hl (by decide) rfl (fun ls hl => ?_)
        obtain ⟨i_8, ei_8⟩ : ∃ y : Int32, y = (nI i) + 1 := ⟨_, rfl⟩
        refine lv_iinc (v := i_8) (lv' := [(9, .int i_8), (1, .int ((((((mx sc st i 7) + (((tn (mx sc st i 4) 6) ^^^ (tn (mx sc st i 4) 11)) ^^^ (tn (mx sc st i 4) 25))) + (((mx sc st i 4) &&& (mx sc st i 5)) ^^^ (((mx sc st i 4) ^^^ (-1)) &&& (mx sc st i 6)))) + (kR i)) + (sc i)) + ((((tn (mx sc st i 0) 2) ^^^ (tn (mx sc st i 0) 13)) ^^^ (tn (mx sc st i 0) 22)) + ((((mx sc st i 0) &&& (mx sc st i 1)) ^^^ ((mx sc st i 0) &&& (mx sc st i 2))) ^^^ ((mx sc st i 1) &&& (mx sc st i 2)))))), (2, .int (mx sc st i 0)), (3, .int (mx sc st i 1)), (4, .int (mx sc st i 2)), (5, .int ((mx sc st i 3) + (((((mx sc st i 7) + (((tn (mx sc st i 4) 6) ^^^ (tn (mx sc st i 4) 11)) ^^^ (tn (mx sc st i 4) 25))) + (((mx sc st i 4) &&& (mx sc st i 5)) ^^^ (((mx sc st i 4) ^^^ (-1)) &&& (mx sc st i 6)))) + (kR i)) + (sc i)))), (6, .int (mx sc st i 4)), (7, .int (mx sc st i 5)), (8, .int (mx sc st i 6)), (13, .int ((((tn (mx sc st i 0) 2) ^^^ (tn (mx sc st i 0) 13)) ^^^ (tn (mx sc st i 0) 22)) + ((((mx sc st i 0) &&& (mx sc st i 1)) ^^^ ((mx sc st i 0) &&& (mx sc st i 2))) ^^^ ((mx sc st i 1) &&& (mx sc st i 2))))), (12, .int (((((mx sc st i 7) + (((tn (mx sc st i 4) 6) ^^^ (tn (mx sc st i 4) 11)) ^^^ (tn (mx sc st i 4) 25))) + (((mx sc st i 4) &&& (mx sc st i 5)) ^^^ (((mx sc st i 4) ^^^ (-1)) &&& (mx sc st i 6)))) + (kR i)) + (sc i))), (11, .int ((((mx sc st i 0) &&& (mx sc st i 1)) ^^^ ((mx sc st i 0) &&& (mx sc st i 2))) ^^^ ((mx sc st i 1) &&& (mx sc st i 2)))), (10, .int (((mx sc st i 4) &&& (mx sc st i 5)) ^^^ (((mx sc st i 4) ^^^ (-1)) &&& (mx sc st i 6)))), (0, .ref h0)]) hx hb d_Ha_mix_205 hl (k := 13) rfl (by rw [ei_8]; rfl) (by decide) rfl (fun ls hl => ?_)
        obtain rfl : i_8 = nI (i + 1) := by rw [ei_8]; exact nI_1 i
        refine lv_goto (tgt := 66) hx hb d_Ha_mix_208 (by decide) ?_
        exact ih (j - 1) (by omega) (i + 1) (by omega) H locs hS hP hD ls (lv_sub hl [13, 1, 2, 3, 4, 5, 6, 7, 8, 0] rfl)
  refine lv_aload_n hx hb d_Ha_mix_0 rfl (lv_at hl 0 rfl) ?_
  refine va_get (D := (dC, dI)) (ci := 2) (v := .ref ay) (C := "BallotBoard$Hash") (T := F_Ha) (N := 4) hx hb hts (fun w9 h9 => List.mem_cons_of_mem _ (i_Ha w9 h9)) hown hK hP 0 rfl rfl 2 (by decide) (hts _ (List.mem_cons_of_mem _ gk_39)) (fun _ h9 => h9) rfl d_Ha_mix_1 ?_
  refine lv_iconst (v := 0) hx hb d_Ha_mix_4 (by decide) ?_
  refine va_iald hx hb hK hP 3 1 rfl rfl (vp_lit rfl) d_Ha_mix_5 ?_
  rw [show (st (0 : Int32).toNatClampNeg : Int32) = st 0 from rfl]
  refine lv_istore_n (lv' := [(1, .int (st 0)), (0, .ref h0)]) hx hb d_Ha_mix_6 rfl hl (by decide) rfl (fun ls hl => ?_)
  refine lv_aload_n hx hb d_Ha_mix_7 rfl (lv_at hl 1 rfl) ?_
  refine va_get (D := (dC, dI)) (ci := 2) (v := .ref ay) (C := "BallotBoard$Hash") (T := F_Ha) (N := 4) hx hb hts (fun w9 h9 => List.mem_cons_of_mem _ (i_Ha w9 h9)) hown hK hP 0 rfl rfl 2 (by decide) (hts _ (List.mem_cons_of_mem _ gk_39)) (fun _ h9 => h9) rfl d_Ha_mix_8 ?_
  refine lv_iconst (v := 1) hx hb d_Ha_mix_11 (by decide) ?_
  refine va_iald hx hb hK hP 3 1 rfl rfl (vp_lit rfl) d_Ha_mix_12 ?_
  rw [show (st (1 : Int32).toNatClampNeg : Int32) = st 1 from rfl]
  refine lv_istore_n (lv' := [(2, .int (st 1)), (1, .int (st 0)), (0, .ref h0)]) hx hb d_Ha_mix_13 rfl hl (by decide) rfl (fun ls hl => ?_)
  refine lv_aload_n hx hb d_Ha_mix_14 rfl (lv_at hl 2 rfl) ?_
  refine va_get (D := (dC, dI)) (ci := 2) (v := .ref ay) (C := "BallotBoard$Hash") (T := F_Ha) (N := 4) hx hb hts (fun w9 h9 => List.mem_cons_of_mem _ (i_Ha w9 h9)) hown hK hP 0 rfl rfl 2 (by decide) (hts _ (List.mem_cons_of_mem _ gk_39)) (fun _ h9 => h9) rfl d_Ha_mix_15 ?_
  refine lv_iconst (v := 2) hx hb d_Ha_mix_18 (by decide) ?_
  refine va_iald hx hb hK hP 3 1 rfl rfl (vp_lit rfl) d_Ha_mix_19 ?_
  rw [show (st (2 : Int32).toNatClampNeg : Int32) = st 2 from rfl]
  refine lv_istore_n (lv' := [(3, .int (st 2)), (2, .int (st 1)), (1, .int (st 0)), (0, .ref h0)]) hx hb d_Ha_mix_20 rfl hl (by decide) rfl (fun ls hl => ?_)
  refine lv_aload_n hx hb d_Ha_mix_21 rfl (lv_at hl 3 rfl) ?_
  refine va_get (D := (dC, dI)) (ci := 2) (v := .ref ay) (C := "BallotBoard$Hash") (T := F_Ha) (N := 4) hx hb hts (fun w9 h9 => List.mem_cons_of_mem _ (i_Ha w9 h9)) hown hK hP 0 rfl rfl 2 (by decide) (hts _ (List.mem_cons_of_mem _ gk_39)) (fun _ h9 => h9) rfl d_Ha_mix_22 ?_
  refine lv_iconst (v := 3) hx hb d_Ha_mix_25 (by decide) ?_
  refine va_iald hx hb hK hP 3 1 rfl rfl (vp_lit rfl) d_Ha_mix_26 ?_
  rw [show (st (3 : Int32).toNatClampNeg : Int32) = st 3 from rfl]
  refine lv_istore (lv' := [(4, .int (st 3)), (3, .int (st 2)), (2, .int (st 1)), (1, .int (st 0)), (0, .ref h0)]) hx hb d_Ha_mix_27 hl (by decide) rfl (fun ls hl => ?_)
  refine lv_aload_n hx hb d_Ha_mix_29 rfl (lv_at hl 4 rfl) ?_
  refine va_get (D := (dC, dI)) (ci := 2) (v := .ref ay) (C := "BallotBoard$Hash") (T := F_Ha) (N := 4) hx hb hts (fun w9 h9 => List.mem_cons_of_mem _ (i_Ha w9 h9)) hown hK hP 0 rfl rfl 2 (by decide) (hts _ (List.mem_cons_of_mem _ gk_39)) (fun _ h9 => h9) rfl d_Ha_mix_30 ?_
  refine lv_iconst (v := 4) hx hb d_Ha_mix_33 (by decide) ?_
  refine va_iald hx hb hK hP 3 1 rfl rfl (vp_lit rfl) d_Ha_mix_34 ?_
  rw [show (st (4 : Int32).toNatClampNeg : Int32) = st 4 from rfl]
  refine lv_istore (lv' := [(5, .int (st 4)), (4, .int (st 3)), (3, .int (st 2)), (2, .int (st 1)), (1, .int (st 0)), (0, .ref h0)]) hx hb d_Ha_mix_35 hl (by decide) rfl (fun ls hl => ?_)
  refine lv_aload_n hx hb d_Ha_mix_37 rfl (lv_at hl 5 rfl) ?_
  refine va_get (D := (dC, dI)) (ci := 2) (v := .ref ay) (C := "BallotBoard$Hash") (T := F_Ha) (N := 4) hx hb hts (fun w9 h9 => List.mem_cons_of_mem _ (i_Ha w9 h9)) hown hK hP 0 rfl rfl 2 (by decide) (hts _ (List.mem_cons_of_mem _ gk_39)) (fun _ h9 => h9) rfl d_Ha_mix_38 ?_
  refine lv_iconst (v := 5) hx hb d_Ha_mix_41 (by decide) ?_
  refine va_iald hx hb hK hP 3 1 rfl rfl (vp_lit rfl) d_Ha_mix_42 ?_
  rw [show (st (5 : Int32).toNatClampNeg : Int32) = st 5 from rfl]
  refine lv_istore (lv' := [(6, .int (st 5)), (5, .int (st 4)), (4, .int (st 3)), (3, .int (st 2)), (2, .int (st 1)), (1, .int (st 0)), (0, .ref h0)]) hx hb d_Ha_mix_43 hl (by decide) rfl (fun ls hl => ?_)
  refine lv_aload_n hx hb d_Ha_mix_45 rfl (lv_at hl 6 rfl) ?_
  refine va_get (D := (dC, dI)) (ci := 2) (v := .ref ay) (C := "BallotBoard$Hash") (T := F_Ha) (N := 4) hx hb hts (fun w9 h9 => List.mem_cons_of_mem _ (i_Ha w9 h9)) hown hK hP 0 rfl rfl 2 (by decide) (hts _ (List.mem_cons_of_mem _ gk_39)) (fun _ h9 => h9) rfl d_Ha_mix_46 ?_
  refine lv_bipush (v := 6) hx hb d_Ha_mix_49 (by decide) ?_
  refine va_iald hx hb hK hP 3 1 rfl rfl (vp_lit rfl) d_Ha_mix_51 ?_
  rw [show (st (6 : Int32).toNatClampNeg : Int32) = st 6 from rfl]
  refine lv_istore (lv' := [(7, .int (st 6)), (6, .int (st 5)), (5, .int (st 4)), (4, .int (st 3)), (3, .int (st 2)), (2, .int (st 1)), (1, .int (st 0)), (0, .ref h0)]) hx hb d_Ha_mix_52 hl (by decide) rfl (fun ls hl => ?_)
  refine lv_aload_n hx hb d_Ha_mix_54 rfl (lv_at hl 7 rfl) ?_
  refine va_get (D := (dC, dI)) (ci := 2) (v := .ref ay) (C := "BallotBoard$Hash") (T := F_Ha) (N := 4) hx hb hts (fun w9 h9 => List.mem_cons_of_mem _ (i_Ha w9 h9)) hown hK hP 0 rfl rfl 2 (by decide) (hts _ (List.mem_cons_of_mem _ gk_39)) (fun _ h9 => h9) rfl d_Ha_mix_55 ?_
  refine lv_bipush (v := 7) hx hb d_Ha_mix_58 (by decide) ?_
  refine va_iald hx hb hK hP 3 1 rfl rfl (vp_lit rfl) d_Ha_mix_60 ?_
  rw [show (st (7 : Int32).toNatClampNeg : Int32) = st 7 from rfl]
  refine lv_istore (lv' := [(8, .int (st 7)), (7, .int (st 6)), (6, .int (st 5)), (5, .int (st 4)), (4, .int (st 3)), (3, .int (st 2)), (2, .int (st 1)), (1, .int (st 0)), (0, .ref h0)]) hx hb d_Ha_mix_61 hl (by decide) rfl (fun ls hl => ?_)
  refine lv_iconst (v := 0) hx hb d_Ha_mix_63 (by decide) ?_
  refine lv_istore (lv' := [(9, .int 0), (8, .int (st 7)), (7, .int (st 6)), (6, .int (st 5)), (5, .int (st 4)), (4, .int (st 3)), (3, .int (st 2)), (2, .int (st 1)), (1, .int (st 0)), (0, .ref h0)]) hx hb d_Ha_mix_64 hl (by decide) rfl (fun ls hl => ?_)
  exact loop 64 0 (by omega) _ [] hS hP hD ls (lv_sub hl [9, 8, 7, 6, 5, 4, 3, 2, 1, 0] rfl)
