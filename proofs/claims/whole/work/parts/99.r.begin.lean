theorem d_law_112 : decode code 112 = .ok (.aload_n 1, 1) := by decide +kernel
theorem d_law_113 : decode code 113 = .ok (.aload_n 0, 1) := by decide +kernel
theorem d_law_114 : decode code 114 = .ok (.iload 4, 2) := by decide +kernel
theorem d_law_116 : decode code 116 = .ok (.iconst 1, 1) := by decide +kernel
theorem d_law_117 : decode code 117 = .ok (.iadd, 1) := by decide +kernel
theorem d_law_118 : decode code 118 = .ok (.iaload, 1) := by decide +kernel
theorem d_law_119 : decode code 119 = .ok (.i2l, 1) := by decide +kernel
theorem d_law_120 : decode code 120 = .ok (.bipush 32, 2) := by decide +kernel
theorem d_law_122 : decode code 122 = .ok (.lshl, 1) := by decide +kernel
theorem d_law_123 : decode code 123 = .ok (.aload_n 0, 1) := by decide +kernel
theorem d_law_124 : decode code 124 = .ok (.iload 4, 2) := by decide +kernel
theorem d_law_126 : decode code 126 = .ok (.iconst 2, 1) := by decide +kernel
theorem d_law_127 : decode code 127 = .ok (.iadd, 1) := by decide +kernel
theorem d_law_128 : decode code 128 = .ok (.iaload, 1) := by decide +kernel
theorem d_law_129 : decode code 129 = .ok (.i2l, 1) := by decide +kernel
theorem d_law_130 : decode code 130 = .ok (.ldc2_w 70, 3) := by decide +kernel
theorem d_law_133 : decode code 133 = .ok (.land, 1) := by decide +kernel
theorem d_law_134 : decode code 134 = .ok (.lor, 1) := by decide +kernel
theorem d_law_135 : decode code 135 = .ok (.aload_n 0, 1) := by decide +kernel
theorem d_law_136 : decode code 136 = .ok (.iload 4, 2) := by decide +kernel
theorem d_law_138 : decode code 138 = .ok (.iconst 3, 1) := by decide +kernel
theorem d_law_139 : decode code 139 = .ok (.iadd, 1) := by decide +kernel
theorem d_law_140 : decode code 140 = .ok (.iaload, 1) := by decide +kernel
theorem d_law_141 : decode code 141 = .ok (.i2l, 1) := by decide +kernel
theorem d_law_142 : decode code 142 = .ok (.bipush 32, 2) := by decide +kernel
theorem d_law_144 : decode code 144 = .ok (.lshl, 1) := by decide +kernel
theorem d_law_145 : decode code 145 = .ok (.aload_n 0, 1) := by decide +kernel
theorem d_law_146 : decode code 146 = .ok (.iload 4, 2) := by decide +kernel
theorem d_law_148 : decode code 148 = .ok (.iconst 4, 1) := by decide +kernel
theorem d_law_149 : decode code 149 = .ok (.iadd, 1) := by decide +kernel
theorem d_law_150 : decode code 150 = .ok (.iaload, 1) := by decide +kernel
theorem d_law_151 : decode code 151 = .ok (.i2l, 1) := by decide +kernel
theorem d_law_152 : decode code 152 = .ok (.ldc2_w 70, 3) := by decide +kernel
theorem d_law_155 : decode code 155 = .ok (.land, 1) := by decide +kernel
theorem d_law_156 : decode code 156 = .ok (.lor, 1) := by decide +kernel
theorem d_law_157 : decode code 157 = .ok (.aload_n 0, 1) := by decide +kernel
theorem d_law_158 : decode code 158 = .ok (.iload 4, 2) := by decide +kernel
theorem d_law_160 : decode code 160 = .ok (.iconst 5, 1) := by decide +kernel
theorem d_law_161 : decode code 161 = .ok (.iadd, 1) := by decide +kernel
theorem d_law_162 : decode code 162 = .ok (.iaload, 1) := by decide +kernel
theorem d_law_163 : decode code 163 = .ok (.aload_n 3, 1) := by decide +kernel
theorem d_law_164 : decode code 164 = .ok (.invokestatic 72, 3) := by decide +kernel
theorem d_law_167 : decode code 167 = .ok (.istore 5, 2) := by decide +kernel
theorem d_law_169 : decode code 169 = .ok (.aload_n 2, 1) := by decide +kernel
theorem d_law_170 : decode code 170 = .ok (.aload_n 0, 1) := by decide +kernel
theorem d_law_171 : decode code 171 = .ok (.iload 4, 2) := by decide +kernel
theorem d_law_173 : decode code 173 = .ok (.iconst 1, 1) := by decide +kernel
theorem d_law_174 : decode code 174 = .ok (.iadd, 1) := by decide +kernel
theorem d_law_175 : decode code 175 = .ok (.iaload, 1) := by decide +kernel
theorem d_law_176 : decode code 176 = .ok (.i2l, 1) := by decide +kernel
theorem d_law_177 : decode code 177 = .ok (.bipush 32, 2) := by decide +kernel
theorem d_law_179 : decode code 179 = .ok (.lshl, 1) := by decide +kernel
theorem d_law_180 : decode code 180 = .ok (.aload_n 0, 1) := by decide +kernel
theorem d_law_181 : decode code 181 = .ok (.iload 4, 2) := by decide +kernel
theorem d_law_183 : decode code 183 = .ok (.iconst 2, 1) := by decide +kernel
theorem d_law_184 : decode code 184 = .ok (.iadd, 1) := by decide +kernel
theorem d_law_185 : decode code 185 = .ok (.iaload, 1) := by decide +kernel
theorem d_law_186 : decode code 186 = .ok (.i2l, 1) := by decide +kernel
theorem d_law_187 : decode code 187 = .ok (.ldc2_w 70, 3) := by decide +kernel
theorem d_law_190 : decode code 190 = .ok (.land, 1) := by decide +kernel
theorem d_law_191 : decode code 191 = .ok (.lor, 1) := by decide +kernel
theorem d_law_192 : decode code 192 = .ok (.aload_n 0, 1) := by decide +kernel
theorem d_law_193 : decode code 193 = .ok (.iload 4, 2) := by decide +kernel
theorem d_law_195 : decode code 195 = .ok (.iconst 3, 1) := by decide +kernel
theorem d_law_196 : decode code 196 = .ok (.iadd, 1) := by decide +kernel
theorem d_law_197 : decode code 197 = .ok (.iaload, 1) := by decide +kernel
theorem d_law_198 : decode code 198 = .ok (.i2l, 1) := by decide +kernel
theorem d_law_199 : decode code 199 = .ok (.bipush 32, 2) := by decide +kernel
theorem d_law_201 : decode code 201 = .ok (.lshl, 1) := by decide +kernel
theorem d_law_202 : decode code 202 = .ok (.aload_n 0, 1) := by decide +kernel
theorem d_law_203 : decode code 203 = .ok (.iload 4, 2) := by decide +kernel
theorem d_law_205 : decode code 205 = .ok (.iconst 4, 1) := by decide +kernel
theorem d_law_206 : decode code 206 = .ok (.iadd, 1) := by decide +kernel
theorem d_law_207 : decode code 207 = .ok (.iaload, 1) := by decide +kernel
theorem d_law_208 : decode code 208 = .ok (.i2l, 1) := by decide +kernel
theorem d_law_209 : decode code 209 = .ok (.ldc2_w 70, 3) := by decide +kernel
theorem d_law_212 : decode code 212 = .ok (.land, 1) := by decide +kernel
theorem d_law_213 : decode code 213 = .ok (.lor, 1) := by decide +kernel
theorem d_law_214 : decode code 214 = .ok (.aload_n 0, 1) := by decide +kernel
theorem d_law_215 : decode code 215 = .ok (.iload 4, 2) := by decide +kernel
theorem d_law_217 : decode code 217 = .ok (.iconst 5, 1) := by decide +kernel
theorem d_law_218 : decode code 218 = .ok (.iadd, 1) := by decide +kernel
theorem d_law_219 : decode code 219 = .ok (.iaload, 1) := by decide +kernel
theorem d_law_220 : decode code 220 = .ok (.invokevirtual 77, 3) := by decide +kernel
theorem d_law_223 : decode code 223 = .ok (.lstore 6, 2) := by decide +kernel
theorem d_law_225 : decode code 225 = .ok (.aload_n 2, 1) := by decide +kernel
theorem d_law_226 : decode code 226 = .ok (.invokevirtual 78, 3) := by decide +kernel
theorem d_law_229 : decode code 229 = .ok (.iload 5, 2) := by decide +kernel
theorem d_law_231 : decode code 231 = .ok (.if_icmp .eq 5, 3) := by decide +kernel
theorem d_law_234 : decode code 234 = .ok (.iconst 0, 1) := by decide +kernel
theorem d_law_235 : decode code 235 = .ok (.ireturn, 1) := by decide +kernel
theorem d_law_236 : decode code 236 = .ok (.iload 5, 2) := by decide +kernel
theorem d_law_238 : decode code 238 = .ok (.ifCond .ne 14, 3) := by decide +kernel
theorem d_law_241 : decode code 241 = .ok (.aload_n 3, 1) := by decide +kernel
theorem d_law_242 : decode code 242 = .ok (.iconst 0, 1) := by decide +kernel
theorem d_law_243 : decode code 243 = .ok (.laload, 1) := by decide +kernel
theorem d_law_244 : decode code 244 = .ok (.lload 6, 2) := by decide +kernel
theorem d_law_246 : decode code 246 = .ok (.lcmp, 1) := by decide +kernel
theorem d_law_247 : decode code 247 = .ok (.ifCond .eq 5, 3) := by decide +kernel
theorem d_law_250 : decode code 250 = .ok (.iconst 0, 1) := by decide +kernel
theorem d_law_251 : decode code 251 = .ok (.ireturn, 1) := by decide +kernel
theorem d_law_252 : decode code 252 = .ok (.goto 1713, 3) := by decide +kernel
set_option maxHeartbeats 16000000 in
set_option maxRecDepth 100000 in
theorem bk_begin_g {p : Program} {l : Launch} {e : Env} {s : State} {m : MethodId} {below : List Frame} {meth : Method} {c : Code} {b L : Nat} {xs : Nat → Int32} {dC : Nat → ClassId} {dI : Nat → Nat → Nat} {cJ cI cR : ClassId} {A : Nat → Prop} {out b0 m0 : Nat} {rA sA wA : Nat} (C : LC p l s m meth c b L xs dC dI cJ cI cR A rA sA wA) {i cells slots : Nat} (hi : i + 14 ≤ L) (hcs : cells + 20 ≤ 601024 ∧ slots + 200 ≤ 7293034) (cont : LK p l e s m below meth c b dC dI cJ cI cR A out b0 m0 i (cells + 20) (slots + 200) 1965) {H : Heap} {locs : List Loc} {ls : Array Slot} (hS : va_S A s.heap H locs) (hI : LG dC dI cJ cI cR A out b0 m0 H) (hl : lv_has ls 8 [(4, .int (nI i)), (3, .ref out), (2, .ref m0), (1, .ref b0), (0, .ref b)]) : W p l e room_1 s m #[Value.ref b] below meth c H locs cells slots (lw_Z below #[Value.ref b] s) (F0 m 112 ls []) := by
  obtain ⟨hnt, ⟨hx, hb, hr, hml, hown, hts0, hX, hbl, hlocks, hgv⟩, hK, hA, hbA, hZha, hZx, hZn, hZw, hL⟩ := C
  have hown : s.vm.findClass "BallotBoardLaw" = some m.cls := hown
  have hts := lw_hts hts0
  refine hI _ (fun bd0 pr0 t0 au0 da h0 ro lo rb lb cm aw ax ay ka aa ba sa tu0 uka uaa uba usa a0 a1 a2 a3 a4 a5 a6 a7 a8 a9 mb0 mb1 oc mb2 mb3 mb4 mb5 cL of w tf nf cf ky lf md sh ccf csc cst bf sc st kf sf vf ct gu d0 d1 d2 d3 d4 d5 d6 d7 e0 R Lk g0 mF mE P f1 k1 Q f2 k2 G N n sd bc al pa pb cl T T0 kd wh hP hD hR => ?_)
  have q1 := hR.1.2.2.2.1.1
  subst q1
  have q2 := hR.2.2.2.1.1
  subst q2
  have q3 := hR.2.2.2.1.2.1
  subst q3
  have q4 := hR.2.2.2.1.2.2.1
  subst q4
  have q5 := hR.2.2.2.1.2.2.2.1
  subst q5
  have q6 := hR.2.2.2.1.2.2.2.2.1
  subst q6
  obtain ⟨⟨hok, htok, hN0, htn, hkc, hn⟩, ⟨hnO, hnS, hn0S, hn0B, hbc, hsc, hsh0⟩, ⟨hgr, hrk, hrs, hrb, hko, hkP⟩, ⟨hal, hclN, hky, hpa, hmd, haP, hbP⟩, ⟨hsP, hsp, hpb, hwf, hEI, hnfR, hcfR, hkf⟩, ⟨hnfk, hkq, hsd, hsn, hsdd, h0k, hkca⟩, ⟨hPQ, h61F, hQ3, hG2, hGP, hGQ⟩, hTt, hTt0, hRT⟩ := LG_facts hR
  obtain ⟨x3, hx3⟩ : ∃ v, v = xs (i + 5) := ⟨_, rfl⟩
  obtain ⟨x1, hx1⟩ : ∃ v, v = jl (xs (i + 1)) (xs (i + 2)) := ⟨_, rfl⟩
  obtain ⟨x2, hx2⟩ : ∃ v, v = jl (xs (i + 3)) (xs (i + 4)) := ⟨_, rfl⟩
  by_cases hC : bgC x1 x2 x3
  · -- it holds
    refine lv_aload_n hx hb d_law_112 rfl (lv_at hl 3 rfl) ?_
    refine lv_aload_n hx hb d_law_113 rfl (lv_at hl 4 rfl) ?_
    refine lv_iload hx hb d_law_114 (lv_at hl 0 rfl) ?_
    refine lv_iconst (v := 1) hx hb d_law_116 (by decide) ?_
    refine lv_iadd hx hb d_law_117 ?_
    rw [show ((nI i) + 1 : Int32) = nI (i + 1) from nI_add _ 1]
    refine va_sld hx hb hX hbl hbA hS (vp_in_nI (by omega) (by omega)) d_law_118 ?_
    rw [show (xs (nI (i + 1)).toNatClampNeg : Int32) = xs (i + 1) from by rw [nI_clamp (by omega)]]
    refine lv_i2l (v := (xs (i + 1) : Int32).toInt64) hx hb d_law_119 rfl ?_
    refine lv_bipush (v := 32) hx hb d_law_120 (by decide) ?_
    refine lv_lshl (v := ((xs (i + 1) : Int32).toInt64 : Int64) <<< ((32 : Int32).toInt64 &&& 63)) hx hb d_law_122 rfl ?_
    refine lv_aload_n hx hb d_law_123 rfl (lv_at hl 4 rfl) ?_
    refine lv_iload hx hb d_law_124 (lv_at hl 0 rfl) ?_
    refine lv_iconst (v := 2) hx hb d_law_126 (by decide) ?_
    refine lv_iadd hx hb d_law_127 ?_
    rw [show ((nI i) + 2 : Int32) = nI (i + 2) from nI_add _ 2]
    refine va_sld hx hb hX hbl hbA hS (vp_in_nI (by omega) (by omega)) d_law_128 ?_
    rw [show (xs (nI (i + 2)).toNatClampNeg : Int32) = xs (i + 2) from by rw [nI_clamp (by omega)]]
    refine lv_i2l (v := (xs (i + 2) : Int32).toInt64) hx hb d_law_129 rfl ?_
    refine lv_ldc2 (v := 4294967295) hx hb hown (hts _ (List.mem_cons_of_mem _ gk_1202)) d_law_130 ?_
    refine lv_land hx hb d_law_133 ?_
    refine lv_lor hx hb d_law_134 ?_
    rw [show ((((xs (i + 1) : Int32).toInt64 : Int64) <<< ((32 : Int32).toInt64 &&& 63)) ||| (((xs (i + 2) : Int32).toInt64) &&& 4294967295) : Int64) = x1 from hx1.symm]
    refine lv_aload_n hx hb d_law_135 rfl (lv_at hl 4 rfl) ?_
    refine lv_iload hx hb d_law_136 (lv_at hl 0 rfl) ?_
    refine lv_iconst (v := 3) hx hb d_law_138 (by decide) ?_
    refine lv_iadd hx hb d_law_139 ?_
    rw [show ((nI i) + 3 : Int32) = nI (i + 3) from nI_add _ 3]
    refine va_sld hx hb hX hbl hbA hS (vp_in_nI (by omega) (by omega)) d_law_140 ?_
    rw [show (xs (nI (i + 3)).toNatClampNeg : Int32) = xs (i + 3) from by rw [nI_clamp (by omega)]]
    refine lv_i2l (v := (xs (i + 3) : Int32).toInt64) hx hb d_law_141 rfl ?_
    refine lv_bipush (v := 32) hx hb d_law_142 (by decide) ?_
    refine lv_lshl (v := ((xs (i + 3) : Int32).toInt64 : Int64) <<< ((32 : Int32).toInt64 &&& 63)) hx hb d_law_144 rfl ?_
    refine lv_aload_n hx hb d_law_145 rfl (lv_at hl 4 rfl) ?_
    refine lv_iload hx hb d_law_146 (lv_at hl 0 rfl) ?_
    refine lv_iconst (v := 4) hx hb d_law_148 (by decide) ?_
    refine lv_iadd hx hb d_law_149 ?_
    rw [show ((nI i) + 4 : Int32) = nI (i + 4) from nI_add _ 4]
    refine va_sld hx hb hX hbl hbA hS (vp_in_nI (by omega) (by omega)) d_law_150 ?_
    rw [show (xs (nI (i + 4)).toNatClampNeg : Int32) = xs (i + 4) from by rw [nI_clamp (by omega)]]
    refine lv_i2l (v := (xs (i + 4) : Int32).toInt64) hx hb d_law_151 rfl ?_
    refine lv_ldc2 (v := 4294967295) hx hb hown (hts _ (List.mem_cons_of_mem _ gk_1202)) d_law_152 ?_
    refine lv_land hx hb d_law_155 ?_
    refine lv_lor hx hb d_law_156 ?_
    rw [show ((((xs (i + 3) : Int32).toInt64 : Int64) <<< ((32 : Int32).toInt64 &&& 63)) ||| (((xs (i + 4) : Int32).toInt64) &&& 4294967295) : Int64) = x2 from hx2.symm]
    refine lv_aload_n hx hb d_law_157 rfl (lv_at hl 4 rfl) ?_
    refine lv_iload hx hb d_law_158 (lv_at hl 0 rfl) ?_
    refine lv_iconst (v := 5) hx hb d_law_160 (by decide) ?_
    refine lv_iadd hx hb d_law_161 ?_
    rw [show ((nI i) + 5 : Int32) = nI (i + 5) from nI_add _ 5]
    refine va_sld hx hb hX hbl hbA hS (vp_in_nI (by omega) (by omega)) d_law_162 ?_
    rw [show (xs (nI (i + 5)).toNatClampNeg : Int32) = xs (i + 5) from by rw [nI_clamp (by omega)]]
    rw [show (xs (i + 5) : Int32) = x3 from hx3.symm]
    refine lv_aload_n hx hb d_law_163 rfl (lv_at hl 1 rfl) ?_
    have hPc := hP.sub (ws' := (jw_ws out cJ 1 of ++ (bb_ws b0 bd0 pr0 t0 au0 da (.ref g0) ++ (tt_ws t0 ka aa ba sa (.ref g0) cJ T ++ (bo_ws bd0 h0 ro lo n ++ au_ws au0 bd0 pr0 tu0 sd))))) [0, 1, 12, 13, 14, 15, 16, 3, 17] rfl
    have hDc := hD.sub (ws' := (jw_ws out cJ 1 of ++ (bb_ws b0 bd0 pr0 t0 au0 da (.ref g0) ++ (tt_ws t0 ka aa ba sa (.ref g0) cJ T ++ (bo_ws bd0 h0 ro lo n ++ au_ws au0 bd0 pr0 tu0 sd))))) [0, 1, 12, 13, 14, 15, 16, 3, 17] (by decide) rfl
    have hKc := hK.sub (tys' := [(cJ, .long), (cI, .int), (cR, .array .long)]) [0, 1, 2] rfl
    have hFc := va_free (wc := (jw_ws out cJ 1 of ++ (bb_ws b0 bd0 pr0 t0 au0 da (.ref g0) ++ (tt_ws t0 ka aa ba sa (.ref g0) cJ T ++ (bo_ws bd0 h0 ro lo n ++ au_ws au0 bd0 pr0 tu0 sd))))) hD hS hA [0, 1, 12, 13, 14, 15, 16, 3, 17] rfl
    have hZc0 : xz (va_A (jw_ws out cJ 1 of ++ (bb_ws b0 bd0 pr0 t0 au0 da (.ref g0) ++ (tt_ws t0 ka aa ba sa (.ref g0) cJ T ++ (bo_ws bd0 h0 ro lo n ++ au_ws au0 bd0 pr0 tu0 sd)))) H.size) s H := (hZx.kept hS.2.1).narrow hFc
    have hZc1 : nc_Z s := hZn
    have hZc2 : wi_Z wA (va_A (jw_ws out cJ 1 of ++ (bb_ws b0 bd0 pr0 t0 au0 da (.ref g0) ++ (tt_ws t0 ka aa ba sa (.ref g0) cJ T ++ (bo_ws bd0 h0 ro lo n ++ au_ws au0 bd0 pr0 tu0 sd)))) H.size) s H := (hZw.kept hS.2.1).narrow hFc
    refine vx_calli (vx_runSX (hh := h_Lw_begin) (As := [.ref b0, .long x1, .long x2, .int x3, .ref out]) (rest := []) ⟨hx, hb, hml, hown, hts⟩ (c_Lw_begin_0 l hnt dC dI cJ cI cR H.size b0 bd0 pr0 t0 au0 da (.ref g0) (.ref g0) ka aa ba sa T h0 ro lo n tu0 sd wA x1 x2 x3 out of hsd hC) (vx_cwSW 5 hts (gw_Sv gk_175 gk_176 gk_0 gk_177) rfl rfl rfl (by decide +kernel) ⟨(Nat.le_of_ble_eq_true rfl), (Nat.le_of_ble_eq_true rfl)⟩) ⟨fun a U g mk q => by obtain ⟨q0, q1, qP, qK, qD, qZ0, qZ1, qZ2⟩ := q; exact ⟨q0, q1, qP, va_K.moved (u := U) (U := U.calling g mk a) (Vm.Alike.refl U.vm) qK, qD, xz.same (u := U) (U := U.calling g mk a) rfl qZ0, nc_Z.moved (u := U) (U := U.calling g mk a) (Vm.Alike.refl U.vm) qZ1, wi_Z.moved (u := U) (U := U.calling g mk a) (Vm.Alike.refl U.vm) qZ2⟩, fun U hU hW => ⟨rfl, by rw [hU], by rw [hU]; exact hPc, va_K.moved hW.alike hKc, hDc.weaken (fun _ _ _ _ => trivial), by rw [hU]; exact xz.warm hW hZc0, nc_Z.moved hW.alike hZc1, by rw [hU]; exact wi_Z.moved hW.alike hZc2⟩⟩ rfl rfl hl.1 rfl (lv_room (Nat.le_of_ble_eq_true rfl)) d_law_164 ⟨show cells + 8 ≤ 601024 by omega, show slots + 48 ≤ 7293034 by omega⟩) hS (fun q _ h => hFc q h) hFc (fun q _ h => hFc q h) (fun E9 ce9 q9 u8 t9 H1 locs ht hvm hpx hbx hz1 hk1 hS hce hcv hcl => hpx.elim) (fun r_1 u9 t9 H1 locs ht hvm hw hB hz1 hk1 hS => ?_)
    obtain ⟨hP1, hK1, hD1⟩ := hB
    rw [ht] at hP1
    obtain ⟨hP, hD⟩ := va_joinQ (X := (jw_ws out cJ 1 of ++ (bb_ws b0 bd0 pr0 t0 au0 da (.ref g0) ++ (rw_ws da cJ (r8 d0 d1 d2 d3 d4 d5 d6 d7) ++ (bd_ws bd0 h0 ro lo n cR (rrf rb) (rrf lb) ++ (pr_ws pr0 h0 cm cJ ccf ++ (ha_ws h0 aw ax ay cJ cI w csc cst cL ++ (tt_ws t0 ka aa ba sa (.ref g0) cJ T ++ (au_ws au0 bd0 pr0 tu0 sd ++ (tt_ws tu0 uka uaa uba usa gu cJ T0 ++ (gp_ws g0 mF mE P f1 k1 Q f2 k2 G ++ (mo_ws m0 e0 (nI (t_tn T)) (nI n) (nI (t_bc T)) (lN P) (lN Q) (lN G) (lN (ckey (t_tn T) (t_kc T) (t_kp T))) (lN (t_pa T)) (lN (t_pb T)) (t_sht T) a0 a1 a2 a3 a4 a5 a6 a7 a8 a9 mb0 mb1 oc mb2 mb3 mb4 mb5 ++ (iw_ws a7 cI 256 bf ++ (iw_ws a8 cI 64 sc ++ (iw_ws a9 cI 8 st ++ (iw_ws mb0 cI 8 kS ++ (iw_ws mb1 cI 64 kR ++ (jw_ws a2 cJ 4 tf ++ (jw_ws a0 cJ 1232 nf ++ (jw_ws a1 cJ 616 cf ++ (iw_ws a4 cI 4 kf ++ (jw_ws mb2 cJ 4 ky ++ (jw_ws a3 cJ 16 lf ++ (iw_ws a5 cI 4 sf ++ (iw_ws a6 cI 64 vf ++ (jw_ws mb3 cJ 128 md ++ (jw_ws mb4 cJ 4 sh ++ iw_ws mb5 cI 64 ct))))))))))))))))))))))))))) (cx := (jw_ws out cJ 1 of ++ (bb_ws b0 bd0 pr0 t0 au0 da (.ref g0) ++ (tt_ws t0 ka aa ba sa (.ref g0) cJ T ++ (bo_ws bd0 h0 ro lo n ++ au_ws au0 bd0 pr0 tu0 sd))))) (wr := (rw_ws da cJ (r8 d0 d1 d2 d3 d4 d5 d6 d7) ++ ([(ro, .inl (cR, 154, .inr (.inr (.inr (.inr (rrf rb))))))] ++ ([(lo, .inl (cR, 154, .inr (.inr (.inr (.inr (rrf lb))))))] ++ (pr_ws pr0 h0 cm cJ ccf ++ (ha_ws h0 aw ax ay cJ cI w csc cst cL ++ (tt_ws tu0 uka uaa uba usa gu cJ T0 ++ (gp_ws g0 mF mE P f1 k1 Q f2 k2 G ++ (mo_ws m0 e0 (nI (t_tn T)) (nI n) (nI (t_bc T)) (lN P) (lN Q) (lN G) (lN (ckey (t_tn T) (t_kc T) (t_kp T))) (lN (t_pa T)) (lN (t_pb T)) (t_sht T) a0 a1 a2 a3 a4 a5 a6 a7 a8 a9 mb0 mb1 oc mb2 mb3 mb4 mb5 ++ (iw_ws a7 cI 256 bf ++ (iw_ws a8 cI 64 sc ++ (iw_ws a9 cI 8 st ++ (iw_ws mb0 cI 8 kS ++ (iw_ws mb1 cI 64 kR ++ (jw_ws a2 cJ 4 tf ++ (jw_ws a0 cJ 1232 nf ++ (jw_ws a1 cJ 616 cf ++ (iw_ws a4 cI 4 kf ++ (jw_ws mb2 cJ 4 ky ++ (jw_ws a3 cJ 16 lf ++ (iw_ws a5 cI 4 sf ++ (iw_ws a6 cI 64 vf ++ (jw_ws mb3 cJ 128 md ++ (jw_ws mb4 cJ 4 sh ++ iw_ws mb5 cI 64 ct)))))))))))))))))))))))) (w1 := (jw_ws out cJ 1 (vp_updL of 0 (lN u9.1.2.2.2.2.2.2.1)) ++ (bb_ws b0 bd0 pr0 t0 au0 da (.ref u9.1.1) ++ (tt_ws t0 ka aa ba sa (.ref u9.1.1) cJ (tStart u9.2 T) ++ (bo_ws bd0 h0 ro lo 0 ++ (au_ws au0 bd0 pr0 tu0 (min sd 0) ++ gp_ws u9.1.1 u9.1.2.1 u9.1.2.2.1 u9.1.2.2.2.1 u9.1.2.2.2.2.1 u9.1.2.2.2.2.2.1 u9.1.2.2.2.2.2.2.1 u9.1.2.2.2.2.2.2.2.1 u9.1.2.2.2.2.2.2.2.2.1 u9.1.2.2.2.2.2.2.2.2.2)))))) (pl := bpool rb lb cJ R Lk) hP hD [0, 1, 12, 13, 14, 15, 16, 3, 17] [2, 4, 5, 6, 7, 8, 9, 10, 11, 18, 19, 20, 21, 22, 23, 24, 25, 26, 27, 28, 29, 30, 31, 32, 33, 34, 35, 36, 37, 38, 39, 40, 41, 42] rfl rfl (by decide) (by decide) hk1 hFc hP1 hD1
    have hP := hP.part (cx := (jw_ws out cJ 1 (vp_updL of 0 (lN u9.1.2.2.2.2.2.2.1)) ++ (bb_ws b0 bd0 pr0 t0 au0 da (.ref u9.1.1) ++ (rw_ws da cJ (r8 d0 d1 d2 d3 d4 d5 d6 d7) ++ (bd_ws bd0 h0 ro lo 0 cR (rrf rb) (rrf lb) ++ (pr_ws pr0 h0 cm cJ ccf ++ (ha_ws h0 aw ax ay cJ cI w csc cst cL ++ (tt_ws t0 ka aa ba sa (.ref u9.1.1) cJ (tStart u9.2 T) ++ (au_ws au0 bd0 pr0 tu0 (min sd 0) ++ (tt_ws tu0 uka uaa uba usa gu cJ T0 ++ (gp_ws u9.1.1 u9.1.2.1 u9.1.2.2.1 u9.1.2.2.2.1 u9.1.2.2.2.2.1 u9.1.2.2.2.2.2.1 u9.1.2.2.2.2.2.2.1 u9.1.2.2.2.2.2.2.2.1 u9.1.2.2.2.2.2.2.2.2.1 u9.1.2.2.2.2.2.2.2.2.2 ++ (mo_ws m0 e0 (nI (t_tn T)) (nI n) (nI (t_bc T)) (lN P) (lN Q) (lN G) (lN (ckey (t_tn T) (t_kc T) (t_kp T))) (lN (t_pa T)) (lN (t_pb T)) (t_sht T) a0 a1 a2 a3 a4 a5 a6 a7 a8 a9 mb0 mb1 oc mb2 mb3 mb4 mb5 ++ (iw_ws a7 cI 256 bf ++ (iw_ws a8 cI 64 sc ++ (iw_ws a9 cI 8 st ++ (iw_ws mb0 cI 8 kS ++ (iw_ws mb1 cI 64 kR ++ (jw_ws a2 cJ 4 tf ++ (jw_ws a0 cJ 1232 nf ++ (jw_ws a1 cJ 616 cf ++ (iw_ws a4 cI 4 kf ++ (jw_ws mb2 cJ 4 ky ++ (jw_ws a3 cJ 16 lf ++ (iw_ws a5 cI 4 sf ++ (iw_ws a6 cI 64 vf ++ (jw_ws mb3 cJ 128 md ++ (jw_ws mb4 cJ 4 sh ++ iw_ws mb5 cI 64 ct))))))))))))))))))))))))))) [34, 35, 0, 41, 1, 2, 3, 4, 5, 6, 7, 8, 36, 37, 38, 39, 40, 42, 9, 10, 11, 12, 13, 43, 44, 45, 17, 18, 19, 20, 21, 22, 23, 24, 25, 26, 27, 28, 29, 30, 31, 32, 33] rfl
    have hD := hD.part (cx := (jw_ws out cJ 1 (vp_updL of 0 (lN u9.1.2.2.2.2.2.2.1)) ++ (bb_ws b0 bd0 pr0 t0 au0 da (.ref u9.1.1) ++ (rw_ws da cJ (r8 d0 d1 d2 d3 d4 d5 d6 d7) ++ (bd_ws bd0 h0 ro lo 0 cR (rrf rb) (rrf lb) ++ (pr_ws pr0 h0 cm cJ ccf ++ (ha_ws h0 aw ax ay cJ cI w csc cst cL ++ (tt_ws t0 ka aa ba sa (.ref u9.1.1) cJ (tStart u9.2 T) ++ (au_ws au0 bd0 pr0 tu0 (min sd 0) ++ (tt_ws tu0 uka uaa uba usa gu cJ T0 ++ (gp_ws u9.1.1 u9.1.2.1 u9.1.2.2.1 u9.1.2.2.2.1 u9.1.2.2.2.2.1 u9.1.2.2.2.2.2.1 u9.1.2.2.2.2.2.2.1 u9.1.2.2.2.2.2.2.2.1 u9.1.2.2.2.2.2.2.2.2.1 u9.1.2.2.2.2.2.2.2.2.2 ++ (mo_ws m0 e0 (nI (t_tn T)) (nI n) (nI (t_bc T)) (lN P) (lN Q) (lN G) (lN (ckey (t_tn T) (t_kc T) (t_kp T))) (lN (t_pa T)) (lN (t_pb T)) (t_sht T) a0 a1 a2 a3 a4 a5 a6 a7 a8 a9 mb0 mb1 oc mb2 mb3 mb4 mb5 ++ (iw_ws a7 cI 256 bf ++ (iw_ws a8 cI 64 sc ++ (iw_ws a9 cI 8 st ++ (iw_ws mb0 cI 8 kS ++ (iw_ws mb1 cI 64 kR ++ (jw_ws a2 cJ 4 tf ++ (jw_ws a0 cJ 1232 nf ++ (jw_ws a1 cJ 616 cf ++ (iw_ws a4 cI 4 kf ++ (jw_ws mb2 cJ 4 ky ++ (jw_ws a3 cJ 16 lf ++ (iw_ws a5 cI 4 sf ++ (iw_ws a6 cI 64 vf ++ (jw_ws mb3 cJ 128 md ++ (jw_ws mb4 cJ 4 sh ++ iw_ws mb5 cI 64 ct))))))))))))))))))))))))))) [34, 35, 0, 41, 1, 2, 3, 4, 5, 6, 7, 8, 36, 37, 38, 39, 40, 42, 9, 10, 11, 12, 13, 43, 44, 45, 17, 18, 19, 20, 21, 22, 23, 24, 25, 26, 27, 28, 29, 30, 31, 32, 33] (by decide) rfl
    generalize H1 = H at hP hS ⊢
    clear hPc hDc hFc hP1 hD1 hK1 ht hk1 hz1
    have hr9 : r_1 = 0 := hw.1
    subst hr9
    have hw := hw.2
    obtain ⟨ex1, ex2, ex3, hN1, hN4, hgo⟩ := hw
    obtain ⟨P2, G2, N2, e1, e2, e3, h7, h61, hr1, hr2, ⟨h1, h2⟩, hg2, hgp, hgq⟩ := bg_iff.mp hC
    have b1 := hgo.1.2.2.1
    have b2 := hgo.2.2.2.2.1
    have b3 := hgo.2.2.1
    have eP : P2 = u9.1.2.2.2.1 := (vN_of e1 (by omega)).symm.trans (vN_of ex1 (by omega))
    have eG : G2 = u9.1.2.2.2.2.2.2.2.2.2 := (vN_of e2 (by omega)).symm.trans (vN_of ex2 (by omega))
    have eN : N2 = u9.2 := nI_inj (by omega) (by omega) (e3.symm.trans ex3)
    subst eP
    subst eG
    subst eN
    have eQ : (u9.1.2.2.2.1 - 1) / 2 = u9.1.2.2.2.2.2.2.1 := by omega
    refine lv_istore (lv' := [(5, .int 0), (4, .int (nI i)), (3, .ref out), (2, .ref m0), (1, .ref b0), (0, .ref b)]) hx hb d_law_167 hl (by decide) rfl (fun ls hl => ?_)
    refine lv_aload_n hx hb d_law_169 rfl (lv_at hl 3 rfl) ?_
    refine lv_aload_n hx hb d_law_170 rfl (lv_at hl 5 rfl) ?_
    refine lv_iload hx hb d_law_171 (lv_at hl 1 rfl) ?_
    refine lv_iconst (v := 1) hx hb d_law_173 (by decide) ?_
    refine lv_iadd hx hb d_law_174 ?_
    rw [show ((nI i) + 1 : Int32) = nI (i + 1) from nI_add _ 1]
    refine va_sld hx hb hX hbl hbA hS (vp_in_nI (by omega) (by omega)) d_law_175 ?_
    rw [show (xs (nI (i + 1)).toNatClampNeg : Int32) = xs (i + 1) from by rw [nI_clamp (by omega)]]
    refine lv_i2l (v := (xs (i + 1) : Int32).toInt64) hx hb d_law_176 rfl ?_
    refine lv_bipush (v := 32) hx hb d_law_177 (by decide) ?_
    refine lv_lshl (v := ((xs (i + 1) : Int32).toInt64 : Int64) <<< ((32 : Int32).toInt64 &&& 63)) hx hb d_law_179 rfl ?_
    refine lv_aload_n hx hb d_law_180 rfl (lv_at hl 5 rfl) ?_
    refine lv_iload hx hb d_law_181 (lv_at hl 1 rfl) ?_
    refine lv_iconst (v := 2) hx hb d_law_183 (by decide) ?_
    refine lv_iadd hx hb d_law_184 ?_
    rw [show ((nI i) + 2 : Int32) = nI (i + 2) from nI_add _ 2]
    refine va_sld hx hb hX hbl hbA hS (vp_in_nI (by omega) (by omega)) d_law_185 ?_
    rw [show (xs (nI (i + 2)).toNatClampNeg : Int32) = xs (i + 2) from by rw [nI_clamp (by omega)]]
    refine lv_i2l (v := (xs (i + 2) : Int32).toInt64) hx hb d_law_186 rfl ?_
    refine lv_ldc2 (v := 4294967295) hx hb hown (hts _ (List.mem_cons_of_mem _ gk_1202)) d_law_187 ?_
    refine lv_land hx hb d_law_190 ?_
    refine lv_lor hx hb d_law_191 ?_
    rw [show ((((xs (i + 1) : Int32).toInt64 : Int64) <<< ((32 : Int32).toInt64 &&& 63)) ||| (((xs (i + 2) : Int32).toInt64) &&& 4294967295) : Int64) = lN u9.1.2.2.2.1 from (hx1.symm.trans ex1)]
    refine lv_aload_n hx hb d_law_192 rfl (lv_at hl 5 rfl) ?_
    refine lv_iload hx hb d_law_193 (lv_at hl 1 rfl) ?_
    refine lv_iconst (v := 3) hx hb d_law_195 (by decide) ?_
    refine lv_iadd hx hb d_law_196 ?_
    rw [show ((nI i) + 3 : Int32) = nI (i + 3) from nI_add _ 3]
    refine va_sld hx hb hX hbl hbA hS (vp_in_nI (by omega) (by omega)) d_law_197 ?_
    rw [show (xs (nI (i + 3)).toNatClampNeg : Int32) = xs (i + 3) from by rw [nI_clamp (by omega)]]
    refine lv_i2l (v := (xs (i + 3) : Int32).toInt64) hx hb d_law_198 rfl ?_
    refine lv_bipush (v := 32) hx hb d_law_199 (by decide) ?_
    refine lv_lshl (v := ((xs (i + 3) : Int32).toInt64 : Int64) <<< ((32 : Int32).toInt64 &&& 63)) hx hb d_law_201 rfl ?_
    refine lv_aload_n hx hb d_law_202 rfl (lv_at hl 5 rfl) ?_
    refine lv_iload hx hb d_law_203 (lv_at hl 1 rfl) ?_
    refine lv_iconst (v := 4) hx hb d_law_205 (by decide) ?_
    refine lv_iadd hx hb d_law_206 ?_
    rw [show ((nI i) + 4 : Int32) = nI (i + 4) from nI_add _ 4]
    refine va_sld hx hb hX hbl hbA hS (vp_in_nI (by omega) (by omega)) d_law_207 ?_
    rw [show (xs (nI (i + 4)).toNatClampNeg : Int32) = xs (i + 4) from by rw [nI_clamp (by omega)]]
    refine lv_i2l (v := (xs (i + 4) : Int32).toInt64) hx hb d_law_208 rfl ?_
    refine lv_ldc2 (v := 4294967295) hx hb hown (hts _ (List.mem_cons_of_mem _ gk_1202)) d_law_209 ?_
    refine lv_land hx hb d_law_212 ?_
    refine lv_lor hx hb d_law_213 ?_
    rw [show ((((xs (i + 3) : Int32).toInt64 : Int64) <<< ((32 : Int32).toInt64 &&& 63)) ||| (((xs (i + 4) : Int32).toInt64) &&& 4294967295) : Int64) = lN u9.1.2.2.2.2.2.2.2.2.2 from (hx2.symm.trans ex2)]
    refine lv_aload_n hx hb d_law_214 rfl (lv_at hl 5 rfl) ?_
    refine lv_iload hx hb d_law_215 (lv_at hl 1 rfl) ?_
    refine lv_iconst (v := 5) hx hb d_law_217 (by decide) ?_
    refine lv_iadd hx hb d_law_218 ?_
    rw [show ((nI i) + 5 : Int32) = nI (i + 5) from nI_add _ 5]
    refine va_sld hx hb hX hbl hbA hS (vp_in_nI (by omega) (by omega)) d_law_219 ?_
    rw [show (xs (nI (i + 5)).toNatClampNeg : Int32) = xs (i + 5) from by rw [nI_clamp (by omega)]]
    rw [show (xs (i + 5) : Int32) = nI u9.2 from (hx3.symm.trans ex3)]
    have hPc := hP.sub (ws' := (mo_ws m0 e0 (nI (t_tn T)) (nI n) (nI (t_bc T)) (lN P) (lN Q) (lN G) (lN (ckey (t_tn T) (t_kc T) (t_kp T))) (lN (t_pa T)) (lN (t_pb T)) (t_sht T) a0 a1 a2 a3 a4 a5 a6 a7 a8 a9 mb0 mb1 oc mb2 mb3 mb4 mb5 ++ (iw_ws a4 cI 4 kf ++ (iw_ws a5 cI 4 sf ++ iw_ws a6 cI 64 vf)))) [26, 35, 38, 39] rfl
    have hDc := hD.sub (ws' := (mo_ws m0 e0 (nI (t_tn T)) (nI n) (nI (t_bc T)) (lN P) (lN Q) (lN G) (lN (ckey (t_tn T) (t_kc T) (t_kp T))) (lN (t_pa T)) (lN (t_pb T)) (t_sht T) a0 a1 a2 a3 a4 a5 a6 a7 a8 a9 mb0 mb1 oc mb2 mb3 mb4 mb5 ++ (iw_ws a4 cI 4 kf ++ (iw_ws a5 cI 4 sf ++ iw_ws a6 cI 64 vf)))) [26, 35, 38, 39] (by decide) rfl
    have hKc := hK.sub (tys' := [(cJ, .long), (cI, .int)]) [0, 1] rfl
    have hFc := va_free (wc := (mo_ws m0 e0 (nI (t_tn T)) (nI n) (nI (t_bc T)) (lN P) (lN Q) (lN G) (lN (ckey (t_tn T) (t_kc T) (t_kp T))) (lN (t_pa T)) (lN (t_pb T)) (t_sht T) a0 a1 a2 a3 a4 a5 a6 a7 a8 a9 mb0 mb1 oc mb2 mb3 mb4 mb5 ++ (iw_ws a4 cI 4 kf ++ (iw_ws a5 cI 4 sf ++ iw_ws a6 cI 64 vf)))) hD hS hA [26, 35, 38, 39] rfl
    refine va_calll (va_runV (As := [.long (lN u9.1.2.2.2.1), .long (lN u9.1.2.2.2.2.2.2.2.2.2), .int (nI u9.2)]) (rest := []) ⟨hx, hb, hml, hown, hts⟩ (c_Bm_begin_0 l dC dI cJ cI H.size m0 e0 (nI (t_tn T)) (nI n) (nI (t_bc T)) (lN P) (lN Q) (lN G) (lN (ckey (t_tn T) (t_kc T) (t_kp T))) (lN (t_pa T)) (lN (t_pb T)) (t_sht T) a0 a1 a2 a3 a4 a5 a6 a7 a8 a9 mb0 mb1 oc mb2 mb3 mb4 mb5 kf sf vf u9.1.2.2.2.1 u9.1.2.2.2.2.2.2.2.2.2 u9.2 h7 h61 hr1 hr2 h1 h2 hg2 hgp hgq) (cwV 3 hts (gw_V gk_1008 gk_1009 gk_1010 gk_7 gk_1011) rfl rfl rfl (by decide +kernel) ⟨(Nat.le_of_ble_eq_true rfl), (Nat.le_of_ble_eq_true rfl)⟩) ⟨fun a U g mk q => by obtain ⟨q0, q1, qP, qK, qD⟩ := q; exact ⟨q0, q1, qP, va_K.moved (u := U) (U := U.calling g mk a) (Vm.Alike.refl U.vm) qK, qD⟩, va_recv hK hP (ci := 8) (q0 := 26) rfl rfl, fun U hU hW => ⟨rfl, by rw [hU], by rw [hU]; exact hPc, va_K.moved hW.alike hKc, hDc.weaken (fun _ _ _ _ => trivial)⟩⟩ rfl rfl hl.1 rfl (lv_room (Nat.le_of_ble_eq_true rfl)) d_law_220 ⟨show cells + 8 + 0 ≤ 601024 by omega, show slots + 48 + 0 ≤ 7293034 by omega⟩) hS (fun q _ h => hFc q h) hFc (fun r_2 v9 t9 H1 locs ht hvm hw hB hz1 hk1 hS => ?_)
    obtain ⟨hP1, hK1, hD1⟩ := hB
    rw [ht] at hP1
    obtain ⟨hP, hD⟩ := va_joinQ (X := (jw_ws out cJ 1 (vp_updL of 0 (lN u9.1.2.2.2.2.2.2.1)) ++ (bb_ws b0 bd0 pr0 t0 au0 da (.ref u9.1.1) ++ (rw_ws da cJ (r8 d0 d1 d2 d3 d4 d5 d6 d7) ++ (bd_ws bd0 h0 ro lo 0 cR (rrf rb) (rrf lb) ++ (pr_ws pr0 h0 cm cJ ccf ++ (ha_ws h0 aw ax ay cJ cI w csc cst cL ++ (tt_ws t0 ka aa ba sa (.ref u9.1.1) cJ (tStart u9.2 T) ++ (au_ws au0 bd0 pr0 tu0 (min sd 0) ++ (tt_ws tu0 uka uaa uba usa gu cJ T0 ++ (gp_ws u9.1.1 u9.1.2.1 u9.1.2.2.1 u9.1.2.2.2.1 u9.1.2.2.2.2.1 u9.1.2.2.2.2.2.1 u9.1.2.2.2.2.2.2.1 u9.1.2.2.2.2.2.2.2.1 u9.1.2.2.2.2.2.2.2.2.1 u9.1.2.2.2.2.2.2.2.2.2 ++ (mo_ws m0 e0 (nI (t_tn T)) (nI n) (nI (t_bc T)) (lN P) (lN Q) (lN G) (lN (ckey (t_tn T) (t_kc T) (t_kp T))) (lN (t_pa T)) (lN (t_pb T)) (t_sht T) a0 a1 a2 a3 a4 a5 a6 a7 a8 a9 mb0 mb1 oc mb2 mb3 mb4 mb5 ++ (iw_ws a7 cI 256 bf ++ (iw_ws a8 cI 64 sc ++ (iw_ws a9 cI 8 st ++ (iw_ws mb0 cI 8 kS ++ (iw_ws mb1 cI 64 kR ++ (jw_ws a2 cJ 4 tf ++ (jw_ws a0 cJ 1232 nf ++ (jw_ws a1 cJ 616 cf ++ (iw_ws a4 cI 4 kf ++ (jw_ws mb2 cJ 4 ky ++ (jw_ws a3 cJ 16 lf ++ (iw_ws a5 cI 4 sf ++ (iw_ws a6 cI 64 vf ++ (jw_ws mb3 cJ 128 md ++ (jw_ws mb4 cJ 4 sh ++ iw_ws mb5 cI 64 ct))))))))))))))))))))))))))) (cx := (mo_ws m0 e0 (nI (t_tn T)) (nI n) (nI (t_bc T)) (lN P) (lN Q) (lN G) (lN (ckey (t_tn T) (t_kc T) (t_kp T))) (lN (t_pa T)) (lN (t_pb T)) (t_sht T) a0 a1 a2 a3 a4 a5 a6 a7 a8 a9 mb0 mb1 oc mb2 mb3 mb4 mb5 ++ (iw_ws a4 cI 4 kf ++ (iw_ws a5 cI 4 sf ++ iw_ws a6 cI 64 vf)))) (wr := (jw_ws out cJ 1 (vp_updL of 0 (lN u9.1.2.2.2.2.2.2.1)) ++ (bb_ws b0 bd0 pr0 t0 au0 da (.ref u9.1.1) ++ (rw_ws da cJ (r8 d0 d1 d2 d3 d4 d5 d6 d7) ++ (bd_ws bd0 h0 ro lo 0 cR (rrf rb) (rrf lb) ++ (pr_ws pr0 h0 cm cJ ccf ++ (ha_ws h0 aw ax ay cJ cI w csc cst cL ++ (tt_ws t0 ka aa ba sa (.ref u9.1.1) cJ (tStart u9.2 T) ++ (au_ws au0 bd0 pr0 tu0 (min sd 0) ++ (tt_ws tu0 uka uaa uba usa gu cJ T0 ++ (gp_ws u9.1.1 u9.1.2.1 u9.1.2.2.1 u9.1.2.2.2.1 u9.1.2.2.2.2.1 u9.1.2.2.2.2.2.1 u9.1.2.2.2.2.2.2.1 u9.1.2.2.2.2.2.2.2.1 u9.1.2.2.2.2.2.2.2.2.1 u9.1.2.2.2.2.2.2.2.2.2 ++ (iw_ws a7 cI 256 bf ++ (iw_ws a8 cI 64 sc ++ (iw_ws a9 cI 8 st ++ (iw_ws mb0 cI 8 kS ++ (iw_ws mb1 cI 64 kR ++ (jw_ws a2 cJ 4 tf ++ (jw_ws a0 cJ 1232 nf ++ (jw_ws a1 cJ 616 cf ++ (jw_ws mb2 cJ 4 ky ++ (jw_ws a3 cJ 16 lf ++ (jw_ws mb3 cJ 128 md ++ (jw_ws mb4 cJ 4 sh ++ iw_ws mb5 cI 64 ct))))))))))))))))))))))) (w1 := (mo_ws m0 0 (nI u9.2) 0 0 (lN u9.1.2.2.2.1) (lN ((u9.1.2.2.2.1 - 1) / 2)) (lN u9.1.2.2.2.2.2.2.2.2.2) 0 0 0 0 a0 a1 a2 a3 a4 a5 a6 a7 a8 a9 mb0 mb1 oc mb2 mb3 mb4 mb5 ++ (iw_ws a4 cI 4 (mf kf 4) ++ (iw_ws a5 cI 4 (mf sf 4) ++ iw_ws a6 cI 64 (mf vf 64))))) (pl := bpool rb lb cJ R Lk) hP hD [26, 35, 38, 39] [0, 1, 2, 3, 4, 5, 6, 7, 8, 9, 10, 11, 12, 13, 14, 15, 16, 17, 18, 19, 20, 21, 22, 23, 24, 25, 27, 28, 29, 30, 31, 32, 33, 34, 36, 37, 40, 41, 42] rfl rfl (by decide) (by decide) hk1 hFc hP1 hD1
    have hP := hP.part (cx := (jw_ws out cJ 1 (vp_updL of 0 (lN u9.1.2.2.2.2.2.2.1)) ++ (bb_ws b0 bd0 pr0 t0 au0 da (.ref u9.1.1) ++ (rw_ws da cJ (r8 d0 d1 d2 d3 d4 d5 d6 d7) ++ (bd_ws bd0 h0 ro lo 0 cR (rrf rb) (rrf lb) ++ (pr_ws pr0 h0 cm cJ ccf ++ (ha_ws h0 aw ax ay cJ cI w csc cst cL ++ (tt_ws t0 ka aa ba sa (.ref u9.1.1) cJ (tStart u9.2 T) ++ (au_ws au0 bd0 pr0 tu0 (min sd 0) ++ (tt_ws tu0 uka uaa uba usa gu cJ T0 ++ (gp_ws u9.1.1 u9.1.2.1 u9.1.2.2.1 u9.1.2.2.2.1 u9.1.2.2.2.2.1 u9.1.2.2.2.2.2.1 u9.1.2.2.2.2.2.2.1 u9.1.2.2.2.2.2.2.2.1 u9.1.2.2.2.2.2.2.2.2.1 u9.1.2.2.2.2.2.2.2.2.2 ++ (mo_ws m0 0 (nI u9.2) 0 0 (lN u9.1.2.2.2.1) (lN ((u9.1.2.2.2.1 - 1) / 2)) (lN u9.1.2.2.2.2.2.2.2.2.2) 0 0 0 0 a0 a1 a2 a3 a4 a5 a6 a7 a8 a9 mb0 mb1 oc mb2 mb3 mb4 mb5 ++ (iw_ws a7 cI 256 bf ++ (iw_ws a8 cI 64 sc ++ (iw_ws a9 cI 8 st ++ (iw_ws mb0 cI 8 kS ++ (iw_ws mb1 cI 64 kR ++ (jw_ws a2 cJ 4 tf ++ (jw_ws a0 cJ 1232 nf ++ (jw_ws a1 cJ 616 cf ++ (iw_ws a4 cI 4 (mf kf 4) ++ (jw_ws mb2 cJ 4 ky ++ (jw_ws a3 cJ 16 lf ++ (iw_ws a5 cI 4 (mf sf 4) ++ (iw_ws a6 cI 64 (mf vf 64) ++ (jw_ws mb3 cJ 128 md ++ (jw_ws mb4 cJ 4 sh ++ iw_ws mb5 cI 64 ct))))))))))))))))))))))))))) [0, 1, 2, 3, 4, 5, 6, 7, 8, 9, 10, 11, 12, 13, 14, 15, 16, 17, 18, 19, 20, 21, 22, 23, 24, 25, 39, 26, 27, 28, 29, 30, 31, 32, 33, 40, 34, 35, 41, 42, 36, 37, 38] rfl
    have hD := hD.part (cx := (jw_ws out cJ 1 (vp_updL of 0 (lN u9.1.2.2.2.2.2.2.1)) ++ (bb_ws b0 bd0 pr0 t0 au0 da (.ref u9.1.1) ++ (rw_ws da cJ (r8 d0 d1 d2 d3 d4 d5 d6 d7) ++ (bd_ws bd0 h0 ro lo 0 cR (rrf rb) (rrf lb) ++ (pr_ws pr0 h0 cm cJ ccf ++ (ha_ws h0 aw ax ay cJ cI w csc cst cL ++ (tt_ws t0 ka aa ba sa (.ref u9.1.1) cJ (tStart u9.2 T) ++ (au_ws au0 bd0 pr0 tu0 (min sd 0) ++ (tt_ws tu0 uka uaa uba usa gu cJ T0 ++ (gp_ws u9.1.1 u9.1.2.1 u9.1.2.2.1 u9.1.2.2.2.1 u9.1.2.2.2.2.1 u9.1.2.2.2.2.2.1 u9.1.2.2.2.2.2.2.1 u9.1.2.2.2.2.2.2.2.1 u9.1.2.2.2.2.2.2.2.2.1 u9.1.2.2.2.2.2.2.2.2.2 ++ (mo_ws m0 0 (nI u9.2) 0 0 (lN u9.1.2.2.2.1) (lN ((u9.1.2.2.2.1 - 1) / 2)) (lN u9.1.2.2.2.2.2.2.2.2.2) 0 0 0 0 a0 a1 a2 a3 a4 a5 a6 a7 a8 a9 mb0 mb1 oc mb2 mb3 mb4 mb5 ++ (iw_ws a7 cI 256 bf ++ (iw_ws a8 cI 64 sc ++ (iw_ws a9 cI 8 st ++ (iw_ws mb0 cI 8 kS ++ (iw_ws mb1 cI 64 kR ++ (jw_ws a2 cJ 4 tf ++ (jw_ws a0 cJ 1232 nf ++ (jw_ws a1 cJ 616 cf ++ (iw_ws a4 cI 4 (mf kf 4) ++ (jw_ws mb2 cJ 4 ky ++ (jw_ws a3 cJ 16 lf ++ (iw_ws a5 cI 4 (mf sf 4) ++ (iw_ws a6 cI 64 (mf vf 64) ++ (jw_ws mb3 cJ 128 md ++ (jw_ws mb4 cJ 4 sh ++ iw_ws mb5 cI 64 ct))))))))))))))))))))))))))) [0, 1, 2, 3, 4, 5, 6, 7, 8, 9, 10, 11, 12, 13, 14, 15, 16, 17, 18, 19, 20, 21, 22, 23, 24, 25, 39, 26, 27, 28, 29, 30, 31, 32, 33, 40, 34, 35, 41, 42, 36, 37, 38] (by decide) rfl
    generalize H1 = H at hP hS ⊢
    clear hPc hDc hFc hP1 hD1 hK1 ht hk1 hz1
    have hr8 := hw
    subst hr8
    rw [eQ] at hP hD
    refine lv_lstore (lv' := [(6, .long (lN ((u9.1.2.2.2.1 - 1) / 2))), (5, .int 0), (4, .int (nI i)), (3, .ref out), (2, .ref m0), (1, .ref b0), (0, .ref b)]) hx hb d_law_223 hl (by decide) rfl (fun ls hl => ?_)
    refine lv_aload_n hx hb d_law_225 rfl (lv_at hl 4 rfl) ?_
    have hPc := hP.sub (ws' := (mo_ws m0 0 (nI u9.2) 0 0 (lN u9.1.2.2.2.1) (lN u9.1.2.2.2.2.2.2.1) (lN u9.1.2.2.2.2.2.2.2.2.2) 0 0 0 0 a0 a1 a2 a3 a4 a5 a6 a7 a8 a9 mb0 mb1 oc mb2 mb3 mb4 mb5)) [26] rfl
    have hKc := hK.sub (tys' := [(cJ, .long), (cI, .int)]) [0, 1] rfl
    refine va_calli (va_runV (As := []) (rest := []) ⟨hx, hb, hml, hown, hts⟩ (c_Bm_thrown l H dC dI cJ cI m0 0 (nI u9.2) 0 0 (lN u9.1.2.2.2.1) (lN u9.1.2.2.2.2.2.2.1) (lN u9.1.2.2.2.2.2.2.2.2.2) 0 0 0 0 a0 a1 a2 a3 a4 a5 a6 a7 a8 a9 mb0 mb1 oc mb2 mb3 mb4 mb5 hPc) (cwV 0 hts (gw_V gk_1004 gk_1005 gk_1006 gk_7 gk_1007) rfl rfl rfl (by decide +kernel) ⟨(Nat.le_of_ble_eq_true rfl), (Nat.le_of_ble_eq_true rfl)⟩) ⟨fun a U g mk q => ⟨q.1, q.2.1, va_K.moved (u := U) (U := U.calling g mk a) (Vm.Alike.refl U.vm) q.2.2⟩, va_recv hK hP (ci := 8) (q0 := 26) rfl rfl, fun U hU hW => ⟨rfl, hU, va_K.moved hW.alike hKc⟩⟩ rfl rfl hl.1 rfl (lv_room (Nat.le_of_ble_eq_true rfl)) d_law_226 ⟨show cells + 8 + 0 + 0 ≤ 601024 by omega, show slots + 48 + 0 + 0 ≤ 7293034 by omega⟩) hS (fun q _ h => h.elim) (fun q h => h.elim) (fun r_3 w9 t9 H1 locs ht hvm hw9 hB hz1 hk1 hS => ?_)
    obtain rfl : H = H1 := hB.symm.trans ht
    have hw9 : r_3 = 0 := hw9
    subst hw9
    clear hPc hz1 hk1 hB
    refine lv_iload hx hb d_law_229 (lv_at hl 1 rfl) ?_
    refine lv_icmp_eq (tgt := 236) hx hb d_law_231 (by decide) (fun c_4 => ?_) (fun c_4 => ?_)
    · -- taken
      refine lv_iload hx hb d_law_236 (lv_at hl 1 rfl) ?_
      refine lv_if_ne (tgt := 252) hx hb d_law_238 (by decide) (fun c_5 => ?_) (fun c_5 => ?_)
      · -- taken
        exact absurd rfl c_5
      · -- not taken
        refine lv_aload_n hx hb d_law_241 rfl (lv_at hl 3 rfl) ?_
        refine lv_iconst (v := 0) hx hb d_law_242 (by decide) ?_
        refine va_lald hx hb hK hP 0 0 rfl rfl (vp_lit rfl) d_law_243 ?_
        refine lv_topl (fun v_6 ev_6 => ?_)
        obtain rfl : v_6 = lN u9.1.2.2.2.2.2.2.1 := ev_6.trans rfl
        refine lv_lload hx hb d_law_244 (lv_at hl 0 rfl) ?_
        refine W.lcmp hx hb d_law_246 ?_
        refine lv_if_eq (tgt := 252) hx hb d_law_247 (by decide) (fun c_7 => ?_) (fun c_7 => ?_)
        · -- taken
          refine lv_goto (tgt := 1965) hx hb d_law_252 (by decide) ?_
          refine W.widen (k := cells + 20) (n := slots + 200) (by omega) (by omega) ?_
          have hI9 : LI dC dI cJ cI cR A out b0 m0 H := LG.mk (n := 0) (bc := 0) (al := 0) (pa := 0) (pb := 0) (cl := 0) (kd := fun _ => 0) (wh := fun _ => 0) hP hD (rel_begin hgo hN1 hN4 hTt hTt0)
          exact cont _ _ _ hS hI9 (lv_sub hl [2, 3, 4, 5, 6] rfl)
        · -- not taken
          exact absurd (lgc (congrArg lN eQ.symm)) c_7
    · -- not taken
      exact absurd c_4 (by decide)
  refine lv_aload_n hx hb d_law_112 rfl (lv_at hl 3 rfl) ?_
  refine lv_aload_n hx hb d_law_113 rfl (lv_at hl 4 rfl) ?_
  refine lv_iload hx hb d_law_114 (lv_at hl 0 rfl) ?_
  refine lv_iconst (v := 1) hx hb d_law_116 (by decide) ?_
  refine lv_iadd hx hb d_law_117 ?_
  rw [show ((nI i) + 1 : Int32) = nI (i + 1) from nI_add _ 1]
  refine va_sld hx hb hX hbl hbA hS (vp_in_nI (by omega) (by omega)) d_law_118 ?_
  rw [show (xs (nI (i + 1)).toNatClampNeg : Int32) = xs (i + 1) from by rw [nI_clamp (by omega)]]
  refine lv_i2l (v := (xs (i + 1) : Int32).toInt64) hx hb d_law_119 rfl ?_
  refine lv_bipush (v := 32) hx hb d_law_120 (by decide) ?_
  refine lv_lshl (v := ((xs (i + 1) : Int32).toInt64 : Int64) <<< ((32 : Int32).toInt64 &&& 63)) hx hb d_law_122 rfl ?_
  refine lv_aload_n hx hb d_law_123 rfl (lv_at hl 4 rfl) ?_
  refine lv_iload hx hb d_law_124 (lv_at hl 0 rfl) ?_
  refine lv_iconst (v := 2) hx hb d_law_126 (by decide) ?_
  refine lv_iadd hx hb d_law_127 ?_
  rw [show ((nI i) + 2 : Int32) = nI (i + 2) from nI_add _ 2]
  refine va_sld hx hb hX hbl hbA hS (vp_in_nI (by omega) (by omega)) d_law_128 ?_
  rw [show (xs (nI (i + 2)).toNatClampNeg : Int32) = xs (i + 2) from by rw [nI_clamp (by omega)]]
  refine lv_i2l (v := (xs (i + 2) : Int32).toInt64) hx hb d_law_129 rfl ?_
  refine lv_ldc2 (v := 4294967295) hx hb hown (hts _ (List.mem_cons_of_mem _ gk_1202)) d_law_130 ?_
  refine lv_land hx hb d_law_133 ?_
  refine lv_lor hx hb d_law_134 ?_
  rw [show ((((xs (i + 1) : Int32).toInt64 : Int64) <<< ((32 : Int32).toInt64 &&& 63)) ||| (((xs (i + 2) : Int32).toInt64) &&& 4294967295) : Int64) = x1 from hx1.symm]
  refine lv_aload_n hx hb d_law_135 rfl (lv_at hl 4 rfl) ?_
  refine lv_iload hx hb d_law_136 (lv_at hl 0 rfl) ?_
  refine lv_iconst (v := 3) hx hb d_law_138 (by decide) ?_
  refine lv_iadd hx hb d_law_139 ?_
  rw [show ((nI i) + 3 : Int32) = nI (i + 3) from nI_add _ 3]
  refine va_sld hx hb hX hbl hbA hS (vp_in_nI (by omega) (by omega)) d_law_140 ?_
  rw [show (xs (nI (i + 3)).toNatClampNeg : Int32) = xs (i + 3) from by rw [nI_clamp (by omega)]]
  refine lv_i2l (v := (xs (i + 3) : Int32).toInt64) hx hb d_law_141 rfl ?_
  refine lv_bipush (v := 32) hx hb d_law_142 (by decide) ?_
  refine lv_lshl (v := ((xs (i + 3) : Int32).toInt64 : Int64) <<< ((32 : Int32).toInt64 &&& 63)) hx hb d_law_144 rfl ?_
  refine lv_aload_n hx hb d_law_145 rfl (lv_at hl 4 rfl) ?_
  refine lv_iload hx hb d_law_146 (lv_at hl 0 rfl) ?_
  refine lv_iconst (v := 4) hx hb d_law_148 (by decide) ?_
  refine lv_iadd hx hb d_law_149 ?_
  rw [show ((nI i) + 4 : Int32) = nI (i + 4) from nI_add _ 4]
  refine va_sld hx hb hX hbl hbA hS (vp_in_nI (by omega) (by omega)) d_law_150 ?_
  rw [show (xs (nI (i + 4)).toNatClampNeg : Int32) = xs (i + 4) from by rw [nI_clamp (by omega)]]
  refine lv_i2l (v := (xs (i + 4) : Int32).toInt64) hx hb d_law_151 rfl ?_
  refine lv_ldc2 (v := 4294967295) hx hb hown (hts _ (List.mem_cons_of_mem _ gk_1202)) d_law_152 ?_
  refine lv_land hx hb d_law_155 ?_
  refine lv_lor hx hb d_law_156 ?_
  rw [show ((((xs (i + 3) : Int32).toInt64 : Int64) <<< ((32 : Int32).toInt64 &&& 63)) ||| (((xs (i + 4) : Int32).toInt64) &&& 4294967295) : Int64) = x2 from hx2.symm]
  refine lv_aload_n hx hb d_law_157 rfl (lv_at hl 4 rfl) ?_
  refine lv_iload hx hb d_law_158 (lv_at hl 0 rfl) ?_
  refine lv_iconst (v := 5) hx hb d_law_160 (by decide) ?_
  refine lv_iadd hx hb d_law_161 ?_
  rw [show ((nI i) + 5 : Int32) = nI (i + 5) from nI_add _ 5]
  refine va_sld hx hb hX hbl hbA hS (vp_in_nI (by omega) (by omega)) d_law_162 ?_
  rw [show (xs (nI (i + 5)).toNatClampNeg : Int32) = xs (i + 5) from by rw [nI_clamp (by omega)]]
  rw [show (xs (i + 5) : Int32) = x3 from hx3.symm]
  refine lv_aload_n hx hb d_law_163 rfl (lv_at hl 1 rfl) ?_
  have hPc := hP.sub (ws' := (jw_ws out cJ 1 of ++ (bb_ws b0 bd0 pr0 t0 au0 da (.ref g0) ++ (tt_ws t0 ka aa ba sa (.ref g0) cJ T ++ (bo_ws bd0 h0 ro lo n ++ au_ws au0 bd0 pr0 tu0 sd))))) [0, 1, 12, 13, 14, 15, 16, 3, 17] rfl
  have hDc := hD.sub (ws' := (jw_ws out cJ 1 of ++ (bb_ws b0 bd0 pr0 t0 au0 da (.ref g0) ++ (tt_ws t0 ka aa ba sa (.ref g0) cJ T ++ (bo_ws bd0 h0 ro lo n ++ au_ws au0 bd0 pr0 tu0 sd))))) [0, 1, 12, 13, 14, 15, 16, 3, 17] (by decide) rfl
  have hKc := hK.sub (tys' := [(cJ, .long), (cI, .int), (cR, .array .long)]) [0, 1, 2] rfl
  have hFc := va_free (wc := (jw_ws out cJ 1 of ++ (bb_ws b0 bd0 pr0 t0 au0 da (.ref g0) ++ (tt_ws t0 ka aa ba sa (.ref g0) cJ T ++ (bo_ws bd0 h0 ro lo n ++ au_ws au0 bd0 pr0 tu0 sd))))) hD hS hA [0, 1, 12, 13, 14, 15, 16, 3, 17] rfl
  have hZc0 : xz (va_A (jw_ws out cJ 1 of ++ (bb_ws b0 bd0 pr0 t0 au0 da (.ref g0) ++ (tt_ws t0 ka aa ba sa (.ref g0) cJ T ++ (bo_ws bd0 h0 ro lo n ++ au_ws au0 bd0 pr0 tu0 sd)))) H.size) s H := (hZx.kept hS.2.1).narrow hFc
  have hZc1 : nc_Z s := hZn
  have hZc2 : wi_Z wA (va_A (jw_ws out cJ 1 of ++ (bb_ws b0 bd0 pr0 t0 au0 da (.ref g0) ++ (tt_ws t0 ka aa ba sa (.ref g0) cJ T ++ (bo_ws bd0 h0 ro lo n ++ au_ws au0 bd0 pr0 tu0 sd)))) H.size) s H := (hZw.kept hS.2.1).narrow hFc
  refine vx_calli (vx_runSX (hh := h_Lw_begin) (As := [.ref b0, .long x1, .long x2, .int x3, .ref out]) (rest := []) ⟨hx, hb, hml, hown, hts⟩ (c_Lw_begin_1 l hnt dC dI cJ cI cR H.size b0 bd0 pr0 t0 au0 da (.ref g0) (.ref g0) ka aa ba sa T h0 ro lo n tu0 sd wA x1 x2 x3 out of hsd hC) (vx_cwSW 5 hts (gw_Sv gk_175 gk_176 gk_0 gk_177) rfl rfl rfl (by decide +kernel) ⟨(Nat.le_of_ble_eq_true rfl), (Nat.le_of_ble_eq_true rfl)⟩) ⟨fun a U g mk q => by obtain ⟨q0, q1, qP, qK, qD, qZ0, qZ1, qZ2⟩ := q; exact ⟨q0, q1, qP, va_K.moved (u := U) (U := U.calling g mk a) (Vm.Alike.refl U.vm) qK, qD, xz.same (u := U) (U := U.calling g mk a) rfl qZ0, nc_Z.moved (u := U) (U := U.calling g mk a) (Vm.Alike.refl U.vm) qZ1, wi_Z.moved (u := U) (U := U.calling g mk a) (Vm.Alike.refl U.vm) qZ2⟩, fun U hU hW => ⟨rfl, by rw [hU], by rw [hU]; exact hPc, va_K.moved hW.alike hKc, hDc.weaken (fun _ _ _ _ => trivial), by rw [hU]; exact xz.warm hW hZc0, nc_Z.moved hW.alike hZc1, by rw [hU]; exact wi_Z.moved hW.alike hZc2⟩⟩ rfl rfl hl.1 rfl (lv_room (Nat.le_of_ble_eq_true rfl)) d_law_164 ⟨show cells + 8 ≤ 601024 by omega, show slots + 48 ≤ 7293034 by omega⟩) hS (fun q _ h => hFc q h) hFc (fun q _ h => hFc q h) (fun E9 ce9 q9 u8 t9 H1 locs ht hvm hpx hbx hz1 hk1 hS hce hcv hcl => hpx.elim) (fun r_8 u9 t9 H1 locs ht hvm hw hB hz1 hk1 hS => ?_)
  obtain ⟨hP1, hK1, hD1⟩ := hB
  rw [ht] at hP1
  obtain ⟨hP, hD⟩ := va_joinQ (X := (jw_ws out cJ 1 of ++ (bb_ws b0 bd0 pr0 t0 au0 da (.ref g0) ++ (rw_ws da cJ (r8 d0 d1 d2 d3 d4 d5 d6 d7) ++ (bd_ws bd0 h0 ro lo n cR (rrf rb) (rrf lb) ++ (pr_ws pr0 h0 cm cJ ccf ++ (ha_ws h0 aw ax ay cJ cI w csc cst cL ++ (tt_ws t0 ka aa ba sa (.ref g0) cJ T ++ (au_ws au0 bd0 pr0 tu0 sd ++ (tt_ws tu0 uka uaa uba usa gu cJ T0 ++ (gp_ws g0 mF mE P f1 k1 Q f2 k2 G ++ (mo_ws m0 e0 (nI (t_tn T)) (nI n) (nI (t_bc T)) (lN P) (lN Q) (lN G) (lN (ckey (t_tn T) (t_kc T) (t_kp T))) (lN (t_pa T)) (lN (t_pb T)) (t_sht T) a0 a1 a2 a3 a4 a5 a6 a7 a8 a9 mb0 mb1 oc mb2 mb3 mb4 mb5 ++ (iw_ws a7 cI 256 bf ++ (iw_ws a8 cI 64 sc ++ (iw_ws a9 cI 8 st ++ (iw_ws mb0 cI 8 kS ++ (iw_ws mb1 cI 64 kR ++ (jw_ws a2 cJ 4 tf ++ (jw_ws a0 cJ 1232 nf ++ (jw_ws a1 cJ 616 cf ++ (iw_ws a4 cI 4 kf ++ (jw_ws mb2 cJ 4 ky ++ (jw_ws a3 cJ 16 lf ++ (iw_ws a5 cI 4 sf ++ (iw_ws a6 cI 64 vf ++ (jw_ws mb3 cJ 128 md ++ (jw_ws mb4 cJ 4 sh ++ iw_ws mb5 cI 64 ct))))))))))))))))))))))))))) (cx := (jw_ws out cJ 1 of ++ (bb_ws b0 bd0 pr0 t0 au0 da (.ref g0) ++ (tt_ws t0 ka aa ba sa (.ref g0) cJ T ++ (bo_ws bd0 h0 ro lo n ++ au_ws au0 bd0 pr0 tu0 sd))))) (wr := (rw_ws da cJ (r8 d0 d1 d2 d3 d4 d5 d6 d7) ++ ([(ro, .inl (cR, 154, .inr (.inr (.inr (.inr (rrf rb))))))] ++ ([(lo, .inl (cR, 154, .inr (.inr (.inr (.inr (rrf lb))))))] ++ (pr_ws pr0 h0 cm cJ ccf ++ (ha_ws h0 aw ax ay cJ cI w csc cst cL ++ (tt_ws tu0 uka uaa uba usa gu cJ T0 ++ (gp_ws g0 mF mE P f1 k1 Q f2 k2 G ++ (mo_ws m0 e0 (nI (t_tn T)) (nI n) (nI (t_bc T)) (lN P) (lN Q) (lN G) (lN (ckey (t_tn T) (t_kc T) (t_kp T))) (lN (t_pa T)) (lN (t_pb T)) (t_sht T) a0 a1 a2 a3 a4 a5 a6 a7 a8 a9 mb0 mb1 oc mb2 mb3 mb4 mb5 ++ (iw_ws a7 cI 256 bf ++ (iw_ws a8 cI 64 sc ++ (iw_ws a9 cI 8 st ++ (iw_ws mb0 cI 8 kS ++ (iw_ws mb1 cI 64 kR ++ (jw_ws a2 cJ 4 tf ++ (jw_ws a0 cJ 1232 nf ++ (jw_ws a1 cJ 616 cf ++ (iw_ws a4 cI 4 kf ++ (jw_ws mb2 cJ 4 ky ++ (jw_ws a3 cJ 16 lf ++ (iw_ws a5 cI 4 sf ++ (iw_ws a6 cI 64 vf ++ (jw_ws mb3 cJ 128 md ++ (jw_ws mb4 cJ 4 sh ++ iw_ws mb5 cI 64 ct)))))))))))))))))))))))) (w1 := (jw_ws out cJ 1 of ++ (bb_ws b0 bd0 pr0 t0 au0 da (.ref g0) ++ (tt_ws t0 ka aa ba sa (.ref g0) cJ T ++ (bo_ws bd0 h0 ro lo n ++ au_ws au0 bd0 pr0 tu0 sd))))) (pl := bpool rb lb cJ R Lk) hP hD [0, 1, 12, 13, 14, 15, 16, 3, 17] [2, 4, 5, 6, 7, 8, 9, 10, 11, 18, 19, 20, 21, 22, 23, 24, 25, 26, 27, 28, 29, 30, 31, 32, 33, 34, 35, 36, 37, 38, 39, 40, 41, 42] rfl rfl (by decide) (by decide) hk1 hFc hP1 hD1
  have hP := hP.part (cx := (jw_ws out cJ 1 of ++ (bb_ws b0 bd0 pr0 t0 au0 da (.ref g0) ++ (rw_ws da cJ (r8 d0 d1 d2 d3 d4 d5 d6 d7) ++ (bd_ws bd0 h0 ro lo n cR (rrf rb) (rrf lb) ++ (pr_ws pr0 h0 cm cJ ccf ++ (ha_ws h0 aw ax ay cJ cI w csc cst cL ++ (tt_ws t0 ka aa ba sa (.ref g0) cJ T ++ (au_ws au0 bd0 pr0 tu0 sd ++ (tt_ws tu0 uka uaa uba usa gu cJ T0 ++ (gp_ws g0 mF mE P f1 k1 Q f2 k2 G ++ (mo_ws m0 e0 (nI (t_tn T)) (nI n) (nI (t_bc T)) (lN P) (lN Q) (lN G) (lN (ckey (t_tn T) (t_kc T) (t_kp T))) (lN (t_pa T)) (lN (t_pb T)) (t_sht T) a0 a1 a2 a3 a4 a5 a6 a7 a8 a9 mb0 mb1 oc mb2 mb3 mb4 mb5 ++ (iw_ws a7 cI 256 bf ++ (iw_ws a8 cI 64 sc ++ (iw_ws a9 cI 8 st ++ (iw_ws mb0 cI 8 kS ++ (iw_ws mb1 cI 64 kR ++ (jw_ws a2 cJ 4 tf ++ (jw_ws a0 cJ 1232 nf ++ (jw_ws a1 cJ 616 cf ++ (iw_ws a4 cI 4 kf ++ (jw_ws mb2 cJ 4 ky ++ (jw_ws a3 cJ 16 lf ++ (iw_ws a5 cI 4 sf ++ (iw_ws a6 cI 64 vf ++ (jw_ws mb3 cJ 128 md ++ (jw_ws mb4 cJ 4 sh ++ iw_ws mb5 cI 64 ct))))))))))))))))))))))))))) [34, 35, 0, 41, 1, 2, 3, 4, 5, 6, 7, 8, 36, 37, 38, 39, 40, 42, 9, 10, 11, 12, 13, 14, 15, 16, 17, 18, 19, 20, 21, 22, 23, 24, 25, 26, 27, 28, 29, 30, 31, 32, 33] rfl
  have hD := hD.part (cx := (jw_ws out cJ 1 of ++ (bb_ws b0 bd0 pr0 t0 au0 da (.ref g0) ++ (rw_ws da cJ (r8 d0 d1 d2 d3 d4 d5 d6 d7) ++ (bd_ws bd0 h0 ro lo n cR (rrf rb) (rrf lb) ++ (pr_ws pr0 h0 cm cJ ccf ++ (ha_ws h0 aw ax ay cJ cI w csc cst cL ++ (tt_ws t0 ka aa ba sa (.ref g0) cJ T ++ (au_ws au0 bd0 pr0 tu0 sd ++ (tt_ws tu0 uka uaa uba usa gu cJ T0 ++ (gp_ws g0 mF mE P f1 k1 Q f2 k2 G ++ (mo_ws m0 e0 (nI (t_tn T)) (nI n) (nI (t_bc T)) (lN P) (lN Q) (lN G) (lN (ckey (t_tn T) (t_kc T) (t_kp T))) (lN (t_pa T)) (lN (t_pb T)) (t_sht T) a0 a1 a2 a3 a4 a5 a6 a7 a8 a9 mb0 mb1 oc mb2 mb3 mb4 mb5 ++ (iw_ws a7 cI 256 bf ++ (iw_ws a8 cI 64 sc ++ (iw_ws a9 cI 8 st ++ (iw_ws mb0 cI 8 kS ++ (iw_ws mb1 cI 64 kR ++ (jw_ws a2 cJ 4 tf ++ (jw_ws a0 cJ 1232 nf ++ (jw_ws a1 cJ 616 cf ++ (iw_ws a4 cI 4 kf ++ (jw_ws mb2 cJ 4 ky ++ (jw_ws a3 cJ 16 lf ++ (iw_ws a5 cI 4 sf ++ (iw_ws a6 cI 64 vf ++ (jw_ws mb3 cJ 128 md ++ (jw_ws mb4 cJ 4 sh ++ iw_ws mb5 cI 64 ct))))))))))))))))))))))))))) [34, 35, 0, 41, 1, 2, 3, 4, 5, 6, 7, 8, 36, 37, 38, 39, 40, 42, 9, 10, 11, 12, 13, 14, 15, 16, 17, 18, 19, 20, 21, 22, 23, 24, 25, 26, 27, 28, 29, 30, 31, 32, 33] (by decide) rfl
  generalize H1 = H at hP hS ⊢
  clear hPc hDc hFc hP1 hD1 hK1 ht hk1 hz1
  have hr9 : r_8 = 1 := hw
  subst hr9
  refine lv_istore (lv' := [(5, .int 1), (4, .int (nI i)), (3, .ref out), (2, .ref m0), (1, .ref b0), (0, .ref b)]) hx hb d_law_167 hl (by decide) rfl (fun ls hl => ?_)
  refine lv_aload_n hx hb d_law_169 rfl (lv_at hl 3 rfl) ?_
  refine lv_aload_n hx hb d_law_170 rfl (lv_at hl 5 rfl) ?_
  refine lv_iload hx hb d_law_171 (lv_at hl 1 rfl) ?_
  refine lv_iconst (v := 1) hx hb d_law_173 (by decide) ?_
  refine lv_iadd hx hb d_law_174 ?_
  rw [show ((nI i) + 1 : Int32) = nI (i + 1) from nI_add _ 1]
  refine va_sld hx hb hX hbl hbA hS (vp_in_nI (by omega) (by omega)) d_law_175 ?_
  rw [show (xs (nI (i + 1)).toNatClampNeg : Int32) = xs (i + 1) from by rw [nI_clamp (by omega)]]
  refine lv_i2l (v := (xs (i + 1) : Int32).toInt64) hx hb d_law_176 rfl ?_
  refine lv_bipush (v := 32) hx hb d_law_177 (by decide) ?_
  refine lv_lshl (v := ((xs (i + 1) : Int32).toInt64 : Int64) <<< ((32 : Int32).toInt64 &&& 63)) hx hb d_law_179 rfl ?_
  refine lv_aload_n hx hb d_law_180 rfl (lv_at hl 5 rfl) ?_
  refine lv_iload hx hb d_law_181 (lv_at hl 1 rfl) ?_
  refine lv_iconst (v := 2) hx hb d_law_183 (by decide) ?_
  refine lv_iadd hx hb d_law_184 ?_
  rw [show ((nI i) + 2 : Int32) = nI (i + 2) from nI_add _ 2]
  refine va_sld hx hb hX hbl hbA hS (vp_in_nI (by omega) (by omega)) d_law_185 ?_
  rw [show (xs (nI (i + 2)).toNatClampNeg : Int32) = xs (i + 2) from by rw [nI_clamp (by omega)]]
  refine lv_i2l (v := (xs (i + 2) : Int32).toInt64) hx hb d_law_186 rfl ?_
  refine lv_ldc2 (v := 4294967295) hx hb hown (hts _ (List.mem_cons_of_mem _ gk_1202)) d_law_187 ?_
  refine lv_land hx hb d_law_190 ?_
  refine lv_lor hx hb d_law_191 ?_
  rw [show ((((xs (i + 1) : Int32).toInt64 : Int64) <<< ((32 : Int32).toInt64 &&& 63)) ||| (((xs (i + 2) : Int32).toInt64) &&& 4294967295) : Int64) = x1 from hx1.symm]
  refine lv_aload_n hx hb d_law_192 rfl (lv_at hl 5 rfl) ?_
  refine lv_iload hx hb d_law_193 (lv_at hl 1 rfl) ?_
  refine lv_iconst (v := 3) hx hb d_law_195 (by decide) ?_
  refine lv_iadd hx hb d_law_196 ?_
  rw [show ((nI i) + 3 : Int32) = nI (i + 3) from nI_add _ 3]
  refine va_sld hx hb hX hbl hbA hS (vp_in_nI (by omega) (by omega)) d_law_197 ?_
  rw [show (xs (nI (i + 3)).toNatClampNeg : Int32) = xs (i + 3) from by rw [nI_clamp (by omega)]]
  refine lv_i2l (v := (xs (i + 3) : Int32).toInt64) hx hb d_law_198 rfl ?_
  refine lv_bipush (v := 32) hx hb d_law_199 (by decide) ?_
  refine lv_lshl (v := ((xs (i + 3) : Int32).toInt64 : Int64) <<< ((32 : Int32).toInt64 &&& 63)) hx hb d_law_201 rfl ?_
  refine lv_aload_n hx hb d_law_202 rfl (lv_at hl 5 rfl) ?_
  refine lv_iload hx hb d_law_203 (lv_at hl 1 rfl) ?_
  refine lv_iconst (v := 4) hx hb d_law_205 (by decide) ?_
  refine lv_iadd hx hb d_law_206 ?_
  rw [show ((nI i) + 4 : Int32) = nI (i + 4) from nI_add _ 4]
  refine va_sld hx hb hX hbl hbA hS (vp_in_nI (by omega) (by omega)) d_law_207 ?_
  rw [show (xs (nI (i + 4)).toNatClampNeg : Int32) = xs (i + 4) from by rw [nI_clamp (by omega)]]
  refine lv_i2l (v := (xs (i + 4) : Int32).toInt64) hx hb d_law_208 rfl ?_
  refine lv_ldc2 (v := 4294967295) hx hb hown (hts _ (List.mem_cons_of_mem _ gk_1202)) d_law_209 ?_
  refine lv_land hx hb d_law_212 ?_
  refine lv_lor hx hb d_law_213 ?_
  rw [show ((((xs (i + 3) : Int32).toInt64 : Int64) <<< ((32 : Int32).toInt64 &&& 63)) ||| (((xs (i + 4) : Int32).toInt64) &&& 4294967295) : Int64) = x2 from hx2.symm]
  refine lv_aload_n hx hb d_law_214 rfl (lv_at hl 5 rfl) ?_
  refine lv_iload hx hb d_law_215 (lv_at hl 1 rfl) ?_
  refine lv_iconst (v := 5) hx hb d_law_217 (by decide) ?_
  refine lv_iadd hx hb d_law_218 ?_
  rw [show ((nI i) + 5 : Int32) = nI (i + 5) from nI_add _ 5]
  refine va_sld hx hb hX hbl hbA hS (vp_in_nI (by omega) (by omega)) d_law_219 ?_
  rw [show (xs (nI (i + 5)).toNatClampNeg : Int32) = xs (i + 5) from by rw [nI_clamp (by omega)]]
  rw [show (xs (i + 5) : Int32) = x3 from hx3.symm]
  have hPc := hP.sub (ws' := (mo_ws m0 e0 (nI (t_tn T)) (nI n) (nI (t_bc T)) (lN P) (lN Q) (lN G) (lN (ckey (t_tn T) (t_kc T) (t_kp T))) (lN (t_pa T)) (lN (t_pb T)) (t_sht T) a0 a1 a2 a3 a4 a5 a6 a7 a8 a9 mb0 mb1 oc mb2 mb3 mb4 mb5 ++ (iw_ws a4 cI 4 kf ++ (iw_ws a5 cI 4 sf ++ iw_ws a6 cI 64 vf)))) [26, 35, 38, 39] rfl
  have hDc := hD.sub (ws' := (mo_ws m0 e0 (nI (t_tn T)) (nI n) (nI (t_bc T)) (lN P) (lN Q) (lN G) (lN (ckey (t_tn T) (t_kc T) (t_kp T))) (lN (t_pa T)) (lN (t_pb T)) (t_sht T) a0 a1 a2 a3 a4 a5 a6 a7 a8 a9 mb0 mb1 oc mb2 mb3 mb4 mb5 ++ (iw_ws a4 cI 4 kf ++ (iw_ws a5 cI 4 sf ++ iw_ws a6 cI 64 vf)))) [26, 35, 38, 39] (by decide) rfl
  have hKc := hK.sub (tys' := [(cJ, .long), (cI, .int)]) [0, 1] rfl
  have hFc := va_free (wc := (mo_ws m0 e0 (nI (t_tn T)) (nI n) (nI (t_bc T)) (lN P) (lN Q) (lN G) (lN (ckey (t_tn T) (t_kc T) (t_kp T))) (lN (t_pa T)) (lN (t_pb T)) (t_sht T) a0 a1 a2 a3 a4 a5 a6 a7 a8 a9 mb0 mb1 oc mb2 mb3 mb4 mb5 ++ (iw_ws a4 cI 4 kf ++ (iw_ws a5 cI 4 sf ++ iw_ws a6 cI 64 vf)))) hD hS hA [26, 35, 38, 39] rfl
  refine va_calll (va_runV (As := [.long x1, .long x2, .int x3]) (rest := []) ⟨hx, hb, hml, hown, hts⟩ (c_Bm_begin_1 l dC dI cJ cI H.size m0 e0 (nI (t_tn T)) (nI n) (nI (t_bc T)) (lN P) (lN Q) (lN G) (lN (ckey (t_tn T) (t_kc T) (t_kp T))) (lN (t_pa T)) (lN (t_pb T)) (t_sht T) a0 a1 a2 a3 a4 a5 a6 a7 a8 a9 mb0 mb1 oc mb2 mb3 mb4 mb5 kf sf vf x1 x2 x3 (fun q => hC (bg_iff.mpr q))) (cwV 3 hts (gw_V gk_1008 gk_1009 gk_1010 gk_7 gk_1011) rfl rfl rfl (by decide +kernel) ⟨(Nat.le_of_ble_eq_true rfl), (Nat.le_of_ble_eq_true rfl)⟩) ⟨fun a U g mk q => by obtain ⟨q0, q1, qP, qK, qD⟩ := q; exact ⟨q0, q1, qP, va_K.moved (u := U) (U := U.calling g mk a) (Vm.Alike.refl U.vm) qK, qD⟩, va_recv hK hP (ci := 8) (q0 := 26) rfl rfl, fun U hU hW => ⟨rfl, by rw [hU], by rw [hU]; exact hPc, va_K.moved hW.alike hKc, hDc.weaken (fun _ _ _ _ => trivial)⟩⟩ rfl rfl hl.1 rfl (lv_room (Nat.le_of_ble_eq_true rfl)) d_law_220 ⟨show cells + 8 + 0 ≤ 601024 by omega, show slots + 48 + 0 ≤ 7293034 by omega⟩) hS (fun q _ h => hFc q h) hFc (fun r_9 v9 t9 H1 locs ht hvm hw hB hz1 hk1 hS => ?_)
  obtain ⟨hP1, hK1, hD1⟩ := hB
  rw [ht] at hP1
  obtain ⟨hP, hD⟩ := va_joinQ (X := (jw_ws out cJ 1 of ++ (bb_ws b0 bd0 pr0 t0 au0 da (.ref g0) ++ (rw_ws da cJ (r8 d0 d1 d2 d3 d4 d5 d6 d7) ++ (bd_ws bd0 h0 ro lo n cR (rrf rb) (rrf lb) ++ (pr_ws pr0 h0 cm cJ ccf ++ (ha_ws h0 aw ax ay cJ cI w csc cst cL ++ (tt_ws t0 ka aa ba sa (.ref g0) cJ T ++ (au_ws au0 bd0 pr0 tu0 sd ++ (tt_ws tu0 uka uaa uba usa gu cJ T0 ++ (gp_ws g0 mF mE P f1 k1 Q f2 k2 G ++ (mo_ws m0 e0 (nI (t_tn T)) (nI n) (nI (t_bc T)) (lN P) (lN Q) (lN G) (lN (ckey (t_tn T) (t_kc T) (t_kp T))) (lN (t_pa T)) (lN (t_pb T)) (t_sht T) a0 a1 a2 a3 a4 a5 a6 a7 a8 a9 mb0 mb1 oc mb2 mb3 mb4 mb5 ++ (iw_ws a7 cI 256 bf ++ (iw_ws a8 cI 64 sc ++ (iw_ws a9 cI 8 st ++ (iw_ws mb0 cI 8 kS ++ (iw_ws mb1 cI 64 kR ++ (jw_ws a2 cJ 4 tf ++ (jw_ws a0 cJ 1232 nf ++ (jw_ws a1 cJ 616 cf ++ (iw_ws a4 cI 4 kf ++ (jw_ws mb2 cJ 4 ky ++ (jw_ws a3 cJ 16 lf ++ (iw_ws a5 cI 4 sf ++ (iw_ws a6 cI 64 vf ++ (jw_ws mb3 cJ 128 md ++ (jw_ws mb4 cJ 4 sh ++ iw_ws mb5 cI 64 ct))))))))))))))))))))))))))) (cx := (mo_ws m0 e0 (nI (t_tn T)) (nI n) (nI (t_bc T)) (lN P) (lN Q) (lN G) (lN (ckey (t_tn T) (t_kc T) (t_kp T))) (lN (t_pa T)) (lN (t_pb T)) (t_sht T) a0 a1 a2 a3 a4 a5 a6 a7 a8 a9 mb0 mb1 oc mb2 mb3 mb4 mb5 ++ (iw_ws a4 cI 4 kf ++ (iw_ws a5 cI 4 sf ++ iw_ws a6 cI 64 vf)))) (wr := (jw_ws out cJ 1 of ++ (bb_ws b0 bd0 pr0 t0 au0 da (.ref g0) ++ (rw_ws da cJ (r8 d0 d1 d2 d3 d4 d5 d6 d7) ++ (bd_ws bd0 h0 ro lo n cR (rrf rb) (rrf lb) ++ (pr_ws pr0 h0 cm cJ ccf ++ (ha_ws h0 aw ax ay cJ cI w csc cst cL ++ (tt_ws t0 ka aa ba sa (.ref g0) cJ T ++ (au_ws au0 bd0 pr0 tu0 sd ++ (tt_ws tu0 uka uaa uba usa gu cJ T0 ++ (gp_ws g0 mF mE P f1 k1 Q f2 k2 G ++ (iw_ws a7 cI 256 bf ++ (iw_ws a8 cI 64 sc ++ (iw_ws a9 cI 8 st ++ (iw_ws mb0 cI 8 kS ++ (iw_ws mb1 cI 64 kR ++ (jw_ws a2 cJ 4 tf ++ (jw_ws a0 cJ 1232 nf ++ (jw_ws a1 cJ 616 cf ++ (jw_ws mb2 cJ 4 ky ++ (jw_ws a3 cJ 16 lf ++ (jw_ws mb3 cJ 128 md ++ (jw_ws mb4 cJ 4 sh ++ iw_ws mb5 cI 64 ct))))))))))))))))))))))) (w1 := (mo_ws m0 1 (nI (t_tn T)) (nI n) (nI (t_bc T)) (lN P) (lN Q) (lN G) (lN (ckey (t_tn T) (t_kc T) (t_kp T))) (lN (t_pa T)) (lN (t_pb T)) (t_sht T) a0 a1 a2 a3 a4 a5 a6 a7 a8 a9 mb0 mb1 oc mb2 mb3 mb4 mb5 ++ (iw_ws a4 cI 4 kf ++ (iw_ws a5 cI 4 sf ++ iw_ws a6 cI 64 vf)))) (pl := bpool rb lb cJ R Lk) hP hD [26, 35, 38, 39] [0, 1, 2, 3, 4, 5, 6, 7, 8, 9, 10, 11, 12, 13, 14, 15, 16, 17, 18, 19, 20, 21, 22, 23, 24, 25, 27, 28, 29, 30, 31, 32, 33, 34, 36, 37, 40, 41, 42] rfl rfl (by decide) (by decide) hk1 hFc hP1 hD1
  have hP := hP.part (cx := (jw_ws out cJ 1 of ++ (bb_ws b0 bd0 pr0 t0 au0 da (.ref g0) ++ (rw_ws da cJ (r8 d0 d1 d2 d3 d4 d5 d6 d7) ++ (bd_ws bd0 h0 ro lo n cR (rrf rb) (rrf lb) ++ (pr_ws pr0 h0 cm cJ ccf ++ (ha_ws h0 aw ax ay cJ cI w csc cst cL ++ (tt_ws t0 ka aa ba sa (.ref g0) cJ T ++ (au_ws au0 bd0 pr0 tu0 sd ++ (tt_ws tu0 uka uaa uba usa gu cJ T0 ++ (gp_ws g0 mF mE P f1 k1 Q f2 k2 G ++ (mo_ws m0 1 (nI (t_tn T)) (nI n) (nI (t_bc T)) (lN P) (lN Q) (lN G) (lN (ckey (t_tn T) (t_kc T) (t_kp T))) (lN (t_pa T)) (lN (t_pb T)) (t_sht T) a0 a1 a2 a3 a4 a5 a6 a7 a8 a9 mb0 mb1 oc mb2 mb3 mb4 mb5 ++ (iw_ws a7 cI 256 bf ++ (iw_ws a8 cI 64 sc ++ (iw_ws a9 cI 8 st ++ (iw_ws mb0 cI 8 kS ++ (iw_ws mb1 cI 64 kR ++ (jw_ws a2 cJ 4 tf ++ (jw_ws a0 cJ 1232 nf ++ (jw_ws a1 cJ 616 cf ++ (iw_ws a4 cI 4 kf ++ (jw_ws mb2 cJ 4 ky ++ (jw_ws a3 cJ 16 lf ++ (iw_ws a5 cI 4 sf ++ (iw_ws a6 cI 64 vf ++ (jw_ws mb3 cJ 128 md ++ (jw_ws mb4 cJ 4 sh ++ iw_ws mb5 cI 64 ct))))))))))))))))))))))))))) [0, 1, 2, 3, 4, 5, 6, 7, 8, 9, 10, 11, 12, 13, 14, 15, 16, 17, 18, 19, 20, 21, 22, 23, 24, 25, 39, 26, 27, 28, 29, 30, 31, 32, 33, 40, 34, 35, 41, 42, 36, 37, 38] rfl
  have hD := hD.part (cx := (jw_ws out cJ 1 of ++ (bb_ws b0 bd0 pr0 t0 au0 da (.ref g0) ++ (rw_ws da cJ (r8 d0 d1 d2 d3 d4 d5 d6 d7) ++ (bd_ws bd0 h0 ro lo n cR (rrf rb) (rrf lb) ++ (pr_ws pr0 h0 cm cJ ccf ++ (ha_ws h0 aw ax ay cJ cI w csc cst cL ++ (tt_ws t0 ka aa ba sa (.ref g0) cJ T ++ (au_ws au0 bd0 pr0 tu0 sd ++ (tt_ws tu0 uka uaa uba usa gu cJ T0 ++ (gp_ws g0 mF mE P f1 k1 Q f2 k2 G ++ (mo_ws m0 1 (nI (t_tn T)) (nI n) (nI (t_bc T)) (lN P) (lN Q) (lN G) (lN (ckey (t_tn T) (t_kc T) (t_kp T))) (lN (t_pa T)) (lN (t_pb T)) (t_sht T) a0 a1 a2 a3 a4 a5 a6 a7 a8 a9 mb0 mb1 oc mb2 mb3 mb4 mb5 ++ (iw_ws a7 cI 256 bf ++ (iw_ws a8 cI 64 sc ++ (iw_ws a9 cI 8 st ++ (iw_ws mb0 cI 8 kS ++ (iw_ws mb1 cI 64 kR ++ (jw_ws a2 cJ 4 tf ++ (jw_ws a0 cJ 1232 nf ++ (jw_ws a1 cJ 616 cf ++ (iw_ws a4 cI 4 kf ++ (jw_ws mb2 cJ 4 ky ++ (jw_ws a3 cJ 16 lf ++ (iw_ws a5 cI 4 sf ++ (iw_ws a6 cI 64 vf ++ (jw_ws mb3 cJ 128 md ++ (jw_ws mb4 cJ 4 sh ++ iw_ws mb5 cI 64 ct))))))))))))))))))))))))))) [0, 1, 2, 3, 4, 5, 6, 7, 8, 9, 10, 11, 12, 13, 14, 15, 16, 17, 18, 19, 20, 21, 22, 23, 24, 25, 39, 26, 27, 28, 29, 30, 31, 32, 33, 40, 34, 35, 41, 42, 36, 37, 38] (by decide) rfl
  generalize H1 = H at hP hS ⊢
  clear hPc hDc hFc hP1 hD1 hK1 ht hk1 hz1
  refine lv_lstore (lv' := [(6, .long r_9), (5, .int 1), (4, .int (nI i)), (3, .ref out), (2, .ref m0), (1, .ref b0), (0, .ref b)]) hx hb d_law_223 hl (by decide) rfl (fun ls hl => ?_)
  refine lv_aload_n hx hb d_law_225 rfl (lv_at hl 4 rfl) ?_
  have hPc := hP.sub (ws' := (mo_ws m0 1 (nI (t_tn T)) (nI n) (nI (t_bc T)) (lN P) (lN Q) (lN G) (lN (ckey (t_tn T) (t_kc T) (t_kp T))) (lN (t_pa T)) (lN (t_pb T)) (t_sht T) a0 a1 a2 a3 a4 a5 a6 a7 a8 a9 mb0 mb1 oc mb2 mb3 mb4 mb5)) [26] rfl
  have hKc := hK.sub (tys' := [(cJ, .long), (cI, .int)]) [0, 1] rfl
  refine va_calli (va_runV (As := []) (rest := []) ⟨hx, hb, hml, hown, hts⟩ (c_Bm_thrown l H dC dI cJ cI m0 1 (nI (t_tn T)) (nI n) (nI (t_bc T)) (lN P) (lN Q) (lN G) (lN (ckey (t_tn T) (t_kc T) (t_kp T))) (lN (t_pa T)) (lN (t_pb T)) (t_sht T) a0 a1 a2 a3 a4 a5 a6 a7 a8 a9 mb0 mb1 oc mb2 mb3 mb4 mb5 hPc) (cwV 0 hts (gw_V gk_1004 gk_1005 gk_1006 gk_7 gk_1007) rfl rfl rfl (by decide +kernel) ⟨(Nat.le_of_ble_eq_true rfl), (Nat.le_of_ble_eq_true rfl)⟩) ⟨fun a U g mk q => ⟨q.1, q.2.1, va_K.moved (u := U) (U := U.calling g mk a) (Vm.Alike.refl U.vm) q.2.2⟩, va_recv hK hP (ci := 8) (q0 := 26) rfl rfl, fun U hU hW => ⟨rfl, hU, va_K.moved hW.alike hKc⟩⟩ rfl rfl hl.1 rfl (lv_room (Nat.le_of_ble_eq_true rfl)) d_law_226 ⟨show cells + 8 + 0 + 0 ≤ 601024 by omega, show slots + 48 + 0 + 0 ≤ 7293034 by omega⟩) hS (fun q _ h => h.elim) (fun q h => h.elim) (fun r_10 w9 t9 H1 locs ht hvm hw9 hB hz1 hk1 hS => ?_)
  obtain rfl : H = H1 := hB.symm.trans ht
  have hw9 : r_10 = 1 := hw9
  subst hw9
  clear hPc hz1 hk1 hB
  refine lv_iload hx hb d_law_229 (lv_at hl 1 rfl) ?_
  refine lv_icmp_eq (tgt := 236) hx hb d_law_231 (by decide) (fun c_11 => ?_) (fun c_11 => ?_)
  · -- taken
    refine lv_iload hx hb d_law_236 (lv_at hl 1 rfl) ?_
    refine lv_if_ne (tgt := 252) hx hb d_law_238 (by decide) (fun c_12 => ?_) (fun c_12 => ?_)
    · -- taken
      refine lv_goto (tgt := 1965) hx hb d_law_252 (by decide) ?_
      refine W.widen (k := cells + 20) (n := slots + 200) (by omega) (by omega) ?_
      have hI9 : LI dC dI cJ cI cR A out b0 m0 H := LG.mk hP hD hR
      exact cont _ _ _ hS hI9 (lv_sub hl [2, 3, 4, 5, 6] rfl)
    · -- not taken
      exact absurd c_12 (by decide)
  · -- not taken
    exact absurd c_11 (by decide)
set_option maxHeartbeats 16000000 in
set_option maxRecDepth 100000 in
theorem bk_begin_f {p : Program} {l : Launch} {e : Env} {s : State} {m : MethodId} {below : List Frame} {meth : Method} {c : Code} {b L : Nat} {xs : Nat → Int32} {dC : Nat → ClassId} {dI : Nat → Nat → Nat} {cJ cI cR : ClassId} {A : Nat → Prop} {out b0 m0 : Nat} {rA sA wA : Nat} (C : LC p l s m meth c b L xs dC dI cJ cI cR A rA sA wA) {i cells slots : Nat} (hi : i + 14 ≤ L) (hcs : cells + 20 ≤ 601024 ∧ slots + 200 ≤ 7293034) (cont : LK p l e s m below meth c b dC dI cJ cI cR A out b0 m0 i (cells + 20) (slots + 200) 1965) {H : Heap} {locs : List Loc} {ls : Array Slot} (hS : va_S A s.heap H locs) (hI : LF dC dI cJ cI cR A out b0 m0 H) (hl : lv_has ls 8 [(4, .int (nI i)), (3, .ref out), (2, .ref m0), (1, .ref b0), (0, .ref b)]) : W p l e room_1 s m #[Value.ref b] below meth c H locs cells slots (lw_Z below #[Value.ref b] s) (F0 m 112 ls []) := by
  obtain ⟨hnt, ⟨hx, hb, hr, hml, hown, hts0, hX, hbl, hlocks, hgv⟩, hK, hA, hbA, hZha, hZx, hZn, hZw, hL⟩ := C
  have hown : s.vm.findClass "BallotBoardLaw" = some m.cls := hown
  have hts := lw_hts hts0
  refine hI _ (fun bd0 pr0 t0 au0 da h0 ro lo rb lb cm aw ax ay ka aa ba sa tu0 uka uaa uba usa a0 a1 a2 a3 a4 a5 a6 a7 a8 a9 mb0 mb1 oc mb2 mb3 mb4 mb5 cL of w tf nf cf ky lf md sh ccf csc cst bf sc st kf sf vf ct gu d0 d1 d2 d3 d4 d5 d6 d7 e0 R Lk hP hD => ?_)
  obtain ⟨x3, hx3⟩ : ∃ v, v = xs (i + 5) := ⟨_, rfl⟩
  obtain ⟨x1, hx1⟩ : ∃ v, v = jl (xs (i + 1)) (xs (i + 2)) := ⟨_, rfl⟩
  obtain ⟨x2, hx2⟩ : ∃ v, v = jl (xs (i + 3)) (xs (i + 4)) := ⟨_, rfl⟩
  by_cases hC : bgC x1 x2 x3
  · -- it holds
    refine lv_aload_n hx hb d_law_112 rfl (lv_at hl 3 rfl) ?_
    refine lv_aload_n hx hb d_law_113 rfl (lv_at hl 4 rfl) ?_
    refine lv_iload hx hb d_law_114 (lv_at hl 0 rfl) ?_
    refine lv_iconst (v := 1) hx hb d_law_116 (by decide) ?_
    refine lv_iadd hx hb d_law_117 ?_
    rw [show ((nI i) + 1 : Int32) = nI (i + 1) from nI_add _ 1]
    refine va_sld hx hb hX hbl hbA hS (vp_in_nI (by omega) (by omega)) d_law_118 ?_
    rw [show (xs (nI (i + 1)).toNatClampNeg : Int32) = xs (i + 1) from by rw [nI_clamp (by omega)]]
    refine lv_i2l (v := (xs (i + 1) : Int32).toInt64) hx hb d_law_119 rfl ?_
    refine lv_bipush (v := 32) hx hb d_law_120 (by decide) ?_
    refine lv_lshl (v := ((xs (i + 1) : Int32).toInt64 : Int64) <<< ((32 : Int32).toInt64 &&& 63)) hx hb d_law_122 rfl ?_
    refine lv_aload_n hx hb d_law_123 rfl (lv_at hl 4 rfl) ?_
    refine lv_iload hx hb d_law_124 (lv_at hl 0 rfl) ?_
    refine lv_iconst (v := 2) hx hb d_law_126 (by decide) ?_
    refine lv_iadd hx hb d_law_127 ?_
    rw [show ((nI i) + 2 : Int32) = nI (i + 2) from nI_add _ 2]
    refine va_sld hx hb hX hbl hbA hS (vp_in_nI (by omega) (by omega)) d_law_128 ?_
    rw [show (xs (nI (i + 2)).toNatClampNeg : Int32) = xs (i + 2) from by rw [nI_clamp (by omega)]]
    refine lv_i2l (v := (xs (i + 2) : Int32).toInt64) hx hb d_law_129 rfl ?_
    refine lv_ldc2 (v := 4294967295) hx hb hown (hts _ (List.mem_cons_of_mem _ gk_1202)) d_law_130 ?_
    refine lv_land hx hb d_law_133 ?_
    refine lv_lor hx hb d_law_134 ?_
    rw [show ((((xs (i + 1) : Int32).toInt64 : Int64) <<< ((32 : Int32).toInt64 &&& 63)) ||| (((xs (i + 2) : Int32).toInt64) &&& 4294967295) : Int64) = x1 from hx1.symm]
    refine lv_aload_n hx hb d_law_135 rfl (lv_at hl 4 rfl) ?_
    refine lv_iload hx hb d_law_136 (lv_at hl 0 rfl) ?_
    refine lv_iconst (v := 3) hx hb d_law_138 (by decide) ?_
    refine lv_iadd hx hb d_law_139 ?_
    rw [show ((nI i) + 3 : Int32) = nI (i + 3) from nI_add _ 3]
    refine va_sld hx hb hX hbl hbA hS (vp_in_nI (by omega) (by omega)) d_law_140 ?_
    rw [show (xs (nI (i + 3)).toNatClampNeg : Int32) = xs (i + 3) from by rw [nI_clamp (by omega)]]
    refine lv_i2l (v := (xs (i + 3) : Int32).toInt64) hx hb d_law_141 rfl ?_
    refine lv_bipush (v := 32) hx hb d_law_142 (by decide) ?_
    refine lv_lshl (v := ((xs (i + 3) : Int32).toInt64 : Int64) <<< ((32 : Int32).toInt64 &&& 63)) hx hb d_law_144 rfl ?_
    refine lv_aload_n hx hb d_law_145 rfl (lv_at hl 4 rfl) ?_
    refine lv_iload hx hb d_law_146 (lv_at hl 0 rfl) ?_
    refine lv_iconst (v := 4) hx hb d_law_148 (by decide) ?_
    refine lv_iadd hx hb d_law_149 ?_
    rw [show ((nI i) + 4 : Int32) = nI (i + 4) from nI_add _ 4]
    refine va_sld hx hb hX hbl hbA hS (vp_in_nI (by omega) (by omega)) d_law_150 ?_
    rw [show (xs (nI (i + 4)).toNatClampNeg : Int32) = xs (i + 4) from by rw [nI_clamp (by omega)]]
    refine lv_i2l (v := (xs (i + 4) : Int32).toInt64) hx hb d_law_151 rfl ?_
    refine lv_ldc2 (v := 4294967295) hx hb hown (hts _ (List.mem_cons_of_mem _ gk_1202)) d_law_152 ?_
    refine lv_land hx hb d_law_155 ?_
    refine lv_lor hx hb d_law_156 ?_
    rw [show ((((xs (i + 3) : Int32).toInt64 : Int64) <<< ((32 : Int32).toInt64 &&& 63)) ||| (((xs (i + 4) : Int32).toInt64) &&& 4294967295) : Int64) = x2 from hx2.symm]
    refine lv_aload_n hx hb d_law_157 rfl (lv_at hl 4 rfl) ?_
    refine lv_iload hx hb d_law_158 (lv_at hl 0 rfl) ?_
    refine lv_iconst (v := 5) hx hb d_law_160 (by decide) ?_
    refine lv_iadd hx hb d_law_161 ?_
    rw [show ((nI i) + 5 : Int32) = nI (i + 5) from nI_add _ 5]
    refine va_sld hx hb hX hbl hbA hS (vp_in_nI (by omega) (by omega)) d_law_162 ?_
    rw [show (xs (nI (i + 5)).toNatClampNeg : Int32) = xs (i + 5) from by rw [nI_clamp (by omega)]]
    rw [show (xs (i + 5) : Int32) = x3 from hx3.symm]
    refine lv_aload_n hx hb d_law_163 rfl (lv_at hl 1 rfl) ?_
    have hPc := hP.sub (ws' := (jw_ws out cJ 1 of ++ (bb_ws b0 bd0 pr0 t0 au0 da .null ++ (tt_ws t0 ka aa ba sa .null cJ tZ ++ (bo_ws bd0 h0 ro lo 0 ++ au_ws au0 bd0 pr0 tu0 0))))) [0, 1, 12, 13, 14, 15, 16, 3, 17] rfl
    have hDc := hD.sub (ws' := (jw_ws out cJ 1 of ++ (bb_ws b0 bd0 pr0 t0 au0 da .null ++ (tt_ws t0 ka aa ba sa .null cJ tZ ++ (bo_ws bd0 h0 ro lo 0 ++ au_ws au0 bd0 pr0 tu0 0))))) [0, 1, 12, 13, 14, 15, 16, 3, 17] (by decide) rfl
    have hKc := hK.sub (tys' := [(cJ, .long), (cI, .int), (cR, .array .long)]) [0, 1, 2] rfl
    have hFc := va_free (wc := (jw_ws out cJ 1 of ++ (bb_ws b0 bd0 pr0 t0 au0 da .null ++ (tt_ws t0 ka aa ba sa .null cJ tZ ++ (bo_ws bd0 h0 ro lo 0 ++ au_ws au0 bd0 pr0 tu0 0))))) hD hS hA [0, 1, 12, 13, 14, 15, 16, 3, 17] rfl
    have hZc0 : xz (va_A (jw_ws out cJ 1 of ++ (bb_ws b0 bd0 pr0 t0 au0 da .null ++ (tt_ws t0 ka aa ba sa .null cJ tZ ++ (bo_ws bd0 h0 ro lo 0 ++ au_ws au0 bd0 pr0 tu0 0)))) H.size) s H := (hZx.kept hS.2.1).narrow hFc
    have hZc1 : nc_Z s := hZn
    have hZc2 : wi_Z wA (va_A (jw_ws out cJ 1 of ++ (bb_ws b0 bd0 pr0 t0 au0 da .null ++ (tt_ws t0 ka aa ba sa .null cJ tZ ++ (bo_ws bd0 h0 ro lo 0 ++ au_ws au0 bd0 pr0 tu0 0)))) H.size) s H := (hZw.kept hS.2.1).narrow hFc
    refine vx_calli (vx_runSX (hh := h_Lw_begin) (As := [.ref b0, .long x1, .long x2, .int x3, .ref out]) (rest := []) ⟨hx, hb, hml, hown, hts⟩ (c_Lw_begin_0 l hnt dC dI cJ cI cR H.size b0 bd0 pr0 t0 au0 da .null .null ka aa ba sa tZ h0 ro lo 0 tu0 0 wA x1 x2 x3 out of (Nat.zero_le _) hC) (vx_cwSW 5 hts (gw_Sv gk_175 gk_176 gk_0 gk_177) rfl rfl rfl (by decide +kernel) ⟨(Nat.le_of_ble_eq_true rfl), (Nat.le_of_ble_eq_true rfl)⟩) ⟨fun a U g mk q => by obtain ⟨q0, q1, qP, qK, qD, qZ0, qZ1, qZ2⟩ := q; exact ⟨q0, q1, qP, va_K.moved (u := U) (U := U.calling g mk a) (Vm.Alike.refl U.vm) qK, qD, xz.same (u := U) (U := U.calling g mk a) rfl qZ0, nc_Z.moved (u := U) (U := U.calling g mk a) (Vm.Alike.refl U.vm) qZ1, wi_Z.moved (u := U) (U := U.calling g mk a) (Vm.Alike.refl U.vm) qZ2⟩, fun U hU hW => ⟨rfl, by rw [hU], by rw [hU]; exact hPc, va_K.moved hW.alike hKc, hDc.weaken (fun _ _ _ _ => trivial), by rw [hU]; exact xz.warm hW hZc0, nc_Z.moved hW.alike hZc1, by rw [hU]; exact wi_Z.moved hW.alike hZc2⟩⟩ rfl rfl hl.1 rfl (lv_room (Nat.le_of_ble_eq_true rfl)) d_law_164 ⟨show cells + 8 ≤ 601024 by omega, show slots + 48 ≤ 7293034 by omega⟩) hS (fun q _ h => hFc q h) hFc (fun q _ h => hFc q h) (fun E9 ce9 q9 u8 t9 H1 locs ht hvm hpx hbx hz1 hk1 hS hce hcv hcl => hpx.elim) (fun r_1 u9 t9 H1 locs ht hvm hw hB hz1 hk1 hS => ?_)
    obtain ⟨hP1, hK1, hD1⟩ := hB
    rw [ht] at hP1
    obtain ⟨hP, hD⟩ := va_joinQ (X := (jw_ws out cJ 1 of ++ (bb_ws b0 bd0 pr0 t0 au0 da .null ++ (rw_ws da cJ (r8 d0 d1 d2 d3 d4 d5 d6 d7) ++ (bd_ws bd0 h0 ro lo 0 cR (rrf rb) (rrf lb) ++ (pr_ws pr0 h0 cm cJ ccf ++ (ha_ws h0 aw ax ay cJ cI w csc cst cL ++ (tt_ws t0 ka aa ba sa .null cJ tZ ++ (au_ws au0 bd0 pr0 tu0 0 ++ (tt_ws tu0 uka uaa uba usa gu cJ tZ ++ (mo_ws m0 e0 0 0 0 0 0 0 0 0 0 0 a0 a1 a2 a3 a4 a5 a6 a7 a8 a9 mb0 mb1 oc mb2 mb3 mb4 mb5 ++ (iw_ws a7 cI 256 bf ++ (iw_ws a8 cI 64 sc ++ (iw_ws a9 cI 8 st ++ (iw_ws mb0 cI 8 kS ++ (iw_ws mb1 cI 64 kR ++ (jw_ws a2 cJ 4 tf ++ (jw_ws a0 cJ 1232 nf ++ (jw_ws a1 cJ 616 cf ++ (iw_ws a4 cI 4 kf ++ (jw_ws mb2 cJ 4 ky ++ (jw_ws a3 cJ 16 lf ++ (iw_ws a5 cI 4 sf ++ (iw_ws a6 cI 64 vf ++ (jw_ws mb3 cJ 128 md ++ (jw_ws mb4 cJ 4 sh ++ iw_ws mb5 cI 64 ct)))))))))))))))))))))))))) (cx := (jw_ws out cJ 1 of ++ (bb_ws b0 bd0 pr0 t0 au0 da .null ++ (tt_ws t0 ka aa ba sa .null cJ tZ ++ (bo_ws bd0 h0 ro lo 0 ++ au_ws au0 bd0 pr0 tu0 0))))) (wr := (rw_ws da cJ (r8 d0 d1 d2 d3 d4 d5 d6 d7) ++ ([(ro, .inl (cR, 154, .inr (.inr (.inr (.inr (rrf rb))))))] ++ ([(lo, .inl (cR, 154, .inr (.inr (.inr (.inr (rrf lb))))))] ++ (pr_ws pr0 h0 cm cJ ccf ++ (ha_ws h0 aw ax ay cJ cI w csc cst cL ++ (tt_ws tu0 uka uaa uba usa gu cJ tZ ++ (mo_ws m0 e0 0 0 0 0 0 0 0 0 0 0 a0 a1 a2 a3 a4 a5 a6 a7 a8 a9 mb0 mb1 oc mb2 mb3 mb4 mb5 ++ (iw_ws a7 cI 256 bf ++ (iw_ws a8 cI 64 sc ++ (iw_ws a9 cI 8 st ++ (iw_ws mb0 cI 8 kS ++ (iw_ws mb1 cI 64 kR ++ (jw_ws a2 cJ 4 tf ++ (jw_ws a0 cJ 1232 nf ++ (jw_ws a1 cJ 616 cf ++ (iw_ws a4 cI 4 kf ++ (jw_ws mb2 cJ 4 ky ++ (jw_ws a3 cJ 16 lf ++ (iw_ws a5 cI 4 sf ++ (iw_ws a6 cI 64 vf ++ (jw_ws mb3 cJ 128 md ++ (jw_ws mb4 cJ 4 sh ++ iw_ws mb5 cI 64 ct))))))))))))))))))))))) (w1 := (jw_ws out cJ 1 (vp_updL of 0 (lN u9.1.2.2.2.2.2.2.1)) ++ (bb_ws b0 bd0 pr0 t0 au0 da (.ref u9.1.1) ++ (tt_ws t0 ka aa ba sa (.ref u9.1.1) cJ (tStart u9.2 tZ) ++ (bo_ws bd0 h0 ro lo 0 ++ (au_ws au0 bd0 pr0 tu0 (min 0 0) ++ gp_ws u9.1.1 u9.1.2.1 u9.1.2.2.1 u9.1.2.2.2.1 u9.1.2.2.2.2.1 u9.1.2.2.2.2.2.1 u9.1.2.2.2.2.2.2.1 u9.1.2.2.2.2.2.2.2.1 u9.1.2.2.2.2.2.2.2.2.1 u9.1.2.2.2.2.2.2.2.2.2)))))) (pl := bpool rb lb cJ R Lk) hP hD [0, 1, 12, 13, 14, 15, 16, 3, 17] [2, 4, 5, 6, 7, 8, 9, 10, 11, 18, 19, 20, 21, 22, 23, 24, 25, 26, 27, 28, 29, 30, 31, 32, 33, 34, 35, 36, 37, 38, 39] rfl rfl (by decide) (by decide) hk1 hFc hP1 hD1
    have hP := hP.part (cx := (jw_ws out cJ 1 (vp_updL of 0 (lN u9.1.2.2.2.2.2.2.1)) ++ (bb_ws b0 bd0 pr0 t0 au0 da (.ref u9.1.1) ++ (rw_ws da cJ (r8 d0 d1 d2 d3 d4 d5 d6 d7) ++ (bd_ws bd0 h0 ro lo 0 cR (rrf rb) (rrf lb) ++ (pr_ws pr0 h0 cm cJ ccf ++ (ha_ws h0 aw ax ay cJ cI w csc cst cL ++ (tt_ws t0 ka aa ba sa (.ref u9.1.1) cJ (tStart u9.2 tZ) ++ (au_ws au0 bd0 pr0 tu0 (min 0 0) ++ (tt_ws tu0 uka uaa uba usa gu cJ tZ ++ (gp_ws u9.1.1 u9.1.2.1 u9.1.2.2.1 u9.1.2.2.2.1 u9.1.2.2.2.2.1 u9.1.2.2.2.2.2.1 u9.1.2.2.2.2.2.2.1 u9.1.2.2.2.2.2.2.2.1 u9.1.2.2.2.2.2.2.2.2.1 u9.1.2.2.2.2.2.2.2.2.2 ++ (mo_ws m0 e0 0 0 0 0 0 0 0 0 0 0 a0 a1 a2 a3 a4 a5 a6 a7 a8 a9 mb0 mb1 oc mb2 mb3 mb4 mb5 ++ (iw_ws a7 cI 256 bf ++ (iw_ws a8 cI 64 sc ++ (iw_ws a9 cI 8 st ++ (iw_ws mb0 cI 8 kS ++ (iw_ws mb1 cI 64 kR ++ (jw_ws a2 cJ 4 tf ++ (jw_ws a0 cJ 1232 nf ++ (jw_ws a1 cJ 616 cf ++ (iw_ws a4 cI 4 kf ++ (jw_ws mb2 cJ 4 ky ++ (jw_ws a3 cJ 16 lf ++ (iw_ws a5 cI 4 sf ++ (iw_ws a6 cI 64 vf ++ (jw_ws mb3 cJ 128 md ++ (jw_ws mb4 cJ 4 sh ++ iw_ws mb5 cI 64 ct))))))))))))))))))))))))))) [31, 32, 0, 38, 1, 2, 3, 4, 5, 6, 7, 8, 33, 34, 35, 36, 37, 39, 9, 10, 11, 12, 13, 40, 41, 42, 14, 15, 16, 17, 18, 19, 20, 21, 22, 23, 24, 25, 26, 27, 28, 29, 30] rfl
    have hD := hD.part (cx := (jw_ws out cJ 1 (vp_updL of 0 (lN u9.1.2.2.2.2.2.2.1)) ++ (bb_ws b0 bd0 pr0 t0 au0 da (.ref u9.1.1) ++ (rw_ws da cJ (r8 d0 d1 d2 d3 d4 d5 d6 d7) ++ (bd_ws bd0 h0 ro lo 0 cR (rrf rb) (rrf lb) ++ (pr_ws pr0 h0 cm cJ ccf ++ (ha_ws h0 aw ax ay cJ cI w csc cst cL ++ (tt_ws t0 ka aa ba sa (.ref u9.1.1) cJ (tStart u9.2 tZ) ++ (au_ws au0 bd0 pr0 tu0 (min 0 0) ++ (tt_ws tu0 uka uaa uba usa gu cJ tZ ++ (gp_ws u9.1.1 u9.1.2.1 u9.1.2.2.1 u9.1.2.2.2.1 u9.1.2.2.2.2.1 u9.1.2.2.2.2.2.1 u9.1.2.2.2.2.2.2.1 u9.1.2.2.2.2.2.2.2.1 u9.1.2.2.2.2.2.2.2.2.1 u9.1.2.2.2.2.2.2.2.2.2 ++ (mo_ws m0 e0 0 0 0 0 0 0 0 0 0 0 a0 a1 a2 a3 a4 a5 a6 a7 a8 a9 mb0 mb1 oc mb2 mb3 mb4 mb5 ++ (iw_ws a7 cI 256 bf ++ (iw_ws a8 cI 64 sc ++ (iw_ws a9 cI 8 st ++ (iw_ws mb0 cI 8 kS ++ (iw_ws mb1 cI 64 kR ++ (jw_ws a2 cJ 4 tf ++ (jw_ws a0 cJ 1232 nf ++ (jw_ws a1 cJ 616 cf ++ (iw_ws a4 cI 4 kf ++ (jw_ws mb2 cJ 4 ky ++ (jw_ws a3 cJ 16 lf ++ (iw_ws a5 cI 4 sf ++ (iw_ws a6 cI 64 vf ++ (jw_ws mb3 cJ 128 md ++ (jw_ws mb4 cJ 4 sh ++ iw_ws mb5 cI 64 ct))))))))))))))))))))))))))) [31, 32, 0, 38, 1, 2, 3, 4, 5, 6, 7, 8, 33, 34, 35, 36, 37, 39, 9, 10, 11, 12, 13, 40, 41, 42, 14, 15, 16, 17, 18, 19, 20, 21, 22, 23, 24, 25, 26, 27, 28, 29, 30] (by decide) rfl
    generalize H1 = H at hP hS ⊢
    clear hPc hDc hFc hP1 hD1 hK1 ht hk1 hz1
    have hr9 : r_1 = 0 := hw.1
    subst hr9
    have hw := hw.2
    obtain ⟨ex1, ex2, ex3, hN1, hN4, hgo⟩ := hw
    obtain ⟨P2, G2, N2, e1, e2, e3, h7, h61, hr1, hr2, ⟨h1, h2⟩, hg2, hgp, hgq⟩ := bg_iff.mp hC
    have b1 := hgo.1.2.2.1
    have b2 := hgo.2.2.2.2.1
    have b3 := hgo.2.2.1
    have eP : P2 = u9.1.2.2.2.1 := (vN_of e1 (by omega)).symm.trans (vN_of ex1 (by omega))
    have eG : G2 = u9.1.2.2.2.2.2.2.2.2.2 := (vN_of e2 (by omega)).symm.trans (vN_of ex2 (by omega))
    have eN : N2 = u9.2 := nI_inj (by omega) (by omega) (e3.symm.trans ex3)
    subst eP
    subst eG
    subst eN
    have eQ : (u9.1.2.2.2.1 - 1) / 2 = u9.1.2.2.2.2.2.2.1 := by omega
    refine lv_istore (lv' := [(5, .int 0), (4, .int (nI i)), (3, .ref out), (2, .ref m0), (1, .ref b0), (0, .ref b)]) hx hb d_law_167 hl (by decide) rfl (fun ls hl => ?_)
    refine lv_aload_n hx hb d_law_169 rfl (lv_at hl 3 rfl) ?_
    refine lv_aload_n hx hb d_law_170 rfl (lv_at hl 5 rfl) ?_
    refine lv_iload hx hb d_law_171 (lv_at hl 1 rfl) ?_
    refine lv_iconst (v := 1) hx hb d_law_173 (by decide) ?_
    refine lv_iadd hx hb d_law_174 ?_
    rw [show ((nI i) + 1 : Int32) = nI (i + 1) from nI_add _ 1]
    refine va_sld hx hb hX hbl hbA hS (vp_in_nI (by omega) (by omega)) d_law_175 ?_
    rw [show (xs (nI (i + 1)).toNatClampNeg : Int32) = xs (i + 1) from by rw [nI_clamp (by omega)]]
    refine lv_i2l (v := (xs (i + 1) : Int32).toInt64) hx hb d_law_176 rfl ?_
    refine lv_bipush (v := 32) hx hb d_law_177 (by decide) ?_
    refine lv_lshl (v := ((xs (i + 1) : Int32).toInt64 : Int64) <<< ((32 : Int32).toInt64 &&& 63)) hx hb d_law_179 rfl ?_
    refine lv_aload_n hx hb d_law_180 rfl (lv_at hl 5 rfl) ?_
    refine lv_iload hx hb d_law_181 (lv_at hl 1 rfl) ?_
    refine lv_iconst (v := 2) hx hb d_law_183 (by decide) ?_
    refine lv_iadd hx hb d_law_184 ?_
    rw [show ((nI i) + 2 : Int32) = nI (i + 2) from nI_add _ 2]
    refine va_sld hx hb hX hbl hbA hS (vp_in_nI (by omega) (by omega)) d_law_185 ?_
    rw [show (xs (nI (i + 2)).toNatClampNeg : Int32) = xs (i + 2) from by rw [nI_clamp (by omega)]]
    refine lv_i2l (v := (xs (i + 2) : Int32).toInt64) hx hb d_law_186 rfl ?_
    refine lv_ldc2 (v := 4294967295) hx hb hown (hts _ (List.mem_cons_of_mem _ gk_1202)) d_law_187 ?_
    refine lv_land hx hb d_law_190 ?_
    refine lv_lor hx hb d_law_191 ?_
    rw [show ((((xs (i + 1) : Int32).toInt64 : Int64) <<< ((32 : Int32).toInt64 &&& 63)) ||| (((xs (i + 2) : Int32).toInt64) &&& 4294967295) : Int64) = lN u9.1.2.2.2.1 from (hx1.symm.trans ex1)]
    refine lv_aload_n hx hb d_law_192 rfl (lv_at hl 5 rfl) ?_
    refine lv_iload hx hb d_law_193 (lv_at hl 1 rfl) ?_
    refine lv_iconst (v := 3) hx hb d_law_195 (by decide) ?_
    refine lv_iadd hx hb d_law_196 ?_
    rw [show ((nI i) + 3 : Int32) = nI (i + 3) from nI_add _ 3]
    refine va_sld hx hb hX hbl hbA hS (vp_in_nI (by omega) (by omega)) d_law_197 ?_
    rw [show (xs (nI (i + 3)).toNatClampNeg : Int32) = xs (i + 3) from by rw [nI_clamp (by omega)]]
    refine lv_i2l (v := (xs (i + 3) : Int32).toInt64) hx hb d_law_198 rfl ?_
    refine lv_bipush (v := 32) hx hb d_law_199 (by decide) ?_
    refine lv_lshl (v := ((xs (i + 3) : Int32).toInt64 : Int64) <<< ((32 : Int32).toInt64 &&& 63)) hx hb d_law_201 rfl ?_
    refine lv_aload_n hx hb d_law_202 rfl (lv_at hl 5 rfl) ?_
    refine lv_iload hx hb d_law_203 (lv_at hl 1 rfl) ?_
    refine lv_iconst (v := 4) hx hb d_law_205 (by decide) ?_
    refine lv_iadd hx hb d_law_206 ?_
    rw [show ((nI i) + 4 : Int32) = nI (i + 4) from nI_add _ 4]
    refine va_sld hx hb hX hbl hbA hS (vp_in_nI (by omega) (by omega)) d_law_207 ?_
    rw [show (xs (nI (i + 4)).toNatClampNeg : Int32) = xs (i + 4) from by rw [nI_clamp (by omega)]]
    refine lv_i2l (v := (xs (i + 4) : Int32).toInt64) hx hb d_law_208 rfl ?_
    refine lv_ldc2 (v := 4294967295) hx hb hown (hts _ (List.mem_cons_of_mem _ gk_1202)) d_law_209 ?_
    refine lv_land hx hb d_law_212 ?_
    refine lv_lor hx hb d_law_213 ?_
    rw [show ((((xs (i + 3) : Int32).toInt64 : Int64) <<< ((32 : Int32).toInt64 &&& 63)) ||| (((xs (i + 4) : Int32).toInt64) &&& 4294967295) : Int64) = lN u9.1.2.2.2.2.2.2.2.2.2 from (hx2.symm.trans ex2)]
    refine lv_aload_n hx hb d_law_214 rfl (lv_at hl 5 rfl) ?_
    refine lv_iload hx hb d_law_215 (lv_at hl 1 rfl) ?_
    refine lv_iconst (v := 5) hx hb d_law_217 (by decide) ?_
    refine lv_iadd hx hb d_law_218 ?_
    rw [show ((nI i) + 5 : Int32) = nI (i + 5) from nI_add _ 5]
    refine va_sld hx hb hX hbl hbA hS (vp_in_nI (by omega) (by omega)) d_law_219 ?_
    rw [show (xs (nI (i + 5)).toNatClampNeg : Int32) = xs (i + 5) from by rw [nI_clamp (by omega)]]
    rw [show (xs (i + 5) : Int32) = nI u9.2 from (hx3.symm.trans ex3)]
    have hPc := hP.sub (ws' := (mo_ws m0 e0 0 0 0 0 0 0 0 0 0 0 a0 a1 a2 a3 a4 a5 a6 a7 a8 a9 mb0 mb1 oc mb2 mb3 mb4 mb5 ++ (iw_ws a4 cI 4 kf ++ (iw_ws a5 cI 4 sf ++ iw_ws a6 cI 64 vf)))) [26, 35, 38, 39] rfl
    have hDc := hD.sub (ws' := (mo_ws m0 e0 0 0 0 0 0 0 0 0 0 0 a0 a1 a2 a3 a4 a5 a6 a7 a8 a9 mb0 mb1 oc mb2 mb3 mb4 mb5 ++ (iw_ws a4 cI 4 kf ++ (iw_ws a5 cI 4 sf ++ iw_ws a6 cI 64 vf)))) [26, 35, 38, 39] (by decide) rfl
    have hKc := hK.sub (tys' := [(cJ, .long), (cI, .int)]) [0, 1] rfl
    have hFc := va_free (wc := (mo_ws m0 e0 0 0 0 0 0 0 0 0 0 0 a0 a1 a2 a3 a4 a5 a6 a7 a8 a9 mb0 mb1 oc mb2 mb3 mb4 mb5 ++ (iw_ws a4 cI 4 kf ++ (iw_ws a5 cI 4 sf ++ iw_ws a6 cI 64 vf)))) hD hS hA [26, 35, 38, 39] rfl
    refine va_calll (va_runV (As := [.long (lN u9.1.2.2.2.1), .long (lN u9.1.2.2.2.2.2.2.2.2.2), .int (nI u9.2)]) (rest := []) ⟨hx, hb, hml, hown, hts⟩ (c_Bm_begin_0 l dC dI cJ cI H.size m0 e0 0 0 0 0 0 0 0 0 0 0 a0 a1 a2 a3 a4 a5 a6 a7 a8 a9 mb0 mb1 oc mb2 mb3 mb4 mb5 kf sf vf u9.1.2.2.2.1 u9.1.2.2.2.2.2.2.2.2.2 u9.2 h7 h61 hr1 hr2 h1 h2 hg2 hgp hgq) (cwV 3 hts (gw_V gk_1008 gk_1009 gk_1010 gk_7 gk_1011) rfl rfl rfl (by decide +kernel) ⟨(Nat.le_of_ble_eq_true rfl), (Nat.le_of_ble_eq_true rfl)⟩) ⟨fun a U g mk q => by obtain ⟨q0, q1, qP, qK, qD⟩ := q; exact ⟨q0, q1, qP, va_K.moved (u := U) (U := U.calling g mk a) (Vm.Alike.refl U.vm) qK, qD⟩, va_recv hK hP (ci := 8) (q0 := 26) rfl rfl, fun U hU hW => ⟨rfl, by rw [hU], by rw [hU]; exact hPc, va_K.moved hW.alike hKc, hDc.weaken (fun _ _ _ _ => trivial)⟩⟩ rfl rfl hl.1 rfl (lv_room (Nat.le_of_ble_eq_true rfl)) d_law_220 ⟨show cells + 8 + 0 ≤ 601024 by omega, show slots + 48 + 0 ≤ 7293034 by omega⟩) hS (fun q _ h => hFc q h) hFc (fun r_2 v9 t9 H1 locs ht hvm hw hB hz1 hk1 hS => ?_)
    obtain ⟨hP1, hK1, hD1⟩ := hB
    rw [ht] at hP1
    obtain ⟨hP, hD⟩ := va_joinQ (X := (jw_ws out cJ 1 (vp_updL of 0 (lN u9.1.2.2.2.2.2.2.1)) ++ (bb_ws b0 bd0 pr0 t0 au0 da (.ref u9.1.1) ++ (rw_ws da cJ (r8 d0 d1 d2 d3 d4 d5 d6 d7) ++ (bd_ws bd0 h0 ro lo 0 cR (rrf rb) (rrf lb) ++ (pr_ws pr0 h0 cm cJ ccf ++ (ha_ws h0 aw ax ay cJ cI w csc cst cL ++ (tt_ws t0 ka aa ba sa (.ref u9.1.1) cJ (tStart u9.2 tZ) ++ (au_ws au0 bd0 pr0 tu0 (min 0 0) ++ (tt_ws tu0 uka uaa uba usa gu cJ tZ ++ (gp_ws u9.1.1 u9.1.2.1 u9.1.2.2.1 u9.1.2.2.2.1 u9.1.2.2.2.2.1 u9.1.2.2.2.2.2.1 u9.1.2.2.2.2.2.2.1 u9.1.2.2.2.2.2.2.2.1 u9.1.2.2.2.2.2.2.2.2.1 u9.1.2.2.2.2.2.2.2.2.2 ++ (mo_ws m0 e0 0 0 0 0 0 0 0 0 0 0 a0 a1 a2 a3 a4 a5 a6 a7 a8 a9 mb0 mb1 oc mb2 mb3 mb4 mb5 ++ (iw_ws a7 cI 256 bf ++ (iw_ws a8 cI 64 sc ++ (iw_ws a9 cI 8 st ++ (iw_ws mb0 cI 8 kS ++ (iw_ws mb1 cI 64 kR ++ (jw_ws a2 cJ 4 tf ++ (jw_ws a0 cJ 1232 nf ++ (jw_ws a1 cJ 616 cf ++ (iw_ws a4 cI 4 kf ++ (jw_ws mb2 cJ 4 ky ++ (jw_ws a3 cJ 16 lf ++ (iw_ws a5 cI 4 sf ++ (iw_ws a6 cI 64 vf ++ (jw_ws mb3 cJ 128 md ++ (jw_ws mb4 cJ 4 sh ++ iw_ws mb5 cI 64 ct))))))))))))))))))))))))))) (cx := (mo_ws m0 e0 0 0 0 0 0 0 0 0 0 0 a0 a1 a2 a3 a4 a5 a6 a7 a8 a9 mb0 mb1 oc mb2 mb3 mb4 mb5 ++ (iw_ws a4 cI 4 kf ++ (iw_ws a5 cI 4 sf ++ iw_ws a6 cI 64 vf)))) (wr := (jw_ws out cJ 1 (vp_updL of 0 (lN u9.1.2.2.2.2.2.2.1)) ++ (bb_ws b0 bd0 pr0 t0 au0 da (.ref u9.1.1) ++ (rw_ws da cJ (r8 d0 d1 d2 d3 d4 d5 d6 d7) ++ (bd_ws bd0 h0 ro lo 0 cR (rrf rb) (rrf lb) ++ (pr_ws pr0 h0 cm cJ ccf ++ (ha_ws h0 aw ax ay cJ cI w csc cst cL ++ (tt_ws t0 ka aa ba sa (.ref u9.1.1) cJ (tStart u9.2 tZ) ++ (au_ws au0 bd0 pr0 tu0 (min 0 0) ++ (tt_ws tu0 uka uaa uba usa gu cJ tZ ++ (gp_ws u9.1.1 u9.1.2.1 u9.1.2.2.1 u9.1.2.2.2.1 u9.1.2.2.2.2.1 u9.1.2.2.2.2.2.1 u9.1.2.2.2.2.2.2.1 u9.1.2.2.2.2.2.2.2.1 u9.1.2.2.2.2.2.2.2.2.1 u9.1.2.2.2.2.2.2.2.2.2 ++ (iw_ws a7 cI 256 bf ++ (iw_ws a8 cI 64 sc ++ (iw_ws a9 cI 8 st ++ (iw_ws mb0 cI 8 kS ++ (iw_ws mb1 cI 64 kR ++ (jw_ws a2 cJ 4 tf ++ (jw_ws a0 cJ 1232 nf ++ (jw_ws a1 cJ 616 cf ++ (jw_ws mb2 cJ 4 ky ++ (jw_ws a3 cJ 16 lf ++ (jw_ws mb3 cJ 128 md ++ (jw_ws mb4 cJ 4 sh ++ iw_ws mb5 cI 64 ct))))))))))))))))))))))) (w1 := (mo_ws m0 0 (nI u9.2) 0 0 (lN u9.1.2.2.2.1) (lN ((u9.1.2.2.2.1 - 1) / 2)) (lN u9.1.2.2.2.2.2.2.2.2.2) 0 0 0 0 a0 a1 a2 a3 a4 a5 a6 a7 a8 a9 mb0 mb1 oc mb2 mb3 mb4 mb5 ++ (iw_ws a4 cI 4 (mf kf 4) ++ (iw_ws a5 cI 4 (mf sf 4) ++ iw_ws a6 cI 64 (mf vf 64))))) (pl := bpool rb lb cJ R Lk) hP hD [26, 35, 38, 39] [0, 1, 2, 3, 4, 5, 6, 7, 8, 9, 10, 11, 12, 13, 14, 15, 16, 17, 18, 19, 20, 21, 22, 23, 24, 25, 27, 28, 29, 30, 31, 32, 33, 34, 36, 37, 40, 41, 42] rfl rfl (by decide) (by decide) hk1 hFc hP1 hD1
    have hP := hP.part (cx := (jw_ws out cJ 1 (vp_updL of 0 (lN u9.1.2.2.2.2.2.2.1)) ++ (bb_ws b0 bd0 pr0 t0 au0 da (.ref u9.1.1) ++ (rw_ws da cJ (r8 d0 d1 d2 d3 d4 d5 d6 d7) ++ (bd_ws bd0 h0 ro lo 0 cR (rrf rb) (rrf lb) ++ (pr_ws pr0 h0 cm cJ ccf ++ (ha_ws h0 aw ax ay cJ cI w csc cst cL ++ (tt_ws t0 ka aa ba sa (.ref u9.1.1) cJ (tStart u9.2 tZ) ++ (au_ws au0 bd0 pr0 tu0 (min 0 0) ++ (tt_ws tu0 uka uaa uba usa gu cJ tZ ++ (gp_ws u9.1.1 u9.1.2.1 u9.1.2.2.1 u9.1.2.2.2.1 u9.1.2.2.2.2.1 u9.1.2.2.2.2.2.1 u9.1.2.2.2.2.2.2.1 u9.1.2.2.2.2.2.2.2.1 u9.1.2.2.2.2.2.2.2.2.1 u9.1.2.2.2.2.2.2.2.2.2 ++ (mo_ws m0 0 (nI u9.2) 0 0 (lN u9.1.2.2.2.1) (lN ((u9.1.2.2.2.1 - 1) / 2)) (lN u9.1.2.2.2.2.2.2.2.2.2) 0 0 0 0 a0 a1 a2 a3 a4 a5 a6 a7 a8 a9 mb0 mb1 oc mb2 mb3 mb4 mb5 ++ (iw_ws a7 cI 256 bf ++ (iw_ws a8 cI 64 sc ++ (iw_ws a9 cI 8 st ++ (iw_ws mb0 cI 8 kS ++ (iw_ws mb1 cI 64 kR ++ (jw_ws a2 cJ 4 tf ++ (jw_ws a0 cJ 1232 nf ++ (jw_ws a1 cJ 616 cf ++ (iw_ws a4 cI 4 (mf kf 4) ++ (jw_ws mb2 cJ 4 ky ++ (jw_ws a3 cJ 16 lf ++ (iw_ws a5 cI 4 (mf sf 4) ++ (iw_ws a6 cI 64 (mf vf 64) ++ (jw_ws mb3 cJ 128 md ++ (jw_ws mb4 cJ 4 sh ++ iw_ws mb5 cI 64 ct))))))))))))))))))))))))))) [0, 1, 2, 3, 4, 5, 6, 7, 8, 9, 10, 11, 12, 13, 14, 15, 16, 17, 18, 19, 20, 21, 22, 23, 24, 25, 39, 26, 27, 28, 29, 30, 31, 32, 33, 40, 34, 35, 41, 42, 36, 37, 38] rfl
    have hD := hD.part (cx := (jw_ws out cJ 1 (vp_updL of 0 (lN u9.1.2.2.2.2.2.2.1)) ++ (bb_ws b0 bd0 pr0 t0 au0 da (.ref u9.1.1) ++ (rw_ws da cJ (r8 d0 d1 d2 d3 d4 d5 d6 d7) ++ (bd_ws bd0 h0 ro lo 0 cR (rrf rb) (rrf lb) ++ (pr_ws pr0 h0 cm cJ ccf ++ (ha_ws h0 aw ax ay cJ cI w csc cst cL ++ (tt_ws t0 ka aa ba sa (.ref u9.1.1) cJ (tStart u9.2 tZ) ++ (au_ws au0 bd0 pr0 tu0 (min 0 0) ++ (tt_ws tu0 uka uaa uba usa gu cJ tZ ++ (gp_ws u9.1.1 u9.1.2.1 u9.1.2.2.1 u9.1.2.2.2.1 u9.1.2.2.2.2.1 u9.1.2.2.2.2.2.1 u9.1.2.2.2.2.2.2.1 u9.1.2.2.2.2.2.2.2.1 u9.1.2.2.2.2.2.2.2.2.1 u9.1.2.2.2.2.2.2.2.2.2 ++ (mo_ws m0 0 (nI u9.2) 0 0 (lN u9.1.2.2.2.1) (lN ((u9.1.2.2.2.1 - 1) / 2)) (lN u9.1.2.2.2.2.2.2.2.2.2) 0 0 0 0 a0 a1 a2 a3 a4 a5 a6 a7 a8 a9 mb0 mb1 oc mb2 mb3 mb4 mb5 ++ (iw_ws a7 cI 256 bf ++ (iw_ws a8 cI 64 sc ++ (iw_ws a9 cI 8 st ++ (iw_ws mb0 cI 8 kS ++ (iw_ws mb1 cI 64 kR ++ (jw_ws a2 cJ 4 tf ++ (jw_ws a0 cJ 1232 nf ++ (jw_ws a1 cJ 616 cf ++ (iw_ws a4 cI 4 (mf kf 4) ++ (jw_ws mb2 cJ 4 ky ++ (jw_ws a3 cJ 16 lf ++ (iw_ws a5 cI 4 (mf sf 4) ++ (iw_ws a6 cI 64 (mf vf 64) ++ (jw_ws mb3 cJ 128 md ++ (jw_ws mb4 cJ 4 sh ++ iw_ws mb5 cI 64 ct))))))))))))))))))))))))))) [0, 1, 2, 3, 4, 5, 6, 7, 8, 9, 10, 11, 12, 13, 14, 15, 16, 17, 18, 19, 20, 21, 22, 23, 24, 25, 39, 26, 27, 28, 29, 30, 31, 32, 33, 40, 34, 35, 41, 42, 36, 37, 38] (by decide) rfl
    generalize H1 = H at hP hS ⊢
    clear hPc hDc hFc hP1 hD1 hK1 ht hk1 hz1
    have hr8 := hw
    subst hr8
    rw [eQ] at hP hD
    refine lv_lstore (lv' := [(6, .long (lN ((u9.1.2.2.2.1 - 1) / 2))), (5, .int 0), (4, .int (nI i)), (3, .ref out), (2, .ref m0), (1, .ref b0), (0, .ref b)]) hx hb d_law_223 hl (by decide) rfl (fun ls hl => ?_)
    refine lv_aload_n hx hb d_law_225 rfl (lv_at hl 4 rfl) ?_
    have hPc := hP.sub (ws' := (mo_ws m0 0 (nI u9.2) 0 0 (lN u9.1.2.2.2.1) (lN u9.1.2.2.2.2.2.2.1) (lN u9.1.2.2.2.2.2.2.2.2.2) 0 0 0 0 a0 a1 a2 a3 a4 a5 a6 a7 a8 a9 mb0 mb1 oc mb2 mb3 mb4 mb5)) [26] rfl
    have hKc := hK.sub (tys' := [(cJ, .long), (cI, .int)]) [0, 1] rfl
    refine va_calli (va_runV (As := []) (rest := []) ⟨hx, hb, hml, hown, hts⟩ (c_Bm_thrown l H dC dI cJ cI m0 0 (nI u9.2) 0 0 (lN u9.1.2.2.2.1) (lN u9.1.2.2.2.2.2.2.1) (lN u9.1.2.2.2.2.2.2.2.2.2) 0 0 0 0 a0 a1 a2 a3 a4 a5 a6 a7 a8 a9 mb0 mb1 oc mb2 mb3 mb4 mb5 hPc) (cwV 0 hts (gw_V gk_1004 gk_1005 gk_1006 gk_7 gk_1007) rfl rfl rfl (by decide +kernel) ⟨(Nat.le_of_ble_eq_true rfl), (Nat.le_of_ble_eq_true rfl)⟩) ⟨fun a U g mk q => ⟨q.1, q.2.1, va_K.moved (u := U) (U := U.calling g mk a) (Vm.Alike.refl U.vm) q.2.2⟩, va_recv hK hP (ci := 8) (q0 := 26) rfl rfl, fun U hU hW => ⟨rfl, hU, va_K.moved hW.alike hKc⟩⟩ rfl rfl hl.1 rfl (lv_room (Nat.le_of_ble_eq_true rfl)) d_law_226 ⟨show cells + 8 + 0 + 0 ≤ 601024 by omega, show slots + 48 + 0 + 0 ≤ 7293034 by omega⟩) hS (fun q _ h => h.elim) (fun q h => h.elim) (fun r_3 w9 t9 H1 locs ht hvm hw9 hB hz1 hk1 hS => ?_)
    obtain rfl : H = H1 := hB.symm.trans ht
    have hw9 : r_3 = 0 := hw9
    subst hw9
    clear hPc hz1 hk1 hB
    refine lv_iload hx hb d_law_229 (lv_at hl 1 rfl) ?_
    refine lv_icmp_eq (tgt := 236) hx hb d_law_231 (by decide) (fun c_4 => ?_) (fun c_4 => ?_)
    · -- taken
      refine lv_iload hx hb d_law_236 (lv_at hl 1 rfl) ?_
      refine lv_if_ne (tgt := 252) hx hb d_law_238 (by decide) (fun c_5 => ?_) (fun c_5 => ?_)
      · -- taken
        exact absurd rfl c_5
      · -- not taken
        refine lv_aload_n hx hb d_law_241 rfl (lv_at hl 3 rfl) ?_
        refine lv_iconst (v := 0) hx hb d_law_242 (by decide) ?_
        refine va_lald hx hb hK hP 0 0 rfl rfl (vp_lit rfl) d_law_243 ?_
        refine lv_topl (fun v_6 ev_6 => ?_)
        obtain rfl : v_6 = lN u9.1.2.2.2.2.2.2.1 := ev_6.trans rfl
        refine lv_lload hx hb d_law_244 (lv_at hl 0 rfl) ?_
        refine W.lcmp hx hb d_law_246 ?_
        refine lv_if_eq (tgt := 252) hx hb d_law_247 (by decide) (fun c_7 => ?_) (fun c_7 => ?_)
        · -- taken
          refine lv_goto (tgt := 1965) hx hb d_law_252 (by decide) ?_
          refine W.widen (k := cells + 20) (n := slots + 200) (by omega) (by omega) ?_
          have hI9 : LI dC dI cJ cI cR A out b0 m0 H := LG.mk (n := 0) (bc := 0) (al := 0) (pa := 0) (pb := 0) (cl := 0) (kd := fun _ => 0) (wh := fun _ => 0) hP hD (rel_begin hgo hN1 hN4 (T := tZ) (T0 := tZ) ⟨fun _ _ => ⟨rfl, rfl⟩, fun _ _ => ⟨rfl, rfl⟩⟩ ⟨fun _ _ => ⟨rfl, rfl⟩, fun _ _ => ⟨rfl, rfl⟩⟩)
          exact cont _ _ _ hS hI9 (lv_sub hl [2, 3, 4, 5, 6] rfl)
        · -- not taken
          exact absurd (lgc (congrArg lN eQ.symm)) c_7
    · -- not taken
      exact absurd c_4 (by decide)
  refine lv_aload_n hx hb d_law_112 rfl (lv_at hl 3 rfl) ?_
  refine lv_aload_n hx hb d_law_113 rfl (lv_at hl 4 rfl) ?_
  refine lv_iload hx hb d_law_114 (lv_at hl 0 rfl) ?_
  refine lv_iconst (v := 1) hx hb d_law_116 (by decide) ?_
  refine lv_iadd hx hb d_law_117 ?_
  rw [show ((nI i) + 1 : Int32) = nI (i + 1) from nI_add _ 1]
  refine va_sld hx hb hX hbl hbA hS (vp_in_nI (by omega) (by omega)) d_law_118 ?_
  rw [show (xs (nI (i + 1)).toNatClampNeg : Int32) = xs (i + 1) from by rw [nI_clamp (by omega)]]
  refine lv_i2l (v := (xs (i + 1) : Int32).toInt64) hx hb d_law_119 rfl ?_
  refine lv_bipush (v := 32) hx hb d_law_120 (by decide) ?_
  refine lv_lshl (v := ((xs (i + 1) : Int32).toInt64 : Int64) <<< ((32 : Int32).toInt64 &&& 63)) hx hb d_law_122 rfl ?_
  refine lv_aload_n hx hb d_law_123 rfl (lv_at hl 4 rfl) ?_
  refine lv_iload hx hb d_law_124 (lv_at hl 0 rfl) ?_
  refine lv_iconst (v := 2) hx hb d_law_126 (by decide) ?_
  refine lv_iadd hx hb d_law_127 ?_
  rw [show ((nI i) + 2 : Int32) = nI (i + 2) from nI_add _ 2]
  refine va_sld hx hb hX hbl hbA hS (vp_in_nI (by omega) (by omega)) d_law_128 ?_
  rw [show (xs (nI (i + 2)).toNatClampNeg : Int32) = xs (i + 2) from by rw [nI_clamp (by omega)]]
  refine lv_i2l (v := (xs (i + 2) : Int32).toInt64) hx hb d_law_129 rfl ?_
  refine lv_ldc2 (v := 4294967295) hx hb hown (hts _ (List.mem_cons_of_mem _ gk_1202)) d_law_130 ?_
  refine lv_land hx hb d_law_133 ?_
  refine lv_lor hx hb d_law_134 ?_
  rw [show ((((xs (i + 1) : Int32).toInt64 : Int64) <<< ((32 : Int32).toInt64 &&& 63)) ||| (((xs (i + 2) : Int32).toInt64) &&& 4294967295) : Int64) = x1 from hx1.symm]
  refine lv_aload_n hx hb d_law_135 rfl (lv_at hl 4 rfl) ?_
  refine lv_iload hx hb d_law_136 (lv_at hl 0 rfl) ?_
  refine lv_iconst (v := 3) hx hb d_law_138 (by decide) ?_
  refine lv_iadd hx hb d_law_139 ?_
  rw [show ((nI i) + 3 : Int32) = nI (i + 3) from nI_add _ 3]
  refine va_sld hx hb hX hbl hbA hS (vp_in_nI (by omega) (by omega)) d_law_140 ?_
  rw [show (xs (nI (i + 3)).toNatClampNeg : Int32) = xs (i + 3) from by rw [nI_clamp (by omega)]]
  refine lv_i2l (v := (xs (i + 3) : Int32).toInt64) hx hb d_law_141 rfl ?_
  refine lv_bipush (v := 32) hx hb d_law_142 (by decide) ?_
  refine lv_lshl (v := ((xs (i + 3) : Int32).toInt64 : Int64) <<< ((32 : Int32).toInt64 &&& 63)) hx hb d_law_144 rfl ?_
  refine lv_aload_n hx hb d_law_145 rfl (lv_at hl 4 rfl) ?_
  refine lv_iload hx hb d_law_146 (lv_at hl 0 rfl) ?_
  refine lv_iconst (v := 4) hx hb d_law_148 (by decide) ?_
  refine lv_iadd hx hb d_law_149 ?_
  rw [show ((nI i) + 4 : Int32) = nI (i + 4) from nI_add _ 4]
  refine va_sld hx hb hX hbl hbA hS (vp_in_nI (by omega) (by omega)) d_law_150 ?_
  rw [show (xs (nI (i + 4)).toNatClampNeg : Int32) = xs (i + 4) from by rw [nI_clamp (by omega)]]
  refine lv_i2l (v := (xs (i + 4) : Int32).toInt64) hx hb d_law_151 rfl ?_
  refine lv_ldc2 (v := 4294967295) hx hb hown (hts _ (List.mem_cons_of_mem _ gk_1202)) d_law_152 ?_
  refine lv_land hx hb d_law_155 ?_
  refine lv_lor hx hb d_law_156 ?_
  rw [show ((((xs (i + 3) : Int32).toInt64 : Int64) <<< ((32 : Int32).toInt64 &&& 63)) ||| (((xs (i + 4) : Int32).toInt64) &&& 4294967295) : Int64) = x2 from hx2.symm]
  refine lv_aload_n hx hb d_law_157 rfl (lv_at hl 4 rfl) ?_
  refine lv_iload hx hb d_law_158 (lv_at hl 0 rfl) ?_
  refine lv_iconst (v := 5) hx hb d_law_160 (by decide) ?_
  refine lv_iadd hx hb d_law_161 ?_
  rw [show ((nI i) + 5 : Int32) = nI (i + 5) from nI_add _ 5]
  refine va_sld hx hb hX hbl hbA hS (vp_in_nI (by omega) (by omega)) d_law_162 ?_
  rw [show (xs (nI (i + 5)).toNatClampNeg : Int32) = xs (i + 5) from by rw [nI_clamp (by omega)]]
  rw [show (xs (i + 5) : Int32) = x3 from hx3.symm]
  refine lv_aload_n hx hb d_law_163 rfl (lv_at hl 1 rfl) ?_
  have hPc := hP.sub (ws' := (jw_ws out cJ 1 of ++ (bb_ws b0 bd0 pr0 t0 au0 da .null ++ (tt_ws t0 ka aa ba sa .null cJ tZ ++ (bo_ws bd0 h0 ro lo 0 ++ au_ws au0 bd0 pr0 tu0 0))))) [0, 1, 12, 13, 14, 15, 16, 3, 17] rfl
  have hDc := hD.sub (ws' := (jw_ws out cJ 1 of ++ (bb_ws b0 bd0 pr0 t0 au0 da .null ++ (tt_ws t0 ka aa ba sa .null cJ tZ ++ (bo_ws bd0 h0 ro lo 0 ++ au_ws au0 bd0 pr0 tu0 0))))) [0, 1, 12, 13, 14, 15, 16, 3, 17] (by decide) rfl
  have hKc := hK.sub (tys' := [(cJ, .long), (cI, .int), (cR, .array .long)]) [0, 1, 2] rfl
  have hFc := va_free (wc := (jw_ws out cJ 1 of ++ (bb_ws b0 bd0 pr0 t0 au0 da .null ++ (tt_ws t0 ka aa ba sa .null cJ tZ ++ (bo_ws bd0 h0 ro lo 0 ++ au_ws au0 bd0 pr0 tu0 0))))) hD hS hA [0, 1, 12, 13, 14, 15, 16, 3, 17] rfl
  have hZc0 : xz (va_A (jw_ws out cJ 1 of ++ (bb_ws b0 bd0 pr0 t0 au0 da .null ++ (tt_ws t0 ka aa ba sa .null cJ tZ ++ (bo_ws bd0 h0 ro lo 0 ++ au_ws au0 bd0 pr0 tu0 0)))) H.size) s H := (hZx.kept hS.2.1).narrow hFc
  have hZc1 : nc_Z s := hZn
  have hZc2 : wi_Z wA (va_A (jw_ws out cJ 1 of ++ (bb_ws b0 bd0 pr0 t0 au0 da .null ++ (tt_ws t0 ka aa ba sa .null cJ tZ ++ (bo_ws bd0 h0 ro lo 0 ++ au_ws au0 bd0 pr0 tu0 0)))) H.size) s H := (hZw.kept hS.2.1).narrow hFc
  refine vx_calli (vx_runSX (hh := h_Lw_begin) (As := [.ref b0, .long x1, .long x2, .int x3, .ref out]) (rest := []) ⟨hx, hb, hml, hown, hts⟩ (c_Lw_begin_1 l hnt dC dI cJ cI cR H.size b0 bd0 pr0 t0 au0 da .null .null ka aa ba sa tZ h0 ro lo 0 tu0 0 wA x1 x2 x3 out of (Nat.zero_le _) hC) (vx_cwSW 5 hts (gw_Sv gk_175 gk_176 gk_0 gk_177) rfl rfl rfl (by decide +kernel) ⟨(Nat.le_of_ble_eq_true rfl), (Nat.le_of_ble_eq_true rfl)⟩) ⟨fun a U g mk q => by obtain ⟨q0, q1, qP, qK, qD, qZ0, qZ1, qZ2⟩ := q; exact ⟨q0, q1, qP, va_K.moved (u := U) (U := U.calling g mk a) (Vm.Alike.refl U.vm) qK, qD, xz.same (u := U) (U := U.calling g mk a) rfl qZ0, nc_Z.moved (u := U) (U := U.calling g mk a) (Vm.Alike.refl U.vm) qZ1, wi_Z.moved (u := U) (U := U.calling g mk a) (Vm.Alike.refl U.vm) qZ2⟩, fun U hU hW => ⟨rfl, by rw [hU], by rw [hU]; exact hPc, va_K.moved hW.alike hKc, hDc.weaken (fun _ _ _ _ => trivial), by rw [hU]; exact xz.warm hW hZc0, nc_Z.moved hW.alike hZc1, by rw [hU]; exact wi_Z.moved hW.alike hZc2⟩⟩ rfl rfl hl.1 rfl (lv_room (Nat.le_of_ble_eq_true rfl)) d_law_164 ⟨show cells + 8 ≤ 601024 by omega, show slots + 48 ≤ 7293034 by omega⟩) hS (fun q _ h => hFc q h) hFc (fun q _ h => hFc q h) (fun E9 ce9 q9 u8 t9 H1 locs ht hvm hpx hbx hz1 hk1 hS hce hcv hcl => hpx.elim) (fun r_8 u9 t9 H1 locs ht hvm hw hB hz1 hk1 hS => ?_)
  obtain ⟨hP1, hK1, hD1⟩ := hB
  rw [ht] at hP1
  obtain ⟨hP, hD⟩ := va_joinQ (X := (jw_ws out cJ 1 of ++ (bb_ws b0 bd0 pr0 t0 au0 da .null ++ (rw_ws da cJ (r8 d0 d1 d2 d3 d4 d5 d6 d7) ++ (bd_ws bd0 h0 ro lo 0 cR (rrf rb) (rrf lb) ++ (pr_ws pr0 h0 cm cJ ccf ++ (ha_ws h0 aw ax ay cJ cI w csc cst cL ++ (tt_ws t0 ka aa ba sa .null cJ tZ ++ (au_ws au0 bd0 pr0 tu0 0 ++ (tt_ws tu0 uka uaa uba usa gu cJ tZ ++ (mo_ws m0 e0 0 0 0 0 0 0 0 0 0 0 a0 a1 a2 a3 a4 a5 a6 a7 a8 a9 mb0 mb1 oc mb2 mb3 mb4 mb5 ++ (iw_ws a7 cI 256 bf ++ (iw_ws a8 cI 64 sc ++ (iw_ws a9 cI 8 st ++ (iw_ws mb0 cI 8 kS ++ (iw_ws mb1 cI 64 kR ++ (jw_ws a2 cJ 4 tf ++ (jw_ws a0 cJ 1232 nf ++ (jw_ws a1 cJ 616 cf ++ (iw_ws a4 cI 4 kf ++ (jw_ws mb2 cJ 4 ky ++ (jw_ws a3 cJ 16 lf ++ (iw_ws a5 cI 4 sf ++ (iw_ws a6 cI 64 vf ++ (jw_ws mb3 cJ 128 md ++ (jw_ws mb4 cJ 4 sh ++ iw_ws mb5 cI 64 ct)))))))))))))))))))))))))) (cx := (jw_ws out cJ 1 of ++ (bb_ws b0 bd0 pr0 t0 au0 da .null ++ (tt_ws t0 ka aa ba sa .null cJ tZ ++ (bo_ws bd0 h0 ro lo 0 ++ au_ws au0 bd0 pr0 tu0 0))))) (wr := (rw_ws da cJ (r8 d0 d1 d2 d3 d4 d5 d6 d7) ++ ([(ro, .inl (cR, 154, .inr (.inr (.inr (.inr (rrf rb))))))] ++ ([(lo, .inl (cR, 154, .inr (.inr (.inr (.inr (rrf lb))))))] ++ (pr_ws pr0 h0 cm cJ ccf ++ (ha_ws h0 aw ax ay cJ cI w csc cst cL ++ (tt_ws tu0 uka uaa uba usa gu cJ tZ ++ (mo_ws m0 e0 0 0 0 0 0 0 0 0 0 0 a0 a1 a2 a3 a4 a5 a6 a7 a8 a9 mb0 mb1 oc mb2 mb3 mb4 mb5 ++ (iw_ws a7 cI 256 bf ++ (iw_ws a8 cI 64 sc ++ (iw_ws a9 cI 8 st ++ (iw_ws mb0 cI 8 kS ++ (iw_ws mb1 cI 64 kR ++ (jw_ws a2 cJ 4 tf ++ (jw_ws a0 cJ 1232 nf ++ (jw_ws a1 cJ 616 cf ++ (iw_ws a4 cI 4 kf ++ (jw_ws mb2 cJ 4 ky ++ (jw_ws a3 cJ 16 lf ++ (iw_ws a5 cI 4 sf ++ (iw_ws a6 cI 64 vf ++ (jw_ws mb3 cJ 128 md ++ (jw_ws mb4 cJ 4 sh ++ iw_ws mb5 cI 64 ct))))))))))))))))))))))) (w1 := (jw_ws out cJ 1 of ++ (bb_ws b0 bd0 pr0 t0 au0 da .null ++ (tt_ws t0 ka aa ba sa .null cJ tZ ++ (bo_ws bd0 h0 ro lo 0 ++ au_ws au0 bd0 pr0 tu0 0))))) (pl := bpool rb lb cJ R Lk) hP hD [0, 1, 12, 13, 14, 15, 16, 3, 17] [2, 4, 5, 6, 7, 8, 9, 10, 11, 18, 19, 20, 21, 22, 23, 24, 25, 26, 27, 28, 29, 30, 31, 32, 33, 34, 35, 36, 37, 38, 39] rfl rfl (by decide) (by decide) hk1 hFc hP1 hD1
  have hP := hP.part (cx := (jw_ws out cJ 1 of ++ (bb_ws b0 bd0 pr0 t0 au0 da .null ++ (rw_ws da cJ (r8 d0 d1 d2 d3 d4 d5 d6 d7) ++ (bd_ws bd0 h0 ro lo 0 cR (rrf rb) (rrf lb) ++ (pr_ws pr0 h0 cm cJ ccf ++ (ha_ws h0 aw ax ay cJ cI w csc cst cL ++ (tt_ws t0 ka aa ba sa .null cJ tZ ++ (au_ws au0 bd0 pr0 tu0 0 ++ (tt_ws tu0 uka uaa uba usa gu cJ tZ ++ (mo_ws m0 e0 0 0 0 0 0 0 0 0 0 0 a0 a1 a2 a3 a4 a5 a6 a7 a8 a9 mb0 mb1 oc mb2 mb3 mb4 mb5 ++ (iw_ws a7 cI 256 bf ++ (iw_ws a8 cI 64 sc ++ (iw_ws a9 cI 8 st ++ (iw_ws mb0 cI 8 kS ++ (iw_ws mb1 cI 64 kR ++ (jw_ws a2 cJ 4 tf ++ (jw_ws a0 cJ 1232 nf ++ (jw_ws a1 cJ 616 cf ++ (iw_ws a4 cI 4 kf ++ (jw_ws mb2 cJ 4 ky ++ (jw_ws a3 cJ 16 lf ++ (iw_ws a5 cI 4 sf ++ (iw_ws a6 cI 64 vf ++ (jw_ws mb3 cJ 128 md ++ (jw_ws mb4 cJ 4 sh ++ iw_ws mb5 cI 64 ct)))))))))))))))))))))))))) [31, 32, 0, 38, 1, 2, 3, 4, 5, 6, 7, 8, 33, 34, 35, 36, 37, 39, 9, 10, 11, 12, 13, 14, 15, 16, 17, 18, 19, 20, 21, 22, 23, 24, 25, 26, 27, 28, 29, 30] rfl
  have hD := hD.part (cx := (jw_ws out cJ 1 of ++ (bb_ws b0 bd0 pr0 t0 au0 da .null ++ (rw_ws da cJ (r8 d0 d1 d2 d3 d4 d5 d6 d7) ++ (bd_ws bd0 h0 ro lo 0 cR (rrf rb) (rrf lb) ++ (pr_ws pr0 h0 cm cJ ccf ++ (ha_ws h0 aw ax ay cJ cI w csc cst cL ++ (tt_ws t0 ka aa ba sa .null cJ tZ ++ (au_ws au0 bd0 pr0 tu0 0 ++ (tt_ws tu0 uka uaa uba usa gu cJ tZ ++ (mo_ws m0 e0 0 0 0 0 0 0 0 0 0 0 a0 a1 a2 a3 a4 a5 a6 a7 a8 a9 mb0 mb1 oc mb2 mb3 mb4 mb5 ++ (iw_ws a7 cI 256 bf ++ (iw_ws a8 cI 64 sc ++ (iw_ws a9 cI 8 st ++ (iw_ws mb0 cI 8 kS ++ (iw_ws mb1 cI 64 kR ++ (jw_ws a2 cJ 4 tf ++ (jw_ws a0 cJ 1232 nf ++ (jw_ws a1 cJ 616 cf ++ (iw_ws a4 cI 4 kf ++ (jw_ws mb2 cJ 4 ky ++ (jw_ws a3 cJ 16 lf ++ (iw_ws a5 cI 4 sf ++ (iw_ws a6 cI 64 vf ++ (jw_ws mb3 cJ 128 md ++ (jw_ws mb4 cJ 4 sh ++ iw_ws mb5 cI 64 ct)))))))))))))))))))))))))) [31, 32, 0, 38, 1, 2, 3, 4, 5, 6, 7, 8, 33, 34, 35, 36, 37, 39, 9, 10, 11, 12, 13, 14, 15, 16, 17, 18, 19, 20, 21, 22, 23, 24, 25, 26, 27, 28, 29, 30] (by decide) rfl
  generalize H1 = H at hP hS ⊢
  clear hPc hDc hFc hP1 hD1 hK1 ht hk1 hz1
  have hr9 : r_8 = 1 := hw
  subst hr9
  refine lv_istore (lv' := [(5, .int 1), (4, .int (nI i)), (3, .ref out), (2, .ref m0), (1, .ref b0), (0, .ref b)]) hx hb d_law_167 hl (by decide) rfl (fun ls hl => ?_)
  refine lv_aload_n hx hb d_law_169 rfl (lv_at hl 3 rfl) ?_
  refine lv_aload_n hx hb d_law_170 rfl (lv_at hl 5 rfl) ?_
  refine lv_iload hx hb d_law_171 (lv_at hl 1 rfl) ?_
  refine lv_iconst (v := 1) hx hb d_law_173 (by decide) ?_
  refine lv_iadd hx hb d_law_174 ?_
  rw [show ((nI i) + 1 : Int32) = nI (i + 1) from nI_add _ 1]
  refine va_sld hx hb hX hbl hbA hS (vp_in_nI (by omega) (by omega)) d_law_175 ?_
  rw [show (xs (nI (i + 1)).toNatClampNeg : Int32) = xs (i + 1) from by rw [nI_clamp (by omega)]]
  refine lv_i2l (v := (xs (i + 1) : Int32).toInt64) hx hb d_law_176 rfl ?_
  refine lv_bipush (v := 32) hx hb d_law_177 (by decide) ?_
  refine lv_lshl (v := ((xs (i + 1) : Int32).toInt64 : Int64) <<< ((32 : Int32).toInt64 &&& 63)) hx hb d_law_179 rfl ?_
  refine lv_aload_n hx hb d_law_180 rfl (lv_at hl 5 rfl) ?_
  refine lv_iload hx hb d_law_181 (lv_at hl 1 rfl) ?_
  refine lv_iconst (v := 2) hx hb d_law_183 (by decide) ?_
  refine lv_iadd hx hb d_law_184 ?_
  rw [show ((nI i) + 2 : Int32) = nI (i + 2) from nI_add _ 2]
  refine va_sld hx hb hX hbl hbA hS (vp_in_nI (by omega) (by omega)) d_law_185 ?_
  rw [show (xs (nI (i + 2)).toNatClampNeg : Int32) = xs (i + 2) from by rw [nI_clamp (by omega)]]
  refine lv_i2l (v := (xs (i + 2) : Int32).toInt64) hx hb d_law_186 rfl ?_
  refine lv_ldc2 (v := 4294967295) hx hb hown (hts _ (List.mem_cons_of_mem _ gk_1202)) d_law_187 ?_
  refine lv_land hx hb d_law_190 ?_
  refine lv_lor hx hb d_law_191 ?_
  rw [show ((((xs (i + 1) : Int32).toInt64 : Int64) <<< ((32 : Int32).toInt64 &&& 63)) ||| (((xs (i + 2) : Int32).toInt64) &&& 4294967295) : Int64) = x1 from hx1.symm]
  refine lv_aload_n hx hb d_law_192 rfl (lv_at hl 5 rfl) ?_
  refine lv_iload hx hb d_law_193 (lv_at hl 1 rfl) ?_
  refine lv_iconst (v := 3) hx hb d_law_195 (by decide) ?_
  refine lv_iadd hx hb d_law_196 ?_
  rw [show ((nI i) + 3 : Int32) = nI (i + 3) from nI_add _ 3]
  refine va_sld hx hb hX hbl hbA hS (vp_in_nI (by omega) (by omega)) d_law_197 ?_
  rw [show (xs (nI (i + 3)).toNatClampNeg : Int32) = xs (i + 3) from by rw [nI_clamp (by omega)]]
  refine lv_i2l (v := (xs (i + 3) : Int32).toInt64) hx hb d_law_198 rfl ?_
  refine lv_bipush (v := 32) hx hb d_law_199 (by decide) ?_
  refine lv_lshl (v := ((xs (i + 3) : Int32).toInt64 : Int64) <<< ((32 : Int32).toInt64 &&& 63)) hx hb d_law_201 rfl ?_
  refine lv_aload_n hx hb d_law_202 rfl (lv_at hl 5 rfl) ?_
  refine lv_iload hx hb d_law_203 (lv_at hl 1 rfl) ?_
  refine lv_iconst (v := 4) hx hb d_law_205 (by decide) ?_
  refine lv_iadd hx hb d_law_206 ?_
  rw [show ((nI i) + 4 : Int32) = nI (i + 4) from nI_add _ 4]
  refine va_sld hx hb hX hbl hbA hS (vp_in_nI (by omega) (by omega)) d_law_207 ?_
  rw [show (xs (nI (i + 4)).toNatClampNeg : Int32) = xs (i + 4) from by rw [nI_clamp (by omega)]]
  refine lv_i2l (v := (xs (i + 4) : Int32).toInt64) hx hb d_law_208 rfl ?_
  refine lv_ldc2 (v := 4294967295) hx hb hown (hts _ (List.mem_cons_of_mem _ gk_1202)) d_law_209 ?_
  refine lv_land hx hb d_law_212 ?_
  refine lv_lor hx hb d_law_213 ?_
  rw [show ((((xs (i + 3) : Int32).toInt64 : Int64) <<< ((32 : Int32).toInt64 &&& 63)) ||| (((xs (i + 4) : Int32).toInt64) &&& 4294967295) : Int64) = x2 from hx2.symm]
  refine lv_aload_n hx hb d_law_214 rfl (lv_at hl 5 rfl) ?_
  refine lv_iload hx hb d_law_215 (lv_at hl 1 rfl) ?_
  refine lv_iconst (v := 5) hx hb d_law_217 (by decide) ?_
  refine lv_iadd hx hb d_law_218 ?_
  rw [show ((nI i) + 5 : Int32) = nI (i + 5) from nI_add _ 5]
  refine va_sld hx hb hX hbl hbA hS (vp_in_nI (by omega) (by omega)) d_law_219 ?_
  rw [show (xs (nI (i + 5)).toNatClampNeg : Int32) = xs (i + 5) from by rw [nI_clamp (by omega)]]
  rw [show (xs (i + 5) : Int32) = x3 from hx3.symm]
  have hPc := hP.sub (ws' := (mo_ws m0 e0 0 0 0 0 0 0 0 0 0 0 a0 a1 a2 a3 a4 a5 a6 a7 a8 a9 mb0 mb1 oc mb2 mb3 mb4 mb5 ++ (iw_ws a4 cI 4 kf ++ (iw_ws a5 cI 4 sf ++ iw_ws a6 cI 64 vf)))) [23, 32, 35, 36] rfl
  have hDc := hD.sub (ws' := (mo_ws m0 e0 0 0 0 0 0 0 0 0 0 0 a0 a1 a2 a3 a4 a5 a6 a7 a8 a9 mb0 mb1 oc mb2 mb3 mb4 mb5 ++ (iw_ws a4 cI 4 kf ++ (iw_ws a5 cI 4 sf ++ iw_ws a6 cI 64 vf)))) [23, 32, 35, 36] (by decide) rfl
  have hKc := hK.sub (tys' := [(cJ, .long), (cI, .int)]) [0, 1] rfl
  have hFc := va_free (wc := (mo_ws m0 e0 0 0 0 0 0 0 0 0 0 0 a0 a1 a2 a3 a4 a5 a6 a7 a8 a9 mb0 mb1 oc mb2 mb3 mb4 mb5 ++ (iw_ws a4 cI 4 kf ++ (iw_ws a5 cI 4 sf ++ iw_ws a6 cI 64 vf)))) hD hS hA [23, 32, 35, 36] rfl
  refine va_calll (va_runV (As := [.long x1, .long x2, .int x3]) (rest := []) ⟨hx, hb, hml, hown, hts⟩ (c_Bm_begin_1 l dC dI cJ cI H.size m0 e0 0 0 0 0 0 0 0 0 0 0 a0 a1 a2 a3 a4 a5 a6 a7 a8 a9 mb0 mb1 oc mb2 mb3 mb4 mb5 kf sf vf x1 x2 x3 (fun q => hC (bg_iff.mpr q))) (cwV 3 hts (gw_V gk_1008 gk_1009 gk_1010 gk_7 gk_1011) rfl rfl rfl (by decide +kernel) ⟨(Nat.le_of_ble_eq_true rfl), (Nat.le_of_ble_eq_true rfl)⟩) ⟨fun a U g mk q => by obtain ⟨q0, q1, qP, qK, qD⟩ := q; exact ⟨q0, q1, qP, va_K.moved (u := U) (U := U.calling g mk a) (Vm.Alike.refl U.vm) qK, qD⟩, va_recv hK hP (ci := 8) (q0 := 23) rfl rfl, fun U hU hW => ⟨rfl, by rw [hU], by rw [hU]; exact hPc, va_K.moved hW.alike hKc, hDc.weaken (fun _ _ _ _ => trivial)⟩⟩ rfl rfl hl.1 rfl (lv_room (Nat.le_of_ble_eq_true rfl)) d_law_220 ⟨show cells + 8 + 0 ≤ 601024 by omega, show slots + 48 + 0 ≤ 7293034 by omega⟩) hS (fun q _ h => hFc q h) hFc (fun r_9 v9 t9 H1 locs ht hvm hw hB hz1 hk1 hS => ?_)
  obtain ⟨hP1, hK1, hD1⟩ := hB
  rw [ht] at hP1
  obtain ⟨hP, hD⟩ := va_joinQ (X := (jw_ws out cJ 1 of ++ (bb_ws b0 bd0 pr0 t0 au0 da .null ++ (rw_ws da cJ (r8 d0 d1 d2 d3 d4 d5 d6 d7) ++ (bd_ws bd0 h0 ro lo 0 cR (rrf rb) (rrf lb) ++ (pr_ws pr0 h0 cm cJ ccf ++ (ha_ws h0 aw ax ay cJ cI w csc cst cL ++ (tt_ws t0 ka aa ba sa .null cJ tZ ++ (au_ws au0 bd0 pr0 tu0 0 ++ (tt_ws tu0 uka uaa uba usa gu cJ tZ ++ (mo_ws m0 e0 0 0 0 0 0 0 0 0 0 0 a0 a1 a2 a3 a4 a5 a6 a7 a8 a9 mb0 mb1 oc mb2 mb3 mb4 mb5 ++ (iw_ws a7 cI 256 bf ++ (iw_ws a8 cI 64 sc ++ (iw_ws a9 cI 8 st ++ (iw_ws mb0 cI 8 kS ++ (iw_ws mb1 cI 64 kR ++ (jw_ws a2 cJ 4 tf ++ (jw_ws a0 cJ 1232 nf ++ (jw_ws a1 cJ 616 cf ++ (iw_ws a4 cI 4 kf ++ (jw_ws mb2 cJ 4 ky ++ (jw_ws a3 cJ 16 lf ++ (iw_ws a5 cI 4 sf ++ (iw_ws a6 cI 64 vf ++ (jw_ws mb3 cJ 128 md ++ (jw_ws mb4 cJ 4 sh ++ iw_ws mb5 cI 64 ct)))))))))))))))))))))))))) (cx := (mo_ws m0 e0 0 0 0 0 0 0 0 0 0 0 a0 a1 a2 a3 a4 a5 a6 a7 a8 a9 mb0 mb1 oc mb2 mb3 mb4 mb5 ++ (iw_ws a4 cI 4 kf ++ (iw_ws a5 cI 4 sf ++ iw_ws a6 cI 64 vf)))) (wr := (jw_ws out cJ 1 of ++ (bb_ws b0 bd0 pr0 t0 au0 da .null ++ (rw_ws da cJ (r8 d0 d1 d2 d3 d4 d5 d6 d7) ++ (bd_ws bd0 h0 ro lo 0 cR (rrf rb) (rrf lb) ++ (pr_ws pr0 h0 cm cJ ccf ++ (ha_ws h0 aw ax ay cJ cI w csc cst cL ++ (tt_ws t0 ka aa ba sa .null cJ tZ ++ (au_ws au0 bd0 pr0 tu0 0 ++ (tt_ws tu0 uka uaa uba usa gu cJ tZ ++ (iw_ws a7 cI 256 bf ++ (iw_ws a8 cI 64 sc ++ (iw_ws a9 cI 8 st ++ (iw_ws mb0 cI 8 kS ++ (iw_ws mb1 cI 64 kR ++ (jw_ws a2 cJ 4 tf ++ (jw_ws a0 cJ 1232 nf ++ (jw_ws a1 cJ 616 cf ++ (jw_ws mb2 cJ 4 ky ++ (jw_ws a3 cJ 16 lf ++ (jw_ws mb3 cJ 128 md ++ (jw_ws mb4 cJ 4 sh ++ iw_ws mb5 cI 64 ct)))))))))))))))))))))) (w1 := (mo_ws m0 1 0 0 0 0 0 0 0 0 0 0 a0 a1 a2 a3 a4 a5 a6 a7 a8 a9 mb0 mb1 oc mb2 mb3 mb4 mb5 ++ (iw_ws a4 cI 4 kf ++ (iw_ws a5 cI 4 sf ++ iw_ws a6 cI 64 vf)))) (pl := bpool rb lb cJ R Lk) hP hD [23, 32, 35, 36] [0, 1, 2, 3, 4, 5, 6, 7, 8, 9, 10, 11, 12, 13, 14, 15, 16, 17, 18, 19, 20, 21, 22, 24, 25, 26, 27, 28, 29, 30, 31, 33, 34, 37, 38, 39] rfl rfl (by decide) (by decide) hk1 hFc hP1 hD1
  have hP := hP.part (cx := (jw_ws out cJ 1 of ++ (bb_ws b0 bd0 pr0 t0 au0 da .null ++ (rw_ws da cJ (r8 d0 d1 d2 d3 d4 d5 d6 d7) ++ (bd_ws bd0 h0 ro lo 0 cR (rrf rb) (rrf lb) ++ (pr_ws pr0 h0 cm cJ ccf ++ (ha_ws h0 aw ax ay cJ cI w csc cst cL ++ (tt_ws t0 ka aa ba sa .null cJ tZ ++ (au_ws au0 bd0 pr0 tu0 0 ++ (tt_ws tu0 uka uaa uba usa gu cJ tZ ++ (mo_ws m0 1 0 0 0 0 0 0 0 0 0 0 a0 a1 a2 a3 a4 a5 a6 a7 a8 a9 mb0 mb1 oc mb2 mb3 mb4 mb5 ++ (iw_ws a7 cI 256 bf ++ (iw_ws a8 cI 64 sc ++ (iw_ws a9 cI 8 st ++ (iw_ws mb0 cI 8 kS ++ (iw_ws mb1 cI 64 kR ++ (jw_ws a2 cJ 4 tf ++ (jw_ws a0 cJ 1232 nf ++ (jw_ws a1 cJ 616 cf ++ (iw_ws a4 cI 4 kf ++ (jw_ws mb2 cJ 4 ky ++ (jw_ws a3 cJ 16 lf ++ (iw_ws a5 cI 4 sf ++ (iw_ws a6 cI 64 vf ++ (jw_ws mb3 cJ 128 md ++ (jw_ws mb4 cJ 4 sh ++ iw_ws mb5 cI 64 ct)))))))))))))))))))))))))) [0, 1, 2, 3, 4, 5, 6, 7, 8, 9, 10, 11, 12, 13, 14, 15, 16, 17, 18, 19, 20, 21, 22, 36, 23, 24, 25, 26, 27, 28, 29, 30, 37, 31, 32, 38, 39, 33, 34, 35] rfl
  have hD := hD.part (cx := (jw_ws out cJ 1 of ++ (bb_ws b0 bd0 pr0 t0 au0 da .null ++ (rw_ws da cJ (r8 d0 d1 d2 d3 d4 d5 d6 d7) ++ (bd_ws bd0 h0 ro lo 0 cR (rrf rb) (rrf lb) ++ (pr_ws pr0 h0 cm cJ ccf ++ (ha_ws h0 aw ax ay cJ cI w csc cst cL ++ (tt_ws t0 ka aa ba sa .null cJ tZ ++ (au_ws au0 bd0 pr0 tu0 0 ++ (tt_ws tu0 uka uaa uba usa gu cJ tZ ++ (mo_ws m0 1 0 0 0 0 0 0 0 0 0 0 a0 a1 a2 a3 a4 a5 a6 a7 a8 a9 mb0 mb1 oc mb2 mb3 mb4 mb5 ++ (iw_ws a7 cI 256 bf ++ (iw_ws a8 cI 64 sc ++ (iw_ws a9 cI 8 st ++ (iw_ws mb0 cI 8 kS ++ (iw_ws mb1 cI 64 kR ++ (jw_ws a2 cJ 4 tf ++ (jw_ws a0 cJ 1232 nf ++ (jw_ws a1 cJ 616 cf ++ (iw_ws a4 cI 4 kf ++ (jw_ws mb2 cJ 4 ky ++ (jw_ws a3 cJ 16 lf ++ (iw_ws a5 cI 4 sf ++ (iw_ws a6 cI 64 vf ++ (jw_ws mb3 cJ 128 md ++ (jw_ws mb4 cJ 4 sh ++ iw_ws mb5 cI 64 ct)))))))))))))))))))))))))) [0, 1, 2, 3, 4, 5, 6, 7, 8, 9, 10, 11, 12, 13, 14, 15, 16, 17, 18, 19, 20, 21, 22, 36, 23, 24, 25, 26, 27, 28, 29, 30, 37, 31, 32, 38, 39, 33, 34, 35] (by decide) rfl
  generalize H1 = H at hP hS ⊢
  clear hPc hDc hFc hP1 hD1 hK1 ht hk1 hz1
  refine lv_lstore (lv' := [(6, .long r_9), (5, .int 1), (4, .int (nI i)), (3, .ref out), (2, .ref m0), (1, .ref b0), (0, .ref b)]) hx hb d_law_223 hl (by decide) rfl (fun ls hl => ?_)
  refine lv_aload_n hx hb d_law_225 rfl (lv_at hl 4 rfl) ?_
  have hPc := hP.sub (ws' := (mo_ws m0 1 0 0 0 0 0 0 0 0 0 0 a0 a1 a2 a3 a4 a5 a6 a7 a8 a9 mb0 mb1 oc mb2 mb3 mb4 mb5)) [23] rfl
  have hKc := hK.sub (tys' := [(cJ, .long), (cI, .int)]) [0, 1] rfl
  refine va_calli (va_runV (As := []) (rest := []) ⟨hx, hb, hml, hown, hts⟩ (c_Bm_thrown l H dC dI cJ cI m0 1 0 0 0 0 0 0 0 0 0 0 a0 a1 a2 a3 a4 a5 a6 a7 a8 a9 mb0 mb1 oc mb2 mb3 mb4 mb5 hPc) (cwV 0 hts (gw_V gk_1004 gk_1005 gk_1006 gk_7 gk_1007) rfl rfl rfl (by decide +kernel) ⟨(Nat.le_of_ble_eq_true rfl), (Nat.le_of_ble_eq_true rfl)⟩) ⟨fun a U g mk q => ⟨q.1, q.2.1, va_K.moved (u := U) (U := U.calling g mk a) (Vm.Alike.refl U.vm) q.2.2⟩, va_recv hK hP (ci := 8) (q0 := 23) rfl rfl, fun U hU hW => ⟨rfl, hU, va_K.moved hW.alike hKc⟩⟩ rfl rfl hl.1 rfl (lv_room (Nat.le_of_ble_eq_true rfl)) d_law_226 ⟨show cells + 8 + 0 + 0 ≤ 601024 by omega, show slots + 48 + 0 + 0 ≤ 7293034 by omega⟩) hS (fun q _ h => h.elim) (fun q h => h.elim) (fun r_10 w9 t9 H1 locs ht hvm hw9 hB hz1 hk1 hS => ?_)
  obtain rfl : H = H1 := hB.symm.trans ht
  have hw9 : r_10 = 1 := hw9
  subst hw9
  clear hPc hz1 hk1 hB
  refine lv_iload hx hb d_law_229 (lv_at hl 1 rfl) ?_
  refine lv_icmp_eq (tgt := 236) hx hb d_law_231 (by decide) (fun c_11 => ?_) (fun c_11 => ?_)
  · -- taken
    refine lv_iload hx hb d_law_236 (lv_at hl 1 rfl) ?_
    refine lv_if_ne (tgt := 252) hx hb d_law_238 (by decide) (fun c_12 => ?_) (fun c_12 => ?_)
    · -- taken
      refine lv_goto (tgt := 1965) hx hb d_law_252 (by decide) ?_
      refine W.widen (k := cells + 20) (n := slots + 200) (by omega) (by omega) ?_
      have hI9 : LI dC dI cJ cI cR A out b0 m0 H := LF.mk hP hD
      exact cont _ _ _ hS hI9 (lv_sub hl [2, 3, 4, 5, 6] rfl)
    · -- not taken
      exact absurd c_12 (by decide)
  · -- not taken
    exact absurd c_11 (by decide)
