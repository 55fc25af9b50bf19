theorem i2l_nI {n : Nat} (h : n < 2 ^ 31) : (nI n).toInt64 = lN n := nI_l h
theorem pw_q {P Q Y : Nat} (h : Y ^ Q % P = 1) {C : Nat} (hC : C < Q) : Y ^ (Q - C) % P = Y ^ ((Q - C) % Q) % P := by
  rcases Nat.eq_zero_or_pos C with h0 | h0
  · rw [h0, Nat.sub_zero, Nat.mod_self, Nat.pow_zero, h]
    rcases Nat.lt_or_ge 1 P with h1 | h1
    · rw [Nat.mod_eq_of_lt h1]
    · rcases Nat.lt_or_ge 0 P with h2 | h2
      · have : P = 1 := by omega
        rw [this, Nat.mod_one] at h
        omega
      · have : P = 0 := by omega
        rw [this, Nat.mod_zero]
  · rw [Nat.mod_eq_of_lt (show Q - C < Q by omega)]
theorem bk_mul {P Q X Y C : Nat} (h : Y ^ Q % P = 1) (hC : C < Q) : (X % P) * (Y ^ (Q - C) % P) % P = X * Y ^ ((Q - C) % Q) % P := by
  rw [pw_q h hC, ← Nat.mul_mod]
theorem pw_mul {P A B Q : Nat} : (A * B % P) ^ Q % P = (A ^ Q % P) * (B ^ Q % P) % P := by
  rw [← Nat.pow_mod, Nat.mul_pow, Nat.mul_mod]
theorem in_mul {P A B Q : Nat} (h1 : 1 < P) (hA : A ^ Q % P = 1) (hB : B ^ Q % P = 1) : (A * B % P) ^ Q % P = 1 := by
  rw [pw_mul, hA, hB, Nat.mul_one, Nat.mod_eq_of_lt h1]
theorem in_pow {P A Q : Nat} (h1 : 1 < P) (hA : A ^ Q % P = 1) (k : Nat) : (A ^ k % P) ^ Q % P = 1 := by
  rw [← Nat.pow_mod, ← Nat.pow_mul, Nat.mul_comm, Nat.pow_mul, Nat.pow_mod, hA, Nat.one_pow, Nat.mod_eq_of_lt h1]
theorem one_lt_of {P Q G : Nat} (hG : G ^ Q % P = 1) (hP : P ≠ 0) (h : P ≠ 1) : 1 < P := by omega
theorem bg_q {P Q B G : Nat} (hB : B ^ Q % P = 1) (hG : G ^ Q % P = 1) (h1 : 1 < P := by omega) : (B * (G ^ (Q - 1) % P) % P) ^ Q % P = 1 := in_mul h1 hB (in_pow h1 hG _)
abbrev b_Bm_keyHolds : ByteArray := prog_10_method_29_code
abbrev y_Bm_keyHolds : MethodName := ⟨"BallotBoardModel", "keyHolds", "(IJJJ)Z"⟩
abbrev w_Bm_keyHolds : List Cond := .code y_Bm_keyHolds b_Bm_keyHolds 8 (some .boolean) :: gw
theorem d_Bm_keyHolds_0 : decode b_Bm_keyHolds 0 = .ok (.aload_n 0, 1) := by decide +kernel
theorem d_Bm_keyHolds_1 : decode b_Bm_keyHolds 1 = .ok (.lload 4, 2) := by decide +kernel
theorem d_Bm_keyHolds_3 : decode b_Bm_keyHolds 3 = .ok (.invokevirtual 244, 3) := by decide +kernel
theorem d_Bm_keyHolds_6 : decode b_Bm_keyHolds 6 = .ok (.ifCond .eq 59, 3) := by decide +kernel
theorem d_Bm_keyHolds_9 : decode b_Bm_keyHolds 9 = .ok (.aload_n 0, 1) := by decide +kernel
theorem d_Bm_keyHolds_10 : decode b_Bm_keyHolds 10 = .ok (.lload 6, 2) := by decide +kernel
theorem d_Bm_keyHolds_12 : decode b_Bm_keyHolds 12 = .ok (.invokevirtual 244, 3) := by decide +kernel
theorem d_Bm_keyHolds_15 : decode b_Bm_keyHolds 15 = .ok (.ifCond .eq 50, 3) := by decide +kernel
theorem d_Bm_keyHolds_18 : decode b_Bm_keyHolds 18 = .ok (.aload_n 0, 1) := by decide +kernel
theorem d_Bm_keyHolds_19 : decode b_Bm_keyHolds 19 = .ok (.lload_n 2, 1) := by decide +kernel
theorem d_Bm_keyHolds_20 : decode b_Bm_keyHolds 20 = .ok (.invokevirtual 247, 3) := by decide +kernel
theorem d_Bm_keyHolds_23 : decode b_Bm_keyHolds 23 = .ok (.ifCond .eq 42, 3) := by decide +kernel
theorem d_Bm_keyHolds_26 : decode b_Bm_keyHolds 26 = .ok (.lload 4, 2) := by decide +kernel
theorem d_Bm_keyHolds_28 : decode b_Bm_keyHolds 28 = .ok (.aload_n 0, 1) := by decide +kernel
theorem d_Bm_keyHolds_29 : decode b_Bm_keyHolds 29 = .ok (.lconst 1, 1) := by decide +kernel
theorem d_Bm_keyHolds_30 : decode b_Bm_keyHolds 30 = .ok (.iload_n 1, 1) := by decide +kernel
theorem d_Bm_keyHolds_31 : decode b_Bm_keyHolds 31 = .ok (.i2l, 1) := by decide +kernel
theorem d_Bm_keyHolds_32 : decode b_Bm_keyHolds 32 = .ok (.lload_n 2, 1) := by decide +kernel
theorem d_Bm_keyHolds_33 : decode b_Bm_keyHolds 33 = .ok (.aload_n 0, 1) := by decide +kernel
theorem d_Bm_keyHolds_34 : decode b_Bm_keyHolds 34 = .ok (.aload_n 0, 1) := by decide +kernel
theorem d_Bm_keyHolds_35 : decode b_Bm_keyHolds 35 = .ok (.aload_n 0, 1) := by decide +kernel
theorem d_Bm_keyHolds_36 : decode b_Bm_keyHolds 36 = .ok (.getfield 180, 3) := by decide +kernel
theorem d_Bm_keyHolds_39 : decode b_Bm_keyHolds 39 = .ok (.lload 6, 2) := by decide +kernel
theorem d_Bm_keyHolds_41 : decode b_Bm_keyHolds 41 = .ok (.invokevirtual 171, 3) := by decide +kernel
theorem d_Bm_keyHolds_44 : decode b_Bm_keyHolds 44 = .ok (.aload_n 0, 1) := by decide +kernel
theorem d_Bm_keyHolds_45 : decode b_Bm_keyHolds 45 = .ok (.lload_n 2, 1) := by decide +kernel
theorem d_Bm_keyHolds_46 : decode b_Bm_keyHolds 46 = .ok (.lload 4, 2) := by decide +kernel
theorem d_Bm_keyHolds_48 : decode b_Bm_keyHolds 48 = .ok (.invokevirtual 174, 3) := by decide +kernel
theorem d_Bm_keyHolds_51 : decode b_Bm_keyHolds 51 = .ok (.invokevirtual 177, 3) := by decide +kernel
theorem d_Bm_keyHolds_54 : decode b_Bm_keyHolds 54 = .ok (.invokevirtual 250, 3) := by decide +kernel
theorem d_Bm_keyHolds_57 : decode b_Bm_keyHolds 57 = .ok (.lcmp, 1) := by decide +kernel
theorem d_Bm_keyHolds_58 : decode b_Bm_keyHolds 58 = .ok (.ifCond .ne 7, 3) := by decide +kernel
theorem d_Bm_keyHolds_61 : decode b_Bm_keyHolds 61 = .ok (.iconst 1, 1) := by decide +kernel
theorem d_Bm_keyHolds_62 : decode b_Bm_keyHolds 62 = .ok (.goto 4, 3) := by decide +kernel
theorem d_Bm_keyHolds_65 : decode b_Bm_keyHolds 65 = .ok (.iconst 0, 1) := by decide +kernel
theorem d_Bm_keyHolds_66 : decode b_Bm_keyHolds 66 = .ok (.ireturn, 1) := by decide +kernel
set_option maxHeartbeats 8000000 in
set_option maxRecDepth 100000 in
theorem c_Bm_keyHolds (l : Launch) (dC : Nat → ClassId) (dI : Nat → Nat → Nat) (cJ cI : ClassId) (sz : Nat) (m0 : Nat) (z0 z1 z2 z3 : Int32) (z7 z8 z9 : Int64) (z10 : Int32) (a0 a1 a2 a3 a4 a5 a6 a7 a8 a9 b0 b1 oc b2 b3 b4 b5 : Nat) (P Q G : Nat) (bf sc st : Nat → Int32) (tf lf : Nat → Int64) (I : Nat) (x1 x2 x3 : Int64) (hPQ : P = 2 * Q + 1) (h61F : P < 2 ^ 61) (hQ3 : 3 ≤ Q) (hG2 : 2 ≤ G) (hGP : G < P) (hGQ : G ^ Q % P = 1) (hI : I < 2 ^ 31) : Met l y_Bm_keyHolds w_Bm_keyHolds ({ frames := 6, cells := 0, slots := 0, locals := 177 }) (va_Pc [.ref m0, .int (nI I), .long x1, .long x2, .long x3] (fun U => U.heap.size = sz ∧ va_P (dC, dI) classes (mo_ws m0 z0 z1 z2 z3 (lN P) (lN Q) (lN G) z7 z8 z9 z10 a0 a1 a2 a3 a4 a5 a6 a7 a8 a9 b0 b1 oc b2 b3 b4 b5 ++ (iw_ws a7 cI 256 bf ++ (iw_ws a8 cI 64 sc ++ (iw_ws a9 cI 8 st ++ (iw_ws b0 cI 8 kS ++ (iw_ws b1 cI 64 kR ++ (jw_ws a2 cJ 4 tf ++ (jw_ws a3 cJ 16 lf)))))))) U.heap ∧ va_K (dC, dI) classes [(cJ, .long), (cI, .int)] U ∧ va_D (fun _ => True) (mo_ws m0 z0 z1 z2 z3 (lN P) (lN Q) (lN G) z7 z8 z9 z10 a0 a1 a2 a3 a4 a5 a6 a7 a8 a9 b0 b1 oc b2 b3 b4 b5 ++ (iw_ws a7 cI 256 bf ++ (iw_ws a8 cI 64 sc ++ (iw_ws a9 cI 8 st ++ (iw_ws b0 cI 8 kS ++ (iw_ws b1 cI 64 kR ++ (jw_ws a2 cJ 4 tf ++ (jw_ws a3 cJ 16 lf)))))))))) (va_Qi (fun (r : Int32) (u9 : DU × (Nat → Int64)) => bz r (keyHd P Q G I x1 x2 x3)) (fun u9 t => va_P (dC, dI) classes (mo_ws m0 z0 z1 z2 z3 (lN P) (lN Q) (lN G) z7 z8 z9 z10 a0 a1 a2 a3 a4 a5 a6 a7 a8 a9 b0 b1 u9.1.2.2.2.2 b2 b3 b4 b5 ++ (iw_ws a7 cI 256 u9.1.1 ++ (iw_ws a8 cI 64 u9.1.2.1 ++ (iw_ws a9 cI 8 u9.1.2.2.1 ++ (iw_ws b0 cI 8 kS ++ (iw_ws b1 cI 64 kR ++ (jw_ws a2 cJ 4 u9.1.2.2.2.1 ++ (jw_ws a3 cJ 16 u9.2)))))))) t.heap ∧ va_K (dC, dI) classes [(cJ, .long), (cI, .int)] t ∧ va_D (va_A (mo_ws m0 z0 z1 z2 z3 (lN P) (lN Q) (lN G) z7 z8 z9 z10 a0 a1 a2 a3 a4 a5 a6 a7 a8 a9 b0 b1 oc b2 b3 b4 b5 ++ (iw_ws a7 cI 256 bf ++ (iw_ws a8 cI 64 sc ++ (iw_ws a9 cI 8 st ++ (iw_ws b0 cI 8 kS ++ (iw_ws b1 cI 64 kR ++ (jw_ws a2 cJ 4 tf ++ (jw_ws a3 cJ 16 lf)))))))) sz) (mo_ws m0 z0 z1 z2 z3 (lN P) (lN Q) (lN G) z7 z8 z9 z10 a0 a1 a2 a3 a4 a5 a6 a7 a8 a9 b0 b1 u9.1.2.2.2.2 b2 b3 b4 b5 ++ (iw_ws a7 cI 256 u9.1.1 ++ (iw_ws a8 cI 64 u9.1.2.1 ++ (iw_ws a9 cI 8 u9.1.2.2.1 ++ (iw_ws b0 cI 8 kS ++ (iw_ws b1 cI 64 kR ++ (jw_ws a2 cJ 4 u9.1.2.2.2.1 ++ (jw_ws a3 cJ 16 u9.2))))))))) (va_A (mo_ws m0 z0 z1 z2 z3 (lN P) (lN Q) (lN G) z7 z8 z9 z10 a0 a1 a2 a3 a4 a5 a6 a7 a8 a9 b0 b1 oc b2 b3 b4 b5 ++ (iw_ws a7 cI 256 bf ++ (iw_ws a8 cI 64 sc ++ (iw_ws a9 cI 8 st ++ (iw_ws b0 cI 8 kS ++ (iw_ws b1 cI 64 kR ++ (jw_ws a2 cJ 4 tf ++ (jw_ws a3 cJ 16 lf)))))))) sz)) 0 0 (va_A (mo_ws m0 z0 z1 z2 z3 (lN P) (lN Q) (lN G) z7 z8 z9 z10 a0 a1 a2 a3 a4 a5 a6 a7 a8 a9 b0 b1 oc b2 b3 b4 b5 ++ (iw_ws a7 cI 256 bf ++ (iw_ws a8 cI 64 sc ++ (iw_ws a9 cI 8 st ++ (iw_ws b0 cI 8 kS ++ (iw_ws b1 cI 64 kR ++ (jw_ws a2 cJ 4 tf ++ (jw_ws a3 cJ 16 lf)))))))) sz) := by
  refine Met.ofW (cc := b_Bm_keyHolds) (maxL := 8) (ret := (some .boolean)) (by decide) rfl ?_
  intro p e s m args below meth c s₁ Bd hml hv
  obtain ⟨rfl, hsz, hP, hK, hD0⟩ := hv
  have hx := Bd.exec
  have hb := Bd.bytes
  have hr := Bd.returns
  have hts := atoms_spec (ws := w_Bm_keyHolds) Bd.pre
  have hown : s.vm.findClass "BallotBoardModel" = some m.cls := findClass_of_methodNamed Bd.named
  have hlocks := Bd.notSynchronized
  subst hsz
  have hD := hD0.self (sz := s.heap.size)
  generalize hAe : va_A (mo_ws m0 z0 z1 z2 z3 (lN P) (lN Q) (lN G) z7 z8 z9 z10 a0 a1 a2 a3 a4 a5 a6 a7 a8 a9 b0 b1 oc b2 b3 b4 b5 ++ (iw_ws a7 cI 256 bf ++ (iw_ws a8 cI 64 sc ++ (iw_ws a9 cI 8 st ++ (iw_ws b0 cI 8 kS ++ (iw_ws b1 cI 64 kR ++ (jw_ws a2 cJ 4 tf ++ (jw_ws a3 cJ 16 lf)))))))) s.heap.size = A at hD ⊢
  have hA : ∀ q : Nat, s.heap.size ≤ q → A q := fun q h => by rw [← hAe]; exact Or.inr h
  have hS : va_S A s.heap s.heap [] := va_S.rf
  have hl := lv_entry ([.ref m0, .int (nI I), .long x1, .long x2, .long x3]) (n := 8) (Nat.le_of_ble_eq_true rfl)
  rw [lg_entry_eq]
  generalize (lg_sl ([.ref m0, .int (nI I), .long x1, .long x2, .long x3]) ++ List.replicate (8 - (lg_sl ([.ref m0, .int (nI I), .long x1, .long x2, .long x3])).length) Slot.unset).toArray = ls at hl ⊢
  have hl : lv_has ls 8 [(0, .ref m0), (1, .int (nI I)), (2, .long x1), (4, .long x2), (6, .long x3)] := hl
  refine lv_aload_n hx hb d_Bm_keyHolds_0 rfl (lv_at hl 0 rfl) ?_
  refine lv_lload hx hb d_Bm_keyHolds_1 (lv_at hl 3 rfl) ?_
  have hPc := hP.sub (ws' := (mo_ws m0 z0 z1 z2 z3 (lN P) (lN Q) (lN G) z7 z8 z9 z10 a0 a1 a2 a3 a4 a5 a6 a7 a8 a9 b0 b1 oc b2 b3 b4 b5)) [0] rfl
  have hKc := hK.sub (tys' := [(cJ, .long), (cI, .int)]) [0, 1] rfl
  refine va_calli (va_runV (As := [.long x2]) (rest := []) ⟨hx, hb, hml, hown, hts⟩ (c_Bm_isExponent l s.heap dC dI cJ cI m0 z0 z1 z2 z3 z7 z8 z9 z10 a0 a1 a2 a3 a4 a5 a6 a7 a8 a9 b0 b1 oc b2 b3 b4 b5 P Q G x2 hPc hPQ h61F hQ3 ) (cwV 1 hts (gw_V gk_1042 gk_1044 gp_29 gk_7 gk_1045) rfl rfl rfl (by decide +kernel) ⟨Nat.le_of_ble_eq_true rfl, Nat.le_of_ble_eq_true rfl⟩) ⟨fun a U g mk q => ⟨q.1, q.2.1, va_K.moved (u := U) (U := U.calling g mk a) (Vm.Alike.refl U.vm) q.2.2⟩, va_recv hK hP (ci := 8) (q0 := 0) rfl rfl, fun U hU hW => ⟨rfl, hU, va_K.moved hW.alike hKc⟩⟩ rfl rfl hl.1 rfl (lv_room (Nat.le_of_ble_eq_true rfl)) d_Bm_keyHolds_3 ⟨Nat.le_of_ble_eq_true rfl, Nat.le_of_ble_eq_true rfl⟩) hS (fun q _ h => h.elim) (fun q h => h.elim) (fun r3 u9 t9 H1 locs ht hvm hw hB hz1 hk1 hS => ?_)
  obtain rfl : s.heap = H1 := hB.symm.trans ht
  have h3 := hw
  refine lv_if_eq (tgt := 65) hx hb d_Bm_keyHolds_6 (by decide) (fun c_1 => ?_) (fun c_1 => ?_)
  · -- taken
    have hbad : ¬ keyHd P Q G I x1 x2 x3 := fun ⟨Y2, C2, Z2, a2, a3, a4, hC2, hZ2, hY2, hY3, hY4, hh⟩ => bz_f h3 c_1 ⟨C2, a3, hC2⟩
    refine lv_iconst (v := 0) hx hb d_Bm_keyHolds_65 (by decide) ?_
    exact W.zret (v := 0) hx hb hr (by decide) (fun t ht9 hW => ⟨⟨_, ((bf, sc, st, tf, oc), lf), rfl, (bz_0 hbad), by rw [ht9]; exact hP, va_K.moved hW.alike hK, hD⟩, hS.F ht9⟩) hS.2.2 d_Bm_keyHolds_66
  · -- not taken
    have bo3 := bz_t h3 c_1
    refine lv_aload_n hx hb d_Bm_keyHolds_9 rfl (lv_at hl 0 rfl) ?_
    refine lv_lload hx hb d_Bm_keyHolds_10 (lv_at hl 4 rfl) ?_
    have hPc := hP.sub (ws' := (mo_ws m0 z0 z1 z2 z3 (lN P) (lN Q) (lN G) z7 z8 z9 z10 a0 a1 a2 a3 a4 a5 a6 a7 a8 a9 b0 b1 oc b2 b3 b4 b5)) [0] rfl
    have hKc := hK.sub (tys' := [(cJ, .long), (cI, .int)]) [0, 1] rfl
    refine va_calli (va_runV (As := [.long x3]) (rest := []) ⟨hx, hb, hml, hown, hts⟩ (c_Bm_isExponent l s.heap dC dI cJ cI m0 z0 z1 z2 z3 z7 z8 z9 z10 a0 a1 a2 a3 a4 a5 a6 a7 a8 a9 b0 b1 oc b2 b3 b4 b5 P Q G x3 hPc hPQ h61F hQ3 ) (cwV 1 hts (gw_V gk_1042 gk_1044 gp_29 gk_7 gk_1045) rfl rfl rfl (by decide +kernel) ⟨Nat.le_of_ble_eq_true rfl, Nat.le_of_ble_eq_true rfl⟩) ⟨fun a U g mk q => ⟨q.1, q.2.1, va_K.moved (u := U) (U := U.calling g mk a) (Vm.Alike.refl U.vm) q.2.2⟩, va_recv hK hP (ci := 8) (q0 := 0) rfl rfl, fun U hU hW => ⟨rfl, hU, va_K.moved hW.alike hKc⟩⟩ rfl rfl hl.1 rfl (lv_room (Nat.le_of_ble_eq_true rfl)) d_Bm_keyHolds_12 ⟨Nat.le_of_ble_eq_true rfl, Nat.le_of_ble_eq_true rfl⟩) hS (fun q _ h => h.elim) (fun q h => h.elim) (fun r12 u9 t9 H1 locs ht hvm hw hB hz1 hk1 hS => ?_)
    obtain rfl : s.heap = H1 := hB.symm.trans ht
    have h12 := hw
    refine lv_if_eq (tgt := 65) hx hb d_Bm_keyHolds_15 (by decide) (fun c_2 => ?_) (fun c_2 => ?_)
    · -- taken
      have hbad : ¬ keyHd P Q G I x1 x2 x3 := fun ⟨Y2, C2, Z2, a2, a3, a4, hC2, hZ2, hY2, hY3, hY4, hh⟩ => bz_f h12 c_2 ⟨Z2, a4, hZ2⟩
      refine lv_iconst (v := 0) hx hb d_Bm_keyHolds_65 (by decide) ?_
      exact W.zret (v := 0) hx hb hr (by decide) (fun t ht9 hW => ⟨⟨_, ((bf, sc, st, tf, oc), lf), rfl, (bz_0 hbad), by rw [ht9]; exact hP, va_K.moved hW.alike hK, hD⟩, hS.F ht9⟩) hS.2.2 d_Bm_keyHolds_66
    · -- not taken
      have bo12 := bz_t h12 c_2
      refine lv_aload_n hx hb d_Bm_keyHolds_18 rfl (lv_at hl 0 rfl) ?_
      refine lv_lload_n hx hb d_Bm_keyHolds_19 rfl (lv_at hl 2 rfl) ?_
      have hPc := hP.sub (ws' := (mo_ws m0 z0 z1 z2 z3 (lN P) (lN Q) (lN G) z7 z8 z9 z10 a0 a1 a2 a3 a4 a5 a6 a7 a8 a9 b0 b1 oc b2 b3 b4 b5)) [0] rfl
      have hKc := hK.sub (tys' := [(cJ, .long), (cI, .int)]) [0, 1] rfl
      refine va_calli (va_runV (As := [.long x1]) (rest := []) ⟨hx, hb, hml, hown, hts⟩ (c_Bm_isIn l s.heap dC dI cJ cI m0 z0 z1 z2 z3 z7 z8 z9 z10 a0 a1 a2 a3 a4 a5 a6 a7 a8 a9 b0 b1 oc b2 b3 b4 b5 P Q G x1 hPc hPQ h61F hQ3 ) (cwV 1 hts (gw_V gk_1046 gk_1048 gp_30 gk_7 gk_1049) rfl rfl rfl (by decide +kernel) ⟨Nat.le_of_ble_eq_true rfl, Nat.le_of_ble_eq_true rfl⟩) ⟨fun a U g mk q => ⟨q.1, q.2.1, va_K.moved (u := U) (U := U.calling g mk a) (Vm.Alike.refl U.vm) q.2.2⟩, va_recv hK hP (ci := 8) (q0 := 0) rfl rfl, fun U hU hW => ⟨rfl, hU, va_K.moved hW.alike hKc⟩⟩ rfl rfl hl.1 rfl (lv_room (Nat.le_of_ble_eq_true rfl)) d_Bm_keyHolds_20 ⟨Nat.le_of_ble_eq_true rfl, Nat.le_of_ble_eq_true rfl⟩) hS (fun q _ h => h.elim) (fun q h => h.elim) (fun r20 u9 t9 H1 locs ht hvm hw hB hz1 hk1 hS => ?_)
      obtain rfl : s.heap = H1 := hB.symm.trans ht
      have h20 := hw
      refine lv_if_eq (tgt := 65) hx hb d_Bm_keyHolds_23 (by decide) (fun c_3 => ?_) (fun c_3 => ?_)
      · -- taken
        have hbad : ¬ keyHd P Q G I x1 x2 x3 := fun ⟨Y2, C2, Z2, a2, a3, a4, hC2, hZ2, hY2, hY3, hY4, hh⟩ => bz_f h20 c_3 ⟨Y2, a2, hY2, hY3, hY4⟩
        refine lv_iconst (v := 0) hx hb d_Bm_keyHolds_65 (by decide) ?_
        exact W.zret (v := 0) hx hb hr (by decide) (fun t ht9 hW => ⟨⟨_, ((bf, sc, st, tf, oc), lf), rfl, (bz_0 hbad), by rw [ht9]; exact hP, va_K.moved hW.alike hK, hD⟩, hS.F ht9⟩) hS.2.2 d_Bm_keyHolds_66
      · -- not taken
        obtain ⟨C1, rfl, hC9⟩ := bo3
        obtain ⟨Z1, rfl, hZ9⟩ := bo12
        obtain ⟨Y1, rfl, hY1, hY9, hYQ⟩ := bz_t h20 c_3
        refine lv_lload hx hb d_Bm_keyHolds_26 (lv_at hl 3 rfl) ?_
        refine lv_aload_n hx hb d_Bm_keyHolds_28 rfl (lv_at hl 0 rfl) ?_
        refine lv_lconst (v := 1) hx hb d_Bm_keyHolds_29 (by decide) ?_
        refine lv_iload_n hx hb d_Bm_keyHolds_30 rfl (lv_at hl 1 rfl) ?_
        refine lv_i2l (v := (nI I : Int32).toInt64) hx hb d_Bm_keyHolds_31 rfl ?_
        rw [show ((nI I : Int32).toInt64 : Int64) = (lN I) from i2l_nI hI]
        refine lv_lload_n hx hb d_Bm_keyHolds_32 rfl (lv_at hl 2 rfl) ?_
        refine lv_aload_n hx hb d_Bm_keyHolds_33 rfl (lv_at hl 0 rfl) ?_
        refine lv_aload_n hx hb d_Bm_keyHolds_34 rfl (lv_at hl 0 rfl) ?_
        refine lv_aload_n hx hb d_Bm_keyHolds_35 rfl (lv_at hl 0 rfl) ?_
        refine va_get (D := (dC, dI)) (ci := 8) (v := .long (lN G)) (C := "BallotBoardModel") (T := F_Bm) (N := 28) hx hb hts (fun w9 h9 => List.mem_cons_of_mem _ (i_Bm w9 h9)) hown hK hP 0 rfl rfl 6 (by decide) (hts _ (List.mem_cons_of_mem _ gk_925)) (fun _ h9 => h9) rfl d_Bm_keyHolds_36 ?_
        refine lv_lload hx hb d_Bm_keyHolds_39 (lv_at hl 4 rfl) ?_
        have hPc := hP.sub (ws' := (mo_ws m0 z0 z1 z2 z3 (lN P) (lN Q) (lN G) z7 z8 z9 z10 a0 a1 a2 a3 a4 a5 a6 a7 a8 a9 b0 b1 oc b2 b3 b4 b5)) [0] rfl
        have hKc := hK.sub (tys' := [(cJ, .long), (cI, .int)]) [0, 1] rfl
        refine va_calll (vw_runV (As := [.long (lN G), .long (lN Z1)]) (rest := [.ref m0, .long (lN Y1), .long (lN I), .long 1, .ref m0, .long (lN C1)]) ⟨hx, hb, hml, hown, hts⟩ (c_Bm_power2 l s.heap dC dI cJ cI m0 z0 z1 z2 z3 z7 z8 z9 z10 a0 a1 a2 a3 a4 a5 a6 a7 a8 a9 b0 b1 oc b2 b3 b4 b5 P Q G G Z1 hPc hPQ h61F hQ3 hGP (by omega)) (cwV 2 hts (gw_V gk_1050 gk_1052 gp_31 gk_7 gk_1053) rfl rfl rfl (by decide +kernel) ⟨Nat.le_of_ble_eq_true rfl, Nat.le_of_ble_eq_true rfl⟩) (Nat.le_of_ble_eq_true rfl) ⟨fun a U g mk q => ⟨q.1, q.2.1, va_K.moved (u := U) (U := U.calling g mk a) (Vm.Alike.refl U.vm) q.2.2⟩, va_recv hK hP (ci := 8) (q0 := 0) rfl rfl, fun U hU hW => ⟨rfl, hU, va_K.moved hW.alike hKc⟩⟩ rfl rfl hl.1 rfl (vw_room (Nat.le_of_ble_eq_true rfl)) d_Bm_keyHolds_41 ⟨Nat.le_of_ble_eq_true rfl, Nat.le_of_ble_eq_true rfl⟩) hS (fun q _ h => h.elim) (fun q h => h.elim) (fun r41 u9 t9 H1 locs ht hvm hw hB hz1 hk1 hS => ?_)
        obtain rfl : s.heap = H1 := hB.symm.trans ht
        have hw : r41 = lN (G ^ Z1 % P) := hw
        subst hw
        refine lv_aload_n hx hb d_Bm_keyHolds_44 rfl (lv_at hl 0 rfl) ?_
        refine lv_lload_n hx hb d_Bm_keyHolds_45 rfl (lv_at hl 2 rfl) ?_
        refine lv_lload hx hb d_Bm_keyHolds_46 (lv_at hl 3 rfl) ?_
        have hPc := hP.sub (ws' := (mo_ws m0 z0 z1 z2 z3 (lN P) (lN Q) (lN G) z7 z8 z9 z10 a0 a1 a2 a3 a4 a5 a6 a7 a8 a9 b0 b1 oc b2 b3 b4 b5)) [0] rfl
        have hKc := hK.sub (tys' := [(cJ, .long), (cI, .int)]) [0, 1] rfl
        refine va_calll (vw_runV (As := [.long (lN Y1), .long (lN C1)]) (rest := [.long (lN (G ^ Z1 % P)), .ref m0, .long (lN Y1), .long (lN I), .long 1, .ref m0, .long (lN C1)]) ⟨hx, hb, hml, hown, hts⟩ (c_Bm_back l s.heap dC dI cJ cI m0 z0 z1 z2 z3 z7 z8 z9 z10 a0 a1 a2 a3 a4 a5 a6 a7 a8 a9 b0 b1 oc b2 b3 b4 b5 P Q G Y1 C1 hPc hPQ h61F hQ3 hY9 (by omega)) (cwV 2 hts (gw_V gk_1054 gk_1056 gp_32 gk_7 gk_1057) rfl rfl rfl (by decide +kernel) ⟨Nat.le_of_ble_eq_true rfl, Nat.le_of_ble_eq_true rfl⟩) (Nat.le_of_ble_eq_true rfl) ⟨fun a U g mk q => ⟨q.1, q.2.1, va_K.moved (u := U) (U := U.calling g mk a) (Vm.Alike.refl U.vm) q.2.2⟩, va_recv hK hP (ci := 8) (q0 := 0) rfl rfl, fun U hU hW => ⟨rfl, hU, va_K.moved hW.alike hKc⟩⟩ rfl rfl hl.1 rfl (vw_room (Nat.le_of_ble_eq_true rfl)) d_Bm_keyHolds_48 ⟨Nat.le_of_ble_eq_true rfl, Nat.le_of_ble_eq_true rfl⟩) hS (fun q _ h => h.elim) (fun q h => h.elim) (fun r48 u9 t9 H1 locs ht hvm hw hB hz1 hk1 hS => ?_)
        obtain rfl : s.heap = H1 := hB.symm.trans ht
        have hw : r48 = lN (Y1 ^ (Q - C1) % P) := hw
        subst hw
        have hPc := hP.sub (ws' := (mo_ws m0 z0 z1 z2 z3 (lN P) (lN Q) (lN G) z7 z8 z9 z10 a0 a1 a2 a3 a4 a5 a6 a7 a8 a9 b0 b1 oc b2 b3 b4 b5)) [0] rfl
        have hKc := hK.sub (tys' := [(cJ, .long), (cI, .int)]) [0, 1] rfl
        refine va_calll (vw_runV (As := [.long (lN (G ^ Z1 % P)), .long (lN (Y1 ^ (Q - C1) % P))]) (rest := [.long (lN Y1), .long (lN I), .long 1, .ref m0, .long (lN C1)]) ⟨hx, hb, hml, hown, hts⟩ (c_Bm_times l s.heap dC dI cJ cI m0 z0 z1 z2 z3 z7 z8 z9 z10 a0 a1 a2 a3 a4 a5 a6 a7 a8 a9 b0 b1 oc b2 b3 b4 b5 P Q G (G ^ Z1 % P) (Y1 ^ (Q - C1) % P) hPc hPQ h61F hQ3 (Nat.mod_lt _ (by omega)) (Nat.mod_lt _ (by omega))) (cwV 2 hts (gw_V gk_1058 gk_1060 gp_33 gk_7 gk_1061) rfl rfl rfl (by decide +kernel) ⟨Nat.le_of_ble_eq_true rfl, Nat.le_of_ble_eq_true rfl⟩) (Nat.le_of_ble_eq_true rfl) ⟨fun a U g mk q => ⟨q.1, q.2.1, va_K.moved (u := U) (U := U.calling g mk a) (Vm.Alike.refl U.vm) q.2.2⟩, va_recv hK hP (ci := 8) (q0 := 0) rfl rfl, fun U hU hW => ⟨rfl, hU, va_K.moved hW.alike hKc⟩⟩ rfl rfl hl.1 rfl (vw_room (Nat.le_of_ble_eq_true rfl)) d_Bm_keyHolds_51 ⟨Nat.le_of_ble_eq_true rfl, Nat.le_of_ble_eq_true rfl⟩) hS (fun q _ h => h.elim) (fun q h => h.elim) (fun r51 u9 t9 H1 locs ht hvm hw hB hz1 hk1 hS => ?_)
        obtain rfl : s.heap = H1 := hB.symm.trans ht
        have hw : r51 = lN ((G ^ Z1 % P) * (Y1 ^ (Q - C1) % P) % P) := hw
        subst hw
        have hPc := hP.sub (ws' := (mo_ws m0 z0 z1 z2 z3 (lN P) (lN Q) (lN G) z7 z8 z9 z10 a0 a1 a2 a3 a4 a5 a6 a7 a8 a9 b0 b1 oc b2 b3 b4 b5 ++ (iw_ws a7 cI 256 bf ++ (iw_ws a8 cI 64 sc ++ (iw_ws a9 cI 8 st ++ (iw_ws b0 cI 8 kS ++ (iw_ws b1 cI 64 kR ++ (jw_ws a2 cJ 4 tf ++ (jw_ws a3 cJ 16 lf))))))))) [0, 1, 2, 3, 4, 5, 6, 7] rfl
        have hDc := hD.sub (ws' := (mo_ws m0 z0 z1 z2 z3 (lN P) (lN Q) (lN G) z7 z8 z9 z10 a0 a1 a2 a3 a4 a5 a6 a7 a8 a9 b0 b1 oc b2 b3 b4 b5 ++ (iw_ws a7 cI 256 bf ++ (iw_ws a8 cI 64 sc ++ (iw_ws a9 cI 8 st ++ (iw_ws b0 cI 8 kS ++ (iw_ws b1 cI 64 kR ++ (jw_ws a2 cJ 4 tf ++ (jw_ws a3 cJ 16 lf))))))))) [0, 1, 2, 3, 4, 5, 6, 7] (by decide) rfl
        have hKc := hK.sub (tys' := [(cJ, .long), (cI, .int)]) [0, 1] rfl
        have hFc := va_free (wc := (mo_ws m0 z0 z1 z2 z3 (lN P) (lN Q) (lN G) z7 z8 z9 z10 a0 a1 a2 a3 a4 a5 a6 a7 a8 a9 b0 b1 oc b2 b3 b4 b5 ++ (iw_ws a7 cI 256 bf ++ (iw_ws a8 cI 64 sc ++ (iw_ws a9 cI 8 st ++ (iw_ws b0 cI 8 kS ++ (iw_ws b1 cI 64 kR ++ (jw_ws a2 cJ 4 tf ++ (jw_ws a3 cJ 16 lf))))))))) hD hS hA [0, 1, 2, 3, 4, 5, 6, 7] rfl
        refine va_calll (va_runV (As := [.long 1, .long (lN I), .long (lN Y1), .long (lN ((G ^ Z1 % P) * (Y1 ^ (Q - C1) % P) % P))]) (rest := [.long (lN C1)]) ⟨hx, hb, hml, hown, hts⟩ (c_Bm_hash4 l dC dI cJ cI s.heap.size m0 z0 z1 z2 z3 z7 z8 z9 z10 a0 a1 a2 a3 a4 a5 a6 a7 a8 a9 b0 b1 oc b2 b3 b4 b5 P Q G bf sc st tf lf 1 (lN I) (lN Y1) (lN ((G ^ Z1 % P) * (Y1 ^ (Q - C1) % P) % P)) hPQ h61F hQ3) (cwV 4 hts (gw_V gk_1062 gk_1064 gp_34 gk_7 gk_1065) rfl rfl rfl (by decide +kernel) ⟨Nat.le_of_ble_eq_true rfl, Nat.le_of_ble_eq_true rfl⟩) ⟨fun a U g mk q => by obtain ⟨q0, q1, qP, qK, qD⟩ := q; exact ⟨q0, q1, qP, va_K.moved (u := U) (U := U.calling g mk a) (Vm.Alike.refl U.vm) qK, qD⟩, va_recv hK hP (ci := 8) (q0 := 0) rfl rfl, fun U hU hW => ⟨rfl, by rw [hU], by rw [hU]; exact hPc, va_K.moved hW.alike hKc, hDc.weaken (fun _ _ _ _ => trivial)⟩⟩ rfl rfl hl.1 rfl (lv_room (Nat.le_of_ble_eq_true rfl)) d_Bm_keyHolds_54 ⟨Nat.le_of_ble_eq_true rfl, Nat.le_of_ble_eq_true rfl⟩) hS (fun q _ h => hFc q h) hFc (fun r_5 u9 t9 H1 locs ht hvm hw hB hz1 hk1 hS => ?_)
        obtain ⟨⟨gbk_4, gsk_4, gtk_4, gfk_4, gok_4⟩, glk_4⟩ := u9
        have hw : r_5 = lN (hsh Q [lN P, lN G, 1, lN I, lN Y1, lN ((G ^ Z1 % P) * (Y1 ^ (Q - C1) % P) % P)]) := hw
        subst hw
        obtain ⟨hP1, hK1, hD1⟩ := hB
        rw [ht] at hP1
        obtain ⟨hP, hD⟩ := va_join (wr := []) (w1 := [(m0, .inr (8, [.int z0, .int z1, .int z2, .int z3, .long (lN P), .long (lN Q), .long (lN G), .long z7, .long z8, .long z9, .int z10, .ref a0, .ref a1, .ref a2, .ref a3, .ref a4, .ref a5, .ref a6, .ref a7, .ref a8, .ref a9, .ref b0, .ref b1, .int (nI gok_4), .ref b2, .ref b3, .ref b4, .ref b5])), (a7, .inl (cI, 256, .inl gbk_4)), (a8, .inl (cI, 64, .inl gsk_4)), (a9, .inl (cI, 8, .inl gtk_4)), (b0, .inl (cI, 8, .inl kS)), (b1, .inl (cI, 64, .inl kR)), (a2, .inl (cJ, 4, .inr (.inl gfk_4))), (a3, .inl (cJ, 16, .inr (.inl glk_4)))]) hP hD [0, 1, 2, 3, 4, 5, 6, 7] [] rfl rfl (by decide) (by decide) hk1 hFc hP1 hD1
        have hP := hP.sub (ws' := [(m0, .inr (8, [.int z0, .int z1, .int z2, .int z3, .long (lN P), .long (lN Q), .long (lN G), .long z7, .long z8, .long z9, .int z10, .ref a0, .ref a1, .ref a2, .ref a3, .ref a4, .ref a5, .ref a6, .ref a7, .ref a8, .ref a9, .ref b0, .ref b1, .int (nI gok_4), .ref b2, .ref b3, .ref b4, .ref b5])), (a7, .inl (cI, 256, .inl gbk_4)), (a8, .inl (cI, 64, .inl gsk_4)), (a9, .inl (cI, 8, .inl gtk_4)), (b0, .inl (cI, 8, .inl kS)), (b1, .inl (cI, 64, .inl kR)), (a2, .inl (cJ, 4, .inr (.inl gfk_4))), (a3, .inl (cJ, 16, .inr (.inl glk_4)))]) [0, 1, 2, 3, 4, 5, 6, 7] rfl
        have hD := hD.sub (ws' := [(m0, .inr (8, [.int z0, .int z1, .int z2, .int z3, .long (lN P), .long (lN Q), .long (lN G), .long z7, .long z8, .long z9, .int z10, .ref a0, .ref a1, .ref a2, .ref a3, .ref a4, .ref a5, .ref a6, .ref a7, .ref a8, .ref a9, .ref b0, .ref b1, .int (nI gok_4), .ref b2, .ref b3, .ref b4, .ref b5])), (a7, .inl (cI, 256, .inl gbk_4)), (a8, .inl (cI, 64, .inl gsk_4)), (a9, .inl (cI, 8, .inl gtk_4)), (b0, .inl (cI, 8, .inl kS)), (b1, .inl (cI, 64, .inl kR)), (a2, .inl (cJ, 4, .inr (.inl gfk_4))), (a3, .inl (cJ, 16, .inr (.inl glk_4)))]) [0, 1, 2, 3, 4, 5, 6, 7] (by decide) rfl
        generalize H1 = H at hP hS ⊢
        refine W.lcmp hx hb d_Bm_keyHolds_57 ?_
        refine lv_if_ne (tgt := 65) hx hb d_Bm_keyHolds_58 (by decide) (fun c_6 => ?_) (fun c_6 => ?_)
        · -- taken
          have hbad : ¬ keyHd P Q G I (lN Y1) (lN C1) (lN Z1) := by
            rintro ⟨Y2, C2, Z2, a2, a3, a4, hC2, hZ2, hY2, hY3, hY4, hh⟩
            obtain rfl := lN_inj (by omega) (by omega) a2
            obtain rfl := lN_inj (by omega) (by omega) a3
            obtain rfl := lN_inj (by omega) (by omega) a4
            refine c_6 ((ln_cmp_eq (by omega) (by have := hsh_lt (Q := Q) (by omega) [lN P, lN G, 1, lN I, lN Y1, lN ((G ^ Z1 % P) * (Y1 ^ (Q - C1) % P) % P)]; omega)).mpr ?_)
            rw [bk_mul hYQ hC9]
            exact hh
          refine lv_iconst (v := 0) hx hb d_Bm_keyHolds_65 (by decide) ?_
          exact W.zret (v := 0) hx hb hr (by decide) (fun t ht9 hW => ⟨⟨_, ((gbk_4, gsk_4, gtk_4, gfk_4, gok_4), glk_4), rfl, (bz_0 hbad), by rw [ht9]; exact hP, va_K.moved hW.alike hK, hD⟩, hS.F ht9⟩) hS.2.2 d_Bm_keyHolds_66
        · -- not taken
          have hgood : keyHd P Q G I (lN Y1) (lN C1) (lN Z1) := ⟨Y1, C1, Z1, rfl, rfl, rfl, hC9, hZ9, hY1, hY9, hYQ, by
            have h9 := (ln_cmp_eq (by omega) (by have := hsh_lt (Q := Q) (by omega) [lN P, lN G, 1, lN I, lN Y1, lN ((G ^ Z1 % P) * (Y1 ^ (Q - C1) % P) % P)]; omega)).mp c_6
            rw [bk_mul hYQ hC9] at h9
            exact h9⟩
          refine lv_iconst (v := 1) hx hb d_Bm_keyHolds_61 (by decide) ?_
          refine lv_goto (tgt := 66) hx hb d_Bm_keyHolds_62 (by decide) ?_
          exact W.zret (v := 1) hx hb hr (by decide) (fun t ht9 hW => ⟨⟨_, ((gbk_4, gsk_4, gtk_4, gfk_4, gok_4), glk_4), rfl, (bz_1 hgood), by rw [ht9]; exact hP, va_K.moved hW.alike hK, hD⟩, hS.F ht9⟩) hS.2.2 d_Bm_keyHolds_66
abbrev b_Bm_shareHolds : ByteArray := prog_10_method_39_code
abbrev y_Bm_shareHolds : MethodName := ⟨"BallotBoardModel", "shareHolds", "(IJJJJJ)Z"⟩
abbrev w_Bm_shareHolds : List Cond := .code y_Bm_shareHolds b_Bm_shareHolds 12 (some .boolean) :: gw
theorem d_Bm_shareHolds_0 : decode b_Bm_shareHolds 0 = .ok (.aload_n 0, 1) := by decide +kernel
theorem d_Bm_shareHolds_1 : decode b_Bm_shareHolds 1 = .ok (.lload 4, 2) := by decide +kernel
theorem d_Bm_shareHolds_3 : decode b_Bm_shareHolds 3 = .ok (.invokevirtual 244, 3) := by decide +kernel
theorem d_Bm_shareHolds_6 : decode b_Bm_shareHolds 6 = .ok (.ifCond .eq 83, 3) := by decide +kernel
theorem d_Bm_shareHolds_9 : decode b_Bm_shareHolds 9 = .ok (.aload_n 0, 1) := by decide +kernel
theorem d_Bm_shareHolds_10 : decode b_Bm_shareHolds 10 = .ok (.lload 6, 2) := by decide +kernel
theorem d_Bm_shareHolds_12 : decode b_Bm_shareHolds 12 = .ok (.invokevirtual 244, 3) := by decide +kernel
theorem d_Bm_shareHolds_15 : decode b_Bm_shareHolds 15 = .ok (.ifCond .eq 74, 3) := by decide +kernel
theorem d_Bm_shareHolds_18 : decode b_Bm_shareHolds 18 = .ok (.aload_n 0, 1) := by decide +kernel
theorem d_Bm_shareHolds_19 : decode b_Bm_shareHolds 19 = .ok (.lload_n 2, 1) := by decide +kernel
theorem d_Bm_shareHolds_20 : decode b_Bm_shareHolds 20 = .ok (.invokevirtual 247, 3) := by decide +kernel
theorem d_Bm_shareHolds_23 : decode b_Bm_shareHolds 23 = .ok (.ifCond .eq 66, 3) := by decide +kernel
theorem d_Bm_shareHolds_26 : decode b_Bm_shareHolds 26 = .ok (.lload 4, 2) := by decide +kernel
theorem d_Bm_shareHolds_28 : decode b_Bm_shareHolds 28 = .ok (.aload_n 0, 1) := by decide +kernel
theorem d_Bm_shareHolds_29 : decode b_Bm_shareHolds 29 = .ok (.ldc2_w 288, 3) := by decide +kernel
theorem d_Bm_shareHolds_32 : decode b_Bm_shareHolds 32 = .ok (.iload_n 1, 1) := by decide +kernel
theorem d_Bm_shareHolds_33 : decode b_Bm_shareHolds 33 = .ok (.i2l, 1) := by decide +kernel
theorem d_Bm_shareHolds_34 : decode b_Bm_shareHolds 34 = .ok (.lload 10, 2) := by decide +kernel
theorem d_Bm_shareHolds_36 : decode b_Bm_shareHolds 36 = .ok (.lload_n 2, 1) := by decide +kernel
theorem d_Bm_shareHolds_37 : decode b_Bm_shareHolds 37 = .ok (.aload_n 0, 1) := by decide +kernel
theorem d_Bm_shareHolds_38 : decode b_Bm_shareHolds 38 = .ok (.aload_n 0, 1) := by decide +kernel
theorem d_Bm_shareHolds_39 : decode b_Bm_shareHolds 39 = .ok (.aload_n 0, 1) := by decide +kernel
theorem d_Bm_shareHolds_40 : decode b_Bm_shareHolds 40 = .ok (.getfield 180, 3) := by decide +kernel
theorem d_Bm_shareHolds_43 : decode b_Bm_shareHolds 43 = .ok (.lload 6, 2) := by decide +kernel
theorem d_Bm_shareHolds_45 : decode b_Bm_shareHolds 45 = .ok (.invokevirtual 171, 3) := by decide +kernel
theorem d_Bm_shareHolds_48 : decode b_Bm_shareHolds 48 = .ok (.aload_n 0, 1) := by decide +kernel
theorem d_Bm_shareHolds_49 : decode b_Bm_shareHolds 49 = .ok (.lload 8, 2) := by decide +kernel
theorem d_Bm_shareHolds_51 : decode b_Bm_shareHolds 51 = .ok (.lload 4, 2) := by decide +kernel
theorem d_Bm_shareHolds_53 : decode b_Bm_shareHolds 53 = .ok (.invokevirtual 174, 3) := by decide +kernel
theorem d_Bm_shareHolds_56 : decode b_Bm_shareHolds 56 = .ok (.invokevirtual 177, 3) := by decide +kernel
theorem d_Bm_shareHolds_59 : decode b_Bm_shareHolds 59 = .ok (.aload_n 0, 1) := by decide +kernel
theorem d_Bm_shareHolds_60 : decode b_Bm_shareHolds 60 = .ok (.aload_n 0, 1) := by decide +kernel
theorem d_Bm_shareHolds_61 : decode b_Bm_shareHolds 61 = .ok (.lload 10, 2) := by decide +kernel
theorem d_Bm_shareHolds_63 : decode b_Bm_shareHolds 63 = .ok (.lload 6, 2) := by decide +kernel
theorem d_Bm_shareHolds_65 : decode b_Bm_shareHolds 65 = .ok (.invokevirtual 171, 3) := by decide +kernel
theorem d_Bm_shareHolds_68 : decode b_Bm_shareHolds 68 = .ok (.aload_n 0, 1) := by decide +kernel
theorem d_Bm_shareHolds_69 : decode b_Bm_shareHolds 69 = .ok (.lload_n 2, 1) := by decide +kernel
theorem d_Bm_shareHolds_70 : decode b_Bm_shareHolds 70 = .ok (.lload 4, 2) := by decide +kernel
theorem d_Bm_shareHolds_72 : decode b_Bm_shareHolds 72 = .ok (.invokevirtual 174, 3) := by decide +kernel
theorem d_Bm_shareHolds_75 : decode b_Bm_shareHolds 75 = .ok (.invokevirtual 177, 3) := by decide +kernel
theorem d_Bm_shareHolds_78 : decode b_Bm_shareHolds 78 = .ok (.invokevirtual 290, 3) := by decide +kernel
theorem d_Bm_shareHolds_81 : decode b_Bm_shareHolds 81 = .ok (.lcmp, 1) := by decide +kernel
theorem d_Bm_shareHolds_82 : decode b_Bm_shareHolds 82 = .ok (.ifCond .ne 7, 3) := by decide +kernel
theorem d_Bm_shareHolds_85 : decode b_Bm_shareHolds 85 = .ok (.iconst 1, 1) := by decide +kernel
theorem d_Bm_shareHolds_86 : decode b_Bm_shareHolds 86 = .ok (.goto 4, 3) := by decide +kernel
theorem d_Bm_shareHolds_89 : decode b_Bm_shareHolds 89 = .ok (.iconst 0, 1) := by decide +kernel
theorem d_Bm_shareHolds_90 : decode b_Bm_shareHolds 90 = .ok (.ireturn, 1) := by decide +kernel
set_option maxHeartbeats 8000000 in
set_option maxRecDepth 100000 in
theorem c_Bm_shareHolds (l : Launch) (dC : Nat → ClassId) (dI : Nat → Nat → Nat) (cJ cI : ClassId) (sz : Nat) (m0 : Nat) (z0 z1 z2 z3 : Int32) (z7 z8 z9 : Int64) (z10 : Int32) (a0 a1 a2 a3 a4 a5 a6 a7 a8 a9 b0 b1 oc b2 b3 b4 b5 : Nat) (P Q G : Nat) (bf sc st : Nat → Int32) (tf lf : Nat → Int64) (I Yi Ai : Nat) (x1 x2 x3 : Int64) (hPQ : P = 2 * Q + 1) (h61F : P < 2 ^ 61) (hQ3 : 3 ≤ Q) (hG2 : 2 ≤ G) (hGP : G < P) (hGQ : G ^ Q % P = 1) (hI : I < 2 ^ 31) (hYi : Yi < P) (hYiQ : Yi ^ Q % P = 1) (hAi : Ai < P) : Met l y_Bm_shareHolds w_Bm_shareHolds ({ frames := 6, cells := 0, slots := 0, locals := 177 }) (va_Pc [.ref m0, .int (nI I), .long x1, .long x2, .long x3, .long (lN Yi), .long (lN Ai)] (fun U => U.heap.size = sz ∧ va_P (dC, dI) classes (mo_ws m0 z0 z1 z2 z3 (lN P) (lN Q) (lN G) z7 z8 z9 z10 a0 a1 a2 a3 a4 a5 a6 a7 a8 a9 b0 b1 oc b2 b3 b4 b5 ++ (iw_ws a7 cI 256 bf ++ (iw_ws a8 cI 64 sc ++ (iw_ws a9 cI 8 st ++ (iw_ws b0 cI 8 kS ++ (iw_ws b1 cI 64 kR ++ (jw_ws a2 cJ 4 tf ++ (jw_ws a3 cJ 16 lf)))))))) U.heap ∧ va_K (dC, dI) classes [(cJ, .long), (cI, .int)] U ∧ va_D (fun _ => True) (mo_ws m0 z0 z1 z2 z3 (lN P) (lN Q) (lN G) z7 z8 z9 z10 a0 a1 a2 a3 a4 a5 a6 a7 a8 a9 b0 b1 oc b2 b3 b4 b5 ++ (iw_ws a7 cI 256 bf ++ (iw_ws a8 cI 64 sc ++ (iw_ws a9 cI 8 st ++ (iw_ws b0 cI 8 kS ++ (iw_ws b1 cI 64 kR ++ (jw_ws a2 cJ 4 tf ++ (jw_ws a3 cJ 16 lf)))))))))) (va_Qi (fun (r : Int32) (u9 : DU × (Nat → Int64)) => bz r (shaHd P Q G Yi Ai I x1 x2 x3)) (fun u9 t => va_P (dC, dI) classes (mo_ws m0 z0 z1 z2 z3 (lN P) (lN Q) (lN G) z7 z8 z9 z10 a0 a1 a2 a3 a4 a5 a6 a7 a8 a9 b0 b1 u9.1.2.2.2.2 b2 b3 b4 b5 ++ (iw_ws a7 cI 256 u9.1.1 ++ (iw_ws a8 cI 64 u9.1.2.1 ++ (iw_ws a9 cI 8 u9.1.2.2.1 ++ (iw_ws b0 cI 8 kS ++ (iw_ws b1 cI 64 kR ++ (jw_ws a2 cJ 4 u9.1.2.2.2.1 ++ (jw_ws a3 cJ 16 u9.2)))))))) t.heap ∧ va_K (dC, dI) classes [(cJ, .long), (cI, .int)] t ∧ va_D (va_A (mo_ws m0 z0 z1 z2 z3 (lN P) (lN Q) (lN G) z7 z8 z9 z10 a0 a1 a2 a3 a4 a5 a6 a7 a8 a9 b0 b1 oc b2 b3 b4 b5 ++ (iw_ws a7 cI 256 bf ++ (iw_ws a8 cI 64 sc ++ (iw_ws a9 cI 8 st ++ (iw_ws b0 cI 8 kS ++ (iw_ws b1 cI 64 kR ++ (jw_ws a2 cJ 4 tf ++ (jw_ws a3 cJ 16 lf)))))))) sz) (mo_ws m0 z0 z1 z2 z3 (lN P) (lN Q) (lN G) z7 z8 z9 z10 a0 a1 a2 a3 a4 a5 a6 a7 a8 a9 b0 b1 u9.1.2.2.2.2 b2 b3 b4 b5 ++ (iw_ws a7 cI 256 u9.1.1 ++ (iw_ws a8 cI 64 u9.1.2.1 ++ (iw_ws a9 cI 8 u9.1.2.2.1 ++ (iw_ws b0 cI 8 kS ++ (iw_ws b1 cI 64 kR ++ (jw_ws a2 cJ 4 u9.1.2.2.2.1 ++ (jw_ws a3 cJ 16 u9.2))))))))) (va_A (mo_ws m0 z0 z1 z2 z3 (lN P) (lN Q) (lN G) z7 z8 z9 z10 a0 a1 a2 a3 a4 a5 a6 a7 a8 a9 b0 b1 oc b2 b3 b4 b5 ++ (iw_ws a7 cI 256 bf ++ (iw_ws a8 cI 64 sc ++ (iw_ws a9 cI 8 st ++ (iw_ws b0 cI 8 kS ++ (iw_ws b1 cI 64 kR ++ (jw_ws a2 cJ 4 tf ++ (jw_ws a3 cJ 16 lf)))))))) sz)) 0 0 (va_A (mo_ws m0 z0 z1 z2 z3 (lN P) (lN Q) (lN G) z7 z8 z9 z10 a0 a1 a2 a3 a4 a5 a6 a7 a8 a9 b0 b1 oc b2 b3 b4 b5 ++ (iw_ws a7 cI 256 bf ++ (iw_ws a8 cI 64 sc ++ (iw_ws a9 cI 8 st ++ (iw_ws b0 cI 8 kS ++ (iw_ws b1 cI 64 kR ++ (jw_ws a2 cJ 4 tf ++ (jw_ws a3 cJ 16 lf)))))))) sz) := by
  refine Met.ofW (cc := b_Bm_shareHolds) (maxL := 12) (ret := (some .boolean)) (by decide) rfl ?_
  intro p e s m args below meth c s₁ Bd hml hv
  obtain ⟨rfl, hsz, hP, hK, hD0⟩ := hv
  have hx := Bd.exec
  have hb := Bd.bytes
  have hr := Bd.returns
  have hts := atoms_spec (ws := w_Bm_shareHolds) Bd.pre
  have hown : s.vm.findClass "BallotBoardModel" = some m.cls := findClass_of_methodNamed Bd.named
  have hlocks := Bd.notSynchronized
  subst hsz
  have hD := hD0.self (sz := s.heap.size)
  generalize hAe : va_A (mo_ws m0 z0 z1 z2 z3 (lN P) (lN Q) (lN G) z7 z8 z9 z10 a0 a1 a2 a3 a4 a5 a6 a7 a8 a9 b0 b1 oc b2 b3 b4 b5 ++ (iw_ws a7 cI 256 bf ++ (iw_ws a8 cI 64 sc ++ (iw_ws a9 cI 8 st ++ (iw_ws b0 cI 8 kS ++ (iw_ws b1 cI 64 kR ++ (jw_ws a2 cJ 4 tf ++ (jw_ws a3 cJ 16 lf)))))))) s.heap.size = A at hD ⊢
  have hA : ∀ q : Nat, s.heap.size ≤ q → A q := fun q h => by rw [← hAe]; exact Or.inr h
  have hS : va_S A s.heap s.heap [] := va_S.rf
  have hl := lv_entry ([.ref m0, .int (nI I), .long x1, .long x2, .long x3, .long (lN Yi), .long (lN Ai)]) (n := 12) (Nat.le_of_ble_eq_true rfl)
  rw [lg_entry_eq]
  generalize (lg_sl ([.ref m0, .int (nI I), .long x1, .long x2, .long x3, .long (lN Yi), .long (lN Ai)]) ++ List.replicate (12 - (lg_sl ([.ref m0, .int (nI I), .long x1, .long x2, .long x3, .long (lN Yi), .long (lN Ai)])).length) Slot.unset).toArray = ls at hl ⊢
  have hl : lv_has ls 12 [(0, .ref m0), (1, .int (nI I)), (2, .long x1), (4, .long x2), (6, .long x3), (8, .long (lN Yi)), (10, .long (lN Ai))] := hl
  refine lv_aload_n hx hb d_Bm_shareHolds_0 rfl (lv_at hl 0 rfl) ?_
  refine lv_lload hx hb d_Bm_shareHolds_1 (lv_at hl 3 rfl) ?_
  have hPc := hP.sub (ws' := (mo_ws m0 z0 z1 z2 z3 (lN P) (lN Q) (lN G) z7 z8 z9 z10 a0 a1 a2 a3 a4 a5 a6 a7 a8 a9 b0 b1 oc b2 b3 b4 b5)) [0] rfl
  have hKc := hK.sub (tys' := [(cJ, .long), (cI, .int)]) [0, 1] rfl
  refine va_calli (va_runV (As := [.long x2]) (rest := []) ⟨hx, hb, hml, hown, hts⟩ (c_Bm_isExponent l s.heap dC dI cJ cI m0 z0 z1 z2 z3 z7 z8 z9 z10 a0 a1 a2 a3 a4 a5 a6 a7 a8 a9 b0 b1 oc b2 b3 b4 b5 P Q G x2 hPc hPQ h61F hQ3 ) (cwV 1 hts (gw_V gk_1042 gk_1044 gp_29 gk_7 gk_1045) rfl rfl rfl (by decide +kernel) ⟨Nat.le_of_ble_eq_true rfl, Nat.le_of_ble_eq_true rfl⟩) ⟨fun a U g mk q => ⟨q.1, q.2.1, va_K.moved (u := U) (U := U.calling g mk a) (Vm.Alike.refl U.vm) q.2.2⟩, va_recv hK hP (ci := 8) (q0 := 0) rfl rfl, fun U hU hW => ⟨rfl, hU, va_K.moved hW.alike hKc⟩⟩ rfl rfl hl.1 rfl (lv_room (Nat.le_of_ble_eq_true rfl)) d_Bm_shareHolds_3 ⟨Nat.le_of_ble_eq_true rfl, Nat.le_of_ble_eq_true rfl⟩) hS (fun q _ h => h.elim) (fun q h => h.elim) (fun r3 u9 t9 H1 locs ht hvm hw hB hz1 hk1 hS => ?_)
  obtain rfl : s.heap = H1 := hB.symm.trans ht
  have h3 := hw
  refine lv_if_eq (tgt := 89) hx hb d_Bm_shareHolds_6 (by decide) (fun c_1 => ?_) (fun c_1 => ?_)
  · -- taken
    have hbad : ¬ shaHd P Q G Yi Ai I x1 x2 x3 := fun ⟨Y2, C2, Z2, a2, a3, a4, hC2, hZ2, hY2, hY3, hY4, hh⟩ => bz_f h3 c_1 ⟨C2, a3, hC2⟩
    refine lv_iconst (v := 0) hx hb d_Bm_shareHolds_89 (by decide) ?_
    exact W.zret (v := 0) hx hb hr (by decide) (fun t ht9 hW => ⟨⟨_, ((bf, sc, st, tf, oc), lf), rfl, (bz_0 hbad), by rw [ht9]; exact hP, va_K.moved hW.alike hK, hD⟩, hS.F ht9⟩) hS.2.2 d_Bm_shareHolds_90
  · -- not taken
    have bo3 := bz_t h3 c_1
    refine lv_aload_n hx hb d_Bm_shareHolds_9 rfl (lv_at hl 0 rfl) ?_
    refine lv_lload hx hb d_Bm_shareHolds_10 (lv_at hl 4 rfl) ?_
    have hPc := hP.sub (ws' := (mo_ws m0 z0 z1 z2 z3 (lN P) (lN Q) (lN G) z7 z8 z9 z10 a0 a1 a2 a3 a4 a5 a6 a7 a8 a9 b0 b1 oc b2 b3 b4 b5)) [0] rfl
    have hKc := hK.sub (tys' := [(cJ, .long), (cI, .int)]) [0, 1] rfl
    refine va_calli (va_runV (As := [.long x3]) (rest := []) ⟨hx, hb, hml, hown, hts⟩ (c_Bm_isExponent l s.heap dC dI cJ cI m0 z0 z1 z2 z3 z7 z8 z9 z10 a0 a1 a2 a3 a4 a5 a6 a7 a8 a9 b0 b1 oc b2 b3 b4 b5 P Q G x3 hPc hPQ h61F hQ3 ) (cwV 1 hts (gw_V gk_1042 gk_1044 gp_29 gk_7 gk_1045) rfl rfl rfl (by decide +kernel) ⟨Nat.le_of_ble_eq_true rfl, Nat.le_of_ble_eq_true rfl⟩) ⟨fun a U g mk q => ⟨q.1, q.2.1, va_K.moved (u := U) (U := U.calling g mk a) (Vm.Alike.refl U.vm) q.2.2⟩, va_recv hK hP (ci := 8) (q0 := 0) rfl rfl, fun U hU hW => ⟨rfl, hU, va_K.moved hW.alike hKc⟩⟩ rfl rfl hl.1 rfl (lv_room (Nat.le_of_ble_eq_true rfl)) d_Bm_shareHolds_12 ⟨Nat.le_of_ble_eq_true rfl, Nat.le_of_ble_eq_true rfl⟩) hS (fun q _ h => h.elim) (fun q h => h.elim) (fun r12 u9 t9 H1 locs ht hvm hw hB hz1 hk1 hS => ?_)
    obtain rfl : s.heap = H1 := hB.symm.trans ht
    have h12 := hw
    refine lv_if_eq (tgt := 89) hx hb d_Bm_shareHolds_15 (by decide) (fun c_2 => ?_) (fun c_2 => ?_)
    · -- taken
      have hbad : ¬ shaHd P Q G Yi Ai I x1 x2 x3 := fun ⟨Y2, C2, Z2, a2, a3, a4, hC2, hZ2, hY2, hY3, hY4, hh⟩ => bz_f h12 c_2 ⟨Z2, a4, hZ2⟩
      refine lv_iconst (v := 0) hx hb d_Bm_shareHolds_89 (by decide) ?_
      exact W.zret (v := 0) hx hb hr (by decide) (fun t ht9 hW => ⟨⟨_, ((bf, sc, st, tf, oc), lf), rfl, (bz_0 hbad), by rw [ht9]; exact hP, va_K.moved hW.alike hK, hD⟩, hS.F ht9⟩) hS.2.2 d_Bm_shareHolds_90
    · -- not taken
      have bo12 := bz_t h12 c_2
      refine lv_aload_n hx hb d_Bm_shareHolds_18 rfl (lv_at hl 0 rfl) ?_
      refine lv_lload_n hx hb d_Bm_shareHolds_19 rfl (lv_at hl 2 rfl) ?_
      have hPc := hP.sub (ws' := (mo_ws m0 z0 z1 z2 z3 (lN P) (lN Q) (lN G) z7 z8 z9 z10 a0 a1 a2 a3 a4 a5 a6 a7 a8 a9 b0 b1 oc b2 b3 b4 b5)) [0] rfl
      have hKc := hK.sub (tys' := [(cJ, .long), (cI, .int)]) [0, 1] rfl
      refine va_calli (va_runV (As := [.long x1]) (rest := []) ⟨hx, hb, hml, hown, hts⟩ (c_Bm_isIn l s.heap dC dI cJ cI m0 z0 z1 z2 z3 z7 z8 z9 z10 a0 a1 a2 a3 a4 a5 a6 a7 a8 a9 b0 b1 oc b2 b3 b4 b5 P Q G x1 hPc hPQ h61F hQ3 ) (cwV 1 hts (gw_V gk_1046 gk_1048 gp_30 gk_7 gk_1049) rfl rfl rfl (by decide +kernel) ⟨Nat.le_of_ble_eq_true rfl, Nat.le_of_ble_eq_true rfl⟩) ⟨fun a U g mk q => ⟨q.1, q.2.1, va_K.moved (u := U) (U := U.calling g mk a) (Vm.Alike.refl U.vm) q.2.2⟩, va_recv hK hP (ci := 8) (q0 := 0) rfl rfl, fun U hU hW => ⟨rfl, hU, va_K.moved hW.alike hKc⟩⟩ rfl rfl hl.1 rfl (lv_room (Nat.le_of_ble_eq_true rfl)) d_Bm_shareHolds_20 ⟨Nat.le_of_ble_eq_true rfl, Nat.le_of_ble_eq_true rfl⟩) hS (fun q _ h => h.elim) (fun q h => h.elim) (fun r20 u9 t9 H1 locs ht hvm hw hB hz1 hk1 hS => ?_)
      obtain rfl : s.heap = H1 := hB.symm.trans ht
      have h20 := hw
      refine lv_if_eq (tgt := 89) hx hb d_Bm_shareHolds_23 (by decide) (fun c_3 => ?_) (fun c_3 => ?_)
      · -- taken
        have hbad : ¬ shaHd P Q G Yi Ai I x1 x2 x3 := fun ⟨Y2, C2, Z2, a2, a3, a4, hC2, hZ2, hY2, hY3, hY4, hh⟩ => bz_f h20 c_3 ⟨Y2, a2, hY2, hY3, hY4⟩
        refine lv_iconst (v := 0) hx hb d_Bm_shareHolds_89 (by decide) ?_
        exact W.zret (v := 0) hx hb hr (by decide) (fun t ht9 hW => ⟨⟨_, ((bf, sc, st, tf, oc), lf), rfl, (bz_0 hbad), by rw [ht9]; exact hP, va_K.moved hW.alike hK, hD⟩, hS.F ht9⟩) hS.2.2 d_Bm_shareHolds_90
      · -- not taken
        obtain ⟨C1, rfl, hC9⟩ := bo3
        obtain ⟨Z1, rfl, hZ9⟩ := bo12
        obtain ⟨Y1, rfl, hY1, hY9, hYQ⟩ := bz_t h20 c_3
        refine lv_lload hx hb d_Bm_shareHolds_26 (lv_at hl 3 rfl) ?_
        refine lv_aload_n hx hb d_Bm_shareHolds_28 rfl (lv_at hl 0 rfl) ?_
        refine lv_ldc2 (v := 3) hx hb hown (hts _ (List.mem_cons_of_mem _ gk_1157)) d_Bm_shareHolds_29 ?_
        refine lv_iload_n hx hb d_Bm_shareHolds_32 rfl (lv_at hl 1 rfl) ?_
        refine lv_i2l (v := (nI I : Int32).toInt64) hx hb d_Bm_shareHolds_33 rfl ?_
        rw [show ((nI I : Int32).toInt64 : Int64) = (lN I) from i2l_nI hI]
        refine lv_lload hx hb d_Bm_shareHolds_34 (lv_at hl 6 rfl) ?_
        refine lv_lload_n hx hb d_Bm_shareHolds_36 rfl (lv_at hl 2 rfl) ?_
        refine lv_aload_n hx hb d_Bm_shareHolds_37 rfl (lv_at hl 0 rfl) ?_
        refine lv_aload_n hx hb d_Bm_shareHolds_38 rfl (lv_at hl 0 rfl) ?_
        refine lv_aload_n hx hb d_Bm_shareHolds_39 rfl (lv_at hl 0 rfl) ?_
        refine va_get (D := (dC, dI)) (ci := 8) (v := .long (lN G)) (C := "BallotBoardModel") (T := F_Bm) (N := 28) hx hb hts (fun w9 h9 => List.mem_cons_of_mem _ (i_Bm w9 h9)) hown hK hP 0 rfl rfl 6 (by decide) (hts _ (List.mem_cons_of_mem _ gk_925)) (fun _ h9 => h9) rfl d_Bm_shareHolds_40 ?_
        refine lv_lload hx hb d_Bm_shareHolds_43 (lv_at hl 4 rfl) ?_
        have hPc := hP.sub (ws' := (mo_ws m0 z0 z1 z2 z3 (lN P) (lN Q) (lN G) z7 z8 z9 z10 a0 a1 a2 a3 a4 a5 a6 a7 a8 a9 b0 b1 oc b2 b3 b4 b5)) [0] rfl
        have hKc := hK.sub (tys' := [(cJ, .long), (cI, .int)]) [0, 1] rfl
        refine va_calll (vw_runV (As := [.long (lN G), .long (lN Z1)]) (rest := [.ref m0, .long (lN Y1), .long (lN Ai), .long (lN I), .long 3, .ref m0, .long (lN C1)]) ⟨hx, hb, hml, hown, hts⟩ (c_Bm_power2 l s.heap dC dI cJ cI m0 z0 z1 z2 z3 z7 z8 z9 z10 a0 a1 a2 a3 a4 a5 a6 a7 a8 a9 b0 b1 oc b2 b3 b4 b5 P Q G G Z1 hPc hPQ h61F hQ3 hGP (by omega)) (cwV 2 hts (gw_V gk_1050 gk_1052 gp_31 gk_7 gk_1053) rfl rfl rfl (by decide +kernel) ⟨Nat.le_of_ble_eq_true rfl, Nat.le_of_ble_eq_true rfl⟩) (Nat.le_of_ble_eq_true rfl) ⟨fun a U g mk q => ⟨q.1, q.2.1, va_K.moved (u := U) (U := U.calling g mk a) (Vm.Alike.refl U.vm) q.2.2⟩, va_recv hK hP (ci := 8) (q0 := 0) rfl rfl, fun U hU hW => ⟨rfl, hU, va_K.moved hW.alike hKc⟩⟩ rfl rfl hl.1 rfl (vw_room (Nat.le_of_ble_eq_true rfl)) d_Bm_shareHolds_45 ⟨Nat.le_of_ble_eq_true rfl, Nat.le_of_ble_eq_true rfl⟩) hS (fun q _ h => h.elim) (fun q h => h.elim) (fun r45 u9 t9 H1 locs ht hvm hw hB hz1 hk1 hS => ?_)
        obtain rfl : s.heap = H1 := hB.symm.trans ht
        have hw : r45 = lN (G ^ Z1 % P) := hw
        subst hw
        refine lv_aload_n hx hb d_Bm_shareHolds_48 rfl (lv_at hl 0 rfl) ?_
        refine lv_lload hx hb d_Bm_shareHolds_49 (lv_at hl 5 rfl) ?_
        refine lv_lload hx hb d_Bm_shareHolds_51 (lv_at hl 3 rfl) ?_
        have hPc := hP.sub (ws' := (mo_ws m0 z0 z1 z2 z3 (lN P) (lN Q) (lN G) z7 z8 z9 z10 a0 a1 a2 a3 a4 a5 a6 a7 a8 a9 b0 b1 oc b2 b3 b4 b5)) [0] rfl
        have hKc := hK.sub (tys' := [(cJ, .long), (cI, .int)]) [0, 1] rfl
        refine va_calll (vw_runV (As := [.long (lN Yi), .long (lN C1)]) (rest := [.long (lN (G ^ Z1 % P)), .ref m0, .long (lN Y1), .long (lN Ai), .long (lN I), .long 3, .ref m0, .long (lN C1)]) ⟨hx, hb, hml, hown, hts⟩ (c_Bm_back l s.heap dC dI cJ cI m0 z0 z1 z2 z3 z7 z8 z9 z10 a0 a1 a2 a3 a4 a5 a6 a7 a8 a9 b0 b1 oc b2 b3 b4 b5 P Q G Yi C1 hPc hPQ h61F hQ3 hYi (by omega)) (cwV 2 hts (gw_V gk_1054 gk_1056 gp_32 gk_7 gk_1057) rfl rfl rfl (by decide +kernel) ⟨Nat.le_of_ble_eq_true rfl, Nat.le_of_ble_eq_true rfl⟩) (Nat.le_of_ble_eq_true rfl) ⟨fun a U g mk q => ⟨q.1, q.2.1, va_K.moved (u := U) (U := U.calling g mk a) (Vm.Alike.refl U.vm) q.2.2⟩, va_recv hK hP (ci := 8) (q0 := 0) rfl rfl, fun U hU hW => ⟨rfl, hU, va_K.moved hW.alike hKc⟩⟩ rfl rfl hl.1 rfl (vw_room (Nat.le_of_ble_eq_true rfl)) d_Bm_shareHolds_53 ⟨Nat.le_of_ble_eq_true rfl, Nat.le_of_ble_eq_true rfl⟩) hS (fun q _ h => h.elim) (fun q h => h.elim) (fun r53 u9 t9 H1 locs ht hvm hw hB hz1 hk1 hS => ?_)
        obtain rfl : s.heap = H1 := hB.symm.trans ht
        have hw : r53 = lN (Yi ^ (Q - C1) % P) := hw
        subst hw
        have hPc := hP.sub (ws' := (mo_ws m0 z0 z1 z2 z3 (lN P) (lN Q) (lN G) z7 z8 z9 z10 a0 a1 a2 a3 a4 a5 a6 a7 a8 a9 b0 b1 oc b2 b3 b4 b5)) [0] rfl
        have hKc := hK.sub (tys' := [(cJ, .long), (cI, .int)]) [0, 1] rfl
        refine va_calll (vw_runV (As := [.long (lN (G ^ Z1 % P)), .long (lN (Yi ^ (Q - C1) % P))]) (rest := [.long (lN Y1), .long (lN Ai), .long (lN I), .long 3, .ref m0, .long (lN C1)]) ⟨hx, hb, hml, hown, hts⟩ (c_Bm_times l s.heap dC dI cJ cI m0 z0 z1 z2 z3 z7 z8 z9 z10 a0 a1 a2 a3 a4 a5 a6 a7 a8 a9 b0 b1 oc b2 b3 b4 b5 P Q G (G ^ Z1 % P) (Yi ^ (Q - C1) % P) hPc hPQ h61F hQ3 (Nat.mod_lt _ (by omega)) (Nat.mod_lt _ (by omega))) (cwV 2 hts (gw_V gk_1058 gk_1060 gp_33 gk_7 gk_1061) rfl rfl rfl (by decide +kernel) ⟨Nat.le_of_ble_eq_true rfl, Nat.le_of_ble_eq_true rfl⟩) (Nat.le_of_ble_eq_true rfl) ⟨fun a U g mk q => ⟨q.1, q.2.1, va_K.moved (u := U) (U := U.calling g mk a) (Vm.Alike.refl U.vm) q.2.2⟩, va_recv hK hP (ci := 8) (q0 := 0) rfl rfl, fun U hU hW => ⟨rfl, hU, va_K.moved hW.alike hKc⟩⟩ rfl rfl hl.1 rfl (vw_room (Nat.le_of_ble_eq_true rfl)) d_Bm_shareHolds_56 ⟨Nat.le_of_ble_eq_true rfl, Nat.le_of_ble_eq_true rfl⟩) hS (fun q _ h => h.elim) (fun q h => h.elim) (fun r56 u9 t9 H1 locs ht hvm hw hB hz1 hk1 hS => ?_)
        obtain rfl : s.heap = H1 := hB.symm.trans ht
        have hw : r56 = lN ((G ^ Z1 % P) * (Yi ^ (Q - C1) % P) % P) := hw
        subst hw
        refine lv_aload_n hx hb d_Bm_shareHolds_59 rfl (lv_at hl 0 rfl) ?_
        refine lv_aload_n hx hb d_Bm_shareHolds_60 rfl (lv_at hl 0 rfl) ?_
        refine lv_lload hx hb d_Bm_shareHolds_61 (lv_at hl 6 rfl) ?_
        refine lv_lload hx hb d_Bm_shareHolds_63 (lv_at hl 4 rfl) ?_
        have hPc := hP.sub (ws' := (mo_ws m0 z0 z1 z2 z3 (lN P) (lN Q) (lN G) z7 z8 z9 z10 a0 a1 a2 a3 a4 a5 a6 a7 a8 a9 b0 b1 oc b2 b3 b4 b5)) [0] rfl
        have hKc := hK.sub (tys' := [(cJ, .long), (cI, .int)]) [0, 1] rfl
        refine va_calll (vw_runV (As := [.long (lN Ai), .long (lN Z1)]) (rest := [.ref m0, .long (lN ((G ^ Z1 % P) * (Yi ^ (Q - C1) % P) % P)), .long (lN Y1), .long (lN Ai), .long (lN I), .long 3, .ref m0, .long (lN C1)]) ⟨hx, hb, hml, hown, hts⟩ (c_Bm_power2 l s.heap dC dI cJ cI m0 z0 z1 z2 z3 z7 z8 z9 z10 a0 a1 a2 a3 a4 a5 a6 a7 a8 a9 b0 b1 oc b2 b3 b4 b5 P Q G Ai Z1 hPc hPQ h61F hQ3 hAi (by omega)) (cwV 2 hts (gw_V gk_1050 gk_1052 gp_31 gk_7 gk_1053) rfl rfl rfl (by decide +kernel) ⟨Nat.le_of_ble_eq_true rfl, Nat.le_of_ble_eq_true rfl⟩) (Nat.le_of_ble_eq_true rfl) ⟨fun a U g mk q => ⟨q.1, q.2.1, va_K.moved (u := U) (U := U.calling g mk a) (Vm.Alike.refl U.vm) q.2.2⟩, va_recv hK hP (ci := 8) (q0 := 0) rfl rfl, fun U hU hW => ⟨rfl, hU, va_K.moved hW.alike hKc⟩⟩ rfl rfl hl.1 rfl (vw_room (Nat.le_of_ble_eq_true rfl)) d_Bm_shareHolds_65 ⟨Nat.le_of_ble_eq_true rfl, Nat.le_of_ble_eq_true rfl⟩) hS (fun q _ h => h.elim) (fun q h => h.elim) (fun r65 u9 t9 H1 locs ht hvm hw hB hz1 hk1 hS => ?_)
        obtain rfl : s.heap = H1 := hB.symm.trans ht
        have hw : r65 = lN (Ai ^ Z1 % P) := hw
        subst hw
        refine lv_aload_n hx hb d_Bm_shareHolds_68 rfl (lv_at hl 0 rfl) ?_
        refine lv_lload_n hx hb d_Bm_shareHolds_69 rfl (lv_at hl 2 rfl) ?_
        refine lv_lload hx hb d_Bm_shareHolds_70 (lv_at hl 3 rfl) ?_
        have hPc := hP.sub (ws' := (mo_ws m0 z0 z1 z2 z3 (lN P) (lN Q) (lN G) z7 z8 z9 z10 a0 a1 a2 a3 a4 a5 a6 a7 a8 a9 b0 b1 oc b2 b3 b4 b5)) [0] rfl
        have hKc := hK.sub (tys' := [(cJ, .long), (cI, .int)]) [0, 1] rfl
        refine va_calll (vw_runV (As := [.long (lN Y1), .long (lN C1)]) (rest := [.long (lN (Ai ^ Z1 % P)), .ref m0, .long (lN ((G ^ Z1 % P) * (Yi ^ (Q - C1) % P) % P)), .long (lN Y1), .long (lN Ai), .long (lN I), .long 3, .ref m0, .long (lN C1)]) ⟨hx, hb, hml, hown, hts⟩ (c_Bm_back l s.heap dC dI cJ cI m0 z0 z1 z2 z3 z7 z8 z9 z10 a0 a1 a2 a3 a4 a5 a6 a7 a8 a9 b0 b1 oc b2 b3 b4 b5 P Q G Y1 C1 hPc hPQ h61F hQ3 hY9 (by omega)) (cwV 2 hts (gw_V gk_1054 gk_1056 gp_32 gk_7 gk_1057) rfl rfl rfl (by decide +kernel) ⟨Nat.le_of_ble_eq_true rfl, Nat.le_of_ble_eq_true rfl⟩) (Nat.le_of_ble_eq_true rfl) ⟨fun a U g mk q => ⟨q.1, q.2.1, va_K.moved (u := U) (U := U.calling g mk a) (Vm.Alike.refl U.vm) q.2.2⟩, va_recv hK hP (ci := 8) (q0 := 0) rfl rfl, fun U hU hW => ⟨rfl, hU, va_K.moved hW.alike hKc⟩⟩ rfl rfl hl.1 rfl (vw_room (Nat.le_of_ble_eq_true rfl)) d_Bm_shareHolds_72 ⟨Nat.le_of_ble_eq_true rfl, Nat.le_of_ble_eq_true rfl⟩) hS (fun q _ h => h.elim) (fun q h => h.elim) (fun r72 u9 t9 H1 locs ht hvm hw hB hz1 hk1 hS => ?_)
        obtain rfl : s.heap = H1 := hB.symm.trans ht
        have hw : r72 = lN (Y1 ^ (Q - C1) % P) := hw
        subst hw
        have hPc := hP.sub (ws' := (mo_ws m0 z0 z1 z2 z3 (lN P) (lN Q) (lN G) z7 z8 z9 z10 a0 a1 a2 a3 a4 a5 a6 a7 a8 a9 b0 b1 oc b2 b3 b4 b5)) [0] rfl
        have hKc := hK.sub (tys' := [(cJ, .long), (cI, .int)]) [0, 1] rfl
        refine va_calll (vw_runV (As := [.long (lN (Ai ^ Z1 % P)), .long (lN (Y1 ^ (Q - C1) % P))]) (rest := [.long (lN ((G ^ Z1 % P) * (Yi ^ (Q - C1) % P) % P)), .long (lN Y1), .long (lN Ai), .long (lN I), .long 3, .ref m0, .long (lN C1)]) ⟨hx, hb, hml, hown, hts⟩ (c_Bm_times l s.heap dC dI cJ cI m0 z0 z1 z2 z3 z7 z8 z9 z10 a0 a1 a2 a3 a4 a5 a6 a7 a8 a9 b0 b1 oc b2 b3 b4 b5 P Q G (Ai ^ Z1 % P) (Y1 ^ (Q - C1) % P) hPc hPQ h61F hQ3 (Nat.mod_lt _ (by omega)) (Nat.mod_lt _ (by omega))) (cwV 2 hts (gw_V gk_1058 gk_1060 gp_33 gk_7 gk_1061) rfl rfl rfl (by decide +kernel) ⟨Nat.le_of_ble_eq_true rfl, Nat.le_of_ble_eq_true rfl⟩) (Nat.le_of_ble_eq_true rfl) ⟨fun a U g mk q => ⟨q.1, q.2.1, va_K.moved (u := U) (U := U.calling g mk a) (Vm.Alike.refl U.vm) q.2.2⟩, va_recv hK hP (ci := 8) (q0 := 0) rfl rfl, fun U hU hW => ⟨rfl, hU, va_K.moved hW.alike hKc⟩⟩ rfl rfl hl.1 rfl (vw_room (Nat.le_of_ble_eq_true rfl)) d_Bm_shareHolds_75 ⟨Nat.le_of_ble_eq_true rfl, Nat.le_of_ble_eq_true rfl⟩) hS (fun q _ h => h.elim) (fun q h => h.elim) (fun r75 u9 t9 H1 locs ht hvm hw hB hz1 hk1 hS => ?_)
        obtain rfl : s.heap = H1 := hB.symm.trans ht
        have hw : r75 = lN ((Ai ^ Z1 % P) * (Y1 ^ (Q - C1) % P) % P) := hw
        subst hw
        have hPc := hP.sub (ws' := (mo_ws m0 z0 z1 z2 z3 (lN P) (lN Q) (lN G) z7 z8 z9 z10 a0 a1 a2 a3 a4 a5 a6 a7 a8 a9 b0 b1 oc b2 b3 b4 b5 ++ (iw_ws a7 cI 256 bf ++ (iw_ws a8 cI 64 sc ++ (iw_ws a9 cI 8 st ++ (iw_ws b0 cI 8 kS ++ (iw_ws b1 cI 64 kR ++ (jw_ws a2 cJ 4 tf ++ (jw_ws a3 cJ 16 lf))))))))) [0, 1, 2, 3, 4, 5, 6, 7] rfl
        have hDc := hD.sub (ws' := (mo_ws m0 z0 z1 z2 z3 (lN P) (lN Q) (lN G) z7 z8 z9 z10 a0 a1 a2 a3 a4 a5 a6 a7 a8 a9 b0 b1 oc b2 b3 b4 b5 ++ (iw_ws a7 cI 256 bf ++ (iw_ws a8 cI 64 sc ++ (iw_ws a9 cI 8 st ++ (iw_ws b0 cI 8 kS ++ (iw_ws b1 cI 64 kR ++ (jw_ws a2 cJ 4 tf ++ (jw_ws a3 cJ 16 lf))))))))) [0, 1, 2, 3, 4, 5, 6, 7] (by decide) rfl
        have hKc := hK.sub (tys' := [(cJ, .long), (cI, .int)]) [0, 1] rfl
        have hFc := va_free (wc := (mo_ws m0 z0 z1 z2 z3 (lN P) (lN Q) (lN G) z7 z8 z9 z10 a0 a1 a2 a3 a4 a5 a6 a7 a8 a9 b0 b1 oc b2 b3 b4 b5 ++ (iw_ws a7 cI 256 bf ++ (iw_ws a8 cI 64 sc ++ (iw_ws a9 cI 8 st ++ (iw_ws b0 cI 8 kS ++ (iw_ws b1 cI 64 kR ++ (jw_ws a2 cJ 4 tf ++ (jw_ws a3 cJ 16 lf))))))))) hD hS hA [0, 1, 2, 3, 4, 5, 6, 7] rfl
        refine va_calll (va_runV (As := [.long 3, .long (lN I), .long (lN Ai), .long (lN Y1), .long (lN ((G ^ Z1 % P) * (Yi ^ (Q - C1) % P) % P)), .long (lN ((Ai ^ Z1 % P) * (Y1 ^ (Q - C1) % P) % P))]) (rest := [.long (lN C1)]) ⟨hx, hb, hml, hown, hts⟩ (c_Bm_hash6 l dC dI cJ cI s.heap.size m0 z0 z1 z2 z3 z7 z8 z9 z10 a0 a1 a2 a3 a4 a5 a6 a7 a8 a9 b0 b1 oc b2 b3 b4 b5 P Q G bf sc st tf lf 3 (lN I) (lN Ai) (lN Y1) (lN ((G ^ Z1 % P) * (Yi ^ (Q - C1) % P) % P)) (lN ((Ai ^ Z1 % P) * (Y1 ^ (Q - C1) % P) % P)) hPQ h61F hQ3) (cwV 6 hts (gw_V gk_1158 gk_1160 gp_50 gk_7 gk_1161) rfl rfl rfl (by decide +kernel) ⟨Nat.le_of_ble_eq_true rfl, Nat.le_of_ble_eq_true rfl⟩) ⟨fun a U g mk q => by obtain ⟨q0, q1, qP, qK, qD⟩ := q; exact ⟨q0, q1, qP, va_K.moved (u := U) (U := U.calling g mk a) (Vm.Alike.refl U.vm) qK, qD⟩, va_recv hK hP (ci := 8) (q0 := 0) rfl rfl, fun U hU hW => ⟨rfl, by rw [hU], by rw [hU]; exact hPc, va_K.moved hW.alike hKc, hDc.weaken (fun _ _ _ _ => trivial)⟩⟩ rfl rfl hl.1 rfl (lv_room (Nat.le_of_ble_eq_true rfl)) d_Bm_shareHolds_78 ⟨Nat.le_of_ble_eq_true rfl, Nat.le_of_ble_eq_true rfl⟩) hS (fun q _ h => hFc q h) hFc (fun r_5 u9 t9 H1 locs ht hvm hw hB hz1 hk1 hS => ?_)
        obtain ⟨⟨gbk_4, gsk_4, gtk_4, gfk_4, gok_4⟩, glk_4⟩ := u9
        have hw : r_5 = lN (hsh Q [lN P, lN G, 3, lN I, lN Ai, lN Y1, lN ((G ^ Z1 % P) * (Yi ^ (Q - C1) % P) % P), lN ((Ai ^ Z1 % P) * (Y1 ^ (Q - C1) % P) % P)]) := hw
        subst hw
        obtain ⟨hP1, hK1, hD1⟩ := hB
        rw [ht] at hP1
        obtain ⟨hP, hD⟩ := va_join (wr := []) (w1 := [(m0, .inr (8, [.int z0, .int z1, .int z2, .int z3, .long (lN P), .long (lN Q), .long (lN G), .long z7, .long z8, .long z9, .int z10, .ref a0, .ref a1, .ref a2, .ref a3, .ref a4, .ref a5, .ref a6, .ref a7, .ref a8, .ref a9, .ref b0, .ref b1, .int (nI gok_4), .ref b2, .ref b3, .ref b4, .ref b5])), (a7, .inl (cI, 256, .inl gbk_4)), (a8, .inl (cI, 64, .inl gsk_4)), (a9, .inl (cI, 8, .inl gtk_4)), (b0, .inl (cI, 8, .inl kS)), (b1, .inl (cI, 64, .inl kR)), (a2, .inl (cJ, 4, .inr (.inl gfk_4))), (a3, .inl (cJ, 16, .inr (.inl glk_4)))]) hP hD [0, 1, 2, 3, 4, 5, 6, 7] [] rfl rfl (by decide) (by decide) hk1 hFc hP1 hD1
        have hP := hP.sub (ws' := [(m0, .inr (8, [.int z0, .int z1, .int z2, .int z3, .long (lN P), .long (lN Q), .long (lN G), .long z7, .long z8, .long z9, .int z10, .ref a0, .ref a1, .ref a2, .ref a3, .ref a4, .ref a5, .ref a6, .ref a7, .ref a8, .ref a9, .ref b0, .ref b1, .int (nI gok_4), .ref b2, .ref b3, .ref b4, .ref b5])), (a7, .inl (cI, 256, .inl gbk_4)), (a8, .inl (cI, 64, .inl gsk_4)), (a9, .inl (cI, 8, .inl gtk_4)), (b0, .inl (cI, 8, .inl kS)), (b1, .inl (cI, 64, .inl kR)), (a2, .inl (cJ, 4, .inr (.inl gfk_4))), (a3, .inl (cJ, 16, .inr (.inl glk_4)))]) [0, 1, 2, 3, 4, 5, 6, 7] rfl
        have hD := hD.sub (ws' := [(m0, .inr (8, [.int z0, .int z1, .int z2, .int z3, .long (lN P), .long (lN Q), .long (lN G), .long z7, .long z8, .long z9, .int z10, .ref a0, .ref a1, .ref a2, .ref a3, .ref a4, .ref a5, .ref a6, .ref a7, .ref a8, .ref a9, .ref b0, .ref b1, .int (nI gok_4), .ref b2, .ref b3, .ref b4, .ref b5])), (a7, .inl (cI, 256, .inl gbk_4)), (a8, .inl (cI, 64, .inl gsk_4)), (a9, .inl (cI, 8, .inl gtk_4)), (b0, .inl (cI, 8, .inl kS)), (b1, .inl (cI, 64, .inl kR)), (a2, .inl (cJ, 4, .inr (.inl gfk_4))), (a3, .inl (cJ, 16, .inr (.inl glk_4)))]) [0, 1, 2, 3, 4, 5, 6, 7] (by decide) rfl
        generalize H1 = H at hP hS ⊢
        refine W.lcmp hx hb d_Bm_shareHolds_81 ?_
        refine lv_if_ne (tgt := 89) hx hb d_Bm_shareHolds_82 (by decide) (fun c_6 => ?_) (fun c_6 => ?_)
        · -- taken
          have hbad : ¬ shaHd P Q G Yi Ai I (lN Y1) (lN C1) (lN Z1) := by
            rintro ⟨Y2, C2, Z2, a2, a3, a4, hC2, hZ2, hY2, hY3, hY4, hh⟩
            obtain rfl := lN_inj (by omega) (by omega) a2
            obtain rfl := lN_inj (by omega) (by omega) a3
            obtain rfl := lN_inj (by omega) (by omega) a4
            refine c_6 ((ln_cmp_eq (by omega) (by have := hsh_lt (Q := Q) (by omega) [lN P, lN G, 3, lN I, lN Ai, lN Y1, lN ((G ^ Z1 % P) * (Yi ^ (Q - C1) % P) % P), lN ((Ai ^ Z1 % P) * (Y1 ^ (Q - C1) % P) % P)]; omega)).mpr ?_)
            rw [bk_mul hYQ hC9, bk_mul hYiQ hC9]
            exact hh
          refine lv_iconst (v := 0) hx hb d_Bm_shareHolds_89 (by decide) ?_
          exact W.zret (v := 0) hx hb hr (by decide) (fun t ht9 hW => ⟨⟨_, ((gbk_4, gsk_4, gtk_4, gfk_4, gok_4), glk_4), rfl, (bz_0 hbad), by rw [ht9]; exact hP, va_K.moved hW.alike hK, hD⟩, hS.F ht9⟩) hS.2.2 d_Bm_shareHolds_90
        · -- not taken
          have hgood : shaHd P Q G Yi Ai I (lN Y1) (lN C1) (lN Z1) := ⟨Y1, C1, Z1, rfl, rfl, rfl, hC9, hZ9, hY1, hY9, hYQ, by
            have h9 := (ln_cmp_eq (by omega) (by have := hsh_lt (Q := Q) (by omega) [lN P, lN G, 3, lN I, lN Ai, lN Y1, lN ((G ^ Z1 % P) * (Yi ^ (Q - C1) % P) % P), lN ((Ai ^ Z1 % P) * (Y1 ^ (Q - C1) % P) % P)]; omega)).mp c_6
            rw [bk_mul hYQ hC9, bk_mul hYiQ hC9] at h9
            exact h9⟩
          refine lv_iconst (v := 1) hx hb d_Bm_shareHolds_85 (by decide) ?_
          refine lv_goto (tgt := 90) hx hb d_Bm_shareHolds_86 (by decide) ?_
          exact W.zret (v := 1) hx hb hr (by decide) (fun t ht9 hW => ⟨⟨_, ((gbk_4, gsk_4, gtk_4, gfk_4, gok_4), glk_4), rfl, (bz_1 hgood), by rw [ht9]; exact hP, va_K.moved hW.alike hK, hD⟩, hS.F ht9⟩) hS.2.2 d_Bm_shareHolds_90
abbrev b_Bm_ballotHolds : ByteArray := prog_10_method_33_code
abbrev y_Bm_ballotHolds : MethodName := ⟨"BallotBoardModel", "ballotHolds", "(IJJJJJJJ)Z"⟩
abbrev w_Bm_ballotHolds : List Cond := .code y_Bm_ballotHolds b_Bm_ballotHolds 24 (some .boolean) :: gw
theorem d_Bm_ballotHolds_0 : decode b_Bm_ballotHolds 0 = .ok (.aload_n 0, 1) := by decide +kernel
theorem d_Bm_ballotHolds_1 : decode b_Bm_ballotHolds 1 = .ok (.lload 6, 2) := by decide +kernel
theorem d_Bm_ballotHolds_3 : decode b_Bm_ballotHolds 3 = .ok (.invokevirtual 244, 3) := by decide +kernel
theorem d_Bm_ballotHolds_6 : decode b_Bm_ballotHolds 6 = .ok (.ifCond .eq 47, 3) := by decide +kernel
theorem d_Bm_ballotHolds_9 : decode b_Bm_ballotHolds 9 = .ok (.aload_n 0, 1) := by decide +kernel
theorem d_Bm_ballotHolds_10 : decode b_Bm_ballotHolds 10 = .ok (.lload 8, 2) := by decide +kernel
theorem d_Bm_ballotHolds_12 : decode b_Bm_ballotHolds 12 = .ok (.invokevirtual 244, 3) := by decide +kernel
theorem d_Bm_ballotHolds_15 : decode b_Bm_ballotHolds 15 = .ok (.ifCond .eq 38, 3) := by decide +kernel
theorem d_Bm_ballotHolds_18 : decode b_Bm_ballotHolds 18 = .ok (.aload_n 0, 1) := by decide +kernel
theorem d_Bm_ballotHolds_19 : decode b_Bm_ballotHolds 19 = .ok (.lload 10, 2) := by decide +kernel
theorem d_Bm_ballotHolds_21 : decode b_Bm_ballotHolds 21 = .ok (.invokevirtual 244, 3) := by decide +kernel
theorem d_Bm_ballotHolds_24 : decode b_Bm_ballotHolds 24 = .ok (.ifCond .eq 29, 3) := by decide +kernel
theorem d_Bm_ballotHolds_27 : decode b_Bm_ballotHolds 27 = .ok (.aload_n 0, 1) := by decide +kernel
theorem d_Bm_ballotHolds_28 : decode b_Bm_ballotHolds 28 = .ok (.lload 12, 2) := by decide +kernel
theorem d_Bm_ballotHolds_30 : decode b_Bm_ballotHolds 30 = .ok (.invokevirtual 244, 3) := by decide +kernel
theorem d_Bm_ballotHolds_33 : decode b_Bm_ballotHolds 33 = .ok (.ifCond .eq 20, 3) := by decide +kernel
theorem d_Bm_ballotHolds_36 : decode b_Bm_ballotHolds 36 = .ok (.aload_n 0, 1) := by decide +kernel
theorem d_Bm_ballotHolds_37 : decode b_Bm_ballotHolds 37 = .ok (.lload_n 2, 1) := by decide +kernel
theorem d_Bm_ballotHolds_38 : decode b_Bm_ballotHolds 38 = .ok (.invokevirtual 247, 3) := by decide +kernel
theorem d_Bm_ballotHolds_41 : decode b_Bm_ballotHolds 41 = .ok (.ifCond .eq 12, 3) := by decide +kernel
theorem d_Bm_ballotHolds_44 : decode b_Bm_ballotHolds 44 = .ok (.aload_n 0, 1) := by decide +kernel
theorem d_Bm_ballotHolds_45 : decode b_Bm_ballotHolds 45 = .ok (.lload 4, 2) := by decide +kernel
theorem d_Bm_ballotHolds_47 : decode b_Bm_ballotHolds 47 = .ok (.invokevirtual 247, 3) := by decide +kernel
theorem d_Bm_ballotHolds_50 : decode b_Bm_ballotHolds 50 = .ok (.ifCond .ne 5, 3) := by decide +kernel
theorem d_Bm_ballotHolds_53 : decode b_Bm_ballotHolds 53 = .ok (.iconst 0, 1) := by decide +kernel
theorem d_Bm_ballotHolds_54 : decode b_Bm_ballotHolds 54 = .ok (.ireturn, 1) := by decide +kernel
theorem d_Bm_ballotHolds_55 : decode b_Bm_ballotHolds 55 = .ok (.aload_n 0, 1) := by decide +kernel
theorem d_Bm_ballotHolds_56 : decode b_Bm_ballotHolds 56 = .ok (.aload_n 0, 1) := by decide +kernel
theorem d_Bm_ballotHolds_57 : decode b_Bm_ballotHolds 57 = .ok (.aload_n 0, 1) := by decide +kernel
theorem d_Bm_ballotHolds_58 : decode b_Bm_ballotHolds 58 = .ok (.getfield 180, 3) := by decide +kernel
theorem d_Bm_ballotHolds_61 : decode b_Bm_ballotHolds 61 = .ok (.lload 8, 2) := by decide +kernel
theorem d_Bm_ballotHolds_63 : decode b_Bm_ballotHolds 63 = .ok (.invokevirtual 171, 3) := by decide +kernel
theorem d_Bm_ballotHolds_66 : decode b_Bm_ballotHolds 66 = .ok (.aload_n 0, 1) := by decide +kernel
theorem d_Bm_ballotHolds_67 : decode b_Bm_ballotHolds 67 = .ok (.lload_n 2, 1) := by decide +kernel
theorem d_Bm_ballotHolds_68 : decode b_Bm_ballotHolds 68 = .ok (.lload 6, 2) := by decide +kernel
theorem d_Bm_ballotHolds_70 : decode b_Bm_ballotHolds 70 = .ok (.invokevirtual 174, 3) := by decide +kernel
theorem d_Bm_ballotHolds_73 : decode b_Bm_ballotHolds 73 = .ok (.invokevirtual 177, 3) := by decide +kernel
theorem d_Bm_ballotHolds_76 : decode b_Bm_ballotHolds 76 = .ok (.lstore 16, 2) := by decide +kernel
theorem d_Bm_ballotHolds_78 : decode b_Bm_ballotHolds 78 = .ok (.aload_n 0, 1) := by decide +kernel
theorem d_Bm_ballotHolds_79 : decode b_Bm_ballotHolds 79 = .ok (.aload_n 0, 1) := by decide +kernel
theorem d_Bm_ballotHolds_80 : decode b_Bm_ballotHolds 80 = .ok (.lload 14, 2) := by decide +kernel
theorem d_Bm_ballotHolds_82 : decode b_Bm_ballotHolds 82 = .ok (.lload 8, 2) := by decide +kernel
theorem d_Bm_ballotHolds_84 : decode b_Bm_ballotHolds 84 = .ok (.invokevirtual 171, 3) := by decide +kernel
theorem d_Bm_ballotHolds_87 : decode b_Bm_ballotHolds 87 = .ok (.aload_n 0, 1) := by decide +kernel
theorem d_Bm_ballotHolds_88 : decode b_Bm_ballotHolds 88 = .ok (.lload 4, 2) := by decide +kernel
theorem d_Bm_ballotHolds_90 : decode b_Bm_ballotHolds 90 = .ok (.lload 6, 2) := by decide +kernel
theorem d_Bm_ballotHolds_92 : decode b_Bm_ballotHolds 92 = .ok (.invokevirtual 174, 3) := by decide +kernel
theorem d_Bm_ballotHolds_95 : decode b_Bm_ballotHolds 95 = .ok (.invokevirtual 177, 3) := by decide +kernel
theorem d_Bm_ballotHolds_98 : decode b_Bm_ballotHolds 98 = .ok (.lstore 18, 2) := by decide +kernel
theorem d_Bm_ballotHolds_100 : decode b_Bm_ballotHolds 100 = .ok (.aload_n 0, 1) := by decide +kernel
theorem d_Bm_ballotHolds_101 : decode b_Bm_ballotHolds 101 = .ok (.aload_n 0, 1) := by decide +kernel
theorem d_Bm_ballotHolds_102 : decode b_Bm_ballotHolds 102 = .ok (.aload_n 0, 1) := by decide +kernel
theorem d_Bm_ballotHolds_103 : decode b_Bm_ballotHolds 103 = .ok (.getfield 180, 3) := by decide +kernel
theorem d_Bm_ballotHolds_106 : decode b_Bm_ballotHolds 106 = .ok (.lload 12, 2) := by decide +kernel
theorem d_Bm_ballotHolds_108 : decode b_Bm_ballotHolds 108 = .ok (.invokevirtual 171, 3) := by decide +kernel
theorem d_Bm_ballotHolds_111 : decode b_Bm_ballotHolds 111 = .ok (.aload_n 0, 1) := by decide +kernel
theorem d_Bm_ballotHolds_112 : decode b_Bm_ballotHolds 112 = .ok (.lload_n 2, 1) := by decide +kernel
theorem d_Bm_ballotHolds_113 : decode b_Bm_ballotHolds 113 = .ok (.lload 10, 2) := by decide +kernel
theorem d_Bm_ballotHolds_115 : decode b_Bm_ballotHolds 115 = .ok (.invokevirtual 174, 3) := by decide +kernel
theorem d_Bm_ballotHolds_118 : decode b_Bm_ballotHolds 118 = .ok (.invokevirtual 177, 3) := by decide +kernel
theorem d_Bm_ballotHolds_121 : decode b_Bm_ballotHolds 121 = .ok (.lstore 20, 2) := by decide +kernel
theorem d_Bm_ballotHolds_123 : decode b_Bm_ballotHolds 123 = .ok (.aload_n 0, 1) := by decide +kernel
theorem d_Bm_ballotHolds_124 : decode b_Bm_ballotHolds 124 = .ok (.aload_n 0, 1) := by decide +kernel
theorem d_Bm_ballotHolds_125 : decode b_Bm_ballotHolds 125 = .ok (.lload 14, 2) := by decide +kernel
theorem d_Bm_ballotHolds_127 : decode b_Bm_ballotHolds 127 = .ok (.lload 12, 2) := by decide +kernel
theorem d_Bm_ballotHolds_129 : decode b_Bm_ballotHolds 129 = .ok (.invokevirtual 171, 3) := by decide +kernel
theorem d_Bm_ballotHolds_132 : decode b_Bm_ballotHolds 132 = .ok (.aload_n 0, 1) := by decide +kernel
theorem d_Bm_ballotHolds_133 : decode b_Bm_ballotHolds 133 = .ok (.aload_n 0, 1) := by decide +kernel
theorem d_Bm_ballotHolds_134 : decode b_Bm_ballotHolds 134 = .ok (.lload 4, 2) := by decide +kernel
theorem d_Bm_ballotHolds_136 : decode b_Bm_ballotHolds 136 = .ok (.aload_n 0, 1) := by decide +kernel
theorem d_Bm_ballotHolds_137 : decode b_Bm_ballotHolds 137 = .ok (.getfield 180, 3) := by decide +kernel
theorem d_Bm_ballotHolds_140 : decode b_Bm_ballotHolds 140 = .ok (.invokevirtual 270, 3) := by decide +kernel
theorem d_Bm_ballotHolds_143 : decode b_Bm_ballotHolds 143 = .ok (.lload 10, 2) := by decide +kernel
theorem d_Bm_ballotHolds_145 : decode b_Bm_ballotHolds 145 = .ok (.invokevirtual 174, 3) := by decide +kernel
theorem d_Bm_ballotHolds_148 : decode b_Bm_ballotHolds 148 = .ok (.invokevirtual 177, 3) := by decide +kernel
theorem d_Bm_ballotHolds_151 : decode b_Bm_ballotHolds 151 = .ok (.lstore 22, 2) := by decide +kernel
theorem d_Bm_ballotHolds_153 : decode b_Bm_ballotHolds 153 = .ok (.lload 6, 2) := by decide +kernel
theorem d_Bm_ballotHolds_155 : decode b_Bm_ballotHolds 155 = .ok (.lload 10, 2) := by decide +kernel
theorem d_Bm_ballotHolds_157 : decode b_Bm_ballotHolds 157 = .ok (.aload_n 0, 1) := by decide +kernel
theorem d_Bm_ballotHolds_158 : decode b_Bm_ballotHolds 158 = .ok (.getfield 168, 3) := by decide +kernel
theorem d_Bm_ballotHolds_161 : decode b_Bm_ballotHolds 161 = .ok (.invokestatic 152, 3) := by decide +kernel
theorem d_Bm_ballotHolds_164 : decode b_Bm_ballotHolds 164 = .ok (.aload_n 0, 1) := by decide +kernel
theorem d_Bm_ballotHolds_165 : decode b_Bm_ballotHolds 165 = .ok (.iload_n 1, 1) := by decide +kernel
theorem d_Bm_ballotHolds_166 : decode b_Bm_ballotHolds 166 = .ok (.i2l, 1) := by decide +kernel
theorem d_Bm_ballotHolds_167 : decode b_Bm_ballotHolds 167 = .ok (.lload_n 2, 1) := by decide +kernel
theorem d_Bm_ballotHolds_168 : decode b_Bm_ballotHolds 168 = .ok (.lload 4, 2) := by decide +kernel
theorem d_Bm_ballotHolds_170 : decode b_Bm_ballotHolds 170 = .ok (.lload 16, 2) := by decide +kernel
theorem d_Bm_ballotHolds_172 : decode b_Bm_ballotHolds 172 = .ok (.lload 18, 2) := by decide +kernel
theorem d_Bm_ballotHolds_174 : decode b_Bm_ballotHolds 174 = .ok (.lload 20, 2) := by decide +kernel
theorem d_Bm_ballotHolds_176 : decode b_Bm_ballotHolds 176 = .ok (.lload 22, 2) := by decide +kernel
theorem d_Bm_ballotHolds_178 : decode b_Bm_ballotHolds 178 = .ok (.invokevirtual 273, 3) := by decide +kernel
theorem d_Bm_ballotHolds_181 : decode b_Bm_ballotHolds 181 = .ok (.lcmp, 1) := by decide +kernel
theorem d_Bm_ballotHolds_182 : decode b_Bm_ballotHolds 182 = .ok (.ifCond .ne 7, 3) := by decide +kernel
theorem d_Bm_ballotHolds_185 : decode b_Bm_ballotHolds 185 = .ok (.iconst 1, 1) := by decide +kernel
theorem d_Bm_ballotHolds_186 : decode b_Bm_ballotHolds 186 = .ok (.goto 4, 3) := by decide +kernel
theorem d_Bm_ballotHolds_189 : decode b_Bm_ballotHolds 189 = .ok (.iconst 0, 1) := by decide +kernel
theorem d_Bm_ballotHolds_190 : decode b_Bm_ballotHolds 190 = .ok (.ireturn, 1) := by decide +kernel
set_option maxHeartbeats 8000000 in
set_option maxRecDepth 100000 in
theorem c_Bm_ballotHolds (l : Launch) (dC : Nat → ClassId) (dI : Nat → Nat → Nat) (cJ cI : ClassId) (sz : Nat) (m0 : Nat) (z0 z1 z2 z3 : Int32) (z7 z8 z9 : Int64) (z10 : Int32) (a0 a1 a2 a3 a4 a5 a6 a7 a8 a9 b0 b1 oc b2 b3 b4 b5 : Nat) (P Q G : Nat) (bf sc st : Nat → Int32) (tf lf : Nat → Int64) (I Ky : Nat) (x1 x2 x3 x4 x5 x6 : Int64) (hPQ : P = 2 * Q + 1) (h61F : P < 2 ^ 61) (hQ3 : 3 ≤ Q) (hG2 : 2 ≤ G) (hGP : G < P) (hGQ : G ^ Q % P = 1) (hI : I < 2 ^ 31) (hKy : Ky < P) : Met l y_Bm_ballotHolds w_Bm_ballotHolds ({ frames := 6, cells := 0, slots := 0, locals := 177 }) (va_Pc [.ref m0, .int (nI I), .long x1, .long x2, .long x3, .long x4, .long x5, .long x6, .long (lN Ky)] (fun U => U.heap.size = sz ∧ va_P (dC, dI) classes (mo_ws m0 z0 z1 z2 z3 (lN P) (lN Q) (lN G) z7 z8 z9 z10 a0 a1 a2 a3 a4 a5 a6 a7 a8 a9 b0 b1 oc b2 b3 b4 b5 ++ (iw_ws a7 cI 256 bf ++ (iw_ws a8 cI 64 sc ++ (iw_ws a9 cI 8 st ++ (iw_ws b0 cI 8 kS ++ (iw_ws b1 cI 64 kR ++ (jw_ws a2 cJ 4 tf ++ (jw_ws a3 cJ 16 lf)))))))) U.heap ∧ va_K (dC, dI) classes [(cJ, .long), (cI, .int)] U ∧ va_D (fun _ => True) (mo_ws m0 z0 z1 z2 z3 (lN P) (lN Q) (lN G) z7 z8 z9 z10 a0 a1 a2 a3 a4 a5 a6 a7 a8 a9 b0 b1 oc b2 b3 b4 b5 ++ (iw_ws a7 cI 256 bf ++ (iw_ws a8 cI 64 sc ++ (iw_ws a9 cI 8 st ++ (iw_ws b0 cI 8 kS ++ (iw_ws b1 cI 64 kR ++ (jw_ws a2 cJ 4 tf ++ (jw_ws a3 cJ 16 lf)))))))))) (va_Qi (fun (r : Int32) (u9 : DU × (Nat → Int64)) => bz r (balHd P Q G Ky I x1 x2 x3 x4 x5 x6)) (fun u9 t => va_P (dC, dI) classes (mo_ws m0 z0 z1 z2 z3 (lN P) (lN Q) (lN G) z7 z8 z9 z10 a0 a1 a2 a3 a4 a5 a6 a7 a8 a9 b0 b1 u9.1.2.2.2.2 b2 b3 b4 b5 ++ (iw_ws a7 cI 256 u9.1.1 ++ (iw_ws a8 cI 64 u9.1.2.1 ++ (iw_ws a9 cI 8 u9.1.2.2.1 ++ (iw_ws b0 cI 8 kS ++ (iw_ws b1 cI 64 kR ++ (jw_ws a2 cJ 4 u9.1.2.2.2.1 ++ (jw_ws a3 cJ 16 u9.2)))))))) t.heap ∧ va_K (dC, dI) classes [(cJ, .long), (cI, .int)] t ∧ va_D (va_A (mo_ws m0 z0 z1 z2 z3 (lN P) (lN Q) (lN G) z7 z8 z9 z10 a0 a1 a2 a3 a4 a5 a6 a7 a8 a9 b0 b1 oc b2 b3 b4 b5 ++ (iw_ws a7 cI 256 bf ++ (iw_ws a8 cI 64 sc ++ (iw_ws a9 cI 8 st ++ (iw_ws b0 cI 8 kS ++ (iw_ws b1 cI 64 kR ++ (jw_ws a2 cJ 4 tf ++ (jw_ws a3 cJ 16 lf)))))))) sz) (mo_ws m0 z0 z1 z2 z3 (lN P) (lN Q) (lN G) z7 z8 z9 z10 a0 a1 a2 a3 a4 a5 a6 a7 a8 a9 b0 b1 u9.1.2.2.2.2 b2 b3 b4 b5 ++ (iw_ws a7 cI 256 u9.1.1 ++ (iw_ws a8 cI 64 u9.1.2.1 ++ (iw_ws a9 cI 8 u9.1.2.2.1 ++ (iw_ws b0 cI 8 kS ++ (iw_ws b1 cI 64 kR ++ (jw_ws a2 cJ 4 u9.1.2.2.2.1 ++ (jw_ws a3 cJ 16 u9.2))))))))) (va_A (mo_ws m0 z0 z1 z2 z3 (lN P) (lN Q) (lN G) z7 z8 z9 z10 a0 a1 a2 a3 a4 a5 a6 a7 a8 a9 b0 b1 oc b2 b3 b4 b5 ++ (iw_ws a7 cI 256 bf ++ (iw_ws a8 cI 64 sc ++ (iw_ws a9 cI 8 st ++ (iw_ws b0 cI 8 kS ++ (iw_ws b1 cI 64 kR ++ (jw_ws a2 cJ 4 tf ++ (jw_ws a3 cJ 16 lf)))))))) sz)) 0 0 (va_A (mo_ws m0 z0 z1 z2 z3 (lN P) (lN Q) (lN G) z7 z8 z9 z10 a0 a1 a2 a3 a4 a5 a6 a7 a8 a9 b0 b1 oc b2 b3 b4 b5 ++ (iw_ws a7 cI 256 bf ++ (iw_ws a8 cI 64 sc ++ (iw_ws a9 cI 8 st ++ (iw_ws b0 cI 8 kS ++ (iw_ws b1 cI 64 kR ++ (jw_ws a2 cJ 4 tf ++ (jw_ws a3 cJ 16 lf)))))))) sz) := by
  refine Met.ofW (cc := b_Bm_ballotHolds) (maxL := 24) (ret := (some .boolean)) (by decide) rfl ?_
  intro p e s m args below meth c s₁ Bd hml hv
  obtain ⟨rfl, hsz, hP, hK, hD0⟩ := hv
  have hx := Bd.exec
  have hb := Bd.bytes
  have hr := Bd.returns
  have hts := atoms_spec (ws := w_Bm_ballotHolds) Bd.pre
  have hown : s.vm.findClass "BallotBoardModel" = some m.cls := findClass_of_methodNamed Bd.named
  have hlocks := Bd.notSynchronized
  subst hsz
  have hD := hD0.self (sz := s.heap.size)
  generalize hAe : va_A (mo_ws m0 z0 z1 z2 z3 (lN P) (lN Q) (lN G) z7 z8 z9 z10 a0 a1 a2 a3 a4 a5 a6 a7 a8 a9 b0 b1 oc b2 b3 b4 b5 ++ (iw_ws a7 cI 256 bf ++ (iw_ws a8 cI 64 sc ++ (iw_ws a9 cI 8 st ++ (iw_ws b0 cI 8 kS ++ (iw_ws b1 cI 64 kR ++ (jw_ws a2 cJ 4 tf ++ (jw_ws a3 cJ 16 lf)))))))) s.heap.size = A at hD ⊢
  have hA : ∀ q : Nat, s.heap.size ≤ q → A q := fun q h => by rw [← hAe]; exact Or.inr h
  have hS : va_S A s.heap s.heap [] := va_S.rf
  have hl := lv_entry ([.ref m0, .int (nI I), .long x1, .long x2, .long x3, .long x4, .long x5, .long x6, .long (lN Ky)]) (n := 24) (Nat.le_of_ble_eq_true rfl)
  rw [lg_entry_eq]
  generalize (lg_sl ([.ref m0, .int (nI I), .long x1, .long x2, .long x3, .long x4, .long x5, .long x6, .long (lN Ky)]) ++ List.replicate (24 - (lg_sl ([.ref m0, .int (nI I), .long x1, .long x2, .long x3, .long x4, .long x5, .long x6, .long (lN Ky)])).length) Slot.unset).toArray = ls at hl ⊢
  have hl : lv_has ls 24 [(0, .ref m0), (1, .int (nI I)), (2, .long x1), (4, .long x2), (6, .long x3), (8, .long x4), (10, .long x5), (12, .long x6), (14, .long (lN Ky))] := hl
  refine lv_aload_n hx hb d_Bm_ballotHolds_0 rfl (lv_at hl 0 rfl) ?_
  refine lv_lload hx hb d_Bm_ballotHolds_1 (lv_at hl 4 rfl) ?_
  have hPc := hP.sub (ws' := (mo_ws m0 z0 z1 z2 z3 (lN P) (lN Q) (lN G) z7 z8 z9 z10 a0 a1 a2 a3 a4 a5 a6 a7 a8 a9 b0 b1 oc b2 b3 b4 b5)) [0] rfl
  have hKc := hK.sub (tys' := [(cJ, .long), (cI, .int)]) [0, 1] rfl
  refine va_calli (va_runV (As := [.long x3]) (rest := []) ⟨hx, hb, hml, hown, hts⟩ (c_Bm_isExponent l s.heap dC dI cJ cI m0 z0 z1 z2 z3 z7 z8 z9 z10 a0 a1 a2 a3 a4 a5 a6 a7 a8 a9 b0 b1 oc b2 b3 b4 b5 P Q G x3 hPc hPQ h61F hQ3 ) (cwV 1 hts (gw_V gk_1042 gk_1044 gp_29 gk_7 gk_1045) rfl rfl rfl (by decide +kernel) ⟨Nat.le_of_ble_eq_true rfl, Nat.le_of_ble_eq_true rfl⟩) ⟨fun a U g mk q => ⟨q.1, q.2.1, va_K.moved (u := U) (U := U.calling g mk a) (Vm.Alike.refl U.vm) q.2.2⟩, va_recv hK hP (ci := 8) (q0 := 0) rfl rfl, fun U hU hW => ⟨rfl, hU, va_K.moved hW.alike hKc⟩⟩ rfl rfl hl.1 rfl (lv_room (Nat.le_of_ble_eq_true rfl)) d_Bm_ballotHolds_3 ⟨Nat.le_of_ble_eq_true rfl, Nat.le_of_ble_eq_true rfl⟩) hS (fun q _ h => h.elim) (fun q h => h.elim) (fun r3 u9 t9 H1 locs ht hvm hw hB hz1 hk1 hS => ?_)
  obtain rfl : s.heap = H1 := hB.symm.trans ht
  have h3 := hw
  refine lv_if_eq (tgt := 53) hx hb d_Bm_ballotHolds_6 (by decide) (fun c_1 => ?_) (fun c_1 => ?_)
  · -- taken
    have hbad : ¬ balHd P Q G Ky I x1 x2 x3 x4 x5 x6 := fun ⟨A2, B2, C2, Z2, D2, Y2, a2, a3, a4, a5, a6, a7, hC2, hZ2, hD2, hY2, hA2, hB2, hh⟩ => bz_f h3 c_1 ⟨C2, a4, hC2⟩
    refine lv_iconst (v := 0) hx hb d_Bm_ballotHolds_53 (by decide) ?_
    exact W.zret (v := 0) hx hb hr (by decide) (fun t ht9 hW => ⟨⟨_, ((bf, sc, st, tf, oc), lf), rfl, (bz_0 hbad), by rw [ht9]; exact hP, va_K.moved hW.alike hK, hD⟩, hS.F ht9⟩) hS.2.2 d_Bm_ballotHolds_54
  · -- not taken
    have bo3 := bz_t h3 c_1
    refine lv_aload_n hx hb d_Bm_ballotHolds_9 rfl (lv_at hl 0 rfl) ?_
    refine lv_lload hx hb d_Bm_ballotHolds_10 (lv_at hl 5 rfl) ?_
    have hPc := hP.sub (ws' := (mo_ws m0 z0 z1 z2 z3 (lN P) (lN Q) (lN G) z7 z8 z9 z10 a0 a1 a2 a3 a4 a5 a6 a7 a8 a9 b0 b1 oc b2 b3 b4 b5)) [0] rfl
    have hKc := hK.sub (tys' := [(cJ, .long), (cI, .int)]) [0, 1] rfl
    refine va_calli (va_runV (As := [.long x4]) (rest := []) ⟨hx, hb, hml, hown, hts⟩ (c_Bm_isExponent l s.heap dC dI cJ cI m0 z0 z1 z2 z3 z7 z8 z9 z10 a0 a1 a2 a3 a4 a5 a6 a7 a8 a9 b0 b1 oc b2 b3 b4 b5 P Q G x4 hPc hPQ h61F hQ3 ) (cwV 1 hts (gw_V gk_1042 gk_1044 gp_29 gk_7 gk_1045) rfl rfl rfl (by decide +kernel) ⟨Nat.le_of_ble_eq_true rfl, Nat.le_of_ble_eq_true rfl⟩) ⟨fun a U g mk q => ⟨q.1, q.2.1, va_K.moved (u := U) (U := U.calling g mk a) (Vm.Alike.refl U.vm) q.2.2⟩, va_recv hK hP (ci := 8) (q0 := 0) rfl rfl, fun U hU hW => ⟨rfl, hU, va_K.moved hW.alike hKc⟩⟩ rfl rfl hl.1 rfl (lv_room (Nat.le_of_ble_eq_true rfl)) d_Bm_ballotHolds_12 ⟨Nat.le_of_ble_eq_true rfl, Nat.le_of_ble_eq_true rfl⟩) hS (fun q _ h => h.elim) (fun q h => h.elim) (fun r12 u9 t9 H1 locs ht hvm hw hB hz1 hk1 hS => ?_)
    obtain rfl : s.heap = H1 := hB.symm.trans ht
    have h12 := hw
    refine lv_if_eq (tgt := 53) hx hb d_Bm_ballotHolds_15 (by decide) (fun c_2 => ?_) (fun c_2 => ?_)
    · -- taken
      have hbad : ¬ balHd P Q G Ky I x1 x2 x3 x4 x5 x6 := fun ⟨A2, B2, C2, Z2, D2, Y2, a2, a3, a4, a5, a6, a7, hC2, hZ2, hD2, hY2, hA2, hB2, hh⟩ => bz_f h12 c_2 ⟨Z2, a5, hZ2⟩
      refine lv_iconst (v := 0) hx hb d_Bm_ballotHolds_53 (by decide) ?_
      exact W.zret (v := 0) hx hb hr (by decide) (fun t ht9 hW => ⟨⟨_, ((bf, sc, st, tf, oc), lf), rfl, (bz_0 hbad), by rw [ht9]; exact hP, va_K.moved hW.alike hK, hD⟩, hS.F ht9⟩) hS.2.2 d_Bm_ballotHolds_54
    · -- not taken
      have bo12 := bz_t h12 c_2
      refine lv_aload_n hx hb d_Bm_ballotHolds_18 rfl (lv_at hl 0 rfl) ?_
      refine lv_lload hx hb d_Bm_ballotHolds_19 (lv_at hl 6 rfl) ?_
      have hPc := hP.sub (ws' := (mo_ws m0 z0 z1 z2 z3 (lN P) (lN Q) (lN G) z7 z8 z9 z10 a0 a1 a2 a3 a4 a5 a6 a7 a8 a9 b0 b1 oc b2 b3 b4 b5)) [0] rfl
      have hKc := hK.sub (tys' := [(cJ, .long), (cI, .int)]) [0, 1] rfl
      refine va_calli (va_runV (As := [.long x5]) (rest := []) ⟨hx, hb, hml, hown, hts⟩ (c_Bm_isExponent l s.heap dC dI cJ cI m0 z0 z1 z2 z3 z7 z8 z9 z10 a0 a1 a2 a3 a4 a5 a6 a7 a8 a9 b0 b1 oc b2 b3 b4 b5 P Q G x5 hPc hPQ h61F hQ3 ) (cwV 1 hts (gw_V gk_1042 gk_1044 gp_29 gk_7 gk_1045) rfl rfl rfl (by decide +kernel) ⟨Nat.le_of_ble_eq_true rfl, Nat.le_of_ble_eq_true rfl⟩) ⟨fun a U g mk q => ⟨q.1, q.2.1, va_K.moved (u := U) (U := U.calling g mk a) (Vm.Alike.refl U.vm) q.2.2⟩, va_recv hK hP (ci := 8) (q0 := 0) rfl rfl, fun U hU hW => ⟨rfl, hU, va_K.moved hW.alike hKc⟩⟩ rfl rfl hl.1 rfl (lv_room (Nat.le_of_ble_eq_true rfl)) d_Bm_ballotHolds_21 ⟨Nat.le_of_ble_eq_true rfl, Nat.le_of_ble_eq_true rfl⟩) hS (fun q _ h => h.elim) (fun q h => h.elim) (fun r21 u9 t9 H1 locs ht hvm hw hB hz1 hk1 hS => ?_)
      obtain rfl : s.heap = H1 := hB.symm.trans ht
      have h21 := hw
      refine lv_if_eq (tgt := 53) hx hb d_Bm_ballotHolds_24 (by decide) (fun c_3 => ?_) (fun c_3 => ?_)
      · -- taken
        have hbad : ¬ balHd P Q G Ky I x1 x2 x3 x4 x5 x6 := fun ⟨A2, B2, C2, Z2, D2, Y2, a2, a3, a4, a5, a6, a7, hC2, hZ2, hD2, hY2, hA2, hB2, hh⟩ => bz_f h21 c_3 ⟨D2, a6, hD2⟩
        refine lv_iconst (v := 0) hx hb d_Bm_ballotHolds_53 (by decide) ?_
        exact W.zret (v := 0) hx hb hr (by decide) (fun t ht9 hW => ⟨⟨_, ((bf, sc, st, tf, oc), lf), rfl, (bz_0 hbad), by rw [ht9]; exact hP, va_K.moved hW.alike hK, hD⟩, hS.F ht9⟩) hS.2.2 d_Bm_ballotHolds_54
      · -- not taken
        have bo21 := bz_t h21 c_3
        refine lv_aload_n hx hb d_Bm_ballotHolds_27 rfl (lv_at hl 0 rfl) ?_
        refine lv_lload hx hb d_Bm_ballotHolds_28 (lv_at hl 7 rfl) ?_
        have hPc := hP.sub (ws' := (mo_ws m0 z0 z1 z2 z3 (lN P) (lN Q) (lN G) z7 z8 z9 z10 a0 a1 a2 a3 a4 a5 a6 a7 a8 a9 b0 b1 oc b2 b3 b4 b5)) [0] rfl
        have hKc := hK.sub (tys' := [(cJ, .long), (cI, .int)]) [0, 1] rfl
        refine va_calli (va_runV (As := [.long x6]) (rest := []) ⟨hx, hb, hml, hown, hts⟩ (c_Bm_isExponent l s.heap dC dI cJ cI m0 z0 z1 z2 z3 z7 z8 z9 z10 a0 a1 a2 a3 a4 a5 a6 a7 a8 a9 b0 b1 oc b2 b3 b4 b5 P Q G x6 hPc hPQ h61F hQ3 ) (cwV 1 hts (gw_V gk_1042 gk_1044 gp_29 gk_7 gk_1045) rfl rfl rfl (by decide +kernel) ⟨Nat.le_of_ble_eq_true rfl, Nat.le_of_ble_eq_true rfl⟩) ⟨fun a U g mk q => ⟨q.1, q.2.1, va_K.moved (u := U) (U := U.calling g mk a) (Vm.Alike.refl U.vm) q.2.2⟩, va_recv hK hP (ci := 8) (q0 := 0) rfl rfl, fun U hU hW => ⟨rfl, hU, va_K.moved hW.alike hKc⟩⟩ rfl rfl hl.1 rfl (lv_room (Nat.le_of_ble_eq_true rfl)) d_Bm_ballotHolds_30 ⟨Nat.le_of_ble_eq_true rfl, Nat.le_of_ble_eq_true rfl⟩) hS (fun q _ h => h.elim) (fun q h => h.elim) (fun r30 u9 t9 H1 locs ht hvm hw hB hz1 hk1 hS => ?_)
        obtain rfl : s.heap = H1 := hB.symm.trans ht
        have h30 := hw
        refine lv_if_eq (tgt := 53) hx hb d_Bm_ballotHolds_33 (by decide) (fun c_4 => ?_) (fun c_4 => ?_)
        · -- taken
          have hbad : ¬ balHd P Q G Ky I x1 x2 x3 x4 x5 x6 := fun ⟨A2, B2, C2, Z2, D2, Y2, a2, a3, a4, a5, a6, a7, hC2, hZ2, hD2, hY2, hA2, hB2, hh⟩ => bz_f h30 c_4 ⟨Y2, a7, hY2⟩
          refine lv_iconst (v := 0) hx hb d_Bm_ballotHolds_53 (by decide) ?_
          exact W.zret (v := 0) hx hb hr (by decide) (fun t ht9 hW => ⟨⟨_, ((bf, sc, st, tf, oc), lf), rfl, (bz_0 hbad), by rw [ht9]; exact hP, va_K.moved hW.alike hK, hD⟩, hS.F ht9⟩) hS.2.2 d_Bm_ballotHolds_54
        · -- not taken
          have bo30 := bz_t h30 c_4
          refine lv_aload_n hx hb d_Bm_ballotHolds_36 rfl (lv_at hl 0 rfl) ?_
          refine lv_lload_n hx hb d_Bm_ballotHolds_37 rfl (lv_at hl 2 rfl) ?_
          have hPc := hP.sub (ws' := (mo_ws m0 z0 z1 z2 z3 (lN P) (lN Q) (lN G) z7 z8 z9 z10 a0 a1 a2 a3 a4 a5 a6 a7 a8 a9 b0 b1 oc b2 b3 b4 b5)) [0] rfl
          have hKc := hK.sub (tys' := [(cJ, .long), (cI, .int)]) [0, 1] rfl
          refine va_calli (va_runV (As := [.long x1]) (rest := []) ⟨hx, hb, hml, hown, hts⟩ (c_Bm_isIn l s.heap dC dI cJ cI m0 z0 z1 z2 z3 z7 z8 z9 z10 a0 a1 a2 a3 a4 a5 a6 a7 a8 a9 b0 b1 oc b2 b3 b4 b5 P Q G x1 hPc hPQ h61F hQ3 ) (cwV 1 hts (gw_V gk_1046 gk_1048 gp_30 gk_7 gk_1049) rfl rfl rfl (by decide +kernel) ⟨Nat.le_of_ble_eq_true rfl, Nat.le_of_ble_eq_true rfl⟩) ⟨fun a U g mk q => ⟨q.1, q.2.1, va_K.moved (u := U) (U := U.calling g mk a) (Vm.Alike.refl U.vm) q.2.2⟩, va_recv hK hP (ci := 8) (q0 := 0) rfl rfl, fun U hU hW => ⟨rfl, hU, va_K.moved hW.alike hKc⟩⟩ rfl rfl hl.1 rfl (lv_room (Nat.le_of_ble_eq_true rfl)) d_Bm_ballotHolds_38 ⟨Nat.le_of_ble_eq_true rfl, Nat.le_of_ble_eq_true rfl⟩) hS (fun q _ h => h.elim) (fun q h => h.elim) (fun r38 u9 t9 H1 locs ht hvm hw hB hz1 hk1 hS => ?_)
          obtain rfl : s.heap = H1 := hB.symm.trans ht
          have h38 := hw
          refine lv_if_eq (tgt := 53) hx hb d_Bm_ballotHolds_41 (by decide) (fun c_5 => ?_) (fun c_5 => ?_)
          · -- taken
            have hbad : ¬ balHd P Q G Ky I x1 x2 x3 x4 x5 x6 := fun ⟨A2, B2, C2, Z2, D2, Y2, a2, a3, a4, a5, a6, a7, hC2, hZ2, hD2, hY2, hA2, hB2, hh⟩ => bz_f h38 c_5 ⟨A2, a2, hA2⟩
            refine lv_iconst (v := 0) hx hb d_Bm_ballotHolds_53 (by decide) ?_
            exact W.zret (v := 0) hx hb hr (by decide) (fun t ht9 hW => ⟨⟨_, ((bf, sc, st, tf, oc), lf), rfl, (bz_0 hbad), by rw [ht9]; exact hP, va_K.moved hW.alike hK, hD⟩, hS.F ht9⟩) hS.2.2 d_Bm_ballotHolds_54
          · -- not taken
            have bo38 := bz_t h38 c_5
            refine lv_aload_n hx hb d_Bm_ballotHolds_44 rfl (lv_at hl 0 rfl) ?_
            refine lv_lload hx hb d_Bm_ballotHolds_45 (lv_at hl 3 rfl) ?_
            have hPc := hP.sub (ws' := (mo_ws m0 z0 z1 z2 z3 (lN P) (lN Q) (lN G) z7 z8 z9 z10 a0 a1 a2 a3 a4 a5 a6 a7 a8 a9 b0 b1 oc b2 b3 b4 b5)) [0] rfl
            have hKc := hK.sub (tys' := [(cJ, .long), (cI, .int)]) [0, 1] rfl
            refine va_calli (va_runV (As := [.long x2]) (rest := []) ⟨hx, hb, hml, hown, hts⟩ (c_Bm_isIn l s.heap dC dI cJ cI m0 z0 z1 z2 z3 z7 z8 z9 z10 a0 a1 a2 a3 a4 a5 a6 a7 a8 a9 b0 b1 oc b2 b3 b4 b5 P Q G x2 hPc hPQ h61F hQ3 ) (cwV 1 hts (gw_V gk_1046 gk_1048 gp_30 gk_7 gk_1049) rfl rfl rfl (by decide +kernel) ⟨Nat.le_of_ble_eq_true rfl, Nat.le_of_ble_eq_true rfl⟩) ⟨fun a U g mk q => ⟨q.1, q.2.1, va_K.moved (u := U) (U := U.calling g mk a) (Vm.Alike.refl U.vm) q.2.2⟩, va_recv hK hP (ci := 8) (q0 := 0) rfl rfl, fun U hU hW => ⟨rfl, hU, va_K.moved hW.alike hKc⟩⟩ rfl rfl hl.1 rfl (lv_room (Nat.le_of_ble_eq_true rfl)) d_Bm_ballotHolds_47 ⟨Nat.le_of_ble_eq_true rfl, Nat.le_of_ble_eq_true rfl⟩) hS (fun q _ h => h.elim) (fun q h => h.elim) (fun r47 u9 t9 H1 locs ht hvm hw hB hz1 hk1 hS => ?_)
            obtain rfl : s.heap = H1 := hB.symm.trans ht
            have h47 := hw
            refine lv_if_ne (tgt := 55) hx hb d_Bm_ballotHolds_50 (by decide) (fun c_6 => ?_) (fun c_6 => ?_)
            · -- taken
              obtain ⟨C1, rfl, hC9⟩ := bo3
              obtain ⟨Z1, rfl, hZ9⟩ := bo12
              obtain ⟨D1, rfl, hD9⟩ := bo21
              obtain ⟨Y1, rfl, hY9⟩ := bo30
              obtain ⟨A1, rfl, hA1, hA9, hAQ⟩ := bo38
              obtain ⟨B1, rfl, hB1, hB9, hBQ⟩ := bz_t h47 c_6
              have hBG := bg_q hBQ hGQ
              refine lv_aload_n hx hb d_Bm_ballotHolds_55 rfl (lv_at hl 0 rfl) ?_
              refine lv_aload_n hx hb d_Bm_ballotHolds_56 rfl (lv_at hl 0 rfl) ?_
              refine lv_aload_n hx hb d_Bm_ballotHolds_57 rfl (lv_at hl 0 rfl) ?_
              refine va_get (D := (dC, dI)) (ci := 8) (v := .long (lN G)) (C := "BallotBoardModel") (T := F_Bm) (N := 28) hx hb hts (fun w9 h9 => List.mem_cons_of_mem _ (i_Bm w9 h9)) hown hK hP 0 rfl rfl 6 (by decide) (hts _ (List.mem_cons_of_mem _ gk_925)) (fun _ h9 => h9) rfl d_Bm_ballotHolds_58 ?_
              refine lv_lload hx hb d_Bm_ballotHolds_61 (lv_at hl 5 rfl) ?_
              have hPc := hP.sub (ws' := (mo_ws m0 z0 z1 z2 z3 (lN P) (lN Q) (lN G) z7 z8 z9 z10 a0 a1 a2 a3 a4 a5 a6 a7 a8 a9 b0 b1 oc b2 b3 b4 b5)) [0] rfl
              have hKc := hK.sub (tys' := [(cJ, .long), (cI, .int)]) [0, 1] rfl
              refine va_calll (va_runV (As := [.long (lN G), .long (lN Z1)]) (rest := [.ref m0]) ⟨hx, hb, hml, hown, hts⟩ (c_Bm_power2 l s.heap dC dI cJ cI m0 z0 z1 z2 z3 z7 z8 z9 z10 a0 a1 a2 a3 a4 a5 a6 a7 a8 a9 b0 b1 oc b2 b3 b4 b5 P Q G G Z1 hPc hPQ h61F hQ3 hGP (by omega)) (cwV 2 hts (gw_V gk_1050 gk_1052 gp_31 gk_7 gk_1053) rfl rfl rfl (by decide +kernel) ⟨Nat.le_of_ble_eq_true rfl, Nat.le_of_ble_eq_true rfl⟩) ⟨fun a U g mk q => ⟨q.1, q.2.1, va_K.moved (u := U) (U := U.calling g mk a) (Vm.Alike.refl U.vm) q.2.2⟩, va_recv hK hP (ci := 8) (q0 := 0) rfl rfl, fun U hU hW => ⟨rfl, hU, va_K.moved hW.alike hKc⟩⟩ rfl rfl hl.1 rfl (lv_room (Nat.le_of_ble_eq_true rfl)) d_Bm_ballotHolds_63 ⟨Nat.le_of_ble_eq_true rfl, Nat.le_of_ble_eq_true rfl⟩) hS (fun q _ h => h.elim) (fun q h => h.elim) (fun r63 u9 t9 H1 locs ht hvm hw hB hz1 hk1 hS => ?_)
              obtain rfl : s.heap = H1 := hB.symm.trans ht
              have hw : r63 = lN (G ^ Z1 % P) := hw
              subst hw
              refine lv_aload_n hx hb d_Bm_ballotHolds_66 rfl (lv_at hl 0 rfl) ?_
              refine lv_lload_n hx hb d_Bm_ballotHolds_67 rfl (lv_at hl 2 rfl) ?_
              refine lv_lload hx hb d_Bm_ballotHolds_68 (lv_at hl 4 rfl) ?_
              have hPc := hP.sub (ws' := (mo_ws m0 z0 z1 z2 z3 (lN P) (lN Q) (lN G) z7 z8 z9 z10 a0 a1 a2 a3 a4 a5 a6 a7 a8 a9 b0 b1 oc b2 b3 b4 b5)) [0] rfl
              have hKc := hK.sub (tys' := [(cJ, .long), (cI, .int)]) [0, 1] rfl
              refine va_calll (va_runV (As := [.long (lN A1), .long (lN C1)]) (rest := [.long (lN (G ^ Z1 % P)), .ref m0]) ⟨hx, hb, hml, hown, hts⟩ (c_Bm_back l s.heap dC dI cJ cI m0 z0 z1 z2 z3 z7 z8 z9 z10 a0 a1 a2 a3 a4 a5 a6 a7 a8 a9 b0 b1 oc b2 b3 b4 b5 P Q G A1 C1 hPc hPQ h61F hQ3 hA9 (by omega)) (cwV 2 hts (gw_V gk_1054 gk_1056 gp_32 gk_7 gk_1057) rfl rfl rfl (by decide +kernel) ⟨Nat.le_of_ble_eq_true rfl, Nat.le_of_ble_eq_true rfl⟩) ⟨fun a U g mk q => ⟨q.1, q.2.1, va_K.moved (u := U) (U := U.calling g mk a) (Vm.Alike.refl U.vm) q.2.2⟩, va_recv hK hP (ci := 8) (q0 := 0) rfl rfl, fun U hU hW => ⟨rfl, hU, va_K.moved hW.alike hKc⟩⟩ rfl rfl hl.1 rfl (lv_room (Nat.le_of_ble_eq_true rfl)) d_Bm_ballotHolds_70 ⟨Nat.le_of_ble_eq_true rfl, Nat.le_of_ble_eq_true rfl⟩) hS (fun q _ h => h.elim) (fun q h => h.elim) (fun r70 u9 t9 H1 locs ht hvm hw hB hz1 hk1 hS => ?_)
              obtain rfl : s.heap = H1 := hB.symm.trans ht
              have hw : r70 = lN (A1 ^ (Q - C1) % P) := hw
              subst hw
              have hPc := hP.sub (ws' := (mo_ws m0 z0 z1 z2 z3 (lN P) (lN Q) (lN G) z7 z8 z9 z10 a0 a1 a2 a3 a4 a5 a6 a7 a8 a9 b0 b1 oc b2 b3 b4 b5)) [0] rfl
              have hKc := hK.sub (tys' := [(cJ, .long), (cI, .int)]) [0, 1] rfl
              refine va_calll (va_runV (As := [.long (lN (G ^ Z1 % P)), .long (lN (A1 ^ (Q - C1) % P))]) (rest := []) ⟨hx, hb, hml, hown, hts⟩ (c_Bm_times l s.heap dC dI cJ cI m0 z0 z1 z2 z3 z7 z8 z9 z10 a0 a1 a2 a3 a4 a5 a6 a7 a8 a9 b0 b1 oc b2 b3 b4 b5 P Q G (G ^ Z1 % P) (A1 ^ (Q - C1) % P) hPc hPQ h61F hQ3 (Nat.mod_lt _ (by omega)) (Nat.mod_lt _ (by omega))) (cwV 2 hts (gw_V gk_1058 gk_1060 gp_33 gk_7 gk_1061) rfl rfl rfl (by decide +kernel) ⟨Nat.le_of_ble_eq_true rfl, Nat.le_of_ble_eq_true rfl⟩) ⟨fun a U g mk q => ⟨q.1, q.2.1, va_K.moved (u := U) (U := U.calling g mk a) (Vm.Alike.refl U.vm) q.2.2⟩, va_recv hK hP (ci := 8) (q0 := 0) rfl rfl, fun U hU hW => ⟨rfl, hU, va_K.moved hW.alike hKc⟩⟩ rfl rfl hl.1 rfl (lv_room (Nat.le_of_ble_eq_true rfl)) d_Bm_ballotHolds_73 ⟨Nat.le_of_ble_eq_true rfl, Nat.le_of_ble_eq_true rfl⟩) hS (fun q _ h => h.elim) (fun q h => h.elim) (fun r73 u9 t9 H1 locs ht hvm hw hB hz1 hk1 hS => ?_)
              obtain rfl : s.heap = H1 := hB.symm.trans ht
              have hw : r73 = lN ((G ^ Z1 % P) * (A1 ^ (Q - C1) % P) % P) := hw
              subst hw
              refine lv_lstore (lv' := [(16, .long (lN ((G ^ Z1 % P) * (A1 ^ (Q - C1) % P) % P))), (0, .ref m0), (1, .int (nI I)), (2, .long (lN A1)), (4, .long (lN B1)), (6, .long (lN C1)), (8, .long (lN Z1)), (10, .long (lN D1)), (12, .long (lN Y1)), (14, .long (lN Ky))]) hx hb d_Bm_ballotHolds_76 hl (by decide) rfl (fun ls hl => ?_)
              refine lv_aload_n hx hb d_Bm_ballotHolds_78 rfl (lv_at hl 1 rfl) ?_
              refine lv_aload_n hx hb d_Bm_ballotHolds_79 rfl (lv_at hl 1 rfl) ?_
              refine lv_lload hx hb d_Bm_ballotHolds_80 (lv_at hl 9 rfl) ?_
              refine lv_lload hx hb d_Bm_ballotHolds_82 (lv_at hl 6 rfl) ?_
              have hPc := hP.sub (ws' := (mo_ws m0 z0 z1 z2 z3 (lN P) (lN Q) (lN G) z7 z8 z9 z10 a0 a1 a2 a3 a4 a5 a6 a7 a8 a9 b0 b1 oc b2 b3 b4 b5)) [0] rfl
              have hKc := hK.sub (tys' := [(cJ, .long), (cI, .int)]) [0, 1] rfl
              refine va_calll (va_runV (As := [.long (lN Ky), .long (lN Z1)]) (rest := [.ref m0]) ⟨hx, hb, hml, hown, hts⟩ (c_Bm_power2 l s.heap dC dI cJ cI m0 z0 z1 z2 z3 z7 z8 z9 z10 a0 a1 a2 a3 a4 a5 a6 a7 a8 a9 b0 b1 oc b2 b3 b4 b5 P Q G Ky Z1 hPc hPQ h61F hQ3 hKy (by omega)) (cwV 2 hts (gw_V gk_1050 gk_1052 gp_31 gk_7 gk_1053) rfl rfl rfl (by decide +kernel) ⟨Nat.le_of_ble_eq_true rfl, Nat.le_of_ble_eq_true rfl⟩) ⟨fun a U g mk q => ⟨q.1, q.2.1, va_K.moved (u := U) (U := U.calling g mk a) (Vm.Alike.refl U.vm) q.2.2⟩, va_recv hK hP (ci := 8) (q0 := 0) rfl rfl, fun U hU hW => ⟨rfl, hU, va_K.moved hW.alike hKc⟩⟩ rfl rfl hl.1 rfl (lv_room (Nat.le_of_ble_eq_true rfl)) d_Bm_ballotHolds_84 ⟨Nat.le_of_ble_eq_true rfl, Nat.le_of_ble_eq_true rfl⟩) hS (fun q _ h => h.elim) (fun q h => h.elim) (fun r84 u9 t9 H1 locs ht hvm hw hB hz1 hk1 hS => ?_)
              obtain rfl : s.heap = H1 := hB.symm.trans ht
              have hw : r84 = lN (Ky ^ Z1 % P) := hw
              subst hw
              refine lv_aload_n hx hb d_Bm_ballotHolds_87 rfl (lv_at hl 1 rfl) ?_
              refine lv_lload hx hb d_Bm_ballotHolds_88 (lv_at hl 4 rfl) ?_
              refine lv_lload hx hb d_Bm_ballotHolds_90 (lv_at hl 5 rfl) ?_
              have hPc := hP.sub (ws' := (mo_ws m0 z0 z1 z2 z3 (lN P) (lN Q) (lN G) z7 z8 z9 z10 a0 a1 a2 a3 a4 a5 a6 a7 a8 a9 b0 b1 oc b2 b3 b4 b5)) [0] rfl
              have hKc := hK.sub (tys' := [(cJ, .long), (cI, .int)]) [0, 1] rfl
              refine va_calll (va_runV (As := [.long (lN B1), .long (lN C1)]) (rest := [.long (lN (Ky ^ Z1 % P)), .ref m0]) ⟨hx, hb, hml, hown, hts⟩ (c_Bm_back l s.heap dC dI cJ cI m0 z0 z1 z2 z3 z7 z8 z9 z10 a0 a1 a2 a3 a4 a5 a6 a7 a8 a9 b0 b1 oc b2 b3 b4 b5 P Q G B1 C1 hPc hPQ h61F hQ3 hB9 (by omega)) (cwV 2 hts (gw_V gk_1054 gk_1056 gp_32 gk_7 gk_1057) rfl rfl rfl (by decide +kernel) ⟨Nat.le_of_ble_eq_true rfl, Nat.le_of_ble_eq_true rfl⟩) ⟨fun a U g mk q => ⟨q.1, q.2.1, va_K.moved (u := U) (U := U.calling g mk a) (Vm.Alike.refl U.vm) q.2.2⟩, va_recv hK hP (ci := 8) (q0 := 0) rfl rfl, fun U hU hW => ⟨rfl, hU, va_K.moved hW.alike hKc⟩⟩ rfl rfl hl.1 rfl (lv_room (Nat.le_of_ble_eq_true rfl)) d_Bm_ballotHolds_92 ⟨Nat.le_of_ble_eq_true rfl, Nat.le_of_ble_eq_true rfl⟩) hS (fun q _ h => h.elim) (fun q h => h.elim) (fun r92 u9 t9 H1 locs ht hvm hw hB hz1 hk1 hS => ?_)
              obtain rfl : s.heap = H1 := hB.symm.trans ht
              have hw : r92 = lN (B1 ^ (Q - C1) % P) := hw
              subst hw
              have hPc := hP.sub (ws' := (mo_ws m0 z0 z1 z2 z3 (lN P) (lN Q) (lN G) z7 z8 z9 z10 a0 a1 a2 a3 a4 a5 a6 a7 a8 a9 b0 b1 oc b2 b3 b4 b5)) [0] rfl
              have hKc := hK.sub (tys' := [(cJ, .long), (cI, .int)]) [0, 1] rfl
              refine va_calll (va_runV (As := [.long (lN (Ky ^ Z1 % P)), .long (lN (B1 ^ (Q - C1) % P))]) (rest := []) ⟨hx, hb, hml, hown, hts⟩ (c_Bm_times l s.heap dC dI cJ cI m0 z0 z1 z2 z3 z7 z8 z9 z10 a0 a1 a2 a3 a4 a5 a6 a7 a8 a9 b0 b1 oc b2 b3 b4 b5 P Q G (Ky ^ Z1 % P) (B1 ^ (Q - C1) % P) hPc hPQ h61F hQ3 (Nat.mod_lt _ (by omega)) (Nat.mod_lt _ (by omega))) (cwV 2 hts (gw_V gk_1058 gk_1060 gp_33 gk_7 gk_1061) rfl rfl rfl (by decide +kernel) ⟨Nat.le_of_ble_eq_true rfl, Nat.le_of_ble_eq_true rfl⟩) ⟨fun a U g mk q => ⟨q.1, q.2.1, va_K.moved (u := U) (U := U.calling g mk a) (Vm.Alike.refl U.vm) q.2.2⟩, va_recv hK hP (ci := 8) (q0 := 0) rfl rfl, fun U hU hW => ⟨rfl, hU, va_K.moved hW.alike hKc⟩⟩ rfl rfl hl.1 rfl (lv_room (Nat.le_of_ble_eq_true rfl)) d_Bm_ballotHolds_95 ⟨Nat.le_of_ble_eq_true rfl, Nat.le_of_ble_eq_true rfl⟩) hS (fun q _ h => h.elim) (fun q h => h.elim) (fun r95 u9 t9 H1 locs ht hvm hw hB hz1 hk1 hS => ?_)
              obtain rfl : s.heap = H1 := hB.symm.trans ht
              have hw : r95 = lN ((Ky ^ Z1 % P) * (B1 ^ (Q - C1) % P) % P) := hw
              subst hw
              refine lv_lstore (lv' := [(18, .long (lN ((Ky ^ Z1 % P) * (B1 ^ (Q - C1) % P) % P))), (16, .long (lN ((G ^ Z1 % P) * (A1 ^ (Q - C1) % P) % P))), (0, .ref m0), (1, .int (nI I)), (2, .long (lN A1)), (4, .long (lN B1)), (6, .long (lN C1)), (8, .long (lN Z1)), (10, .long (lN D1)), (12, .long (lN Y1)), (14, .long (lN Ky))]) hx hb d_Bm_ballotHolds_98 hl (by decide) rfl (fun ls hl => ?_)
              refine lv_aload_n hx hb d_Bm_ballotHolds_100 rfl (lv_at hl 2 rfl) ?_
              refine lv_aload_n hx hb d_Bm_ballotHolds_101 rfl (lv_at hl 2 rfl) ?_
              refine lv_aload_n hx hb d_Bm_ballotHolds_102 rfl (lv_at hl 2 rfl) ?_
              refine va_get (D := (dC, dI)) (ci := 8) (v := .long (lN G)) (C := "BallotBoardModel") (T := F_Bm) (N := 28) hx hb hts (fun w9 h9 => List.mem_cons_of_mem _ (i_Bm w9 h9)) hown hK hP 0 rfl rfl 6 (by decide) (hts _ (List.mem_cons_of_mem _ gk_925)) (fun _ h9 => h9) rfl d_Bm_ballotHolds_103 ?_
              refine lv_lload hx hb d_Bm_ballotHolds_106 (lv_at hl 9 rfl) ?_
              have hPc := hP.sub (ws' := (mo_ws m0 z0 z1 z2 z3 (lN P) (lN Q) (lN G) z7 z8 z9 z10 a0 a1 a2 a3 a4 a5 a6 a7 a8 a9 b0 b1 oc b2 b3 b4 b5)) [0] rfl
              have hKc := hK.sub (tys' := [(cJ, .long), (cI, .int)]) [0, 1] rfl
              refine va_calll (va_runV (As := [.long (lN G), .long (lN Y1)]) (rest := [.ref m0]) ⟨hx, hb, hml, hown, hts⟩ (c_Bm_power2 l s.heap dC dI cJ cI m0 z0 z1 z2 z3 z7 z8 z9 z10 a0 a1 a2 a3 a4 a5 a6 a7 a8 a9 b0 b1 oc b2 b3 b4 b5 P Q G G Y1 hPc hPQ h61F hQ3 hGP (by omega)) (cwV 2 hts (gw_V gk_1050 gk_1052 gp_31 gk_7 gk_1053) rfl rfl rfl (by decide +kernel) ⟨Nat.le_of_ble_eq_true rfl, Nat.le_of_ble_eq_true rfl⟩) ⟨fun a U g mk q => ⟨q.1, q.2.1, va_K.moved (u := U) (U := U.calling g mk a) (Vm.Alike.refl U.vm) q.2.2⟩, va_recv hK hP (ci := 8) (q0 := 0) rfl rfl, fun U hU hW => ⟨rfl, hU, va_K.moved hW.alike hKc⟩⟩ rfl rfl hl.1 rfl (lv_room (Nat.le_of_ble_eq_true rfl)) d_Bm_ballotHolds_108 ⟨Nat.le_of_ble_eq_true rfl, Nat.le_of_ble_eq_true rfl⟩) hS (fun q _ h => h.elim) (fun q h => h.elim) (fun r108 u9 t9 H1 locs ht hvm hw hB hz1 hk1 hS => ?_)
              obtain rfl : s.heap = H1 := hB.symm.trans ht
              have hw : r108 = lN (G ^ Y1 % P) := hw
              subst hw
              refine lv_aload_n hx hb d_Bm_ballotHolds_111 rfl (lv_at hl 2 rfl) ?_
              refine lv_lload_n hx hb d_Bm_ballotHolds_112 rfl (lv_at hl 4 rfl) ?_
              refine lv_lload hx hb d_Bm_ballotHolds_113 (lv_at hl 8 rfl) ?_
              have hPc := hP.sub (ws' := (mo_ws m0 z0 z1 z2 z3 (lN P) (lN Q) (lN G) z7 z8 z9 z10 a0 a1 a2 a3 a4 a5 a6 a7 a8 a9 b0 b1 oc b2 b3 b4 b5)) [0] rfl
              have hKc := hK.sub (tys' := [(cJ, .long), (cI, .int)]) [0, 1] rfl
              refine va_calll (va_runV (As := [.long (lN A1), .long (lN D1)]) (rest := [.long (lN (G ^ Y1 % P)), .ref m0]) ⟨hx, hb, hml, hown, hts⟩ (c_Bm_back l s.heap dC dI cJ cI m0 z0 z1 z2 z3 z7 z8 z9 z10 a0 a1 a2 a3 a4 a5 a6 a7 a8 a9 b0 b1 oc b2 b3 b4 b5 P Q G A1 D1 hPc hPQ h61F hQ3 hA9 (by omega)) (cwV 2 hts (gw_V gk_1054 gk_1056 gp_32 gk_7 gk_1057) rfl rfl rfl (by decide +kernel) ⟨Nat.le_of_ble_eq_true rfl, Nat.le_of_ble_eq_true rfl⟩) ⟨fun a U g mk q => ⟨q.1, q.2.1, va_K.moved (u := U) (U := U.calling g mk a) (Vm.Alike.refl U.vm) q.2.2⟩, va_recv hK hP (ci := 8) (q0 := 0) rfl rfl, fun U hU hW => ⟨rfl, hU, va_K.moved hW.alike hKc⟩⟩ rfl rfl hl.1 rfl (lv_room (Nat.le_of_ble_eq_true rfl)) d_Bm_ballotHolds_115 ⟨Nat.le_of_ble_eq_true rfl, Nat.le_of_ble_eq_true rfl⟩) hS (fun q _ h => h.elim) (fun q h => h.elim) (fun r115 u9 t9 H1 locs ht hvm hw hB hz1 hk1 hS => ?_)
              obtain rfl : s.heap = H1 := hB.symm.trans ht
              have hw : r115 = lN (A1 ^ (Q - D1) % P) := hw
              subst hw
              have hPc := hP.sub (ws' := (mo_ws m0 z0 z1 z2 z3 (lN P) (lN Q) (lN G) z7 z8 z9 z10 a0 a1 a2 a3 a4 a5 a6 a7 a8 a9 b0 b1 oc b2 b3 b4 b5)) [0] rfl
              have hKc := hK.sub (tys' := [(cJ, .long), (cI, .int)]) [0, 1] rfl
              refine va_calll (va_runV (As := [.long (lN (G ^ Y1 % P)), .long (lN (A1 ^ (Q - D1) % P))]) (rest := []) ⟨hx, hb, hml, hown, hts⟩ (c_Bm_times l s.heap dC dI cJ cI m0 z0 z1 z2 z3 z7 z8 z9 z10 a0 a1 a2 a3 a4 a5 a6 a7 a8 a9 b0 b1 oc b2 b3 b4 b5 P Q G (G ^ Y1 % P) (A1 ^ (Q - D1) % P) hPc hPQ h61F hQ3 (Nat.mod_lt _ (by omega)) (Nat.mod_lt _ (by omega))) (cwV 2 hts (gw_V gk_1058 gk_1060 gp_33 gk_7 gk_1061) rfl rfl rfl (by decide +kernel) ⟨Nat.le_of_ble_eq_true rfl, Nat.le_of_ble_eq_true rfl⟩) ⟨fun a U g mk q => ⟨q.1, q.2.1, va_K.moved (u := U) (U := U.calling g mk a) (Vm.Alike.refl U.vm) q.2.2⟩, va_recv hK hP (ci := 8) (q0 := 0) rfl rfl, fun U hU hW => ⟨rfl, hU, va_K.moved hW.alike hKc⟩⟩ rfl rfl hl.1 rfl (lv_room (Nat.le_of_ble_eq_true rfl)) d_Bm_ballotHolds_118 ⟨Nat.le_of_ble_eq_true rfl, Nat.le_of_ble_eq_true rfl⟩) hS (fun q _ h => h.elim) (fun q h => h.elim) (fun r118 u9 t9 H1 locs ht hvm hw hB hz1 hk1 hS => ?_)
              obtain rfl : s.heap = H1 := hB.symm.trans ht
              have hw : r118 = lN ((G ^ Y1 % P) * (A1 ^ (Q - D1) % P) % P) := hw
              subst hw
              refine lv_lstore (lv' := [(20, .long (lN ((G ^ Y1 % P) * (A1 ^ (Q - D1) % P) % P))), (18, .long (lN ((Ky ^ Z1 % P) * (B1 ^ (Q - C1) % P) % P))), (16, .long (lN ((G ^ Z1 % P) * (A1 ^ (Q - C1) % P) % P))), (0, .ref m0), (1, .int (nI I)), (2, .long (lN A1)), (4, .long (lN B1)), (6, .long (lN C1)), (8, .long (lN Z1)), (10, .long (lN D1)), (12, .long (lN Y1)), (14, .long (lN Ky))]) hx hb d_Bm_ballotHolds_121 hl (by decide) rfl (fun ls hl => ?_)
              refine lv_aload_n hx hb d_Bm_ballotHolds_123 rfl (lv_at hl 3 rfl) ?_
              refine lv_aload_n hx hb d_Bm_ballotHolds_124 rfl (lv_at hl 3 rfl) ?_
              refine lv_lload hx hb d_Bm_ballotHolds_125 (lv_at hl 11 rfl) ?_
              refine lv_lload hx hb d_Bm_ballotHolds_127 (lv_at hl 10 rfl) ?_
              have hPc := hP.sub (ws' := (mo_ws m0 z0 z1 z2 z3 (lN P) (lN Q) (lN G) z7 z8 z9 z10 a0 a1 a2 a3 a4 a5 a6 a7 a8 a9 b0 b1 oc b2 b3 b4 b5)) [0] rfl
              have hKc := hK.sub (tys' := [(cJ, .long), (cI, .int)]) [0, 1] rfl
              refine va_calll (va_runV (As := [.long (lN Ky), .long (lN Y1)]) (rest := [.ref m0]) ⟨hx, hb, hml, hown, hts⟩ (c_Bm_power2 l s.heap dC dI cJ cI m0 z0 z1 z2 z3 z7 z8 z9 z10 a0 a1 a2 a3 a4 a5 a6 a7 a8 a9 b0 b1 oc b2 b3 b4 b5 P Q G Ky Y1 hPc hPQ h61F hQ3 hKy (by omega)) (cwV 2 hts (gw_V gk_1050 gk_1052 gp_31 gk_7 gk_1053) rfl rfl rfl (by decide +kernel) ⟨Nat.le_of_ble_eq_true rfl, Nat.le_of_ble_eq_true rfl⟩) ⟨fun a U g mk q => ⟨q.1, q.2.1, va_K.moved (u := U) (U := U.calling g mk a) (Vm.Alike.refl U.vm) q.2.2⟩, va_recv hK hP (ci := 8) (q0 := 0) rfl rfl, fun U hU hW => ⟨rfl, hU, va_K.moved hW.alike hKc⟩⟩ rfl rfl hl.1 rfl (lv_room (Nat.le_of_ble_eq_true rfl)) d_Bm_ballotHolds_129 ⟨Nat.le_of_ble_eq_true rfl, Nat.le_of_ble_eq_true rfl⟩) hS (fun q _ h => h.elim) (fun q h => h.elim) (fun r129 u9 t9 H1 locs ht hvm hw hB hz1 hk1 hS => ?_)
              obtain rfl : s.heap = H1 := hB.symm.trans ht
              have hw : r129 = lN (Ky ^ Y1 % P) := hw
              subst hw
              refine lv_aload_n hx hb d_Bm_ballotHolds_132 rfl (lv_at hl 3 rfl) ?_
              refine lv_aload_n hx hb d_Bm_ballotHolds_133 rfl (lv_at hl 3 rfl) ?_
              refine lv_lload hx hb d_Bm_ballotHolds_134 (lv_at hl 6 rfl) ?_
              refine lv_aload_n hx hb d_Bm_ballotHolds_136 rfl (lv_at hl 3 rfl) ?_
              refine va_get (D := (dC, dI)) (ci := 8) (v := .long (lN G)) (C := "BallotBoardModel") (T := F_Bm) (N := 28) hx hb hts (fun w9 h9 => List.mem_cons_of_mem _ (i_Bm w9 h9)) hown hK hP 0 rfl rfl 6 (by decide) (hts _ (List.mem_cons_of_mem _ gk_925)) (fun _ h9 => h9) rfl d_Bm_ballotHolds_137 ?_
              have hPc := hP.sub (ws' := (mo_ws m0 z0 z1 z2 z3 (lN P) (lN Q) (lN G) z7 z8 z9 z10 a0 a1 a2 a3 a4 a5 a6 a7 a8 a9 b0 b1 oc b2 b3 b4 b5)) [0] rfl
              have hKc := hK.sub (tys' := [(cJ, .long), (cI, .int)]) [0, 1] rfl
              refine va_calll (va_runV (As := [.long (lN B1), .long (lN G)]) (rest := [.ref m0, .long (lN (Ky ^ Y1 % P)), .ref m0]) ⟨hx, hb, hml, hown, hts⟩ (c_Bm_over l s.heap dC dI cJ cI m0 z0 z1 z2 z3 z7 z8 z9 z10 a0 a1 a2 a3 a4 a5 a6 a7 a8 a9 b0 b1 oc b2 b3 b4 b5 P Q G B1 G hPc hPQ h61F hQ3 hB9 hGP) (cwV 2 hts (gw_V gk_1129 gk_1131 gp_46 gk_7 gk_1132) rfl rfl rfl (by decide +kernel) ⟨Nat.le_of_ble_eq_true rfl, Nat.le_of_ble_eq_true rfl⟩) ⟨fun a U g mk q => ⟨q.1, q.2.1, va_K.moved (u := U) (U := U.calling g mk a) (Vm.Alike.refl U.vm) q.2.2⟩, va_recv hK hP (ci := 8) (q0 := 0) rfl rfl, fun U hU hW => ⟨rfl, hU, va_K.moved hW.alike hKc⟩⟩ rfl rfl hl.1 rfl (lv_room (Nat.le_of_ble_eq_true rfl)) d_Bm_ballotHolds_140 ⟨Nat.le_of_ble_eq_true rfl, Nat.le_of_ble_eq_true rfl⟩) hS (fun q _ h => h.elim) (fun q h => h.elim) (fun r140 u9 t9 H1 locs ht hvm hw hB hz1 hk1 hS => ?_)
              obtain rfl : s.heap = H1 := hB.symm.trans ht
              have hw : r140 = lN (B1 * (G ^ (Q - 1) % P) % P) := hw
              subst hw
              refine lv_lload hx hb d_Bm_ballotHolds_143 (lv_at hl 9 rfl) ?_
              have hPc := hP.sub (ws' := (mo_ws m0 z0 z1 z2 z3 (lN P) (lN Q) (lN G) z7 z8 z9 z10 a0 a1 a2 a3 a4 a5 a6 a7 a8 a9 b0 b1 oc b2 b3 b4 b5)) [0] rfl
              have hKc := hK.sub (tys' := [(cJ, .long), (cI, .int)]) [0, 1] rfl
              refine va_calll (va_runV (As := [.long (lN (B1 * (G ^ (Q - 1) % P) % P)), .long (lN D1)]) (rest := [.long (lN (Ky ^ Y1 % P)), .ref m0]) ⟨hx, hb, hml, hown, hts⟩ (c_Bm_back l s.heap dC dI cJ cI m0 z0 z1 z2 z3 z7 z8 z9 z10 a0 a1 a2 a3 a4 a5 a6 a7 a8 a9 b0 b1 oc b2 b3 b4 b5 P Q G (B1 * (G ^ (Q - 1) % P) % P) D1 hPc hPQ h61F hQ3 (Nat.mod_lt _ (by omega)) (by omega)) (cwV 2 hts (gw_V gk_1054 gk_1056 gp_32 gk_7 gk_1057) rfl rfl rfl (by decide +kernel) ⟨Nat.le_of_ble_eq_true rfl, Nat.le_of_ble_eq_true rfl⟩) ⟨fun a U g mk q => ⟨q.1, q.2.1, va_K.moved (u := U) (U := U.calling g mk a) (Vm.Alike.refl U.vm) q.2.2⟩, va_recv hK hP (ci := 8) (q0 := 0) rfl rfl, fun U hU hW => ⟨rfl, hU, va_K.moved hW.alike hKc⟩⟩ rfl rfl hl.1 rfl (lv_room (Nat.le_of_ble_eq_true rfl)) d_Bm_ballotHolds_145 ⟨Nat.le_of_ble_eq_true rfl, Nat.le_of_ble_eq_true rfl⟩) hS (fun q _ h => h.elim) (fun q h => h.elim) (fun r145 u9 t9 H1 locs ht hvm hw hB hz1 hk1 hS => ?_)
              obtain rfl : s.heap = H1 := hB.symm.trans ht
              have hw : r145 = lN ((B1 * (G ^ (Q - 1) % P) % P) ^ (Q - D1) % P) := hw
              subst hw
              have hPc := hP.sub (ws' := (mo_ws m0 z0 z1 z2 z3 (lN P) (lN Q) (lN G) z7 z8 z9 z10 a0 a1 a2 a3 a4 a5 a6 a7 a8 a9 b0 b1 oc b2 b3 b4 b5)) [0] rfl
              have hKc := hK.sub (tys' := [(cJ, .long), (cI, .int)]) [0, 1] rfl
              refine va_calll (va_runV (As := [.long (lN (Ky ^ Y1 % P)), .long (lN ((B1 * (G ^ (Q - 1) % P) % P) ^ (Q - D1) % P))]) (rest := []) ⟨hx, hb, hml, hown, hts⟩ (c_Bm_times l s.heap dC dI cJ cI m0 z0 z1 z2 z3 z7 z8 z9 z10 a0 a1 a2 a3 a4 a5 a6 a7 a8 a9 b0 b1 oc b2 b3 b4 b5 P Q G (Ky ^ Y1 % P) ((B1 * (G ^ (Q - 1) % P) % P) ^ (Q - D1) % P) hPc hPQ h61F hQ3 (Nat.mod_lt _ (by omega)) (Nat.mod_lt _ (by omega))) (cwV 2 hts (gw_V gk_1058 gk_1060 gp_33 gk_7 gk_1061) rfl rfl rfl (by decide +kernel) ⟨Nat.le_of_ble_eq_true rfl, Nat.le_of_ble_eq_true rfl⟩) ⟨fun a U g mk q => ⟨q.1, q.2.1, va_K.moved (u := U) (U := U.calling g mk a) (Vm.Alike.refl U.vm) q.2.2⟩, va_recv hK hP (ci := 8) (q0 := 0) rfl rfl, fun U hU hW => ⟨rfl, hU, va_K.moved hW.alike hKc⟩⟩ rfl rfl hl.1 rfl (lv_room (Nat.le_of_ble_eq_true rfl)) d_Bm_ballotHolds_148 ⟨Nat.le_of_ble_eq_true rfl, Nat.le_of_ble_eq_true rfl⟩) hS (fun q _ h => h.elim) (fun q h => h.elim) (fun r148 u9 t9 H1 locs ht hvm hw hB hz1 hk1 hS => ?_)
              obtain rfl : s.heap = H1 := hB.symm.trans ht
              have hw : r148 = lN ((Ky ^ Y1 % P) * ((B1 * (G ^ (Q - 1) % P) % P) ^ (Q - D1) % P) % P) := hw
              subst hw
              refine lv_lstore (lv' := [(22, .long (lN ((Ky ^ Y1 % P) * ((B1 * (G ^ (Q - 1) % P) % P) ^ (Q - D1) % P) % P))), (20, .long (lN ((G ^ Y1 % P) * (A1 ^ (Q - D1) % P) % P))), (18, .long (lN ((Ky ^ Z1 % P) * (B1 ^ (Q - C1) % P) % P))), (16, .long (lN ((G ^ Z1 % P) * (A1 ^ (Q - C1) % P) % P))), (0, .ref m0), (1, .int (nI I)), (2, .long (lN A1)), (4, .long (lN B1)), (6, .long (lN C1)), (8, .long (lN Z1)), (10, .long (lN D1)), (12, .long (lN Y1)), (14, .long (lN Ky))]) hx hb d_Bm_ballotHolds_151 hl (by decide) rfl (fun ls hl => ?_)
              refine lv_lload hx hb d_Bm_ballotHolds_153 (lv_at hl 8 rfl) ?_
              refine lv_lload hx hb d_Bm_ballotHolds_155 (lv_at hl 10 rfl) ?_
              refine lv_aload_n hx hb d_Bm_ballotHolds_157 rfl (lv_at hl 4 rfl) ?_
              refine va_get (D := (dC, dI)) (ci := 8) (v := .long (lN Q)) (C := "BallotBoardModel") (T := F_Bm) (N := 28) hx hb hts (fun w9 h9 => List.mem_cons_of_mem _ (i_Bm w9 h9)) hown hK hP 0 rfl rfl 5 (by decide) (hts _ (List.mem_cons_of_mem _ gk_924)) (fun _ h9 => h9) rfl d_Bm_ballotHolds_158 ?_
              refine va_calll (va_runS (As := [.long (lN C1), .long (lN D1), .long (lN Q)]) (rest := []) ⟨hx, hb, hml, hown, hts⟩ (c_Bm_sum l s.heap C1 D1 Q hC9 hD9 (by omega)) (cwS 3 hts (gw_S gk_1024 gk_1025 gk_7 gk_1026) rfl rfl rfl (by decide +kernel) ⟨Nat.le_of_ble_eq_true rfl, Nat.le_of_ble_eq_true rfl⟩) ⟨fun a U g mk q => q, fun U hU hW => ⟨rfl, hU⟩⟩ rfl rfl hl.1 rfl (lv_room (Nat.le_of_ble_eq_true rfl)) d_Bm_ballotHolds_161 ⟨Nat.le_of_ble_eq_true rfl, Nat.le_of_ble_eq_true rfl⟩) hS (fun q _ h => h.elim) (fun q h => h.elim) (fun r161 u9 t9 H1 locs ht hvm hw hB hz1 hk1 hS => ?_)
              obtain rfl : s.heap = H1 := hB.symm.trans ht
              have hw : r161 = lN ((C1 + D1) % Q) := hw
              subst hw
              refine lv_aload_n hx hb d_Bm_ballotHolds_164 rfl (lv_at hl 4 rfl) ?_
              refine lv_iload_n hx hb d_Bm_ballotHolds_165 rfl (lv_at hl 5 rfl) ?_
              refine lv_i2l (v := (nI I : Int32).toInt64) hx hb d_Bm_ballotHolds_166 rfl ?_
              rw [show ((nI I : Int32).toInt64 : Int64) = (lN I) from i2l_nI hI]
              refine lv_lload_n hx hb d_Bm_ballotHolds_167 rfl (lv_at hl 6 rfl) ?_
              refine lv_lload hx hb d_Bm_ballotHolds_168 (lv_at hl 7 rfl) ?_
              refine lv_lload hx hb d_Bm_ballotHolds_170 (lv_at hl 3 rfl) ?_
              refine lv_lload hx hb d_Bm_ballotHolds_172 (lv_at hl 2 rfl) ?_
              refine lv_lload hx hb d_Bm_ballotHolds_174 (lv_at hl 1 rfl) ?_
              refine lv_lload hx hb d_Bm_ballotHolds_176 (lv_at hl 0 rfl) ?_
              have hPc := hP.sub (ws' := (mo_ws m0 z0 z1 z2 z3 (lN P) (lN Q) (lN G) z7 z8 z9 z10 a0 a1 a2 a3 a4 a5 a6 a7 a8 a9 b0 b1 oc b2 b3 b4 b5 ++ (iw_ws a7 cI 256 bf ++ (iw_ws a8 cI 64 sc ++ (iw_ws a9 cI 8 st ++ (iw_ws b0 cI 8 kS ++ (iw_ws b1 cI 64 kR ++ (jw_ws a2 cJ 4 tf ++ (jw_ws a3 cJ 16 lf))))))))) [0, 1, 2, 3, 4, 5, 6, 7] rfl
              have hDc := hD.sub (ws' := (mo_ws m0 z0 z1 z2 z3 (lN P) (lN Q) (lN G) z7 z8 z9 z10 a0 a1 a2 a3 a4 a5 a6 a7 a8 a9 b0 b1 oc b2 b3 b4 b5 ++ (iw_ws a7 cI 256 bf ++ (iw_ws a8 cI 64 sc ++ (iw_ws a9 cI 8 st ++ (iw_ws b0 cI 8 kS ++ (iw_ws b1 cI 64 kR ++ (jw_ws a2 cJ 4 tf ++ (jw_ws a3 cJ 16 lf))))))))) [0, 1, 2, 3, 4, 5, 6, 7] (by decide) rfl
              have hKc := hK.sub (tys' := [(cJ, .long), (cI, .int)]) [0, 1] rfl
              have hFc := va_free (wc := (mo_ws m0 z0 z1 z2 z3 (lN P) (lN Q) (lN G) z7 z8 z9 z10 a0 a1 a2 a3 a4 a5 a6 a7 a8 a9 b0 b1 oc b2 b3 b4 b5 ++ (iw_ws a7 cI 256 bf ++ (iw_ws a8 cI 64 sc ++ (iw_ws a9 cI 8 st ++ (iw_ws b0 cI 8 kS ++ (iw_ws b1 cI 64 kR ++ (jw_ws a2 cJ 4 tf ++ (jw_ws a3 cJ 16 lf))))))))) hD hS hA [0, 1, 2, 3, 4, 5, 6, 7] rfl
              refine va_calll (va_runV (As := [.long (lN I), .long (lN A1), .long (lN B1), .long (lN ((G ^ Z1 % P) * (A1 ^ (Q - C1) % P) % P)), .long (lN ((Ky ^ Z1 % P) * (B1 ^ (Q - C1) % P) % P)), .long (lN ((G ^ Y1 % P) * (A1 ^ (Q - D1) % P) % P)), .long (lN ((Ky ^ Y1 % P) * ((B1 * (G ^ (Q - 1) % P) % P) ^ (Q - D1) % P) % P))]) (rest := [.long (lN ((C1 + D1) % Q))]) ⟨hx, hb, hml, hown, hts⟩ (c_Bm_hash8 l dC dI cJ cI s.heap.size m0 z0 z1 z2 z3 z7 z8 z9 z10 a0 a1 a2 a3 a4 a5 a6 a7 a8 a9 b0 b1 oc b2 b3 b4 b5 P Q G bf sc st tf lf (lN I) (lN A1) (lN B1) (lN ((G ^ Z1 % P) * (A1 ^ (Q - C1) % P) % P)) (lN ((Ky ^ Z1 % P) * (B1 ^ (Q - C1) % P) % P)) (lN ((G ^ Y1 % P) * (A1 ^ (Q - D1) % P) % P)) (lN ((Ky ^ Y1 % P) * ((B1 * (G ^ (Q - 1) % P) % P) ^ (Q - D1) % P) % P)) hPQ h61F hQ3) (cwV 7 hts (gw_V gk_1133 gk_1135 gp_47 gk_7 gk_1136) rfl rfl rfl (by decide +kernel) ⟨Nat.le_of_ble_eq_true rfl, Nat.le_of_ble_eq_true rfl⟩) ⟨fun a U g mk q => by obtain ⟨q0, q1, qP, qK, qD⟩ := q; exact ⟨q0, q1, qP, va_K.moved (u := U) (U := U.calling g mk a) (Vm.Alike.refl U.vm) qK, qD⟩, va_recv hK hP (ci := 8) (q0 := 0) rfl rfl, fun U hU hW => ⟨rfl, by rw [hU], by rw [hU]; exact hPc, va_K.moved hW.alike hKc, hDc.weaken (fun _ _ _ _ => trivial)⟩⟩ rfl rfl hl.1 rfl (lv_room (Nat.le_of_ble_eq_true rfl)) d_Bm_ballotHolds_178 ⟨Nat.le_of_ble_eq_true rfl, Nat.le_of_ble_eq_true rfl⟩) hS (fun q _ h => hFc q h) hFc (fun r_8 u9 t9 H1 locs ht hvm hw hB hz1 hk1 hS => ?_)
              obtain ⟨⟨gbk_7, gsk_7, gtk_7, gfk_7, gok_7⟩, glk_7⟩ := u9
              have hw : r_8 = lN (hsh Q [lN P, lN G, 2, lN I, lN A1, lN B1, lN ((G ^ Z1 % P) * (A1 ^ (Q - C1) % P) % P), lN ((Ky ^ Z1 % P) * (B1 ^ (Q - C1) % P) % P), lN ((G ^ Y1 % P) * (A1 ^ (Q - D1) % P) % P), lN ((Ky ^ Y1 % P) * ((B1 * (G ^ (Q - 1) % P) % P) ^ (Q - D1) % P) % P)]) := hw
              subst hw
              obtain ⟨hP1, hK1, hD1⟩ := hB
              rw [ht] at hP1
              obtain ⟨hP, hD⟩ := va_join (wr := []) (w1 := [(m0, .inr (8, [.int z0, .int z1, .int z2, .int z3, .long (lN P), .long (lN Q), .long (lN G), .long z7, .long z8, .long z9, .int z10, .ref a0, .ref a1, .ref a2, .ref a3, .ref a4, .ref a5, .ref a6, .ref a7, .ref a8, .ref a9, .ref b0, .ref b1, .int (nI gok_7), .ref b2, .ref b3, .ref b4, .ref b5])), (a7, .inl (cI, 256, .inl gbk_7)), (a8, .inl (cI, 64, .inl gsk_7)), (a9, .inl (cI, 8, .inl gtk_7)), (b0, .inl (cI, 8, .inl kS)), (b1, .inl (cI, 64, .inl kR)), (a2, .inl (cJ, 4, .inr (.inl gfk_7))), (a3, .inl (cJ, 16, .inr (.inl glk_7)))]) hP hD [0, 1, 2, 3, 4, 5, 6, 7] [] rfl rfl (by decide) (by decide) hk1 hFc hP1 hD1
              have hP := hP.sub (ws' := [(m0, .inr (8, [.int z0, .int z1, .int z2, .int z3, .long (lN P), .long (lN Q), .long (lN G), .long z7, .long z8, .long z9, .int z10, .ref a0, .ref a1, .ref a2, .ref a3, .ref a4, .ref a5, .ref a6, .ref a7, .ref a8, .ref a9, .ref b0, .ref b1, .int (nI gok_7), .ref b2, .ref b3, .ref b4, .ref b5])), (a7, .inl (cI, 256, .inl gbk_7)), (a8, .inl (cI, 64, .inl gsk_7)), (a9, .inl (cI, 8, .inl gtk_7)), (b0, .inl (cI, 8, .inl kS)), (b1, .inl (cI, 64, .inl kR)), (a2, .inl (cJ, 4, .inr (.inl gfk_7))), (a3, .inl (cJ, 16, .inr (.inl glk_7)))]) [0, 1, 2, 3, 4, 5, 6, 7] rfl
              have hD := hD.sub (ws' := [(m0, .inr (8, [.int z0, .int z1, .int z2, .int z3, .long (lN P), .long (lN Q), .long (lN G), .long z7, .long z8, .long z9, .int z10, .ref a0, .ref a1, .ref a2, .ref a3, .ref a4, .ref a5, .ref a6, .ref a7, .ref a8, .ref a9, .ref b0, .ref b1, .int (nI gok_7), .ref b2, .ref b3, .ref b4, .ref b5])), (a7, .inl (cI, 256, .inl gbk_7)), (a8, .inl (cI, 64, .inl gsk_7)), (a9, .inl (cI, 8, .inl gtk_7)), (b0, .inl (cI, 8, .inl kS)), (b1, .inl (cI, 64, .inl kR)), (a2, .inl (cJ, 4, .inr (.inl gfk_7))), (a3, .inl (cJ, 16, .inr (.inl glk_7)))]) [0, 1, 2, 3, 4, 5, 6, 7] (by decide) rfl
              generalize H1 = H at hP hS ⊢
              refine W.lcmp hx hb d_Bm_ballotHolds_181 ?_
              refine lv_if_ne (tgt := 189) hx hb d_Bm_ballotHolds_182 (by decide) (fun c_9 => ?_) (fun c_9 => ?_)
              · -- taken
                have hbad : ¬ balHd P Q G Ky I (lN A1) (lN B1) (lN C1) (lN Z1) (lN D1) (lN Y1) := by
                  rintro ⟨A2, B2, C2, Z2, D2, Y2, a2, a3, a4, a5, a6, a7, hC2, hZ2, hD2, hY2, hA2, hB2, hh⟩
                  obtain rfl := lN_inj (by omega) (by omega) a2
                  obtain rfl := lN_inj (by omega) (by omega) a3
                  obtain rfl := lN_inj (by omega) (by omega) a4
                  obtain rfl := lN_inj (by omega) (by omega) a5
                  obtain rfl := lN_inj (by omega) (by omega) a6
                  obtain rfl := lN_inj (by omega) (by omega) a7
                  refine c_9 ((ln_cmp_eq (by have := Nat.mod_lt (C1 + D1) (show 0 < Q by omega); omega) (by have := hsh_lt (Q := Q) (by omega) [lN P, lN G, 2, lN I, lN A1, lN B1, lN ((G ^ Z1 % P) * (A1 ^ (Q - C1) % P) % P), lN ((Ky ^ Z1 % P) * (B1 ^ (Q - C1) % P) % P), lN ((G ^ Y1 % P) * (A1 ^ (Q - D1) % P) % P), lN ((Ky ^ Y1 % P) * ((B1 * (G ^ (Q - 1) % P) % P) ^ (Q - D1) % P) % P)]; omega)).mpr ?_)
                  rw [bk_mul hAQ hC9, bk_mul hBQ hC9, bk_mul hAQ hD9, bk_mul hBG hD9]
                  exact hh
                refine lv_iconst (v := 0) hx hb d_Bm_ballotHolds_189 (by decide) ?_
                exact W.zret (v := 0) hx hb hr (by decide) (fun t ht9 hW => ⟨⟨_, ((gbk_7, gsk_7, gtk_7, gfk_7, gok_7), glk_7), rfl, (bz_0 hbad), by rw [ht9]; exact hP, va_K.moved hW.alike hK, hD⟩, hS.F ht9⟩) hS.2.2 d_Bm_ballotHolds_190
              · -- not taken
                have hgood : balHd P Q G Ky I (lN A1) (lN B1) (lN C1) (lN Z1) (lN D1) (lN Y1) := ⟨A1, B1, C1, Z1, D1, Y1, rfl, rfl, rfl, rfl, rfl, rfl, hC9, hZ9, hD9, hY9, ⟨hA1, hA9, hAQ⟩, ⟨hB1, hB9, hBQ⟩, by
                  have h9 := (ln_cmp_eq (by have := Nat.mod_lt (C1 + D1) (show 0 < Q by omega); omega) (by have := hsh_lt (Q := Q) (by omega) [lN P, lN G, 2, lN I, lN A1, lN B1, lN ((G ^ Z1 % P) * (A1 ^ (Q - C1) % P) % P), lN ((Ky ^ Z1 % P) * (B1 ^ (Q - C1) % P) % P), lN ((G ^ Y1 % P) * (A1 ^ (Q - D1) % P) % P), lN ((Ky ^ Y1 % P) * ((B1 * (G ^ (Q - 1) % P) % P) ^ (Q - D1) % P) % P)]; omega)).mp c_9
                  rw [bk_mul hAQ hC9, bk_mul hBQ hC9, bk_mul hAQ hD9, bk_mul hBG hD9] at h9
                  exact h9⟩
                refine lv_iconst (v := 1) hx hb d_Bm_ballotHolds_185 (by decide) ?_
                refine lv_goto (tgt := 190) hx hb d_Bm_ballotHolds_186 (by decide) ?_
                exact W.zret (v := 1) hx hb hr (by decide) (fun t ht9 hW => ⟨⟨_, ((gbk_7, gsk_7, gtk_7, gfk_7, gok_7), glk_7), rfl, (bz_1 hgood), by rw [ht9]; exact hP, va_K.moved hW.alike hK, hD⟩, hS.F ht9⟩) hS.2.2 d_Bm_ballotHolds_190
            · -- not taken
              have hbad : ¬ balHd P Q G Ky I x1 x2 x3 x4 x5 x6 := fun ⟨A2, B2, C2, Z2, D2, Y2, a2, a3, a4, a5, a6, a7, hC2, hZ2, hD2, hY2, hA2, hB2, hh⟩ => bz_f h47 c_6 ⟨B2, a3, hB2⟩
              refine lv_iconst (v := 0) hx hb d_Bm_ballotHolds_53 (by decide) ?_
              exact W.zret (v := 0) hx hb hr (by decide) (fun t ht9 hW => ⟨⟨_, ((bf, sc, st, tf, oc), lf), rfl, (bz_0 hbad), by rw [ht9]; exact hP, va_K.moved hW.alike hK, hD⟩, hS.F ht9⟩) hS.2.2 d_Bm_ballotHolds_54
