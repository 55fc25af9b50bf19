abbrev b_Pr_isHeadSound : ByteArray := prog_7_method_7_code
abbrev y_Pr_isHeadSound : MethodName := ⟨"BallotBoard$Proofs", "isHeadSound", "(LBallotBoard$Group;[J)Z"⟩
abbrev w_Pr_isHeadSound : List Cond := .code y_Pr_isHeadSound b_Pr_isHeadSound 3 (some .boolean) :: gw
theorem d_Pr_isHeadSound_0 : decode b_Pr_isHeadSound 0 = .ok (.aload_n 1, 1) := by decide +kernel
theorem d_Pr_isHeadSound_1 : decode b_Pr_isHeadSound 1 = .ok (.aload_n 2, 1) := by decide +kernel
theorem d_Pr_isHeadSound_2 : decode b_Pr_isHeadSound 2 = .ok (.iconst 3, 1) := by decide +kernel
theorem d_Pr_isHeadSound_3 : decode b_Pr_isHeadSound 3 = .ok (.laload, 1) := by decide +kernel
theorem d_Pr_isHeadSound_4 : decode b_Pr_isHeadSound 4 = .ok (.invokevirtual 77, 3) := by decide +kernel
theorem d_Pr_isHeadSound_7 : decode b_Pr_isHeadSound 7 = .ok (.ifCond .eq 27, 3) := by decide +kernel
theorem d_Pr_isHeadSound_10 : decode b_Pr_isHeadSound 10 = .ok (.aload_n 1, 1) := by decide +kernel
theorem d_Pr_isHeadSound_11 : decode b_Pr_isHeadSound 11 = .ok (.aload_n 2, 1) := by decide +kernel
theorem d_Pr_isHeadSound_12 : decode b_Pr_isHeadSound 12 = .ok (.iconst 4, 1) := by decide +kernel
theorem d_Pr_isHeadSound_13 : decode b_Pr_isHeadSound 13 = .ok (.laload, 1) := by decide +kernel
theorem d_Pr_isHeadSound_14 : decode b_Pr_isHeadSound 14 = .ok (.invokevirtual 77, 3) := by decide +kernel
theorem d_Pr_isHeadSound_17 : decode b_Pr_isHeadSound 17 = .ok (.ifCond .eq 17, 3) := by decide +kernel
theorem d_Pr_isHeadSound_20 : decode b_Pr_isHeadSound 20 = .ok (.aload_n 1, 1) := by decide +kernel
theorem d_Pr_isHeadSound_21 : decode b_Pr_isHeadSound 21 = .ok (.aload_n 2, 1) := by decide +kernel
theorem d_Pr_isHeadSound_22 : decode b_Pr_isHeadSound 22 = .ok (.iconst 2, 1) := by decide +kernel
theorem d_Pr_isHeadSound_23 : decode b_Pr_isHeadSound 23 = .ok (.laload, 1) := by decide +kernel
theorem d_Pr_isHeadSound_24 : decode b_Pr_isHeadSound 24 = .ok (.invokevirtual 81, 3) := by decide +kernel
theorem d_Pr_isHeadSound_27 : decode b_Pr_isHeadSound 27 = .ok (.ifCond .eq 7, 3) := by decide +kernel
theorem d_Pr_isHeadSound_30 : decode b_Pr_isHeadSound 30 = .ok (.iconst 1, 1) := by decide +kernel
theorem d_Pr_isHeadSound_31 : decode b_Pr_isHeadSound 31 = .ok (.goto 4, 3) := by decide +kernel
theorem d_Pr_isHeadSound_34 : decode b_Pr_isHeadSound 34 = .ok (.iconst 0, 1) := by decide +kernel
theorem d_Pr_isHeadSound_35 : decode b_Pr_isHeadSound 35 = .ok (.ireturn, 1) := by decide +kernel
set_option maxHeartbeats 8000000 in
set_option maxRecDepth 100000 in
theorem c_Pr_isHeadSound (l : Launch) (H0 : Heap) (dC : Nat → ClassId) (dI : Nat → Nat → Nat) (cJ cI : ClassId) (pr0 : Nat) (g0 mF mE P f1 k1 Q f2 k2 G : Nat) (ra : Nat) (rw : Nat → Int64) (hP : va_P (dC, dI) classes (gp_ws g0 mF mE P f1 k1 Q f2 k2 G ++ rw_ws ra cJ rw) H0) (hok : gp_ok P f1 k1 Q f2 k2 G) : Met l y_Pr_isHeadSound w_Pr_isHeadSound ({ frames := 3, cells := 0, slots := 0, locals := 87 }) (va_Pc [.ref pr0, .ref g0, .ref ra] (fun U => U.heap = H0 ∧ va_K (dC, dI) classes [(cJ, .long), (cI, .int)] U)) (va_Qi (fun (r : Int32) (_ : Unit) => bz r (hdSd P Q (rw 2) (rw 3) (rw 4))) (fun _ t => t.heap = H0) (fun _ => False)) 0 0 (fun _ => False) := by
  refine Met.ofW (cc := b_Pr_isHeadSound) (maxL := 3) (ret := (some .boolean)) (by decide) rfl ?_
  intro p e s m args below meth c s₁ Bd hml hv
  obtain ⟨rfl, hH, hK⟩ := hv
  subst hH
  have hx := Bd.exec
  have hb := Bd.bytes
  have hr := Bd.returns
  have hts := atoms_spec (ws := w_Pr_isHeadSound) Bd.pre
  have hown : s.vm.findClass "BallotBoard$Proofs" = some m.cls := findClass_of_methodNamed Bd.named
  have hlocks := Bd.notSynchronized
  have hS : va_S (fun _ => False) s.heap s.heap [] := va_S.rf
  have hl := lv_entry ([.ref pr0, .ref g0, .ref ra]) (n := 3) (Nat.le_of_ble_eq_true rfl)
  rw [lg_entry_eq]
  generalize (lg_sl ([.ref pr0, .ref g0, .ref ra]) ++ List.replicate (3 - (lg_sl ([.ref pr0, .ref g0, .ref ra])).length) Slot.unset).toArray = ls at hl ⊢
  have hl : lv_has ls 3 [(0, .ref pr0), (1, .ref g0), (2, .ref ra)] := hl
  refine lv_aload_n hx hb d_Pr_isHeadSound_0 rfl (lv_at hl 1 rfl) ?_
  refine lv_aload_n hx hb d_Pr_isHeadSound_1 rfl (lv_at hl 2 rfl) ?_
  refine lv_iconst (v := 3) hx hb d_Pr_isHeadSound_2 (by decide) ?_
  refine va_lald hx hb hK hP 3 0 rfl rfl (vp_lit rfl) d_Pr_isHeadSound_3 ?_
  rw [show (rw (3 : Int32).toNatClampNeg : Int64) = rw 3 from rfl]
  have hPc := hP.sub (ws' := (gp_ws g0 mF mE P f1 k1 Q f2 k2 G)) [0, 1, 2] rfl
  have hKc := hK.sub (tys' := []) [] rfl
  refine va_calli (va_runV (As := [.long (rw 3)]) (rest := []) ⟨hx, hb, hml, hown, hts⟩ (c_Gr_hasExponent l s.heap dC dI g0 mF mE P f1 k1 Q f2 k2 G (rw 3) hPc hok ) (cwV 1 hts (gw_V gk_444 gk_445 gk_446 gk_8 gk_447) rfl rfl rfl (by decide +kernel) ⟨Nat.le_of_ble_eq_true rfl, Nat.le_of_ble_eq_true rfl⟩) ⟨fun a U g mk q => ⟨q.1, q.2.1, va_K.moved (u := U) (U := U.calling g mk a) (Vm.Alike.refl U.vm) q.2.2⟩, va_recv hK hP (ci := 1) (q0 := 0) rfl rfl, fun U hU hW => ⟨rfl, hU, va_K.moved hW.alike hKc⟩⟩ rfl rfl hl.1 rfl (lv_room (Nat.le_of_ble_eq_true rfl)) d_Pr_isHeadSound_4 ⟨Nat.le_of_ble_eq_true rfl, Nat.le_of_ble_eq_true rfl⟩) hS (fun q _ h => h.elim) (fun q h => h.elim) (fun r4 u9 t9 H1 locs ht hvm hw hB hz1 hk1 hS => ?_)
  obtain rfl : s.heap = H1 := hB.symm.trans ht
  have h4 := hw
  refine lv_if_eq (tgt := 34) hx hb d_Pr_isHeadSound_7 (by decide) (fun c_1 => ?_) (fun c_1 => ?_)
  · -- taken
    have hbad : ¬ hdSd P Q (rw 2) (rw 3) (rw 4) := fun h => bz_f h4 c_1 h.1
    refine lv_iconst (v := 0) hx hb d_Pr_isHeadSound_34 (by decide) ?_
    exact W.zret (v := 0) hx hb hr (by decide) (fun t ht hW => ⟨⟨_, (), rfl, (bz_0 hbad), ht⟩, hS.F ht⟩) hS.2.2 d_Pr_isHeadSound_35
  · -- not taken
    have b4 := bz_t h4 c_1
    refine lv_aload_n hx hb d_Pr_isHeadSound_10 rfl (lv_at hl 1 rfl) ?_
    refine lv_aload_n hx hb d_Pr_isHeadSound_11 rfl (lv_at hl 2 rfl) ?_
    refine lv_iconst (v := 4) hx hb d_Pr_isHeadSound_12 (by decide) ?_
    refine va_lald hx hb hK hP 3 0 rfl rfl (vp_lit rfl) d_Pr_isHeadSound_13 ?_
    rw [show (rw (4 : Int32).toNatClampNeg : Int64) = rw 4 from rfl]
    have hPc := hP.sub (ws' := (gp_ws g0 mF mE P f1 k1 Q f2 k2 G)) [0, 1, 2] rfl
    have hKc := hK.sub (tys' := []) [] rfl
    refine va_calli (va_runV (As := [.long (rw 4)]) (rest := []) ⟨hx, hb, hml, hown, hts⟩ (c_Gr_hasExponent l s.heap dC dI g0 mF mE P f1 k1 Q f2 k2 G (rw 4) hPc hok ) (cwV 1 hts (gw_V gk_444 gk_445 gk_446 gk_8 gk_447) rfl rfl rfl (by decide +kernel) ⟨Nat.le_of_ble_eq_true rfl, Nat.le_of_ble_eq_true rfl⟩) ⟨fun a U g mk q => ⟨q.1, q.2.1, va_K.moved (u := U) (U := U.calling g mk a) (Vm.Alike.refl U.vm) q.2.2⟩, va_recv hK hP (ci := 1) (q0 := 0) rfl rfl, fun U hU hW => ⟨rfl, hU, va_K.moved hW.alike hKc⟩⟩ rfl rfl hl.1 rfl (lv_room (Nat.le_of_ble_eq_true rfl)) d_Pr_isHeadSound_14 ⟨Nat.le_of_ble_eq_true rfl, Nat.le_of_ble_eq_true rfl⟩) hS (fun q _ h => h.elim) (fun q h => h.elim) (fun r14 u9 t9 H1 locs ht hvm hw hB hz1 hk1 hS => ?_)
    obtain rfl : s.heap = H1 := hB.symm.trans ht
    have h14 := hw
    refine lv_if_eq (tgt := 34) hx hb d_Pr_isHeadSound_17 (by decide) (fun c_2 => ?_) (fun c_2 => ?_)
    · -- taken
      have hbad : ¬ hdSd P Q (rw 2) (rw 3) (rw 4) := fun h => bz_f h14 c_2 h.2.1
      refine lv_iconst (v := 0) hx hb d_Pr_isHeadSound_34 (by decide) ?_
      exact W.zret (v := 0) hx hb hr (by decide) (fun t ht hW => ⟨⟨_, (), rfl, (bz_0 hbad), ht⟩, hS.F ht⟩) hS.2.2 d_Pr_isHeadSound_35
    · -- not taken
      have b14 := bz_t h14 c_2
      refine lv_aload_n hx hb d_Pr_isHeadSound_20 rfl (lv_at hl 1 rfl) ?_
      refine lv_aload_n hx hb d_Pr_isHeadSound_21 rfl (lv_at hl 2 rfl) ?_
      refine lv_iconst (v := 2) hx hb d_Pr_isHeadSound_22 (by decide) ?_
      refine va_lald hx hb hK hP 3 0 rfl rfl (vp_lit rfl) d_Pr_isHeadSound_23 ?_
      rw [show (rw (2 : Int32).toNatClampNeg : Int64) = rw 2 from rfl]
      have hPc := hP.sub (ws' := (gp_ws g0 mF mE P f1 k1 Q f2 k2 G)) [0, 1, 2] rfl
      have hKc := hK.sub (tys' := []) [] rfl
      refine va_calli (va_runV (As := [.long (rw 2)]) (rest := []) ⟨hx, hb, hml, hown, hts⟩ (c_Gr_has l s.heap dC dI g0 mF mE P f1 k1 Q f2 k2 G (rw 2) hPc ⟨hok.1, hok.2.1, hok.2.2.1, hok.2.2.2.1, hok.2.2.2.2.1⟩ ) (cwV 1 hts (gw_V gk_448 gk_276 gk_277 gk_8 gk_278) rfl rfl rfl (by decide +kernel) ⟨Nat.le_of_ble_eq_true rfl, Nat.le_of_ble_eq_true rfl⟩) ⟨fun a U g mk q => ⟨q.1, q.2.1, va_K.moved (u := U) (U := U.calling g mk a) (Vm.Alike.refl U.vm) q.2.2⟩, va_recv hK hP (ci := 1) (q0 := 0) rfl rfl, fun U hU hW => ⟨rfl, hU, va_K.moved hW.alike hKc⟩⟩ rfl rfl hl.1 rfl (lv_room (Nat.le_of_ble_eq_true rfl)) d_Pr_isHeadSound_24 ⟨Nat.le_of_ble_eq_true rfl, Nat.le_of_ble_eq_true rfl⟩) hS (fun q _ h => h.elim) (fun q h => h.elim) (fun r24 u9 t9 H1 locs ht hvm hw hB hz1 hk1 hS => ?_)
      obtain rfl : s.heap = H1 := hB.symm.trans ht
      have h24 := hw
      refine lv_if_eq (tgt := 34) hx hb d_Pr_isHeadSound_27 (by decide) (fun c_3 => ?_) (fun c_3 => ?_)
      · -- taken
        have hbad : ¬ hdSd P Q (rw 2) (rw 3) (rw 4) := fun h => bz_f h24 c_3 h.2.2
        refine lv_iconst (v := 0) hx hb d_Pr_isHeadSound_34 (by decide) ?_
        exact W.zret (v := 0) hx hb hr (by decide) (fun t ht hW => ⟨⟨_, (), rfl, (bz_0 hbad), ht⟩, hS.F ht⟩) hS.2.2 d_Pr_isHeadSound_35
      · -- not taken
        have hgood : hdSd P Q (rw 2) (rw 3) (rw 4) := ⟨b4, b14, bz_t h24 c_3⟩
        refine lv_iconst (v := 1) hx hb d_Pr_isHeadSound_30 (by decide) ?_
        refine lv_goto (tgt := 35) hx hb d_Pr_isHeadSound_31 (by decide) ?_
        exact W.zret (v := 1) hx hb hr (by decide) (fun t ht hW => ⟨⟨_, (), rfl, (bz_1 hgood), ht⟩, hS.F ht⟩) hS.2.2 d_Pr_isHeadSound_35
abbrev b_Pr_isBallotSound : ByteArray := prog_7_method_8_code
abbrev y_Pr_isBallotSound : MethodName := ⟨"BallotBoard$Proofs", "isBallotSound", "(LBallotBoard$Group;[J)Z"⟩
abbrev w_Pr_isBallotSound : List Cond := .code y_Pr_isBallotSound b_Pr_isBallotSound 4 (some .boolean) :: gw
theorem d_Pr_isBallotSound_0 : decode b_Pr_isBallotSound 0 = .ok (.iconst 4, 1) := by decide +kernel
theorem d_Pr_isBallotSound_1 : decode b_Pr_isBallotSound 1 = .ok (.istore_n 3, 1) := by decide +kernel
theorem d_Pr_isBallotSound_2 : decode b_Pr_isBallotSound 2 = .ok (.iload_n 3, 1) := by decide +kernel
theorem d_Pr_isBallotSound_3 : decode b_Pr_isBallotSound 3 = .ok (.bipush 7, 2) := by decide +kernel
theorem d_Pr_isBallotSound_5 : decode b_Pr_isBallotSound 5 = .ok (.if_icmp .gt 21, 3) := by decide +kernel
theorem d_Pr_isBallotSound_8 : decode b_Pr_isBallotSound 8 = .ok (.aload_n 1, 1) := by decide +kernel
theorem d_Pr_isBallotSound_9 : decode b_Pr_isBallotSound 9 = .ok (.aload_n 2, 1) := by decide +kernel
theorem d_Pr_isBallotSound_10 : decode b_Pr_isBallotSound 10 = .ok (.iload_n 3, 1) := by decide +kernel
theorem d_Pr_isBallotSound_11 : decode b_Pr_isBallotSound 11 = .ok (.laload, 1) := by decide +kernel
theorem d_Pr_isBallotSound_12 : decode b_Pr_isBallotSound 12 = .ok (.invokevirtual 77, 3) := by decide +kernel
theorem d_Pr_isBallotSound_15 : decode b_Pr_isBallotSound 15 = .ok (.ifCond .ne 5, 3) := by decide +kernel
theorem d_Pr_isBallotSound_18 : decode b_Pr_isBallotSound 18 = .ok (.iconst 0, 1) := by decide +kernel
theorem d_Pr_isBallotSound_19 : decode b_Pr_isBallotSound 19 = .ok (.ireturn, 1) := by decide +kernel
theorem d_Pr_isBallotSound_20 : decode b_Pr_isBallotSound 20 = .ok (.iinc 3 1, 3) := by decide +kernel
theorem d_Pr_isBallotSound_23 : decode b_Pr_isBallotSound 23 = .ok (.goto (-21), 3) := by decide +kernel
theorem d_Pr_isBallotSound_26 : decode b_Pr_isBallotSound 26 = .ok (.aload_n 1, 1) := by decide +kernel
theorem d_Pr_isBallotSound_27 : decode b_Pr_isBallotSound 27 = .ok (.aload_n 2, 1) := by decide +kernel
theorem d_Pr_isBallotSound_28 : decode b_Pr_isBallotSound 28 = .ok (.iconst 2, 1) := by decide +kernel
theorem d_Pr_isBallotSound_29 : decode b_Pr_isBallotSound 29 = .ok (.laload, 1) := by decide +kernel
theorem d_Pr_isBallotSound_30 : decode b_Pr_isBallotSound 30 = .ok (.invokevirtual 81, 3) := by decide +kernel
theorem d_Pr_isBallotSound_33 : decode b_Pr_isBallotSound 33 = .ok (.ifCond .eq 17, 3) := by decide +kernel
theorem d_Pr_isBallotSound_36 : decode b_Pr_isBallotSound 36 = .ok (.aload_n 1, 1) := by decide +kernel
theorem d_Pr_isBallotSound_37 : decode b_Pr_isBallotSound 37 = .ok (.aload_n 2, 1) := by decide +kernel
theorem d_Pr_isBallotSound_38 : decode b_Pr_isBallotSound 38 = .ok (.iconst 3, 1) := by decide +kernel
theorem d_Pr_isBallotSound_39 : decode b_Pr_isBallotSound 39 = .ok (.laload, 1) := by decide +kernel
theorem d_Pr_isBallotSound_40 : decode b_Pr_isBallotSound 40 = .ok (.invokevirtual 81, 3) := by decide +kernel
theorem d_Pr_isBallotSound_43 : decode b_Pr_isBallotSound 43 = .ok (.ifCond .eq 7, 3) := by decide +kernel
theorem d_Pr_isBallotSound_46 : decode b_Pr_isBallotSound 46 = .ok (.iconst 1, 1) := by decide +kernel
theorem d_Pr_isBallotSound_47 : decode b_Pr_isBallotSound 47 = .ok (.goto 4, 3) := by decide +kernel
theorem d_Pr_isBallotSound_50 : decode b_Pr_isBallotSound 50 = .ok (.iconst 0, 1) := by decide +kernel
theorem d_Pr_isBallotSound_51 : decode b_Pr_isBallotSound 51 = .ok (.ireturn, 1) := by decide +kernel
set_option maxHeartbeats 8000000 in
set_option maxRecDepth 100000 in
theorem c_Pr_isBallotSound (l : Launch) (H0 : Heap) (dC : Nat → ClassId) (dI : Nat → Nat → Nat) (cJ cI : ClassId) (pr0 : Nat) (g0 mF mE P f1 k1 Q f2 k2 G : Nat) (ra : Nat) (rw : Nat → Int64) (hP : va_P (dC, dI) classes (gp_ws g0 mF mE P f1 k1 Q f2 k2 G ++ rw_ws ra cJ rw) H0) (hok : gp_ok P f1 k1 Q f2 k2 G) : Met l y_Pr_isBallotSound w_Pr_isBallotSound ({ frames := 3, cells := 0, slots := 0, locals := 87 }) (va_Pc [.ref pr0, .ref g0, .ref ra] (fun U => U.heap = H0 ∧ va_K (dC, dI) classes [(cJ, .long), (cI, .int)] U)) (va_Qi (fun (r : Int32) (_ : Unit) => bz r (baSd P Q (rw 2) (rw 3) (rw 4) (rw 5) (rw 6) (rw 7))) (fun _ t => t.heap = H0) (fun _ => False)) 0 0 (fun _ => False) := by
  refine Met.ofW (cc := b_Pr_isBallotSound) (maxL := 4) (ret := (some .boolean)) (by decide) rfl ?_
  intro p e s m args below meth c s₁ Bd hml hv
  obtain ⟨rfl, hH, hK⟩ := hv
  subst hH
  have hx := Bd.exec
  have hb := Bd.bytes
  have hr := Bd.returns
  have hts := atoms_spec (ws := w_Pr_isBallotSound) Bd.pre
  have hown : s.vm.findClass "BallotBoard$Proofs" = some m.cls := findClass_of_methodNamed Bd.named
  have hlocks := Bd.notSynchronized
  have hS : va_S (fun _ => False) s.heap s.heap [] := va_S.rf
  have hl := lv_entry ([.ref pr0, .ref g0, .ref ra]) (n := 4) (Nat.le_of_ble_eq_true rfl)
  rw [lg_entry_eq]
  generalize (lg_sl ([.ref pr0, .ref g0, .ref ra]) ++ List.replicate (4 - (lg_sl ([.ref pr0, .ref g0, .ref ra])).length) Slot.unset).toArray = ls at hl ⊢
  have hl : lv_has ls 4 [(0, .ref pr0), (1, .ref g0), (2, .ref ra)] := hl
  refine lv_iconst (v := 4) hx hb d_Pr_isBallotSound_0 (by decide) ?_
  refine lv_istore_n (lv' := [(3, .int 4), (0, .ref pr0), (1, .ref g0), (2, .ref ra)]) hx hb d_Pr_isBallotSound_1 rfl hl (by decide) rfl (fun ls hl => ?_)
  refine lv_iload_n hx hb d_Pr_isBallotSound_2 rfl (lv_at hl 0 rfl) ?_
  refine lv_bipush (v := 7) hx hb d_Pr_isBallotSound_3 (by decide) ?_
  refine lv_icmp_gt (tgt := 26) hx hb d_Pr_isBallotSound_5 (by decide) (fun c_1 => ?_) (fun c_1 => ?_)
  · -- taken
    exact absurd c_1 (by decide)
  · -- not taken
    refine lv_aload_n hx hb d_Pr_isBallotSound_8 rfl (lv_at hl 2 rfl) ?_
    refine lv_aload_n hx hb d_Pr_isBallotSound_9 rfl (lv_at hl 3 rfl) ?_
    refine lv_iload_n hx hb d_Pr_isBallotSound_10 rfl (lv_at hl 0 rfl) ?_
    refine va_lald hx hb hK hP 3 0 rfl rfl (vp_lit rfl) d_Pr_isBallotSound_11 ?_
    rw [show (rw (4 : Int32).toNatClampNeg : Int64) = rw 4 from rfl]
    have hPc := hP.sub (ws' := (gp_ws g0 mF mE P f1 k1 Q f2 k2 G)) [0, 1, 2] rfl
    have hKc := hK.sub (tys' := []) [] rfl
    refine va_calli (va_runV (As := [.long (rw 4)]) (rest := []) ⟨hx, hb, hml, hown, hts⟩ (c_Gr_hasExponent l s.heap dC dI g0 mF mE P f1 k1 Q f2 k2 G (rw 4) hPc hok ) (cwV 1 hts (gw_V gk_444 gk_445 gk_446 gk_8 gk_447) rfl rfl rfl (by decide +kernel) ⟨Nat.le_of_ble_eq_true rfl, Nat.le_of_ble_eq_true rfl⟩) ⟨fun a U g mk q => ⟨q.1, q.2.1, va_K.moved (u := U) (U := U.calling g mk a) (Vm.Alike.refl U.vm) q.2.2⟩, va_recv hK hP (ci := 1) (q0 := 0) rfl rfl, fun U hU hW => ⟨rfl, hU, va_K.moved hW.alike hKc⟩⟩ rfl rfl hl.1 rfl (lv_room (Nat.le_of_ble_eq_true rfl)) d_Pr_isBallotSound_12 ⟨Nat.le_of_ble_eq_true rfl, Nat.le_of_ble_eq_true rfl⟩) hS (fun q _ h => h.elim) (fun q h => h.elim) (fun r12 u9 t9 H1 locs ht hvm hw hB hz1 hk1 hS => ?_)
    obtain rfl : s.heap = H1 := hB.symm.trans ht
    have h12 := hw
    refine lv_if_ne (tgt := 20) hx hb d_Pr_isBallotSound_15 (by decide) (fun c_2 => ?_) (fun c_2 => ?_)
    · -- taken
      have bx4 := bz_t h12 c_2
      obtain ⟨i_3, ei_3⟩ : ∃ y : Int32, y = 4 + 1 := ⟨_, rfl⟩
      refine lv_iinc (v := i_3) (lv' := [(3, .int i_3), (0, .ref pr0), (1, .ref g0), (2, .ref ra)]) hx hb d_Pr_isBallotSound_20 hl (k := 0) rfl (by rw [ei_3]; rfl) (by decide) rfl (fun ls hl => ?_)
      obtain rfl : i_3 = 5 := by rw [ei_3]; exact by decide
      refine lv_goto (tgt := 2) hx hb d_Pr_isBallotSound_23 (by decide) ?_
      refine lv_iload_n hx hb d_Pr_isBallotSound_2 rfl (lv_at hl 0 rfl) ?_
      refine lv_bipush (v := 7) hx hb d_Pr_isBallotSound_3 (by decide) ?_
      refine lv_icmp_gt (tgt := 26) hx hb d_Pr_isBallotSound_5 (by decide) (fun c_4 => ?_) (fun c_4 => ?_)
      · -- taken
        exact absurd c_4 (by decide)
      · -- not taken
        refine lv_aload_n hx hb d_Pr_isBallotSound_8 rfl (lv_at hl 2 rfl) ?_
        refine lv_aload_n hx hb d_Pr_isBallotSound_9 rfl (lv_at hl 3 rfl) ?_
        refine lv_iload_n hx hb d_Pr_isBallotSound_10 rfl (lv_at hl 0 rfl) ?_
        refine va_lald hx hb hK hP 3 0 rfl rfl (vp_lit rfl) d_Pr_isBallotSound_11 ?_
        rw [show (rw (5 : Int32).toNatClampNeg : Int64) = rw 5 from rfl]
        have hPc := hP.sub (ws' := (gp_ws g0 mF mE P f1 k1 Q f2 k2 G)) [0, 1, 2] rfl
        have hKc := hK.sub (tys' := []) [] rfl
        refine va_calli (va_runV (As := [.long (rw 5)]) (rest := []) ⟨hx, hb, hml, hown, hts⟩ (c_Gr_hasExponent l s.heap dC dI g0 mF mE P f1 k1 Q f2 k2 G (rw 5) hPc hok ) (cwV 1 hts (gw_V gk_444 gk_445 gk_446 gk_8 gk_447) rfl rfl rfl (by decide +kernel) ⟨Nat.le_of_ble_eq_true rfl, Nat.le_of_ble_eq_true rfl⟩) ⟨fun a U g mk q => ⟨q.1, q.2.1, va_K.moved (u := U) (U := U.calling g mk a) (Vm.Alike.refl U.vm) q.2.2⟩, va_recv hK hP (ci := 1) (q0 := 0) rfl rfl, fun U hU hW => ⟨rfl, hU, va_K.moved hW.alike hKc⟩⟩ rfl rfl hl.1 rfl (lv_room (Nat.le_of_ble_eq_true rfl)) d_Pr_isBallotSound_12 ⟨Nat.le_of_ble_eq_true rfl, Nat.le_of_ble_eq_true rfl⟩) hS (fun q _ h => h.elim) (fun q h => h.elim) (fun r12 u9 t9 H1 locs ht hvm hw hB hz1 hk1 hS => ?_)
        obtain rfl : s.heap = H1 := hB.symm.trans ht
        have h12 := hw
        refine lv_if_ne (tgt := 20) hx hb d_Pr_isBallotSound_15 (by decide) (fun c_5 => ?_) (fun c_5 => ?_)
        · -- taken
          have bx5 := bz_t h12 c_5
          obtain ⟨i_6, ei_6⟩ : ∃ y : Int32, y = 5 + 1 := ⟨_, rfl⟩
          refine lv_iinc (v := i_6) (lv' := [(3, .int i_6), (0, .ref pr0), (1, .ref g0), (2, .ref ra)]) hx hb d_Pr_isBallotSound_20 hl (k := 0) rfl (by rw [ei_6]; rfl) (by decide) rfl (fun ls hl => ?_)
          obtain rfl : i_6 = 6 := by rw [ei_6]; exact by decide
          refine lv_goto (tgt := 2) hx hb d_Pr_isBallotSound_23 (by decide) ?_
          refine lv_iload_n hx hb d_Pr_isBallotSound_2 rfl (lv_at hl 0 rfl) ?_
          refine lv_bipush (v := 7) hx hb d_Pr_isBallotSound_3 (by decide) ?_
          refine lv_icmp_gt (tgt := 26) hx hb d_Pr_isBallotSound_5 (by decide) (fun c_7 => ?_) (fun c_7 => ?_)
          · -- taken
            exact absurd c_7 (by decide)
          · -- not taken
            refine lv_aload_n hx hb d_Pr_isBallotSound_8 rfl (lv_at hl 2 rfl) ?_
            refine lv_aload_n hx hb d_Pr_isBallotSound_9 rfl (lv_at hl 3 rfl) ?_
            refine lv_iload_n hx hb d_Pr_isBallotSound_10 rfl (lv_at hl 0 rfl) ?_
            refine va_lald hx hb hK hP 3 0 rfl rfl (vp_lit rfl) d_Pr_isBallotSound_11 ?_
            rw [show (rw (6 : Int32).toNatClampNeg : Int64) = rw 6 from rfl]
            have hPc := hP.sub (ws' := (gp_ws g0 mF mE P f1 k1 Q f2 k2 G)) [0, 1, 2] rfl
            have hKc := hK.sub (tys' := []) [] rfl
            refine va_calli (va_runV (As := [.long (rw 6)]) (rest := []) ⟨hx, hb, hml, hown, hts⟩ (c_Gr_hasExponent l s.heap dC dI g0 mF mE P f1 k1 Q f2 k2 G (rw 6) hPc hok ) (cwV 1 hts (gw_V gk_444 gk_445 gk_446 gk_8 gk_447) rfl rfl rfl (by decide +kernel) ⟨Nat.le_of_ble_eq_true rfl, Nat.le_of_ble_eq_true rfl⟩) ⟨fun a U g mk q => ⟨q.1, q.2.1, va_K.moved (u := U) (U := U.calling g mk a) (Vm.Alike.refl U.vm) q.2.2⟩, va_recv hK hP (ci := 1) (q0 := 0) rfl rfl, fun U hU hW => ⟨rfl, hU, va_K.moved hW.alike hKc⟩⟩ rfl rfl hl.1 rfl (lv_room (Nat.le_of_ble_eq_true rfl)) d_Pr_isBallotSound_12 ⟨Nat.le_of_ble_eq_true rfl, Nat.le_of_ble_eq_true rfl⟩) hS (fun q _ h => h.elim) (fun q h => h.elim) (fun r12 u9 t9 H1 locs ht hvm hw hB hz1 hk1 hS => ?_)
            obtain rfl : s.heap = H1 := hB.symm.trans ht
            have h12 := hw
            refine lv_if_ne (tgt := 20) hx hb d_Pr_isBallotSound_15 (by decide) (fun c_8 => ?_) (fun c_8 => ?_)
            · -- taken
              have bx6 := bz_t h12 c_8
              obtain ⟨i_9, ei_9⟩ : ∃ y : Int32, y = 6 + 1 := ⟨_, rfl⟩
              refine lv_iinc (v := i_9) (lv' := [(3, .int i_9), (0, .ref pr0), (1, .ref g0), (2, .ref ra)]) hx hb d_Pr_isBallotSound_20 hl (k := 0) rfl (by rw [ei_9]; rfl) (by decide) rfl (fun ls hl => ?_)
              obtain rfl : i_9 = 7 := by rw [ei_9]; exact by decide
              refine lv_goto (tgt := 2) hx hb d_Pr_isBallotSound_23 (by decide) ?_
              refine lv_iload_n hx hb d_Pr_isBallotSound_2 rfl (lv_at hl 0 rfl) ?_
              refine lv_bipush (v := 7) hx hb d_Pr_isBallotSound_3 (by decide) ?_
              refine lv_icmp_gt (tgt := 26) hx hb d_Pr_isBallotSound_5 (by decide) (fun c_10 => ?_) (fun c_10 => ?_)
              · -- taken
                exact absurd c_10 (by decide)
              · -- not taken
                refine lv_aload_n hx hb d_Pr_isBallotSound_8 rfl (lv_at hl 2 rfl) ?_
                refine lv_aload_n hx hb d_Pr_isBallotSound_9 rfl (lv_at hl 3 rfl) ?_
                refine lv_iload_n hx hb d_Pr_isBallotSound_10 rfl (lv_at hl 0 rfl) ?_
                refine va_lald hx hb hK hP 3 0 rfl rfl (vp_lit rfl) d_Pr_isBallotSound_11 ?_
                rw [show (rw (7 : Int32).toNatClampNeg : Int64) = rw 7 from rfl]
                have hPc := hP.sub (ws' := (gp_ws g0 mF mE P f1 k1 Q f2 k2 G)) [0, 1, 2] rfl
                have hKc := hK.sub (tys' := []) [] rfl
                refine va_calli (va_runV (As := [.long (rw 7)]) (rest := []) ⟨hx, hb, hml, hown, hts⟩ (c_Gr_hasExponent l s.heap dC dI g0 mF mE P f1 k1 Q f2 k2 G (rw 7) hPc hok ) (cwV 1 hts (gw_V gk_444 gk_445 gk_446 gk_8 gk_447) rfl rfl rfl (by decide +kernel) ⟨Nat.le_of_ble_eq_true rfl, Nat.le_of_ble_eq_true rfl⟩) ⟨fun a U g mk q => ⟨q.1, q.2.1, va_K.moved (u := U) (U := U.calling g mk a) (Vm.Alike.refl U.vm) q.2.2⟩, va_recv hK hP (ci := 1) (q0 := 0) rfl rfl, fun U hU hW => ⟨rfl, hU, va_K.moved hW.alike hKc⟩⟩ rfl rfl hl.1 rfl (lv_room (Nat.le_of_ble_eq_true rfl)) d_Pr_isBallotSound_12 ⟨Nat.le_of_ble_eq_true rfl, Nat.le_of_ble_eq_true rfl⟩) hS (fun q _ h => h.elim) (fun q h => h.elim) (fun r12 u9 t9 H1 locs ht hvm hw hB hz1 hk1 hS => ?_)
                obtain rfl : s.heap = H1 := hB.symm.trans ht
                have h12 := hw
                refine lv_if_ne (tgt := 20) hx hb d_Pr_isBallotSound_15 (by decide) (fun c_11 => ?_) (fun c_11 => ?_)
                · -- taken
                  have bx7 := bz_t h12 c_11
                  obtain ⟨i_12, ei_12⟩ : ∃ y : Int32, y = 7 + 1 := ⟨_, rfl⟩
                  refine lv_iinc (v := i_12) (lv' := [(3, .int i_12), (0, .ref pr0), (1, .ref g0), (2, .ref ra)]) hx hb d_Pr_isBallotSound_20 hl (k := 0) rfl (by rw [ei_12]; rfl) (by decide) rfl (fun ls hl => ?_)
                  obtain rfl : i_12 = 8 := by rw [ei_12]; exact by decide
                  refine lv_goto (tgt := 2) hx hb d_Pr_isBallotSound_23 (by decide) ?_
                  refine lv_iload_n hx hb d_Pr_isBallotSound_2 rfl (lv_at hl 0 rfl) ?_
                  refine lv_bipush (v := 7) hx hb d_Pr_isBallotSound_3 (by decide) ?_
                  refine lv_icmp_gt (tgt := 26) hx hb d_Pr_isBallotSound_5 (by decide) (fun c_13 => ?_) (fun c_13 => ?_)
                  · -- taken
                    refine lv_aload_n hx hb d_Pr_isBallotSound_26 rfl (lv_at hl 2 rfl) ?_
                    refine lv_aload_n hx hb d_Pr_isBallotSound_27 rfl (lv_at hl 3 rfl) ?_
                    refine lv_iconst (v := 2) hx hb d_Pr_isBallotSound_28 (by decide) ?_
                    refine va_lald hx hb hK hP 3 0 rfl rfl (vp_lit rfl) d_Pr_isBallotSound_29 ?_
                    rw [show (rw (2 : Int32).toNatClampNeg : Int64) = rw 2 from rfl]
                    have hPc := hP.sub (ws' := (gp_ws g0 mF mE P f1 k1 Q f2 k2 G)) [0, 1, 2] rfl
                    have hKc := hK.sub (tys' := []) [] rfl
                    refine va_calli (va_runV (As := [.long (rw 2)]) (rest := []) ⟨hx, hb, hml, hown, hts⟩ (c_Gr_has l s.heap dC dI g0 mF mE P f1 k1 Q f2 k2 G (rw 2) hPc ⟨hok.1, hok.2.1, hok.2.2.1, hok.2.2.2.1, hok.2.2.2.2.1⟩ ) (cwV 1 hts (gw_V gk_448 gk_276 gk_277 gk_8 gk_278) rfl rfl rfl (by decide +kernel) ⟨Nat.le_of_ble_eq_true rfl, Nat.le_of_ble_eq_true rfl⟩) ⟨fun a U g mk q => ⟨q.1, q.2.1, va_K.moved (u := U) (U := U.calling g mk a) (Vm.Alike.refl U.vm) q.2.2⟩, va_recv hK hP (ci := 1) (q0 := 0) rfl rfl, fun U hU hW => ⟨rfl, hU, va_K.moved hW.alike hKc⟩⟩ rfl rfl hl.1 rfl (lv_room (Nat.le_of_ble_eq_true rfl)) d_Pr_isBallotSound_30 ⟨Nat.le_of_ble_eq_true rfl, Nat.le_of_ble_eq_true rfl⟩) hS (fun q _ h => h.elim) (fun q h => h.elim) (fun r30 u9 t9 H1 locs ht hvm hw hB hz1 hk1 hS => ?_)
                    obtain rfl : s.heap = H1 := hB.symm.trans ht
                    have h30 := hw
                    refine lv_if_eq (tgt := 50) hx hb d_Pr_isBallotSound_33 (by decide) (fun c_14 => ?_) (fun c_14 => ?_)
                    · -- taken
                      have hbad : ¬ baSd P Q (rw 2) (rw 3) (rw 4) (rw 5) (rw 6) (rw 7) := fun h => bz_f h30 c_14 h.2.2.2.2.1
                      refine lv_iconst (v := 0) hx hb d_Pr_isBallotSound_50 (by decide) ?_
                      exact W.zret (v := 0) hx hb hr (by decide) (fun t ht hW => ⟨⟨_, (), rfl, (bz_0 hbad), ht⟩, hS.F ht⟩) hS.2.2 d_Pr_isBallotSound_51
                    · -- not taken
                      have b30 := bz_t h30 c_14
                      refine lv_aload_n hx hb d_Pr_isBallotSound_36 rfl (lv_at hl 2 rfl) ?_
                      refine lv_aload_n hx hb d_Pr_isBallotSound_37 rfl (lv_at hl 3 rfl) ?_
                      refine lv_iconst (v := 3) hx hb d_Pr_isBallotSound_38 (by decide) ?_
                      refine va_lald hx hb hK hP 3 0 rfl rfl (vp_lit rfl) d_Pr_isBallotSound_39 ?_
                      rw [show (rw (3 : Int32).toNatClampNeg : Int64) = rw 3 from rfl]
                      have hPc := hP.sub (ws' := (gp_ws g0 mF mE P f1 k1 Q f2 k2 G)) [0, 1, 2] rfl
                      have hKc := hK.sub (tys' := []) [] rfl
                      refine va_calli (va_runV (As := [.long (rw 3)]) (rest := []) ⟨hx, hb, hml, hown, hts⟩ (c_Gr_has l s.heap dC dI g0 mF mE P f1 k1 Q f2 k2 G (rw 3) hPc ⟨hok.1, hok.2.1, hok.2.2.1, hok.2.2.2.1, hok.2.2.2.2.1⟩ ) (cwV 1 hts (gw_V gk_448 gk_276 gk_277 gk_8 gk_278) rfl rfl rfl (by decide +kernel) ⟨Nat.le_of_ble_eq_true rfl, Nat.le_of_ble_eq_true rfl⟩) ⟨fun a U g mk q => ⟨q.1, q.2.1, va_K.moved (u := U) (U := U.calling g mk a) (Vm.Alike.refl U.vm) q.2.2⟩, va_recv hK hP (ci := 1) (q0 := 0) rfl rfl, fun U hU hW => ⟨rfl, hU, va_K.moved hW.alike hKc⟩⟩ rfl rfl hl.1 rfl (lv_room (Nat.le_of_ble_eq_true rfl)) d_Pr_isBallotSound_40 ⟨Nat.le_of_ble_eq_true rfl, Nat.le_of_ble_eq_true rfl⟩) hS (fun q _ h => h.elim) (fun q h => h.elim) (fun r40 u9 t9 H1 locs ht hvm hw hB hz1 hk1 hS => ?_)
                      obtain rfl : s.heap = H1 := hB.symm.trans ht
                      have h40 := hw
                      refine lv_if_eq (tgt := 50) hx hb d_Pr_isBallotSound_43 (by decide) (fun c_15 => ?_) (fun c_15 => ?_)
                      · -- taken
                        have hbad : ¬ baSd P Q (rw 2) (rw 3) (rw 4) (rw 5) (rw 6) (rw 7) := fun h => bz_f h40 c_15 h.2.2.2.2.2
                        refine lv_iconst (v := 0) hx hb d_Pr_isBallotSound_50 (by decide) ?_
                        exact W.zret (v := 0) hx hb hr (by decide) (fun t ht hW => ⟨⟨_, (), rfl, (bz_0 hbad), ht⟩, hS.F ht⟩) hS.2.2 d_Pr_isBallotSound_51
                      · -- not taken
                        have hgood : baSd P Q (rw 2) (rw 3) (rw 4) (rw 5) (rw 6) (rw 7) := ⟨bx4, bx5, bx6, bx7, b30, bz_t h40 c_15⟩
                        refine lv_iconst (v := 1) hx hb d_Pr_isBallotSound_46 (by decide) ?_
                        refine lv_goto (tgt := 51) hx hb d_Pr_isBallotSound_47 (by decide) ?_
                        exact W.zret (v := 1) hx hb hr (by decide) (fun t ht hW => ⟨⟨_, (), rfl, (bz_1 hgood), ht⟩, hS.F ht⟩) hS.2.2 d_Pr_isBallotSound_51
                  · -- not taken
                    exact absurd c_13 (by decide)
                · -- not taken
                  have hbad : ¬ baSd P Q (rw 2) (rw 3) (rw 4) (rw 5) (rw 6) (rw 7) := fun h => bz_f h12 c_11 h.2.2.2.1
                  refine lv_iconst (v := 0) hx hb d_Pr_isBallotSound_18 (by decide) ?_
                  exact W.zret (v := 0) hx hb hr (by decide) (fun t ht hW => ⟨⟨_, (), rfl, (bz_0 hbad), ht⟩, hS.F ht⟩) hS.2.2 d_Pr_isBallotSound_19
            · -- not taken
              have hbad : ¬ baSd P Q (rw 2) (rw 3) (rw 4) (rw 5) (rw 6) (rw 7) := fun h => bz_f h12 c_8 h.2.2.1
              refine lv_iconst (v := 0) hx hb d_Pr_isBallotSound_18 (by decide) ?_
              exact W.zret (v := 0) hx hb hr (by decide) (fun t ht hW => ⟨⟨_, (), rfl, (bz_0 hbad), ht⟩, hS.F ht⟩) hS.2.2 d_Pr_isBallotSound_19
        · -- not taken
          have hbad : ¬ baSd P Q (rw 2) (rw 3) (rw 4) (rw 5) (rw 6) (rw 7) := fun h => bz_f h12 c_5 h.2.1
          refine lv_iconst (v := 0) hx hb d_Pr_isBallotSound_18 (by decide) ?_
          exact W.zret (v := 0) hx hb hr (by decide) (fun t ht hW => ⟨⟨_, (), rfl, (bz_0 hbad), ht⟩, hS.F ht⟩) hS.2.2 d_Pr_isBallotSound_19
    · -- not taken
      have hbad : ¬ baSd P Q (rw 2) (rw 3) (rw 4) (rw 5) (rw 6) (rw 7) := fun h => bz_f h12 c_2 h.1
      refine lv_iconst (v := 0) hx hb d_Pr_isBallotSound_18 (by decide) ?_
      exact W.zret (v := 0) hx hb hr (by decide) (fun t ht hW => ⟨⟨_, (), rfl, (bz_0 hbad), ht⟩, hS.F ht⟩) hS.2.2 d_Pr_isBallotSound_19
abbrev b_Pr_openForZero : ByteArray := prog_7_method_10_code
abbrev y_Pr_openForZero : MethodName := ⟨"BallotBoard$Proofs", "openForZero", "(LBallotBoard$Tally;[J)V"⟩
abbrev w_Pr_openForZero : List Cond := .code y_Pr_openForZero b_Pr_openForZero 8 none :: gw
theorem d_Pr_openForZero_0 : decode b_Pr_openForZero 0 = .ok (.aload_n 1, 1) := by decide +kernel
theorem d_Pr_openForZero_1 : decode b_Pr_openForZero 1 = .ok (.invokevirtual 19, 3) := by decide +kernel
theorem d_Pr_openForZero_4 : decode b_Pr_openForZero 4 = .ok (.astore_n 3, 1) := by decide +kernel
theorem d_Pr_openForZero_5 : decode b_Pr_openForZero 5 = .ok (.aload_n 2, 1) := by decide +kernel
theorem d_Pr_openForZero_6 : decode b_Pr_openForZero 6 = .ok (.iconst 4, 1) := by decide +kernel
theorem d_Pr_openForZero_7 : decode b_Pr_openForZero 7 = .ok (.laload, 1) := by decide +kernel
theorem d_Pr_openForZero_8 : decode b_Pr_openForZero 8 = .ok (.lstore 4, 2) := by decide +kernel
theorem d_Pr_openForZero_10 : decode b_Pr_openForZero 10 = .ok (.aload_n 2, 1) := by decide +kernel
theorem d_Pr_openForZero_11 : decode b_Pr_openForZero 11 = .ok (.iconst 5, 1) := by decide +kernel
theorem d_Pr_openForZero_12 : decode b_Pr_openForZero 12 = .ok (.laload, 1) := by decide +kernel
theorem d_Pr_openForZero_13 : decode b_Pr_openForZero 13 = .ok (.lstore 6, 2) := by decide +kernel
theorem d_Pr_openForZero_15 : decode b_Pr_openForZero 15 = .ok (.aload_n 0, 1) := by decide +kernel
theorem d_Pr_openForZero_16 : decode b_Pr_openForZero 16 = .ok (.getfield 15, 3) := by decide +kernel
theorem d_Pr_openForZero_19 : decode b_Pr_openForZero 19 = .ok (.iconst 0, 1) := by decide +kernel
theorem d_Pr_openForZero_20 : decode b_Pr_openForZero 20 = .ok (.aload_n 3, 1) := by decide +kernel
theorem d_Pr_openForZero_21 : decode b_Pr_openForZero 21 = .ok (.aload_n 3, 1) := by decide +kernel
theorem d_Pr_openForZero_22 : decode b_Pr_openForZero 22 = .ok (.invokevirtual 54, 3) := by decide +kernel
theorem d_Pr_openForZero_25 : decode b_Pr_openForZero 25 = .ok (.lload 6, 2) := by decide +kernel
theorem d_Pr_openForZero_27 : decode b_Pr_openForZero 27 = .ok (.aload_n 2, 1) := by decide +kernel
theorem d_Pr_openForZero_28 : decode b_Pr_openForZero 28 = .ok (.iconst 2, 1) := by decide +kernel
theorem d_Pr_openForZero_29 : decode b_Pr_openForZero 29 = .ok (.laload, 1) := by decide +kernel
theorem d_Pr_openForZero_30 : decode b_Pr_openForZero 30 = .ok (.lload 4, 2) := by decide +kernel
theorem d_Pr_openForZero_32 : decode b_Pr_openForZero 32 = .ok (.invokevirtual 84, 3) := by decide +kernel
theorem d_Pr_openForZero_35 : decode b_Pr_openForZero 35 = .ok (.lastore, 1) := by decide +kernel
theorem d_Pr_openForZero_36 : decode b_Pr_openForZero 36 = .ok (.aload_n 0, 1) := by decide +kernel
theorem d_Pr_openForZero_37 : decode b_Pr_openForZero 37 = .ok (.getfield 15, 3) := by decide +kernel
theorem d_Pr_openForZero_40 : decode b_Pr_openForZero 40 = .ok (.iconst 1, 1) := by decide +kernel
theorem d_Pr_openForZero_41 : decode b_Pr_openForZero 41 = .ok (.aload_n 3, 1) := by decide +kernel
theorem d_Pr_openForZero_42 : decode b_Pr_openForZero 42 = .ok (.aload_n 1, 1) := by decide +kernel
theorem d_Pr_openForZero_43 : decode b_Pr_openForZero 43 = .ok (.invokevirtual 68, 3) := by decide +kernel
theorem d_Pr_openForZero_46 : decode b_Pr_openForZero 46 = .ok (.lload 6, 2) := by decide +kernel
theorem d_Pr_openForZero_48 : decode b_Pr_openForZero 48 = .ok (.aload_n 2, 1) := by decide +kernel
theorem d_Pr_openForZero_49 : decode b_Pr_openForZero 49 = .ok (.iconst 3, 1) := by decide +kernel
theorem d_Pr_openForZero_50 : decode b_Pr_openForZero 50 = .ok (.laload, 1) := by decide +kernel
theorem d_Pr_openForZero_51 : decode b_Pr_openForZero 51 = .ok (.lload 4, 2) := by decide +kernel
theorem d_Pr_openForZero_53 : decode b_Pr_openForZero 53 = .ok (.invokevirtual 84, 3) := by decide +kernel
theorem d_Pr_openForZero_56 : decode b_Pr_openForZero 56 = .ok (.lastore, 1) := by decide +kernel
theorem d_Pr_openForZero_57 : decode b_Pr_openForZero 57 = .ok (.return_, 1) := by decide +kernel
set_option maxHeartbeats 8000000 in
set_option maxRecDepth 100000 in
theorem c_Pr_openForZero (l : Launch) (dC : Nat → ClassId) (dI : Nat → Nat → Nat) (cJ cI : ClassId) (sz : Nat) (pr0 h0 cm : Nat) (cf : Nat → Nat) (t0 ka aa ba sa : Nat) (ko ao bo so : Nat → Nat) (tn kc bc shc kp shp pa pb : Nat) (sht : Int32) (g0 mF mE P f1 k1 Q f2 k2 G : Nat) (ra : Nat) (rw : Nat → Int64) (A1 B1 C1 Z1 : Nat) (hok : gp_ok P f1 k1 Q f2 k2 G) (htn : tn ≤ 4) (hkc : kc ≤ 4) (hkp : kp < P) (hr2 : rw 2 = lN A1) (hr3 : rw 3 = lN B1) (hr4 : rw 4 = lN C1) (hr5 : rw 5 = lN Z1) (hA9 : A1 < P) (hB9 : B1 < P) (hC9 : C1 < Q) (hZ9 : Z1 < Q) : Met l y_Pr_openForZero w_Pr_openForZero ({ frames := 3, cells := 0, slots := 0, locals := 103 }) (va_Pc [.ref pr0, .ref t0, .ref ra] (fun U => U.heap.size = sz ∧ va_P (dC, dI) classes (pr_ws pr0 h0 cm cJ cf ++ (tl_ws t0 ka aa ba sa (.ref g0) cJ ko ao bo so tn kc bc shc kp shp pa pb sht ++ (gp_ws g0 mF mE P f1 k1 Q f2 k2 G ++ rw_ws ra cJ rw))) U.heap ∧ va_K (dC, dI) classes [(cJ, .long), (cI, .int)] U ∧ va_D (fun _ => True) (pr_ws pr0 h0 cm cJ cf ++ (tl_ws t0 ka aa ba sa (.ref g0) cJ ko ao bo so tn kc bc shc kp shp pa pb sht ++ (gp_ws g0 mF mE P f1 k1 Q f2 k2 G ++ rw_ws ra cJ rw))))) (va_Qv (fun _ : Unit => True) (fun _ t => va_P (dC, dI) classes (pr_ws pr0 h0 cm cJ (updN (updN cf 0 (G ^ Z1 * A1 ^ ((Q - C1) % Q) % P)) 1 ((ckey tn kc kp) ^ Z1 * B1 ^ ((Q - C1) % Q) % P)) ++ (tl_ws t0 ka aa ba sa (.ref g0) cJ ko ao bo so tn kc bc shc kp shp pa pb sht ++ (gp_ws g0 mF mE P f1 k1 Q f2 k2 G ++ rw_ws ra cJ rw))) t.heap ∧ va_K (dC, dI) classes [(cJ, .long), (cI, .int)] t ∧ va_D (va_A (pr_ws pr0 h0 cm cJ cf ++ (tl_ws t0 ka aa ba sa (.ref g0) cJ ko ao bo so tn kc bc shc kp shp pa pb sht ++ (gp_ws g0 mF mE P f1 k1 Q f2 k2 G ++ rw_ws ra cJ rw))) sz) (pr_ws pr0 h0 cm cJ (updN (updN cf 0 (G ^ Z1 * A1 ^ ((Q - C1) % Q) % P)) 1 ((ckey tn kc kp) ^ Z1 * B1 ^ ((Q - C1) % Q) % P)) ++ (tl_ws t0 ka aa ba sa (.ref g0) cJ ko ao bo so tn kc bc shc kp shp pa pb sht ++ (gp_ws g0 mF mE P f1 k1 Q f2 k2 G ++ rw_ws ra cJ rw)))) (va_A (pr_ws pr0 h0 cm cJ cf ++ (tl_ws t0 ka aa ba sa (.ref g0) cJ ko ao bo so tn kc bc shc kp shp pa pb sht ++ (gp_ws g0 mF mE P f1 k1 Q f2 k2 G ++ rw_ws ra cJ rw))) sz)) 0 0 (va_A (pr_ws pr0 h0 cm cJ cf ++ (tl_ws t0 ka aa ba sa (.ref g0) cJ ko ao bo so tn kc bc shc kp shp pa pb sht ++ (gp_ws g0 mF mE P f1 k1 Q f2 k2 G ++ rw_ws ra cJ rw))) sz) := by
  refine Met.ofW (cc := b_Pr_openForZero) (maxL := 8) (ret := none) (by decide) rfl ?_
  intro p e s m args below meth c s₁ Bd hml hv
  obtain ⟨rfl, hsz, hP, hK, hD0⟩ := hv
  have hx := Bd.exec
  have hb := Bd.bytes
  have hr := Bd.returns
  have hts := atoms_spec (ws := w_Pr_openForZero) Bd.pre
  have hown : s.vm.findClass "BallotBoard$Proofs" = some m.cls := findClass_of_methodNamed Bd.named
  have hlocks := Bd.notSynchronized
  subst hsz
  have hD := hD0.self (sz := s.heap.size)
  generalize hAe : va_A (pr_ws pr0 h0 cm cJ cf ++ (tl_ws t0 ka aa ba sa (.ref g0) cJ ko ao bo so tn kc bc shc kp shp pa pb sht ++ (gp_ws g0 mF mE P f1 k1 Q f2 k2 G ++ rw_ws ra cJ rw))) s.heap.size = A at hD ⊢
  have hA : ∀ q : Nat, s.heap.size ≤ q → A q := fun q h => by rw [← hAe]; exact Or.inr h
  have hS : va_S A s.heap s.heap [] := va_S.rf
  have hl := lv_entry ([.ref pr0, .ref t0, .ref ra]) (n := 8) (Nat.le_of_ble_eq_true rfl)
  rw [lg_entry_eq]
  generalize (lg_sl ([.ref pr0, .ref t0, .ref ra]) ++ List.replicate (8 - (lg_sl ([.ref pr0, .ref t0, .ref ra])).length) Slot.unset).toArray = ls at hl ⊢
  have hl : lv_has ls 8 [(0, .ref pr0), (1, .ref t0), (2, .ref ra)] := hl
  obtain ⟨hokF, hokE, hPQ, hG2, hGP, hGQ⟩ := id hok
  obtain ⟨hoF, h3F, h61F, _, _, hk61F, hNkF⟩ := id hokF
  obtain ⟨hoE, h3E, h61E, _, _, hk61E, hNkE⟩ := id hokE
  have hck := ckey_lt (tn := tn) (kc := kc) hkp
  refine lv_aload_n hx hb d_Pr_openForZero_0 rfl (lv_at hl 1 rfl) ?_
  have hPc := hP.sub (ws' := (tl_ws t0 ka aa ba sa (.ref g0) cJ ko ao bo so tn kc bc shc kp shp pa pb sht)) [2, 3, 4, 5, 6] rfl
  have hKc := hK.sub (tys' := [(cJ, .long), (cI, .int)]) [0, 1] rfl
  refine va_callr (va_runV (As := []) (rest := []) ⟨hx, hb, hml, hown, hts⟩ (c_Ta_group l s.heap dC dI cJ cI t0 ka aa ba sa g0 ko ao bo so tn kc bc shc kp shp pa pb sht hPc) (cwV 0 hts (gw_V gk_435 gk_436 gk_437 gk_5 gk_438) rfl rfl rfl (by decide +kernel) ⟨Nat.le_of_ble_eq_true rfl, Nat.le_of_ble_eq_true rfl⟩) ⟨fun a U g mk q => ⟨q.1, q.2.1, va_K.moved (u := U) (U := U.calling g mk a) (Vm.Alike.refl U.vm) q.2.2⟩, va_recv hK hP (ci := 4) (q0 := 2) rfl rfl, fun U hU hW => ⟨rfl, hU, va_K.moved hW.alike hKc⟩⟩ rfl rfl hl.1 rfl (lv_room (Nat.le_of_ble_eq_true rfl)) d_Pr_openForZero_1 ⟨Nat.le_of_ble_eq_true rfl, Nat.le_of_ble_eq_true rfl⟩) hS (fun q _ h => h.elim) (fun q h => h.elim) (fun u9 r1 t9 H1 locs ht hvm hw hB hz1 hk1 hS => ?_)
  obtain ⟨hra, hB⟩ := hB
  have hra := hra.symm
  subst hra
  obtain rfl : s.heap = H1 := hB.symm.trans ht
  refine lv_astore_n (lv' := [(3, .ref g0), (0, .ref pr0), (1, .ref t0), (2, .ref ra)]) hx hb d_Pr_openForZero_4 rfl hl (by decide) rfl (fun ls hl => ?_)
  refine lv_aload_n hx hb d_Pr_openForZero_5 rfl (lv_at hl 3 rfl) ?_
  refine lv_iconst (v := 4) hx hb d_Pr_openForZero_6 (by decide) ?_
  refine va_lald hx hb hK hP 10 0 rfl rfl (vp_lit rfl) d_Pr_openForZero_7 ?_
  refine lv_topl (fun v_1 ev_1 => ?_)
  obtain rfl : v_1 = lN C1 := ev_1.trans hr4
  refine lv_lstore (lv' := [(4, .long (lN C1)), (3, .ref g0), (0, .ref pr0), (1, .ref t0), (2, .ref ra)]) hx hb d_Pr_openForZero_8 hl (by decide) rfl (fun ls hl => ?_)
  refine lv_aload_n hx hb d_Pr_openForZero_10 rfl (lv_at hl 4 rfl) ?_
  refine lv_iconst (v := 5) hx hb d_Pr_openForZero_11 (by decide) ?_
  refine va_lald hx hb hK hP 10 0 rfl rfl (vp_lit rfl) d_Pr_openForZero_12 ?_
  refine lv_topl (fun v_2 ev_2 => ?_)
  obtain rfl : v_2 = lN Z1 := ev_2.trans hr5
  refine lv_lstore (lv' := [(6, .long (lN Z1)), (4, .long (lN C1)), (3, .ref g0), (0, .ref pr0), (1, .ref t0), (2, .ref ra)]) hx hb d_Pr_openForZero_13 hl (by decide) rfl (fun ls hl => ?_)
  refine lv_aload_n hx hb d_Pr_openForZero_15 rfl (lv_at hl 3 rfl) ?_
  refine va_get (D := (dC, dI)) (ci := 5) (v := .ref cm) (C := "BallotBoard$Proofs") (T := F_Pr) (N := 2) hx hb hts (fun w9 h9 => List.mem_cons_of_mem _ (i_Pr w9 h9)) hown hK hP 0 rfl rfl 1 (by decide) (hts _ (List.mem_cons_of_mem _ gk_80)) (fun _ h9 => h9) rfl d_Pr_openForZero_16 ?_
  refine lv_iconst (v := 0) hx hb d_Pr_openForZero_19 (by decide) ?_
  refine lv_aload_n hx hb d_Pr_openForZero_20 rfl (lv_at hl 2 rfl) ?_
  refine lv_aload_n hx hb d_Pr_openForZero_21 rfl (lv_at hl 2 rfl) ?_
  have hPc := hP.sub (ws' := (gp_ws g0 mF mE P f1 k1 Q f2 k2 G)) [7, 8, 9] rfl
  have hKc := hK.sub (tys' := []) [] rfl
  refine va_calll (va_runV (As := []) (rest := [.ref g0, .int 0, .ref cm]) ⟨hx, hb, hml, hown, hts⟩ (c_Gr_g l s.heap dC dI g0 mF mE P f1 k1 Q f2 k2 G  hPc hok ) (cwV 0 hts (gw_V gk_453 gk_454 gk_455 gk_8 gk_456) rfl rfl rfl (by decide +kernel) ⟨Nat.le_of_ble_eq_true rfl, Nat.le_of_ble_eq_true rfl⟩) ⟨fun a U g mk q => ⟨q.1, q.2.1, va_K.moved (u := U) (U := U.calling g mk a) (Vm.Alike.refl U.vm) q.2.2⟩, va_recv hK hP (ci := 1) (q0 := 7) rfl rfl, fun U hU hW => ⟨rfl, hU, va_K.moved hW.alike hKc⟩⟩ rfl rfl hl.1 rfl (lv_room (Nat.le_of_ble_eq_true rfl)) d_Pr_openForZero_22 ⟨Nat.le_of_ble_eq_true rfl, Nat.le_of_ble_eq_true rfl⟩) hS (fun q _ h => h.elim) (fun q h => h.elim) (fun r22 u9 t9 H1 locs ht hvm hw hB hz1 hk1 hS => ?_)
  obtain rfl : s.heap = H1 := hB.symm.trans ht
  have hw : r22 = lN G := hw
  subst hw
  refine lv_lload hx hb d_Pr_openForZero_25 (lv_at hl 0 rfl) ?_
  refine lv_aload_n hx hb d_Pr_openForZero_27 rfl (lv_at hl 5 rfl) ?_
  refine lv_iconst (v := 2) hx hb d_Pr_openForZero_28 (by decide) ?_
  refine va_lald hx hb hK hP 10 0 rfl rfl (vp_lit rfl) d_Pr_openForZero_29 ?_
  refine lv_topl (fun v_3 ev_3 => ?_)
  obtain rfl : v_3 = lN A1 := ev_3.trans hr2
  refine lv_lload hx hb d_Pr_openForZero_30 (lv_at hl 1 rfl) ?_
  have hPc := hP.sub (ws' := (gp_ws g0 mF mE P f1 k1 Q f2 k2 G)) [7, 8, 9] rfl
  have hKc := hK.sub (tys' := []) [] rfl
  refine va_calll (va_runV (As := [.long (lN G), .long (lN Z1), .long (lN A1), .long (lN C1)]) (rest := [.int 0, .ref cm]) ⟨hx, hb, hml, hown, hts⟩ (c_Gr_opened l s.heap dC dI g0 mF mE P f1 k1 Q f2 k2 G G Z1 A1 C1 hPc hok (by omega) (by omega) (by omega) (by omega)) (cwV 4 hts (gw_V gk_457 gk_458 gk_459 gk_8 gk_460) rfl rfl rfl (by decide +kernel) ⟨Nat.le_of_ble_eq_true rfl, Nat.le_of_ble_eq_true rfl⟩) ⟨fun a U g mk q => ⟨q.1, q.2.1, va_K.moved (u := U) (U := U.calling g mk a) (Vm.Alike.refl U.vm) q.2.2⟩, va_recv hK hP (ci := 1) (q0 := 7) rfl rfl, fun U hU hW => ⟨rfl, hU, va_K.moved hW.alike hKc⟩⟩ rfl rfl hl.1 rfl (lv_room (Nat.le_of_ble_eq_true rfl)) d_Pr_openForZero_32 ⟨Nat.le_of_ble_eq_true rfl, Nat.le_of_ble_eq_true rfl⟩) hS (fun q _ h => h.elim) (fun q h => h.elim) (fun r32 u9 t9 H1 locs ht hvm hw hB hz1 hk1 hS => ?_)
  obtain rfl : s.heap = H1 := hB.symm.trans ht
  have hw : r32 = lN (G ^ Z1 * A1 ^ ((Q - C1) % Q) % P) := hw
  subst hw
  refine va_last hx hb hK hP hD hS 1 0 rfl rfl (vp_lit rfl) d_Pr_openForZero_35 (fun H locs hP hD hS => ?_)
  have hfe : vp_updL (lF cf) (0 : Int32).toNatClampNeg (lN (G ^ Z1 * A1 ^ ((Q - C1) % Q) % P)) = lF (updN cf 0 (G ^ Z1 * A1 ^ ((Q - C1) % Q) % P)) := lF_upd _ _ _
  have hP : va_P (dC, dI) classes [(pr0, .inr (5, [.ref h0, .ref cm])), (cm, .inl (cJ, 4, .inr (.inl (vp_updL (lF cf) (0 : Int32).toNatClampNeg (lN (G ^ Z1 * A1 ^ ((Q - C1) % Q) % P)))))), (t0, .inr (4, [.ref ka, .ref aa, .ref ba, .ref sa, .ref g0, .int (nI tn), .int (nI kc), .int (nI bc), .int (nI shc), .long (lN kp), .long (lN shp), .long (lN pa), .long (lN pb), .int sht])), (ka, .inl (cJ, 4, .inr (.inl (lF ko)))), (aa, .inl (cJ, 64, .inr (.inl (lF ao)))), (ba, .inl (cJ, 64, .inr (.inl (lF bo)))), (sa, .inl (cJ, 4, .inr (.inl (lF so)))), (g0, .inr (1, [.ref mF, .ref mE, .long (lN G), .long (lN (G ^ (Q - 1) % P))])), (mF, .inr (0, [.long (lN P), .long (lN (P % 2 ^ 31)), .long (lN (P / 2 ^ 31)), .long (lN f1), .long (lN (2 ^ 62 % P)), .long (lN (2 ^ 124 % P)), .int (nI k1)])), (mE, .inr (0, [.long (lN Q), .long (lN (Q % 2 ^ 31)), .long (lN (Q / 2 ^ 31)), .long (lN f2), .long (lN (2 ^ 62 % Q)), .long (lN (2 ^ 124 % Q)), .int (nI k2)])), (ra, .inl (cJ, 8, .inr (.inl rw)))] H := hP
  have hD : va_D A [(pr0, .inr (5, [.ref h0, .ref cm])), (cm, .inl (cJ, 4, .inr (.inl (vp_updL (lF cf) (0 : Int32).toNatClampNeg (lN (G ^ Z1 * A1 ^ ((Q - C1) % Q) % P)))))), (t0, .inr (4, [.ref ka, .ref aa, .ref ba, .ref sa, .ref g0, .int (nI tn), .int (nI kc), .int (nI bc), .int (nI shc), .long (lN kp), .long (lN shp), .long (lN pa), .long (lN pb), .int sht])), (ka, .inl (cJ, 4, .inr (.inl (lF ko)))), (aa, .inl (cJ, 64, .inr (.inl (lF ao)))), (ba, .inl (cJ, 64, .inr (.inl (lF bo)))), (sa, .inl (cJ, 4, .inr (.inl (lF so)))), (g0, .inr (1, [.ref mF, .ref mE, .long (lN G), .long (lN (G ^ (Q - 1) % P))])), (mF, .inr (0, [.long (lN P), .long (lN (P % 2 ^ 31)), .long (lN (P / 2 ^ 31)), .long (lN f1), .long (lN (2 ^ 62 % P)), .long (lN (2 ^ 124 % P)), .int (nI k1)])), (mE, .inr (0, [.long (lN Q), .long (lN (Q % 2 ^ 31)), .long (lN (Q / 2 ^ 31)), .long (lN f2), .long (lN (2 ^ 62 % Q)), .long (lN (2 ^ 124 % Q)), .int (nI k2)])), (ra, .inl (cJ, 8, .inr (.inl rw)))] := hD
  rw [hfe] at hP hD
  refine lv_aload_n hx hb d_Pr_openForZero_36 rfl (lv_at hl 3 rfl) ?_
  refine va_get (D := (dC, dI)) (ci := 5) (v := .ref cm) (C := "BallotBoard$Proofs") (T := F_Pr) (N := 2) hx hb hts (fun w9 h9 => List.mem_cons_of_mem _ (i_Pr w9 h9)) hown hK hP 0 rfl rfl 1 (by decide) (hts _ (List.mem_cons_of_mem _ gk_80)) (fun _ h9 => h9) rfl d_Pr_openForZero_37 ?_
  refine lv_iconst (v := 1) hx hb d_Pr_openForZero_40 (by decide) ?_
  refine lv_aload_n hx hb d_Pr_openForZero_41 rfl (lv_at hl 2 rfl) ?_
  refine lv_aload_n hx hb d_Pr_openForZero_42 rfl (lv_at hl 4 rfl) ?_
  have hPc := hP.sub (ws' := (tl_ws t0 ka aa ba sa (.ref g0) cJ ko ao bo so tn kc bc shc kp shp pa pb sht)) [2, 3, 4, 5, 6] rfl
  have hKc := hK.sub (tys' := [(cJ, .long), (cI, .int)]) [0, 1] rfl
  refine va_calll (va_runV (As := []) (rest := [.ref g0, .int 1, .ref cm]) ⟨hx, hb, hml, hown, hts⟩ (c_Ta_commonKey l H dC dI cJ cI t0 ka aa ba sa (.ref g0) ko ao bo so tn kc bc shc kp shp pa pb sht  hPc (by omega) (by omega)) (cwV 0 hts (gw_V gk_469 gk_470 gk_471 gk_5 gk_472) rfl rfl rfl (by decide +kernel) ⟨Nat.le_of_ble_eq_true rfl, Nat.le_of_ble_eq_true rfl⟩) ⟨fun a U g mk q => ⟨q.1, q.2.1, va_K.moved (u := U) (U := U.calling g mk a) (Vm.Alike.refl U.vm) q.2.2⟩, va_recv hK hP (ci := 4) (q0 := 2) rfl rfl, fun U hU hW => ⟨rfl, hU, va_K.moved hW.alike hKc⟩⟩ rfl rfl hl.1 rfl (lv_room (Nat.le_of_ble_eq_true rfl)) d_Pr_openForZero_43 ⟨Nat.le_of_ble_eq_true rfl, Nat.le_of_ble_eq_true rfl⟩) hS (fun q _ h => h.elim) (fun q h => h.elim) (fun r43 u9 t9 H1 locs ht hvm hw hB hz1 hk1 hS => ?_)
  obtain rfl : H = H1 := hB.symm.trans ht
  have hw : r43 = lN (ckey tn kc kp) := hw
  subst hw
  refine lv_lload hx hb d_Pr_openForZero_46 (lv_at hl 0 rfl) ?_
  refine lv_aload_n hx hb d_Pr_openForZero_48 rfl (lv_at hl 5 rfl) ?_
  refine lv_iconst (v := 3) hx hb d_Pr_openForZero_49 (by decide) ?_
  refine va_lald hx hb hK hP 10 0 rfl rfl (vp_lit rfl) d_Pr_openForZero_50 ?_
  refine lv_topl (fun v_4 ev_4 => ?_)
  obtain rfl : v_4 = lN B1 := ev_4.trans hr3
  refine lv_lload hx hb d_Pr_openForZero_51 (lv_at hl 1 rfl) ?_
  have hPc := hP.sub (ws' := (gp_ws g0 mF mE P f1 k1 Q f2 k2 G)) [7, 8, 9] rfl
  have hKc := hK.sub (tys' := []) [] rfl
  refine va_calll (va_runV (As := [.long (lN (ckey tn kc kp)), .long (lN Z1), .long (lN B1), .long (lN C1)]) (rest := [.int 1, .ref cm]) ⟨hx, hb, hml, hown, hts⟩ (c_Gr_opened l H dC dI g0 mF mE P f1 k1 Q f2 k2 G (ckey tn kc kp) Z1 B1 C1 hPc hok (by omega) (by omega) (by omega) (by omega)) (cwV 4 hts (gw_V gk_457 gk_458 gk_459 gk_8 gk_460) rfl rfl rfl (by decide +kernel) ⟨Nat.le_of_ble_eq_true rfl, Nat.le_of_ble_eq_true rfl⟩) ⟨fun a U g mk q => ⟨q.1, q.2.1, va_K.moved (u := U) (U := U.calling g mk a) (Vm.Alike.refl U.vm) q.2.2⟩, va_recv hK hP (ci := 1) (q0 := 7) rfl rfl, fun U hU hW => ⟨rfl, hU, va_K.moved hW.alike hKc⟩⟩ rfl rfl hl.1 rfl (lv_room (Nat.le_of_ble_eq_true rfl)) d_Pr_openForZero_53 ⟨Nat.le_of_ble_eq_true rfl, Nat.le_of_ble_eq_true rfl⟩) hS (fun q _ h => h.elim) (fun q h => h.elim) (fun r53 u9 t9 H1 locs ht hvm hw hB hz1 hk1 hS => ?_)
  obtain rfl : H = H1 := hB.symm.trans ht
  have hw : r53 = lN ((ckey tn kc kp) ^ Z1 * B1 ^ ((Q - C1) % Q) % P) := hw
  subst hw
  refine va_last hx hb hK hP hD hS 1 0 rfl rfl (vp_lit rfl) d_Pr_openForZero_56 (fun H locs hP hD hS => ?_)
  have hfe : vp_updL (lF (updN cf 0 (G ^ Z1 * A1 ^ ((Q - C1) % Q) % P))) (1 : Int32).toNatClampNeg (lN ((ckey tn kc kp) ^ Z1 * B1 ^ ((Q - C1) % Q) % P)) = lF (updN (updN cf 0 (G ^ Z1 * A1 ^ ((Q - C1) % Q) % P)) 1 ((ckey tn kc kp) ^ Z1 * B1 ^ ((Q - C1) % Q) % P)) := lF_upd _ _ _
  have hP : va_P (dC, dI) classes [(pr0, .inr (5, [.ref h0, .ref cm])), (cm, .inl (cJ, 4, .inr (.inl (vp_updL (lF (updN cf 0 (G ^ Z1 * A1 ^ ((Q - C1) % Q) % P))) (1 : Int32).toNatClampNeg (lN ((ckey tn kc kp) ^ Z1 * B1 ^ ((Q - C1) % Q) % P)))))), (t0, .inr (4, [.ref ka, .ref aa, .ref ba, .ref sa, .ref g0, .int (nI tn), .int (nI kc), .int (nI bc), .int (nI shc), .long (lN kp), .long (lN shp), .long (lN pa), .long (lN pb), .int sht])), (ka, .inl (cJ, 4, .inr (.inl (lF ko)))), (aa, .inl (cJ, 64, .inr (.inl (lF ao)))), (ba, .inl (cJ, 64, .inr (.inl (lF bo)))), (sa, .inl (cJ, 4, .inr (.inl (lF so)))), (g0, .inr (1, [.ref mF, .ref mE, .long (lN G), .long (lN (G ^ (Q - 1) % P))])), (mF, .inr (0, [.long (lN P), .long (lN (P % 2 ^ 31)), .long (lN (P / 2 ^ 31)), .long (lN f1), .long (lN (2 ^ 62 % P)), .long (lN (2 ^ 124 % P)), .int (nI k1)])), (mE, .inr (0, [.long (lN Q), .long (lN (Q % 2 ^ 31)), .long (lN (Q / 2 ^ 31)), .long (lN f2), .long (lN (2 ^ 62 % Q)), .long (lN (2 ^ 124 % Q)), .int (nI k2)])), (ra, .inl (cJ, 8, .inr (.inl rw)))] H := hP
  have hD : va_D A [(pr0, .inr (5, [.ref h0, .ref cm])), (cm, .inl (cJ, 4, .inr (.inl (vp_updL (lF (updN cf 0 (G ^ Z1 * A1 ^ ((Q - C1) % Q) % P))) (1 : Int32).toNatClampNeg (lN ((ckey tn kc kp) ^ Z1 * B1 ^ ((Q - C1) % Q) % P)))))), (t0, .inr (4, [.ref ka, .ref aa, .ref ba, .ref sa, .ref g0, .int (nI tn), .int (nI kc), .int (nI bc), .int (nI shc), .long (lN kp), .long (lN shp), .long (lN pa), .long (lN pb), .int sht])), (ka, .inl (cJ, 4, .inr (.inl (lF ko)))), (aa, .inl (cJ, 64, .inr (.inl (lF ao)))), (ba, .inl (cJ, 64, .inr (.inl (lF bo)))), (sa, .inl (cJ, 4, .inr (.inl (lF so)))), (g0, .inr (1, [.ref mF, .ref mE, .long (lN G), .long (lN (G ^ (Q - 1) % P))])), (mF, .inr (0, [.long (lN P), .long (lN (P % 2 ^ 31)), .long (lN (P / 2 ^ 31)), .long (lN f1), .long (lN (2 ^ 62 % P)), .long (lN (2 ^ 124 % P)), .int (nI k1)])), (mE, .inr (0, [.long (lN Q), .long (lN (Q % 2 ^ 31)), .long (lN (Q / 2 ^ 31)), .long (lN f2), .long (lN (2 ^ 62 % Q)), .long (lN (2 ^ 124 % Q)), .int (nI k2)])), (ra, .inl (cJ, 8, .inr (.inl rw)))] := hD
  rw [hfe] at hP hD
  exact W.vret hx hb hr (fun t ht9 hW => ⟨⟨(), rfl, trivial, by rw [ht9]; exact hP, va_K.moved hW.alike hK, hD⟩, hS.F ht9⟩) hS.2.2 d_Pr_openForZero_57
abbrev b_Pr_openForOne : ByteArray := prog_7_method_11_code
abbrev y_Pr_openForOne : MethodName := ⟨"BallotBoard$Proofs", "openForOne", "(LBallotBoard$Tally;[J)V"⟩
abbrev w_Pr_openForOne : List Cond := .code y_Pr_openForOne b_Pr_openForOne 8 none :: gw
theorem d_Pr_openForOne_0 : decode b_Pr_openForOne 0 = .ok (.aload_n 1, 1) := by decide +kernel
theorem d_Pr_openForOne_1 : decode b_Pr_openForOne 1 = .ok (.invokevirtual 19, 3) := by decide +kernel
theorem d_Pr_openForOne_4 : decode b_Pr_openForOne 4 = .ok (.astore_n 3, 1) := by decide +kernel
theorem d_Pr_openForOne_5 : decode b_Pr_openForOne 5 = .ok (.aload_n 2, 1) := by decide +kernel
theorem d_Pr_openForOne_6 : decode b_Pr_openForOne 6 = .ok (.bipush 6, 2) := by decide +kernel
theorem d_Pr_openForOne_8 : decode b_Pr_openForOne 8 = .ok (.laload, 1) := by decide +kernel
theorem d_Pr_openForOne_9 : decode b_Pr_openForOne 9 = .ok (.lstore 4, 2) := by decide +kernel
theorem d_Pr_openForOne_11 : decode b_Pr_openForOne 11 = .ok (.aload_n 2, 1) := by decide +kernel
theorem d_Pr_openForOne_12 : decode b_Pr_openForOne 12 = .ok (.bipush 7, 2) := by decide +kernel
theorem d_Pr_openForOne_14 : decode b_Pr_openForOne 14 = .ok (.laload, 1) := by decide +kernel
theorem d_Pr_openForOne_15 : decode b_Pr_openForOne 15 = .ok (.lstore 6, 2) := by decide +kernel
theorem d_Pr_openForOne_17 : decode b_Pr_openForOne 17 = .ok (.aload_n 0, 1) := by decide +kernel
theorem d_Pr_openForOne_18 : decode b_Pr_openForOne 18 = .ok (.getfield 15, 3) := by decide +kernel
theorem d_Pr_openForOne_21 : decode b_Pr_openForOne 21 = .ok (.iconst 2, 1) := by decide +kernel
theorem d_Pr_openForOne_22 : decode b_Pr_openForOne 22 = .ok (.aload_n 3, 1) := by decide +kernel
theorem d_Pr_openForOne_23 : decode b_Pr_openForOne 23 = .ok (.aload_n 3, 1) := by decide +kernel
theorem d_Pr_openForOne_24 : decode b_Pr_openForOne 24 = .ok (.invokevirtual 54, 3) := by decide +kernel
theorem d_Pr_openForOne_27 : decode b_Pr_openForOne 27 = .ok (.lload 6, 2) := by decide +kernel
theorem d_Pr_openForOne_29 : decode b_Pr_openForOne 29 = .ok (.aload_n 2, 1) := by decide +kernel
theorem d_Pr_openForOne_30 : decode b_Pr_openForOne 30 = .ok (.iconst 2, 1) := by decide +kernel
theorem d_Pr_openForOne_31 : decode b_Pr_openForOne 31 = .ok (.laload, 1) := by decide +kernel
theorem d_Pr_openForOne_32 : decode b_Pr_openForOne 32 = .ok (.lload 4, 2) := by decide +kernel
theorem d_Pr_openForOne_34 : decode b_Pr_openForOne 34 = .ok (.invokevirtual 84, 3) := by decide +kernel
theorem d_Pr_openForOne_37 : decode b_Pr_openForOne 37 = .ok (.lastore, 1) := by decide +kernel
theorem d_Pr_openForOne_38 : decode b_Pr_openForOne 38 = .ok (.aload_n 0, 1) := by decide +kernel
theorem d_Pr_openForOne_39 : decode b_Pr_openForOne 39 = .ok (.getfield 15, 3) := by decide +kernel
theorem d_Pr_openForOne_42 : decode b_Pr_openForOne 42 = .ok (.iconst 3, 1) := by decide +kernel
theorem d_Pr_openForOne_43 : decode b_Pr_openForOne 43 = .ok (.aload_n 3, 1) := by decide +kernel
theorem d_Pr_openForOne_44 : decode b_Pr_openForOne 44 = .ok (.aload_n 1, 1) := by decide +kernel
theorem d_Pr_openForOne_45 : decode b_Pr_openForOne 45 = .ok (.invokevirtual 68, 3) := by decide +kernel
theorem d_Pr_openForOne_48 : decode b_Pr_openForOne 48 = .ok (.lload 6, 2) := by decide +kernel
theorem d_Pr_openForOne_50 : decode b_Pr_openForOne 50 = .ok (.aload_n 3, 1) := by decide +kernel
theorem d_Pr_openForOne_51 : decode b_Pr_openForOne 51 = .ok (.aload_n 2, 1) := by decide +kernel
theorem d_Pr_openForOne_52 : decode b_Pr_openForOne 52 = .ok (.iconst 3, 1) := by decide +kernel
theorem d_Pr_openForOne_53 : decode b_Pr_openForOne 53 = .ok (.laload, 1) := by decide +kernel
theorem d_Pr_openForOne_54 : decode b_Pr_openForOne 54 = .ok (.invokevirtual 92, 3) := by decide +kernel
theorem d_Pr_openForOne_57 : decode b_Pr_openForOne 57 = .ok (.lload 4, 2) := by decide +kernel
theorem d_Pr_openForOne_59 : decode b_Pr_openForOne 59 = .ok (.invokevirtual 84, 3) := by decide +kernel
theorem d_Pr_openForOne_62 : decode b_Pr_openForOne 62 = .ok (.lastore, 1) := by decide +kernel
theorem d_Pr_openForOne_63 : decode b_Pr_openForOne 63 = .ok (.return_, 1) := by decide +kernel
set_option maxHeartbeats 8000000 in
set_option maxRecDepth 100000 in
theorem c_Pr_openForOne (l : Launch) (dC : Nat → ClassId) (dI : Nat → Nat → Nat) (cJ cI : ClassId) (sz : Nat) (pr0 h0 cm : Nat) (cf : Nat → Nat) (t0 ka aa ba sa : Nat) (ko ao bo so : Nat → Nat) (tn kc bc shc kp shp pa pb : Nat) (sht : Int32) (g0 mF mE P f1 k1 Q f2 k2 G : Nat) (ra : Nat) (rw : Nat → Int64) (A1 B1 D1 Y1 : Nat) (hok : gp_ok P f1 k1 Q f2 k2 G) (htn : tn ≤ 4) (hkc : kc ≤ 4) (hkp : kp < P) (hr2 : rw 2 = lN A1) (hr3 : rw 3 = lN B1) (hr6 : rw 6 = lN D1) (hr7 : rw 7 = lN Y1) (hA9 : A1 < P) (hB9 : B1 < P) (hD9 : D1 < Q) (hY9 : Y1 < Q) : Met l y_Pr_openForOne w_Pr_openForOne ({ frames := 3, cells := 0, slots := 0, locals := 103 }) (va_Pc [.ref pr0, .ref t0, .ref ra] (fun U => U.heap.size = sz ∧ va_P (dC, dI) classes (pr_ws pr0 h0 cm cJ cf ++ (tl_ws t0 ka aa ba sa (.ref g0) cJ ko ao bo so tn kc bc shc kp shp pa pb sht ++ (gp_ws g0 mF mE P f1 k1 Q f2 k2 G ++ rw_ws ra cJ rw))) U.heap ∧ va_K (dC, dI) classes [(cJ, .long), (cI, .int)] U ∧ va_D (fun _ => True) (pr_ws pr0 h0 cm cJ cf ++ (tl_ws t0 ka aa ba sa (.ref g0) cJ ko ao bo so tn kc bc shc kp shp pa pb sht ++ (gp_ws g0 mF mE P f1 k1 Q f2 k2 G ++ rw_ws ra cJ rw))))) (va_Qv (fun _ : Unit => True) (fun _ t => va_P (dC, dI) classes (pr_ws pr0 h0 cm cJ (updN (updN cf 2 (G ^ Y1 * A1 ^ ((Q - D1) % Q) % P)) 3 ((ckey tn kc kp) ^ Y1 * (B1 * (G ^ (Q - 1) % P) % P) ^ ((Q - D1) % Q) % P)) ++ (tl_ws t0 ka aa ba sa (.ref g0) cJ ko ao bo so tn kc bc shc kp shp pa pb sht ++ (gp_ws g0 mF mE P f1 k1 Q f2 k2 G ++ rw_ws ra cJ rw))) t.heap ∧ va_K (dC, dI) classes [(cJ, .long), (cI, .int)] t ∧ va_D (va_A (pr_ws pr0 h0 cm cJ cf ++ (tl_ws t0 ka aa ba sa (.ref g0) cJ ko ao bo so tn kc bc shc kp shp pa pb sht ++ (gp_ws g0 mF mE P f1 k1 Q f2 k2 G ++ rw_ws ra cJ rw))) sz) (pr_ws pr0 h0 cm cJ (updN (updN cf 2 (G ^ Y1 * A1 ^ ((Q - D1) % Q) % P)) 3 ((ckey tn kc kp) ^ Y1 * (B1 * (G ^ (Q - 1) % P) % P) ^ ((Q - D1) % Q) % P)) ++ (tl_ws t0 ka aa ba sa (.ref g0) cJ ko ao bo so tn kc bc shc kp shp pa pb sht ++ (gp_ws g0 mF mE P f1 k1 Q f2 k2 G ++ rw_ws ra cJ rw)))) (va_A (pr_ws pr0 h0 cm cJ cf ++ (tl_ws t0 ka aa ba sa (.ref g0) cJ ko ao bo so tn kc bc shc kp shp pa pb sht ++ (gp_ws g0 mF mE P f1 k1 Q f2 k2 G ++ rw_ws ra cJ rw))) sz)) 0 0 (va_A (pr_ws pr0 h0 cm cJ cf ++ (tl_ws t0 ka aa ba sa (.ref g0) cJ ko ao bo so tn kc bc shc kp shp pa pb sht ++ (gp_ws g0 mF mE P f1 k1 Q f2 k2 G ++ rw_ws ra cJ rw))) sz) := by
  refine Met.ofW (cc := b_Pr_openForOne) (maxL := 8) (ret := none) (by decide) rfl ?_
  intro p e s m args below meth c s₁ Bd hml hv
  obtain ⟨rfl, hsz, hP, hK, hD0⟩ := hv
  have hx := Bd.exec
  have hb := Bd.bytes
  have hr := Bd.returns
  have hts := atoms_spec (ws := w_Pr_openForOne) Bd.pre
  have hown : s.vm.findClass "BallotBoard$Proofs" = some m.cls := findClass_of_methodNamed Bd.named
  have hlocks := Bd.notSynchronized
  subst hsz
  have hD := hD0.self (sz := s.heap.size)
  generalize hAe : va_A (pr_ws pr0 h0 cm cJ cf ++ (tl_ws t0 ka aa ba sa (.ref g0) cJ ko ao bo so tn kc bc shc kp shp pa pb sht ++ (gp_ws g0 mF mE P f1 k1 Q f2 k2 G ++ rw_ws ra cJ rw))) s.heap.size = A at hD ⊢
  have hA : ∀ q : Nat, s.heap.size ≤ q → A q := fun q h => by rw [← hAe]; exact Or.inr h
  have hS : va_S A s.heap s.heap [] := va_S.rf
  have hl := lv_entry ([.ref pr0, .ref t0, .ref ra]) (n := 8) (Nat.le_of_ble_eq_true rfl)
  rw [lg_entry_eq]
  generalize (lg_sl ([.ref pr0, .ref t0, .ref ra]) ++ List.replicate (8 - (lg_sl ([.ref pr0, .ref t0, .ref ra])).length) Slot.unset).toArray = ls at hl ⊢
  have hl : lv_has ls 8 [(0, .ref pr0), (1, .ref t0), (2, .ref ra)] := hl
  obtain ⟨hokF, hokE, hPQ, hG2, hGP, hGQ⟩ := id hok
  obtain ⟨hoF, h3F, h61F, _, _, hk61F, hNkF⟩ := id hokF
  obtain ⟨hoE, h3E, h61E, _, _, hk61E, hNkE⟩ := id hokE
  have hck := ckey_lt (tn := tn) (kc := kc) hkp
  refine lv_aload_n hx hb d_Pr_openForOne_0 rfl (lv_at hl 1 rfl) ?_
  have hPc := hP.sub (ws' := (tl_ws t0 ka aa ba sa (.ref g0) cJ ko ao bo so tn kc bc shc kp shp pa pb sht)) [2, 3, 4, 5, 6] rfl
  have hKc := hK.sub (tys' := [(cJ, .long), (cI, .int)]) [0, 1] rfl
  refine va_callr (va_runV (As := []) (rest := []) ⟨hx, hb, hml, hown, hts⟩ (c_Ta_group l s.heap dC dI cJ cI t0 ka aa ba sa g0 ko ao bo so tn kc bc shc kp shp pa pb sht hPc) (cwV 0 hts (gw_V gk_435 gk_436 gk_437 gk_5 gk_438) rfl rfl rfl (by decide +kernel) ⟨Nat.le_of_ble_eq_true rfl, Nat.le_of_ble_eq_true rfl⟩) ⟨fun a U g mk q => ⟨q.1, q.2.1, va_K.moved (u := U) (U := U.calling g mk a) (Vm.Alike.refl U.vm) q.2.2⟩, va_recv hK hP (ci := 4) (q0 := 2) rfl rfl, fun U hU hW => ⟨rfl, hU, va_K.moved hW.alike hKc⟩⟩ rfl rfl hl.1 rfl (lv_room (Nat.le_of_ble_eq_true rfl)) d_Pr_openForOne_1 ⟨Nat.le_of_ble_eq_true rfl, Nat.le_of_ble_eq_true rfl⟩) hS (fun q _ h => h.elim) (fun q h => h.elim) (fun u9 r1 t9 H1 locs ht hvm hw hB hz1 hk1 hS => ?_)
  obtain ⟨hra, hB⟩ := hB
  have hra := hra.symm
  subst hra
  obtain rfl : s.heap = H1 := hB.symm.trans ht
  refine lv_astore_n (lv' := [(3, .ref g0), (0, .ref pr0), (1, .ref t0), (2, .ref ra)]) hx hb d_Pr_openForOne_4 rfl hl (by decide) rfl (fun ls hl => ?_)
  refine lv_aload_n hx hb d_Pr_openForOne_5 rfl (lv_at hl 3 rfl) ?_
  refine lv_bipush (v := 6) hx hb d_Pr_openForOne_6 (by decide) ?_
  refine va_lald hx hb hK hP 10 0 rfl rfl (vp_lit rfl) d_Pr_openForOne_8 ?_
  refine lv_topl (fun v_1 ev_1 => ?_)
  obtain rfl : v_1 = lN D1 := ev_1.trans hr6
  refine lv_lstore (lv' := [(4, .long (lN D1)), (3, .ref g0), (0, .ref pr0), (1, .ref t0), (2, .ref ra)]) hx hb d_Pr_openForOne_9 hl (by decide) rfl (fun ls hl => ?_)
  refine lv_aload_n hx hb d_Pr_openForOne_11 rfl (lv_at hl 4 rfl) ?_
  refine lv_bipush (v := 7) hx hb d_Pr_openForOne_12 (by decide) ?_
  refine va_lald hx hb hK hP 10 0 rfl rfl (vp_lit rfl) d_Pr_openForOne_14 ?_
  refine lv_topl (fun v_2 ev_2 => ?_)
  obtain rfl : v_2 = lN Y1 := ev_2.trans hr7
  refine lv_lstore (lv' := [(6, .long (lN Y1)), (4, .long (lN D1)), (3, .ref g0), (0, .ref pr0), (1, .ref t0), (2, .ref ra)]) hx hb d_Pr_openForOne_15 hl (by decide) rfl (fun ls hl => ?_)
  refine lv_aload_n hx hb d_Pr_openForOne_17 rfl (lv_at hl 3 rfl) ?_
  refine va_get (D := (dC, dI)) (ci := 5) (v := .ref cm) (C := "BallotBoard$Proofs") (T := F_Pr) (N := 2) hx hb hts (fun w9 h9 => List.mem_cons_of_mem _ (i_Pr w9 h9)) hown hK hP 0 rfl rfl 1 (by decide) (hts _ (List.mem_cons_of_mem _ gk_80)) (fun _ h9 => h9) rfl d_Pr_openForOne_18 ?_
  refine lv_iconst (v := 2) hx hb d_Pr_openForOne_21 (by decide) ?_
  refine lv_aload_n hx hb d_Pr_openForOne_22 rfl (lv_at hl 2 rfl) ?_
  refine lv_aload_n hx hb d_Pr_openForOne_23 rfl (lv_at hl 2 rfl) ?_
  have hPc := hP.sub (ws' := (gp_ws g0 mF mE P f1 k1 Q f2 k2 G)) [7, 8, 9] rfl
  have hKc := hK.sub (tys' := []) [] rfl
  refine va_calll (va_runV (As := []) (rest := [.ref g0, .int 2, .ref cm]) ⟨hx, hb, hml, hown, hts⟩ (c_Gr_g l s.heap dC dI g0 mF mE P f1 k1 Q f2 k2 G  hPc hok ) (cwV 0 hts (gw_V gk_453 gk_454 gk_455 gk_8 gk_456) rfl rfl rfl (by decide +kernel) ⟨Nat.le_of_ble_eq_true rfl, Nat.le_of_ble_eq_true rfl⟩) ⟨fun a U g mk q => ⟨q.1, q.2.1, va_K.moved (u := U) (U := U.calling g mk a) (Vm.Alike.refl U.vm) q.2.2⟩, va_recv hK hP (ci := 1) (q0 := 7) rfl rfl, fun U hU hW => ⟨rfl, hU, va_K.moved hW.alike hKc⟩⟩ rfl rfl hl.1 rfl (lv_room (Nat.le_of_ble_eq_true rfl)) d_Pr_openForOne_24 ⟨Nat.le_of_ble_eq_true rfl, Nat.le_of_ble_eq_true rfl⟩) hS (fun q _ h => h.elim) (fun q h => h.elim) (fun r24 u9 t9 H1 locs ht hvm hw hB hz1 hk1 hS => ?_)
  obtain rfl : s.heap = H1 := hB.symm.trans ht
  have hw : r24 = lN G := hw
  subst hw
  refine lv_lload hx hb d_Pr_openForOne_27 (lv_at hl 0 rfl) ?_
  refine lv_aload_n hx hb d_Pr_openForOne_29 rfl (lv_at hl 5 rfl) ?_
  refine lv_iconst (v := 2) hx hb d_Pr_openForOne_30 (by decide) ?_
  refine va_lald hx hb hK hP 10 0 rfl rfl (vp_lit rfl) d_Pr_openForOne_31 ?_
  refine lv_topl (fun v_3 ev_3 => ?_)
  obtain rfl : v_3 = lN A1 := ev_3.trans hr2
  refine lv_lload hx hb d_Pr_openForOne_32 (lv_at hl 1 rfl) ?_
  have hPc := hP.sub (ws' := (gp_ws g0 mF mE P f1 k1 Q f2 k2 G)) [7, 8, 9] rfl
  have hKc := hK.sub (tys' := []) [] rfl
  refine va_calll (va_runV (As := [.long (lN G), .long (lN Y1), .long (lN A1), .long (lN D1)]) (rest := [.int 2, .ref cm]) ⟨hx, hb, hml, hown, hts⟩ (c_Gr_opened l s.heap dC dI g0 mF mE P f1 k1 Q f2 k2 G G Y1 A1 D1 hPc hok (by omega) (by omega) (by omega) (by omega)) (cwV 4 hts (gw_V gk_457 gk_458 gk_459 gk_8 gk_460) rfl rfl rfl (by decide +kernel) ⟨Nat.le_of_ble_eq_true rfl, Nat.le_of_ble_eq_true rfl⟩) ⟨fun a U g mk q => ⟨q.1, q.2.1, va_K.moved (u := U) (U := U.calling g mk a) (Vm.Alike.refl U.vm) q.2.2⟩, va_recv hK hP (ci := 1) (q0 := 7) rfl rfl, fun U hU hW => ⟨rfl, hU, va_K.moved hW.alike hKc⟩⟩ rfl rfl hl.1 rfl (lv_room (Nat.le_of_ble_eq_true rfl)) d_Pr_openForOne_34 ⟨Nat.le_of_ble_eq_true rfl, Nat.le_of_ble_eq_true rfl⟩) hS (fun q _ h => h.elim) (fun q h => h.elim) (fun r34 u9 t9 H1 locs ht hvm hw hB hz1 hk1 hS => ?_)
  obtain rfl : s.heap = H1 := hB.symm.trans ht
  have hw : r34 = lN (G ^ Y1 * A1 ^ ((Q - D1) % Q) % P) := hw
  subst hw
  refine va_last hx hb hK hP hD hS 1 0 rfl rfl (vp_lit rfl) d_Pr_openForOne_37 (fun H locs hP hD hS => ?_)
  have hfe : vp_updL (lF cf) (2 : Int32).toNatClampNeg (lN (G ^ Y1 * A1 ^ ((Q - D1) % Q) % P)) = lF (updN cf 2 (G ^ Y1 * A1 ^ ((Q - D1) % Q) % P)) := lF_upd _ _ _
  have hP : va_P (dC, dI) classes [(pr0, .inr (5, [.ref h0, .ref cm])), (cm, .inl (cJ, 4, .inr (.inl (vp_updL (lF cf) (2 : Int32).toNatClampNeg (lN (G ^ Y1 * A1 ^ ((Q - D1) % Q) % P)))))), (t0, .inr (4, [.ref ka, .ref aa, .ref ba, .ref sa, .ref g0, .int (nI tn), .int (nI kc), .int (nI bc), .int (nI shc), .long (lN kp), .long (lN shp), .long (lN pa), .long (lN pb), .int sht])), (ka, .inl (cJ, 4, .inr (.inl (lF ko)))), (aa, .inl (cJ, 64, .inr (.inl (lF ao)))), (ba, .inl (cJ, 64, .inr (.inl (lF bo)))), (sa, .inl (cJ, 4, .inr (.inl (lF so)))), (g0, .inr (1, [.ref mF, .ref mE, .long (lN G), .long (lN (G ^ (Q - 1) % P))])), (mF, .inr (0, [.long (lN P), .long (lN (P % 2 ^ 31)), .long (lN (P / 2 ^ 31)), .long (lN f1), .long (lN (2 ^ 62 % P)), .long (lN (2 ^ 124 % P)), .int (nI k1)])), (mE, .inr (0, [.long (lN Q), .long (lN (Q % 2 ^ 31)), .long (lN (Q / 2 ^ 31)), .long (lN f2), .long (lN (2 ^ 62 % Q)), .long (lN (2 ^ 124 % Q)), .int (nI k2)])), (ra, .inl (cJ, 8, .inr (.inl rw)))] H := hP
  have hD : va_D A [(pr0, .inr (5, [.ref h0, .ref cm])), (cm, .inl (cJ, 4, .inr (.inl (vp_updL (lF cf) (2 : Int32).toNatClampNeg (lN (G ^ Y1 * A1 ^ ((Q - D1) % Q) % P)))))), (t0, .inr (4, [.ref ka, .ref aa, .ref ba, .ref sa, .ref g0, .int (nI tn), .int (nI kc), .int (nI bc), .int (nI shc), .long (lN kp), .long (lN shp), .long (lN pa), .long (lN pb), .int sht])), (ka, .inl (cJ, 4, .inr (.inl (lF ko)))), (aa, .inl (cJ, 64, .inr (.inl (lF ao)))), (ba, .inl (cJ, 64, .inr (.inl (lF bo)))), (sa, .inl (cJ, 4, .inr (.inl (lF so)))), (g0, .inr (1, [.ref mF, .ref mE, .long (lN G), .long (lN (G ^ (Q - 1) % P))])), (mF, .inr (0, [.long (lN P), .long (lN (P % 2 ^ 31)), .long (lN (P / 2 ^ 31)), .long (lN f1), .long (lN (2 ^ 62 % P)), .long (lN (2 ^ 124 % P)), .int (nI k1)])), (mE, .inr (0, [.long (lN Q), .long (lN (Q % 2 ^ 31)), .long (lN (Q / 2 ^ 31)), .long (lN f2), .long (lN (2 ^ 62 % Q)), .long (lN (2 ^ 124 % Q)), .int (nI k2)])), (ra, .inl (cJ, 8, .inr (.inl rw)))] := hD
  rw [hfe] at hP hD
  refine lv_aload_n hx hb d_Pr_openForOne_38 rfl (lv_at hl 3 rfl) ?_
  refine va_get (D := (dC, dI)) (ci := 5) (v := .ref cm) (C := "BallotBoard$Proofs") (T := F_Pr) (N := 2) hx hb hts (fun w9 h9 => List.mem_cons_of_mem _ (i_Pr w9 h9)) hown hK hP 0 rfl rfl 1 (by decide) (hts _ (List.mem_cons_of_mem _ gk_80)) (fun _ h9 => h9) rfl d_Pr_openForOne_39 ?_
  refine lv_iconst (v := 3) hx hb d_Pr_openForOne_42 (by decide) ?_
  refine lv_aload_n hx hb d_Pr_openForOne_43 rfl (lv_at hl 2 rfl) ?_
  refine lv_aload_n hx hb d_Pr_openForOne_44 rfl (lv_at hl 4 rfl) ?_
  have hPc := hP.sub (ws' := (tl_ws t0 ka aa ba sa (.ref g0) cJ ko ao bo so tn kc bc shc kp shp pa pb sht)) [2, 3, 4, 5, 6] rfl
  have hKc := hK.sub (tys' := [(cJ, .long), (cI, .int)]) [0, 1] rfl
  refine va_calll (va_runV (As := []) (rest := [.ref g0, .int 3, .ref cm]) ⟨hx, hb, hml, hown, hts⟩ (c_Ta_commonKey l H dC dI cJ cI t0 ka aa ba sa (.ref g0) ko ao bo so tn kc bc shc kp shp pa pb sht  hPc (by omega) (by omega)) (cwV 0 hts (gw_V gk_469 gk_470 gk_471 gk_5 gk_472) rfl rfl rfl (by decide +kernel) ⟨Nat.le_of_ble_eq_true rfl, Nat.le_of_ble_eq_true rfl⟩) ⟨fun a U g mk q => ⟨q.1, q.2.1, va_K.moved (u := U) (U := U.calling g mk a) (Vm.Alike.refl U.vm) q.2.2⟩, va_recv hK hP (ci := 4) (q0 := 2) rfl rfl, fun U hU hW => ⟨rfl, hU, va_K.moved hW.alike hKc⟩⟩ rfl rfl hl.1 rfl (lv_room (Nat.le_of_ble_eq_true rfl)) d_Pr_openForOne_45 ⟨Nat.le_of_ble_eq_true rfl, Nat.le_of_ble_eq_true rfl⟩) hS (fun q _ h => h.elim) (fun q h => h.elim) (fun r45 u9 t9 H1 locs ht hvm hw hB hz1 hk1 hS => ?_)
  obtain rfl : H = H1 := hB.symm.trans ht
  have hw : r45 = lN (ckey tn kc kp) := hw
  subst hw
  refine lv_lload hx hb d_Pr_openForOne_48 (lv_at hl 0 rfl) ?_
  refine lv_aload_n hx hb d_Pr_openForOne_50 rfl (lv_at hl 2 rfl) ?_
  refine lv_aload_n hx hb d_Pr_openForOne_51 rfl (lv_at hl 5 rfl) ?_
  refine lv_iconst (v := 3) hx hb d_Pr_openForOne_52 (by decide) ?_
  refine va_lald hx hb hK hP 10 0 rfl rfl (vp_lit rfl) d_Pr_openForOne_53 ?_
  refine lv_topl (fun v_4 ev_4 => ?_)
  obtain rfl : v_4 = lN B1 := ev_4.trans hr3
  have hPc := hP.sub (ws' := (gp_ws g0 mF mE P f1 k1 Q f2 k2 G)) [7, 8, 9] rfl
  have hKc := hK.sub (tys' := []) [] rfl
  refine va_calll (va_runV (As := [.long (lN B1)]) (rest := [.long (lN Y1), .long (lN (ckey tn kc kp)), .ref g0, .int 3, .ref cm]) ⟨hx, hb, hml, hown, hts⟩ (c_Gr_overG l H dC dI g0 mF mE P f1 k1 Q f2 k2 G B1 hPc hok (by omega)) (cwV 1 hts (gw_V gk_481 gk_482 gk_483 gk_8 gk_484) rfl rfl rfl (by decide +kernel) ⟨Nat.le_of_ble_eq_true rfl, Nat.le_of_ble_eq_true rfl⟩) ⟨fun a U g mk q => ⟨q.1, q.2.1, va_K.moved (u := U) (U := U.calling g mk a) (Vm.Alike.refl U.vm) q.2.2⟩, va_recv hK hP (ci := 1) (q0 := 7) rfl rfl, fun U hU hW => ⟨rfl, hU, va_K.moved hW.alike hKc⟩⟩ rfl rfl hl.1 rfl (lv_room (Nat.le_of_ble_eq_true rfl)) d_Pr_openForOne_54 ⟨Nat.le_of_ble_eq_true rfl, Nat.le_of_ble_eq_true rfl⟩) hS (fun q _ h => h.elim) (fun q h => h.elim) (fun r54 u9 t9 H1 locs ht hvm hw hB hz1 hk1 hS => ?_)
  obtain rfl : H = H1 := hB.symm.trans ht
  have hw : r54 = lN (B1 * (G ^ (Q - 1) % P) % P) := hw
  subst hw
  refine lv_lload hx hb d_Pr_openForOne_57 (lv_at hl 1 rfl) ?_
  have hPc := hP.sub (ws' := (gp_ws g0 mF mE P f1 k1 Q f2 k2 G)) [7, 8, 9] rfl
  have hKc := hK.sub (tys' := []) [] rfl
  refine va_calll (va_runV (As := [.long (lN (ckey tn kc kp)), .long (lN Y1), .long (lN (B1 * (G ^ (Q - 1) % P) % P)), .long (lN D1)]) (rest := [.int 3, .ref cm]) ⟨hx, hb, hml, hown, hts⟩ (c_Gr_opened l H dC dI g0 mF mE P f1 k1 Q f2 k2 G (ckey tn kc kp) Y1 (B1 * (G ^ (Q - 1) % P) % P) D1 hPc hok hck (by omega) (Nat.mod_lt _ (by omega)) (by omega)) (cwV 4 hts (gw_V gk_457 gk_458 gk_459 gk_8 gk_460) rfl rfl rfl (by decide +kernel) ⟨Nat.le_of_ble_eq_true rfl, Nat.le_of_ble_eq_true rfl⟩) ⟨fun a U g mk q => ⟨q.1, q.2.1, va_K.moved (u := U) (U := U.calling g mk a) (Vm.Alike.refl U.vm) q.2.2⟩, va_recv hK hP (ci := 1) (q0 := 7) rfl rfl, fun U hU hW => ⟨rfl, hU, va_K.moved hW.alike hKc⟩⟩ rfl rfl hl.1 rfl (lv_room (Nat.le_of_ble_eq_true rfl)) d_Pr_openForOne_59 ⟨Nat.le_of_ble_eq_true rfl, Nat.le_of_ble_eq_true rfl⟩) hS (fun q _ h => h.elim) (fun q h => h.elim) (fun r59 u9 t9 H1 locs ht hvm hw hB hz1 hk1 hS => ?_)
  obtain rfl : H = H1 := hB.symm.trans ht
  have hw : r59 = lN ((ckey tn kc kp) ^ Y1 * (B1 * (G ^ (Q - 1) % P) % P) ^ ((Q - D1) % Q) % P) := hw
  subst hw
  refine va_last hx hb hK hP hD hS 1 0 rfl rfl (vp_lit rfl) d_Pr_openForOne_62 (fun H locs hP hD hS => ?_)
  have hfe : vp_updL (lF (updN cf 2 (G ^ Y1 * A1 ^ ((Q - D1) % Q) % P))) (3 : Int32).toNatClampNeg (lN ((ckey tn kc kp) ^ Y1 * (B1 * (G ^ (Q - 1) % P) % P) ^ ((Q - D1) % Q) % P)) = lF (updN (updN cf 2 (G ^ Y1 * A1 ^ ((Q - D1) % Q) % P)) 3 ((ckey tn kc kp) ^ Y1 * (B1 * (G ^ (Q - 1) % P) % P) ^ ((Q - D1) % Q) % P)) := lF_upd _ _ _
  have hP : va_P (dC, dI) classes [(pr0, .inr (5, [.ref h0, .ref cm])), (cm, .inl (cJ, 4, .inr (.inl (vp_updL (lF (updN cf 2 (G ^ Y1 * A1 ^ ((Q - D1) % Q) % P))) (3 : Int32).toNatClampNeg (lN ((ckey tn kc kp) ^ Y1 * (B1 * (G ^ (Q - 1) % P) % P) ^ ((Q - D1) % Q) % P)))))), (t0, .inr (4, [.ref ka, .ref aa, .ref ba, .ref sa, .ref g0, .int (nI tn), .int (nI kc), .int (nI bc), .int (nI shc), .long (lN kp), .long (lN shp), .long (lN pa), .long (lN pb), .int sht])), (ka, .inl (cJ, 4, .inr (.inl (lF ko)))), (aa, .inl (cJ, 64, .inr (.inl (lF ao)))), (ba, .inl (cJ, 64, .inr (.inl (lF bo)))), (sa, .inl (cJ, 4, .inr (.inl (lF so)))), (g0, .inr (1, [.ref mF, .ref mE, .long (lN G), .long (lN (G ^ (Q - 1) % P))])), (mF, .inr (0, [.long (lN P), .long (lN (P % 2 ^ 31)), .long (lN (P / 2 ^ 31)), .long (lN f1), .long (lN (2 ^ 62 % P)), .long (lN (2 ^ 124 % P)), .int (nI k1)])), (mE, .inr (0, [.long (lN Q), .long (lN (Q % 2 ^ 31)), .long (lN (Q / 2 ^ 31)), .long (lN f2), .long (lN (2 ^ 62 % Q)), .long (lN (2 ^ 124 % Q)), .int (nI k2)])), (ra, .inl (cJ, 8, .inr (.inl rw)))] H := hP
  have hD : va_D A [(pr0, .inr (5, [.ref h0, .ref cm])), (cm, .inl (cJ, 4, .inr (.inl (vp_updL (lF (updN cf 2 (G ^ Y1 * A1 ^ ((Q - D1) % Q) % P))) (3 : Int32).toNatClampNeg (lN ((ckey tn kc kp) ^ Y1 * (B1 * (G ^ (Q - 1) % P) % P) ^ ((Q - D1) % Q) % P)))))), (t0, .inr (4, [.ref ka, .ref aa, .ref ba, .ref sa, .ref g0, .int (nI tn), .int (nI kc), .int (nI bc), .int (nI shc), .long (lN kp), .long (lN shp), .long (lN pa), .long (lN pb), .int sht])), (ka, .inl (cJ, 4, .inr (.inl (lF ko)))), (aa, .inl (cJ, 64, .inr (.inl (lF ao)))), (ba, .inl (cJ, 64, .inr (.inl (lF bo)))), (sa, .inl (cJ, 4, .inr (.inl (lF so)))), (g0, .inr (1, [.ref mF, .ref mE, .long (lN G), .long (lN (G ^ (Q - 1) % P))])), (mF, .inr (0, [.long (lN P), .long (lN (P % 2 ^ 31)), .long (lN (P / 2 ^ 31)), .long (lN f1), .long (lN (2 ^ 62 % P)), .long (lN (2 ^ 124 % P)), .int (nI k1)])), (mE, .inr (0, [.long (lN Q), .long (lN (Q % 2 ^ 31)), .long (lN (Q / 2 ^ 31)), .long (lN f2), .long (lN (2 ^ 62 % Q)), .long (lN (2 ^ 124 % Q)), .int (nI k2)])), (ra, .inl (cJ, 8, .inr (.inl rw)))] := hD
  rw [hfe] at hP hD
  exact W.vret hx hb hr (fun t ht9 hW => ⟨⟨(), rfl, trivial, by rw [ht9]; exact hP, va_K.moved hW.alike hK, hD⟩, hS.F ht9⟩) hS.2.2 d_Pr_openForOne_63
abbrev b_Pr_openHead : ByteArray := prog_7_method_9_code
abbrev y_Pr_openHead : MethodName := ⟨"BallotBoard$Proofs", "openHead", "(LBallotBoard$Tally;[J)V"⟩
abbrev w_Pr_openHead : List Cond := .code y_Pr_openHead b_Pr_openHead 8 none :: gw
theorem d_Pr_openHead_0 : decode b_Pr_openHead 0 = .ok (.aload_n 1, 1) := by decide +kernel
theorem d_Pr_openHead_1 : decode b_Pr_openHead 1 = .ok (.invokevirtual 19, 3) := by decide +kernel
theorem d_Pr_openHead_4 : decode b_Pr_openHead 4 = .ok (.astore_n 3, 1) := by decide +kernel
theorem d_Pr_openHead_5 : decode b_Pr_openHead 5 = .ok (.aload_n 2, 1) := by decide +kernel
theorem d_Pr_openHead_6 : decode b_Pr_openHead 6 = .ok (.iconst 3, 1) := by decide +kernel
theorem d_Pr_openHead_7 : decode b_Pr_openHead 7 = .ok (.laload, 1) := by decide +kernel
theorem d_Pr_openHead_8 : decode b_Pr_openHead 8 = .ok (.lstore 4, 2) := by decide +kernel
theorem d_Pr_openHead_10 : decode b_Pr_openHead 10 = .ok (.aload_n 2, 1) := by decide +kernel
theorem d_Pr_openHead_11 : decode b_Pr_openHead 11 = .ok (.iconst 4, 1) := by decide +kernel
theorem d_Pr_openHead_12 : decode b_Pr_openHead 12 = .ok (.laload, 1) := by decide +kernel
theorem d_Pr_openHead_13 : decode b_Pr_openHead 13 = .ok (.lstore 6, 2) := by decide +kernel
theorem d_Pr_openHead_15 : decode b_Pr_openHead 15 = .ok (.aload_n 2, 1) := by decide +kernel
theorem d_Pr_openHead_16 : decode b_Pr_openHead 16 = .ok (.iconst 0, 1) := by decide +kernel
theorem d_Pr_openHead_17 : decode b_Pr_openHead 17 = .ok (.laload, 1) := by decide +kernel
theorem d_Pr_openHead_18 : decode b_Pr_openHead 18 = .ok (.lconst 1, 1) := by decide +kernel
theorem d_Pr_openHead_19 : decode b_Pr_openHead 19 = .ok (.lcmp, 1) := by decide +kernel
theorem d_Pr_openHead_20 : decode b_Pr_openHead 20 = .ok (.ifCond .ne 27, 3) := by decide +kernel
theorem d_Pr_openHead_23 : decode b_Pr_openHead 23 = .ok (.aload_n 0, 1) := by decide +kernel
theorem d_Pr_openHead_24 : decode b_Pr_openHead 24 = .ok (.getfield 15, 3) := by decide +kernel
theorem d_Pr_openHead_27 : decode b_Pr_openHead 27 = .ok (.iconst 0, 1) := by decide +kernel
theorem d_Pr_openHead_28 : decode b_Pr_openHead 28 = .ok (.aload_n 3, 1) := by decide +kernel
theorem d_Pr_openHead_29 : decode b_Pr_openHead 29 = .ok (.aload_n 3, 1) := by decide +kernel
theorem d_Pr_openHead_30 : decode b_Pr_openHead 30 = .ok (.invokevirtual 54, 3) := by decide +kernel
theorem d_Pr_openHead_33 : decode b_Pr_openHead 33 = .ok (.lload 6, 2) := by decide +kernel
theorem d_Pr_openHead_35 : decode b_Pr_openHead 35 = .ok (.aload_n 2, 1) := by decide +kernel
theorem d_Pr_openHead_36 : decode b_Pr_openHead 36 = .ok (.iconst 2, 1) := by decide +kernel
theorem d_Pr_openHead_37 : decode b_Pr_openHead 37 = .ok (.laload, 1) := by decide +kernel
theorem d_Pr_openHead_38 : decode b_Pr_openHead 38 = .ok (.lload 4, 2) := by decide +kernel
theorem d_Pr_openHead_40 : decode b_Pr_openHead 40 = .ok (.invokevirtual 84, 3) := by decide +kernel
theorem d_Pr_openHead_43 : decode b_Pr_openHead 43 = .ok (.lastore, 1) := by decide +kernel
theorem d_Pr_openHead_44 : decode b_Pr_openHead 44 = .ok (.goto 50, 3) := by decide +kernel
theorem d_Pr_openHead_47 : decode b_Pr_openHead 47 = .ok (.aload_n 0, 1) := by decide +kernel
theorem d_Pr_openHead_48 : decode b_Pr_openHead 48 = .ok (.getfield 15, 3) := by decide +kernel
theorem d_Pr_openHead_51 : decode b_Pr_openHead 51 = .ok (.iconst 0, 1) := by decide +kernel
theorem d_Pr_openHead_52 : decode b_Pr_openHead 52 = .ok (.aload_n 3, 1) := by decide +kernel
theorem d_Pr_openHead_53 : decode b_Pr_openHead 53 = .ok (.aload_n 3, 1) := by decide +kernel
theorem d_Pr_openHead_54 : decode b_Pr_openHead 54 = .ok (.invokevirtual 54, 3) := by decide +kernel
theorem d_Pr_openHead_57 : decode b_Pr_openHead 57 = .ok (.lload 6, 2) := by decide +kernel
theorem d_Pr_openHead_59 : decode b_Pr_openHead 59 = .ok (.aload_n 1, 1) := by decide +kernel
theorem d_Pr_openHead_60 : decode b_Pr_openHead 60 = .ok (.aload_n 2, 1) := by decide +kernel
theorem d_Pr_openHead_61 : decode b_Pr_openHead 61 = .ok (.iconst 1, 1) := by decide +kernel
theorem d_Pr_openHead_62 : decode b_Pr_openHead 62 = .ok (.laload, 1) := by decide +kernel
theorem d_Pr_openHead_63 : decode b_Pr_openHead 63 = .ok (.l2i, 1) := by decide +kernel
theorem d_Pr_openHead_64 : decode b_Pr_openHead 64 = .ok (.invokevirtual 88, 3) := by decide +kernel
theorem d_Pr_openHead_67 : decode b_Pr_openHead 67 = .ok (.lload 4, 2) := by decide +kernel
theorem d_Pr_openHead_69 : decode b_Pr_openHead 69 = .ok (.invokevirtual 84, 3) := by decide +kernel
theorem d_Pr_openHead_72 : decode b_Pr_openHead 72 = .ok (.lastore, 1) := by decide +kernel
theorem d_Pr_openHead_73 : decode b_Pr_openHead 73 = .ok (.aload_n 0, 1) := by decide +kernel
theorem d_Pr_openHead_74 : decode b_Pr_openHead 74 = .ok (.getfield 15, 3) := by decide +kernel
theorem d_Pr_openHead_77 : decode b_Pr_openHead 77 = .ok (.iconst 1, 1) := by decide +kernel
theorem d_Pr_openHead_78 : decode b_Pr_openHead 78 = .ok (.aload_n 3, 1) := by decide +kernel
theorem d_Pr_openHead_79 : decode b_Pr_openHead 79 = .ok (.aload_n 1, 1) := by decide +kernel
theorem d_Pr_openHead_80 : decode b_Pr_openHead 80 = .ok (.invokevirtual 65, 3) := by decide +kernel
theorem d_Pr_openHead_83 : decode b_Pr_openHead 83 = .ok (.lload 6, 2) := by decide +kernel
theorem d_Pr_openHead_85 : decode b_Pr_openHead 85 = .ok (.aload_n 2, 1) := by decide +kernel
theorem d_Pr_openHead_86 : decode b_Pr_openHead 86 = .ok (.iconst 2, 1) := by decide +kernel
theorem d_Pr_openHead_87 : decode b_Pr_openHead 87 = .ok (.laload, 1) := by decide +kernel
theorem d_Pr_openHead_88 : decode b_Pr_openHead 88 = .ok (.lload 4, 2) := by decide +kernel
theorem d_Pr_openHead_90 : decode b_Pr_openHead 90 = .ok (.invokevirtual 84, 3) := by decide +kernel
theorem d_Pr_openHead_93 : decode b_Pr_openHead 93 = .ok (.lastore, 1) := by decide +kernel
theorem d_Pr_openHead_94 : decode b_Pr_openHead 94 = .ok (.return_, 1) := by decide +kernel
set_option maxHeartbeats 8000000 in
set_option maxRecDepth 100000 in
theorem c_Pr_openHead_1 (l : Launch) (dC : Nat → ClassId) (dI : Nat → Nat → Nat) (cJ cI : ClassId) (sz : Nat) (pr0 h0 cm : Nat) (cf : Nat → Nat) (t0 ka aa ba sa : Nat) (ko ao bo so : Nat → Nat) (tn kc bc shc kp shp pa pb : Nat) (sht : Int32) (g0 mF mE P f1 k1 Q f2 k2 G : Nat) (ra : Nat) (rw : Nat → Int64) (I Y1 C1 Z1 : Nat) (hok : gp_ok P f1 k1 Q f2 k2 G) (htn : tn ≤ 4) (hkc : kc ≤ 4) (hkp : kp < P) (hr0 : rw 0 = lN 1) (hr1 : rw 1 = lN I) (hr2 : rw 2 = lN Y1) (hr3 : rw 3 = lN C1) (hr4 : rw 4 = lN Z1) (hI : I < tn) (hY9 : Y1 < P) (hC9 : C1 < Q) (hZ9 : Z1 < Q) (hko : ∀ j, ko j < P) (hpa : pa < P) : Met l y_Pr_openHead w_Pr_openHead ({ frames := 3, cells := 0, slots := 0, locals := 103 }) (va_Pc [.ref pr0, .ref t0, .ref ra] (fun U => U.heap.size = sz ∧ va_P (dC, dI) classes (pr_ws pr0 h0 cm cJ cf ++ (tl_ws t0 ka aa ba sa (.ref g0) cJ ko ao bo so tn kc bc shc kp shp pa pb sht ++ (gp_ws g0 mF mE P f1 k1 Q f2 k2 G ++ rw_ws ra cJ rw))) U.heap ∧ va_K (dC, dI) classes [(cJ, .long), (cI, .int)] U ∧ va_D (fun _ => True) (pr_ws pr0 h0 cm cJ cf ++ (tl_ws t0 ka aa ba sa (.ref g0) cJ ko ao bo so tn kc bc shc kp shp pa pb sht ++ (gp_ws g0 mF mE P f1 k1 Q f2 k2 G ++ rw_ws ra cJ rw))))) (va_Qv (fun _ : Unit => True) (fun _ t => va_P (dC, dI) classes (pr_ws pr0 h0 cm cJ (updN cf 0 (G ^ Z1 * Y1 ^ ((Q - C1) % Q) % P)) ++ (tl_ws t0 ka aa ba sa (.ref g0) cJ ko ao bo so tn kc bc shc kp shp pa pb sht ++ (gp_ws g0 mF mE P f1 k1 Q f2 k2 G ++ rw_ws ra cJ rw))) t.heap ∧ va_K (dC, dI) classes [(cJ, .long), (cI, .int)] t ∧ va_D (va_A (pr_ws pr0 h0 cm cJ cf ++ (tl_ws t0 ka aa ba sa (.ref g0) cJ ko ao bo so tn kc bc shc kp shp pa pb sht ++ (gp_ws g0 mF mE P f1 k1 Q f2 k2 G ++ rw_ws ra cJ rw))) sz) (pr_ws pr0 h0 cm cJ (updN cf 0 (G ^ Z1 * Y1 ^ ((Q - C1) % Q) % P)) ++ (tl_ws t0 ka aa ba sa (.ref g0) cJ ko ao bo so tn kc bc shc kp shp pa pb sht ++ (gp_ws g0 mF mE P f1 k1 Q f2 k2 G ++ rw_ws ra cJ rw)))) (va_A (pr_ws pr0 h0 cm cJ cf ++ (tl_ws t0 ka aa ba sa (.ref g0) cJ ko ao bo so tn kc bc shc kp shp pa pb sht ++ (gp_ws g0 mF mE P f1 k1 Q f2 k2 G ++ rw_ws ra cJ rw))) sz)) 0 0 (va_A (pr_ws pr0 h0 cm cJ cf ++ (tl_ws t0 ka aa ba sa (.ref g0) cJ ko ao bo so tn kc bc shc kp shp pa pb sht ++ (gp_ws g0 mF mE P f1 k1 Q f2 k2 G ++ rw_ws ra cJ rw))) sz) := by
  refine Met.ofW (cc := b_Pr_openHead) (maxL := 8) (ret := none) (by decide) rfl ?_
  intro p e s m args below meth c s₁ Bd hml hv
  obtain ⟨rfl, hsz, hP, hK, hD0⟩ := hv
  have hx := Bd.exec
  have hb := Bd.bytes
  have hr := Bd.returns
  have hts := atoms_spec (ws := w_Pr_openHead) Bd.pre
  have hown : s.vm.findClass "BallotBoard$Proofs" = some m.cls := findClass_of_methodNamed Bd.named
  have hlocks := Bd.notSynchronized
  subst hsz
  have hD := hD0.self (sz := s.heap.size)
  generalize hAe : va_A (pr_ws pr0 h0 cm cJ cf ++ (tl_ws t0 ka aa ba sa (.ref g0) cJ ko ao bo so tn kc bc shc kp shp pa pb sht ++ (gp_ws g0 mF mE P f1 k1 Q f2 k2 G ++ rw_ws ra cJ rw))) s.heap.size = A at hD ⊢
  have hA : ∀ q : Nat, s.heap.size ≤ q → A q := fun q h => by rw [← hAe]; exact Or.inr h
  have hS : va_S A s.heap s.heap [] := va_S.rf
  have hl := lv_entry ([.ref pr0, .ref t0, .ref ra]) (n := 8) (Nat.le_of_ble_eq_true rfl)
  rw [lg_entry_eq]
  generalize (lg_sl ([.ref pr0, .ref t0, .ref ra]) ++ List.replicate (8 - (lg_sl ([.ref pr0, .ref t0, .ref ra])).length) Slot.unset).toArray = ls at hl ⊢
  have hl : lv_has ls 8 [(0, .ref pr0), (1, .ref t0), (2, .ref ra)] := hl
  obtain ⟨hokF, hokE, hPQ, hG2, hGP, hGQ⟩ := id hok
  obtain ⟨hoF, h3F, h61F, _, _, hk61F, hNkF⟩ := id hokF
  obtain ⟨hoE, h3E, h61E, _, _, hk61E, hNkE⟩ := id hokE
  have hck := ckey_lt (tn := tn) (kc := kc) hkp
  refine lv_aload_n hx hb d_Pr_openHead_0 rfl (lv_at hl 1 rfl) ?_
  have hPc := hP.sub (ws' := (tl_ws t0 ka aa ba sa (.ref g0) cJ ko ao bo so tn kc bc shc kp shp pa pb sht)) [2, 3, 4, 5, 6] rfl
  have hKc := hK.sub (tys' := [(cJ, .long), (cI, .int)]) [0, 1] rfl
  refine va_callr (va_runV (As := []) (rest := []) ⟨hx, hb, hml, hown, hts⟩ (c_Ta_group l s.heap dC dI cJ cI t0 ka aa ba sa g0 ko ao bo so tn kc bc shc kp shp pa pb sht hPc) (cwV 0 hts (gw_V gk_435 gk_436 gk_437 gk_5 gk_438) rfl rfl rfl (by decide +kernel) ⟨Nat.le_of_ble_eq_true rfl, Nat.le_of_ble_eq_true rfl⟩) ⟨fun a U g mk q => ⟨q.1, q.2.1, va_K.moved (u := U) (U := U.calling g mk a) (Vm.Alike.refl U.vm) q.2.2⟩, va_recv hK hP (ci := 4) (q0 := 2) rfl rfl, fun U hU hW => ⟨rfl, hU, va_K.moved hW.alike hKc⟩⟩ rfl rfl hl.1 rfl (lv_room (Nat.le_of_ble_eq_true rfl)) d_Pr_openHead_1 ⟨Nat.le_of_ble_eq_true rfl, Nat.le_of_ble_eq_true rfl⟩) hS (fun q _ h => h.elim) (fun q h => h.elim) (fun u9 r1 t9 H1 locs ht hvm hw hB hz1 hk1 hS => ?_)
  obtain ⟨hra, hB⟩ := hB
  have hra := hra.symm
  subst hra
  obtain rfl : s.heap = H1 := hB.symm.trans ht
  refine lv_astore_n (lv' := [(3, .ref g0), (0, .ref pr0), (1, .ref t0), (2, .ref ra)]) hx hb d_Pr_openHead_4 rfl hl (by decide) rfl (fun ls hl => ?_)
  refine lv_aload_n hx hb d_Pr_openHead_5 rfl (lv_at hl 3 rfl) ?_
  refine lv_iconst (v := 3) hx hb d_Pr_openHead_6 (by decide) ?_
  refine va_lald hx hb hK hP 10 0 rfl rfl (vp_lit rfl) d_Pr_openHead_7 ?_
  refine lv_topl (fun v_1 ev_1 => ?_)
  obtain rfl : v_1 = lN C1 := ev_1.trans hr3
  refine lv_lstore (lv' := [(4, .long (lN C1)), (3, .ref g0), (0, .ref pr0), (1, .ref t0), (2, .ref ra)]) hx hb d_Pr_openHead_8 hl (by decide) rfl (fun ls hl => ?_)
  refine lv_aload_n hx hb d_Pr_openHead_10 rfl (lv_at hl 4 rfl) ?_
  refine lv_iconst (v := 4) hx hb d_Pr_openHead_11 (by decide) ?_
  refine va_lald hx hb hK hP 10 0 rfl rfl (vp_lit rfl) d_Pr_openHead_12 ?_
  refine lv_topl (fun v_2 ev_2 => ?_)
  obtain rfl : v_2 = lN Z1 := ev_2.trans hr4
  refine lv_lstore (lv' := [(6, .long (lN Z1)), (4, .long (lN C1)), (3, .ref g0), (0, .ref pr0), (1, .ref t0), (2, .ref ra)]) hx hb d_Pr_openHead_13 hl (by decide) rfl (fun ls hl => ?_)
  refine lv_aload_n hx hb d_Pr_openHead_15 rfl (lv_at hl 5 rfl) ?_
  refine lv_iconst (v := 0) hx hb d_Pr_openHead_16 (by decide) ?_
  refine va_lald hx hb hK hP 10 0 rfl rfl (vp_lit rfl) d_Pr_openHead_17 ?_
  refine lv_topl (fun v_3 ev_3 => ?_)
  obtain rfl : v_3 = lN 1 := ev_3.trans hr0
  refine lv_lconst (v := 1) hx hb d_Pr_openHead_18 (by decide) ?_
  refine W.lcmp hx hb d_Pr_openHead_19 ?_
  refine lv_if_ne (tgt := 47) hx hb d_Pr_openHead_20 (by decide) (fun c_4 => ?_) (fun c_4 => ?_)
  · -- taken
    exact absurd ((cmpe (k := 1) (by omega) 1 (by omega) rfl).mpr rfl) c_4
  · -- not taken
    refine lv_aload_n hx hb d_Pr_openHead_23 rfl (lv_at hl 3 rfl) ?_
    refine va_get (D := (dC, dI)) (ci := 5) (v := .ref cm) (C := "BallotBoard$Proofs") (T := F_Pr) (N := 2) hx hb hts (fun w9 h9 => List.mem_cons_of_mem _ (i_Pr w9 h9)) hown hK hP 0 rfl rfl 1 (by decide) (hts _ (List.mem_cons_of_mem _ gk_80)) (fun _ h9 => h9) rfl d_Pr_openHead_24 ?_
    refine lv_iconst (v := 0) hx hb d_Pr_openHead_27 (by decide) ?_
    refine lv_aload_n hx hb d_Pr_openHead_28 rfl (lv_at hl 2 rfl) ?_
    refine lv_aload_n hx hb d_Pr_openHead_29 rfl (lv_at hl 2 rfl) ?_
    have hPc := hP.sub (ws' := (gp_ws g0 mF mE P f1 k1 Q f2 k2 G)) [7, 8, 9] rfl
    have hKc := hK.sub (tys' := []) [] rfl
    refine va_calll (va_runV (As := []) (rest := [.ref g0, .int 0, .ref cm]) ⟨hx, hb, hml, hown, hts⟩ (c_Gr_g l s.heap dC dI g0 mF mE P f1 k1 Q f2 k2 G  hPc hok ) (cwV 0 hts (gw_V gk_453 gk_454 gk_455 gk_8 gk_456) rfl rfl rfl (by decide +kernel) ⟨Nat.le_of_ble_eq_true rfl, Nat.le_of_ble_eq_true rfl⟩) ⟨fun a U g mk q => ⟨q.1, q.2.1, va_K.moved (u := U) (U := U.calling g mk a) (Vm.Alike.refl U.vm) q.2.2⟩, va_recv hK hP (ci := 1) (q0 := 7) rfl rfl, fun U hU hW => ⟨rfl, hU, va_K.moved hW.alike hKc⟩⟩ rfl rfl hl.1 rfl (lv_room (Nat.le_of_ble_eq_true rfl)) d_Pr_openHead_30 ⟨Nat.le_of_ble_eq_true rfl, Nat.le_of_ble_eq_true rfl⟩) hS (fun q _ h => h.elim) (fun q h => h.elim) (fun r30 u9 t9 H1 locs ht hvm hw hB hz1 hk1 hS => ?_)
    obtain rfl : s.heap = H1 := hB.symm.trans ht
    have hw : r30 = lN G := hw
    subst hw
    refine lv_lload hx hb d_Pr_openHead_33 (lv_at hl 0 rfl) ?_
    refine lv_aload_n hx hb d_Pr_openHead_35 rfl (lv_at hl 5 rfl) ?_
    refine lv_iconst (v := 2) hx hb d_Pr_openHead_36 (by decide) ?_
    refine va_lald hx hb hK hP 10 0 rfl rfl (vp_lit rfl) d_Pr_openHead_37 ?_
    refine lv_topl (fun v_5 ev_5 => ?_)
    obtain rfl : v_5 = lN Y1 := ev_5.trans hr2
    refine lv_lload hx hb d_Pr_openHead_38 (lv_at hl 1 rfl) ?_
    have hPc := hP.sub (ws' := (gp_ws g0 mF mE P f1 k1 Q f2 k2 G)) [7, 8, 9] rfl
    have hKc := hK.sub (tys' := []) [] rfl
    refine va_calll (va_runV (As := [.long (lN G), .long (lN Z1), .long (lN Y1), .long (lN C1)]) (rest := [.int 0, .ref cm]) ⟨hx, hb, hml, hown, hts⟩ (c_Gr_opened l s.heap dC dI g0 mF mE P f1 k1 Q f2 k2 G G Z1 Y1 C1 hPc hok (by omega) (by omega) (by omega) (by omega)) (cwV 4 hts (gw_V gk_457 gk_458 gk_459 gk_8 gk_460) rfl rfl rfl (by decide +kernel) ⟨Nat.le_of_ble_eq_true rfl, Nat.le_of_ble_eq_true rfl⟩) ⟨fun a U g mk q => ⟨q.1, q.2.1, va_K.moved (u := U) (U := U.calling g mk a) (Vm.Alike.refl U.vm) q.2.2⟩, va_recv hK hP (ci := 1) (q0 := 7) rfl rfl, fun U hU hW => ⟨rfl, hU, va_K.moved hW.alike hKc⟩⟩ rfl rfl hl.1 rfl (lv_room (Nat.le_of_ble_eq_true rfl)) d_Pr_openHead_40 ⟨Nat.le_of_ble_eq_true rfl, Nat.le_of_ble_eq_true rfl⟩) hS (fun q _ h => h.elim) (fun q h => h.elim) (fun r40 u9 t9 H1 locs ht hvm hw hB hz1 hk1 hS => ?_)
    obtain rfl : s.heap = H1 := hB.symm.trans ht
    have hw : r40 = lN (G ^ Z1 * Y1 ^ ((Q - C1) % Q) % P) := hw
    subst hw
    refine va_last hx hb hK hP hD hS 1 0 rfl rfl (vp_lit rfl) d_Pr_openHead_43 (fun H locs hP hD hS => ?_)
    have hfe : vp_updL (lF cf) (0 : Int32).toNatClampNeg (lN (G ^ Z1 * Y1 ^ ((Q - C1) % Q) % P)) = lF (updN cf 0 (G ^ Z1 * Y1 ^ ((Q - C1) % Q) % P)) := lF_upd _ _ _
    have hP : va_P (dC, dI) classes [(pr0, .inr (5, [.ref h0, .ref cm])), (cm, .inl (cJ, 4, .inr (.inl (vp_updL (lF cf) (0 : Int32).toNatClampNeg (lN (G ^ Z1 * Y1 ^ ((Q - C1) % Q) % P)))))), (t0, .inr (4, [.ref ka, .ref aa, .ref ba, .ref sa, .ref g0, .int (nI tn), .int (nI kc), .int (nI bc), .int (nI shc), .long (lN kp), .long (lN shp), .long (lN pa), .long (lN pb), .int sht])), (ka, .inl (cJ, 4, .inr (.inl (lF ko)))), (aa, .inl (cJ, 64, .inr (.inl (lF ao)))), (ba, .inl (cJ, 64, .inr (.inl (lF bo)))), (sa, .inl (cJ, 4, .inr (.inl (lF so)))), (g0, .inr (1, [.ref mF, .ref mE, .long (lN G), .long (lN (G ^ (Q - 1) % P))])), (mF, .inr (0, [.long (lN P), .long (lN (P % 2 ^ 31)), .long (lN (P / 2 ^ 31)), .long (lN f1), .long (lN (2 ^ 62 % P)), .long (lN (2 ^ 124 % P)), .int (nI k1)])), (mE, .inr (0, [.long (lN Q), .long (lN (Q % 2 ^ 31)), .long (lN (Q / 2 ^ 31)), .long (lN f2), .long (lN (2 ^ 62 % Q)), .long (lN (2 ^ 124 % Q)), .int (nI k2)])), (ra, .inl (cJ, 8, .inr (.inl rw)))] H := hP
    have hD : va_D A [(pr0, .inr (5, [.ref h0, .ref cm])), (cm, .inl (cJ, 4, .inr (.inl (vp_updL (lF cf) (0 : Int32).toNatClampNeg (lN (G ^ Z1 * Y1 ^ ((Q - C1) % Q) % P)))))), (t0, .inr (4, [.ref ka, .ref aa, .ref ba, .ref sa, .ref g0, .int (nI tn), .int (nI kc), .int (nI bc), .int (nI shc), .long (lN kp), .long (lN shp), .long (lN pa), .long (lN pb), .int sht])), (ka, .inl (cJ, 4, .inr (.inl (lF ko)))), (aa, .inl (cJ, 64, .inr (.inl (lF ao)))), (ba, .inl (cJ, 64, .inr (.inl (lF bo)))), (sa, .inl (cJ, 4, .inr (.inl (lF so)))), (g0, .inr (1, [.ref mF, .ref mE, .long (lN G), .long (lN (G ^ (Q - 1) % P))])), (mF, .inr (0, [.long (lN P), .long (lN (P % 2 ^ 31)), .long (lN (P / 2 ^ 31)), .long (lN f1), .long (lN (2 ^ 62 % P)), .long (lN (2 ^ 124 % P)), .int (nI k1)])), (mE, .inr (0, [.long (lN Q), .long (lN (Q % 2 ^ 31)), .long (lN (Q / 2 ^ 31)), .long (lN f2), .long (lN (2 ^ 62 % Q)), .long (lN (2 ^ 124 % Q)), .int (nI k2)])), (ra, .inl (cJ, 8, .inr (.inl rw)))] := hD
    rw [hfe] at hP hD
    refine lv_goto (tgt := 94) hx hb d_Pr_openHead_44 (by decide) ?_
    exact W.vret hx hb hr (fun t ht9 hW => ⟨⟨(), rfl, trivial, by rw [ht9]; exact hP, va_K.moved hW.alike hK, hD⟩, hS.F ht9⟩) hS.2.2 d_Pr_openHead_94
set_option maxHeartbeats 8000000 in
set_option maxRecDepth 100000 in
theorem c_Pr_openHead_3 (l : Launch) (dC : Nat → ClassId) (dI : Nat → Nat → Nat) (cJ cI : ClassId) (sz : Nat) (pr0 h0 cm : Nat) (cf : Nat → Nat) (t0 ka aa ba sa : Nat) (ko ao bo so : Nat → Nat) (tn kc bc shc kp shp pa pb : Nat) (sht : Int32) (g0 mF mE P f1 k1 Q f2 k2 G : Nat) (ra : Nat) (rw : Nat → Int64) (I Y1 C1 Z1 : Nat) (hok : gp_ok P f1 k1 Q f2 k2 G) (htn : tn ≤ 4) (hkc : kc ≤ 4) (hkp : kp < P) (hr0 : rw 0 = lN 3) (hr1 : rw 1 = lN I) (hr2 : rw 2 = lN Y1) (hr3 : rw 3 = lN C1) (hr4 : rw 4 = lN Z1) (hI : I < tn) (hY9 : Y1 < P) (hC9 : C1 < Q) (hZ9 : Z1 < Q) (hko : ∀ j, ko j < P) (hpa : pa < P) : Met l y_Pr_openHead w_Pr_openHead ({ frames := 3, cells := 0, slots := 0, locals := 103 }) (va_Pc [.ref pr0, .ref t0, .ref ra] (fun U => U.heap.size = sz ∧ va_P (dC, dI) classes (pr_ws pr0 h0 cm cJ cf ++ (tl_ws t0 ka aa ba sa (.ref g0) cJ ko ao bo so tn kc bc shc kp shp pa pb sht ++ (gp_ws g0 mF mE P f1 k1 Q f2 k2 G ++ rw_ws ra cJ rw))) U.heap ∧ va_K (dC, dI) classes [(cJ, .long), (cI, .int)] U ∧ va_D (fun _ => True) (pr_ws pr0 h0 cm cJ cf ++ (tl_ws t0 ka aa ba sa (.ref g0) cJ ko ao bo so tn kc bc shc kp shp pa pb sht ++ (gp_ws g0 mF mE P f1 k1 Q f2 k2 G ++ rw_ws ra cJ rw))))) (va_Qv (fun _ : Unit => True) (fun _ t => va_P (dC, dI) classes (pr_ws pr0 h0 cm cJ (updN (updN cf 0 (G ^ Z1 * (ko I) ^ ((Q - C1) % Q) % P)) 1 (pa ^ Z1 * Y1 ^ ((Q - C1) % Q) % P)) ++ (tl_ws t0 ka aa ba sa (.ref g0) cJ ko ao bo so tn kc bc shc kp shp pa pb sht ++ (gp_ws g0 mF mE P f1 k1 Q f2 k2 G ++ rw_ws ra cJ rw))) t.heap ∧ va_K (dC, dI) classes [(cJ, .long), (cI, .int)] t ∧ va_D (va_A (pr_ws pr0 h0 cm cJ cf ++ (tl_ws t0 ka aa ba sa (.ref g0) cJ ko ao bo so tn kc bc shc kp shp pa pb sht ++ (gp_ws g0 mF mE P f1 k1 Q f2 k2 G ++ rw_ws ra cJ rw))) sz) (pr_ws pr0 h0 cm cJ (updN (updN cf 0 (G ^ Z1 * (ko I) ^ ((Q - C1) % Q) % P)) 1 (pa ^ Z1 * Y1 ^ ((Q - C1) % Q) % P)) ++ (tl_ws t0 ka aa ba sa (.ref g0) cJ ko ao bo so tn kc bc shc kp shp pa pb sht ++ (gp_ws g0 mF mE P f1 k1 Q f2 k2 G ++ rw_ws ra cJ rw)))) (va_A (pr_ws pr0 h0 cm cJ cf ++ (tl_ws t0 ka aa ba sa (.ref g0) cJ ko ao bo so tn kc bc shc kp shp pa pb sht ++ (gp_ws g0 mF mE P f1 k1 Q f2 k2 G ++ rw_ws ra cJ rw))) sz)) 0 0 (va_A (pr_ws pr0 h0 cm cJ cf ++ (tl_ws t0 ka aa ba sa (.ref g0) cJ ko ao bo so tn kc bc shc kp shp pa pb sht ++ (gp_ws g0 mF mE P f1 k1 Q f2 k2 G ++ rw_ws ra cJ rw))) sz) := by
  refine Met.ofW (cc := b_Pr_openHead) (maxL := 8) (ret := none) (by decide) rfl ?_
  intro p e s m args below meth c s₁ Bd hml hv
  obtain ⟨rfl, hsz, hP, hK, hD0⟩ := hv
  have hx := Bd.exec
  have hb := Bd.bytes
  have hr := Bd.returns
  have hts := atoms_spec (ws := w_Pr_openHead) Bd.pre
  have hown : s.vm.findClass "BallotBoard$Proofs" = some m.cls := findClass_of_methodNamed Bd.named
  have hlocks := Bd.notSynchronized
  subst hsz
  have hD := hD0.self (sz := s.heap.size)
  generalize hAe : va_A (pr_ws pr0 h0 cm cJ cf ++ (tl_ws t0 ka aa ba sa (.ref g0) cJ ko ao bo so tn kc bc shc kp shp pa pb sht ++ (gp_ws g0 mF mE P f1 k1 Q f2 k2 G ++ rw_ws ra cJ rw))) s.heap.size = A at hD ⊢
  have hA : ∀ q : Nat, s.heap.size ≤ q → A q := fun q h => by rw [← hAe]; exact Or.inr h
  have hS : va_S A s.heap s.heap [] := va_S.rf
  have hl := lv_entry ([.ref pr0, .ref t0, .ref ra]) (n := 8) (Nat.le_of_ble_eq_true rfl)
  rw [lg_entry_eq]
  generalize (lg_sl ([.ref pr0, .ref t0, .ref ra]) ++ List.replicate (8 - (lg_sl ([.ref pr0, .ref t0, .ref ra])).length) Slot.unset).toArray = ls at hl ⊢
  have hl : lv_has ls 8 [(0, .ref pr0), (1, .ref t0), (2, .ref ra)] := hl
  obtain ⟨hokF, hokE, hPQ, hG2, hGP, hGQ⟩ := id hok
  obtain ⟨hoF, h3F, h61F, _, _, hk61F, hNkF⟩ := id hokF
  obtain ⟨hoE, h3E, h61E, _, _, hk61E, hNkE⟩ := id hokE
  have hck := ckey_lt (tn := tn) (kc := kc) hkp
  refine lv_aload_n hx hb d_Pr_openHead_0 rfl (lv_at hl 1 rfl) ?_
  have hPc := hP.sub (ws' := (tl_ws t0 ka aa ba sa (.ref g0) cJ ko ao bo so tn kc bc shc kp shp pa pb sht)) [2, 3, 4, 5, 6] rfl
  have hKc := hK.sub (tys' := [(cJ, .long), (cI, .int)]) [0, 1] rfl
  refine va_callr (va_runV (As := []) (rest := []) ⟨hx, hb, hml, hown, hts⟩ (c_Ta_group l s.heap dC dI cJ cI t0 ka aa ba sa g0 ko ao bo so tn kc bc shc kp shp pa pb sht hPc) (cwV 0 hts (gw_V gk_435 gk_436 gk_437 gk_5 gk_438) rfl rfl rfl (by decide +kernel) ⟨Nat.le_of_ble_eq_true rfl, Nat.le_of_ble_eq_true rfl⟩) ⟨fun a U g mk q => ⟨q.1, q.2.1, va_K.moved (u := U) (U := U.calling g mk a) (Vm.Alike.refl U.vm) q.2.2⟩, va_recv hK hP (ci := 4) (q0 := 2) rfl rfl, fun U hU hW => ⟨rfl, hU, va_K.moved hW.alike hKc⟩⟩ rfl rfl hl.1 rfl (lv_room (Nat.le_of_ble_eq_true rfl)) d_Pr_openHead_1 ⟨Nat.le_of_ble_eq_true rfl, Nat.le_of_ble_eq_true rfl⟩) hS (fun q _ h => h.elim) (fun q h => h.elim) (fun u9 r1 t9 H1 locs ht hvm hw hB hz1 hk1 hS => ?_)
  obtain ⟨hra, hB⟩ := hB
  have hra := hra.symm
  subst hra
  obtain rfl : s.heap = H1 := hB.symm.trans ht
  refine lv_astore_n (lv' := [(3, .ref g0), (0, .ref pr0), (1, .ref t0), (2, .ref ra)]) hx hb d_Pr_openHead_4 rfl hl (by decide) rfl (fun ls hl => ?_)
  refine lv_aload_n hx hb d_Pr_openHead_5 rfl (lv_at hl 3 rfl) ?_
  refine lv_iconst (v := 3) hx hb d_Pr_openHead_6 (by decide) ?_
  refine va_lald hx hb hK hP 10 0 rfl rfl (vp_lit rfl) d_Pr_openHead_7 ?_
  refine lv_topl (fun v_1 ev_1 => ?_)
  obtain rfl : v_1 = lN C1 := ev_1.trans hr3
  refine lv_lstore (lv' := [(4, .long (lN C1)), (3, .ref g0), (0, .ref pr0), (1, .ref t0), (2, .ref ra)]) hx hb d_Pr_openHead_8 hl (by decide) rfl (fun ls hl => ?_)
  refine lv_aload_n hx hb d_Pr_openHead_10 rfl (lv_at hl 4 rfl) ?_
  refine lv_iconst (v := 4) hx hb d_Pr_openHead_11 (by decide) ?_
  refine va_lald hx hb hK hP 10 0 rfl rfl (vp_lit rfl) d_Pr_openHead_12 ?_
  refine lv_topl (fun v_2 ev_2 => ?_)
  obtain rfl : v_2 = lN Z1 := ev_2.trans hr4
  refine lv_lstore (lv' := [(6, .long (lN Z1)), (4, .long (lN C1)), (3, .ref g0), (0, .ref pr0), (1, .ref t0), (2, .ref ra)]) hx hb d_Pr_openHead_13 hl (by decide) rfl (fun ls hl => ?_)
  refine lv_aload_n hx hb d_Pr_openHead_15 rfl (lv_at hl 5 rfl) ?_
  refine lv_iconst (v := 0) hx hb d_Pr_openHead_16 (by decide) ?_
  refine va_lald hx hb hK hP 10 0 rfl rfl (vp_lit rfl) d_Pr_openHead_17 ?_
  refine lv_topl (fun v_3 ev_3 => ?_)
  obtain rfl : v_3 = lN 3 := ev_3.trans hr0
  refine lv_lconst (v := 1) hx hb d_Pr_openHead_18 (by decide) ?_
  refine W.lcmp hx hb d_Pr_openHead_19 ?_
  refine lv_if_ne (tgt := 47) hx hb d_Pr_openHead_20 (by decide) (fun c_4 => ?_) (fun c_4 => ?_)
  · -- taken
    refine lv_aload_n hx hb d_Pr_openHead_47 rfl (lv_at hl 3 rfl) ?_
    refine va_get (D := (dC, dI)) (ci := 5) (v := .ref cm) (C := "BallotBoard$Proofs") (T := F_Pr) (N := 2) hx hb hts (fun w9 h9 => List.mem_cons_of_mem _ (i_Pr w9 h9)) hown hK hP 0 rfl rfl 1 (by decide) (hts _ (List.mem_cons_of_mem _ gk_80)) (fun _ h9 => h9) rfl d_Pr_openHead_48 ?_
    refine lv_iconst (v := 0) hx hb d_Pr_openHead_51 (by decide) ?_
    refine lv_aload_n hx hb d_Pr_openHead_52 rfl (lv_at hl 2 rfl) ?_
    refine lv_aload_n hx hb d_Pr_openHead_53 rfl (lv_at hl 2 rfl) ?_
    have hPc := hP.sub (ws' := (gp_ws g0 mF mE P f1 k1 Q f2 k2 G)) [7, 8, 9] rfl
    have hKc := hK.sub (tys' := []) [] rfl
    refine va_calll (va_runV (As := []) (rest := [.ref g0, .int 0, .ref cm]) ⟨hx, hb, hml, hown, hts⟩ (c_Gr_g l s.heap dC dI g0 mF mE P f1 k1 Q f2 k2 G  hPc hok ) (cwV 0 hts (gw_V gk_453 gk_454 gk_455 gk_8 gk_456) rfl rfl rfl (by decide +kernel) ⟨Nat.le_of_ble_eq_true rfl, Nat.le_of_ble_eq_true rfl⟩) ⟨fun a U g mk q => ⟨q.1, q.2.1, va_K.moved (u := U) (U := U.calling g mk a) (Vm.Alike.refl U.vm) q.2.2⟩, va_recv hK hP (ci := 1) (q0 := 7) rfl rfl, fun U hU hW => ⟨rfl, hU, va_K.moved hW.alike hKc⟩⟩ rfl rfl hl.1 rfl (lv_room (Nat.le_of_ble_eq_true rfl)) d_Pr_openHead_54 ⟨Nat.le_of_ble_eq_true rfl, Nat.le_of_ble_eq_true rfl⟩) hS (fun q _ h => h.elim) (fun q h => h.elim) (fun r54 u9 t9 H1 locs ht hvm hw hB hz1 hk1 hS => ?_)
    obtain rfl : s.heap = H1 := hB.symm.trans ht
    have hw : r54 = lN G := hw
    subst hw
    refine lv_lload hx hb d_Pr_openHead_57 (lv_at hl 0 rfl) ?_
    refine lv_aload_n hx hb d_Pr_openHead_59 rfl (lv_at hl 4 rfl) ?_
    refine lv_aload_n hx hb d_Pr_openHead_60 rfl (lv_at hl 5 rfl) ?_
    refine lv_iconst (v := 1) hx hb d_Pr_openHead_61 (by decide) ?_
    refine va_lald hx hb hK hP 10 0 rfl rfl (vp_lit rfl) d_Pr_openHead_62 ?_
    refine lv_topl (fun v_5 ev_5 => ?_)
    obtain rfl : v_5 = lN I := ev_5.trans hr1
    refine lv_l2i (v := (lN I : Int64).toInt32) hx hb d_Pr_openHead_63 rfl ?_
    rw [show ((lN I : Int64).toInt32 : Int32) = (nI I) from lN_toI (by omega)]
    have hPc := hP.sub (ws' := (tl_ws t0 ka aa ba sa (.ref g0) cJ ko ao bo so tn kc bc shc kp shp pa pb sht)) [2, 3, 4, 5, 6] rfl
    have hKc := hK.sub (tys' := [(cJ, .long), (cI, .int)]) [0, 1] rfl
    refine va_calll (va_runV (As := [.int (nI I)]) (rest := [.long (lN Z1), .long (lN G), .ref g0, .int 0, .ref cm]) ⟨hx, hb, hml, hown, hts⟩ (c_Ta_keyOf l s.heap dC dI cJ cI t0 ka aa ba sa (.ref g0) ko ao bo so tn kc bc shc kp shp pa pb sht I hPc (by omega) (by omega)) (cwV 1 hts (gw_V gk_556 gk_557 gk_558 gk_5 gk_559) rfl rfl rfl (by decide +kernel) ⟨Nat.le_of_ble_eq_true rfl, Nat.le_of_ble_eq_true rfl⟩) ⟨fun a U g mk q => ⟨q.1, q.2.1, va_K.moved (u := U) (U := U.calling g mk a) (Vm.Alike.refl U.vm) q.2.2⟩, va_recv hK hP (ci := 4) (q0 := 2) rfl rfl, fun U hU hW => ⟨rfl, hU, va_K.moved hW.alike hKc⟩⟩ rfl rfl hl.1 rfl (lv_room (Nat.le_of_ble_eq_true rfl)) d_Pr_openHead_64 ⟨Nat.le_of_ble_eq_true rfl, Nat.le_of_ble_eq_true rfl⟩) hS (fun q _ h => h.elim) (fun q h => h.elim) (fun r64 u9 t9 H1 locs ht hvm hw hB hz1 hk1 hS => ?_)
    obtain rfl : s.heap = H1 := hB.symm.trans ht
    have hw : r64 = lN (ko I) := hw
    subst hw
    refine lv_lload hx hb d_Pr_openHead_67 (lv_at hl 1 rfl) ?_
    have hPc := hP.sub (ws' := (gp_ws g0 mF mE P f1 k1 Q f2 k2 G)) [7, 8, 9] rfl
    have hKc := hK.sub (tys' := []) [] rfl
    refine va_calll (va_runV (As := [.long (lN G), .long (lN Z1), .long (lN (ko I)), .long (lN C1)]) (rest := [.int 0, .ref cm]) ⟨hx, hb, hml, hown, hts⟩ (c_Gr_opened l s.heap dC dI g0 mF mE P f1 k1 Q f2 k2 G G Z1 (ko I) C1 hPc hok hGP (by omega) (hko I) (by omega)) (cwV 4 hts (gw_V gk_457 gk_458 gk_459 gk_8 gk_460) rfl rfl rfl (by decide +kernel) ⟨Nat.le_of_ble_eq_true rfl, Nat.le_of_ble_eq_true rfl⟩) ⟨fun a U g mk q => ⟨q.1, q.2.1, va_K.moved (u := U) (U := U.calling g mk a) (Vm.Alike.refl U.vm) q.2.2⟩, va_recv hK hP (ci := 1) (q0 := 7) rfl rfl, fun U hU hW => ⟨rfl, hU, va_K.moved hW.alike hKc⟩⟩ rfl rfl hl.1 rfl (lv_room (Nat.le_of_ble_eq_true rfl)) d_Pr_openHead_69 ⟨Nat.le_of_ble_eq_true rfl, Nat.le_of_ble_eq_true rfl⟩) hS (fun q _ h => h.elim) (fun q h => h.elim) (fun r69 u9 t9 H1 locs ht hvm hw hB hz1 hk1 hS => ?_)
    obtain rfl : s.heap = H1 := hB.symm.trans ht
    have hw : r69 = lN (G ^ Z1 * (ko I) ^ ((Q - C1) % Q) % P) := hw
    subst hw
    refine va_last hx hb hK hP hD hS 1 0 rfl rfl (vp_lit rfl) d_Pr_openHead_72 (fun H locs hP hD hS => ?_)
    have hfe : vp_updL (lF cf) (0 : Int32).toNatClampNeg (lN (G ^ Z1 * (ko I) ^ ((Q - C1) % Q) % P)) = lF (updN cf 0 (G ^ Z1 * (ko I) ^ ((Q - C1) % Q) % P)) := lF_upd _ _ _
    have hP : va_P (dC, dI) classes [(pr0, .inr (5, [.ref h0, .ref cm])), (cm, .inl (cJ, 4, .inr (.inl (vp_updL (lF cf) (0 : Int32).toNatClampNeg (lN (G ^ Z1 * (ko I) ^ ((Q - C1) % Q) % P)))))), (t0, .inr (4, [.ref ka, .ref aa, .ref ba, .ref sa, .ref g0, .int (nI tn), .int (nI kc), .int (nI bc), .int (nI shc), .long (lN kp), .long (lN shp), .long (lN pa), .long (lN pb), .int sht])), (ka, .inl (cJ, 4, .inr (.inl (lF ko)))), (aa, .inl (cJ, 64, .inr (.inl (lF ao)))), (ba, .inl (cJ, 64, .inr (.inl (lF bo)))), (sa, .inl (cJ, 4, .inr (.inl (lF so)))), (g0, .inr (1, [.ref mF, .ref mE, .long (lN G), .long (lN (G ^ (Q - 1) % P))])), (mF, .inr (0, [.long (lN P), .long (lN (P % 2 ^ 31)), .long (lN (P / 2 ^ 31)), .long (lN f1), .long (lN (2 ^ 62 % P)), .long (lN (2 ^ 124 % P)), .int (nI k1)])), (mE, .inr (0, [.long (lN Q), .long (lN (Q % 2 ^ 31)), .long (lN (Q / 2 ^ 31)), .long (lN f2), .long (lN (2 ^ 62 % Q)), .long (lN (2 ^ 124 % Q)), .int (nI k2)])), (ra, .inl (cJ, 8, .inr (.inl rw)))] H := hP
    have hD : va_D A [(pr0, .inr (5, [.ref h0, .ref cm])), (cm, .inl (cJ, 4, .inr (.inl (vp_updL (lF cf) (0 : Int32).toNatClampNeg (lN (G ^ Z1 * (ko I) ^ ((Q - C1) % Q) % P)))))), (t0, .inr (4, [.ref ka, .ref aa, .ref ba, .ref sa, .ref g0, .int (nI tn), .int (nI kc), .int (nI bc), .int (nI shc), .long (lN kp), .long (lN shp), .long (lN pa), .long (lN pb), .int sht])), (ka, .inl (cJ, 4, .inr (.inl (lF ko)))), (aa, .inl (cJ, 64, .inr (.inl (lF ao)))), (ba, .inl (cJ, 64, .inr (.inl (lF bo)))), (sa, .inl (cJ, 4, .inr (.inl (lF so)))), (g0, .inr (1, [.ref mF, .ref mE, .long (lN G), .long (lN (G ^ (Q - 1) % P))])), (mF, .inr (0, [.long (lN P), .long (lN (P % 2 ^ 31)), .long (lN (P / 2 ^ 31)), .long (lN f1), .long (lN (2 ^ 62 % P)), .long (lN (2 ^ 124 % P)), .int (nI k1)])), (mE, .inr (0, [.long (lN Q), .long (lN (Q % 2 ^ 31)), .long (lN (Q / 2 ^ 31)), .long (lN f2), .long (lN (2 ^ 62 % Q)), .long (lN (2 ^ 124 % Q)), .int (nI k2)])), (ra, .inl (cJ, 8, .inr (.inl rw)))] := hD
    rw [hfe] at hP hD
    refine lv_aload_n hx hb d_Pr_openHead_73 rfl (lv_at hl 3 rfl) ?_
    refine va_get (D := (dC, dI)) (ci := 5) (v := .ref cm) (C := "BallotBoard$Proofs") (T := F_Pr) (N := 2) hx hb hts (fun w9 h9 => List.mem_cons_of_mem _ (i_Pr w9 h9)) hown hK hP 0 rfl rfl 1 (by decide) (hts _ (List.mem_cons_of_mem _ gk_80)) (fun _ h9 => h9) rfl d_Pr_openHead_74 ?_
    refine lv_iconst (v := 1) hx hb d_Pr_openHead_77 (by decide) ?_
    refine lv_aload_n hx hb d_Pr_openHead_78 rfl (lv_at hl 2 rfl) ?_
    refine lv_aload_n hx hb d_Pr_openHead_79 rfl (lv_at hl 4 rfl) ?_
    have hPc := hP.sub (ws' := (tl_ws t0 ka aa ba sa (.ref g0) cJ ko ao bo so tn kc bc shc kp shp pa pb sht)) [2, 3, 4, 5, 6] rfl
    have hKc := hK.sub (tys' := [(cJ, .long), (cI, .int)]) [0, 1] rfl
    refine va_calll (va_runV (As := []) (rest := [.ref g0, .int 1, .ref cm]) ⟨hx, hb, hml, hown, hts⟩ (c_Ta_productA l H dC dI cJ cI t0 ka aa ba sa (.ref g0) ko ao bo so tn kc bc shc kp shp pa pb sht  hPc ) (cwV 0 hts (gw_V gk_511 gk_512 gk_513 gk_5 gk_514) rfl rfl rfl (by decide +kernel) ⟨Nat.le_of_ble_eq_true rfl, Nat.le_of_ble_eq_true rfl⟩) ⟨fun a U g mk q => ⟨q.1, q.2.1, va_K.moved (u := U) (U := U.calling g mk a) (Vm.Alike.refl U.vm) q.2.2⟩, va_recv hK hP (ci := 4) (q0 := 2) rfl rfl, fun U hU hW => ⟨rfl, hU, va_K.moved hW.alike hKc⟩⟩ rfl rfl hl.1 rfl (lv_room (Nat.le_of_ble_eq_true rfl)) d_Pr_openHead_80 ⟨Nat.le_of_ble_eq_true rfl, Nat.le_of_ble_eq_true rfl⟩) hS (fun q _ h => h.elim) (fun q h => h.elim) (fun r80 u9 t9 H1 locs ht hvm hw hB hz1 hk1 hS => ?_)
    obtain rfl : H = H1 := hB.symm.trans ht
    have hw : r80 = lN pa := hw
    subst hw
    refine lv_lload hx hb d_Pr_openHead_83 (lv_at hl 0 rfl) ?_
    refine lv_aload_n hx hb d_Pr_openHead_85 rfl (lv_at hl 5 rfl) ?_
    refine lv_iconst (v := 2) hx hb d_Pr_openHead_86 (by decide) ?_
    refine va_lald hx hb hK hP 10 0 rfl rfl (vp_lit rfl) d_Pr_openHead_87 ?_
    refine lv_topl (fun v_6 ev_6 => ?_)
    obtain rfl : v_6 = lN Y1 := ev_6.trans hr2
    refine lv_lload hx hb d_Pr_openHead_88 (lv_at hl 1 rfl) ?_
    have hPc := hP.sub (ws' := (gp_ws g0 mF mE P f1 k1 Q f2 k2 G)) [7, 8, 9] rfl
    have hKc := hK.sub (tys' := []) [] rfl
    refine va_calll (va_runV (As := [.long (lN pa), .long (lN Z1), .long (lN Y1), .long (lN C1)]) (rest := [.int 1, .ref cm]) ⟨hx, hb, hml, hown, hts⟩ (c_Gr_opened l H dC dI g0 mF mE P f1 k1 Q f2 k2 G pa Z1 Y1 C1 hPc hok (by omega) (by omega) (by omega) (by omega)) (cwV 4 hts (gw_V gk_457 gk_458 gk_459 gk_8 gk_460) rfl rfl rfl (by decide +kernel) ⟨Nat.le_of_ble_eq_true rfl, Nat.le_of_ble_eq_true rfl⟩) ⟨fun a U g mk q => ⟨q.1, q.2.1, va_K.moved (u := U) (U := U.calling g mk a) (Vm.Alike.refl U.vm) q.2.2⟩, va_recv hK hP (ci := 1) (q0 := 7) rfl rfl, fun U hU hW => ⟨rfl, hU, va_K.moved hW.alike hKc⟩⟩ rfl rfl hl.1 rfl (lv_room (Nat.le_of_ble_eq_true rfl)) d_Pr_openHead_90 ⟨Nat.le_of_ble_eq_true rfl, Nat.le_of_ble_eq_true rfl⟩) hS (fun q _ h => h.elim) (fun q h => h.elim) (fun r90 u9 t9 H1 locs ht hvm hw hB hz1 hk1 hS => ?_)
    obtain rfl : H = H1 := hB.symm.trans ht
    have hw : r90 = lN (pa ^ Z1 * Y1 ^ ((Q - C1) % Q) % P) := hw
    subst hw
    refine va_last hx hb hK hP hD hS 1 0 rfl rfl (vp_lit rfl) d_Pr_openHead_93 (fun H locs hP hD hS => ?_)
    have hfe : vp_updL (lF (updN cf 0 (G ^ Z1 * (ko I) ^ ((Q - C1) % Q) % P))) (1 : Int32).toNatClampNeg (lN (pa ^ Z1 * Y1 ^ ((Q - C1) % Q) % P)) = lF (updN (updN cf 0 (G ^ Z1 * (ko I) ^ ((Q - C1) % Q) % P)) 1 (pa ^ Z1 * Y1 ^ ((Q - C1) % Q) % P)) := lF_upd _ _ _
    have hP : va_P (dC, dI) classes [(pr0, .inr (5, [.ref h0, .ref cm])), (cm, .inl (cJ, 4, .inr (.inl (vp_updL (lF (updN cf 0 (G ^ Z1 * (ko I) ^ ((Q - C1) % Q) % P))) (1 : Int32).toNatClampNeg (lN (pa ^ Z1 * Y1 ^ ((Q - C1) % Q) % P)))))), (t0, .inr (4, [.ref ka, .ref aa, .ref ba, .ref sa, .ref g0, .int (nI tn), .int (nI kc), .int (nI bc), .int (nI shc), .long (lN kp), .long (lN shp), .long (lN pa), .long (lN pb), .int sht])), (ka, .inl (cJ, 4, .inr (.inl (lF ko)))), (aa, .inl (cJ, 64, .inr (.inl (lF ao)))), (ba, .inl (cJ, 64, .inr (.inl (lF bo)))), (sa, .inl (cJ, 4, .inr (.inl (lF so)))), (g0, .inr (1, [.ref mF, .ref mE, .long (lN G), .long (lN (G ^ (Q - 1) % P))])), (mF, .inr (0, [.long (lN P), .long (lN (P % 2 ^ 31)), .long (lN (P / 2 ^ 31)), .long (lN f1), .long (lN (2 ^ 62 % P)), .long (lN (2 ^ 124 % P)), .int (nI k1)])), (mE, .inr (0, [.long (lN Q), .long (lN (Q % 2 ^ 31)), .long (lN (Q / 2 ^ 31)), .long (lN f2), .long (lN (2 ^ 62 % Q)), .long (lN (2 ^ 124 % Q)), .int (nI k2)])), (ra, .inl (cJ, 8, .inr (.inl rw)))] H := hP
    have hD : va_D A [(pr0, .inr (5, [.ref h0, .ref cm])), (cm, .inl (cJ, 4, .inr (.inl (vp_updL (lF (updN cf 0 (G ^ Z1 * (ko I) ^ ((Q - C1) % Q) % P))) (1 : Int32).toNatClampNeg (lN (pa ^ Z1 * Y1 ^ ((Q - C1) % Q) % P)))))), (t0, .inr (4, [.ref ka, .ref aa, .ref ba, .ref sa, .ref g0, .int (nI tn), .int (nI kc), .int (nI bc), .int (nI shc), .long (lN kp), .long (lN shp), .long (lN pa), .long (lN pb), .int sht])), (ka, .inl (cJ, 4, .inr (.inl (lF ko)))), (aa, .inl (cJ, 64, .inr (.inl (lF ao)))), (ba, .inl (cJ, 64, .inr (.inl (lF bo)))), (sa, .inl (cJ, 4, .inr (.inl (lF so)))), (g0, .inr (1, [.ref mF, .ref mE, .long (lN G), .long (lN (G ^ (Q - 1) % P))])), (mF, .inr (0, [.long (lN P), .long (lN (P % 2 ^ 31)), .long (lN (P / 2 ^ 31)), .long (lN f1), .long (lN (2 ^ 62 % P)), .long (lN (2 ^ 124 % P)), .int (nI k1)])), (mE, .inr (0, [.long (lN Q), .long (lN (Q % 2 ^ 31)), .long (lN (Q / 2 ^ 31)), .long (lN f2), .long (lN (2 ^ 62 % Q)), .long (lN (2 ^ 124 % Q)), .int (nI k2)])), (ra, .inl (cJ, 8, .inr (.inl rw)))] := hD
    rw [hfe] at hP hD
    exact W.vret hx hb hr (fun t ht9 hW => ⟨⟨(), rfl, trivial, by rw [ht9]; exact hP, va_K.moved hW.alike hK, hD⟩, hS.F ht9⟩) hS.2.2 d_Pr_openHead_94
  · -- not taken
    exact absurd ((cmpe (k := 3) (by omega) 1 (by omega) rfl).mp c_4) (by omega)
