abbrev b_Pr_hold : ByteArray := prog_7_method_2_code
abbrev y_Pr_hold : MethodName := ⟨"BallotBoard$Proofs", "hold", "(LBallotBoard$Tally;[J)Z"⟩
abbrev w_Pr_hold : List Cond := .code y_Pr_hold b_Pr_hold 4 (some .boolean) :: gw
theorem d_Pr_hold_0 : decode b_Pr_hold 0 = .ok (.aload_n 1, 1) := by decide +kernel
theorem d_Pr_hold_1 : decode b_Pr_hold 1 = .ok (.invokevirtual 19, 3) := by decide +kernel
theorem d_Pr_hold_4 : decode b_Pr_hold 4 = .ok (.astore_n 3, 1) := by decide +kernel
theorem d_Pr_hold_5 : decode b_Pr_hold 5 = .ok (.aload_n 2, 1) := by decide +kernel
theorem d_Pr_hold_6 : decode b_Pr_hold 6 = .ok (.iconst 0, 1) := by decide +kernel
theorem d_Pr_hold_7 : decode b_Pr_hold 7 = .ok (.laload, 1) := by decide +kernel
theorem d_Pr_hold_8 : decode b_Pr_hold 8 = .ok (.ldc2_w 25, 3) := by decide +kernel
theorem d_Pr_hold_11 : decode b_Pr_hold 11 = .ok (.lcmp, 1) := by decide +kernel
theorem d_Pr_hold_12 : decode b_Pr_hold 12 = .ok (.ifCond .ne 53, 3) := by decide +kernel
theorem d_Pr_hold_15 : decode b_Pr_hold 15 = .ok (.aload_n 0, 1) := by decide +kernel
theorem d_Pr_hold_16 : decode b_Pr_hold 16 = .ok (.aload_n 3, 1) := by decide +kernel
theorem d_Pr_hold_17 : decode b_Pr_hold 17 = .ok (.aload_n 2, 1) := by decide +kernel
theorem d_Pr_hold_18 : decode b_Pr_hold 18 = .ok (.invokevirtual 27, 3) := by decide +kernel
theorem d_Pr_hold_21 : decode b_Pr_hold 21 = .ok (.ifCond .ne 5, 3) := by decide +kernel
theorem d_Pr_hold_24 : decode b_Pr_hold 24 = .ok (.iconst 0, 1) := by decide +kernel
theorem d_Pr_hold_25 : decode b_Pr_hold 25 = .ok (.ireturn, 1) := by decide +kernel
theorem d_Pr_hold_26 : decode b_Pr_hold 26 = .ok (.aload_n 0, 1) := by decide +kernel
theorem d_Pr_hold_27 : decode b_Pr_hold 27 = .ok (.aload_n 1, 1) := by decide +kernel
theorem d_Pr_hold_28 : decode b_Pr_hold 28 = .ok (.aload_n 2, 1) := by decide +kernel
theorem d_Pr_hold_29 : decode b_Pr_hold 29 = .ok (.invokevirtual 31, 3) := by decide +kernel
theorem d_Pr_hold_32 : decode b_Pr_hold 32 = .ok (.aload_n 0, 1) := by decide +kernel
theorem d_Pr_hold_33 : decode b_Pr_hold 33 = .ok (.aload_n 1, 1) := by decide +kernel
theorem d_Pr_hold_34 : decode b_Pr_hold 34 = .ok (.aload_n 2, 1) := by decide +kernel
theorem d_Pr_hold_35 : decode b_Pr_hold 35 = .ok (.invokevirtual 35, 3) := by decide +kernel
theorem d_Pr_hold_38 : decode b_Pr_hold 38 = .ok (.aload_n 3, 1) := by decide +kernel
theorem d_Pr_hold_39 : decode b_Pr_hold 39 = .ok (.aload_n 2, 1) := by decide +kernel
theorem d_Pr_hold_40 : decode b_Pr_hold 40 = .ok (.iconst 4, 1) := by decide +kernel
theorem d_Pr_hold_41 : decode b_Pr_hold 41 = .ok (.laload, 1) := by decide +kernel
theorem d_Pr_hold_42 : decode b_Pr_hold 42 = .ok (.aload_n 2, 1) := by decide +kernel
theorem d_Pr_hold_43 : decode b_Pr_hold 43 = .ok (.bipush 6, 2) := by decide +kernel
theorem d_Pr_hold_45 : decode b_Pr_hold 45 = .ok (.laload, 1) := by decide +kernel
theorem d_Pr_hold_46 : decode b_Pr_hold 46 = .ok (.invokevirtual 38, 3) := by decide +kernel
theorem d_Pr_hold_49 : decode b_Pr_hold 49 = .ok (.aload_n 0, 1) := by decide +kernel
theorem d_Pr_hold_50 : decode b_Pr_hold 50 = .ok (.aload_n 1, 1) := by decide +kernel
theorem d_Pr_hold_51 : decode b_Pr_hold 51 = .ok (.aload_n 2, 1) := by decide +kernel
theorem d_Pr_hold_52 : decode b_Pr_hold 52 = .ok (.invokevirtual 44, 3) := by decide +kernel
theorem d_Pr_hold_55 : decode b_Pr_hold 55 = .ok (.lcmp, 1) := by decide +kernel
theorem d_Pr_hold_56 : decode b_Pr_hold 56 = .ok (.ifCond .ne 7, 3) := by decide +kernel
theorem d_Pr_hold_59 : decode b_Pr_hold 59 = .ok (.iconst 1, 1) := by decide +kernel
theorem d_Pr_hold_60 : decode b_Pr_hold 60 = .ok (.goto 4, 3) := by decide +kernel
theorem d_Pr_hold_63 : decode b_Pr_hold 63 = .ok (.iconst 0, 1) := by decide +kernel
theorem d_Pr_hold_64 : decode b_Pr_hold 64 = .ok (.ireturn, 1) := by decide +kernel
theorem d_Pr_hold_65 : decode b_Pr_hold 65 = .ok (.aload_n 0, 1) := by decide +kernel
theorem d_Pr_hold_66 : decode b_Pr_hold 66 = .ok (.aload_n 3, 1) := by decide +kernel
theorem d_Pr_hold_67 : decode b_Pr_hold 67 = .ok (.aload_n 2, 1) := by decide +kernel
theorem d_Pr_hold_68 : decode b_Pr_hold 68 = .ok (.invokevirtual 48, 3) := by decide +kernel
theorem d_Pr_hold_71 : decode b_Pr_hold 71 = .ok (.ifCond .ne 5, 3) := by decide +kernel
theorem d_Pr_hold_74 : decode b_Pr_hold 74 = .ok (.iconst 0, 1) := by decide +kernel
theorem d_Pr_hold_75 : decode b_Pr_hold 75 = .ok (.ireturn, 1) := by decide +kernel
theorem d_Pr_hold_76 : decode b_Pr_hold 76 = .ok (.aload_n 0, 1) := by decide +kernel
theorem d_Pr_hold_77 : decode b_Pr_hold 77 = .ok (.aload_n 1, 1) := by decide +kernel
theorem d_Pr_hold_78 : decode b_Pr_hold 78 = .ok (.aload_n 2, 1) := by decide +kernel
theorem d_Pr_hold_79 : decode b_Pr_hold 79 = .ok (.invokevirtual 51, 3) := by decide +kernel
theorem d_Pr_hold_82 : decode b_Pr_hold 82 = .ok (.aload_n 2, 1) := by decide +kernel
theorem d_Pr_hold_83 : decode b_Pr_hold 83 = .ok (.iconst 3, 1) := by decide +kernel
theorem d_Pr_hold_84 : decode b_Pr_hold 84 = .ok (.laload, 1) := by decide +kernel
theorem d_Pr_hold_85 : decode b_Pr_hold 85 = .ok (.aload_n 0, 1) := by decide +kernel
theorem d_Pr_hold_86 : decode b_Pr_hold 86 = .ok (.aload_n 1, 1) := by decide +kernel
theorem d_Pr_hold_87 : decode b_Pr_hold 87 = .ok (.aload_n 2, 1) := by decide +kernel
theorem d_Pr_hold_88 : decode b_Pr_hold 88 = .ok (.invokevirtual 44, 3) := by decide +kernel
theorem d_Pr_hold_91 : decode b_Pr_hold 91 = .ok (.lcmp, 1) := by decide +kernel
theorem d_Pr_hold_92 : decode b_Pr_hold 92 = .ok (.ifCond .ne 7, 3) := by decide +kernel
theorem d_Pr_hold_95 : decode b_Pr_hold 95 = .ok (.iconst 1, 1) := by decide +kernel
theorem d_Pr_hold_96 : decode b_Pr_hold 96 = .ok (.goto 4, 3) := by decide +kernel
theorem d_Pr_hold_99 : decode b_Pr_hold 99 = .ok (.iconst 0, 1) := by decide +kernel
theorem d_Pr_hold_100 : decode b_Pr_hold 100 = .ok (.ireturn, 1) := by decide +kernel
set_option maxHeartbeats 8000000 in
set_option maxRecDepth 100000 in
theorem c_Pr_hold_1 (l : Launch) (dC : Nat → ClassId) (dI : Nat → Nat → Nat) (cJ cI : ClassId) (sz : Nat) (pr0 h0 cm : Nat) (cf : Nat → Nat) (aw ax ay : Nat) (w : Nat → Int64) (sc st : Nat → Int32) (L : Nat) (t0 ka aa ba sa : Nat) (ko ao bo so : Nat → Nat) (tn kc bc shc kp shp pa pb : Nat) (sht : Int32) (g0 mF mE P f1 k1 Q f2 k2 G : Nat) (ra : Nat) (rw : Nat → Int64) (rA sA : Nat) (I : Nat) (hok : gp_ok P f1 k1 Q f2 k2 G) (htn : tn ≤ 4) (hkc : kc ≤ 4) (hkp : kp < P) (hko : ∀ j, ko j < P) (hpa : pa < P) (hr0 : rw 0 = lN 1) (hr1 : rw 1 = lN I) (hI : I < tn) : Met l y_Pr_hold w_Pr_hold ({ frames := 4, cells := 0, slots := 0, locals := 130 }) (va_Pc [.ref pr0, .ref t0, .ref ra] (fun U => U.heap.size = sz ∧ va_P (dC, dI) classes (pr_ws pr0 h0 cm cJ cf ++ (ha_ws h0 aw ax ay cJ cI w sc st L ++ (tl_ws t0 ka aa ba sa (.ref g0) cJ ko ao bo so tn kc bc shc kp shp pa pb sht ++ (gp_ws g0 mF mE P f1 k1 Q f2 k2 G ++ rw_ws ra cJ rw)))) U.heap ∧ va_K (dC, dI) classes [(cJ, .long), (cI, .int)] U ∧ va_D (fun _ => True) (pr_ws pr0 h0 cm cJ cf ++ (ha_ws h0 aw ax ay cJ cI w sc st L ++ (tl_ws t0 ka aa ba sa (.ref g0) cJ ko ao bo so tn kc bc shc kp shp pa pb sht ++ (gp_ws g0 mF mE P f1 k1 Q f2 k2 G ++ rw_ws ra cJ rw)))) ∧ ha_Z rA sA (va_A (pr_ws pr0 h0 cm cJ cf ++ (ha_ws h0 aw ax ay cJ cI w sc st L ++ (tl_ws t0 ka aa ba sa (.ref g0) cJ ko ao bo so tn kc bc shc kp shp pa pb sht ++ (gp_ws g0 mF mE P f1 k1 Q f2 k2 G ++ rw_ws ra cJ rw)))) sz) U U.heap)) (va_Qi (fun (r : Int32) (u9 : (Nat → Nat) × HU) => bz r (keyHd P Q G I (rw 2) (rw 3) (rw 4))) (fun u9 t => va_P (dC, dI) classes (pr_ws pr0 h0 cm cJ u9.1 ++ (hu_ws h0 aw ax ay cJ cI u9.2 ++ (tl_ws t0 ka aa ba sa (.ref g0) cJ ko ao bo so tn kc bc shc kp shp pa pb sht ++ (gp_ws g0 mF mE P f1 k1 Q f2 k2 G ++ rw_ws ra cJ rw)))) t.heap ∧ va_K (dC, dI) classes [(cJ, .long), (cI, .int)] t ∧ va_D (va_A (pr_ws pr0 h0 cm cJ cf ++ (ha_ws h0 aw ax ay cJ cI w sc st L ++ (tl_ws t0 ka aa ba sa (.ref g0) cJ ko ao bo so tn kc bc shc kp shp pa pb sht ++ (gp_ws g0 mF mE P f1 k1 Q f2 k2 G ++ rw_ws ra cJ rw)))) sz) (pr_ws pr0 h0 cm cJ u9.1 ++ (hu_ws h0 aw ax ay cJ cI u9.2 ++ (tl_ws t0 ka aa ba sa (.ref g0) cJ ko ao bo so tn kc bc shc kp shp pa pb sht ++ (gp_ws g0 mF mE P f1 k1 Q f2 k2 G ++ rw_ws ra cJ rw))))) (va_A (pr_ws pr0 h0 cm cJ cf ++ (ha_ws h0 aw ax ay cJ cI w sc st L ++ (tl_ws t0 ka aa ba sa (.ref g0) cJ ko ao bo so tn kc bc shc kp shp pa pb sht ++ (gp_ws g0 mF mE P f1 k1 Q f2 k2 G ++ rw_ws ra cJ rw)))) sz)) 0 0 (va_A (pr_ws pr0 h0 cm cJ cf ++ (ha_ws h0 aw ax ay cJ cI w sc st L ++ (tl_ws t0 ka aa ba sa (.ref g0) cJ ko ao bo so tn kc bc shc kp shp pa pb sht ++ (gp_ws g0 mF mE P f1 k1 Q f2 k2 G ++ rw_ws ra cJ rw)))) sz) := by
  refine Met.ofW (cc := b_Pr_hold) (maxL := 4) (ret := (some .boolean)) (by decide) rfl ?_
  intro p e s m args below meth c s₁ Bd hml hv
  obtain ⟨rfl, hsz, hP, hK, hD0, hZha⟩ := hv
  have hx := Bd.exec
  have hb := Bd.bytes
  have hr := Bd.returns
  have hts := atoms_spec (ws := w_Pr_hold) Bd.pre
  have hown : s.vm.findClass "BallotBoard$Proofs" = some m.cls := findClass_of_methodNamed Bd.named
  have hlocks := Bd.notSynchronized
  subst hsz
  have hD := hD0.self (sz := s.heap.size)
  generalize hAe : va_A (pr_ws pr0 h0 cm cJ cf ++ (ha_ws h0 aw ax ay cJ cI w sc st L ++ (tl_ws t0 ka aa ba sa (.ref g0) cJ ko ao bo so tn kc bc shc kp shp pa pb sht ++ (gp_ws g0 mF mE P f1 k1 Q f2 k2 G ++ rw_ws ra cJ rw)))) s.heap.size = A at hD hZha ⊢
  have hA : ∀ q : Nat, s.heap.size ≤ q → A q := fun q h => by rw [← hAe]; exact Or.inr h
  have hS : va_S A s.heap s.heap [] := va_S.rf
  have hl := lv_entry ([.ref pr0, .ref t0, .ref ra]) (n := 4) (Nat.le_of_ble_eq_true rfl)
  rw [lg_entry_eq]
  generalize (lg_sl ([.ref pr0, .ref t0, .ref ra]) ++ List.replicate (4 - (lg_sl ([.ref pr0, .ref t0, .ref ra])).length) Slot.unset).toArray = ls at hl ⊢
  have hl : lv_has ls 4 [(0, .ref pr0), (1, .ref t0), (2, .ref ra)] := hl
  obtain ⟨hokF, hokE, hPQ, hG2, hGP, hGQ⟩ := id hok
  obtain ⟨hoF, h3F, h61F, _, _, hk61F, hNkF⟩ := id hokF
  obtain ⟨hoE, h3E, h61E, _, _, hk61E, hNkE⟩ := id hokE
  have hck := ckey_lt (tn := tn) (kc := kc) hkp
  refine lv_aload_n hx hb d_Pr_hold_0 rfl (lv_at hl 1 rfl) ?_
  have hPc := hP.sub (ws' := (tl_ws t0 ka aa ba sa (.ref g0) cJ ko ao bo so tn kc bc shc kp shp pa pb sht)) [6, 7, 8, 9, 10] rfl
  have hKc := hK.sub (tys' := [(cJ, .long), (cI, .int)]) [0, 1] rfl
  refine va_callr (va_runV (As := []) (rest := []) ⟨hx, hb, hml, hown, hts⟩ (c_Ta_group l s.heap dC dI cJ cI t0 ka aa ba sa g0 ko ao bo so tn kc bc shc kp shp pa pb sht hPc) (cwV 0 hts (gw_V gk_435 gk_436 gk_437 gk_5 gk_438) rfl rfl rfl (by decide +kernel) ⟨Nat.le_of_ble_eq_true rfl, Nat.le_of_ble_eq_true rfl⟩) ⟨fun a U g mk q => ⟨q.1, q.2.1, va_K.moved (u := U) (U := U.calling g mk a) (Vm.Alike.refl U.vm) q.2.2⟩, va_recv hK hP (ci := 4) (q0 := 6) rfl rfl, fun U hU hW => ⟨rfl, hU, va_K.moved hW.alike hKc⟩⟩ rfl rfl hl.1 rfl (lv_room (Nat.le_of_ble_eq_true rfl)) d_Pr_hold_1 ⟨Nat.le_of_ble_eq_true rfl, Nat.le_of_ble_eq_true rfl⟩) hS (fun q _ h => h.elim) (fun q h => h.elim) (fun u9 r1 t9 H1 locs ht hvm hw hB hz1 hk1 hS => ?_)
  obtain ⟨hra, hB⟩ := hB
  have hra := hra.symm
  subst hra
  obtain rfl : s.heap = H1 := hB.symm.trans ht
  refine lv_astore_n (lv' := [(3, .ref g0), (0, .ref pr0), (1, .ref t0), (2, .ref ra)]) hx hb d_Pr_hold_4 rfl hl (by decide) rfl (fun ls hl => ?_)
  refine lv_aload_n hx hb d_Pr_hold_5 rfl (lv_at hl 3 rfl) ?_
  refine lv_iconst (v := 0) hx hb d_Pr_hold_6 (by decide) ?_
  refine va_lald hx hb hK hP 14 0 rfl rfl (vp_lit rfl) d_Pr_hold_7 ?_
  refine lv_topl (fun v_1 ev_1 => ?_)
  obtain rfl : v_1 = lN 1 := ev_1.trans hr0
  refine lv_ldc2 (v := 2) hx hb hown (hts _ (List.mem_cons_of_mem _ gk_439)) d_Pr_hold_8 ?_
  refine W.lcmp hx hb d_Pr_hold_11 ?_
  refine lv_if_ne (tgt := 65) hx hb d_Pr_hold_12 (by decide) (fun c_2 => ?_) (fun c_2 => ?_)
  · -- taken
    refine lv_aload_n hx hb d_Pr_hold_65 rfl (lv_at hl 1 rfl) ?_
    refine lv_aload_n hx hb d_Pr_hold_66 rfl (lv_at hl 0 rfl) ?_
    refine lv_aload_n hx hb d_Pr_hold_67 rfl (lv_at hl 3 rfl) ?_
    have hPc := hP.sub (ws' := (gp_ws g0 mF mE P f1 k1 Q f2 k2 G ++ rw_ws ra cJ rw)) [11, 12, 13, 14] rfl
    have hKc := hK.sub (tys' := [(cJ, .long), (cI, .int)]) [0, 1] rfl
    refine va_calli (va_runV (As := [.ref g0, .ref ra]) (rest := []) ⟨hx, hb, hml, hown, hts⟩ (c_Pr_isHeadSound l s.heap dC dI cJ cI pr0 g0 mF mE P f1 k1 Q f2 k2 G ra rw hPc hok) (cwV 2 hts (gw_V gk_548 gk_550 gp_15 gk_4 gk_551) rfl rfl rfl (by decide +kernel) ⟨Nat.le_of_ble_eq_true rfl, Nat.le_of_ble_eq_true rfl⟩) ⟨fun a U g mk q => ⟨q.1, q.2.1, va_K.moved (u := U) (U := U.calling g mk a) (Vm.Alike.refl U.vm) q.2.2⟩, va_recv hK hP (ci := 5) (q0 := 0) rfl rfl, fun U hU hW => ⟨rfl, hU, va_K.moved hW.alike hKc⟩⟩ rfl rfl hl.1 rfl (lv_room (Nat.le_of_ble_eq_true rfl)) d_Pr_hold_68 ⟨Nat.le_of_ble_eq_true rfl, Nat.le_of_ble_eq_true rfl⟩) hS (fun q _ h => h.elim) (fun q h => h.elim) (fun r68 u9 t9 H1 locs ht hvm hw hB hz1 hk1 hS => ?_)
    obtain rfl : s.heap = H1 := hB.symm.trans ht
    have h68 := hw
    refine lv_if_ne (tgt := 76) hx hb d_Pr_hold_71 (by decide) (fun c_3 => ?_) (fun c_3 => ?_)
    · -- taken
      obtain ⟨⟨C1, e3, hC9⟩, ⟨Z1, e4, hZ9⟩, ⟨Y1, e2, hY1, hY9, hYQ⟩⟩ := bz_t h68 c_3
      refine lv_aload_n hx hb d_Pr_hold_76 rfl (lv_at hl 1 rfl) ?_
      refine lv_aload_n hx hb d_Pr_hold_77 rfl (lv_at hl 2 rfl) ?_
      refine lv_aload_n hx hb d_Pr_hold_78 rfl (lv_at hl 3 rfl) ?_
      have hPc := hP.sub (ws' := (pr_ws pr0 h0 cm cJ cf ++ (tl_ws t0 ka aa ba sa (.ref g0) cJ ko ao bo so tn kc bc shc kp shp pa pb sht ++ (gp_ws g0 mF mE P f1 k1 Q f2 k2 G ++ rw_ws ra cJ rw)))) [0, 1, 6, 7, 8, 9, 10, 11, 12, 13, 14] rfl
      have hDc := hD.sub (ws' := (pr_ws pr0 h0 cm cJ cf ++ (tl_ws t0 ka aa ba sa (.ref g0) cJ ko ao bo so tn kc bc shc kp shp pa pb sht ++ (gp_ws g0 mF mE P f1 k1 Q f2 k2 G ++ rw_ws ra cJ rw)))) [0, 1, 6, 7, 8, 9, 10, 11, 12, 13, 14] (by decide) rfl
      have hKc := hK.sub (tys' := [(cJ, .long), (cI, .int)]) [0, 1] rfl
      have hFc := va_free (wc := (pr_ws pr0 h0 cm cJ cf ++ (tl_ws t0 ka aa ba sa (.ref g0) cJ ko ao bo so tn kc bc shc kp shp pa pb sht ++ (gp_ws g0 mF mE P f1 k1 Q f2 k2 G ++ rw_ws ra cJ rw)))) hD hS hA [0, 1, 6, 7, 8, 9, 10, 11, 12, 13, 14] rfl
      refine va_callv (va_runV (As := [.ref t0, .ref ra]) (rest := []) ⟨hx, hb, hml, hown, hts⟩ (c_Pr_openHead_1 l dC dI cJ cI s.heap.size pr0 h0 cm cf t0 ka aa ba sa ko ao bo so tn kc bc shc kp shp pa pb sht g0 mF mE P f1 k1 Q f2 k2 G ra rw I Y1 C1 Z1 hok htn hkc hkp hr0 hr1 e2 e3 e4 hI hY9 hC9 hZ9 hko hpa) (cwV 2 hts (gw_V gk_552 gk_554 gp_16 gk_4 gk_555) rfl rfl rfl (by decide +kernel) ⟨Nat.le_of_ble_eq_true rfl, Nat.le_of_ble_eq_true rfl⟩) ⟨fun a U g mk q => by obtain ⟨q0, q1, qP, qK, qD⟩ := q; exact ⟨q0, q1, qP, va_K.moved (u := U) (U := U.calling g mk a) (Vm.Alike.refl U.vm) qK, qD⟩, va_recv hK hP (ci := 5) (q0 := 0) rfl rfl, fun U hU hW => ⟨rfl, by rw [hU], by rw [hU]; exact hPc, va_K.moved hW.alike hKc, hDc.weaken (fun _ _ _ _ => trivial)⟩⟩ rfl rfl hl.1 rfl (lv_room (Nat.le_of_ble_eq_true rfl)) d_Pr_hold_79 ⟨Nat.le_of_ble_eq_true rfl, Nat.le_of_ble_eq_true rfl⟩) hS (fun q _ h => hFc q h) hFc (fun u9 t9 H1 locs ht hvm hw hB hz1 hk1 hS => ?_)
      obtain ⟨hP1, hK1, hD1⟩ := hB
      rw [ht] at hP1
      obtain ⟨hP, hD⟩ := va_join (wr := [(h0, .inr (2, [.ref aw, .ref ax, .ref ay, .int (nI L)])), (aw, .inl (cJ, 16, .inr (.inl w))), (ax, .inl (cI, 64, .inl sc)), (ay, .inl (cI, 8, .inl st))]) (w1 := [(pr0, .inr (5, [.ref h0, .ref cm])), (cm, .inl (cJ, 4, .inr (.inl (lF (updN cf 0 (G ^ Z1 * Y1 ^ ((Q - C1) % Q) % P)))))), (t0, .inr (4, [.ref ka, .ref aa, .ref ba, .ref sa, .ref g0, .int (nI tn), .int (nI kc), .int (nI bc), .int (nI shc), .long (lN kp), .long (lN shp), .long (lN pa), .long (lN pb), .int sht])), (ka, .inl (cJ, 4, .inr (.inl (lF ko)))), (aa, .inl (cJ, 64, .inr (.inl (lF ao)))), (ba, .inl (cJ, 64, .inr (.inl (lF bo)))), (sa, .inl (cJ, 4, .inr (.inl (lF so)))), (g0, .inr (1, [.ref mF, .ref mE, .long (lN G), .long (lN (G ^ (Q - 1) % P))])), (mF, .inr (0, [.long (lN P), .long (lN (P % 2 ^ 31)), .long (lN (P / 2 ^ 31)), .long (lN f1), .long (lN (2 ^ 62 % P)), .long (lN (2 ^ 124 % P)), .int (nI k1)])), (mE, .inr (0, [.long (lN Q), .long (lN (Q % 2 ^ 31)), .long (lN (Q / 2 ^ 31)), .long (lN f2), .long (lN (2 ^ 62 % Q)), .long (lN (2 ^ 124 % Q)), .int (nI k2)])), (ra, .inl (cJ, 8, .inr (.inl rw)))]) hP hD [0, 1, 6, 7, 8, 9, 10, 11, 12, 13, 14] [2, 3, 4, 5] rfl rfl (by decide) (by decide) hk1 hFc hP1 hD1
      have hP := hP.sub (ws' := [(pr0, .inr (5, [.ref h0, .ref cm])), (cm, .inl (cJ, 4, .inr (.inl (lF (updN cf 0 (G ^ Z1 * Y1 ^ ((Q - C1) % Q) % P)))))), (h0, .inr (2, [.ref aw, .ref ax, .ref ay, .int (nI L)])), (aw, .inl (cJ, 16, .inr (.inl w))), (ax, .inl (cI, 64, .inl sc)), (ay, .inl (cI, 8, .inl st)), (t0, .inr (4, [.ref ka, .ref aa, .ref ba, .ref sa, .ref g0, .int (nI tn), .int (nI kc), .int (nI bc), .int (nI shc), .long (lN kp), .long (lN shp), .long (lN pa), .long (lN pb), .int sht])), (ka, .inl (cJ, 4, .inr (.inl (lF ko)))), (aa, .inl (cJ, 64, .inr (.inl (lF ao)))), (ba, .inl (cJ, 64, .inr (.inl (lF bo)))), (sa, .inl (cJ, 4, .inr (.inl (lF so)))), (g0, .inr (1, [.ref mF, .ref mE, .long (lN G), .long (lN (G ^ (Q - 1) % P))])), (mF, .inr (0, [.long (lN P), .long (lN (P % 2 ^ 31)), .long (lN (P / 2 ^ 31)), .long (lN f1), .long (lN (2 ^ 62 % P)), .long (lN (2 ^ 124 % P)), .int (nI k1)])), (mE, .inr (0, [.long (lN Q), .long (lN (Q % 2 ^ 31)), .long (lN (Q / 2 ^ 31)), .long (lN f2), .long (lN (2 ^ 62 % Q)), .long (lN (2 ^ 124 % Q)), .int (nI k2)])), (ra, .inl (cJ, 8, .inr (.inl rw)))]) [4, 5, 0, 1, 2, 3, 6, 7, 8, 9, 10, 11, 12, 13, 14] rfl
      have hD := hD.sub (ws' := [(pr0, .inr (5, [.ref h0, .ref cm])), (cm, .inl (cJ, 4, .inr (.inl (lF (updN cf 0 (G ^ Z1 * Y1 ^ ((Q - C1) % Q) % P)))))), (h0, .inr (2, [.ref aw, .ref ax, .ref ay, .int (nI L)])), (aw, .inl (cJ, 16, .inr (.inl w))), (ax, .inl (cI, 64, .inl sc)), (ay, .inl (cI, 8, .inl st)), (t0, .inr (4, [.ref ka, .ref aa, .ref ba, .ref sa, .ref g0, .int (nI tn), .int (nI kc), .int (nI bc), .int (nI shc), .long (lN kp), .long (lN shp), .long (lN pa), .long (lN pb), .int sht])), (ka, .inl (cJ, 4, .inr (.inl (lF ko)))), (aa, .inl (cJ, 64, .inr (.inl (lF ao)))), (ba, .inl (cJ, 64, .inr (.inl (lF bo)))), (sa, .inl (cJ, 4, .inr (.inl (lF so)))), (g0, .inr (1, [.ref mF, .ref mE, .long (lN G), .long (lN (G ^ (Q - 1) % P))])), (mF, .inr (0, [.long (lN P), .long (lN (P % 2 ^ 31)), .long (lN (P / 2 ^ 31)), .long (lN f1), .long (lN (2 ^ 62 % P)), .long (lN (2 ^ 124 % P)), .int (nI k1)])), (mE, .inr (0, [.long (lN Q), .long (lN (Q % 2 ^ 31)), .long (lN (Q / 2 ^ 31)), .long (lN f2), .long (lN (2 ^ 62 % Q)), .long (lN (2 ^ 124 % Q)), .int (nI k2)])), (ra, .inl (cJ, 8, .inr (.inl rw)))]) [4, 5, 0, 1, 2, 3, 6, 7, 8, 9, 10, 11, 12, 13, 14] (by decide) rfl
      generalize H1 = H at hP hS ⊢
      refine lv_aload_n hx hb d_Pr_hold_82 rfl (lv_at hl 3 rfl) ?_
      refine lv_iconst (v := 3) hx hb d_Pr_hold_83 (by decide) ?_
      refine va_lald hx hb hK hP 14 0 rfl rfl (vp_lit rfl) d_Pr_hold_84 ?_
      refine lv_topl (fun v_5 ev_5 => ?_)
      obtain rfl : v_5 = lN C1 := ev_5.trans e3
      refine lv_aload_n hx hb d_Pr_hold_85 rfl (lv_at hl 1 rfl) ?_
      refine lv_aload_n hx hb d_Pr_hold_86 rfl (lv_at hl 2 rfl) ?_
      refine lv_aload_n hx hb d_Pr_hold_87 rfl (lv_at hl 3 rfl) ?_
      have hPc := hP.sub (ws' := (pr_ws pr0 h0 cm cJ (updN cf 0 (G ^ Z1 * Y1 ^ ((Q - C1) % Q) % P)) ++ (ha_ws h0 aw ax ay cJ cI w sc st L ++ (tl_ws t0 ka aa ba sa (.ref g0) cJ ko ao bo so tn kc bc shc kp shp pa pb sht ++ (gp_ws g0 mF mE P f1 k1 Q f2 k2 G ++ rw_ws ra cJ rw))))) [0, 1, 2, 3, 4, 5, 6, 7, 8, 9, 10, 11, 12, 13, 14] rfl
      have hDc := hD.sub (ws' := (pr_ws pr0 h0 cm cJ (updN cf 0 (G ^ Z1 * Y1 ^ ((Q - C1) % Q) % P)) ++ (ha_ws h0 aw ax ay cJ cI w sc st L ++ (tl_ws t0 ka aa ba sa (.ref g0) cJ ko ao bo so tn kc bc shc kp shp pa pb sht ++ (gp_ws g0 mF mE P f1 k1 Q f2 k2 G ++ rw_ws ra cJ rw))))) [0, 1, 2, 3, 4, 5, 6, 7, 8, 9, 10, 11, 12, 13, 14] (by decide) rfl
      have hKc := hK.sub (tys' := [(cJ, .long), (cI, .int)]) [0, 1] rfl
      have hFc := va_free (wc := (pr_ws pr0 h0 cm cJ (updN cf 0 (G ^ Z1 * Y1 ^ ((Q - C1) % Q) % P)) ++ (ha_ws h0 aw ax ay cJ cI w sc st L ++ (tl_ws t0 ka aa ba sa (.ref g0) cJ ko ao bo so tn kc bc shc kp shp pa pb sht ++ (gp_ws g0 mF mE P f1 k1 Q f2 k2 G ++ rw_ws ra cJ rw))))) hD hS hA [0, 1, 2, 3, 4, 5, 6, 7, 8, 9, 10, 11, 12, 13, 14] rfl
      have hZc0 : ha_Z rA sA (va_A (pr_ws pr0 h0 cm cJ (updN cf 0 (G ^ Z1 * Y1 ^ ((Q - C1) % Q) % P)) ++ (ha_ws h0 aw ax ay cJ cI w sc st L ++ (tl_ws t0 ka aa ba sa (.ref g0) cJ ko ao bo so tn kc bc shc kp shp pa pb sht ++ (gp_ws g0 mF mE P f1 k1 Q f2 k2 G ++ rw_ws ra cJ rw)))) H.size) s H := (hZha.kept hS.2.1).narrow hFc
      refine va_calll (va_runV (As := [.ref t0, .ref ra]) (rest := [.long (lN C1)]) ⟨hx, hb, hml, hown, hts⟩ (c_Pr_challenge_1 l dC dI cJ cI H.size pr0 h0 cm (updN cf 0 (G ^ Z1 * Y1 ^ ((Q - C1) % Q) % P)) aw ax ay w sc st L t0 ka aa ba sa ko ao bo so tn kc bc shc kp shp pa pb sht g0 mF mE P f1 k1 Q f2 k2 G ra rw rA sA I ([lN P, lN G, lN 1, lN I, lN Y1, lN (G ^ Z1 * Y1 ^ ((Q - C1) % Q) % P)]) hok hr0 hr1 (by rw [e2]; rfl)) (cwV 2 hts (gw_V gk_494 gk_496 gp_12 gk_4 gk_497) rfl rfl rfl (by decide +kernel) ⟨Nat.le_of_ble_eq_true rfl, Nat.le_of_ble_eq_true rfl⟩) ⟨fun a U g mk q => by obtain ⟨q0, q1, qP, qK, qD, qZ0⟩ := q; exact ⟨q0, q1, qP, va_K.moved (u := U) (U := U.calling g mk a) (Vm.Alike.refl U.vm) qK, qD, ha_Z.moved (u := U) (U := U.calling g mk a) (Vm.Alike.refl U.vm) qZ0⟩, va_recv hK hP (ci := 5) (q0 := 0) rfl rfl, fun U hU hW => ⟨rfl, by rw [hU], by rw [hU]; exact hPc, va_K.moved hW.alike hKc, hDc.weaken (fun _ _ _ _ => trivial), by rw [hU]; exact ha_Z.moved hW.alike hZc0⟩⟩ rfl rfl hl.1 rfl (lv_room (Nat.le_of_ble_eq_true rfl)) d_Pr_hold_88 ⟨Nat.le_of_ble_eq_true rfl, Nat.le_of_ble_eq_true rfl⟩) hS (fun q _ h => hFc q h) hFc (fun r_7 u9 t9 H1 locs ht hvm hw hB hz1 hk1 hS => ?_)
      obtain ⟨gwk_6, gsk_6, gtk_6, glk_6⟩ := u9
      have hw : r_7 = lN (hsh Q ([lN P, lN G, lN 1, lN I, lN Y1, lN (G ^ Z1 * Y1 ^ ((Q - C1) % Q) % P)])) := hw
      subst hw
      obtain ⟨hP1, hK1, hD1⟩ := hB
      rw [ht] at hP1
      obtain ⟨hP, hD⟩ := va_join (wr := []) (w1 := [(pr0, .inr (5, [.ref h0, .ref cm])), (cm, .inl (cJ, 4, .inr (.inl (lF (updN cf 0 (G ^ Z1 * Y1 ^ ((Q - C1) % Q) % P)))))), (h0, .inr (2, [.ref aw, .ref ax, .ref ay, .int (nI glk_6)])), (aw, .inl (cJ, 16, .inr (.inl gwk_6))), (ax, .inl (cI, 64, .inl gsk_6)), (ay, .inl (cI, 8, .inl gtk_6)), (t0, .inr (4, [.ref ka, .ref aa, .ref ba, .ref sa, .ref g0, .int (nI tn), .int (nI kc), .int (nI bc), .int (nI shc), .long (lN kp), .long (lN shp), .long (lN pa), .long (lN pb), .int sht])), (ka, .inl (cJ, 4, .inr (.inl (lF ko)))), (aa, .inl (cJ, 64, .inr (.inl (lF ao)))), (ba, .inl (cJ, 64, .inr (.inl (lF bo)))), (sa, .inl (cJ, 4, .inr (.inl (lF so)))), (g0, .inr (1, [.ref mF, .ref mE, .long (lN G), .long (lN (G ^ (Q - 1) % P))])), (mF, .inr (0, [.long (lN P), .long (lN (P % 2 ^ 31)), .long (lN (P / 2 ^ 31)), .long (lN f1), .long (lN (2 ^ 62 % P)), .long (lN (2 ^ 124 % P)), .int (nI k1)])), (mE, .inr (0, [.long (lN Q), .long (lN (Q % 2 ^ 31)), .long (lN (Q / 2 ^ 31)), .long (lN f2), .long (lN (2 ^ 62 % Q)), .long (lN (2 ^ 124 % Q)), .int (nI k2)])), (ra, .inl (cJ, 8, .inr (.inl rw)))]) hP hD [0, 1, 2, 3, 4, 5, 6, 7, 8, 9, 10, 11, 12, 13, 14] [] rfl rfl (by decide) (by decide) hk1 hFc hP1 hD1
      have hP := hP.sub (ws' := [(pr0, .inr (5, [.ref h0, .ref cm])), (cm, .inl (cJ, 4, .inr (.inl (lF (updN cf 0 (G ^ Z1 * Y1 ^ ((Q - C1) % Q) % P)))))), (h0, .inr (2, [.ref aw, .ref ax, .ref ay, .int (nI glk_6)])), (aw, .inl (cJ, 16, .inr (.inl gwk_6))), (ax, .inl (cI, 64, .inl gsk_6)), (ay, .inl (cI, 8, .inl gtk_6)), (t0, .inr (4, [.ref ka, .ref aa, .ref ba, .ref sa, .ref g0, .int (nI tn), .int (nI kc), .int (nI bc), .int (nI shc), .long (lN kp), .long (lN shp), .long (lN pa), .long (lN pb), .int sht])), (ka, .inl (cJ, 4, .inr (.inl (lF ko)))), (aa, .inl (cJ, 64, .inr (.inl (lF ao)))), (ba, .inl (cJ, 64, .inr (.inl (lF bo)))), (sa, .inl (cJ, 4, .inr (.inl (lF so)))), (g0, .inr (1, [.ref mF, .ref mE, .long (lN G), .long (lN (G ^ (Q - 1) % P))])), (mF, .inr (0, [.long (lN P), .long (lN (P % 2 ^ 31)), .long (lN (P / 2 ^ 31)), .long (lN f1), .long (lN (2 ^ 62 % P)), .long (lN (2 ^ 124 % P)), .int (nI k1)])), (mE, .inr (0, [.long (lN Q), .long (lN (Q % 2 ^ 31)), .long (lN (Q / 2 ^ 31)), .long (lN f2), .long (lN (2 ^ 62 % Q)), .long (lN (2 ^ 124 % Q)), .int (nI k2)])), (ra, .inl (cJ, 8, .inr (.inl rw)))]) [0, 1, 2, 3, 4, 5, 6, 7, 8, 9, 10, 11, 12, 13, 14] rfl
      have hD := hD.sub (ws' := [(pr0, .inr (5, [.ref h0, .ref cm])), (cm, .inl (cJ, 4, .inr (.inl (lF (updN cf 0 (G ^ Z1 * Y1 ^ ((Q - C1) % Q) % P)))))), (h0, .inr (2, [.ref aw, .ref ax, .ref ay, .int (nI glk_6)])), (aw, .inl (cJ, 16, .inr (.inl gwk_6))), (ax, .inl (cI, 64, .inl gsk_6)), (ay, .inl (cI, 8, .inl gtk_6)), (t0, .inr (4, [.ref ka, .ref aa, .ref ba, .ref sa, .ref g0, .int (nI tn), .int (nI kc), .int (nI bc), .int (nI shc), .long (lN kp), .long (lN shp), .long (lN pa), .long (lN pb), .int sht])), (ka, .inl (cJ, 4, .inr (.inl (lF ko)))), (aa, .inl (cJ, 64, .inr (.inl (lF ao)))), (ba, .inl (cJ, 64, .inr (.inl (lF bo)))), (sa, .inl (cJ, 4, .inr (.inl (lF so)))), (g0, .inr (1, [.ref mF, .ref mE, .long (lN G), .long (lN (G ^ (Q - 1) % P))])), (mF, .inr (0, [.long (lN P), .long (lN (P % 2 ^ 31)), .long (lN (P / 2 ^ 31)), .long (lN f1), .long (lN (2 ^ 62 % P)), .long (lN (2 ^ 124 % P)), .int (nI k1)])), (mE, .inr (0, [.long (lN Q), .long (lN (Q % 2 ^ 31)), .long (lN (Q / 2 ^ 31)), .long (lN f2), .long (lN (2 ^ 62 % Q)), .long (lN (2 ^ 124 % Q)), .int (nI k2)])), (ra, .inl (cJ, 8, .inr (.inl rw)))]) [0, 1, 2, 3, 4, 5, 6, 7, 8, 9, 10, 11, 12, 13, 14] (by decide) rfl
      generalize H1 = H at hP hS ⊢
      refine W.lcmp hx hb d_Pr_hold_91 ?_
      refine lv_if_ne (tgt := 99) hx hb d_Pr_hold_92 (by decide) (fun c_8 => ?_) (fun c_8 => ?_)
      · -- taken
        have hbad : ¬ keyHd P Q G I (rw 2) (rw 3) (rw 4) := by
          rintro ⟨Y2, C2, Z2, a2, a3, a4, hC2, hZ2, hY2, hY3, hY4, hh⟩
          obtain rfl := lN_inj (by omega) (by omega) (e2.symm.trans a2)
          obtain rfl := lN_inj (by omega) (by omega) (e3.symm.trans a3)
          obtain rfl := lN_inj (by omega) (by omega) (e4.symm.trans a4)
          exact c_8 ((ln_cmp_eq (by omega) (by have := hsh_lt (Q := Q) (by omega) [lN P, lN G, lN 1, lN I, lN Y1, lN (G ^ Z1 * Y1 ^ ((Q - C1) % Q) % P)]; omega)).mpr hh)
        refine lv_iconst (v := 0) hx hb d_Pr_hold_99 (by decide) ?_
        exact W.zret (v := 0) hx hb hr (by decide) (fun t ht9 hW => ⟨⟨_, (updN cf 0 (G ^ Z1 * Y1 ^ ((Q - C1) % Q) % P), gwk_6, gsk_6, gtk_6, glk_6), rfl, (bz_0 hbad), by rw [ht9]; exact hP, va_K.moved hW.alike hK, hD⟩, hS.F ht9⟩) hS.2.2 d_Pr_hold_100
      · -- not taken
        have hgood : keyHd P Q G I (rw 2) (rw 3) (rw 4) := ⟨Y1, C1, Z1, e2, e3, e4, hC9, hZ9, hY1, hY9, hYQ, (ln_cmp_eq (by omega) (by have := hsh_lt (Q := Q) (by omega) [lN P, lN G, lN 1, lN I, lN Y1, lN (G ^ Z1 * Y1 ^ ((Q - C1) % Q) % P)]; omega)).mp c_8⟩
        refine lv_iconst (v := 1) hx hb d_Pr_hold_95 (by decide) ?_
        refine lv_goto (tgt := 100) hx hb d_Pr_hold_96 (by decide) ?_
        exact W.zret (v := 1) hx hb hr (by decide) (fun t ht9 hW => ⟨⟨_, (updN cf 0 (G ^ Z1 * Y1 ^ ((Q - C1) % Q) % P), gwk_6, gsk_6, gtk_6, glk_6), rfl, (bz_1 hgood), by rw [ht9]; exact hP, va_K.moved hW.alike hK, hD⟩, hS.F ht9⟩) hS.2.2 d_Pr_hold_100
    · -- not taken
      have hbad : ¬ keyHd P Q G I (rw 2) (rw 3) (rw 4) := fun ⟨Y2, C2, Z2, a2, a3, a4, hC2, hZ2, hY2, hY3, hY4, hh⟩ => bz_f h68 c_3 ⟨⟨C2, a3, hC2⟩, ⟨Z2, a4, hZ2⟩, ⟨Y2, a2, hY2, hY3, hY4⟩⟩
      refine lv_iconst (v := 0) hx hb d_Pr_hold_74 (by decide) ?_
      exact W.zret (v := 0) hx hb hr (by decide) (fun t ht9 hW => ⟨⟨_, (cf, w, sc, st, L), rfl, (bz_0 hbad), by rw [ht9]; exact hP, va_K.moved hW.alike hK, hD⟩, hS.F ht9⟩) hS.2.2 d_Pr_hold_75
  · -- not taken
    exact absurd ((cmpe (k := 1) (by omega) 2 (by omega) rfl).mp c_2) (by omega)
set_option maxHeartbeats 8000000 in
set_option maxRecDepth 100000 in
theorem c_Pr_hold_3 (l : Launch) (dC : Nat → ClassId) (dI : Nat → Nat → Nat) (cJ cI : ClassId) (sz : Nat) (pr0 h0 cm : Nat) (cf : Nat → Nat) (aw ax ay : Nat) (w : Nat → Int64) (sc st : Nat → Int32) (L : Nat) (t0 ka aa ba sa : Nat) (ko ao bo so : Nat → Nat) (tn kc bc shc kp shp pa pb : Nat) (sht : Int32) (g0 mF mE P f1 k1 Q f2 k2 G : Nat) (ra : Nat) (rw : Nat → Int64) (rA sA : Nat) (I : Nat) (hok : gp_ok P f1 k1 Q f2 k2 G) (htn : tn ≤ 4) (hkc : kc ≤ 4) (hkp : kp < P) (hko : ∀ j, ko j < P) (hpa : pa < P) (hr0 : rw 0 = lN 3) (hr1 : rw 1 = lN I) (hI : I < tn) : Met l y_Pr_hold w_Pr_hold ({ frames := 4, cells := 0, slots := 0, locals := 130 }) (va_Pc [.ref pr0, .ref t0, .ref ra] (fun U => U.heap.size = sz ∧ va_P (dC, dI) classes (pr_ws pr0 h0 cm cJ cf ++ (ha_ws h0 aw ax ay cJ cI w sc st L ++ (tl_ws t0 ka aa ba sa (.ref g0) cJ ko ao bo so tn kc bc shc kp shp pa pb sht ++ (gp_ws g0 mF mE P f1 k1 Q f2 k2 G ++ rw_ws ra cJ rw)))) U.heap ∧ va_K (dC, dI) classes [(cJ, .long), (cI, .int)] U ∧ va_D (fun _ => True) (pr_ws pr0 h0 cm cJ cf ++ (ha_ws h0 aw ax ay cJ cI w sc st L ++ (tl_ws t0 ka aa ba sa (.ref g0) cJ ko ao bo so tn kc bc shc kp shp pa pb sht ++ (gp_ws g0 mF mE P f1 k1 Q f2 k2 G ++ rw_ws ra cJ rw)))) ∧ ha_Z rA sA (va_A (pr_ws pr0 h0 cm cJ cf ++ (ha_ws h0 aw ax ay cJ cI w sc st L ++ (tl_ws t0 ka aa ba sa (.ref g0) cJ ko ao bo so tn kc bc shc kp shp pa pb sht ++ (gp_ws g0 mF mE P f1 k1 Q f2 k2 G ++ rw_ws ra cJ rw)))) sz) U U.heap)) (va_Qi (fun (r : Int32) (u9 : (Nat → Nat) × HU) => bz r (shaHd P Q G (ko I) pa I (rw 2) (rw 3) (rw 4))) (fun u9 t => va_P (dC, dI) classes (pr_ws pr0 h0 cm cJ u9.1 ++ (hu_ws h0 aw ax ay cJ cI u9.2 ++ (tl_ws t0 ka aa ba sa (.ref g0) cJ ko ao bo so tn kc bc shc kp shp pa pb sht ++ (gp_ws g0 mF mE P f1 k1 Q f2 k2 G ++ rw_ws ra cJ rw)))) t.heap ∧ va_K (dC, dI) classes [(cJ, .long), (cI, .int)] t ∧ va_D (va_A (pr_ws pr0 h0 cm cJ cf ++ (ha_ws h0 aw ax ay cJ cI w sc st L ++ (tl_ws t0 ka aa ba sa (.ref g0) cJ ko ao bo so tn kc bc shc kp shp pa pb sht ++ (gp_ws g0 mF mE P f1 k1 Q f2 k2 G ++ rw_ws ra cJ rw)))) sz) (pr_ws pr0 h0 cm cJ u9.1 ++ (hu_ws h0 aw ax ay cJ cI u9.2 ++ (tl_ws t0 ka aa ba sa (.ref g0) cJ ko ao bo so tn kc bc shc kp shp pa pb sht ++ (gp_ws g0 mF mE P f1 k1 Q f2 k2 G ++ rw_ws ra cJ rw))))) (va_A (pr_ws pr0 h0 cm cJ cf ++ (ha_ws h0 aw ax ay cJ cI w sc st L ++ (tl_ws t0 ka aa ba sa (.ref g0) cJ ko ao bo so tn kc bc shc kp shp pa pb sht ++ (gp_ws g0 mF mE P f1 k1 Q f2 k2 G ++ rw_ws ra cJ rw)))) sz)) 0 0 (va_A (pr_ws pr0 h0 cm cJ cf ++ (ha_ws h0 aw ax ay cJ cI w sc st L ++ (tl_ws t0 ka aa ba sa (.ref g0) cJ ko ao bo so tn kc bc shc kp shp pa pb sht ++ (gp_ws g0 mF mE P f1 k1 Q f2 k2 G ++ rw_ws ra cJ rw)))) sz) := by
  refine Met.ofW (cc := b_Pr_hold) (maxL := 4) (ret := (some .boolean)) (by decide) rfl ?_
  intro p e s m args below meth c s₁ Bd hml hv
  obtain ⟨rfl, hsz, hP, hK, hD0, hZha⟩ := hv
  have hx := Bd.exec
  have hb := Bd.bytes
  have hr := Bd.returns
  have hts := atoms_spec (ws := w_Pr_hold) Bd.pre
  have hown : s.vm.findClass "BallotBoard$Proofs" = some m.cls := findClass_of_methodNamed Bd.named
  have hlocks := Bd.notSynchronized
  subst hsz
  have hD := hD0.self (sz := s.heap.size)
  generalize hAe : va_A (pr_ws pr0 h0 cm cJ cf ++ (ha_ws h0 aw ax ay cJ cI w sc st L ++ (tl_ws t0 ka aa ba sa (.ref g0) cJ ko ao bo so tn kc bc shc kp shp pa pb sht ++ (gp_ws g0 mF mE P f1 k1 Q f2 k2 G ++ rw_ws ra cJ rw)))) s.heap.size = A at hD hZha ⊢
  have hA : ∀ q : Nat, s.heap.size ≤ q → A q := fun q h => by rw [← hAe]; exact Or.inr h
  have hS : va_S A s.heap s.heap [] := va_S.rf
  have hl := lv_entry ([.ref pr0, .ref t0, .ref ra]) (n := 4) (Nat.le_of_ble_eq_true rfl)
  rw [lg_entry_eq]
  generalize (lg_sl ([.ref pr0, .ref t0, .ref ra]) ++ List.replicate (4 - (lg_sl ([.ref pr0, .ref t0, .ref ra])).length) Slot.unset).toArray = ls at hl ⊢
  have hl : lv_has ls 4 [(0, .ref pr0), (1, .ref t0), (2, .ref ra)] := hl
  obtain ⟨hokF, hokE, hPQ, hG2, hGP, hGQ⟩ := id hok
  obtain ⟨hoF, h3F, h61F, _, _, hk61F, hNkF⟩ := id hokF
  obtain ⟨hoE, h3E, h61E, _, _, hk61E, hNkE⟩ := id hokE
  have hck := ckey_lt (tn := tn) (kc := kc) hkp
  refine lv_aload_n hx hb d_Pr_hold_0 rfl (lv_at hl 1 rfl) ?_
  have hPc := hP.sub (ws' := (tl_ws t0 ka aa ba sa (.ref g0) cJ ko ao bo so tn kc bc shc kp shp pa pb sht)) [6, 7, 8, 9, 10] rfl
  have hKc := hK.sub (tys' := [(cJ, .long), (cI, .int)]) [0, 1] rfl
  refine va_callr (va_runV (As := []) (rest := []) ⟨hx, hb, hml, hown, hts⟩ (c_Ta_group l s.heap dC dI cJ cI t0 ka aa ba sa g0 ko ao bo so tn kc bc shc kp shp pa pb sht hPc) (cwV 0 hts (gw_V gk_435 gk_436 gk_437 gk_5 gk_438) rfl rfl rfl (by decide +kernel) ⟨Nat.le_of_ble_eq_true rfl, Nat.le_of_ble_eq_true rfl⟩) ⟨fun a U g mk q => ⟨q.1, q.2.1, va_K.moved (u := U) (U := U.calling g mk a) (Vm.Alike.refl U.vm) q.2.2⟩, va_recv hK hP (ci := 4) (q0 := 6) rfl rfl, fun U hU hW => ⟨rfl, hU, va_K.moved hW.alike hKc⟩⟩ rfl rfl hl.1 rfl (lv_room (Nat.le_of_ble_eq_true rfl)) d_Pr_hold_1 ⟨Nat.le_of_ble_eq_true rfl, Nat.le_of_ble_eq_true rfl⟩) hS (fun q _ h => h.elim) (fun q h => h.elim) (fun u9 r1 t9 H1 locs ht hvm hw hB hz1 hk1 hS => ?_)
  obtain ⟨hra, hB⟩ := hB
  have hra := hra.symm
  subst hra
  obtain rfl : s.heap = H1 := hB.symm.trans ht
  refine lv_astore_n (lv' := [(3, .ref g0), (0, .ref pr0), (1, .ref t0), (2, .ref ra)]) hx hb d_Pr_hold_4 rfl hl (by decide) rfl (fun ls hl => ?_)
  refine lv_aload_n hx hb d_Pr_hold_5 rfl (lv_at hl 3 rfl) ?_
  refine lv_iconst (v := 0) hx hb d_Pr_hold_6 (by decide) ?_
  refine va_lald hx hb hK hP 14 0 rfl rfl (vp_lit rfl) d_Pr_hold_7 ?_
  refine lv_topl (fun v_1 ev_1 => ?_)
  obtain rfl : v_1 = lN 3 := ev_1.trans hr0
  refine lv_ldc2 (v := 2) hx hb hown (hts _ (List.mem_cons_of_mem _ gk_439)) d_Pr_hold_8 ?_
  refine W.lcmp hx hb d_Pr_hold_11 ?_
  refine lv_if_ne (tgt := 65) hx hb d_Pr_hold_12 (by decide) (fun c_2 => ?_) (fun c_2 => ?_)
  · -- taken
    refine lv_aload_n hx hb d_Pr_hold_65 rfl (lv_at hl 1 rfl) ?_
    refine lv_aload_n hx hb d_Pr_hold_66 rfl (lv_at hl 0 rfl) ?_
    refine lv_aload_n hx hb d_Pr_hold_67 rfl (lv_at hl 3 rfl) ?_
    have hPc := hP.sub (ws' := (gp_ws g0 mF mE P f1 k1 Q f2 k2 G ++ rw_ws ra cJ rw)) [11, 12, 13, 14] rfl
    have hKc := hK.sub (tys' := [(cJ, .long), (cI, .int)]) [0, 1] rfl
    refine va_calli (va_runV (As := [.ref g0, .ref ra]) (rest := []) ⟨hx, hb, hml, hown, hts⟩ (c_Pr_isHeadSound l s.heap dC dI cJ cI pr0 g0 mF mE P f1 k1 Q f2 k2 G ra rw hPc hok) (cwV 2 hts (gw_V gk_548 gk_550 gp_15 gk_4 gk_551) rfl rfl rfl (by decide +kernel) ⟨Nat.le_of_ble_eq_true rfl, Nat.le_of_ble_eq_true rfl⟩) ⟨fun a U g mk q => ⟨q.1, q.2.1, va_K.moved (u := U) (U := U.calling g mk a) (Vm.Alike.refl U.vm) q.2.2⟩, va_recv hK hP (ci := 5) (q0 := 0) rfl rfl, fun U hU hW => ⟨rfl, hU, va_K.moved hW.alike hKc⟩⟩ rfl rfl hl.1 rfl (lv_room (Nat.le_of_ble_eq_true rfl)) d_Pr_hold_68 ⟨Nat.le_of_ble_eq_true rfl, Nat.le_of_ble_eq_true rfl⟩) hS (fun q _ h => h.elim) (fun q h => h.elim) (fun r68 u9 t9 H1 locs ht hvm hw hB hz1 hk1 hS => ?_)
    obtain rfl : s.heap = H1 := hB.symm.trans ht
    have h68 := hw
    refine lv_if_ne (tgt := 76) hx hb d_Pr_hold_71 (by decide) (fun c_3 => ?_) (fun c_3 => ?_)
    · -- taken
      obtain ⟨⟨C1, e3, hC9⟩, ⟨Z1, e4, hZ9⟩, ⟨Y1, e2, hY1, hY9, hYQ⟩⟩ := bz_t h68 c_3
      refine lv_aload_n hx hb d_Pr_hold_76 rfl (lv_at hl 1 rfl) ?_
      refine lv_aload_n hx hb d_Pr_hold_77 rfl (lv_at hl 2 rfl) ?_
      refine lv_aload_n hx hb d_Pr_hold_78 rfl (lv_at hl 3 rfl) ?_
      have hPc := hP.sub (ws' := (pr_ws pr0 h0 cm cJ cf ++ (tl_ws t0 ka aa ba sa (.ref g0) cJ ko ao bo so tn kc bc shc kp shp pa pb sht ++ (gp_ws g0 mF mE P f1 k1 Q f2 k2 G ++ rw_ws ra cJ rw)))) [0, 1, 6, 7, 8, 9, 10, 11, 12, 13, 14] rfl
      have hDc := hD.sub (ws' := (pr_ws pr0 h0 cm cJ cf ++ (tl_ws t0 ka aa ba sa (.ref g0) cJ ko ao bo so tn kc bc shc kp shp pa pb sht ++ (gp_ws g0 mF mE P f1 k1 Q f2 k2 G ++ rw_ws ra cJ rw)))) [0, 1, 6, 7, 8, 9, 10, 11, 12, 13, 14] (by decide) rfl
      have hKc := hK.sub (tys' := [(cJ, .long), (cI, .int)]) [0, 1] rfl
      have hFc := va_free (wc := (pr_ws pr0 h0 cm cJ cf ++ (tl_ws t0 ka aa ba sa (.ref g0) cJ ko ao bo so tn kc bc shc kp shp pa pb sht ++ (gp_ws g0 mF mE P f1 k1 Q f2 k2 G ++ rw_ws ra cJ rw)))) hD hS hA [0, 1, 6, 7, 8, 9, 10, 11, 12, 13, 14] rfl
      refine va_callv (va_runV (As := [.ref t0, .ref ra]) (rest := []) ⟨hx, hb, hml, hown, hts⟩ (c_Pr_openHead_3 l dC dI cJ cI s.heap.size pr0 h0 cm cf t0 ka aa ba sa ko ao bo so tn kc bc shc kp shp pa pb sht g0 mF mE P f1 k1 Q f2 k2 G ra rw I Y1 C1 Z1 hok htn hkc hkp hr0 hr1 e2 e3 e4 hI hY9 hC9 hZ9 hko hpa) (cwV 2 hts (gw_V gk_552 gk_554 gp_16 gk_4 gk_555) rfl rfl rfl (by decide +kernel) ⟨Nat.le_of_ble_eq_true rfl, Nat.le_of_ble_eq_true rfl⟩) ⟨fun a U g mk q => by obtain ⟨q0, q1, qP, qK, qD⟩ := q; exact ⟨q0, q1, qP, va_K.moved (u := U) (U := U.calling g mk a) (Vm.Alike.refl U.vm) qK, qD⟩, va_recv hK hP (ci := 5) (q0 := 0) rfl rfl, fun U hU hW => ⟨rfl, by rw [hU], by rw [hU]; exact hPc, va_K.moved hW.alike hKc, hDc.weaken (fun _ _ _ _ => trivial)⟩⟩ rfl rfl hl.1 rfl (lv_room (Nat.le_of_ble_eq_true rfl)) d_Pr_hold_79 ⟨Nat.le_of_ble_eq_true rfl, Nat.le_of_ble_eq_true rfl⟩) hS (fun q _ h => hFc q h) hFc (fun u9 t9 H1 locs ht hvm hw hB hz1 hk1 hS => ?_)
      obtain ⟨hP1, hK1, hD1⟩ := hB
      rw [ht] at hP1
      obtain ⟨hP, hD⟩ := va_join (wr := [(h0, .inr (2, [.ref aw, .ref ax, .ref ay, .int (nI L)])), (aw, .inl (cJ, 16, .inr (.inl w))), (ax, .inl (cI, 64, .inl sc)), (ay, .inl (cI, 8, .inl st))]) (w1 := [(pr0, .inr (5, [.ref h0, .ref cm])), (cm, .inl (cJ, 4, .inr (.inl (lF (updN (updN cf 0 (G ^ Z1 * (ko I) ^ ((Q - C1) % Q) % P)) 1 (pa ^ Z1 * Y1 ^ ((Q - C1) % Q) % P)))))), (t0, .inr (4, [.ref ka, .ref aa, .ref ba, .ref sa, .ref g0, .int (nI tn), .int (nI kc), .int (nI bc), .int (nI shc), .long (lN kp), .long (lN shp), .long (lN pa), .long (lN pb), .int sht])), (ka, .inl (cJ, 4, .inr (.inl (lF ko)))), (aa, .inl (cJ, 64, .inr (.inl (lF ao)))), (ba, .inl (cJ, 64, .inr (.inl (lF bo)))), (sa, .inl (cJ, 4, .inr (.inl (lF so)))), (g0, .inr (1, [.ref mF, .ref mE, .long (lN G), .long (lN (G ^ (Q - 1) % P))])), (mF, .inr (0, [.long (lN P), .long (lN (P % 2 ^ 31)), .long (lN (P / 2 ^ 31)), .long (lN f1), .long (lN (2 ^ 62 % P)), .long (lN (2 ^ 124 % P)), .int (nI k1)])), (mE, .inr (0, [.long (lN Q), .long (lN (Q % 2 ^ 31)), .long (lN (Q / 2 ^ 31)), .long (lN f2), .long (lN (2 ^ 62 % Q)), .long (lN (2 ^ 124 % Q)), .int (nI k2)])), (ra, .inl (cJ, 8, .inr (.inl rw)))]) hP hD [0, 1, 6, 7, 8, 9, 10, 11, 12, 13, 14] [2, 3, 4, 5] rfl rfl (by decide) (by decide) hk1 hFc hP1 hD1
      have hP := hP.sub (ws' := [(pr0, .inr (5, [.ref h0, .ref cm])), (cm, .inl (cJ, 4, .inr (.inl (lF (updN (updN cf 0 (G ^ Z1 * (ko I) ^ ((Q - C1) % Q) % P)) 1 (pa ^ Z1 * Y1 ^ ((Q - C1) % Q) % P)))))), (h0, .inr (2, [.ref aw, .ref ax, .ref ay, .int (nI L)])), (aw, .inl (cJ, 16, .inr (.inl w))), (ax, .inl (cI, 64, .inl sc)), (ay, .inl (cI, 8, .inl st)), (t0, .inr (4, [.ref ka, .ref aa, .ref ba, .ref sa, .ref g0, .int (nI tn), .int (nI kc), .int (nI bc), .int (nI shc), .long (lN kp), .long (lN shp), .long (lN pa), .long (lN pb), .int sht])), (ka, .inl (cJ, 4, .inr (.inl (lF ko)))), (aa, .inl (cJ, 64, .inr (.inl (lF ao)))), (ba, .inl (cJ, 64, .inr (.inl (lF bo)))), (sa, .inl (cJ, 4, .inr (.inl (lF so)))), (g0, .inr (1, [.ref mF, .ref mE, .long (lN G), .long (lN (G ^ (Q - 1) % P))])), (mF, .inr (0, [.long (lN P), .long (lN (P % 2 ^ 31)), .long (lN (P / 2 ^ 31)), .long (lN f1), .long (lN (2 ^ 62 % P)), .long (lN (2 ^ 124 % P)), .int (nI k1)])), (mE, .inr (0, [.long (lN Q), .long (lN (Q % 2 ^ 31)), .long (lN (Q / 2 ^ 31)), .long (lN f2), .long (lN (2 ^ 62 % Q)), .long (lN (2 ^ 124 % Q)), .int (nI k2)])), (ra, .inl (cJ, 8, .inr (.inl rw)))]) [4, 5, 0, 1, 2, 3, 6, 7, 8, 9, 10, 11, 12, 13, 14] rfl
      have hD := hD.sub (ws' := [(pr0, .inr (5, [.ref h0, .ref cm])), (cm, .inl (cJ, 4, .inr (.inl (lF (updN (updN cf 0 (G ^ Z1 * (ko I) ^ ((Q - C1) % Q) % P)) 1 (pa ^ Z1 * Y1 ^ ((Q - C1) % Q) % P)))))), (h0, .inr (2, [.ref aw, .ref ax, .ref ay, .int (nI L)])), (aw, .inl (cJ, 16, .inr (.inl w))), (ax, .inl (cI, 64, .inl sc)), (ay, .inl (cI, 8, .inl st)), (t0, .inr (4, [.ref ka, .ref aa, .ref ba, .ref sa, .ref g0, .int (nI tn), .int (nI kc), .int (nI bc), .int (nI shc), .long (lN kp), .long (lN shp), .long (lN pa), .long (lN pb), .int sht])), (ka, .inl (cJ, 4, .inr (.inl (lF ko)))), (aa, .inl (cJ, 64, .inr (.inl (lF ao)))), (ba, .inl (cJ, 64, .inr (.inl (lF bo)))), (sa, .inl (cJ, 4, .inr (.inl (lF so)))), (g0, .inr (1, [.ref mF, .ref mE, .long (lN G), .long (lN (G ^ (Q - 1) % P))])), (mF, .inr (0, [.long (lN P), .long (lN (P % 2 ^ 31)), .long (lN (P / 2 ^ 31)), .long (lN f1), .long (lN (2 ^ 62 % P)), .long (lN (2 ^ 124 % P)), .int (nI k1)])), (mE, .inr (0, [.long (lN Q), .long (lN (Q % 2 ^ 31)), .long (lN (Q / 2 ^ 31)), .long (lN f2), .long (lN (2 ^ 62 % Q)), .long (lN (2 ^ 124 % Q)), .int (nI k2)])), (ra, .inl (cJ, 8, .inr (.inl rw)))]) [4, 5, 0, 1, 2, 3, 6, 7, 8, 9, 10, 11, 12, 13, 14] (by decide) rfl
      generalize H1 = H at hP hS ⊢
      refine lv_aload_n hx hb d_Pr_hold_82 rfl (lv_at hl 3 rfl) ?_
      refine lv_iconst (v := 3) hx hb d_Pr_hold_83 (by decide) ?_
      refine va_lald hx hb hK hP 14 0 rfl rfl (vp_lit rfl) d_Pr_hold_84 ?_
      refine lv_topl (fun v_5 ev_5 => ?_)
      obtain rfl : v_5 = lN C1 := ev_5.trans e3
      refine lv_aload_n hx hb d_Pr_hold_85 rfl (lv_at hl 1 rfl) ?_
      refine lv_aload_n hx hb d_Pr_hold_86 rfl (lv_at hl 2 rfl) ?_
      refine lv_aload_n hx hb d_Pr_hold_87 rfl (lv_at hl 3 rfl) ?_
      have hPc := hP.sub (ws' := (pr_ws pr0 h0 cm cJ (updN (updN cf 0 (G ^ Z1 * (ko I) ^ ((Q - C1) % Q) % P)) 1 (pa ^ Z1 * Y1 ^ ((Q - C1) % Q) % P)) ++ (ha_ws h0 aw ax ay cJ cI w sc st L ++ (tl_ws t0 ka aa ba sa (.ref g0) cJ ko ao bo so tn kc bc shc kp shp pa pb sht ++ (gp_ws g0 mF mE P f1 k1 Q f2 k2 G ++ rw_ws ra cJ rw))))) [0, 1, 2, 3, 4, 5, 6, 7, 8, 9, 10, 11, 12, 13, 14] rfl
      have hDc := hD.sub (ws' := (pr_ws pr0 h0 cm cJ (updN (updN cf 0 (G ^ Z1 * (ko I) ^ ((Q - C1) % Q) % P)) 1 (pa ^ Z1 * Y1 ^ ((Q - C1) % Q) % P)) ++ (ha_ws h0 aw ax ay cJ cI w sc st L ++ (tl_ws t0 ka aa ba sa (.ref g0) cJ ko ao bo so tn kc bc shc kp shp pa pb sht ++ (gp_ws g0 mF mE P f1 k1 Q f2 k2 G ++ rw_ws ra cJ rw))))) [0, 1, 2, 3, 4, 5, 6, 7, 8, 9, 10, 11, 12, 13, 14] (by decide) rfl
      have hKc := hK.sub (tys' := [(cJ, .long), (cI, .int)]) [0, 1] rfl
      have hFc := va_free (wc := (pr_ws pr0 h0 cm cJ (updN (updN cf 0 (G ^ Z1 * (ko I) ^ ((Q - C1) % Q) % P)) 1 (pa ^ Z1 * Y1 ^ ((Q - C1) % Q) % P)) ++ (ha_ws h0 aw ax ay cJ cI w sc st L ++ (tl_ws t0 ka aa ba sa (.ref g0) cJ ko ao bo so tn kc bc shc kp shp pa pb sht ++ (gp_ws g0 mF mE P f1 k1 Q f2 k2 G ++ rw_ws ra cJ rw))))) hD hS hA [0, 1, 2, 3, 4, 5, 6, 7, 8, 9, 10, 11, 12, 13, 14] rfl
      have hZc0 : ha_Z rA sA (va_A (pr_ws pr0 h0 cm cJ (updN (updN cf 0 (G ^ Z1 * (ko I) ^ ((Q - C1) % Q) % P)) 1 (pa ^ Z1 * Y1 ^ ((Q - C1) % Q) % P)) ++ (ha_ws h0 aw ax ay cJ cI w sc st L ++ (tl_ws t0 ka aa ba sa (.ref g0) cJ ko ao bo so tn kc bc shc kp shp pa pb sht ++ (gp_ws g0 mF mE P f1 k1 Q f2 k2 G ++ rw_ws ra cJ rw)))) H.size) s H := (hZha.kept hS.2.1).narrow hFc
      refine va_calll (va_runV (As := [.ref t0, .ref ra]) (rest := [.long (lN C1)]) ⟨hx, hb, hml, hown, hts⟩ (c_Pr_challenge_3 l dC dI cJ cI H.size pr0 h0 cm (updN (updN cf 0 (G ^ Z1 * (ko I) ^ ((Q - C1) % Q) % P)) 1 (pa ^ Z1 * Y1 ^ ((Q - C1) % Q) % P)) aw ax ay w sc st L t0 ka aa ba sa ko ao bo so tn kc bc shc kp shp pa pb sht g0 mF mE P f1 k1 Q f2 k2 G ra rw rA sA I ([lN P, lN G, lN 3, lN I, lN pa, lN Y1, lN (G ^ Z1 * (ko I) ^ ((Q - C1) % Q) % P), lN (pa ^ Z1 * Y1 ^ ((Q - C1) % Q) % P)]) hok hr0 hr1 (by rw [e2]; rfl)) (cwV 2 hts (gw_V gk_494 gk_496 gp_12 gk_4 gk_497) rfl rfl rfl (by decide +kernel) ⟨Nat.le_of_ble_eq_true rfl, Nat.le_of_ble_eq_true rfl⟩) ⟨fun a U g mk q => by obtain ⟨q0, q1, qP, qK, qD, qZ0⟩ := q; exact ⟨q0, q1, qP, va_K.moved (u := U) (U := U.calling g mk a) (Vm.Alike.refl U.vm) qK, qD, ha_Z.moved (u := U) (U := U.calling g mk a) (Vm.Alike.refl U.vm) qZ0⟩, va_recv hK hP (ci := 5) (q0 := 0) rfl rfl, fun U hU hW => ⟨rfl, by rw [hU], by rw [hU]; exact hPc, va_K.moved hW.alike hKc, hDc.weaken (fun _ _ _ _ => trivial), by rw [hU]; exact ha_Z.moved hW.alike hZc0⟩⟩ rfl rfl hl.1 rfl (lv_room (Nat.le_of_ble_eq_true rfl)) d_Pr_hold_88 ⟨Nat.le_of_ble_eq_true rfl, Nat.le_of_ble_eq_true rfl⟩) hS (fun q _ h => hFc q h) hFc (fun r_7 u9 t9 H1 locs ht hvm hw hB hz1 hk1 hS => ?_)
      obtain ⟨gwk_6, gsk_6, gtk_6, glk_6⟩ := u9
      have hw : r_7 = lN (hsh Q ([lN P, lN G, lN 3, lN I, lN pa, lN Y1, lN (G ^ Z1 * (ko I) ^ ((Q - C1) % Q) % P), lN (pa ^ Z1 * Y1 ^ ((Q - C1) % Q) % P)])) := hw
      subst hw
      obtain ⟨hP1, hK1, hD1⟩ := hB
      rw [ht] at hP1
      obtain ⟨hP, hD⟩ := va_join (wr := []) (w1 := [(pr0, .inr (5, [.ref h0, .ref cm])), (cm, .inl (cJ, 4, .inr (.inl (lF (updN (updN cf 0 (G ^ Z1 * (ko I) ^ ((Q - C1) % Q) % P)) 1 (pa ^ Z1 * Y1 ^ ((Q - C1) % Q) % P)))))), (h0, .inr (2, [.ref aw, .ref ax, .ref ay, .int (nI glk_6)])), (aw, .inl (cJ, 16, .inr (.inl gwk_6))), (ax, .inl (cI, 64, .inl gsk_6)), (ay, .inl (cI, 8, .inl gtk_6)), (t0, .inr (4, [.ref ka, .ref aa, .ref ba, .ref sa, .ref g0, .int (nI tn), .int (nI kc), .int (nI bc), .int (nI shc), .long (lN kp), .long (lN shp), .long (lN pa), .long (lN pb), .int sht])), (ka, .inl (cJ, 4, .inr (.inl (lF ko)))), (aa, .inl (cJ, 64, .inr (.inl (lF ao)))), (ba, .inl (cJ, 64, .inr (.inl (lF bo)))), (sa, .inl (cJ, 4, .inr (.inl (lF so)))), (g0, .inr (1, [.ref mF, .ref mE, .long (lN G), .long (lN (G ^ (Q - 1) % P))])), (mF, .inr (0, [.long (lN P), .long (lN (P % 2 ^ 31)), .long (lN (P / 2 ^ 31)), .long (lN f1), .long (lN (2 ^ 62 % P)), .long (lN (2 ^ 124 % P)), .int (nI k1)])), (mE, .inr (0, [.long (lN Q), .long (lN (Q % 2 ^ 31)), .long (lN (Q / 2 ^ 31)), .long (lN f2), .long (lN (2 ^ 62 % Q)), .long (lN (2 ^ 124 % Q)), .int (nI k2)])), (ra, .inl (cJ, 8, .inr (.inl rw)))]) hP hD [0, 1, 2, 3, 4, 5, 6, 7, 8, 9, 10, 11, 12, 13, 14] [] rfl rfl (by decide) (by decide) hk1 hFc hP1 hD1
      have hP := hP.sub (ws' := [(pr0, .inr (5, [.ref h0, .ref cm])), (cm, .inl (cJ, 4, .inr (.inl (lF (updN (updN cf 0 (G ^ Z1 * (ko I) ^ ((Q - C1) % Q) % P)) 1 (pa ^ Z1 * Y1 ^ ((Q - C1) % Q) % P)))))), (h0, .inr (2, [.ref aw, .ref ax, .ref ay, .int (nI glk_6)])), (aw, .inl (cJ, 16, .inr (.inl gwk_6))), (ax, .inl (cI, 64, .inl gsk_6)), (ay, .inl (cI, 8, .inl gtk_6)), (t0, .inr (4, [.ref ka, .ref aa, .ref ba, .ref sa, .ref g0, .int (nI tn), .int (nI kc), .int (nI bc), .int (nI shc), .long (lN kp), .long (lN shp), .long (lN pa), .long (lN pb), .int sht])), (ka, .inl (cJ, 4, .inr (.inl (lF ko)))), (aa, .inl (cJ, 64, .inr (.inl (lF ao)))), (ba, .inl (cJ, 64, .inr (.inl (lF bo)))), (sa, .inl (cJ, 4, .inr (.inl (lF so)))), (g0, .inr (1, [.ref mF, .ref mE, .long (lN G), .long (lN (G ^ (Q - 1) % P))])), (mF, .inr (0, [.long (lN P), .long (lN (P % 2 ^ 31)), .long (lN (P / 2 ^ 31)), .long (lN f1), .long (lN (2 ^ 62 % P)), .long (lN (2 ^ 124 % P)), .int (nI k1)])), (mE, .inr (0, [.long (lN Q), .long (lN (Q % 2 ^ 31)), .long (lN (Q / 2 ^ 31)), .long (lN f2), .long (lN (2 ^ 62 % Q)), .long (lN (2 ^ 124 % Q)), .int (nI k2)])), (ra, .inl (cJ, 8, .inr (.inl rw)))]) [0, 1, 2, 3, 4, 5, 6, 7, 8, 9, 10, 11, 12, 13, 14] rfl
      have hD := hD.sub (ws' := [(pr0, .inr (5, [.ref h0, .ref cm])), (cm, .inl (cJ, 4, .inr (.inl (lF (updN (updN cf 0 (G ^ Z1 * (ko I) ^ ((Q - C1) % Q) % P)) 1 (pa ^ Z1 * Y1 ^ ((Q - C1) % Q) % P)))))), (h0, .inr (2, [.ref aw, .ref ax, .ref ay, .int (nI glk_6)])), (aw, .inl (cJ, 16, .inr (.inl gwk_6))), (ax, .inl (cI, 64, .inl gsk_6)), (ay, .inl (cI, 8, .inl gtk_6)), (t0, .inr (4, [.ref ka, .ref aa, .ref ba, .ref sa, .ref g0, .int (nI tn), .int (nI kc), .int (nI bc), .int (nI shc), .long (lN kp), .long (lN shp), .long (lN pa), .long (lN pb), .int sht])), (ka, .inl (cJ, 4, .inr (.inl (lF ko)))), (aa, .inl (cJ, 64, .inr (.inl (lF ao)))), (ba, .inl (cJ, 64, .inr (.inl (lF bo)))), (sa, .inl (cJ, 4, .inr (.inl (lF so)))), (g0, .inr (1, [.ref mF, .ref mE, .long (lN G), .long (lN (G ^ (Q - 1) % P))])), (mF, .inr (0, [.long (lN P), .long (lN (P % 2 ^ 31)), .long (lN (P / 2 ^ 31)), .long (lN f1), .long (lN (2 ^ 62 % P)), .long (lN (2 ^ 124 % P)), .int (nI k1)])), (mE, .inr (0, [.long (lN Q), .long (lN (Q % 2 ^ 31)), .long (lN (Q / 2 ^ 31)), .long (lN f2), .long (lN (2 ^ 62 % Q)), .long (lN (2 ^ 124 % Q)), .int (nI k2)])), (ra, .inl (cJ, 8, .inr (.inl rw)))]) [0, 1, 2, 3, 4, 5, 6, 7, 8, 9, 10, 11, 12, 13, 14] (by decide) rfl
      generalize H1 = H at hP hS ⊢
      refine W.lcmp hx hb d_Pr_hold_91 ?_
      refine lv_if_ne (tgt := 99) hx hb d_Pr_hold_92 (by decide) (fun c_8 => ?_) (fun c_8 => ?_)
      · -- taken
        have hbad : ¬ shaHd P Q G (ko I) pa I (rw 2) (rw 3) (rw 4) := by
          rintro ⟨Y2, C2, Z2, a2, a3, a4, hC2, hZ2, hY2, hY3, hY4, hh⟩
          obtain rfl := lN_inj (by omega) (by omega) (e2.symm.trans a2)
          obtain rfl := lN_inj (by omega) (by omega) (e3.symm.trans a3)
          obtain rfl := lN_inj (by omega) (by omega) (e4.symm.trans a4)
          exact c_8 ((ln_cmp_eq (by omega) (by have := hsh_lt (Q := Q) (by omega) [lN P, lN G, lN 3, lN I, lN pa, lN Y1, lN (G ^ Z1 * (ko I) ^ ((Q - C1) % Q) % P), lN (pa ^ Z1 * Y1 ^ ((Q - C1) % Q) % P)]; omega)).mpr hh)
        refine lv_iconst (v := 0) hx hb d_Pr_hold_99 (by decide) ?_
        exact W.zret (v := 0) hx hb hr (by decide) (fun t ht9 hW => ⟨⟨_, (updN (updN cf 0 (G ^ Z1 * (ko I) ^ ((Q - C1) % Q) % P)) 1 (pa ^ Z1 * Y1 ^ ((Q - C1) % Q) % P), gwk_6, gsk_6, gtk_6, glk_6), rfl, (bz_0 hbad), by rw [ht9]; exact hP, va_K.moved hW.alike hK, hD⟩, hS.F ht9⟩) hS.2.2 d_Pr_hold_100
      · -- not taken
        have hgood : shaHd P Q G (ko I) pa I (rw 2) (rw 3) (rw 4) := ⟨Y1, C1, Z1, e2, e3, e4, hC9, hZ9, hY1, hY9, hYQ, (ln_cmp_eq (by omega) (by have := hsh_lt (Q := Q) (by omega) [lN P, lN G, lN 3, lN I, lN pa, lN Y1, lN (G ^ Z1 * (ko I) ^ ((Q - C1) % Q) % P), lN (pa ^ Z1 * Y1 ^ ((Q - C1) % Q) % P)]; omega)).mp c_8⟩
        refine lv_iconst (v := 1) hx hb d_Pr_hold_95 (by decide) ?_
        refine lv_goto (tgt := 100) hx hb d_Pr_hold_96 (by decide) ?_
        exact W.zret (v := 1) hx hb hr (by decide) (fun t ht9 hW => ⟨⟨_, (updN (updN cf 0 (G ^ Z1 * (ko I) ^ ((Q - C1) % Q) % P)) 1 (pa ^ Z1 * Y1 ^ ((Q - C1) % Q) % P), gwk_6, gsk_6, gtk_6, glk_6), rfl, (bz_1 hgood), by rw [ht9]; exact hP, va_K.moved hW.alike hK, hD⟩, hS.F ht9⟩) hS.2.2 d_Pr_hold_100
    · -- not taken
      have hbad : ¬ shaHd P Q G (ko I) pa I (rw 2) (rw 3) (rw 4) := fun ⟨Y2, C2, Z2, a2, a3, a4, hC2, hZ2, hY2, hY3, hY4, hh⟩ => bz_f h68 c_3 ⟨⟨C2, a3, hC2⟩, ⟨Z2, a4, hZ2⟩, ⟨Y2, a2, hY2, hY3, hY4⟩⟩
      refine lv_iconst (v := 0) hx hb d_Pr_hold_74 (by decide) ?_
      exact W.zret (v := 0) hx hb hr (by decide) (fun t ht9 hW => ⟨⟨_, (cf, w, sc, st, L), rfl, (bz_0 hbad), by rw [ht9]; exact hP, va_K.moved hW.alike hK, hD⟩, hS.F ht9⟩) hS.2.2 d_Pr_hold_75
  · -- not taken
    exact absurd ((cmpe (k := 3) (by omega) 2 (by omega) rfl).mp c_2) (by omega)
set_option maxHeartbeats 8000000 in
set_option maxRecDepth 100000 in
theorem c_Pr_hold_2 (l : Launch) (dC : Nat → ClassId) (dI : Nat → Nat → Nat) (cJ cI : ClassId) (sz : Nat) (pr0 h0 cm : Nat) (cf : Nat → Nat) (aw ax ay : Nat) (w : Nat → Int64) (sc st : Nat → Int32) (L : Nat) (t0 ka aa ba sa : Nat) (ko ao bo so : Nat → Nat) (tn kc bc shc kp shp pa pb : Nat) (sht : Int32) (g0 mF mE P f1 k1 Q f2 k2 G : Nat) (ra : Nat) (rw : Nat → Int64) (rA sA : Nat) (I : Nat) (hok : gp_ok P f1 k1 Q f2 k2 G) (htn : tn ≤ 4) (hkc : kc ≤ 4) (hkp : kp < P) (hko : ∀ j, ko j < P) (hpa : pa < P) (hr0 : rw 0 = lN 2) (hr1 : rw 1 = lN I) : Met l y_Pr_hold w_Pr_hold ({ frames := 4, cells := 0, slots := 0, locals := 130 }) (va_Pc [.ref pr0, .ref t0, .ref ra] (fun U => U.heap.size = sz ∧ va_P (dC, dI) classes (pr_ws pr0 h0 cm cJ cf ++ (ha_ws h0 aw ax ay cJ cI w sc st L ++ (tl_ws t0 ka aa ba sa (.ref g0) cJ ko ao bo so tn kc bc shc kp shp pa pb sht ++ (gp_ws g0 mF mE P f1 k1 Q f2 k2 G ++ rw_ws ra cJ rw)))) U.heap ∧ va_K (dC, dI) classes [(cJ, .long), (cI, .int)] U ∧ va_D (fun _ => True) (pr_ws pr0 h0 cm cJ cf ++ (ha_ws h0 aw ax ay cJ cI w sc st L ++ (tl_ws t0 ka aa ba sa (.ref g0) cJ ko ao bo so tn kc bc shc kp shp pa pb sht ++ (gp_ws g0 mF mE P f1 k1 Q f2 k2 G ++ rw_ws ra cJ rw)))) ∧ ha_Z rA sA (va_A (pr_ws pr0 h0 cm cJ cf ++ (ha_ws h0 aw ax ay cJ cI w sc st L ++ (tl_ws t0 ka aa ba sa (.ref g0) cJ ko ao bo so tn kc bc shc kp shp pa pb sht ++ (gp_ws g0 mF mE P f1 k1 Q f2 k2 G ++ rw_ws ra cJ rw)))) sz) U U.heap)) (va_Qi (fun (r : Int32) (u9 : (Nat → Nat) × HU) => bz r (balHd P Q G (ckey tn kc kp) I (rw 2) (rw 3) (rw 4) (rw 5) (rw 6) (rw 7))) (fun u9 t => va_P (dC, dI) classes (pr_ws pr0 h0 cm cJ u9.1 ++ (hu_ws h0 aw ax ay cJ cI u9.2 ++ (tl_ws t0 ka aa ba sa (.ref g0) cJ ko ao bo so tn kc bc shc kp shp pa pb sht ++ (gp_ws g0 mF mE P f1 k1 Q f2 k2 G ++ rw_ws ra cJ rw)))) t.heap ∧ va_K (dC, dI) classes [(cJ, .long), (cI, .int)] t ∧ va_D (va_A (pr_ws pr0 h0 cm cJ cf ++ (ha_ws h0 aw ax ay cJ cI w sc st L ++ (tl_ws t0 ka aa ba sa (.ref g0) cJ ko ao bo so tn kc bc shc kp shp pa pb sht ++ (gp_ws g0 mF mE P f1 k1 Q f2 k2 G ++ rw_ws ra cJ rw)))) sz) (pr_ws pr0 h0 cm cJ u9.1 ++ (hu_ws h0 aw ax ay cJ cI u9.2 ++ (tl_ws t0 ka aa ba sa (.ref g0) cJ ko ao bo so tn kc bc shc kp shp pa pb sht ++ (gp_ws g0 mF mE P f1 k1 Q f2 k2 G ++ rw_ws ra cJ rw))))) (va_A (pr_ws pr0 h0 cm cJ cf ++ (ha_ws h0 aw ax ay cJ cI w sc st L ++ (tl_ws t0 ka aa ba sa (.ref g0) cJ ko ao bo so tn kc bc shc kp shp pa pb sht ++ (gp_ws g0 mF mE P f1 k1 Q f2 k2 G ++ rw_ws ra cJ rw)))) sz)) 0 0 (va_A (pr_ws pr0 h0 cm cJ cf ++ (ha_ws h0 aw ax ay cJ cI w sc st L ++ (tl_ws t0 ka aa ba sa (.ref g0) cJ ko ao bo so tn kc bc shc kp shp pa pb sht ++ (gp_ws g0 mF mE P f1 k1 Q f2 k2 G ++ rw_ws ra cJ rw)))) sz) := by
  refine Met.ofW (cc := b_Pr_hold) (maxL := 4) (ret := (some .boolean)) (by decide) rfl ?_
  intro p e s m args below meth c s₁ Bd hml hv
  obtain ⟨rfl, hsz, hP, hK, hD0, hZha⟩ := hv
  have hx := Bd.exec
  have hb := Bd.bytes
  have hr := Bd.returns
  have hts := atoms_spec (ws := w_Pr_hold) Bd.pre
  have hown : s.vm.findClass "BallotBoard$Proofs" = some m.cls := findClass_of_methodNamed Bd.named
  have hlocks := Bd.notSynchronized
  subst hsz
  have hD := hD0.self (sz := s.heap.size)
  generalize hAe : va_A (pr_ws pr0 h0 cm cJ cf ++ (ha_ws h0 aw ax ay cJ cI w sc st L ++ (tl_ws t0 ka aa ba sa (.ref g0) cJ ko ao bo so tn kc bc shc kp shp pa pb sht ++ (gp_ws g0 mF mE P f1 k1 Q f2 k2 G ++ rw_ws ra cJ rw)))) s.heap.size = A at hD hZha ⊢
  have hA : ∀ q : Nat, s.heap.size ≤ q → A q := fun q h => by rw [← hAe]; exact Or.inr h
  have hS : va_S A s.heap s.heap [] := va_S.rf
  have hl := lv_entry ([.ref pr0, .ref t0, .ref ra]) (n := 4) (Nat.le_of_ble_eq_true rfl)
  rw [lg_entry_eq]
  generalize (lg_sl ([.ref pr0, .ref t0, .ref ra]) ++ List.replicate (4 - (lg_sl ([.ref pr0, .ref t0, .ref ra])).length) Slot.unset).toArray = ls at hl ⊢
  have hl : lv_has ls 4 [(0, .ref pr0), (1, .ref t0), (2, .ref ra)] := hl
  obtain ⟨hokF, hokE, hPQ, hG2, hGP, hGQ⟩ := id hok
  obtain ⟨hoF, h3F, h61F, _, _, hk61F, hNkF⟩ := id hokF
  obtain ⟨hoE, h3E, h61E, _, _, hk61E, hNkE⟩ := id hokE
  have hck := ckey_lt (tn := tn) (kc := kc) hkp
  refine lv_aload_n hx hb d_Pr_hold_0 rfl (lv_at hl 1 rfl) ?_
  have hPc := hP.sub (ws' := (tl_ws t0 ka aa ba sa (.ref g0) cJ ko ao bo so tn kc bc shc kp shp pa pb sht)) [6, 7, 8, 9, 10] rfl
  have hKc := hK.sub (tys' := [(cJ, .long), (cI, .int)]) [0, 1] rfl
  refine va_callr (va_runV (As := []) (rest := []) ⟨hx, hb, hml, hown, hts⟩ (c_Ta_group l s.heap dC dI cJ cI t0 ka aa ba sa g0 ko ao bo so tn kc bc shc kp shp pa pb sht hPc) (cwV 0 hts (gw_V gk_435 gk_436 gk_437 gk_5 gk_438) rfl rfl rfl (by decide +kernel) ⟨Nat.le_of_ble_eq_true rfl, Nat.le_of_ble_eq_true rfl⟩) ⟨fun a U g mk q => ⟨q.1, q.2.1, va_K.moved (u := U) (U := U.calling g mk a) (Vm.Alike.refl U.vm) q.2.2⟩, va_recv hK hP (ci := 4) (q0 := 6) rfl rfl, fun U hU hW => ⟨rfl, hU, va_K.moved hW.alike hKc⟩⟩ rfl rfl hl.1 rfl (lv_room (Nat.le_of_ble_eq_true rfl)) d_Pr_hold_1 ⟨Nat.le_of_ble_eq_true rfl, Nat.le_of_ble_eq_true rfl⟩) hS (fun q _ h => h.elim) (fun q h => h.elim) (fun u9 r1 t9 H1 locs ht hvm hw hB hz1 hk1 hS => ?_)
  obtain ⟨hra, hB⟩ := hB
  have hra := hra.symm
  subst hra
  obtain rfl : s.heap = H1 := hB.symm.trans ht
  refine lv_astore_n (lv' := [(3, .ref g0), (0, .ref pr0), (1, .ref t0), (2, .ref ra)]) hx hb d_Pr_hold_4 rfl hl (by decide) rfl (fun ls hl => ?_)
  refine lv_aload_n hx hb d_Pr_hold_5 rfl (lv_at hl 3 rfl) ?_
  refine lv_iconst (v := 0) hx hb d_Pr_hold_6 (by decide) ?_
  refine va_lald hx hb hK hP 14 0 rfl rfl (vp_lit rfl) d_Pr_hold_7 ?_
  refine lv_topl (fun v_1 ev_1 => ?_)
  obtain rfl : v_1 = lN 2 := ev_1.trans hr0
  refine lv_ldc2 (v := 2) hx hb hown (hts _ (List.mem_cons_of_mem _ gk_439)) d_Pr_hold_8 ?_
  refine W.lcmp hx hb d_Pr_hold_11 ?_
  refine lv_if_ne (tgt := 65) hx hb d_Pr_hold_12 (by decide) (fun c_2 => ?_) (fun c_2 => ?_)
  · -- taken
    exact absurd ((cmpe (k := 2) (by omega) 2 (by omega) rfl).mpr rfl) c_2
  · -- not taken
    refine lv_aload_n hx hb d_Pr_hold_15 rfl (lv_at hl 1 rfl) ?_
    refine lv_aload_n hx hb d_Pr_hold_16 rfl (lv_at hl 0 rfl) ?_
    refine lv_aload_n hx hb d_Pr_hold_17 rfl (lv_at hl 3 rfl) ?_
    have hPc := hP.sub (ws' := (gp_ws g0 mF mE P f1 k1 Q f2 k2 G ++ rw_ws ra cJ rw)) [11, 12, 13, 14] rfl
    have hKc := hK.sub (tys' := [(cJ, .long), (cI, .int)]) [0, 1] rfl
    refine va_calli (va_runV (As := [.ref g0, .ref ra]) (rest := []) ⟨hx, hb, hml, hown, hts⟩ (c_Pr_isBallotSound l s.heap dC dI cJ cI pr0 g0 mF mE P f1 k1 Q f2 k2 G ra rw hPc hok) (cwV 2 hts (gw_V gk_440 gk_442 gp_9 gk_4 gk_443) rfl rfl rfl (by decide +kernel) ⟨Nat.le_of_ble_eq_true rfl, Nat.le_of_ble_eq_true rfl⟩) ⟨fun a U g mk q => ⟨q.1, q.2.1, va_K.moved (u := U) (U := U.calling g mk a) (Vm.Alike.refl U.vm) q.2.2⟩, va_recv hK hP (ci := 5) (q0 := 0) rfl rfl, fun U hU hW => ⟨rfl, hU, va_K.moved hW.alike hKc⟩⟩ rfl rfl hl.1 rfl (lv_room (Nat.le_of_ble_eq_true rfl)) d_Pr_hold_18 ⟨Nat.le_of_ble_eq_true rfl, Nat.le_of_ble_eq_true rfl⟩) hS (fun q _ h => h.elim) (fun q h => h.elim) (fun r18 u9 t9 H1 locs ht hvm hw hB hz1 hk1 hS => ?_)
    obtain rfl : s.heap = H1 := hB.symm.trans ht
    have h18 := hw
    refine lv_if_ne (tgt := 26) hx hb d_Pr_hold_21 (by decide) (fun c_3 => ?_) (fun c_3 => ?_)
    · -- taken
      obtain ⟨⟨C1, e4, hC9⟩, ⟨Z1, e5, hZ9⟩, ⟨D1, e6, hD9⟩, ⟨Y1, e7, hY9⟩, ⟨A1, e2, hA1, hA9, hAQ⟩, ⟨B1, e3, hB1, hB9, hBQ⟩⟩ := bz_t h18 c_3
      refine lv_aload_n hx hb d_Pr_hold_26 rfl (lv_at hl 1 rfl) ?_
      refine lv_aload_n hx hb d_Pr_hold_27 rfl (lv_at hl 2 rfl) ?_
      refine lv_aload_n hx hb d_Pr_hold_28 rfl (lv_at hl 3 rfl) ?_
      have hPc := hP.sub (ws' := (pr_ws pr0 h0 cm cJ cf ++ (tl_ws t0 ka aa ba sa (.ref g0) cJ ko ao bo so tn kc bc shc kp shp pa pb sht ++ (gp_ws g0 mF mE P f1 k1 Q f2 k2 G ++ rw_ws ra cJ rw)))) [0, 1, 6, 7, 8, 9, 10, 11, 12, 13, 14] rfl
      have hDc := hD.sub (ws' := (pr_ws pr0 h0 cm cJ cf ++ (tl_ws t0 ka aa ba sa (.ref g0) cJ ko ao bo so tn kc bc shc kp shp pa pb sht ++ (gp_ws g0 mF mE P f1 k1 Q f2 k2 G ++ rw_ws ra cJ rw)))) [0, 1, 6, 7, 8, 9, 10, 11, 12, 13, 14] (by decide) rfl
      have hKc := hK.sub (tys' := [(cJ, .long), (cI, .int)]) [0, 1] rfl
      have hFc := va_free (wc := (pr_ws pr0 h0 cm cJ cf ++ (tl_ws t0 ka aa ba sa (.ref g0) cJ ko ao bo so tn kc bc shc kp shp pa pb sht ++ (gp_ws g0 mF mE P f1 k1 Q f2 k2 G ++ rw_ws ra cJ rw)))) hD hS hA [0, 1, 6, 7, 8, 9, 10, 11, 12, 13, 14] rfl
      refine va_callv (va_runV (As := [.ref t0, .ref ra]) (rest := []) ⟨hx, hb, hml, hown, hts⟩ (c_Pr_openForZero l dC dI cJ cI s.heap.size pr0 h0 cm cf t0 ka aa ba sa ko ao bo so tn kc bc shc kp shp pa pb sht g0 mF mE P f1 k1 Q f2 k2 G ra rw A1 B1 C1 Z1 hok htn hkc hkp e2 e3 e4 e5 hA9 hB9 hC9 hZ9) (cwV 2 hts (gw_V gk_449 gk_451 gp_10 gk_4 gk_452) rfl rfl rfl (by decide +kernel) ⟨Nat.le_of_ble_eq_true rfl, Nat.le_of_ble_eq_true rfl⟩) ⟨fun a U g mk q => by obtain ⟨q0, q1, qP, qK, qD⟩ := q; exact ⟨q0, q1, qP, va_K.moved (u := U) (U := U.calling g mk a) (Vm.Alike.refl U.vm) qK, qD⟩, va_recv hK hP (ci := 5) (q0 := 0) rfl rfl, fun U hU hW => ⟨rfl, by rw [hU], by rw [hU]; exact hPc, va_K.moved hW.alike hKc, hDc.weaken (fun _ _ _ _ => trivial)⟩⟩ rfl rfl hl.1 rfl (lv_room (Nat.le_of_ble_eq_true rfl)) d_Pr_hold_29 ⟨Nat.le_of_ble_eq_true rfl, Nat.le_of_ble_eq_true rfl⟩) hS (fun q _ h => hFc q h) hFc (fun u9 t9 H1 locs ht hvm hw hB hz1 hk1 hS => ?_)
      obtain ⟨hP1, hK1, hD1⟩ := hB
      rw [ht] at hP1
      obtain ⟨hP, hD⟩ := va_join (wr := [(h0, .inr (2, [.ref aw, .ref ax, .ref ay, .int (nI L)])), (aw, .inl (cJ, 16, .inr (.inl w))), (ax, .inl (cI, 64, .inl sc)), (ay, .inl (cI, 8, .inl st))]) (w1 := [(pr0, .inr (5, [.ref h0, .ref cm])), (cm, .inl (cJ, 4, .inr (.inl (lF (updN (updN cf 0 (G ^ Z1 * A1 ^ ((Q - C1) % Q) % P)) 1 ((ckey tn kc kp) ^ Z1 * B1 ^ ((Q - C1) % Q) % P)))))), (t0, .inr (4, [.ref ka, .ref aa, .ref ba, .ref sa, .ref g0, .int (nI tn), .int (nI kc), .int (nI bc), .int (nI shc), .long (lN kp), .long (lN shp), .long (lN pa), .long (lN pb), .int sht])), (ka, .inl (cJ, 4, .inr (.inl (lF ko)))), (aa, .inl (cJ, 64, .inr (.inl (lF ao)))), (ba, .inl (cJ, 64, .inr (.inl (lF bo)))), (sa, .inl (cJ, 4, .inr (.inl (lF so)))), (g0, .inr (1, [.ref mF, .ref mE, .long (lN G), .long (lN (G ^ (Q - 1) % P))])), (mF, .inr (0, [.long (lN P), .long (lN (P % 2 ^ 31)), .long (lN (P / 2 ^ 31)), .long (lN f1), .long (lN (2 ^ 62 % P)), .long (lN (2 ^ 124 % P)), .int (nI k1)])), (mE, .inr (0, [.long (lN Q), .long (lN (Q % 2 ^ 31)), .long (lN (Q / 2 ^ 31)), .long (lN f2), .long (lN (2 ^ 62 % Q)), .long (lN (2 ^ 124 % Q)), .int (nI k2)])), (ra, .inl (cJ, 8, .inr (.inl rw)))]) hP hD [0, 1, 6, 7, 8, 9, 10, 11, 12, 13, 14] [2, 3, 4, 5] rfl rfl (by decide) (by decide) hk1 hFc hP1 hD1
      have hP := hP.sub (ws' := [(pr0, .inr (5, [.ref h0, .ref cm])), (cm, .inl (cJ, 4, .inr (.inl (lF (updN (updN cf 0 (G ^ Z1 * A1 ^ ((Q - C1) % Q) % P)) 1 ((ckey tn kc kp) ^ Z1 * B1 ^ ((Q - C1) % Q) % P)))))), (h0, .inr (2, [.ref aw, .ref ax, .ref ay, .int (nI L)])), (aw, .inl (cJ, 16, .inr (.inl w))), (ax, .inl (cI, 64, .inl sc)), (ay, .inl (cI, 8, .inl st)), (t0, .inr (4, [.ref ka, .ref aa, .ref ba, .ref sa, .ref g0, .int (nI tn), .int (nI kc), .int (nI bc), .int (nI shc), .long (lN kp), .long (lN shp), .long (lN pa), .long (lN pb), .int sht])), (ka, .inl (cJ, 4, .inr (.inl (lF ko)))), (aa, .inl (cJ, 64, .inr (.inl (lF ao)))), (ba, .inl (cJ, 64, .inr (.inl (lF bo)))), (sa, .inl (cJ, 4, .inr (.inl (lF so)))), (g0, .inr (1, [.ref mF, .ref mE, .long (lN G), .long (lN (G ^ (Q - 1) % P))])), (mF, .inr (0, [.long (lN P), .long (lN (P % 2 ^ 31)), .long (lN (P / 2 ^ 31)), .long (lN f1), .long (lN (2 ^ 62 % P)), .long (lN (2 ^ 124 % P)), .int (nI k1)])), (mE, .inr (0, [.long (lN Q), .long (lN (Q % 2 ^ 31)), .long (lN (Q / 2 ^ 31)), .long (lN f2), .long (lN (2 ^ 62 % Q)), .long (lN (2 ^ 124 % Q)), .int (nI k2)])), (ra, .inl (cJ, 8, .inr (.inl rw)))]) [4, 5, 0, 1, 2, 3, 6, 7, 8, 9, 10, 11, 12, 13, 14] rfl
      have hD := hD.sub (ws' := [(pr0, .inr (5, [.ref h0, .ref cm])), (cm, .inl (cJ, 4, .inr (.inl (lF (updN (updN cf 0 (G ^ Z1 * A1 ^ ((Q - C1) % Q) % P)) 1 ((ckey tn kc kp) ^ Z1 * B1 ^ ((Q - C1) % Q) % P)))))), (h0, .inr (2, [.ref aw, .ref ax, .ref ay, .int (nI L)])), (aw, .inl (cJ, 16, .inr (.inl w))), (ax, .inl (cI, 64, .inl sc)), (ay, .inl (cI, 8, .inl st)), (t0, .inr (4, [.ref ka, .ref aa, .ref ba, .ref sa, .ref g0, .int (nI tn), .int (nI kc), .int (nI bc), .int (nI shc), .long (lN kp), .long (lN shp), .long (lN pa), .long (lN pb), .int sht])), (ka, .inl (cJ, 4, .inr (.inl (lF ko)))), (aa, .inl (cJ, 64, .inr (.inl (lF ao)))), (ba, .inl (cJ, 64, .inr (.inl (lF bo)))), (sa, .inl (cJ, 4, .inr (.inl (lF so)))), (g0, .inr (1, [.ref mF, .ref mE, .long (lN G), .long (lN (G ^ (Q - 1) % P))])), (mF, .inr (0, [.long (lN P), .long (lN (P % 2 ^ 31)), .long (lN (P / 2 ^ 31)), .long (lN f1), .long (lN (2 ^ 62 % P)), .long (lN (2 ^ 124 % P)), .int (nI k1)])), (mE, .inr (0, [.long (lN Q), .long (lN (Q % 2 ^ 31)), .long (lN (Q / 2 ^ 31)), .long (lN f2), .long (lN (2 ^ 62 % Q)), .long (lN (2 ^ 124 % Q)), .int (nI k2)])), (ra, .inl (cJ, 8, .inr (.inl rw)))]) [4, 5, 0, 1, 2, 3, 6, 7, 8, 9, 10, 11, 12, 13, 14] (by decide) rfl
      generalize H1 = H at hP hS ⊢
      refine lv_aload_n hx hb d_Pr_hold_32 rfl (lv_at hl 1 rfl) ?_
      refine lv_aload_n hx hb d_Pr_hold_33 rfl (lv_at hl 2 rfl) ?_
      refine lv_aload_n hx hb d_Pr_hold_34 rfl (lv_at hl 3 rfl) ?_
      have hPc := hP.sub (ws' := (pr_ws pr0 h0 cm cJ (updN (updN cf 0 (G ^ Z1 * A1 ^ ((Q - C1) % Q) % P)) 1 ((ckey tn kc kp) ^ Z1 * B1 ^ ((Q - C1) % Q) % P)) ++ (tl_ws t0 ka aa ba sa (.ref g0) cJ ko ao bo so tn kc bc shc kp shp pa pb sht ++ (gp_ws g0 mF mE P f1 k1 Q f2 k2 G ++ rw_ws ra cJ rw)))) [0, 1, 6, 7, 8, 9, 10, 11, 12, 13, 14] rfl
      have hDc := hD.sub (ws' := (pr_ws pr0 h0 cm cJ (updN (updN cf 0 (G ^ Z1 * A1 ^ ((Q - C1) % Q) % P)) 1 ((ckey tn kc kp) ^ Z1 * B1 ^ ((Q - C1) % Q) % P)) ++ (tl_ws t0 ka aa ba sa (.ref g0) cJ ko ao bo so tn kc bc shc kp shp pa pb sht ++ (gp_ws g0 mF mE P f1 k1 Q f2 k2 G ++ rw_ws ra cJ rw)))) [0, 1, 6, 7, 8, 9, 10, 11, 12, 13, 14] (by decide) rfl
      have hKc := hK.sub (tys' := [(cJ, .long), (cI, .int)]) [0, 1] rfl
      have hFc := va_free (wc := (pr_ws pr0 h0 cm cJ (updN (updN cf 0 (G ^ Z1 * A1 ^ ((Q - C1) % Q) % P)) 1 ((ckey tn kc kp) ^ Z1 * B1 ^ ((Q - C1) % Q) % P)) ++ (tl_ws t0 ka aa ba sa (.ref g0) cJ ko ao bo so tn kc bc shc kp shp pa pb sht ++ (gp_ws g0 mF mE P f1 k1 Q f2 k2 G ++ rw_ws ra cJ rw)))) hD hS hA [0, 1, 6, 7, 8, 9, 10, 11, 12, 13, 14] rfl
      refine va_callv (va_runV (As := [.ref t0, .ref ra]) (rest := []) ⟨hx, hb, hml, hown, hts⟩ (c_Pr_openForOne l dC dI cJ cI H.size pr0 h0 cm (updN (updN cf 0 (G ^ Z1 * A1 ^ ((Q - C1) % Q) % P)) 1 ((ckey tn kc kp) ^ Z1 * B1 ^ ((Q - C1) % Q) % P)) t0 ka aa ba sa ko ao bo so tn kc bc shc kp shp pa pb sht g0 mF mE P f1 k1 Q f2 k2 G ra rw A1 B1 D1 Y1 hok htn hkc hkp e2 e3 e6 e7 hA9 hB9 hD9 hY9) (cwV 2 hts (gw_V gk_477 gk_479 gp_11 gk_4 gk_480) rfl rfl rfl (by decide +kernel) ⟨Nat.le_of_ble_eq_true rfl, Nat.le_of_ble_eq_true rfl⟩) ⟨fun a U g mk q => by obtain ⟨q0, q1, qP, qK, qD⟩ := q; exact ⟨q0, q1, qP, va_K.moved (u := U) (U := U.calling g mk a) (Vm.Alike.refl U.vm) qK, qD⟩, va_recv hK hP (ci := 5) (q0 := 0) rfl rfl, fun U hU hW => ⟨rfl, by rw [hU], by rw [hU]; exact hPc, va_K.moved hW.alike hKc, hDc.weaken (fun _ _ _ _ => trivial)⟩⟩ rfl rfl hl.1 rfl (lv_room (Nat.le_of_ble_eq_true rfl)) d_Pr_hold_35 ⟨Nat.le_of_ble_eq_true rfl, Nat.le_of_ble_eq_true rfl⟩) hS (fun q _ h => hFc q h) hFc (fun u9 t9 H1 locs ht hvm hw hB hz1 hk1 hS => ?_)
      obtain ⟨hP1, hK1, hD1⟩ := hB
      rw [ht] at hP1
      obtain ⟨hP, hD⟩ := va_join (wr := [(h0, .inr (2, [.ref aw, .ref ax, .ref ay, .int (nI L)])), (aw, .inl (cJ, 16, .inr (.inl w))), (ax, .inl (cI, 64, .inl sc)), (ay, .inl (cI, 8, .inl st))]) (w1 := [(pr0, .inr (5, [.ref h0, .ref cm])), (cm, .inl (cJ, 4, .inr (.inl (lF (updN (updN (updN (updN cf 0 (G ^ Z1 * A1 ^ ((Q - C1) % Q) % P)) 1 ((ckey tn kc kp) ^ Z1 * B1 ^ ((Q - C1) % Q) % P)) 2 (G ^ Y1 * A1 ^ ((Q - D1) % Q) % P)) 3 ((ckey tn kc kp) ^ Y1 * (B1 * (G ^ (Q - 1) % P) % P) ^ ((Q - D1) % Q) % P)))))), (t0, .inr (4, [.ref ka, .ref aa, .ref ba, .ref sa, .ref g0, .int (nI tn), .int (nI kc), .int (nI bc), .int (nI shc), .long (lN kp), .long (lN shp), .long (lN pa), .long (lN pb), .int sht])), (ka, .inl (cJ, 4, .inr (.inl (lF ko)))), (aa, .inl (cJ, 64, .inr (.inl (lF ao)))), (ba, .inl (cJ, 64, .inr (.inl (lF bo)))), (sa, .inl (cJ, 4, .inr (.inl (lF so)))), (g0, .inr (1, [.ref mF, .ref mE, .long (lN G), .long (lN (G ^ (Q - 1) % P))])), (mF, .inr (0, [.long (lN P), .long (lN (P % 2 ^ 31)), .long (lN (P / 2 ^ 31)), .long (lN f1), .long (lN (2 ^ 62 % P)), .long (lN (2 ^ 124 % P)), .int (nI k1)])), (mE, .inr (0, [.long (lN Q), .long (lN (Q % 2 ^ 31)), .long (lN (Q / 2 ^ 31)), .long (lN f2), .long (lN (2 ^ 62 % Q)), .long (lN (2 ^ 124 % Q)), .int (nI k2)])), (ra, .inl (cJ, 8, .inr (.inl rw)))]) hP hD [0, 1, 6, 7, 8, 9, 10, 11, 12, 13, 14] [2, 3, 4, 5] rfl rfl (by decide) (by decide) hk1 hFc hP1 hD1
      have hP := hP.sub (ws' := [(pr0, .inr (5, [.ref h0, .ref cm])), (cm, .inl (cJ, 4, .inr (.inl (lF (updN (updN (updN (updN cf 0 (G ^ Z1 * A1 ^ ((Q - C1) % Q) % P)) 1 ((ckey tn kc kp) ^ Z1 * B1 ^ ((Q - C1) % Q) % P)) 2 (G ^ Y1 * A1 ^ ((Q - D1) % Q) % P)) 3 ((ckey tn kc kp) ^ Y1 * (B1 * (G ^ (Q - 1) % P) % P) ^ ((Q - D1) % Q) % P)))))), (h0, .inr (2, [.ref aw, .ref ax, .ref ay, .int (nI L)])), (aw, .inl (cJ, 16, .inr (.inl w))), (ax, .inl (cI, 64, .inl sc)), (ay, .inl (cI, 8, .inl st)), (t0, .inr (4, [.ref ka, .ref aa, .ref ba, .ref sa, .ref g0, .int (nI tn), .int (nI kc), .int (nI bc), .int (nI shc), .long (lN kp), .long (lN shp), .long (lN pa), .long (lN pb), .int sht])), (ka, .inl (cJ, 4, .inr (.inl (lF ko)))), (aa, .inl (cJ, 64, .inr (.inl (lF ao)))), (ba, .inl (cJ, 64, .inr (.inl (lF bo)))), (sa, .inl (cJ, 4, .inr (.inl (lF so)))), (g0, .inr (1, [.ref mF, .ref mE, .long (lN G), .long (lN (G ^ (Q - 1) % P))])), (mF, .inr (0, [.long (lN P), .long (lN (P % 2 ^ 31)), .long (lN (P / 2 ^ 31)), .long (lN f1), .long (lN (2 ^ 62 % P)), .long (lN (2 ^ 124 % P)), .int (nI k1)])), (mE, .inr (0, [.long (lN Q), .long (lN (Q % 2 ^ 31)), .long (lN (Q / 2 ^ 31)), .long (lN f2), .long (lN (2 ^ 62 % Q)), .long (lN (2 ^ 124 % Q)), .int (nI k2)])), (ra, .inl (cJ, 8, .inr (.inl rw)))]) [4, 5, 0, 1, 2, 3, 6, 7, 8, 9, 10, 11, 12, 13, 14] rfl
      have hD := hD.sub (ws' := [(pr0, .inr (5, [.ref h0, .ref cm])), (cm, .inl (cJ, 4, .inr (.inl (lF (updN (updN (updN (updN cf 0 (G ^ Z1 * A1 ^ ((Q - C1) % Q) % P)) 1 ((ckey tn kc kp) ^ Z1 * B1 ^ ((Q - C1) % Q) % P)) 2 (G ^ Y1 * A1 ^ ((Q - D1) % Q) % P)) 3 ((ckey tn kc kp) ^ Y1 * (B1 * (G ^ (Q - 1) % P) % P) ^ ((Q - D1) % Q) % P)))))), (h0, .inr (2, [.ref aw, .ref ax, .ref ay, .int (nI L)])), (aw, .inl (cJ, 16, .inr (.inl w))), (ax, .inl (cI, 64, .inl sc)), (ay, .inl (cI, 8, .inl st)), (t0, .inr (4, [.ref ka, .ref aa, .ref ba, .ref sa, .ref g0, .int (nI tn), .int (nI kc), .int (nI bc), .int (nI shc), .long (lN kp), .long (lN shp), .long (lN pa), .long (lN pb), .int sht])), (ka, .inl (cJ, 4, .inr (.inl (lF ko)))), (aa, .inl (cJ, 64, .inr (.inl (lF ao)))), (ba, .inl (cJ, 64, .inr (.inl (lF bo)))), (sa, .inl (cJ, 4, .inr (.inl (lF so)))), (g0, .inr (1, [.ref mF, .ref mE, .long (lN G), .long (lN (G ^ (Q - 1) % P))])), (mF, .inr (0, [.long (lN P), .long (lN (P % 2 ^ 31)), .long (lN (P / 2 ^ 31)), .long (lN f1), .long (lN (2 ^ 62 % P)), .long (lN (2 ^ 124 % P)), .int (nI k1)])), (mE, .inr (0, [.long (lN Q), .long (lN (Q % 2 ^ 31)), .long (lN (Q / 2 ^ 31)), .long (lN f2), .long (lN (2 ^ 62 % Q)), .long (lN (2 ^ 124 % Q)), .int (nI k2)])), (ra, .inl (cJ, 8, .inr (.inl rw)))]) [4, 5, 0, 1, 2, 3, 6, 7, 8, 9, 10, 11, 12, 13, 14] (by decide) rfl
      generalize H1 = H at hP hS ⊢
      refine lv_aload_n hx hb d_Pr_hold_38 rfl (lv_at hl 0 rfl) ?_
      refine lv_aload_n hx hb d_Pr_hold_39 rfl (lv_at hl 3 rfl) ?_
      refine lv_iconst (v := 4) hx hb d_Pr_hold_40 (by decide) ?_
      refine va_lald hx hb hK hP 14 0 rfl rfl (vp_lit rfl) d_Pr_hold_41 ?_
      refine lv_topl (fun v_6 ev_6 => ?_)
      obtain rfl : v_6 = lN C1 := ev_6.trans e4
      refine lv_aload_n hx hb d_Pr_hold_42 rfl (lv_at hl 3 rfl) ?_
      refine lv_bipush (v := 6) hx hb d_Pr_hold_43 (by decide) ?_
      refine va_lald hx hb hK hP 14 0 rfl rfl (vp_lit rfl) d_Pr_hold_45 ?_
      refine lv_topl (fun v_7 ev_7 => ?_)
      obtain rfl : v_7 = lN D1 := ev_7.trans e6
      have hPc := hP.sub (ws' := (gp_ws g0 mF mE P f1 k1 Q f2 k2 G)) [11, 12, 13] rfl
      have hKc := hK.sub (tys' := []) [] rfl
      refine va_calll (va_runV (As := [.long (lN C1), .long (lN D1)]) (rest := []) ⟨hx, hb, hml, hown, hts⟩ (c_Gr_sum l H dC dI g0 mF mE P f1 k1 Q f2 k2 G C1 D1 hPc hok (by omega) (by omega)) (cwV 2 hts (gw_V gk_486 gk_487 gk_488 gk_8 gk_489) rfl rfl rfl (by decide +kernel) ⟨Nat.le_of_ble_eq_true rfl, Nat.le_of_ble_eq_true rfl⟩) ⟨fun a U g mk q => ⟨q.1, q.2.1, va_K.moved (u := U) (U := U.calling g mk a) (Vm.Alike.refl U.vm) q.2.2⟩, va_recv hK hP (ci := 1) (q0 := 11) rfl rfl, fun U hU hW => ⟨rfl, hU, va_K.moved hW.alike hKc⟩⟩ rfl rfl hl.1 rfl (lv_room (Nat.le_of_ble_eq_true rfl)) d_Pr_hold_46 ⟨Nat.le_of_ble_eq_true rfl, Nat.le_of_ble_eq_true rfl⟩) hS (fun q _ h => h.elim) (fun q h => h.elim) (fun r46 u9 t9 H1 locs ht hvm hw hB hz1 hk1 hS => ?_)
      obtain rfl : H = H1 := hB.symm.trans ht
      have hw : r46 = lN ((C1 + D1) % Q) := hw
      subst hw
      refine lv_aload_n hx hb d_Pr_hold_49 rfl (lv_at hl 1 rfl) ?_
      refine lv_aload_n hx hb d_Pr_hold_50 rfl (lv_at hl 2 rfl) ?_
      refine lv_aload_n hx hb d_Pr_hold_51 rfl (lv_at hl 3 rfl) ?_
      have hPc := hP.sub (ws' := (pr_ws pr0 h0 cm cJ (updN (updN (updN (updN cf 0 (G ^ Z1 * A1 ^ ((Q - C1) % Q) % P)) 1 ((ckey tn kc kp) ^ Z1 * B1 ^ ((Q - C1) % Q) % P)) 2 (G ^ Y1 * A1 ^ ((Q - D1) % Q) % P)) 3 ((ckey tn kc kp) ^ Y1 * (B1 * (G ^ (Q - 1) % P) % P) ^ ((Q - D1) % Q) % P)) ++ (ha_ws h0 aw ax ay cJ cI w sc st L ++ (tl_ws t0 ka aa ba sa (.ref g0) cJ ko ao bo so tn kc bc shc kp shp pa pb sht ++ (gp_ws g0 mF mE P f1 k1 Q f2 k2 G ++ rw_ws ra cJ rw))))) [0, 1, 2, 3, 4, 5, 6, 7, 8, 9, 10, 11, 12, 13, 14] rfl
      have hDc := hD.sub (ws' := (pr_ws pr0 h0 cm cJ (updN (updN (updN (updN cf 0 (G ^ Z1 * A1 ^ ((Q - C1) % Q) % P)) 1 ((ckey tn kc kp) ^ Z1 * B1 ^ ((Q - C1) % Q) % P)) 2 (G ^ Y1 * A1 ^ ((Q - D1) % Q) % P)) 3 ((ckey tn kc kp) ^ Y1 * (B1 * (G ^ (Q - 1) % P) % P) ^ ((Q - D1) % Q) % P)) ++ (ha_ws h0 aw ax ay cJ cI w sc st L ++ (tl_ws t0 ka aa ba sa (.ref g0) cJ ko ao bo so tn kc bc shc kp shp pa pb sht ++ (gp_ws g0 mF mE P f1 k1 Q f2 k2 G ++ rw_ws ra cJ rw))))) [0, 1, 2, 3, 4, 5, 6, 7, 8, 9, 10, 11, 12, 13, 14] (by decide) rfl
      have hKc := hK.sub (tys' := [(cJ, .long), (cI, .int)]) [0, 1] rfl
      have hFc := va_free (wc := (pr_ws pr0 h0 cm cJ (updN (updN (updN (updN cf 0 (G ^ Z1 * A1 ^ ((Q - C1) % Q) % P)) 1 ((ckey tn kc kp) ^ Z1 * B1 ^ ((Q - C1) % Q) % P)) 2 (G ^ Y1 * A1 ^ ((Q - D1) % Q) % P)) 3 ((ckey tn kc kp) ^ Y1 * (B1 * (G ^ (Q - 1) % P) % P) ^ ((Q - D1) % Q) % P)) ++ (ha_ws h0 aw ax ay cJ cI w sc st L ++ (tl_ws t0 ka aa ba sa (.ref g0) cJ ko ao bo so tn kc bc shc kp shp pa pb sht ++ (gp_ws g0 mF mE P f1 k1 Q f2 k2 G ++ rw_ws ra cJ rw))))) hD hS hA [0, 1, 2, 3, 4, 5, 6, 7, 8, 9, 10, 11, 12, 13, 14] rfl
      have hZc0 : ha_Z rA sA (va_A (pr_ws pr0 h0 cm cJ (updN (updN (updN (updN cf 0 (G ^ Z1 * A1 ^ ((Q - C1) % Q) % P)) 1 ((ckey tn kc kp) ^ Z1 * B1 ^ ((Q - C1) % Q) % P)) 2 (G ^ Y1 * A1 ^ ((Q - D1) % Q) % P)) 3 ((ckey tn kc kp) ^ Y1 * (B1 * (G ^ (Q - 1) % P) % P) ^ ((Q - D1) % Q) % P)) ++ (ha_ws h0 aw ax ay cJ cI w sc st L ++ (tl_ws t0 ka aa ba sa (.ref g0) cJ ko ao bo so tn kc bc shc kp shp pa pb sht ++ (gp_ws g0 mF mE P f1 k1 Q f2 k2 G ++ rw_ws ra cJ rw)))) H.size) s H := (hZha.kept hS.2.1).narrow hFc
      refine va_calll (va_runV (As := [.ref t0, .ref ra]) (rest := [.long (lN ((C1 + D1) % Q))]) ⟨hx, hb, hml, hown, hts⟩ (c_Pr_challenge_2 l dC dI cJ cI H.size pr0 h0 cm (updN (updN (updN (updN cf 0 (G ^ Z1 * A1 ^ ((Q - C1) % Q) % P)) 1 ((ckey tn kc kp) ^ Z1 * B1 ^ ((Q - C1) % Q) % P)) 2 (G ^ Y1 * A1 ^ ((Q - D1) % Q) % P)) 3 ((ckey tn kc kp) ^ Y1 * (B1 * (G ^ (Q - 1) % P) % P) ^ ((Q - D1) % Q) % P)) aw ax ay w sc st L t0 ka aa ba sa ko ao bo so tn kc bc shc kp shp pa pb sht g0 mF mE P f1 k1 Q f2 k2 G ra rw rA sA I (balMsg P Q G (ckey tn kc kp) I A1 B1 C1 Z1 D1 Y1) hok hr0 hr1 (by rw [e2, e3]; rfl)) (cwV 2 hts (gw_V gk_494 gk_496 gp_12 gk_4 gk_497) rfl rfl rfl (by decide +kernel) ⟨Nat.le_of_ble_eq_true rfl, Nat.le_of_ble_eq_true rfl⟩) ⟨fun a U g mk q => by obtain ⟨q0, q1, qP, qK, qD, qZ0⟩ := q; exact ⟨q0, q1, qP, va_K.moved (u := U) (U := U.calling g mk a) (Vm.Alike.refl U.vm) qK, qD, ha_Z.moved (u := U) (U := U.calling g mk a) (Vm.Alike.refl U.vm) qZ0⟩, va_recv hK hP (ci := 5) (q0 := 0) rfl rfl, fun U hU hW => ⟨rfl, by rw [hU], by rw [hU]; exact hPc, va_K.moved hW.alike hKc, hDc.weaken (fun _ _ _ _ => trivial), by rw [hU]; exact ha_Z.moved hW.alike hZc0⟩⟩ rfl rfl hl.1 rfl (lv_room (Nat.le_of_ble_eq_true rfl)) d_Pr_hold_52 ⟨Nat.le_of_ble_eq_true rfl, Nat.le_of_ble_eq_true rfl⟩) hS (fun q _ h => hFc q h) hFc (fun r_9 u9 t9 H1 locs ht hvm hw hB hz1 hk1 hS => ?_)
      obtain ⟨gwk_8, gsk_8, gtk_8, glk_8⟩ := u9
      have hw : r_9 = lN (hsh Q (balMsg P Q G (ckey tn kc kp) I A1 B1 C1 Z1 D1 Y1)) := hw
      subst hw
      obtain ⟨hP1, hK1, hD1⟩ := hB
      rw [ht] at hP1
      obtain ⟨hP, hD⟩ := va_join (wr := []) (w1 := [(pr0, .inr (5, [.ref h0, .ref cm])), (cm, .inl (cJ, 4, .inr (.inl (lF (updN (updN (updN (updN cf 0 (G ^ Z1 * A1 ^ ((Q - C1) % Q) % P)) 1 ((ckey tn kc kp) ^ Z1 * B1 ^ ((Q - C1) % Q) % P)) 2 (G ^ Y1 * A1 ^ ((Q - D1) % Q) % P)) 3 ((ckey tn kc kp) ^ Y1 * (B1 * (G ^ (Q - 1) % P) % P) ^ ((Q - D1) % Q) % P)))))), (h0, .inr (2, [.ref aw, .ref ax, .ref ay, .int (nI glk_8)])), (aw, .inl (cJ, 16, .inr (.inl gwk_8))), (ax, .inl (cI, 64, .inl gsk_8)), (ay, .inl (cI, 8, .inl gtk_8)), (t0, .inr (4, [.ref ka, .ref aa, .ref ba, .ref sa, .ref g0, .int (nI tn), .int (nI kc), .int (nI bc), .int (nI shc), .long (lN kp), .long (lN shp), .long (lN pa), .long (lN pb), .int sht])), (ka, .inl (cJ, 4, .inr (.inl (lF ko)))), (aa, .inl (cJ, 64, .inr (.inl (lF ao)))), (ba, .inl (cJ, 64, .inr (.inl (lF bo)))), (sa, .inl (cJ, 4, .inr (.inl (lF so)))), (g0, .inr (1, [.ref mF, .ref mE, .long (lN G), .long (lN (G ^ (Q - 1) % P))])), (mF, .inr (0, [.long (lN P), .long (lN (P % 2 ^ 31)), .long (lN (P / 2 ^ 31)), .long (lN f1), .long (lN (2 ^ 62 % P)), .long (lN (2 ^ 124 % P)), .int (nI k1)])), (mE, .inr (0, [.long (lN Q), .long (lN (Q % 2 ^ 31)), .long (lN (Q / 2 ^ 31)), .long (lN f2), .long (lN (2 ^ 62 % Q)), .long (lN (2 ^ 124 % Q)), .int (nI k2)])), (ra, .inl (cJ, 8, .inr (.inl rw)))]) hP hD [0, 1, 2, 3, 4, 5, 6, 7, 8, 9, 10, 11, 12, 13, 14] [] rfl rfl (by decide) (by decide) hk1 hFc hP1 hD1
      have hP := hP.sub (ws' := [(pr0, .inr (5, [.ref h0, .ref cm])), (cm, .inl (cJ, 4, .inr (.inl (lF (updN (updN (updN (updN cf 0 (G ^ Z1 * A1 ^ ((Q - C1) % Q) % P)) 1 ((ckey tn kc kp) ^ Z1 * B1 ^ ((Q - C1) % Q) % P)) 2 (G ^ Y1 * A1 ^ ((Q - D1) % Q) % P)) 3 ((ckey tn kc kp) ^ Y1 * (B1 * (G ^ (Q - 1) % P) % P) ^ ((Q - D1) % Q) % P)))))), (h0, .inr (2, [.ref aw, .ref ax, .ref ay, .int (nI glk_8)])), (aw, .inl (cJ, 16, .inr (.inl gwk_8))), (ax, .inl (cI, 64, .inl gsk_8)), (ay, .inl (cI, 8, .inl gtk_8)), (t0, .inr (4, [.ref ka, .ref aa, .ref ba, .ref sa, .ref g0, .int (nI tn), .int (nI kc), .int (nI bc), .int (nI shc), .long (lN kp), .long (lN shp), .long (lN pa), .long (lN pb), .int sht])), (ka, .inl (cJ, 4, .inr (.inl (lF ko)))), (aa, .inl (cJ, 64, .inr (.inl (lF ao)))), (ba, .inl (cJ, 64, .inr (.inl (lF bo)))), (sa, .inl (cJ, 4, .inr (.inl (lF so)))), (g0, .inr (1, [.ref mF, .ref mE, .long (lN G), .long (lN (G ^ (Q - 1) % P))])), (mF, .inr (0, [.long (lN P), .long (lN (P % 2 ^ 31)), .long (lN (P / 2 ^ 31)), .long (lN f1), .long (lN (2 ^ 62 % P)), .long (lN (2 ^ 124 % P)), .int (nI k1)])), (mE, .inr (0, [.long (lN Q), .long (lN (Q % 2 ^ 31)), .long (lN (Q / 2 ^ 31)), .long (lN f2), .long (lN (2 ^ 62 % Q)), .long (lN (2 ^ 124 % Q)), .int (nI k2)])), (ra, .inl (cJ, 8, .inr (.inl rw)))]) [0, 1, 2, 3, 4, 5, 6, 7, 8, 9, 10, 11, 12, 13, 14] rfl
      have hD := hD.sub (ws' := [(pr0, .inr (5, [.ref h0, .ref cm])), (cm, .inl (cJ, 4, .inr (.inl (lF (updN (updN (updN (updN cf 0 (G ^ Z1 * A1 ^ ((Q - C1) % Q) % P)) 1 ((ckey tn kc kp) ^ Z1 * B1 ^ ((Q - C1) % Q) % P)) 2 (G ^ Y1 * A1 ^ ((Q - D1) % Q) % P)) 3 ((ckey tn kc kp) ^ Y1 * (B1 * (G ^ (Q - 1) % P) % P) ^ ((Q - D1) % Q) % P)))))), (h0, .inr (2, [.ref aw, .ref ax, .ref ay, .int (nI glk_8)])), (aw, .inl (cJ, 16, .inr (.inl gwk_8))), (ax, .inl (cI, 64, .inl gsk_8)), (ay, .inl (cI, 8, .inl gtk_8)), (t0, .inr (4, [.ref ka, .ref aa, .ref ba, .ref sa, .ref g0, .int (nI tn), .int (nI kc), .int (nI bc), .int (nI shc), .long (lN kp), .long (lN shp), .long (lN pa), .long (lN pb), .int sht])), (ka, .inl (cJ, 4, .inr (.inl (lF ko)))), (aa, .inl (cJ, 64, .inr (.inl (lF ao)))), (ba, .inl (cJ, 64, .inr (.inl (lF bo)))), (sa, .inl (cJ, 4, .inr (.inl (lF so)))), (g0, .inr (1, [.ref mF, .ref mE, .long (lN G), .long (lN (G ^ (Q - 1) % P))])), (mF, .inr (0, [.long (lN P), .long (lN (P % 2 ^ 31)), .long (lN (P / 2 ^ 31)), .long (lN f1), .long (lN (2 ^ 62 % P)), .long (lN (2 ^ 124 % P)), .int (nI k1)])), (mE, .inr (0, [.long (lN Q), .long (lN (Q % 2 ^ 31)), .long (lN (Q / 2 ^ 31)), .long (lN f2), .long (lN (2 ^ 62 % Q)), .long (lN (2 ^ 124 % Q)), .int (nI k2)])), (ra, .inl (cJ, 8, .inr (.inl rw)))]) [0, 1, 2, 3, 4, 5, 6, 7, 8, 9, 10, 11, 12, 13, 14] (by decide) rfl
      generalize H1 = H at hP hS ⊢
      refine W.lcmp hx hb d_Pr_hold_55 ?_
      refine lv_if_ne (tgt := 63) hx hb d_Pr_hold_56 (by decide) (fun c_10 => ?_) (fun c_10 => ?_)
      · -- taken
        have hbad : ¬ balHd P Q G (ckey tn kc kp) I (rw 2) (rw 3) (rw 4) (rw 5) (rw 6) (rw 7) := by
          rintro ⟨A2, B2, C2, Z2, D2, Y2, a2, a3, a4, a5, a6, a7, hC2, hZ2, hD2, hY2, hA2, hB2, hh⟩
          obtain rfl := lN_inj (by omega) (by omega) (e2.symm.trans a2)
          obtain rfl := lN_inj (by omega) (by omega) (e3.symm.trans a3)
          obtain rfl := lN_inj (by omega) (by omega) (e4.symm.trans a4)
          obtain rfl := lN_inj (by omega) (by omega) (e5.symm.trans a5)
          obtain rfl := lN_inj (by omega) (by omega) (e6.symm.trans a6)
          obtain rfl := lN_inj (by omega) (by omega) (e7.symm.trans a7)
          exact c_10 ((ln_cmp_eq (by have := Nat.mod_lt (C1 + D1) (show 0 < Q by omega); omega) (by have := hsh_lt (Q := Q) (by omega) (balMsg P Q G (ckey tn kc kp) I A1 B1 C1 Z1 D1 Y1); omega)).mpr hh)
        refine lv_iconst (v := 0) hx hb d_Pr_hold_63 (by decide) ?_
        exact W.zret (v := 0) hx hb hr (by decide) (fun t ht9 hW => ⟨⟨_, (updN (updN (updN (updN cf 0 (G ^ Z1 * A1 ^ ((Q - C1) % Q) % P)) 1 ((ckey tn kc kp) ^ Z1 * B1 ^ ((Q - C1) % Q) % P)) 2 (G ^ Y1 * A1 ^ ((Q - D1) % Q) % P)) 3 ((ckey tn kc kp) ^ Y1 * (B1 * (G ^ (Q - 1) % P) % P) ^ ((Q - D1) % Q) % P), gwk_8, gsk_8, gtk_8, glk_8), rfl, (bz_0 hbad), by rw [ht9]; exact hP, va_K.moved hW.alike hK, hD⟩, hS.F ht9⟩) hS.2.2 d_Pr_hold_64
      · -- not taken
        have hgood : balHd P Q G (ckey tn kc kp) I (rw 2) (rw 3) (rw 4) (rw 5) (rw 6) (rw 7) := ⟨A1, B1, C1, Z1, D1, Y1, e2, e3, e4, e5, e6, e7, hC9, hZ9, hD9, hY9, ⟨hA1, hA9, hAQ⟩, ⟨hB1, hB9, hBQ⟩, (ln_cmp_eq (by have := Nat.mod_lt (C1 + D1) (show 0 < Q by omega); omega) (by have := hsh_lt (Q := Q) (by omega) (balMsg P Q G (ckey tn kc kp) I A1 B1 C1 Z1 D1 Y1); omega)).mp c_10⟩
        refine lv_iconst (v := 1) hx hb d_Pr_hold_59 (by decide) ?_
        refine lv_goto (tgt := 64) hx hb d_Pr_hold_60 (by decide) ?_
        exact W.zret (v := 1) hx hb hr (by decide) (fun t ht9 hW => ⟨⟨_, (updN (updN (updN (updN cf 0 (G ^ Z1 * A1 ^ ((Q - C1) % Q) % P)) 1 ((ckey tn kc kp) ^ Z1 * B1 ^ ((Q - C1) % Q) % P)) 2 (G ^ Y1 * A1 ^ ((Q - D1) % Q) % P)) 3 ((ckey tn kc kp) ^ Y1 * (B1 * (G ^ (Q - 1) % P) % P) ^ ((Q - D1) % Q) % P), gwk_8, gsk_8, gtk_8, glk_8), rfl, (bz_1 hgood), by rw [ht9]; exact hP, va_K.moved hW.alike hK, hD⟩, hS.F ht9⟩) hS.2.2 d_Pr_hold_64
    · -- not taken
      have hbad : ¬ balHd P Q G (ckey tn kc kp) I (rw 2) (rw 3) (rw 4) (rw 5) (rw 6) (rw 7) := fun ⟨A2, B2, C2, Z2, D2, Y2, a2, a3, a4, a5, a6, a7, hC2, hZ2, hD2, hY2, hA2, hB2, hh⟩ => bz_f h18 c_3 ⟨⟨C2, a4, hC2⟩, ⟨Z2, a5, hZ2⟩, ⟨D2, a6, hD2⟩, ⟨Y2, a7, hY2⟩, ⟨A2, a2, hA2⟩, ⟨B2, a3, hB2⟩⟩
      refine lv_iconst (v := 0) hx hb d_Pr_hold_24 (by decide) ?_
      exact W.zret (v := 0) hx hb hr (by decide) (fun t ht9 hW => ⟨⟨_, (cf, w, sc, st, L), rfl, (bz_0 hbad), by rw [ht9]; exact hP, va_K.moved hW.alike hK, hD⟩, hS.F ht9⟩) hS.2.2 d_Pr_hold_25
