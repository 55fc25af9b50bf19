abbrev b_Pr_challenge : ByteArray := prog_7_method_12_code
abbrev y_Pr_challenge : MethodName := ⟨"BallotBoard$Proofs", "challenge", "(LBallotBoard$Tally;[J)J"⟩
abbrev w_Pr_challenge : List Cond := .code y_Pr_challenge b_Pr_challenge 6 (some .long) :: gw
theorem d_Pr_challenge_0 : decode b_Pr_challenge 0 = .ok (.aload_n 1, 1) := by decide +kernel
theorem d_Pr_challenge_1 : decode b_Pr_challenge 1 = .ok (.invokevirtual 19, 3) := by decide +kernel
theorem d_Pr_challenge_4 : decode b_Pr_challenge 4 = .ok (.astore_n 3, 1) := by decide +kernel
theorem d_Pr_challenge_5 : decode b_Pr_challenge 5 = .ok (.aload_n 0, 1) := by decide +kernel
theorem d_Pr_challenge_6 : decode b_Pr_challenge 6 = .ok (.getfield 9, 3) := by decide +kernel
theorem d_Pr_challenge_9 : decode b_Pr_challenge 9 = .ok (.invokevirtual 96, 3) := by decide +kernel
theorem d_Pr_challenge_12 : decode b_Pr_challenge 12 = .ok (.aload_n 0, 1) := by decide +kernel
theorem d_Pr_challenge_13 : decode b_Pr_challenge 13 = .ok (.getfield 9, 3) := by decide +kernel
theorem d_Pr_challenge_16 : decode b_Pr_challenge 16 = .ok (.aload_n 3, 1) := by decide +kernel
theorem d_Pr_challenge_17 : decode b_Pr_challenge 17 = .ok (.invokevirtual 101, 3) := by decide +kernel
theorem d_Pr_challenge_20 : decode b_Pr_challenge 20 = .ok (.invokevirtual 104, 3) := by decide +kernel
theorem d_Pr_challenge_23 : decode b_Pr_challenge 23 = .ok (.aload_n 0, 1) := by decide +kernel
theorem d_Pr_challenge_24 : decode b_Pr_challenge 24 = .ok (.getfield 9, 3) := by decide +kernel
theorem d_Pr_challenge_27 : decode b_Pr_challenge 27 = .ok (.aload_n 3, 1) := by decide +kernel
theorem d_Pr_challenge_28 : decode b_Pr_challenge 28 = .ok (.invokevirtual 54, 3) := by decide +kernel
theorem d_Pr_challenge_31 : decode b_Pr_challenge 31 = .ok (.invokevirtual 104, 3) := by decide +kernel
theorem d_Pr_challenge_34 : decode b_Pr_challenge 34 = .ok (.aload_n 0, 1) := by decide +kernel
theorem d_Pr_challenge_35 : decode b_Pr_challenge 35 = .ok (.getfield 9, 3) := by decide +kernel
theorem d_Pr_challenge_38 : decode b_Pr_challenge 38 = .ok (.aload_n 2, 1) := by decide +kernel
theorem d_Pr_challenge_39 : decode b_Pr_challenge 39 = .ok (.iconst 0, 1) := by decide +kernel
theorem d_Pr_challenge_40 : decode b_Pr_challenge 40 = .ok (.laload, 1) := by decide +kernel
theorem d_Pr_challenge_41 : decode b_Pr_challenge 41 = .ok (.invokevirtual 104, 3) := by decide +kernel
theorem d_Pr_challenge_44 : decode b_Pr_challenge 44 = .ok (.aload_n 0, 1) := by decide +kernel
theorem d_Pr_challenge_45 : decode b_Pr_challenge 45 = .ok (.getfield 9, 3) := by decide +kernel
theorem d_Pr_challenge_48 : decode b_Pr_challenge 48 = .ok (.aload_n 2, 1) := by decide +kernel
theorem d_Pr_challenge_49 : decode b_Pr_challenge 49 = .ok (.iconst 1, 1) := by decide +kernel
theorem d_Pr_challenge_50 : decode b_Pr_challenge 50 = .ok (.laload, 1) := by decide +kernel
theorem d_Pr_challenge_51 : decode b_Pr_challenge 51 = .ok (.invokevirtual 104, 3) := by decide +kernel
theorem d_Pr_challenge_54 : decode b_Pr_challenge 54 = .ok (.iconst 1, 1) := by decide +kernel
theorem d_Pr_challenge_55 : decode b_Pr_challenge 55 = .ok (.istore 4, 2) := by decide +kernel
theorem d_Pr_challenge_57 : decode b_Pr_challenge 57 = .ok (.aload_n 2, 1) := by decide +kernel
theorem d_Pr_challenge_58 : decode b_Pr_challenge 58 = .ok (.iconst 0, 1) := by decide +kernel
theorem d_Pr_challenge_59 : decode b_Pr_challenge 59 = .ok (.laload, 1) := by decide +kernel
theorem d_Pr_challenge_60 : decode b_Pr_challenge 60 = .ok (.ldc2_w 25, 3) := by decide +kernel
theorem d_Pr_challenge_63 : decode b_Pr_challenge 63 = .ok (.lcmp, 1) := by decide +kernel
theorem d_Pr_challenge_64 : decode b_Pr_challenge 64 = .ok (.ifCond .ne 29, 3) := by decide +kernel
theorem d_Pr_challenge_67 : decode b_Pr_challenge 67 = .ok (.aload_n 0, 1) := by decide +kernel
theorem d_Pr_challenge_68 : decode b_Pr_challenge 68 = .ok (.getfield 9, 3) := by decide +kernel
theorem d_Pr_challenge_71 : decode b_Pr_challenge 71 = .ok (.aload_n 2, 1) := by decide +kernel
theorem d_Pr_challenge_72 : decode b_Pr_challenge 72 = .ok (.iconst 2, 1) := by decide +kernel
theorem d_Pr_challenge_73 : decode b_Pr_challenge 73 = .ok (.laload, 1) := by decide +kernel
theorem d_Pr_challenge_74 : decode b_Pr_challenge 74 = .ok (.invokevirtual 104, 3) := by decide +kernel
theorem d_Pr_challenge_77 : decode b_Pr_challenge 77 = .ok (.aload_n 0, 1) := by decide +kernel
theorem d_Pr_challenge_78 : decode b_Pr_challenge 78 = .ok (.getfield 9, 3) := by decide +kernel
theorem d_Pr_challenge_81 : decode b_Pr_challenge 81 = .ok (.aload_n 2, 1) := by decide +kernel
theorem d_Pr_challenge_82 : decode b_Pr_challenge 82 = .ok (.iconst 3, 1) := by decide +kernel
theorem d_Pr_challenge_83 : decode b_Pr_challenge 83 = .ok (.laload, 1) := by decide +kernel
theorem d_Pr_challenge_84 : decode b_Pr_challenge 84 = .ok (.invokevirtual 104, 3) := by decide +kernel
theorem d_Pr_challenge_87 : decode b_Pr_challenge 87 = .ok (.iconst 4, 1) := by decide +kernel
theorem d_Pr_challenge_88 : decode b_Pr_challenge 88 = .ok (.istore 4, 2) := by decide +kernel
theorem d_Pr_challenge_90 : decode b_Pr_challenge 90 = .ok (.goto 50, 3) := by decide +kernel
theorem d_Pr_challenge_93 : decode b_Pr_challenge 93 = .ok (.aload_n 2, 1) := by decide +kernel
theorem d_Pr_challenge_94 : decode b_Pr_challenge 94 = .ok (.iconst 0, 1) := by decide +kernel
theorem d_Pr_challenge_95 : decode b_Pr_challenge 95 = .ok (.laload, 1) := by decide +kernel
theorem d_Pr_challenge_96 : decode b_Pr_challenge 96 = .ok (.ldc2_w 108, 3) := by decide +kernel
theorem d_Pr_challenge_99 : decode b_Pr_challenge 99 = .ok (.lcmp, 1) := by decide +kernel
theorem d_Pr_challenge_100 : decode b_Pr_challenge 100 = .ok (.ifCond .ne 30, 3) := by decide +kernel
theorem d_Pr_challenge_103 : decode b_Pr_challenge 103 = .ok (.aload_n 0, 1) := by decide +kernel
theorem d_Pr_challenge_104 : decode b_Pr_challenge 104 = .ok (.getfield 9, 3) := by decide +kernel
theorem d_Pr_challenge_107 : decode b_Pr_challenge 107 = .ok (.aload_n 1, 1) := by decide +kernel
theorem d_Pr_challenge_108 : decode b_Pr_challenge 108 = .ok (.invokevirtual 65, 3) := by decide +kernel
theorem d_Pr_challenge_111 : decode b_Pr_challenge 111 = .ok (.invokevirtual 104, 3) := by decide +kernel
theorem d_Pr_challenge_114 : decode b_Pr_challenge 114 = .ok (.aload_n 0, 1) := by decide +kernel
theorem d_Pr_challenge_115 : decode b_Pr_challenge 115 = .ok (.getfield 9, 3) := by decide +kernel
theorem d_Pr_challenge_118 : decode b_Pr_challenge 118 = .ok (.aload_n 2, 1) := by decide +kernel
theorem d_Pr_challenge_119 : decode b_Pr_challenge 119 = .ok (.iconst 2, 1) := by decide +kernel
theorem d_Pr_challenge_120 : decode b_Pr_challenge 120 = .ok (.laload, 1) := by decide +kernel
theorem d_Pr_challenge_121 : decode b_Pr_challenge 121 = .ok (.invokevirtual 104, 3) := by decide +kernel
theorem d_Pr_challenge_124 : decode b_Pr_challenge 124 = .ok (.iconst 2, 1) := by decide +kernel
theorem d_Pr_challenge_125 : decode b_Pr_challenge 125 = .ok (.istore 4, 2) := by decide +kernel
theorem d_Pr_challenge_127 : decode b_Pr_challenge 127 = .ok (.goto 13, 3) := by decide +kernel
theorem d_Pr_challenge_130 : decode b_Pr_challenge 130 = .ok (.aload_n 0, 1) := by decide +kernel
theorem d_Pr_challenge_131 : decode b_Pr_challenge 131 = .ok (.getfield 9, 3) := by decide +kernel
theorem d_Pr_challenge_134 : decode b_Pr_challenge 134 = .ok (.aload_n 2, 1) := by decide +kernel
theorem d_Pr_challenge_135 : decode b_Pr_challenge 135 = .ok (.iconst 2, 1) := by decide +kernel
theorem d_Pr_challenge_136 : decode b_Pr_challenge 136 = .ok (.laload, 1) := by decide +kernel
theorem d_Pr_challenge_137 : decode b_Pr_challenge 137 = .ok (.invokevirtual 104, 3) := by decide +kernel
theorem d_Pr_challenge_140 : decode b_Pr_challenge 140 = .ok (.iconst 0, 1) := by decide +kernel
theorem d_Pr_challenge_141 : decode b_Pr_challenge 141 = .ok (.istore 5, 2) := by decide +kernel
theorem d_Pr_challenge_143 : decode b_Pr_challenge 143 = .ok (.iload 5, 2) := by decide +kernel
theorem d_Pr_challenge_145 : decode b_Pr_challenge 145 = .ok (.iload 4, 2) := by decide +kernel
theorem d_Pr_challenge_147 : decode b_Pr_challenge 147 = .ok (.if_icmp .ge 23, 3) := by decide +kernel
theorem d_Pr_challenge_150 : decode b_Pr_challenge 150 = .ok (.aload_n 0, 1) := by decide +kernel
theorem d_Pr_challenge_151 : decode b_Pr_challenge 151 = .ok (.getfield 9, 3) := by decide +kernel
theorem d_Pr_challenge_154 : decode b_Pr_challenge 154 = .ok (.aload_n 0, 1) := by decide +kernel
theorem d_Pr_challenge_155 : decode b_Pr_challenge 155 = .ok (.getfield 15, 3) := by decide +kernel
theorem d_Pr_challenge_158 : decode b_Pr_challenge 158 = .ok (.iload 5, 2) := by decide +kernel
theorem d_Pr_challenge_160 : decode b_Pr_challenge 160 = .ok (.laload, 1) := by decide +kernel
theorem d_Pr_challenge_161 : decode b_Pr_challenge 161 = .ok (.invokevirtual 104, 3) := by decide +kernel
theorem d_Pr_challenge_164 : decode b_Pr_challenge 164 = .ok (.iinc 5 1, 3) := by decide +kernel
theorem d_Pr_challenge_167 : decode b_Pr_challenge 167 = .ok (.goto (-24), 3) := by decide +kernel
theorem d_Pr_challenge_170 : decode b_Pr_challenge 170 = .ok (.aload_n 0, 1) := by decide +kernel
theorem d_Pr_challenge_171 : decode b_Pr_challenge 171 = .ok (.getfield 9, 3) := by decide +kernel
theorem d_Pr_challenge_174 : decode b_Pr_challenge 174 = .ok (.invokevirtual 110, 3) := by decide +kernel
theorem d_Pr_challenge_177 : decode b_Pr_challenge 177 = .ok (.aload_n 3, 1) := by decide +kernel
theorem d_Pr_challenge_178 : decode b_Pr_challenge 178 = .ok (.aload_n 0, 1) := by decide +kernel
theorem d_Pr_challenge_179 : decode b_Pr_challenge 179 = .ok (.getfield 9, 3) := by decide +kernel
theorem d_Pr_challenge_182 : decode b_Pr_challenge 182 = .ok (.iconst 0, 1) := by decide +kernel
theorem d_Pr_challenge_183 : decode b_Pr_challenge 183 = .ok (.invokevirtual 113, 3) := by decide +kernel
theorem d_Pr_challenge_186 : decode b_Pr_challenge 186 = .ok (.invokevirtual 116, 3) := by decide +kernel
theorem d_Pr_challenge_189 : decode b_Pr_challenge 189 = .ok (.lreturn, 1) := by decide +kernel
set_option maxHeartbeats 8000000 in
set_option maxRecDepth 100000 in
theorem c_Pr_challenge_1 (l : Launch) (dC : Nat → ClassId) (dI : Nat → Nat → Nat) (cJ cI : ClassId) (sz : Nat) (pr0 h0 cm : Nat) (cf : Nat → Nat) (aw ax ay : Nat) (w : Nat → Int64) (sc st : Nat → Int32) (L : Nat) (t0 ka aa ba sa : Nat) (ko ao bo so : Nat → Nat) (tn kc bc shc kp shp pa pb : Nat) (sht : Int32) (g0 mF mE P f1 k1 Q f2 k2 G : Nat) (ra : Nat) (rw : Nat → Int64) (rA sA : Nat) (I : Nat) (msg : List Int64) (hok : gp_ok P f1 k1 Q f2 k2 G) (hr0 : rw 0 = lN 1) (hr1 : rw 1 = lN I) (hmsg : [lN P, lN G, lN 1, lN I, rw 2, lN (cf 0)] = msg) : Met l y_Pr_challenge w_Pr_challenge ({ frames := 3, cells := 0, slots := 0, locals := 82 }) (va_Pc [.ref pr0, .ref t0, .ref ra] (fun U => U.heap.size = sz ∧ va_P (dC, dI) classes (pr_ws pr0 h0 cm cJ cf ++ (ha_ws h0 aw ax ay cJ cI w sc st L ++ (tl_ws t0 ka aa ba sa (.ref g0) cJ ko ao bo so tn kc bc shc kp shp pa pb sht ++ (gp_ws g0 mF mE P f1 k1 Q f2 k2 G ++ rw_ws ra cJ rw)))) U.heap ∧ va_K (dC, dI) classes [(cJ, .long), (cI, .int)] U ∧ va_D (fun _ => True) (pr_ws pr0 h0 cm cJ cf ++ (ha_ws h0 aw ax ay cJ cI w sc st L ++ (tl_ws t0 ka aa ba sa (.ref g0) cJ ko ao bo so tn kc bc shc kp shp pa pb sht ++ (gp_ws g0 mF mE P f1 k1 Q f2 k2 G ++ rw_ws ra cJ rw)))) ∧ ha_Z rA sA (va_A (pr_ws pr0 h0 cm cJ cf ++ (ha_ws h0 aw ax ay cJ cI w sc st L ++ (tl_ws t0 ka aa ba sa (.ref g0) cJ ko ao bo so tn kc bc shc kp shp pa pb sht ++ (gp_ws g0 mF mE P f1 k1 Q f2 k2 G ++ rw_ws ra cJ rw)))) sz) U U.heap)) (va_Ql (fun (r : Int64) (u9 : HU) => r = lN (hsh Q msg)) (fun u9 t => va_P (dC, dI) classes (pr_ws pr0 h0 cm cJ cf ++ (hu_ws h0 aw ax ay cJ cI u9 ++ (tl_ws t0 ka aa ba sa (.ref g0) cJ ko ao bo so tn kc bc shc kp shp pa pb sht ++ (gp_ws g0 mF mE P f1 k1 Q f2 k2 G ++ rw_ws ra cJ rw)))) t.heap ∧ va_K (dC, dI) classes [(cJ, .long), (cI, .int)] t ∧ va_D (va_A (pr_ws pr0 h0 cm cJ cf ++ (ha_ws h0 aw ax ay cJ cI w sc st L ++ (tl_ws t0 ka aa ba sa (.ref g0) cJ ko ao bo so tn kc bc shc kp shp pa pb sht ++ (gp_ws g0 mF mE P f1 k1 Q f2 k2 G ++ rw_ws ra cJ rw)))) sz) (pr_ws pr0 h0 cm cJ cf ++ (hu_ws h0 aw ax ay cJ cI u9 ++ (tl_ws t0 ka aa ba sa (.ref g0) cJ ko ao bo so tn kc bc shc kp shp pa pb sht ++ (gp_ws g0 mF mE P f1 k1 Q f2 k2 G ++ rw_ws ra cJ rw))))) (va_A (pr_ws pr0 h0 cm cJ cf ++ (ha_ws h0 aw ax ay cJ cI w sc st L ++ (tl_ws t0 ka aa ba sa (.ref g0) cJ ko ao bo so tn kc bc shc kp shp pa pb sht ++ (gp_ws g0 mF mE P f1 k1 Q f2 k2 G ++ rw_ws ra cJ rw)))) sz)) 0 0 (va_A (pr_ws pr0 h0 cm cJ cf ++ (ha_ws h0 aw ax ay cJ cI w sc st L ++ (tl_ws t0 ka aa ba sa (.ref g0) cJ ko ao bo so tn kc bc shc kp shp pa pb sht ++ (gp_ws g0 mF mE P f1 k1 Q f2 k2 G ++ rw_ws ra cJ rw)))) sz) := by
  refine Met.ofW (cc := b_Pr_challenge) (maxL := 6) (ret := (some .long)) (by decide) rfl ?_
  intro p e s m args below meth c s₁ Bd hml hv
  obtain ⟨rfl, hsz, hP, hK, hD0, hZha⟩ := hv
  have hx := Bd.exec
  have hb := Bd.bytes
  have hr := Bd.returns
  have hts := atoms_spec (ws := w_Pr_challenge) Bd.pre
  have hown : s.vm.findClass "BallotBoard$Proofs" = some m.cls := findClass_of_methodNamed Bd.named
  have hlocks := Bd.notSynchronized
  subst hsz
  have hD := hD0.self (sz := s.heap.size)
  generalize hAe : va_A (pr_ws pr0 h0 cm cJ cf ++ (ha_ws h0 aw ax ay cJ cI w sc st L ++ (tl_ws t0 ka aa ba sa (.ref g0) cJ ko ao bo so tn kc bc shc kp shp pa pb sht ++ (gp_ws g0 mF mE P f1 k1 Q f2 k2 G ++ rw_ws ra cJ rw)))) s.heap.size = A at hD hZha ⊢
  have hA : ∀ q : Nat, s.heap.size ≤ q → A q := fun q h => by rw [← hAe]; exact Or.inr h
  have hS : va_S A s.heap s.heap [] := va_S.rf
  have hl := lv_entry ([.ref pr0, .ref t0, .ref ra]) (n := 6) (Nat.le_of_ble_eq_true rfl)
  rw [lg_entry_eq]
  generalize (lg_sl ([.ref pr0, .ref t0, .ref ra]) ++ List.replicate (6 - (lg_sl ([.ref pr0, .ref t0, .ref ra])).length) Slot.unset).toArray = ls at hl ⊢
  have hl : lv_has ls 6 [(0, .ref pr0), (1, .ref t0), (2, .ref ra)] := hl
  obtain ⟨hokF, hokE, hPQ, hG2, hGP, hGQ⟩ := id hok
  obtain ⟨hoF, h3F, h61F, _, _, hk61F, hNkF⟩ := id hokF
  obtain ⟨hoE, h3E, h61E, _, _, hk61E, hNkE⟩ := id hokE
  refine lv_aload_n hx hb d_Pr_challenge_0 rfl (lv_at hl 1 rfl) ?_
  have hPc := hP.sub (ws' := (tl_ws t0 ka aa ba sa (.ref g0) cJ ko ao bo so tn kc bc shc kp shp pa pb sht)) [6, 7, 8, 9, 10] rfl
  have hKc := hK.sub (tys' := [(cJ, .long), (cI, .int)]) [0, 1] rfl
  refine va_callr (va_runV (As := []) (rest := []) ⟨hx, hb, hml, hown, hts⟩ (c_Ta_group l s.heap dC dI cJ cI t0 ka aa ba sa g0 ko ao bo so tn kc bc shc kp shp pa pb sht hPc) (cwV 0 hts (gw_V gk_435 gk_436 gk_437 gk_5 gk_438) rfl rfl rfl (by decide +kernel) ⟨Nat.le_of_ble_eq_true rfl, Nat.le_of_ble_eq_true rfl⟩) ⟨fun a U g mk q => ⟨q.1, q.2.1, va_K.moved (u := U) (U := U.calling g mk a) (Vm.Alike.refl U.vm) q.2.2⟩, va_recv hK hP (ci := 4) (q0 := 6) rfl rfl, fun U hU hW => ⟨rfl, hU, va_K.moved hW.alike hKc⟩⟩ rfl rfl hl.1 rfl (lv_room (Nat.le_of_ble_eq_true rfl)) d_Pr_challenge_1 ⟨Nat.le_of_ble_eq_true rfl, Nat.le_of_ble_eq_true rfl⟩) hS (fun q _ h => h.elim) (fun q h => h.elim) (fun u9 r1 t9 H1 locs ht hvm hw hB hz1 hk1 hS => ?_)
  obtain ⟨hra, hB⟩ := hB
  have hra := hra.symm
  subst hra
  obtain rfl : s.heap = H1 := hB.symm.trans ht
  refine lv_astore_n (lv' := [(3, .ref g0), (0, .ref pr0), (1, .ref t0), (2, .ref ra)]) hx hb d_Pr_challenge_4 rfl hl (by decide) rfl (fun ls hl => ?_)
  refine lv_aload_n hx hb d_Pr_challenge_5 rfl (lv_at hl 1 rfl) ?_
  refine va_get (D := (dC, dI)) (ci := 5) (v := .ref h0) (C := "BallotBoard$Proofs") (T := F_Pr) (N := 2) hx hb hts (fun w9 h9 => List.mem_cons_of_mem _ (i_Pr w9 h9)) hown hK hP 0 rfl rfl 0 (by decide) (hts _ (List.mem_cons_of_mem _ gk_79)) (fun _ h9 => h9) rfl d_Pr_challenge_6 ?_
  have hPc := hP.sub (ws' := (ha_ws h0 aw ax ay cJ cI w sc st L)) [2, 3, 4, 5] rfl
  have hDc := hD.sub (ws' := (ha_ws h0 aw ax ay cJ cI w sc st L)) [2, 3, 4, 5] (by decide) rfl
  have hKc := hK.sub (tys' := [(cJ, .long), (cI, .int)]) [0, 1] rfl
  have hFc := va_free (wc := (ha_ws h0 aw ax ay cJ cI w sc st L)) hD hS hA [2, 3, 4, 5] rfl
  refine va_callv (va_runV (As := []) (rest := []) ⟨hx, hb, hml, hown, hts⟩ (c_Ha_start l dC dI h0 s.heap.size aw ax ay cJ cI w sc st L) (cwV 0 hts (gw_V gk_498 gk_499 gk_500 gk_2 gk_501) rfl rfl rfl (by decide +kernel) ⟨Nat.le_of_ble_eq_true rfl, Nat.le_of_ble_eq_true rfl⟩) ⟨fun a U g mk q => by obtain ⟨q0, q1, qP, qK, qD⟩ := q; exact ⟨q0, q1, qP, va_K.moved (u := U) (U := U.calling g mk a) (Vm.Alike.refl U.vm) qK, qD⟩, va_recv hK hP (ci := 2) (q0 := 2) rfl rfl, fun U hU hW => ⟨rfl, by rw [hU], by rw [hU]; exact hPc, va_K.moved hW.alike hKc, hDc.weaken (fun _ _ _ _ => trivial)⟩⟩ rfl rfl hl.1 rfl (lv_room (Nat.le_of_ble_eq_true rfl)) d_Pr_challenge_9 ⟨Nat.le_of_ble_eq_true rfl, Nat.le_of_ble_eq_true rfl⟩) hS (fun q _ h => hFc q h) hFc (fun u9 t9 H1 locs ht hvm hw hB hz1 hk1 hS => ?_)
  obtain ⟨hP1, hK1, hD1⟩ := hB
  rw [ht] at hP1
  obtain ⟨hP, hD⟩ := va_join (wr := [(pr0, .inr (5, [.ref h0, .ref cm])), (cm, .inl (cJ, 4, .inr (.inl (lF cf)))), (t0, .inr (4, [.ref ka, .ref aa, .ref ba, .ref sa, .ref g0, .int (nI tn), .int (nI kc), .int (nI bc), .int (nI shc), .long (lN kp), .long (lN shp), .long (lN pa), .long (lN pb), .int sht])), (ka, .inl (cJ, 4, .inr (.inl (lF ko)))), (aa, .inl (cJ, 64, .inr (.inl (lF ao)))), (ba, .inl (cJ, 64, .inr (.inl (lF bo)))), (sa, .inl (cJ, 4, .inr (.inl (lF so)))), (g0, .inr (1, [.ref mF, .ref mE, .long (lN G), .long (lN (G ^ (Q - 1) % P))])), (mF, .inr (0, [.long (lN P), .long (lN (P % 2 ^ 31)), .long (lN (P / 2 ^ 31)), .long (lN f1), .long (lN (2 ^ 62 % P)), .long (lN (2 ^ 124 % P)), .int (nI k1)])), (mE, .inr (0, [.long (lN Q), .long (lN (Q % 2 ^ 31)), .long (lN (Q / 2 ^ 31)), .long (lN f2), .long (lN (2 ^ 62 % Q)), .long (lN (2 ^ 124 % Q)), .int (nI k2)])), (ra, .inl (cJ, 8, .inr (.inl rw)))]) (w1 := [(h0, .inr (2, [.ref aw, .ref ax, .ref ay, .int (nI 0)])), (aw, .inl (cJ, 16, .inr (.inl w))), (ax, .inl (cI, 64, .inl sc)), (ay, .inl (cI, 8, .inl st))]) hP hD [2, 3, 4, 5] [0, 1, 6, 7, 8, 9, 10, 11, 12, 13, 14] rfl rfl (by decide) (by decide) hk1 hFc hP1 hD1
  have hP := hP.sub (ws' := [(pr0, .inr (5, [.ref h0, .ref cm])), (cm, .inl (cJ, 4, .inr (.inl (lF cf)))), (h0, .inr (2, [.ref aw, .ref ax, .ref ay, .int (nI 0)])), (aw, .inl (cJ, 16, .inr (.inl w))), (ax, .inl (cI, 64, .inl sc)), (ay, .inl (cI, 8, .inl st)), (t0, .inr (4, [.ref ka, .ref aa, .ref ba, .ref sa, .ref g0, .int (nI tn), .int (nI kc), .int (nI bc), .int (nI shc), .long (lN kp), .long (lN shp), .long (lN pa), .long (lN pb), .int sht])), (ka, .inl (cJ, 4, .inr (.inl (lF ko)))), (aa, .inl (cJ, 64, .inr (.inl (lF ao)))), (ba, .inl (cJ, 64, .inr (.inl (lF bo)))), (sa, .inl (cJ, 4, .inr (.inl (lF so)))), (g0, .inr (1, [.ref mF, .ref mE, .long (lN G), .long (lN (G ^ (Q - 1) % P))])), (mF, .inr (0, [.long (lN P), .long (lN (P % 2 ^ 31)), .long (lN (P / 2 ^ 31)), .long (lN f1), .long (lN (2 ^ 62 % P)), .long (lN (2 ^ 124 % P)), .int (nI k1)])), (mE, .inr (0, [.long (lN Q), .long (lN (Q % 2 ^ 31)), .long (lN (Q / 2 ^ 31)), .long (lN f2), .long (lN (2 ^ 62 % Q)), .long (lN (2 ^ 124 % Q)), .int (nI k2)])), (ra, .inl (cJ, 8, .inr (.inl rw)))]) [0, 1, 11, 12, 13, 14, 2, 3, 4, 5, 6, 7, 8, 9, 10] rfl
  have hD := hD.sub (ws' := [(pr0, .inr (5, [.ref h0, .ref cm])), (cm, .inl (cJ, 4, .inr (.inl (lF cf)))), (h0, .inr (2, [.ref aw, .ref ax, .ref ay, .int (nI 0)])), (aw, .inl (cJ, 16, .inr (.inl w))), (ax, .inl (cI, 64, .inl sc)), (ay, .inl (cI, 8, .inl st)), (t0, .inr (4, [.ref ka, .ref aa, .ref ba, .ref sa, .ref g0, .int (nI tn), .int (nI kc), .int (nI bc), .int (nI shc), .long (lN kp), .long (lN shp), .long (lN pa), .long (lN pb), .int sht])), (ka, .inl (cJ, 4, .inr (.inl (lF ko)))), (aa, .inl (cJ, 64, .inr (.inl (lF ao)))), (ba, .inl (cJ, 64, .inr (.inl (lF bo)))), (sa, .inl (cJ, 4, .inr (.inl (lF so)))), (g0, .inr (1, [.ref mF, .ref mE, .long (lN G), .long (lN (G ^ (Q - 1) % P))])), (mF, .inr (0, [.long (lN P), .long (lN (P % 2 ^ 31)), .long (lN (P / 2 ^ 31)), .long (lN f1), .long (lN (2 ^ 62 % P)), .long (lN (2 ^ 124 % P)), .int (nI k1)])), (mE, .inr (0, [.long (lN Q), .long (lN (Q % 2 ^ 31)), .long (lN (Q / 2 ^ 31)), .long (lN f2), .long (lN (2 ^ 62 % Q)), .long (lN (2 ^ 124 % Q)), .int (nI k2)])), (ra, .inl (cJ, 8, .inr (.inl rw)))]) [0, 1, 11, 12, 13, 14, 2, 3, 4, 5, 6, 7, 8, 9, 10] (by decide) rfl
  generalize H1 = H at hP hS ⊢
  have hm0 := wok_0 w
  refine lv_aload_n hx hb d_Pr_challenge_12 rfl (lv_at hl 1 rfl) ?_
  refine va_get (D := (dC, dI)) (ci := 5) (v := .ref h0) (C := "BallotBoard$Proofs") (T := F_Pr) (N := 2) hx hb hts (fun w9 h9 => List.mem_cons_of_mem _ (i_Pr w9 h9)) hown hK hP 0 rfl rfl 0 (by decide) (hts _ (List.mem_cons_of_mem _ gk_79)) (fun _ h9 => h9) rfl d_Pr_challenge_13 ?_
  refine lv_aload_n hx hb d_Pr_challenge_16 rfl (lv_at hl 0 rfl) ?_
  have hPc := hP.sub (ws' := (gp_ws g0 mF mE P f1 k1 Q f2 k2 G)) [11, 12, 13] rfl
  have hKc := hK.sub (tys' := []) [] rfl
  refine va_calll (va_runV (As := []) (rest := [.ref h0]) ⟨hx, hb, hml, hown, hts⟩ (c_Gr_p l H dC dI g0 mF mE P f1 k1 Q f2 k2 G  hPc hok ) (cwV 0 hts (gw_V gk_502 gk_503 gk_504 gk_8 gk_505) rfl rfl rfl (by decide +kernel) ⟨Nat.le_of_ble_eq_true rfl, Nat.le_of_ble_eq_true rfl⟩) ⟨fun a U g mk q => ⟨q.1, q.2.1, va_K.moved (u := U) (U := U.calling g mk a) (Vm.Alike.refl U.vm) q.2.2⟩, va_recv hK hP (ci := 1) (q0 := 11) rfl rfl, fun U hU hW => ⟨rfl, hU, va_K.moved hW.alike hKc⟩⟩ rfl rfl hl.1 rfl (lv_room (Nat.le_of_ble_eq_true rfl)) d_Pr_challenge_17 ⟨Nat.le_of_ble_eq_true rfl, Nat.le_of_ble_eq_true rfl⟩) hS (fun q _ h => h.elim) (fun q h => h.elim) (fun r17 u9 t9 H1 locs ht hvm hw hB hz1 hk1 hS => ?_)
  obtain rfl : H = H1 := hB.symm.trans ht
  have hw : r17 = lN P := hw
  subst hw
  have hPc := hP.sub (ws' := (ha_ws h0 aw ax ay cJ cI w sc st 0)) [2, 3, 4, 5] rfl
  have hDc := hD.sub (ws' := (ha_ws h0 aw ax ay cJ cI w sc st 0)) [2, 3, 4, 5] (by decide) rfl
  have hKc := hK.sub (tys' := [(cJ, .long), (cI, .int)]) [0, 1] rfl
  have hFc := va_free (wc := (ha_ws h0 aw ax ay cJ cI w sc st 0)) hD hS hA [2, 3, 4, 5] rfl
  refine va_callv (va_runV (As := [.long (lN P)]) (rest := []) ⟨hx, hb, hml, hown, hts⟩ (c_Ha_add l dC dI h0 H.size aw ax ay cJ cI w sc st 0 (lN P) (by decide)) (cwV 1 hts (gw_V gk_506 gk_507 gk_508 gk_2 gk_509) rfl rfl rfl (by decide +kernel) ⟨Nat.le_of_ble_eq_true rfl, Nat.le_of_ble_eq_true rfl⟩) ⟨fun a U g mk q => by obtain ⟨q0, q1, qP, qK, qD⟩ := q; exact ⟨q0, q1, qP, va_K.moved (u := U) (U := U.calling g mk a) (Vm.Alike.refl U.vm) qK, qD⟩, va_recv hK hP (ci := 2) (q0 := 2) rfl rfl, fun U hU hW => ⟨rfl, by rw [hU], by rw [hU]; exact hPc, va_K.moved hW.alike hKc, hDc.weaken (fun _ _ _ _ => trivial)⟩⟩ rfl rfl hl.1 rfl (lv_room (Nat.le_of_ble_eq_true rfl)) d_Pr_challenge_20 ⟨Nat.le_of_ble_eq_true rfl, Nat.le_of_ble_eq_true rfl⟩) hS (fun q _ h => hFc q h) hFc (fun u9 t9 H1 locs ht hvm hw hB hz1 hk1 hS => ?_)
  obtain ⟨hP1, hK1, hD1⟩ := hB
  rw [ht] at hP1
  obtain ⟨hP, hD⟩ := va_join (wr := [(pr0, .inr (5, [.ref h0, .ref cm])), (cm, .inl (cJ, 4, .inr (.inl (lF cf)))), (t0, .inr (4, [.ref ka, .ref aa, .ref ba, .ref sa, .ref g0, .int (nI tn), .int (nI kc), .int (nI bc), .int (nI shc), .long (lN kp), .long (lN shp), .long (lN pa), .long (lN pb), .int sht])), (ka, .inl (cJ, 4, .inr (.inl (lF ko)))), (aa, .inl (cJ, 64, .inr (.inl (lF ao)))), (ba, .inl (cJ, 64, .inr (.inl (lF bo)))), (sa, .inl (cJ, 4, .inr (.inl (lF so)))), (g0, .inr (1, [.ref mF, .ref mE, .long (lN G), .long (lN (G ^ (Q - 1) % P))])), (mF, .inr (0, [.long (lN P), .long (lN (P % 2 ^ 31)), .long (lN (P / 2 ^ 31)), .long (lN f1), .long (lN (2 ^ 62 % P)), .long (lN (2 ^ 124 % P)), .int (nI k1)])), (mE, .inr (0, [.long (lN Q), .long (lN (Q % 2 ^ 31)), .long (lN (Q / 2 ^ 31)), .long (lN f2), .long (lN (2 ^ 62 % Q)), .long (lN (2 ^ 124 % Q)), .int (nI k2)])), (ra, .inl (cJ, 8, .inr (.inl rw)))]) (w1 := [(h0, .inr (2, [.ref aw, .ref ax, .ref ay, .int (nI 1)])), (aw, .inl (cJ, 16, .inr (.inl (vp_updL w 0 (lN P))))), (ax, .inl (cI, 64, .inl sc)), (ay, .inl (cI, 8, .inl st))]) hP hD [2, 3, 4, 5] [0, 1, 6, 7, 8, 9, 10, 11, 12, 13, 14] rfl rfl (by decide) (by decide) hk1 hFc hP1 hD1
  have hP := hP.sub (ws' := [(pr0, .inr (5, [.ref h0, .ref cm])), (cm, .inl (cJ, 4, .inr (.inl (lF cf)))), (h0, .inr (2, [.ref aw, .ref ax, .ref ay, .int (nI 1)])), (aw, .inl (cJ, 16, .inr (.inl (vp_updL w 0 (lN P))))), (ax, .inl (cI, 64, .inl sc)), (ay, .inl (cI, 8, .inl st)), (t0, .inr (4, [.ref ka, .ref aa, .ref ba, .ref sa, .ref g0, .int (nI tn), .int (nI kc), .int (nI bc), .int (nI shc), .long (lN kp), .long (lN shp), .long (lN pa), .long (lN pb), .int sht])), (ka, .inl (cJ, 4, .inr (.inl (lF ko)))), (aa, .inl (cJ, 64, .inr (.inl (lF ao)))), (ba, .inl (cJ, 64, .inr (.inl (lF bo)))), (sa, .inl (cJ, 4, .inr (.inl (lF so)))), (g0, .inr (1, [.ref mF, .ref mE, .long (lN G), .long (lN (G ^ (Q - 1) % P))])), (mF, .inr (0, [.long (lN P), .long (lN (P % 2 ^ 31)), .long (lN (P / 2 ^ 31)), .long (lN f1), .long (lN (2 ^ 62 % P)), .long (lN (2 ^ 124 % P)), .int (nI k1)])), (mE, .inr (0, [.long (lN Q), .long (lN (Q % 2 ^ 31)), .long (lN (Q / 2 ^ 31)), .long (lN f2), .long (lN (2 ^ 62 % Q)), .long (lN (2 ^ 124 % Q)), .int (nI k2)])), (ra, .inl (cJ, 8, .inr (.inl rw)))]) [0, 1, 11, 12, 13, 14, 2, 3, 4, 5, 6, 7, 8, 9, 10] rfl
  have hD := hD.sub (ws' := [(pr0, .inr (5, [.ref h0, .ref cm])), (cm, .inl (cJ, 4, .inr (.inl (lF cf)))), (h0, .inr (2, [.ref aw, .ref ax, .ref ay, .int (nI 1)])), (aw, .inl (cJ, 16, .inr (.inl (vp_updL w 0 (lN P))))), (ax, .inl (cI, 64, .inl sc)), (ay, .inl (cI, 8, .inl st)), (t0, .inr (4, [.ref ka, .ref aa, .ref ba, .ref sa, .ref g0, .int (nI tn), .int (nI kc), .int (nI bc), .int (nI shc), .long (lN kp), .long (lN shp), .long (lN pa), .long (lN pb), .int sht])), (ka, .inl (cJ, 4, .inr (.inl (lF ko)))), (aa, .inl (cJ, 64, .inr (.inl (lF ao)))), (ba, .inl (cJ, 64, .inr (.inl (lF bo)))), (sa, .inl (cJ, 4, .inr (.inl (lF so)))), (g0, .inr (1, [.ref mF, .ref mE, .long (lN G), .long (lN (G ^ (Q - 1) % P))])), (mF, .inr (0, [.long (lN P), .long (lN (P % 2 ^ 31)), .long (lN (P / 2 ^ 31)), .long (lN f1), .long (lN (2 ^ 62 % P)), .long (lN (2 ^ 124 % P)), .int (nI k1)])), (mE, .inr (0, [.long (lN Q), .long (lN (Q % 2 ^ 31)), .long (lN (Q / 2 ^ 31)), .long (lN f2), .long (lN (2 ^ 62 % Q)), .long (lN (2 ^ 124 % Q)), .int (nI k2)])), (ra, .inl (cJ, 8, .inr (.inl rw)))]) [0, 1, 11, 12, 13, 14, 2, 3, 4, 5, 6, 7, 8, 9, 10] (by decide) rfl
  generalize H1 = H at hP hS ⊢
  obtain ⟨g_3, eg_3⟩ : ∃ f : Nat → Int64, f = vp_updL w 0 (lN P) := ⟨_, rfl⟩
  rw [← eg_3] at hP hD
  have hm_4 : wok g_3 1 [lN P] := wok_add _ hm0 eg_3
  refine lv_aload_n hx hb d_Pr_challenge_23 rfl (lv_at hl 1 rfl) ?_
  refine va_get (D := (dC, dI)) (ci := 5) (v := .ref h0) (C := "BallotBoard$Proofs") (T := F_Pr) (N := 2) hx hb hts (fun w9 h9 => List.mem_cons_of_mem _ (i_Pr w9 h9)) hown hK hP 0 rfl rfl 0 (by decide) (hts _ (List.mem_cons_of_mem _ gk_79)) (fun _ h9 => h9) rfl d_Pr_challenge_24 ?_
  refine lv_aload_n hx hb d_Pr_challenge_27 rfl (lv_at hl 0 rfl) ?_
  have hPc := hP.sub (ws' := (gp_ws g0 mF mE P f1 k1 Q f2 k2 G)) [11, 12, 13] rfl
  have hKc := hK.sub (tys' := []) [] rfl
  refine va_calll (va_runV (As := []) (rest := [.ref h0]) ⟨hx, hb, hml, hown, hts⟩ (c_Gr_g l H dC dI g0 mF mE P f1 k1 Q f2 k2 G  hPc hok ) (cwV 0 hts (gw_V gk_453 gk_454 gk_455 gk_8 gk_456) rfl rfl rfl (by decide +kernel) ⟨Nat.le_of_ble_eq_true rfl, Nat.le_of_ble_eq_true rfl⟩) ⟨fun a U g mk q => ⟨q.1, q.2.1, va_K.moved (u := U) (U := U.calling g mk a) (Vm.Alike.refl U.vm) q.2.2⟩, va_recv hK hP (ci := 1) (q0 := 11) rfl rfl, fun U hU hW => ⟨rfl, hU, va_K.moved hW.alike hKc⟩⟩ rfl rfl hl.1 rfl (lv_room (Nat.le_of_ble_eq_true rfl)) d_Pr_challenge_28 ⟨Nat.le_of_ble_eq_true rfl, Nat.le_of_ble_eq_true rfl⟩) hS (fun q _ h => h.elim) (fun q h => h.elim) (fun r28 u9 t9 H1 locs ht hvm hw hB hz1 hk1 hS => ?_)
  obtain rfl : H = H1 := hB.symm.trans ht
  have hw : r28 = lN G := hw
  subst hw
  have hPc := hP.sub (ws' := (ha_ws h0 aw ax ay cJ cI g_3 sc st 1)) [2, 3, 4, 5] rfl
  have hDc := hD.sub (ws' := (ha_ws h0 aw ax ay cJ cI g_3 sc st 1)) [2, 3, 4, 5] (by decide) rfl
  have hKc := hK.sub (tys' := [(cJ, .long), (cI, .int)]) [0, 1] rfl
  have hFc := va_free (wc := (ha_ws h0 aw ax ay cJ cI g_3 sc st 1)) hD hS hA [2, 3, 4, 5] rfl
  refine va_callv (va_runV (As := [.long (lN G)]) (rest := []) ⟨hx, hb, hml, hown, hts⟩ (c_Ha_add l dC dI h0 H.size aw ax ay cJ cI g_3 sc st 1 (lN G) (by decide)) (cwV 1 hts (gw_V gk_506 gk_507 gk_508 gk_2 gk_509) rfl rfl rfl (by decide +kernel) ⟨Nat.le_of_ble_eq_true rfl, Nat.le_of_ble_eq_true rfl⟩) ⟨fun a U g mk q => by obtain ⟨q0, q1, qP, qK, qD⟩ := q; exact ⟨q0, q1, qP, va_K.moved (u := U) (U := U.calling g mk a) (Vm.Alike.refl U.vm) qK, qD⟩, va_recv hK hP (ci := 2) (q0 := 2) rfl rfl, fun U hU hW => ⟨rfl, by rw [hU], by rw [hU]; exact hPc, va_K.moved hW.alike hKc, hDc.weaken (fun _ _ _ _ => trivial)⟩⟩ rfl rfl hl.1 rfl (lv_room (Nat.le_of_ble_eq_true rfl)) d_Pr_challenge_31 ⟨Nat.le_of_ble_eq_true rfl, Nat.le_of_ble_eq_true rfl⟩) hS (fun q _ h => hFc q h) hFc (fun u9 t9 H1 locs ht hvm hw hB hz1 hk1 hS => ?_)
  obtain ⟨hP1, hK1, hD1⟩ := hB
  rw [ht] at hP1
  obtain ⟨hP, hD⟩ := va_join (wr := [(pr0, .inr (5, [.ref h0, .ref cm])), (cm, .inl (cJ, 4, .inr (.inl (lF cf)))), (t0, .inr (4, [.ref ka, .ref aa, .ref ba, .ref sa, .ref g0, .int (nI tn), .int (nI kc), .int (nI bc), .int (nI shc), .long (lN kp), .long (lN shp), .long (lN pa), .long (lN pb), .int sht])), (ka, .inl (cJ, 4, .inr (.inl (lF ko)))), (aa, .inl (cJ, 64, .inr (.inl (lF ao)))), (ba, .inl (cJ, 64, .inr (.inl (lF bo)))), (sa, .inl (cJ, 4, .inr (.inl (lF so)))), (g0, .inr (1, [.ref mF, .ref mE, .long (lN G), .long (lN (G ^ (Q - 1) % P))])), (mF, .inr (0, [.long (lN P), .long (lN (P % 2 ^ 31)), .long (lN (P / 2 ^ 31)), .long (lN f1), .long (lN (2 ^ 62 % P)), .long (lN (2 ^ 124 % P)), .int (nI k1)])), (mE, .inr (0, [.long (lN Q), .long (lN (Q % 2 ^ 31)), .long (lN (Q / 2 ^ 31)), .long (lN f2), .long (lN (2 ^ 62 % Q)), .long (lN (2 ^ 124 % Q)), .int (nI k2)])), (ra, .inl (cJ, 8, .inr (.inl rw)))]) (w1 := [(h0, .inr (2, [.ref aw, .ref ax, .ref ay, .int (nI 2)])), (aw, .inl (cJ, 16, .inr (.inl (vp_updL g_3 1 (lN G))))), (ax, .inl (cI, 64, .inl sc)), (ay, .inl (cI, 8, .inl st))]) hP hD [2, 3, 4, 5] [0, 1, 6, 7, 8, 9, 10, 11, 12, 13, 14] rfl rfl (by decide) (by decide) hk1 hFc hP1 hD1
  have hP := hP.sub (ws' := [(pr0, .inr (5, [.ref h0, .ref cm])), (cm, .inl (cJ, 4, .inr (.inl (lF cf)))), (h0, .inr (2, [.ref aw, .ref ax, .ref ay, .int (nI 2)])), (aw, .inl (cJ, 16, .inr (.inl (vp_updL g_3 1 (lN G))))), (ax, .inl (cI, 64, .inl sc)), (ay, .inl (cI, 8, .inl st)), (t0, .inr (4, [.ref ka, .ref aa, .ref ba, .ref sa, .ref g0, .int (nI tn), .int (nI kc), .int (nI bc), .int (nI shc), .long (lN kp), .long (lN shp), .long (lN pa), .long (lN pb), .int sht])), (ka, .inl (cJ, 4, .inr (.inl (lF ko)))), (aa, .inl (cJ, 64, .inr (.inl (lF ao)))), (ba, .inl (cJ, 64, .inr (.inl (lF bo)))), (sa, .inl (cJ, 4, .inr (.inl (lF so)))), (g0, .inr (1, [.ref mF, .ref mE, .long (lN G), .long (lN (G ^ (Q - 1) % P))])), (mF, .inr (0, [.long (lN P), .long (lN (P % 2 ^ 31)), .long (lN (P / 2 ^ 31)), .long (lN f1), .long (lN (2 ^ 62 % P)), .long (lN (2 ^ 124 % P)), .int (nI k1)])), (mE, .inr (0, [.long (lN Q), .long (lN (Q % 2 ^ 31)), .long (lN (Q / 2 ^ 31)), .long (lN f2), .long (lN (2 ^ 62 % Q)), .long (lN (2 ^ 124 % Q)), .int (nI k2)])), (ra, .inl (cJ, 8, .inr (.inl rw)))]) [0, 1, 11, 12, 13, 14, 2, 3, 4, 5, 6, 7, 8, 9, 10] rfl
  have hD := hD.sub (ws' := [(pr0, .inr (5, [.ref h0, .ref cm])), (cm, .inl (cJ, 4, .inr (.inl (lF cf)))), (h0, .inr (2, [.ref aw, .ref ax, .ref ay, .int (nI 2)])), (aw, .inl (cJ, 16, .inr (.inl (vp_updL g_3 1 (lN G))))), (ax, .inl (cI, 64, .inl sc)), (ay, .inl (cI, 8, .inl st)), (t0, .inr (4, [.ref ka, .ref aa, .ref ba, .ref sa, .ref g0, .int (nI tn), .int (nI kc), .int (nI bc), .int (nI shc), .long (lN kp), .long (lN shp), .long (lN pa), .long (lN pb), .int sht])), (ka, .inl (cJ, 4, .inr (.inl (lF ko)))), (aa, .inl (cJ, 64, .inr (.inl (lF ao)))), (ba, .inl (cJ, 64, .inr (.inl (lF bo)))), (sa, .inl (cJ, 4, .inr (.inl (lF so)))), (g0, .inr (1, [.ref mF, .ref mE, .long (lN G), .long (lN (G ^ (Q - 1) % P))])), (mF, .inr (0, [.long (lN P), .long (lN (P % 2 ^ 31)), .long (lN (P / 2 ^ 31)), .long (lN f1), .long (lN (2 ^ 62 % P)), .long (lN (2 ^ 124 % P)), .int (nI k1)])), (mE, .inr (0, [.long (lN Q), .long (lN (Q % 2 ^ 31)), .long (lN (Q / 2 ^ 31)), .long (lN f2), .long (lN (2 ^ 62 % Q)), .long (lN (2 ^ 124 % Q)), .int (nI k2)])), (ra, .inl (cJ, 8, .inr (.inl rw)))]) [0, 1, 11, 12, 13, 14, 2, 3, 4, 5, 6, 7, 8, 9, 10] (by decide) rfl
  generalize H1 = H at hP hS ⊢
  obtain ⟨g_6, eg_6⟩ : ∃ f : Nat → Int64, f = vp_updL g_3 1 (lN G) := ⟨_, rfl⟩
  rw [← eg_6] at hP hD
  have hm_7 : wok g_6 2 [lN P, lN G] := wok_add _ hm_4 eg_6
  refine lv_aload_n hx hb d_Pr_challenge_34 rfl (lv_at hl 1 rfl) ?_
  refine va_get (D := (dC, dI)) (ci := 5) (v := .ref h0) (C := "BallotBoard$Proofs") (T := F_Pr) (N := 2) hx hb hts (fun w9 h9 => List.mem_cons_of_mem _ (i_Pr w9 h9)) hown hK hP 0 rfl rfl 0 (by decide) (hts _ (List.mem_cons_of_mem _ gk_79)) (fun _ h9 => h9) rfl d_Pr_challenge_35 ?_
  refine lv_aload_n hx hb d_Pr_challenge_38 rfl (lv_at hl 3 rfl) ?_
  refine lv_iconst (v := 0) hx hb d_Pr_challenge_39 (by decide) ?_
  refine va_lald hx hb hK hP 14 0 rfl rfl (vp_lit rfl) d_Pr_challenge_40 ?_
  refine lv_topl (fun v_8 ev_8 => ?_)
  obtain rfl : v_8 = lN 1 := ev_8.trans hr0
  have hPc := hP.sub (ws' := (ha_ws h0 aw ax ay cJ cI g_6 sc st 2)) [2, 3, 4, 5] rfl
  have hDc := hD.sub (ws' := (ha_ws h0 aw ax ay cJ cI g_6 sc st 2)) [2, 3, 4, 5] (by decide) rfl
  have hKc := hK.sub (tys' := [(cJ, .long), (cI, .int)]) [0, 1] rfl
  have hFc := va_free (wc := (ha_ws h0 aw ax ay cJ cI g_6 sc st 2)) hD hS hA [2, 3, 4, 5] rfl
  refine va_callv (va_runV (As := [.long (lN 1)]) (rest := []) ⟨hx, hb, hml, hown, hts⟩ (c_Ha_add l dC dI h0 H.size aw ax ay cJ cI g_6 sc st 2 (lN 1) (by decide)) (cwV 1 hts (gw_V gk_506 gk_507 gk_508 gk_2 gk_509) rfl rfl rfl (by decide +kernel) ⟨Nat.le_of_ble_eq_true rfl, Nat.le_of_ble_eq_true rfl⟩) ⟨fun a U g mk q => by obtain ⟨q0, q1, qP, qK, qD⟩ := q; exact ⟨q0, q1, qP, va_K.moved (u := U) (U := U.calling g mk a) (Vm.Alike.refl U.vm) qK, qD⟩, va_recv hK hP (ci := 2) (q0 := 2) rfl rfl, fun U hU hW => ⟨rfl, by rw [hU], by rw [hU]; exact hPc, va_K.moved hW.alike hKc, hDc.weaken (fun _ _ _ _ => trivial)⟩⟩ rfl rfl hl.1 rfl (lv_room (Nat.le_of_ble_eq_true rfl)) d_Pr_challenge_41 ⟨Nat.le_of_ble_eq_true rfl, Nat.le_of_ble_eq_true rfl⟩) hS (fun q _ h => hFc q h) hFc (fun u9 t9 H1 locs ht hvm hw hB hz1 hk1 hS => ?_)
  obtain ⟨hP1, hK1, hD1⟩ := hB
  rw [ht] at hP1
  obtain ⟨hP, hD⟩ := va_join (wr := [(pr0, .inr (5, [.ref h0, .ref cm])), (cm, .inl (cJ, 4, .inr (.inl (lF cf)))), (t0, .inr (4, [.ref ka, .ref aa, .ref ba, .ref sa, .ref g0, .int (nI tn), .int (nI kc), .int (nI bc), .int (nI shc), .long (lN kp), .long (lN shp), .long (lN pa), .long (lN pb), .int sht])), (ka, .inl (cJ, 4, .inr (.inl (lF ko)))), (aa, .inl (cJ, 64, .inr (.inl (lF ao)))), (ba, .inl (cJ, 64, .inr (.inl (lF bo)))), (sa, .inl (cJ, 4, .inr (.inl (lF so)))), (g0, .inr (1, [.ref mF, .ref mE, .long (lN G), .long (lN (G ^ (Q - 1) % P))])), (mF, .inr (0, [.long (lN P), .long (lN (P % 2 ^ 31)), .long (lN (P / 2 ^ 31)), .long (lN f1), .long (lN (2 ^ 62 % P)), .long (lN (2 ^ 124 % P)), .int (nI k1)])), (mE, .inr (0, [.long (lN Q), .long (lN (Q % 2 ^ 31)), .long (lN (Q / 2 ^ 31)), .long (lN f2), .long (lN (2 ^ 62 % Q)), .long (lN (2 ^ 124 % Q)), .int (nI k2)])), (ra, .inl (cJ, 8, .inr (.inl rw)))]) (w1 := [(h0, .inr (2, [.ref aw, .ref ax, .ref ay, .int (nI 3)])), (aw, .inl (cJ, 16, .inr (.inl (vp_updL g_6 2 (lN 1))))), (ax, .inl (cI, 64, .inl sc)), (ay, .inl (cI, 8, .inl st))]) hP hD [2, 3, 4, 5] [0, 1, 6, 7, 8, 9, 10, 11, 12, 13, 14] rfl rfl (by decide) (by decide) hk1 hFc hP1 hD1
  have hP := hP.sub (ws' := [(pr0, .inr (5, [.ref h0, .ref cm])), (cm, .inl (cJ, 4, .inr (.inl (lF cf)))), (h0, .inr (2, [.ref aw, .ref ax, .ref ay, .int (nI 3)])), (aw, .inl (cJ, 16, .inr (.inl (vp_updL g_6 2 (lN 1))))), (ax, .inl (cI, 64, .inl sc)), (ay, .inl (cI, 8, .inl st)), (t0, .inr (4, [.ref ka, .ref aa, .ref ba, .ref sa, .ref g0, .int (nI tn), .int (nI kc), .int (nI bc), .int (nI shc), .long (lN kp), .long (lN shp), .long (lN pa), .long (lN pb), .int sht])), (ka, .inl (cJ, 4, .inr (.inl (lF ko)))), (aa, .inl (cJ, 64, .inr (.inl (lF ao)))), (ba, .inl (cJ, 64, .inr (.inl (lF bo)))), (sa, .inl (cJ, 4, .inr (.inl (lF so)))), (g0, .inr (1, [.ref mF, .ref mE, .long (lN G), .long (lN (G ^ (Q - 1) % P))])), (mF, .inr (0, [.long (lN P), .long (lN (P % 2 ^ 31)), .long (lN (P / 2 ^ 31)), .long (lN f1), .long (lN (2 ^ 62 % P)), .long (lN (2 ^ 124 % P)), .int (nI k1)])), (mE, .inr (0, [.long (lN Q), .long (lN (Q % 2 ^ 31)), .long (lN (Q / 2 ^ 31)), .long (lN f2), .long (lN (2 ^ 62 % Q)), .long (lN (2 ^ 124 % Q)), .int (nI k2)])), (ra, .inl (cJ, 8, .inr (.inl rw)))]) [0, 1, 11, 12, 13, 14, 2, 3, 4, 5, 6, 7, 8, 9, 10] rfl
  have hD := hD.sub (ws' := [(pr0, .inr (5, [.ref h0, .ref cm])), (cm, .inl (cJ, 4, .inr (.inl (lF cf)))), (h0, .inr (2, [.ref aw, .ref ax, .ref ay, .int (nI 3)])), (aw, .inl (cJ, 16, .inr (.inl (vp_updL g_6 2 (lN 1))))), (ax, .inl (cI, 64, .inl sc)), (ay, .inl (cI, 8, .inl st)), (t0, .inr (4, [.ref ka, .ref aa, .ref ba, .ref sa, .ref g0, .int (nI tn), .int (nI kc), .int (nI bc), .int (nI shc), .long (lN kp), .long (lN shp), .long (lN pa), .long (lN pb), .int sht])), (ka, .inl (cJ, 4, .inr (.inl (lF ko)))), (aa, .inl (cJ, 64, .inr (.inl (lF ao)))), (ba, .inl (cJ, 64, .inr (.inl (lF bo)))), (sa, .inl (cJ, 4, .inr (.inl (lF so)))), (g0, .inr (1, [.ref mF, .ref mE, .long (lN G), .long (lN (G ^ (Q - 1) % P))])), (mF, .inr (0, [.long (lN P), .long (lN (P % 2 ^ 31)), .long (lN (P / 2 ^ 31)), .long (lN f1), .long (lN (2 ^ 62 % P)), .long (lN (2 ^ 124 % P)), .int (nI k1)])), (mE, .inr (0, [.long (lN Q), .long (lN (Q % 2 ^ 31)), .long (lN (Q / 2 ^ 31)), .long (lN f2), .long (lN (2 ^ 62 % Q)), .long (lN (2 ^ 124 % Q)), .int (nI k2)])), (ra, .inl (cJ, 8, .inr (.inl rw)))]) [0, 1, 11, 12, 13, 14, 2, 3, 4, 5, 6, 7, 8, 9, 10] (by decide) rfl
  generalize H1 = H at hP hS ⊢
  obtain ⟨g_10, eg_10⟩ : ∃ f : Nat → Int64, f = vp_updL g_6 2 (lN 1) := ⟨_, rfl⟩
  rw [← eg_10] at hP hD
  have hm_11 : wok g_10 3 [lN P, lN G, lN 1] := wok_add _ hm_7 eg_10
  refine lv_aload_n hx hb d_Pr_challenge_44 rfl (lv_at hl 1 rfl) ?_
  refine va_get (D := (dC, dI)) (ci := 5) (v := .ref h0) (C := "BallotBoard$Proofs") (T := F_Pr) (N := 2) hx hb hts (fun w9 h9 => List.mem_cons_of_mem _ (i_Pr w9 h9)) hown hK hP 0 rfl rfl 0 (by decide) (hts _ (List.mem_cons_of_mem _ gk_79)) (fun _ h9 => h9) rfl d_Pr_challenge_45 ?_
  refine lv_aload_n hx hb d_Pr_challenge_48 rfl (lv_at hl 3 rfl) ?_
  refine lv_iconst (v := 1) hx hb d_Pr_challenge_49 (by decide) ?_
  refine va_lald hx hb hK hP 14 0 rfl rfl (vp_lit rfl) d_Pr_challenge_50 ?_
  refine lv_topl (fun v_12 ev_12 => ?_)
  obtain rfl : v_12 = lN I := ev_12.trans hr1
  have hPc := hP.sub (ws' := (ha_ws h0 aw ax ay cJ cI g_10 sc st 3)) [2, 3, 4, 5] rfl
  have hDc := hD.sub (ws' := (ha_ws h0 aw ax ay cJ cI g_10 sc st 3)) [2, 3, 4, 5] (by decide) rfl
  have hKc := hK.sub (tys' := [(cJ, .long), (cI, .int)]) [0, 1] rfl
  have hFc := va_free (wc := (ha_ws h0 aw ax ay cJ cI g_10 sc st 3)) hD hS hA [2, 3, 4, 5] rfl
  refine va_callv (va_runV (As := [.long (lN I)]) (rest := []) ⟨hx, hb, hml, hown, hts⟩ (c_Ha_add l dC dI h0 H.size aw ax ay cJ cI g_10 sc st 3 (lN I) (by decide)) (cwV 1 hts (gw_V gk_506 gk_507 gk_508 gk_2 gk_509) rfl rfl rfl (by decide +kernel) ⟨Nat.le_of_ble_eq_true rfl, Nat.le_of_ble_eq_true rfl⟩) ⟨fun a U g mk q => by obtain ⟨q0, q1, qP, qK, qD⟩ := q; exact ⟨q0, q1, qP, va_K.moved (u := U) (U := U.calling g mk a) (Vm.Alike.refl U.vm) qK, qD⟩, va_recv hK hP (ci := 2) (q0 := 2) rfl rfl, fun U hU hW => ⟨rfl, by rw [hU], by rw [hU]; exact hPc, va_K.moved hW.alike hKc, hDc.weaken (fun _ _ _ _ => trivial)⟩⟩ rfl rfl hl.1 rfl (lv_room (Nat.le_of_ble_eq_true rfl)) d_Pr_challenge_51 ⟨Nat.le_of_ble_eq_true rfl, Nat.le_of_ble_eq_true rfl⟩) hS (fun q _ h => hFc q h) hFc (fun u9 t9 H1 locs ht hvm hw hB hz1 hk1 hS => ?_)
  obtain ⟨hP1, hK1, hD1⟩ := hB
  rw [ht] at hP1
  obtain ⟨hP, hD⟩ := va_join (wr := [(pr0, .inr (5, [.ref h0, .ref cm])), (cm, .inl (cJ, 4, .inr (.inl (lF cf)))), (t0, .inr (4, [.ref ka, .ref aa, .ref ba, .ref sa, .ref g0, .int (nI tn), .int (nI kc), .int (nI bc), .int (nI shc), .long (lN kp), .long (lN shp), .long (lN pa), .long (lN pb), .int sht])), (ka, .inl (cJ, 4, .inr (.inl (lF ko)))), (aa, .inl (cJ, 64, .inr (.inl (lF ao)))), (ba, .inl (cJ, 64, .inr (.inl (lF bo)))), (sa, .inl (cJ, 4, .inr (.inl (lF so)))), (g0, .inr (1, [.ref mF, .ref mE, .long (lN G), .long (lN (G ^ (Q - 1) % P))])), (mF, .inr (0, [.long (lN P), .long (lN (P % 2 ^ 31)), .long (lN (P / 2 ^ 31)), .long (lN f1), .long (lN (2 ^ 62 % P)), .long (lN (2 ^ 124 % P)), .int (nI k1)])), (mE, .inr (0, [.long (lN Q), .long (lN (Q % 2 ^ 31)), .long (lN (Q / 2 ^ 31)), .long (lN f2), .long (lN (2 ^ 62 % Q)), .long (lN (2 ^ 124 % Q)), .int (nI k2)])), (ra, .inl (cJ, 8, .inr (.inl rw)))]) (w1 := [(h0, .inr (2, [.ref aw, .ref ax, .ref ay, .int (nI 4)])), (aw, .inl (cJ, 16, .inr (.inl (vp_updL g_10 3 (lN I))))), (ax, .inl (cI, 64, .inl sc)), (ay, .inl (cI, 8, .inl st))]) hP hD [2, 3, 4, 5] [0, 1, 6, 7, 8, 9, 10, 11, 12, 13, 14] rfl rfl (by decide) (by decide) hk1 hFc hP1 hD1
  have hP := hP.sub (ws' := [(pr0, .inr (5, [.ref h0, .ref cm])), (cm, .inl (cJ, 4, .inr (.inl (lF cf)))), (h0, .inr (2, [.ref aw, .ref ax, .ref ay, .int (nI 4)])), (aw, .inl (cJ, 16, .inr (.inl (vp_updL g_10 3 (lN I))))), (ax, .inl (cI, 64, .inl sc)), (ay, .inl (cI, 8, .inl st)), (t0, .inr (4, [.ref ka, .ref aa, .ref ba, .ref sa, .ref g0, .int (nI tn), .int (nI kc), .int (nI bc), .int (nI shc), .long (lN kp), .long (lN shp), .long (lN pa), .long (lN pb), .int sht])), (ka, .inl (cJ, 4, .inr (.inl (lF ko)))), (aa, .inl (cJ, 64, .inr (.inl (lF ao)))), (ba, .inl (cJ, 64, .inr (.inl (lF bo)))), (sa, .inl (cJ, 4, .inr (.inl (lF so)))), (g0, .inr (1, [.ref mF, .ref mE, .long (lN G), .long (lN (G ^ (Q - 1) % P))])), (mF, .inr (0, [.long (lN P), .long (lN (P % 2 ^ 31)), .long (lN (P / 2 ^ 31)), .long (lN f1), .long (lN (2 ^ 62 % P)), .long (lN (2 ^ 124 % P)), .int (nI k1)])), (mE, .inr (0, [.long (lN Q), .long (lN (Q % 2 ^ 31)), .long (lN (Q / 2 ^ 31)), .long (lN f2), .long (lN (2 ^ 62 % Q)), .long (lN (2 ^ 124 % Q)), .int (nI k2)])), (ra, .inl (cJ, 8, .inr (.inl rw)))]) [0, 1, 11, 12, 13, 14, 2, 3, 4, 5, 6, 7, 8, 9, 10] rfl
  have hD := hD.sub (ws' := [(pr0, .inr (5, [.ref h0, .ref cm])), (cm, .inl (cJ, 4, .inr (.inl (lF cf)))), (h0, .inr (2, [.ref aw, .ref ax, .ref ay, .int (nI 4)])), (aw, .inl (cJ, 16, .inr (.inl (vp_updL g_10 3 (lN I))))), (ax, .inl (cI, 64, .inl sc)), (ay, .inl (cI, 8, .inl st)), (t0, .inr (4, [.ref ka, .ref aa, .ref ba, .ref sa, .ref g0, .int (nI tn), .int (nI kc), .int (nI bc), .int (nI shc), .long (lN kp), .long (lN shp), .long (lN pa), .long (lN pb), .int sht])), (ka, .inl (cJ, 4, .inr (.inl (lF ko)))), (aa, .inl (cJ, 64, .inr (.inl (lF ao)))), (ba, .inl (cJ, 64, .inr (.inl (lF bo)))), (sa, .inl (cJ, 4, .inr (.inl (lF so)))), (g0, .inr (1, [.ref mF, .ref mE, .long (lN G), .long (lN (G ^ (Q - 1) % P))])), (mF, .inr (0, [.long (lN P), .long (lN (P % 2 ^ 31)), .long (lN (P / 2 ^ 31)), .long (lN f1), .long (lN (2 ^ 62 % P)), .long (lN (2 ^ 124 % P)), .int (nI k1)])), (mE, .inr (0, [.long (lN Q), .long (lN (Q % 2 ^ 31)), .long (lN (Q / 2 ^ 31)), .long (lN f2), .long (lN (2 ^ 62 % Q)), .long (lN (2 ^ 124 % Q)), .int (nI k2)])), (ra, .inl (cJ, 8, .inr (.inl rw)))]) [0, 1, 11, 12, 13, 14, 2, 3, 4, 5, 6, 7, 8, 9, 10] (by decide) rfl
  generalize H1 = H at hP hS ⊢
  obtain ⟨g_14, eg_14⟩ : ∃ f : Nat → Int64, f = vp_updL g_10 3 (lN I) := ⟨_, rfl⟩
  rw [← eg_14] at hP hD
  have hm_15 : wok g_14 4 [lN P, lN G, lN 1, lN I] := wok_add _ hm_11 eg_14
  refine lv_iconst (v := 1) hx hb d_Pr_challenge_54 (by decide) ?_
  refine lv_istore (lv' := [(4, .int 1), (3, .ref g0), (0, .ref pr0), (1, .ref t0), (2, .ref ra)]) hx hb d_Pr_challenge_55 hl (by decide) rfl (fun ls hl => ?_)
  refine lv_aload_n hx hb d_Pr_challenge_57 rfl (lv_at hl 4 rfl) ?_
  refine lv_iconst (v := 0) hx hb d_Pr_challenge_58 (by decide) ?_
  refine va_lald hx hb hK hP 14 0 rfl rfl (vp_lit rfl) d_Pr_challenge_59 ?_
  refine lv_topl (fun v_16 ev_16 => ?_)
  obtain rfl : v_16 = lN 1 := ev_16.trans hr0
  refine lv_ldc2 (v := 2) hx hb hown (hts _ (List.mem_cons_of_mem _ gk_439)) d_Pr_challenge_60 ?_
  refine W.lcmp hx hb d_Pr_challenge_63 ?_
  refine lv_if_ne (tgt := 93) hx hb d_Pr_challenge_64 (by decide) (fun c_17 => ?_) (fun c_17 => ?_)
  · -- taken
    refine lv_aload_n hx hb d_Pr_challenge_93 rfl (lv_at hl 4 rfl) ?_
    refine lv_iconst (v := 0) hx hb d_Pr_challenge_94 (by decide) ?_
    refine va_lald hx hb hK hP 14 0 rfl rfl (vp_lit rfl) d_Pr_challenge_95 ?_
    refine lv_topl (fun v_18 ev_18 => ?_)
    obtain rfl : v_18 = lN 1 := ev_18.trans hr0
    refine lv_ldc2 (v := 3) hx hb hown (hts _ (List.mem_cons_of_mem _ gk_510)) d_Pr_challenge_96 ?_
    refine W.lcmp hx hb d_Pr_challenge_99 ?_
    refine lv_if_ne (tgt := 130) hx hb d_Pr_challenge_100 (by decide) (fun c_19 => ?_) (fun c_19 => ?_)
    · -- taken
      refine lv_aload_n hx hb d_Pr_challenge_130 rfl (lv_at hl 2 rfl) ?_
      refine va_get (D := (dC, dI)) (ci := 5) (v := .ref h0) (C := "BallotBoard$Proofs") (T := F_Pr) (N := 2) hx hb hts (fun w9 h9 => List.mem_cons_of_mem _ (i_Pr w9 h9)) hown hK hP 0 rfl rfl 0 (by decide) (hts _ (List.mem_cons_of_mem _ gk_79)) (fun _ h9 => h9) rfl d_Pr_challenge_131 ?_
      refine lv_aload_n hx hb d_Pr_challenge_134 rfl (lv_at hl 4 rfl) ?_
      refine lv_iconst (v := 2) hx hb d_Pr_challenge_135 (by decide) ?_
      refine va_lald hx hb hK hP 14 0 rfl rfl (vp_lit rfl) d_Pr_challenge_136 ?_
      rw [show (rw (2 : Int32).toNatClampNeg : Int64) = rw 2 from rfl]
      have hPc := hP.sub (ws' := (ha_ws h0 aw ax ay cJ cI g_14 sc st 4)) [2, 3, 4, 5] rfl
      have hDc := hD.sub (ws' := (ha_ws h0 aw ax ay cJ cI g_14 sc st 4)) [2, 3, 4, 5] (by decide) rfl
      have hKc := hK.sub (tys' := [(cJ, .long), (cI, .int)]) [0, 1] rfl
      have hFc := va_free (wc := (ha_ws h0 aw ax ay cJ cI g_14 sc st 4)) hD hS hA [2, 3, 4, 5] rfl
      refine va_callv (va_runV (As := [.long (rw 2)]) (rest := []) ⟨hx, hb, hml, hown, hts⟩ (c_Ha_add l dC dI h0 H.size aw ax ay cJ cI g_14 sc st 4 (rw 2) (by decide)) (cwV 1 hts (gw_V gk_506 gk_507 gk_508 gk_2 gk_509) rfl rfl rfl (by decide +kernel) ⟨Nat.le_of_ble_eq_true rfl, Nat.le_of_ble_eq_true rfl⟩) ⟨fun a U g mk q => by obtain ⟨q0, q1, qP, qK, qD⟩ := q; exact ⟨q0, q1, qP, va_K.moved (u := U) (U := U.calling g mk a) (Vm.Alike.refl U.vm) qK, qD⟩, va_recv hK hP (ci := 2) (q0 := 2) rfl rfl, fun U hU hW => ⟨rfl, by rw [hU], by rw [hU]; exact hPc, va_K.moved hW.alike hKc, hDc.weaken (fun _ _ _ _ => trivial)⟩⟩ rfl rfl hl.1 rfl (lv_room (Nat.le_of_ble_eq_true rfl)) d_Pr_challenge_137 ⟨Nat.le_of_ble_eq_true rfl, Nat.le_of_ble_eq_true rfl⟩) hS (fun q _ h => hFc q h) hFc (fun u9 t9 H1 locs ht hvm hw hB hz1 hk1 hS => ?_)
      obtain ⟨hP1, hK1, hD1⟩ := hB
      rw [ht] at hP1
      obtain ⟨hP, hD⟩ := va_join (wr := [(pr0, .inr (5, [.ref h0, .ref cm])), (cm, .inl (cJ, 4, .inr (.inl (lF cf)))), (t0, .inr (4, [.ref ka, .ref aa, .ref ba, .ref sa, .ref g0, .int (nI tn), .int (nI kc), .int (nI bc), .int (nI shc), .long (lN kp), .long (lN shp), .long (lN pa), .long (lN pb), .int sht])), (ka, .inl (cJ, 4, .inr (.inl (lF ko)))), (aa, .inl (cJ, 64, .inr (.inl (lF ao)))), (ba, .inl (cJ, 64, .inr (.inl (lF bo)))), (sa, .inl (cJ, 4, .inr (.inl (lF so)))), (g0, .inr (1, [.ref mF, .ref mE, .long (lN G), .long (lN (G ^ (Q - 1) % P))])), (mF, .inr (0, [.long (lN P), .long (lN (P % 2 ^ 31)), .long (lN (P / 2 ^ 31)), .long (lN f1), .long (lN (2 ^ 62 % P)), .long (lN (2 ^ 124 % P)), .int (nI k1)])), (mE, .inr (0, [.long (lN Q), .long (lN (Q % 2 ^ 31)), .long (lN (Q / 2 ^ 31)), .long (lN f2), .long (lN (2 ^ 62 % Q)), .long (lN (2 ^ 124 % Q)), .int (nI k2)])), (ra, .inl (cJ, 8, .inr (.inl rw)))]) (w1 := [(h0, .inr (2, [.ref aw, .ref ax, .ref ay, .int (nI 5)])), (aw, .inl (cJ, 16, .inr (.inl (vp_updL g_14 4 (rw 2))))), (ax, .inl (cI, 64, .inl sc)), (ay, .inl (cI, 8, .inl st))]) hP hD [2, 3, 4, 5] [0, 1, 6, 7, 8, 9, 10, 11, 12, 13, 14] rfl rfl (by decide) (by decide) hk1 hFc hP1 hD1
      have hP := hP.sub (ws' := [(pr0, .inr (5, [.ref h0, .ref cm])), (cm, .inl (cJ, 4, .inr (.inl (lF cf)))), (h0, .inr (2, [.ref aw, .ref ax, .ref ay, .int (nI 5)])), (aw, .inl (cJ, 16, .inr (.inl (vp_updL g_14 4 (rw 2))))), (ax, .inl (cI, 64, .inl sc)), (ay, .inl (cI, 8, .inl st)), (t0, .inr (4, [.ref ka, .ref aa, .ref ba, .ref sa, .ref g0, .int (nI tn), .int (nI kc), .int (nI bc), .int (nI shc), .long (lN kp), .long (lN shp), .long (lN pa), .long (lN pb), .int sht])), (ka, .inl (cJ, 4, .inr (.inl (lF ko)))), (aa, .inl (cJ, 64, .inr (.inl (lF ao)))), (ba, .inl (cJ, 64, .inr (.inl (lF bo)))), (sa, .inl (cJ, 4, .inr (.inl (lF so)))), (g0, .inr (1, [.ref mF, .ref mE, .long (lN G), .long (lN (G ^ (Q - 1) % P))])), (mF, .inr (0, [.long (lN P), .long (lN (P % 2 ^ 31)), .long (lN (P / 2 ^ 31)), .long (lN f1), .long (lN (2 ^ 62 % P)), .long (lN (2 ^ 124 % P)), .int (nI k1)])), (mE, .inr (0, [.long (lN Q), .long (lN (Q % 2 ^ 31)), .long (lN (Q / 2 ^ 31)), .long (lN f2), .long (lN (2 ^ 62 % Q)), .long (lN (2 ^ 124 % Q)), .int (nI k2)])), (ra, .inl (cJ, 8, .inr (.inl rw)))]) [0, 1, 11, 12, 13, 14, 2, 3, 4, 5, 6, 7, 8, 9, 10] rfl
      have hD := hD.sub (ws' := [(pr0, .inr (5, [.ref h0, .ref cm])), (cm, .inl (cJ, 4, .inr (.inl (lF cf)))), (h0, .inr (2, [.ref aw, .ref ax, .ref ay, .int (nI 5)])), (aw, .inl (cJ, 16, .inr (.inl (vp_updL g_14 4 (rw 2))))), (ax, .inl (cI, 64, .inl sc)), (ay, .inl (cI, 8, .inl st)), (t0, .inr (4, [.ref ka, .ref aa, .ref ba, .ref sa, .ref g0, .int (nI tn), .int (nI kc), .int (nI bc), .int (nI shc), .long (lN kp), .long (lN shp), .long (lN pa), .long (lN pb), .int sht])), (ka, .inl (cJ, 4, .inr (.inl (lF ko)))), (aa, .inl (cJ, 64, .inr (.inl (lF ao)))), (ba, .inl (cJ, 64, .inr (.inl (lF bo)))), (sa, .inl (cJ, 4, .inr (.inl (lF so)))), (g0, .inr (1, [.ref mF, .ref mE, .long (lN G), .long (lN (G ^ (Q - 1) % P))])), (mF, .inr (0, [.long (lN P), .long (lN (P % 2 ^ 31)), .long (lN (P / 2 ^ 31)), .long (lN f1), .long (lN (2 ^ 62 % P)), .long (lN (2 ^ 124 % P)), .int (nI k1)])), (mE, .inr (0, [.long (lN Q), .long (lN (Q % 2 ^ 31)), .long (lN (Q / 2 ^ 31)), .long (lN f2), .long (lN (2 ^ 62 % Q)), .long (lN (2 ^ 124 % Q)), .int (nI k2)])), (ra, .inl (cJ, 8, .inr (.inl rw)))]) [0, 1, 11, 12, 13, 14, 2, 3, 4, 5, 6, 7, 8, 9, 10] (by decide) rfl
      generalize H1 = H at hP hS ⊢
      obtain ⟨g_21, eg_21⟩ : ∃ f : Nat → Int64, f = vp_updL g_14 4 (rw 2) := ⟨_, rfl⟩
      rw [← eg_21] at hP hD
      have hm_22 : wok g_21 5 [lN P, lN G, lN 1, lN I, rw 2] := wok_add _ hm_15 eg_21
      refine lv_iconst (v := 0) hx hb d_Pr_challenge_140 (by decide) ?_
      refine lv_istore (lv' := [(5, .int 0), (4, .int 1), (3, .ref g0), (0, .ref pr0), (1, .ref t0), (2, .ref ra)]) hx hb d_Pr_challenge_141 hl (by decide) rfl (fun ls hl => ?_)
      refine lv_iload hx hb d_Pr_challenge_143 (lv_at hl 0 rfl) ?_
      refine lv_iload hx hb d_Pr_challenge_145 (lv_at hl 1 rfl) ?_
      refine lv_icmp_ge (tgt := 170) hx hb d_Pr_challenge_147 (by decide) (fun c_23 => ?_) (fun c_23 => ?_)
      · -- taken
        exact absurd c_23 (by decide)
      · -- not taken
        refine lv_aload_n hx hb d_Pr_challenge_150 rfl (lv_at hl 3 rfl) ?_
        refine va_get (D := (dC, dI)) (ci := 5) (v := .ref h0) (C := "BallotBoard$Proofs") (T := F_Pr) (N := 2) hx hb hts (fun w9 h9 => List.mem_cons_of_mem _ (i_Pr w9 h9)) hown hK hP 0 rfl rfl 0 (by decide) (hts _ (List.mem_cons_of_mem _ gk_79)) (fun _ h9 => h9) rfl d_Pr_challenge_151 ?_
        refine lv_aload_n hx hb d_Pr_challenge_154 rfl (lv_at hl 3 rfl) ?_
        refine va_get (D := (dC, dI)) (ci := 5) (v := .ref cm) (C := "BallotBoard$Proofs") (T := F_Pr) (N := 2) hx hb hts (fun w9 h9 => List.mem_cons_of_mem _ (i_Pr w9 h9)) hown hK hP 0 rfl rfl 1 (by decide) (hts _ (List.mem_cons_of_mem _ gk_80)) (fun _ h9 => h9) rfl d_Pr_challenge_155 ?_
        refine lv_iload hx hb d_Pr_challenge_158 (lv_at hl 0 rfl) ?_
        refine va_lald hx hb hK hP 1 0 rfl rfl (vp_lit rfl) d_Pr_challenge_160 ?_
        rw [show (lF cf (0 : Int32).toNatClampNeg : Int64) = lN (cf 0) from rfl]
        have hPc := hP.sub (ws' := (ha_ws h0 aw ax ay cJ cI g_21 sc st 5)) [2, 3, 4, 5] rfl
        have hDc := hD.sub (ws' := (ha_ws h0 aw ax ay cJ cI g_21 sc st 5)) [2, 3, 4, 5] (by decide) rfl
        have hKc := hK.sub (tys' := [(cJ, .long), (cI, .int)]) [0, 1] rfl
        have hFc := va_free (wc := (ha_ws h0 aw ax ay cJ cI g_21 sc st 5)) hD hS hA [2, 3, 4, 5] rfl
        refine va_callv (va_runV (As := [.long (lN (cf 0))]) (rest := []) ⟨hx, hb, hml, hown, hts⟩ (c_Ha_add l dC dI h0 H.size aw ax ay cJ cI g_21 sc st 5 (lN (cf 0)) (by decide)) (cwV 1 hts (gw_V gk_506 gk_507 gk_508 gk_2 gk_509) rfl rfl rfl (by decide +kernel) ⟨Nat.le_of_ble_eq_true rfl, Nat.le_of_ble_eq_true rfl⟩) ⟨fun a U g mk q => by obtain ⟨q0, q1, qP, qK, qD⟩ := q; exact ⟨q0, q1, qP, va_K.moved (u := U) (U := U.calling g mk a) (Vm.Alike.refl U.vm) qK, qD⟩, va_recv hK hP (ci := 2) (q0 := 2) rfl rfl, fun U hU hW => ⟨rfl, by rw [hU], by rw [hU]; exact hPc, va_K.moved hW.alike hKc, hDc.weaken (fun _ _ _ _ => trivial)⟩⟩ rfl rfl hl.1 rfl (lv_room (Nat.le_of_ble_eq_true rfl)) d_Pr_challenge_161 ⟨Nat.le_of_ble_eq_true rfl, Nat.le_of_ble_eq_true rfl⟩) hS (fun q _ h => hFc q h) hFc (fun u9 t9 H1 locs ht hvm hw hB hz1 hk1 hS => ?_)
        obtain ⟨hP1, hK1, hD1⟩ := hB
        rw [ht] at hP1
        obtain ⟨hP, hD⟩ := va_join (wr := [(pr0, .inr (5, [.ref h0, .ref cm])), (cm, .inl (cJ, 4, .inr (.inl (lF cf)))), (t0, .inr (4, [.ref ka, .ref aa, .ref ba, .ref sa, .ref g0, .int (nI tn), .int (nI kc), .int (nI bc), .int (nI shc), .long (lN kp), .long (lN shp), .long (lN pa), .long (lN pb), .int sht])), (ka, .inl (cJ, 4, .inr (.inl (lF ko)))), (aa, .inl (cJ, 64, .inr (.inl (lF ao)))), (ba, .inl (cJ, 64, .inr (.inl (lF bo)))), (sa, .inl (cJ, 4, .inr (.inl (lF so)))), (g0, .inr (1, [.ref mF, .ref mE, .long (lN G), .long (lN (G ^ (Q - 1) % P))])), (mF, .inr (0, [.long (lN P), .long (lN (P % 2 ^ 31)), .long (lN (P / 2 ^ 31)), .long (lN f1), .long (lN (2 ^ 62 % P)), .long (lN (2 ^ 124 % P)), .int (nI k1)])), (mE, .inr (0, [.long (lN Q), .long (lN (Q % 2 ^ 31)), .long (lN (Q / 2 ^ 31)), .long (lN f2), .long (lN (2 ^ 62 % Q)), .long (lN (2 ^ 124 % Q)), .int (nI k2)])), (ra, .inl (cJ, 8, .inr (.inl rw)))]) (w1 := [(h0, .inr (2, [.ref aw, .ref ax, .ref ay, .int (nI 6)])), (aw, .inl (cJ, 16, .inr (.inl (vp_updL g_21 5 (lN (cf 0)))))), (ax, .inl (cI, 64, .inl sc)), (ay, .inl (cI, 8, .inl st))]) hP hD [2, 3, 4, 5] [0, 1, 6, 7, 8, 9, 10, 11, 12, 13, 14] rfl rfl (by decide) (by decide) hk1 hFc hP1 hD1
        have hP := hP.sub (ws' := [(pr0, .inr (5, [.ref h0, .ref cm])), (cm, .inl (cJ, 4, .inr (.inl (lF cf)))), (h0, .inr (2, [.ref aw, .ref ax, .ref ay, .int (nI 6)])), (aw, .inl (cJ, 16, .inr (.inl (vp_updL g_21 5 (lN (cf 0)))))), (ax, .inl (cI, 64, .inl sc)), (ay, .inl (cI, 8, .inl st)), (t0, .inr (4, [.ref ka, .ref aa, .ref ba, .ref sa, .ref g0, .int (nI tn), .int (nI kc), .int (nI bc), .int (nI shc), .long (lN kp), .long (lN shp), .long (lN pa), .long (lN pb), .int sht])), (ka, .inl (cJ, 4, .inr (.inl (lF ko)))), (aa, .inl (cJ, 64, .inr (.inl (lF ao)))), (ba, .inl (cJ, 64, .inr (.inl (lF bo)))), (sa, .inl (cJ, 4, .inr (.inl (lF so)))), (g0, .inr (1, [.ref mF, .ref mE, .long (lN G), .long (lN (G ^ (Q - 1) % P))])), (mF, .inr (0, [.long (lN P), .long (lN (P % 2 ^ 31)), .long (lN (P / 2 ^ 31)), .long (lN f1), .long (lN (2 ^ 62 % P)), .long (lN (2 ^ 124 % P)), .int (nI k1)])), (mE, .inr (0, [.long (lN Q), .long (lN (Q % 2 ^ 31)), .long (lN (Q / 2 ^ 31)), .long (lN f2), .long (lN (2 ^ 62 % Q)), .long (lN (2 ^ 124 % Q)), .int (nI k2)])), (ra, .inl (cJ, 8, .inr (.inl rw)))]) [0, 1, 11, 12, 13, 14, 2, 3, 4, 5, 6, 7, 8, 9, 10] rfl
        have hD := hD.sub (ws' := [(pr0, .inr (5, [.ref h0, .ref cm])), (cm, .inl (cJ, 4, .inr (.inl (lF cf)))), (h0, .inr (2, [.ref aw, .ref ax, .ref ay, .int (nI 6)])), (aw, .inl (cJ, 16, .inr (.inl (vp_updL g_21 5 (lN (cf 0)))))), (ax, .inl (cI, 64, .inl sc)), (ay, .inl (cI, 8, .inl st)), (t0, .inr (4, [.ref ka, .ref aa, .ref ba, .ref sa, .ref g0, .int (nI tn), .int (nI kc), .int (nI bc), .int (nI shc), .long (lN kp), .long (lN shp), .long (lN pa), .long (lN pb), .int sht])), (ka, .inl (cJ, 4, .inr (.inl (lF ko)))), (aa, .inl (cJ, 64, .inr (.inl (lF ao)))), (ba, .inl (cJ, 64, .inr (.inl (lF bo)))), (sa, .inl (cJ, 4, .inr (.inl (lF so)))), (g0, .inr (1, [.ref mF, .ref mE, .long (lN G), .long (lN (G ^ (Q - 1) % P))])), (mF, .inr (0, [.long (lN P), .long (lN (P % 2 ^ 31)), .long (lN (P / 2 ^ 31)), .long (lN f1), .long (lN (2 ^ 62 % P)), .long (lN (2 ^ 124 % P)), .int (nI k1)])), (mE, .inr (0, [.long (lN Q), .long (lN (Q % 2 ^ 31)), .long (lN (Q / 2 ^ 31)), .long (lN f2), .long (lN (2 ^ 62 % Q)), .long (lN (2 ^ 124 % Q)), .int (nI k2)])), (ra, .inl (cJ, 8, .inr (.inl rw)))]) [0, 1, 11, 12, 13, 14, 2, 3, 4, 5, 6, 7, 8, 9, 10] (by decide) rfl
        generalize H1 = H at hP hS ⊢
        obtain ⟨g_25, eg_25⟩ : ∃ f : Nat → Int64, f = vp_updL g_21 5 (lN (cf 0)) := ⟨_, rfl⟩
        rw [← eg_25] at hP hD
        have hm_26 : wok g_25 6 [lN P, lN G, lN 1, lN I, rw 2, lN (cf 0)] := wok_add _ hm_22 eg_25
        obtain ⟨i_27, ei_27⟩ : ∃ y : Int32, y = 0 + 1 := ⟨_, rfl⟩
        refine lv_iinc (v := i_27) (lv' := [(5, .int i_27), (4, .int 1), (3, .ref g0), (0, .ref pr0), (1, .ref t0), (2, .ref ra)]) hx hb d_Pr_challenge_164 hl (k := 0) rfl (by rw [ei_27]; rfl) (by decide) rfl (fun ls hl => ?_)
        obtain rfl : i_27 = 1 := by rw [ei_27]; exact by decide
        refine lv_goto (tgt := 143) hx hb d_Pr_challenge_167 (by decide) ?_
        refine lv_iload hx hb d_Pr_challenge_143 (lv_at hl 0 rfl) ?_
        refine lv_iload hx hb d_Pr_challenge_145 (lv_at hl 1 rfl) ?_
        refine lv_icmp_ge (tgt := 170) hx hb d_Pr_challenge_147 (by decide) (fun c_28 => ?_) (fun c_28 => ?_)
        · -- taken
          refine lv_aload_n hx hb d_Pr_challenge_170 rfl (lv_at hl 3 rfl) ?_
          refine va_get (D := (dC, dI)) (ci := 5) (v := .ref h0) (C := "BallotBoard$Proofs") (T := F_Pr) (N := 2) hx hb hts (fun w9 h9 => List.mem_cons_of_mem _ (i_Pr w9 h9)) hown hK hP 0 rfl rfl 0 (by decide) (hts _ (List.mem_cons_of_mem _ gk_79)) (fun _ h9 => h9) rfl d_Pr_challenge_171 ?_
          have hPc := hP.sub (ws' := (ha_ws h0 aw ax ay cJ cI g_25 sc st 6)) [2, 3, 4, 5] rfl
          have hDc := hD.sub (ws' := (ha_ws h0 aw ax ay cJ cI g_25 sc st 6)) [2, 3, 4, 5] (by decide) rfl
          have hKc := hK.sub (tys' := [(cJ, .long), (cI, .int)]) [0, 1] rfl
          have hFc := va_free (wc := (ha_ws h0 aw ax ay cJ cI g_25 sc st 6)) hD hS hA [2, 3, 4, 5] rfl
          have hZc0 : ha_Z rA sA (va_A (ha_ws h0 aw ax ay cJ cI g_25 sc st 6) H.size) s H := (hZha.kept hS.2.1).narrow hFc
          refine va_callv (va_runV (As := []) (rest := []) ⟨hx, hb, hml, hown, hts⟩ (c_Ha_finish l dC dI h0 H.size aw ax ay cJ cI g_25 sc st 6 rA sA (by decide)) (cwV 0 hts (gw_V gk_515 gk_516 gk_517 gk_2 gk_518) rfl rfl rfl (by decide +kernel) ⟨Nat.le_of_ble_eq_true rfl, Nat.le_of_ble_eq_true rfl⟩) ⟨fun a U g mk q => by obtain ⟨q0, q1, qP, qK, qD, qZ0⟩ := q; exact ⟨q0, q1, qP, va_K.moved (u := U) (U := U.calling g mk a) (Vm.Alike.refl U.vm) qK, qD, ha_Z.moved (u := U) (U := U.calling g mk a) (Vm.Alike.refl U.vm) qZ0⟩, va_recv hK hP (ci := 2) (q0 := 2) rfl rfl, fun U hU hW => ⟨rfl, by rw [hU], by rw [hU]; exact hPc, va_K.moved hW.alike hKc, hDc.weaken (fun _ _ _ _ => trivial), by rw [hU]; exact ha_Z.moved hW.alike hZc0⟩⟩ rfl rfl hl.1 rfl (lv_room (Nat.le_of_ble_eq_true rfl)) d_Pr_challenge_174 ⟨Nat.le_of_ble_eq_true rfl, Nat.le_of_ble_eq_true rfl⟩) hS (fun q _ h => hFc q h) hFc (fun u9 t9 H1 locs ht hvm hw hB hz1 hk1 hS => ?_)
          obtain ⟨hP1, hK1, hD1⟩ := hB
          rw [ht] at hP1
          obtain ⟨hP, hD⟩ := va_join (wr := [(pr0, .inr (5, [.ref h0, .ref cm])), (cm, .inl (cJ, 4, .inr (.inl (lF cf)))), (t0, .inr (4, [.ref ka, .ref aa, .ref ba, .ref sa, .ref g0, .int (nI tn), .int (nI kc), .int (nI bc), .int (nI shc), .long (lN kp), .long (lN shp), .long (lN pa), .long (lN pb), .int sht])), (ka, .inl (cJ, 4, .inr (.inl (lF ko)))), (aa, .inl (cJ, 64, .inr (.inl (lF ao)))), (ba, .inl (cJ, 64, .inr (.inl (lF bo)))), (sa, .inl (cJ, 4, .inr (.inl (lF so)))), (g0, .inr (1, [.ref mF, .ref mE, .long (lN G), .long (lN (G ^ (Q - 1) % P))])), (mF, .inr (0, [.long (lN P), .long (lN (P % 2 ^ 31)), .long (lN (P / 2 ^ 31)), .long (lN f1), .long (lN (2 ^ 62 % P)), .long (lN (2 ^ 124 % P)), .int (nI k1)])), (mE, .inr (0, [.long (lN Q), .long (lN (Q % 2 ^ 31)), .long (lN (Q / 2 ^ 31)), .long (lN f2), .long (lN (2 ^ 62 % Q)), .long (lN (2 ^ 124 % Q)), .int (nI k2)])), (ra, .inl (cJ, 8, .inr (.inl rw)))]) (w1 := [(h0, .inr (2, [.ref aw, .ref ax, .ref ay, .int (nI 6)])), (aw, .inl (cJ, 16, .inr (.inl (pw g_25 6)))), (ax, .inl (cI, 64, .inl ((hbk (pw g_25 6) sc (va_cpy kS st 0 0 8) (pdl 6 / 8)).1))), (ay, .inl (cI, 8, .inl ((hbk (pw g_25 6) sc (va_cpy kS st 0 0 8) (pdl 6 / 8)).2)))]) hP hD [2, 3, 4, 5] [0, 1, 6, 7, 8, 9, 10, 11, 12, 13, 14] rfl rfl (by decide) (by decide) hk1 hFc hP1 hD1
          have hP := hP.sub (ws' := [(pr0, .inr (5, [.ref h0, .ref cm])), (cm, .inl (cJ, 4, .inr (.inl (lF cf)))), (h0, .inr (2, [.ref aw, .ref ax, .ref ay, .int (nI 6)])), (aw, .inl (cJ, 16, .inr (.inl (pw g_25 6)))), (ax, .inl (cI, 64, .inl ((hbk (pw g_25 6) sc (va_cpy kS st 0 0 8) (pdl 6 / 8)).1))), (ay, .inl (cI, 8, .inl ((hbk (pw g_25 6) sc (va_cpy kS st 0 0 8) (pdl 6 / 8)).2))), (t0, .inr (4, [.ref ka, .ref aa, .ref ba, .ref sa, .ref g0, .int (nI tn), .int (nI kc), .int (nI bc), .int (nI shc), .long (lN kp), .long (lN shp), .long (lN pa), .long (lN pb), .int sht])), (ka, .inl (cJ, 4, .inr (.inl (lF ko)))), (aa, .inl (cJ, 64, .inr (.inl (lF ao)))), (ba, .inl (cJ, 64, .inr (.inl (lF bo)))), (sa, .inl (cJ, 4, .inr (.inl (lF so)))), (g0, .inr (1, [.ref mF, .ref mE, .long (lN G), .long (lN (G ^ (Q - 1) % P))])), (mF, .inr (0, [.long (lN P), .long (lN (P % 2 ^ 31)), .long (lN (P / 2 ^ 31)), .long (lN f1), .long (lN (2 ^ 62 % P)), .long (lN (2 ^ 124 % P)), .int (nI k1)])), (mE, .inr (0, [.long (lN Q), .long (lN (Q % 2 ^ 31)), .long (lN (Q / 2 ^ 31)), .long (lN f2), .long (lN (2 ^ 62 % Q)), .long (lN (2 ^ 124 % Q)), .int (nI k2)])), (ra, .inl (cJ, 8, .inr (.inl rw)))]) [0, 1, 11, 12, 13, 14, 2, 3, 4, 5, 6, 7, 8, 9, 10] rfl
          have hD := hD.sub (ws' := [(pr0, .inr (5, [.ref h0, .ref cm])), (cm, .inl (cJ, 4, .inr (.inl (lF cf)))), (h0, .inr (2, [.ref aw, .ref ax, .ref ay, .int (nI 6)])), (aw, .inl (cJ, 16, .inr (.inl (pw g_25 6)))), (ax, .inl (cI, 64, .inl ((hbk (pw g_25 6) sc (va_cpy kS st 0 0 8) (pdl 6 / 8)).1))), (ay, .inl (cI, 8, .inl ((hbk (pw g_25 6) sc (va_cpy kS st 0 0 8) (pdl 6 / 8)).2))), (t0, .inr (4, [.ref ka, .ref aa, .ref ba, .ref sa, .ref g0, .int (nI tn), .int (nI kc), .int (nI bc), .int (nI shc), .long (lN kp), .long (lN shp), .long (lN pa), .long (lN pb), .int sht])), (ka, .inl (cJ, 4, .inr (.inl (lF ko)))), (aa, .inl (cJ, 64, .inr (.inl (lF ao)))), (ba, .inl (cJ, 64, .inr (.inl (lF bo)))), (sa, .inl (cJ, 4, .inr (.inl (lF so)))), (g0, .inr (1, [.ref mF, .ref mE, .long (lN G), .long (lN (G ^ (Q - 1) % P))])), (mF, .inr (0, [.long (lN P), .long (lN (P % 2 ^ 31)), .long (lN (P / 2 ^ 31)), .long (lN f1), .long (lN (2 ^ 62 % P)), .long (lN (2 ^ 124 % P)), .int (nI k1)])), (mE, .inr (0, [.long (lN Q), .long (lN (Q % 2 ^ 31)), .long (lN (Q / 2 ^ 31)), .long (lN f2), .long (lN (2 ^ 62 % Q)), .long (lN (2 ^ 124 % Q)), .int (nI k2)])), (ra, .inl (cJ, 8, .inr (.inl rw)))]) [0, 1, 11, 12, 13, 14, 2, 3, 4, 5, 6, 7, 8, 9, 10] (by decide) rfl
          generalize H1 = H at hP hS ⊢
          obtain ⟨g_30, eg_30⟩ : ∃ f : Nat → Int32, f = (hbk (pw g_25 6) sc (va_cpy kS st 0 0 8) (pdl 6 / 8)).1 := ⟨_, rfl⟩
          rw [← eg_30] at hP hD
          obtain ⟨g_31, eg_31⟩ : ∃ f : Nat → Int32, f = (hbk (pw g_25 6) sc (va_cpy kS st 0 0 8) (pdl 6 / 8)).2 := ⟨_, rfl⟩
          rw [← eg_31] at hP hD
          obtain ⟨g_32, eg_32⟩ : ∃ f : Nat → Int64, f = pw g_25 6 := ⟨_, rfl⟩
          rw [← eg_32] at hP hD
          have hn_33 := hN_of hm_26 (by decide) eg_31
          refine lv_aload_n hx hb d_Pr_challenge_177 rfl (lv_at hl 2 rfl) ?_
          refine lv_aload_n hx hb d_Pr_challenge_178 rfl (lv_at hl 3 rfl) ?_
          refine va_get (D := (dC, dI)) (ci := 5) (v := .ref h0) (C := "BallotBoard$Proofs") (T := F_Pr) (N := 2) hx hb hts (fun w9 h9 => List.mem_cons_of_mem _ (i_Pr w9 h9)) hown hK hP 0 rfl rfl 0 (by decide) (hts _ (List.mem_cons_of_mem _ gk_79)) (fun _ h9 => h9) rfl d_Pr_challenge_179 ?_
          refine lv_iconst (v := 0) hx hb d_Pr_challenge_182 (by decide) ?_
          have hPc := hP.sub (ws' := (ha_ws h0 aw ax ay cJ cI g_32 g_30 g_31 6)) [2, 3, 4, 5] rfl
          have hKc := hK.sub (tys' := [(cJ, .long), (cI, .int)]) [0, 1] rfl
          refine va_calll (va_runV (As := [.int 0]) (rest := [.ref g0]) ⟨hx, hb, hml, hown, hts⟩ (c_Ha_word l H dC dI h0 aw ax ay cJ cI g_32 g_30 g_31 6 0 hPc (by decide)) (cwV 1 hts (gw_V gk_535 gk_536 gk_537 gk_2 gk_538) rfl rfl rfl (by decide +kernel) ⟨Nat.le_of_ble_eq_true rfl, Nat.le_of_ble_eq_true rfl⟩) ⟨fun a U g mk q => ⟨q.1, q.2.1, va_K.moved (u := U) (U := U.calling g mk a) (Vm.Alike.refl U.vm) q.2.2⟩, va_recv hK hP (ci := 2) (q0 := 2) rfl rfl, fun U hU hW => ⟨rfl, hU, va_K.moved hW.alike hKc⟩⟩ rfl rfl hl.1 rfl (lv_room (Nat.le_of_ble_eq_true rfl)) d_Pr_challenge_183 ⟨Nat.le_of_ble_eq_true rfl, Nat.le_of_ble_eq_true rfl⟩) hS (fun q _ h => h.elim) (fun q h => h.elim) (fun r183 u9 t9 H1 locs ht hvm hw hB hz1 hk1 hS => ?_)
          obtain rfl : H = H1 := hB.symm.trans ht
          have hw : r183 = wd (g_31 0) (g_31 1) := hw
          subst hw
          rw [show (wd (g_31 0) (g_31 1) : Int64) = (lN (hN [lN P, lN G, lN 1, lN I, rw 2, lN (cf 0)])) from hn_33]
          have hPc := hP.sub (ws' := (gp_ws g0 mF mE P f1 k1 Q f2 k2 G)) [11, 12, 13] rfl
          have hKc := hK.sub (tys' := []) [] rfl
          refine va_calll (va_runV (As := [.long (lN (hN [lN P, lN G, lN 1, lN I, rw 2, lN (cf 0)]))]) (rest := []) ⟨hx, hb, hml, hown, hts⟩ (c_Gr_exponentOf l H dC dI g0 mF mE P f1 k1 Q f2 k2 G (hN [lN P, lN G, lN 1, lN I, rw 2, lN (cf 0)]) hPc hok (hN_lt _)) (cwV 1 hts (gw_V gk_540 gk_541 gk_542 gk_8 gk_543) rfl rfl rfl (by decide +kernel) ⟨Nat.le_of_ble_eq_true rfl, Nat.le_of_ble_eq_true rfl⟩) ⟨fun a U g mk q => ⟨q.1, q.2.1, va_K.moved (u := U) (U := U.calling g mk a) (Vm.Alike.refl U.vm) q.2.2⟩, va_recv hK hP (ci := 1) (q0 := 11) rfl rfl, fun U hU hW => ⟨rfl, hU, va_K.moved hW.alike hKc⟩⟩ rfl rfl hl.1 rfl (lv_room (Nat.le_of_ble_eq_true rfl)) d_Pr_challenge_186 ⟨Nat.le_of_ble_eq_true rfl, Nat.le_of_ble_eq_true rfl⟩) hS (fun q _ h => h.elim) (fun q h => h.elim) (fun r186 u9 t9 H1 locs ht hvm hw hB hz1 hk1 hS => ?_)
          obtain rfl : H = H1 := hB.symm.trans ht
          have hw : r186 = lN ((hN [lN P, lN G, lN 1, lN I, rw 2, lN (cf 0)]) % Q) := hw
          subst hw
          exact W.lret (v := (lN ((hN [lN P, lN G, lN 1, lN I, rw 2, lN (cf 0)]) % Q))) hx hb hr (fun t ht9 hW => ⟨⟨_, (g_32, g_30, g_31, 6), rfl, (by rw [← hmsg, ← hsh_eq]), by rw [ht9]; exact hP, va_K.moved hW.alike hK, hD⟩, hS.F ht9⟩) hS.2.2 d_Pr_challenge_189
        · -- not taken
          exact absurd c_28 (by decide)
    · -- not taken
      exact absurd ((cmpe (k := 1) (by omega) 3 (by omega) rfl).mp c_19) (by omega)
  · -- not taken
    exact absurd ((cmpe (k := 1) (by omega) 2 (by omega) rfl).mp c_17) (by omega)
