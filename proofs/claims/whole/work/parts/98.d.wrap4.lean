abbrev b_Lw_count : ByteArray := method_16_code
abbrev y_Lw_count : MethodName := ⟨"BallotBoardLaw", "count", "(LBallotBoard;I[J)I"⟩
abbrev h_Lw_count : List (Nat × Nat × Nat × Nat) := [(0, 8, 11, 13)]
abbrev w_Lw_count : List Cond := .codeWith y_Lw_count b_Lw_count 4 (some .int) h_Lw_count :: gw
theorem d_Lw_count_0 : decode b_Lw_count 0 = .ok (.aload_n 2, 1) := by decide +kernel
theorem d_Lw_count_1 : decode b_Lw_count 1 = .ok (.iconst 0, 1) := by decide +kernel
theorem d_Lw_count_2 : decode b_Lw_count 2 = .ok (.aload_n 0, 1) := by decide +kernel
theorem d_Lw_count_3 : decode b_Lw_count 3 = .ok (.iload_n 1, 1) := by decide +kernel
theorem d_Lw_count_4 : decode b_Lw_count 4 = .ok (.invokevirtual 62, 3) := by decide +kernel
theorem d_Lw_count_7 : decode b_Lw_count 7 = .ok (.lastore, 1) := by decide +kernel
theorem d_Lw_count_8 : decode b_Lw_count 8 = .ok (.goto 6, 3) := by decide +kernel
theorem d_Lw_count_11 : decode b_Lw_count 11 = .ok (.astore_n 3, 1) := by decide +kernel
theorem d_Lw_count_12 : decode b_Lw_count 12 = .ok (.iconst 1, 1) := by decide +kernel
theorem d_Lw_count_13 : decode b_Lw_count 13 = .ok (.ireturn, 1) := by decide +kernel
theorem d_Lw_count_14 : decode b_Lw_count 14 = .ok (.iconst 0, 1) := by decide +kernel
theorem d_Lw_count_15 : decode b_Lw_count 15 = .ok (.ireturn, 1) := by decide +kernel
set_option maxHeartbeats 8000000 in
set_option maxRecDepth 100000 in
theorem c_Lw_count_g1 (l : Launch) (hnt : l.stackTraces = false) (dC : Nat → ClassId) (dI : Nat → Nat → Nat) (cJ cI cR : ClassId) (sz : Nat) (b0 bd0 pr0 t0 au0 da : Nat) (ka aa ba sa : Nat) (T : TS) (h0 ro lo n : Nat) (g0 mF mE P f1 k1 Q f2 k2 G : Nat) (x1 : Int32) (out : Nat) (of : Nat → Int64) (hok : gp_ok P f1 k1 Q f2 k2 G) (hsh0 : t_sht T = 0 ∨ t_sht T = 1) (htn : t_tn T ≤ 4) (hkc : t_kc T ≤ 4) (hn : n ≤ 154) (hbc : t_bc T ≤ 64) (hsc : t_shc T ≤ 4) (hC : ¬ inN x1 11) : vx_Met l y_Lw_count w_Lw_count ({ frames := 7, cells := 8, slots := 48, locals := 103 }) (va_Pc [.ref b0, .int x1, .ref out] (fun U => U.heap.size = sz ∧ va_P (dC, dI) classes (jw_ws out cJ 1 of ++ (bb_ws b0 bd0 pr0 t0 au0 da (.ref g0) ++ (tt_ws t0 ka aa ba sa (.ref g0) cJ T ++ (bo_ws bd0 h0 ro lo n ++ (gp_ws g0 mF mE P f1 k1 Q f2 k2 G))))) U.heap ∧ va_K (dC, dI) classes [(cJ, .long), (cI, .int), (cR, .array .long)] U ∧ va_D (fun _ => True) (jw_ws out cJ 1 of ++ (bb_ws b0 bd0 pr0 t0 au0 da (.ref g0) ++ (tt_ws t0 ka aa ba sa (.ref g0) cJ T ++ (bo_ws bd0 h0 ro lo n ++ (gp_ws g0 mF mE P f1 k1 Q f2 k2 G))))) ∧ xz (va_A (jw_ws out cJ 1 of ++ (bb_ws b0 bd0 pr0 t0 au0 da (.ref g0) ++ (tt_ws t0 ka aa ba sa (.ref g0) cJ T ++ (bo_ws bd0 h0 ro lo n ++ (gp_ws g0 mF mE P f1 k1 Q f2 k2 G))))) sz) U U.heap ∧ nc_Z U)) (va_Qi (fun (r : Int32) (_ : Unit) => r = 1) (fun _ t => va_P (dC, dI) classes (jw_ws out cJ 1 of ++ (bb_ws b0 bd0 pr0 t0 au0 da (.ref g0) ++ (tt_ws t0 ka aa ba sa (.ref g0) cJ T ++ (bo_ws bd0 h0 ro lo n ++ (gp_ws g0 mF mE P f1 k1 Q f2 k2 G))))) t.heap ∧ va_K (dC, dI) classes [(cJ, .long), (cI, .int), (cR, .array .long)] t ∧ va_D (va_A (jw_ws out cJ 1 of ++ (bb_ws b0 bd0 pr0 t0 au0 da (.ref g0) ++ (tt_ws t0 ka aa ba sa (.ref g0) cJ T ++ (bo_ws bd0 h0 ro lo n ++ (gp_ws g0 mF mE P f1 k1 Q f2 k2 G))))) sz) (jw_ws out cJ 1 of ++ (bb_ws b0 bd0 pr0 t0 au0 da (.ref g0) ++ (tt_ws t0 ka aa ba sa (.ref g0) cJ T ++ (bo_ws bd0 h0 ro lo n ++ (gp_ws g0 mF mE P f1 k1 Q f2 k2 G)))))) (va_A (jw_ws out cJ 1 of ++ (bb_ws b0 bd0 pr0 t0 au0 da (.ref g0) ++ (tt_ws t0 ka aa ba sa (.ref g0) cJ T ++ (bo_ws bd0 h0 ro lo n ++ (gp_ws g0 mF mE P f1 k1 Q f2 k2 G))))) sz)) (vx_X (fun _ : Unit => False) (fun _ _ _ => True) (va_A (jw_ws out cJ 1 of ++ (bb_ws b0 bd0 pr0 t0 au0 da (.ref g0) ++ (tt_ws t0 ka aa ba sa (.ref g0) cJ T ++ (bo_ws bd0 h0 ro lo n ++ (gp_ws g0 mF mE P f1 k1 Q f2 k2 G))))) sz)) 8 48 (va_A (jw_ws out cJ 1 of ++ (bb_ws b0 bd0 pr0 t0 au0 da (.ref g0) ++ (tt_ws t0 ka aa ba sa (.ref g0) cJ T ++ (bo_ws bd0 h0 ro lo n ++ (gp_ws g0 mF mE P f1 k1 Q f2 k2 G))))) sz) := by
  refine vx_ofWH (cc := b_Lw_count) (maxL := 4) (ret := (some .int)) (hh := h_Lw_count) (by decide) rfl ?_
  intro p e s m args below meth c s₁ Bd hml hv
  obtain ⟨rfl, hsz, hP, hK, hD0, hZx, hZn⟩ := hv
  have hx := Bd.exec
  have hb := Bd.bytes
  have hr := Bd.returns
  have hts := atoms_spec (ws := w_Lw_count) Bd.pre
  have hown : s.vm.findClass "BallotBoardLaw" = some m.cls := findClass_of_methodNamed Bd.named
  have hlocks := Bd.notSynchronized
  have htb := vx_table (x := y_Lw_count) Bd (hts _ List.mem_cons_self)
  subst hsz
  have hD := hD0.self (sz := s.heap.size)
  generalize hAe : va_A (jw_ws out cJ 1 of ++ (bb_ws b0 bd0 pr0 t0 au0 da (.ref g0) ++ (tt_ws t0 ka aa ba sa (.ref g0) cJ T ++ (bo_ws bd0 h0 ro lo n ++ (gp_ws g0 mF mE P f1 k1 Q f2 k2 G))))) s.heap.size = A at hD hZx ⊢
  have hA : ∀ q : Nat, s.heap.size ≤ q → A q := fun q h => by rw [← hAe]; exact Or.inr h
  have hS : va_S A s.heap s.heap [] := va_S.rf
  have hl := lv_entry ([.ref b0, .int x1, .ref out]) (n := 4) (Nat.le_of_ble_eq_true rfl)
  rw [lg_entry_eq]
  generalize (lg_sl ([.ref b0, .int x1, .ref out]) ++ List.replicate (4 - (lg_sl ([.ref b0, .int x1, .ref out])).length) Slot.unset).toArray = ls at hl ⊢
  have hl : lv_has ls 4 [(0, .ref b0), (1, .int x1), (2, .ref out)] := hl
  refine lv_aload_n hx hb d_Lw_count_0 rfl (lv_at hl 2 rfl) ?_
  refine lv_iconst (v := 0) hx hb d_Lw_count_1 (by decide) ?_
  refine lv_aload_n hx hb d_Lw_count_2 rfl (lv_at hl 0 rfl) ?_
  refine lv_iload_n hx hb d_Lw_count_3 rfl (lv_at hl 1 rfl) ?_
  have hPc := hP.sub (ws' := (bb_ws b0 bd0 pr0 t0 au0 da (.ref g0) ++ (tt_ws t0 ka aa ba sa (.ref g0) cJ T ++ (bo_ws bd0 h0 ro lo n ++ (gp_ws g0 mF mE P f1 k1 Q f2 k2 G))))) [1, 2, 3, 4, 5, 6, 7, 8, 9, 10] rfl
  have hKc := hK.sub (tys' := [(cJ, .long), (cI, .int), (cR, .array .long)]) [0, 1, 2] rfl
  have hZc : xz (fun _ => False) s s.heap := (hZx.kept hS.2.1).narrow (fun q h => h.elim)
  refine vx_calll (vx_runV (As := [.int x1]) (rest := [.int 0, .ref out]) ⟨hx, hb, hml, hown, hts⟩ (c_BB_count_g l hnt s.heap dC dI cJ cI cR b0 bd0 pr0 t0 au0 da ka aa ba sa T h0 ro lo n g0 mF mE P f1 k1 Q f2 k2 G x1 hPc hok hsh0 htn hkc hn hbc hsc) (cwV 1 hts (gw_V gk_820 gk_821 gk_822 gk_1 gk_823) rfl rfl rfl (by decide +kernel) ⟨(Nat.le_of_ble_eq_true rfl), (Nat.le_of_ble_eq_true rfl)⟩) ⟨fun a U g mk q => ⟨q.1, q.2.1, va_K.moved (u := U) (U := U.calling g mk a) (Vm.Alike.refl U.vm) q.2.2.1, xz.same (u := U) (U := U.calling g mk a) rfl q.2.2.2⟩, va_recv hK hP (ci := 7) (q0 := 1) rfl rfl, fun U hU hW => ⟨rfl, hU, va_K.moved hW.alike hKc, by rw [hU]; exact xz.warm hW hZc⟩⟩ rfl rfl hl.1 rfl (lv_room (Nat.le_of_ble_eq_true rfl)) d_Lw_count_4 ⟨(Nat.le_of_ble_eq_true rfl), (Nat.le_of_ble_eq_true rfl)⟩) hS (fun q _ h => h.elim) (fun q h => h.elim) (fun q _ h => h.elim) (fun E9 ce9 q9 u8 t9 H1 locs ht hvm hpx hbx hz1 hk1 hS hce hcv hcl => ?_) (fun r_1 u9 t9 H1 locs ht hvm hw hB hz1 hk1 hS => ?_)
  · obtain ⟨rfl, _⟩ : E9 = eA ∧ True := ⟨hbx.1, trivial⟩
    have hP : va_P (dC, dI) classes [(out, .inl (cJ, 1, .inr (.inl of))), (b0, .inr (7, [.ref bd0, .ref pr0, .ref t0, .ref au0, .ref da, .ref g0])), (t0, .inr (4, [.ref ka, .ref aa, .ref ba, .ref sa, .ref g0, .int (nI (t_tn T)), .int (nI (t_kc T)), .int (nI (t_bc T)), .int (nI (t_shc T)), .long (lN (t_kp T)), .long (lN (t_shp T)), .long (lN (t_pa T)), .long (lN (t_pb T)), .int (t_sht T)])), (ka, .inl (cJ, 4, .inr (.inl (lF (t_ko T))))), (aa, .inl (cJ, 64, .inr (.inl (lF (t_ao T))))), (ba, .inl (cJ, 64, .inr (.inl (lF (t_bo T))))), (sa, .inl (cJ, 4, .inr (.inl (lF (t_so T))))), (bd0, .inr (3, [.ref h0, .ref ro, .ref lo, .int (nI n)])), (g0, .inr (1, [.ref mF, .ref mE, .long (lN G), .long (lN (G ^ (Q - 1) % P))])), (mF, .inr (0, [.long (lN P), .long (lN (P % 2 ^ 31)), .long (lN (P / 2 ^ 31)), .long (lN f1), .long (lN (2 ^ 62 % P)), .long (lN (2 ^ 124 % P)), .int (nI k1)])), (mE, .inr (0, [.long (lN Q), .long (lN (Q % 2 ^ 31)), .long (lN (Q / 2 ^ 31)), .long (lN f2), .long (lN (2 ^ 62 % Q)), .long (lN (2 ^ 124 % Q)), .int (nI k2)]))] H1 := hP.kept (fun k9 x9 h9 => hk1 x9.1 ((hP k9 x9 h9).lt) (fun h => h))
    refine vx_catch (own := "BallotBoardLaw") (name := eA) hown [] ⟨0, 8, 11, 13⟩ [] htb (fun z hz => absurd hz List.not_mem_nil) (by decide) (by decide) (hts _ (List.mem_cons_of_mem _ gk_178)) (hZx.cast xB_A) hce hcv hcl ?_
    generalize H1 = H at hP hS ⊢
    refine lv_astore_n (lv' := [(3, .ref q9), (0, .ref b0), (1, .int x1), (2, .ref out)]) hx hb d_Lw_count_11 rfl hl (by decide) rfl (fun ls hl => ?_)
    refine lv_iconst (v := 1) hx hb d_Lw_count_12 (by decide) ?_
    refine W.widen (k := 8) (n := 48) (by decide) (by decide) ?_
    refine vx_ret ?_
    exact W.iret (v := 1) hx hb hr (fun t ht9 hW => ⟨⟨_, (), rfl, rfl, by rw [ht9]; exact hP, va_K.moved hW.alike hK, hD⟩, hS.F ht9⟩) hS.2.2 d_Lw_count_13
  obtain rfl : s.heap = H1 := hB.symm.trans ht
  have hw4 := hw
  obtain ⟨i9, h1, h2, hr9⟩ := hw
  have hr9 : r_1 = cntC T P Q G n i9 := hr9
  subst hr9
  exact absurd ⟨i9, h2, h1⟩ hC
set_option maxHeartbeats 8000000 in
set_option maxRecDepth 100000 in
theorem c_Lw_count_g0 (l : Launch) (hnt : l.stackTraces = false) (dC : Nat → ClassId) (dI : Nat → Nat → Nat) (cJ cI cR : ClassId) (sz : Nat) (b0 bd0 pr0 t0 au0 da : Nat) (ka aa ba sa : Nat) (T : TS) (h0 ro lo n : Nat) (g0 mF mE P f1 k1 Q f2 k2 G : Nat) (x1 : Int32) (out : Nat) (of : Nat → Int64) (hok : gp_ok P f1 k1 Q f2 k2 G) (hsh0 : t_sht T = 0 ∨ t_sht T = 1) (htn : t_tn T ≤ 4) (hkc : t_kc T ≤ 4) (hn : n ≤ 154) (hbc : t_bc T ≤ 64) (hsc : t_shc T ≤ 4) (hC : inN x1 11) : vx_Met l y_Lw_count w_Lw_count ({ frames := 7, cells := 8, slots := 48, locals := 103 }) (va_Pc [.ref b0, .int x1, .ref out] (fun U => U.heap.size = sz ∧ va_P (dC, dI) classes (jw_ws out cJ 1 of ++ (bb_ws b0 bd0 pr0 t0 au0 da (.ref g0) ++ (tt_ws t0 ka aa ba sa (.ref g0) cJ T ++ (bo_ws bd0 h0 ro lo n ++ (gp_ws g0 mF mE P f1 k1 Q f2 k2 G))))) U.heap ∧ va_K (dC, dI) classes [(cJ, .long), (cI, .int), (cR, .array .long)] U ∧ va_D (fun _ => True) (jw_ws out cJ 1 of ++ (bb_ws b0 bd0 pr0 t0 au0 da (.ref g0) ++ (tt_ws t0 ka aa ba sa (.ref g0) cJ T ++ (bo_ws bd0 h0 ro lo n ++ (gp_ws g0 mF mE P f1 k1 Q f2 k2 G))))) ∧ xz (va_A (jw_ws out cJ 1 of ++ (bb_ws b0 bd0 pr0 t0 au0 da (.ref g0) ++ (tt_ws t0 ka aa ba sa (.ref g0) cJ T ++ (bo_ws bd0 h0 ro lo n ++ (gp_ws g0 mF mE P f1 k1 Q f2 k2 G))))) sz) U U.heap ∧ nc_Z U)) (va_Qi (fun (r : Int32) (u9 : Nat) => r = 0 ∧ u9 < 11 ∧ x1 = nI u9) (fun u9 t => va_P (dC, dI) classes (jw_ws out cJ 1 (vp_updL of 0 (cntC T P Q G n u9)) ++ (bb_ws b0 bd0 pr0 t0 au0 da (.ref g0) ++ (tt_ws t0 ka aa ba sa (.ref g0) cJ T ++ (bo_ws bd0 h0 ro lo n ++ (gp_ws g0 mF mE P f1 k1 Q f2 k2 G))))) t.heap ∧ va_K (dC, dI) classes [(cJ, .long), (cI, .int), (cR, .array .long)] t ∧ va_D (va_A (jw_ws out cJ 1 of ++ (bb_ws b0 bd0 pr0 t0 au0 da (.ref g0) ++ (tt_ws t0 ka aa ba sa (.ref g0) cJ T ++ (bo_ws bd0 h0 ro lo n ++ (gp_ws g0 mF mE P f1 k1 Q f2 k2 G))))) sz) (jw_ws out cJ 1 (vp_updL of 0 (cntC T P Q G n u9)) ++ (bb_ws b0 bd0 pr0 t0 au0 da (.ref g0) ++ (tt_ws t0 ka aa ba sa (.ref g0) cJ T ++ (bo_ws bd0 h0 ro lo n ++ (gp_ws g0 mF mE P f1 k1 Q f2 k2 G)))))) (va_A (jw_ws out cJ 1 of ++ (bb_ws b0 bd0 pr0 t0 au0 da (.ref g0) ++ (tt_ws t0 ka aa ba sa (.ref g0) cJ T ++ (bo_ws bd0 h0 ro lo n ++ (gp_ws g0 mF mE P f1 k1 Q f2 k2 G))))) sz)) (vx_X (fun _ : Unit => False) (fun _ _ _ => True) (va_A (jw_ws out cJ 1 of ++ (bb_ws b0 bd0 pr0 t0 au0 da (.ref g0) ++ (tt_ws t0 ka aa ba sa (.ref g0) cJ T ++ (bo_ws bd0 h0 ro lo n ++ (gp_ws g0 mF mE P f1 k1 Q f2 k2 G))))) sz)) 8 48 (va_A (jw_ws out cJ 1 of ++ (bb_ws b0 bd0 pr0 t0 au0 da (.ref g0) ++ (tt_ws t0 ka aa ba sa (.ref g0) cJ T ++ (bo_ws bd0 h0 ro lo n ++ (gp_ws g0 mF mE P f1 k1 Q f2 k2 G))))) sz) := by
  refine vx_ofWH (cc := b_Lw_count) (maxL := 4) (ret := (some .int)) (hh := h_Lw_count) (by decide) rfl ?_
  intro p e s m args below meth c s₁ Bd hml hv
  obtain ⟨rfl, hsz, hP, hK, hD0, hZx, hZn⟩ := hv
  have hx := Bd.exec
  have hb := Bd.bytes
  have hr := Bd.returns
  have hts := atoms_spec (ws := w_Lw_count) Bd.pre
  have hown : s.vm.findClass "BallotBoardLaw" = some m.cls := findClass_of_methodNamed Bd.named
  have hlocks := Bd.notSynchronized
  have htb := vx_table (x := y_Lw_count) Bd (hts _ List.mem_cons_self)
  subst hsz
  have hD := hD0.self (sz := s.heap.size)
  generalize hAe : va_A (jw_ws out cJ 1 of ++ (bb_ws b0 bd0 pr0 t0 au0 da (.ref g0) ++ (tt_ws t0 ka aa ba sa (.ref g0) cJ T ++ (bo_ws bd0 h0 ro lo n ++ (gp_ws g0 mF mE P f1 k1 Q f2 k2 G))))) s.heap.size = A at hD hZx ⊢
  have hA : ∀ q : Nat, s.heap.size ≤ q → A q := fun q h => by rw [← hAe]; exact Or.inr h
  have hS : va_S A s.heap s.heap [] := va_S.rf
  have hl := lv_entry ([.ref b0, .int x1, .ref out]) (n := 4) (Nat.le_of_ble_eq_true rfl)
  rw [lg_entry_eq]
  generalize (lg_sl ([.ref b0, .int x1, .ref out]) ++ List.replicate (4 - (lg_sl ([.ref b0, .int x1, .ref out])).length) Slot.unset).toArray = ls at hl ⊢
  have hl : lv_has ls 4 [(0, .ref b0), (1, .int x1), (2, .ref out)] := hl
  refine lv_aload_n hx hb d_Lw_count_0 rfl (lv_at hl 2 rfl) ?_
  refine lv_iconst (v := 0) hx hb d_Lw_count_1 (by decide) ?_
  refine lv_aload_n hx hb d_Lw_count_2 rfl (lv_at hl 0 rfl) ?_
  refine lv_iload_n hx hb d_Lw_count_3 rfl (lv_at hl 1 rfl) ?_
  have hPc := hP.sub (ws' := (bb_ws b0 bd0 pr0 t0 au0 da (.ref g0) ++ (tt_ws t0 ka aa ba sa (.ref g0) cJ T ++ (bo_ws bd0 h0 ro lo n ++ (gp_ws g0 mF mE P f1 k1 Q f2 k2 G))))) [1, 2, 3, 4, 5, 6, 7, 8, 9, 10] rfl
  have hKc := hK.sub (tys' := [(cJ, .long), (cI, .int), (cR, .array .long)]) [0, 1, 2] rfl
  have hZc : xz (fun _ => False) s s.heap := (hZx.kept hS.2.1).narrow (fun q h => h.elim)
  refine vx_calll (vx_runV (As := [.int x1]) (rest := [.int 0, .ref out]) ⟨hx, hb, hml, hown, hts⟩ (c_BB_count_g l hnt s.heap dC dI cJ cI cR b0 bd0 pr0 t0 au0 da ka aa ba sa T h0 ro lo n g0 mF mE P f1 k1 Q f2 k2 G x1 hPc hok hsh0 htn hkc hn hbc hsc) (cwV 1 hts (gw_V gk_820 gk_821 gk_822 gk_1 gk_823) rfl rfl rfl (by decide +kernel) ⟨(Nat.le_of_ble_eq_true rfl), (Nat.le_of_ble_eq_true rfl)⟩) ⟨fun a U g mk q => ⟨q.1, q.2.1, va_K.moved (u := U) (U := U.calling g mk a) (Vm.Alike.refl U.vm) q.2.2.1, xz.same (u := U) (U := U.calling g mk a) rfl q.2.2.2⟩, va_recv hK hP (ci := 7) (q0 := 1) rfl rfl, fun U hU hW => ⟨rfl, hU, va_K.moved hW.alike hKc, by rw [hU]; exact xz.warm hW hZc⟩⟩ rfl rfl hl.1 rfl (lv_room (Nat.le_of_ble_eq_true rfl)) d_Lw_count_4 ⟨(Nat.le_of_ble_eq_true rfl), (Nat.le_of_ble_eq_true rfl)⟩) hS (fun q _ h => h.elim) (fun q h => h.elim) (fun q _ h => h.elim) (fun E9 ce9 q9 u8 t9 H1 locs ht hvm hpx hbx hz1 hk1 hS hce hcv hcl => ?_) (fun r_1 u9 t9 H1 locs ht hvm hw hB hz1 hk1 hS => ?_)
  · exact absurd hC hbx.2
  obtain rfl : s.heap = H1 := hB.symm.trans ht
  have hw4 := hw
  obtain ⟨i9, h1, h2, hr9⟩ := hw
  have hr9 : r_1 = cntC T P Q G n i9 := hr9
  subst hr9
  refine va_last hx hb hK hP hD hS 0 0 rfl rfl (vp_lit rfl) d_Lw_count_7 (fun H locs hP hD hS => ?_)
  have hfe : vp_updL of (0 : Int32).toNatClampNeg (cntC T P Q G n i9) = vp_updL of 0 (cntC T P Q G n i9) := rfl
  have hP : va_P (dC, dI) classes [(out, .inl (cJ, 1, .inr (.inl (vp_updL of (0 : Int32).toNatClampNeg (cntC T P Q G n i9))))), (b0, .inr (7, [.ref bd0, .ref pr0, .ref t0, .ref au0, .ref da, .ref g0])), (t0, .inr (4, [.ref ka, .ref aa, .ref ba, .ref sa, .ref g0, .int (nI (t_tn T)), .int (nI (t_kc T)), .int (nI (t_bc T)), .int (nI (t_shc T)), .long (lN (t_kp T)), .long (lN (t_shp T)), .long (lN (t_pa T)), .long (lN (t_pb T)), .int (t_sht T)])), (ka, .inl (cJ, 4, .inr (.inl (lF (t_ko T))))), (aa, .inl (cJ, 64, .inr (.inl (lF (t_ao T))))), (ba, .inl (cJ, 64, .inr (.inl (lF (t_bo T))))), (sa, .inl (cJ, 4, .inr (.inl (lF (t_so T))))), (bd0, .inr (3, [.ref h0, .ref ro, .ref lo, .int (nI n)])), (g0, .inr (1, [.ref mF, .ref mE, .long (lN G), .long (lN (G ^ (Q - 1) % P))])), (mF, .inr (0, [.long (lN P), .long (lN (P % 2 ^ 31)), .long (lN (P / 2 ^ 31)), .long (lN f1), .long (lN (2 ^ 62 % P)), .long (lN (2 ^ 124 % P)), .int (nI k1)])), (mE, .inr (0, [.long (lN Q), .long (lN (Q % 2 ^ 31)), .long (lN (Q / 2 ^ 31)), .long (lN f2), .long (lN (2 ^ 62 % Q)), .long (lN (2 ^ 124 % Q)), .int (nI k2)]))] H := hP
  have hD : va_D A [(out, .inl (cJ, 1, .inr (.inl (vp_updL of (0 : Int32).toNatClampNeg (cntC T P Q G n i9))))), (b0, .inr (7, [.ref bd0, .ref pr0, .ref t0, .ref au0, .ref da, .ref g0])), (t0, .inr (4, [.ref ka, .ref aa, .ref ba, .ref sa, .ref g0, .int (nI (t_tn T)), .int (nI (t_kc T)), .int (nI (t_bc T)), .int (nI (t_shc T)), .long (lN (t_kp T)), .long (lN (t_shp T)), .long (lN (t_pa T)), .long (lN (t_pb T)), .int (t_sht T)])), (ka, .inl (cJ, 4, .inr (.inl (lF (t_ko T))))), (aa, .inl (cJ, 64, .inr (.inl (lF (t_ao T))))), (ba, .inl (cJ, 64, .inr (.inl (lF (t_bo T))))), (sa, .inl (cJ, 4, .inr (.inl (lF (t_so T))))), (bd0, .inr (3, [.ref h0, .ref ro, .ref lo, .int (nI n)])), (g0, .inr (1, [.ref mF, .ref mE, .long (lN G), .long (lN (G ^ (Q - 1) % P))])), (mF, .inr (0, [.long (lN P), .long (lN (P % 2 ^ 31)), .long (lN (P / 2 ^ 31)), .long (lN f1), .long (lN (2 ^ 62 % P)), .long (lN (2 ^ 124 % P)), .int (nI k1)])), (mE, .inr (0, [.long (lN Q), .long (lN (Q % 2 ^ 31)), .long (lN (Q / 2 ^ 31)), .long (lN f2), .long (lN (2 ^ 62 % Q)), .long (lN (2 ^ 124 % Q)), .int (nI k2)]))] := hD
  rw [hfe] at hP hD
  refine lv_goto (tgt := 14) hx hb d_Lw_count_8 (by decide) ?_
  refine lv_iconst (v := 0) hx hb d_Lw_count_14 (by decide) ?_
  refine W.widen (k := 8) (n := 48) (by decide) (by decide) ?_
  refine vx_ret ?_
  exact W.iret (v := 0) hx hb hr (fun t ht9 hW => ⟨⟨_, i9, rfl, ⟨rfl, h1, h2⟩, by rw [ht9]; exact hP, va_K.moved hW.alike hK, hD⟩, hS.F ht9⟩) hS.2.2 d_Lw_count_15
set_option maxHeartbeats 8000000 in
set_option maxRecDepth 100000 in
theorem c_Lw_count_n1 (l : Launch) (hnt : l.stackTraces = false) (dC : Nat → ClassId) (dI : Nat → Nat → Nat) (cJ cI cR : ClassId) (sz : Nat) (b0 bd0 pr0 t0 au0 da : Nat) (ka aa ba sa : Nat) (T : TS) (h0 ro lo n : Nat)  (x1 : Int32) (out : Nat) (of : Nat → Int64) (hsh0 : t_sht T = 0 ∨ t_sht T = 1) (htn : t_tn T ≤ 4) (hkc : t_kc T ≤ 4) (hn : n ≤ 154) (hbc : t_bc T ≤ 64) (hsc : t_shc T ≤ 4) (hC : ¬ inN x1 11) : vx_Met l y_Lw_count w_Lw_count ({ frames := 7, cells := 8, slots := 48, locals := 103 }) (va_Pc [.ref b0, .int x1, .ref out] (fun U => U.heap.size = sz ∧ va_P (dC, dI) classes (jw_ws out cJ 1 of ++ (bb_ws b0 bd0 pr0 t0 au0 da .null ++ (tt_ws t0 ka aa ba sa .null cJ T ++ (bo_ws bd0 h0 ro lo n)))) U.heap ∧ va_K (dC, dI) classes [(cJ, .long), (cI, .int), (cR, .array .long)] U ∧ va_D (fun _ => True) (jw_ws out cJ 1 of ++ (bb_ws b0 bd0 pr0 t0 au0 da .null ++ (tt_ws t0 ka aa ba sa .null cJ T ++ (bo_ws bd0 h0 ro lo n)))) ∧ xz (va_A (jw_ws out cJ 1 of ++ (bb_ws b0 bd0 pr0 t0 au0 da .null ++ (tt_ws t0 ka aa ba sa .null cJ T ++ (bo_ws bd0 h0 ro lo n)))) sz) U U.heap ∧ nc_Z U)) (va_Qi (fun (r : Int32) (_ : Unit) => r = 1) (fun _ t => va_P (dC, dI) classes (jw_ws out cJ 1 of ++ (bb_ws b0 bd0 pr0 t0 au0 da .null ++ (tt_ws t0 ka aa ba sa .null cJ T ++ (bo_ws bd0 h0 ro lo n)))) t.heap ∧ va_K (dC, dI) classes [(cJ, .long), (cI, .int), (cR, .array .long)] t ∧ va_D (va_A (jw_ws out cJ 1 of ++ (bb_ws b0 bd0 pr0 t0 au0 da .null ++ (tt_ws t0 ka aa ba sa .null cJ T ++ (bo_ws bd0 h0 ro lo n)))) sz) (jw_ws out cJ 1 of ++ (bb_ws b0 bd0 pr0 t0 au0 da .null ++ (tt_ws t0 ka aa ba sa .null cJ T ++ (bo_ws bd0 h0 ro lo n))))) (va_A (jw_ws out cJ 1 of ++ (bb_ws b0 bd0 pr0 t0 au0 da .null ++ (tt_ws t0 ka aa ba sa .null cJ T ++ (bo_ws bd0 h0 ro lo n)))) sz)) (vx_X (fun _ : Unit => False) (fun _ _ _ => True) (va_A (jw_ws out cJ 1 of ++ (bb_ws b0 bd0 pr0 t0 au0 da .null ++ (tt_ws t0 ka aa ba sa .null cJ T ++ (bo_ws bd0 h0 ro lo n)))) sz)) 8 48 (va_A (jw_ws out cJ 1 of ++ (bb_ws b0 bd0 pr0 t0 au0 da .null ++ (tt_ws t0 ka aa ba sa .null cJ T ++ (bo_ws bd0 h0 ro lo n)))) sz) := by
  refine vx_ofWH (cc := b_Lw_count) (maxL := 4) (ret := (some .int)) (hh := h_Lw_count) (by decide) rfl ?_
  intro p e s m args below meth c s₁ Bd hml hv
  obtain ⟨rfl, hsz, hP, hK, hD0, hZx, hZn⟩ := hv
  have hx := Bd.exec
  have hb := Bd.bytes
  have hr := Bd.returns
  have hts := atoms_spec (ws := w_Lw_count) Bd.pre
  have hown : s.vm.findClass "BallotBoardLaw" = some m.cls := findClass_of_methodNamed Bd.named
  have hlocks := Bd.notSynchronized
  have htb := vx_table (x := y_Lw_count) Bd (hts _ List.mem_cons_self)
  subst hsz
  have hD := hD0.self (sz := s.heap.size)
  generalize hAe : va_A (jw_ws out cJ 1 of ++ (bb_ws b0 bd0 pr0 t0 au0 da .null ++ (tt_ws t0 ka aa ba sa .null cJ T ++ (bo_ws bd0 h0 ro lo n)))) s.heap.size = A at hD hZx ⊢
  have hA : ∀ q : Nat, s.heap.size ≤ q → A q := fun q h => by rw [← hAe]; exact Or.inr h
  have hS : va_S A s.heap s.heap [] := va_S.rf
  have hl := lv_entry ([.ref b0, .int x1, .ref out]) (n := 4) (Nat.le_of_ble_eq_true rfl)
  rw [lg_entry_eq]
  generalize (lg_sl ([.ref b0, .int x1, .ref out]) ++ List.replicate (4 - (lg_sl ([.ref b0, .int x1, .ref out])).length) Slot.unset).toArray = ls at hl ⊢
  have hl : lv_has ls 4 [(0, .ref b0), (1, .int x1), (2, .ref out)] := hl
  refine lv_aload_n hx hb d_Lw_count_0 rfl (lv_at hl 2 rfl) ?_
  refine lv_iconst (v := 0) hx hb d_Lw_count_1 (by decide) ?_
  refine lv_aload_n hx hb d_Lw_count_2 rfl (lv_at hl 0 rfl) ?_
  refine lv_iload_n hx hb d_Lw_count_3 rfl (lv_at hl 1 rfl) ?_
  have hPc := hP.sub (ws' := (bb_ws b0 bd0 pr0 t0 au0 da .null ++ (tt_ws t0 ka aa ba sa .null cJ T ++ (bo_ws bd0 h0 ro lo n)))) [1, 2, 3, 4, 5, 6, 7] rfl
  have hKc := hK.sub (tys' := [(cJ, .long), (cI, .int), (cR, .array .long)]) [0, 1, 2] rfl
  have hZc : xz (fun _ => False) s s.heap := (hZx.kept hS.2.1).narrow (fun q h => h.elim)
  refine vx_calll (vx_runV (As := [.int x1]) (rest := [.int 0, .ref out]) ⟨hx, hb, hml, hown, hts⟩ (c_BB_count_n l hnt s.heap dC dI cJ cI cR b0 bd0 pr0 t0 au0 da ka aa ba sa T h0 ro lo n x1 hPc hsh0 htn hkc hn hbc hsc) (cwV 1 hts (gw_V gk_820 gk_821 gk_822 gk_1 gk_823) rfl rfl rfl (by decide +kernel) ⟨(Nat.le_of_ble_eq_true rfl), (Nat.le_of_ble_eq_true rfl)⟩) ⟨fun a U g mk q => ⟨q.1, q.2.1, va_K.moved (u := U) (U := U.calling g mk a) (Vm.Alike.refl U.vm) q.2.2.1, xz.same (u := U) (U := U.calling g mk a) rfl q.2.2.2⟩, va_recv hK hP (ci := 7) (q0 := 1) rfl rfl, fun U hU hW => ⟨rfl, hU, va_K.moved hW.alike hKc, by rw [hU]; exact xz.warm hW hZc⟩⟩ rfl rfl hl.1 rfl (lv_room (Nat.le_of_ble_eq_true rfl)) d_Lw_count_4 ⟨(Nat.le_of_ble_eq_true rfl), (Nat.le_of_ble_eq_true rfl)⟩) hS (fun q _ h => h.elim) (fun q h => h.elim) (fun q _ h => h.elim) (fun E9 ce9 q9 u8 t9 H1 locs ht hvm hpx hbx hz1 hk1 hS hce hcv hcl => ?_) (fun r_1 u9 t9 H1 locs ht hvm hw hB hz1 hk1 hS => ?_)
  · obtain ⟨rfl, _⟩ : E9 = eA ∧ True := ⟨hbx.1, trivial⟩
    have hP : va_P (dC, dI) classes [(out, .inl (cJ, 1, .inr (.inl of))), (b0, .inr (7, [.ref bd0, .ref pr0, .ref t0, .ref au0, .ref da, .null])), (t0, .inr (4, [.ref ka, .ref aa, .ref ba, .ref sa, .null, .int (nI (t_tn T)), .int (nI (t_kc T)), .int (nI (t_bc T)), .int (nI (t_shc T)), .long (lN (t_kp T)), .long (lN (t_shp T)), .long (lN (t_pa T)), .long (lN (t_pb T)), .int (t_sht T)])), (ka, .inl (cJ, 4, .inr (.inl (lF (t_ko T))))), (aa, .inl (cJ, 64, .inr (.inl (lF (t_ao T))))), (ba, .inl (cJ, 64, .inr (.inl (lF (t_bo T))))), (sa, .inl (cJ, 4, .inr (.inl (lF (t_so T))))), (bd0, .inr (3, [.ref h0, .ref ro, .ref lo, .int (nI n)]))] H1 := hP.kept (fun k9 x9 h9 => hk1 x9.1 ((hP k9 x9 h9).lt) (fun h => h))
    refine vx_catch (own := "BallotBoardLaw") (name := eA) hown [] ⟨0, 8, 11, 13⟩ [] htb (fun z hz => absurd hz List.not_mem_nil) (by decide) (by decide) (hts _ (List.mem_cons_of_mem _ gk_178)) (hZx.cast xB_A) hce hcv hcl ?_
    generalize H1 = H at hP hS ⊢
    refine lv_astore_n (lv' := [(3, .ref q9), (0, .ref b0), (1, .int x1), (2, .ref out)]) hx hb d_Lw_count_11 rfl hl (by decide) rfl (fun ls hl => ?_)
    refine lv_iconst (v := 1) hx hb d_Lw_count_12 (by decide) ?_
    refine W.widen (k := 8) (n := 48) (by decide) (by decide) ?_
    refine vx_ret ?_
    exact W.iret (v := 1) hx hb hr (fun t ht9 hW => ⟨⟨_, (), rfl, rfl, by rw [ht9]; exact hP, va_K.moved hW.alike hK, hD⟩, hS.F ht9⟩) hS.2.2 d_Lw_count_13
  obtain rfl : s.heap = H1 := hB.symm.trans ht
  have hw4 := hw
  obtain ⟨i9, h1, h2, hr9⟩ := hw
  have hr9 : r_1 = cntC T 0 0 0 n i9 := hr9
  subst hr9
  exact absurd ⟨i9, h2, h1⟩ hC
set_option maxHeartbeats 8000000 in
set_option maxRecDepth 100000 in
theorem c_Lw_count_n0 (l : Launch) (hnt : l.stackTraces = false) (dC : Nat → ClassId) (dI : Nat → Nat → Nat) (cJ cI cR : ClassId) (sz : Nat) (b0 bd0 pr0 t0 au0 da : Nat) (ka aa ba sa : Nat) (T : TS) (h0 ro lo n : Nat)  (x1 : Int32) (out : Nat) (of : Nat → Int64) (hsh0 : t_sht T = 0 ∨ t_sht T = 1) (htn : t_tn T ≤ 4) (hkc : t_kc T ≤ 4) (hn : n ≤ 154) (hbc : t_bc T ≤ 64) (hsc : t_shc T ≤ 4) (hC : inN x1 11) : vx_Met l y_Lw_count w_Lw_count ({ frames := 7, cells := 8, slots := 48, locals := 103 }) (va_Pc [.ref b0, .int x1, .ref out] (fun U => U.heap.size = sz ∧ va_P (dC, dI) classes (jw_ws out cJ 1 of ++ (bb_ws b0 bd0 pr0 t0 au0 da .null ++ (tt_ws t0 ka aa ba sa .null cJ T ++ (bo_ws bd0 h0 ro lo n)))) U.heap ∧ va_K (dC, dI) classes [(cJ, .long), (cI, .int), (cR, .array .long)] U ∧ va_D (fun _ => True) (jw_ws out cJ 1 of ++ (bb_ws b0 bd0 pr0 t0 au0 da .null ++ (tt_ws t0 ka aa ba sa .null cJ T ++ (bo_ws bd0 h0 ro lo n)))) ∧ xz (va_A (jw_ws out cJ 1 of ++ (bb_ws b0 bd0 pr0 t0 au0 da .null ++ (tt_ws t0 ka aa ba sa .null cJ T ++ (bo_ws bd0 h0 ro lo n)))) sz) U U.heap ∧ nc_Z U)) (va_Qi (fun (r : Int32) (u9 : Nat) => r = 0 ∧ u9 < 11 ∧ x1 = nI u9) (fun u9 t => va_P (dC, dI) classes (jw_ws out cJ 1 (vp_updL of 0 (cntC T 0 0 0 n u9)) ++ (bb_ws b0 bd0 pr0 t0 au0 da .null ++ (tt_ws t0 ka aa ba sa .null cJ T ++ (bo_ws bd0 h0 ro lo n)))) t.heap ∧ va_K (dC, dI) classes [(cJ, .long), (cI, .int), (cR, .array .long)] t ∧ va_D (va_A (jw_ws out cJ 1 of ++ (bb_ws b0 bd0 pr0 t0 au0 da .null ++ (tt_ws t0 ka aa ba sa .null cJ T ++ (bo_ws bd0 h0 ro lo n)))) sz) (jw_ws out cJ 1 (vp_updL of 0 (cntC T 0 0 0 n u9)) ++ (bb_ws b0 bd0 pr0 t0 au0 da .null ++ (tt_ws t0 ka aa ba sa .null cJ T ++ (bo_ws bd0 h0 ro lo n))))) (va_A (jw_ws out cJ 1 of ++ (bb_ws b0 bd0 pr0 t0 au0 da .null ++ (tt_ws t0 ka aa ba sa .null cJ T ++ (bo_ws bd0 h0 ro lo n)))) sz)) (vx_X (fun _ : Unit => False) (fun _ _ _ => True) (va_A (jw_ws out cJ 1 of ++ (bb_ws b0 bd0 pr0 t0 au0 da .null ++ (tt_ws t0 ka aa ba sa .null cJ T ++ (bo_ws bd0 h0 ro lo n)))) sz)) 8 48 (va_A (jw_ws out cJ 1 of ++ (bb_ws b0 bd0 pr0 t0 au0 da .null ++ (tt_ws t0 ka aa ba sa .null cJ T ++ (bo_ws bd0 h0 ro lo n)))) sz) := by
  refine vx_ofWH (cc := b_Lw_count) (maxL := 4) (ret := (some .int)) (hh := h_Lw_count) (by decide) rfl ?_
  intro p e s m args below meth c s₁ Bd hml hv
  obtain ⟨rfl, hsz, hP, hK, hD0, hZx, hZn⟩ := hv
  have hx := Bd.exec
  have hb := Bd.bytes
  have hr := Bd.returns
  have hts := atoms_spec (ws := w_Lw_count) Bd.pre
  have hown : s.vm.findClass "BallotBoardLaw" = some m.cls := findClass_of_methodNamed Bd.named
  have hlocks := Bd.notSynchronized
  have htb := vx_table (x := y_Lw_count) Bd (hts _ List.mem_cons_self)
  subst hsz
  have hD := hD0.self (sz := s.heap.size)
  generalize hAe : va_A (jw_ws out cJ 1 of ++ (bb_ws b0 bd0 pr0 t0 au0 da .null ++ (tt_ws t0 ka aa ba sa .null cJ T ++ (bo_ws bd0 h0 ro lo n)))) s.heap.size = A at hD hZx ⊢
  have hA : ∀ q : Nat, s.heap.size ≤ q → A q := fun q h => by rw [← hAe]; exact Or.inr h
  have hS : va_S A s.heap s.heap [] := va_S.rf
  have hl := lv_entry ([.ref b0, .int x1, .ref out]) (n := 4) (Nat.le_of_ble_eq_true rfl)
  rw [lg_entry_eq]
  generalize (lg_sl ([.ref b0, .int x1, .ref out]) ++ List.replicate (4 - (lg_sl ([.ref b0, .int x1, .ref out])).length) Slot.unset).toArray = ls at hl ⊢
  have hl : lv_has ls 4 [(0, .ref b0), (1, .int x1), (2, .ref out)] := hl
  refine lv_aload_n hx hb d_Lw_count_0 rfl (lv_at hl 2 rfl) ?_
  refine lv_iconst (v := 0) hx hb d_Lw_count_1 (by decide) ?_
  refine lv_aload_n hx hb d_Lw_count_2 rfl (lv_at hl 0 rfl) ?_
  refine lv_iload_n hx hb d_Lw_count_3 rfl (lv_at hl 1 rfl) ?_
  have hPc := hP.sub (ws' := (bb_ws b0 bd0 pr0 t0 au0 da .null ++ (tt_ws t0 ka aa ba sa .null cJ T ++ (bo_ws bd0 h0 ro lo n)))) [1, 2, 3, 4, 5, 6, 7] rfl
  have hKc := hK.sub (tys' := [(cJ, .long), (cI, .int), (cR, .array .long)]) [0, 1, 2] rfl
  have hZc : xz (fun _ => False) s s.heap := (hZx.kept hS.2.1).narrow (fun q h => h.elim)
  refine vx_calll (vx_runV (As := [.int x1]) (rest := [.int 0, .ref out]) ⟨hx, hb, hml, hown, hts⟩ (c_BB_count_n l hnt s.heap dC dI cJ cI cR b0 bd0 pr0 t0 au0 da ka aa ba sa T h0 ro lo n x1 hPc hsh0 htn hkc hn hbc hsc) (cwV 1 hts (gw_V gk_820 gk_821 gk_822 gk_1 gk_823) rfl rfl rfl (by decide +kernel) ⟨(Nat.le_of_ble_eq_true rfl), (Nat.le_of_ble_eq_true rfl)⟩) ⟨fun a U g mk q => ⟨q.1, q.2.1, va_K.moved (u := U) (U := U.calling g mk a) (Vm.Alike.refl U.vm) q.2.2.1, xz.same (u := U) (U := U.calling g mk a) rfl q.2.2.2⟩, va_recv hK hP (ci := 7) (q0 := 1) rfl rfl, fun U hU hW => ⟨rfl, hU, va_K.moved hW.alike hKc, by rw [hU]; exact xz.warm hW hZc⟩⟩ rfl rfl hl.1 rfl (lv_room (Nat.le_of_ble_eq_true rfl)) d_Lw_count_4 ⟨(Nat.le_of_ble_eq_true rfl), (Nat.le_of_ble_eq_true rfl)⟩) hS (fun q _ h => h.elim) (fun q h => h.elim) (fun q _ h => h.elim) (fun E9 ce9 q9 u8 t9 H1 locs ht hvm hpx hbx hz1 hk1 hS hce hcv hcl => ?_) (fun r_1 u9 t9 H1 locs ht hvm hw hB hz1 hk1 hS => ?_)
  · exact absurd hC hbx.2
  obtain rfl : s.heap = H1 := hB.symm.trans ht
  have hw4 := hw
  obtain ⟨i9, h1, h2, hr9⟩ := hw
  have hr9 : r_1 = cntC T 0 0 0 n i9 := hr9
  subst hr9
  refine va_last hx hb hK hP hD hS 0 0 rfl rfl (vp_lit rfl) d_Lw_count_7 (fun H locs hP hD hS => ?_)
  have hfe : vp_updL of (0 : Int32).toNatClampNeg (cntC T 0 0 0 n i9) = vp_updL of 0 (cntC T 0 0 0 n i9) := rfl
  have hP : va_P (dC, dI) classes [(out, .inl (cJ, 1, .inr (.inl (vp_updL of (0 : Int32).toNatClampNeg (cntC T 0 0 0 n i9))))), (b0, .inr (7, [.ref bd0, .ref pr0, .ref t0, .ref au0, .ref da, .null])), (t0, .inr (4, [.ref ka, .ref aa, .ref ba, .ref sa, .null, .int (nI (t_tn T)), .int (nI (t_kc T)), .int (nI (t_bc T)), .int (nI (t_shc T)), .long (lN (t_kp T)), .long (lN (t_shp T)), .long (lN (t_pa T)), .long (lN (t_pb T)), .int (t_sht T)])), (ka, .inl (cJ, 4, .inr (.inl (lF (t_ko T))))), (aa, .inl (cJ, 64, .inr (.inl (lF (t_ao T))))), (ba, .inl (cJ, 64, .inr (.inl (lF (t_bo T))))), (sa, .inl (cJ, 4, .inr (.inl (lF (t_so T))))), (bd0, .inr (3, [.ref h0, .ref ro, .ref lo, .int (nI n)]))] H := hP
  have hD : va_D A [(out, .inl (cJ, 1, .inr (.inl (vp_updL of (0 : Int32).toNatClampNeg (cntC T 0 0 0 n i9))))), (b0, .inr (7, [.ref bd0, .ref pr0, .ref t0, .ref au0, .ref da, .null])), (t0, .inr (4, [.ref ka, .ref aa, .ref ba, .ref sa, .null, .int (nI (t_tn T)), .int (nI (t_kc T)), .int (nI (t_bc T)), .int (nI (t_shc T)), .long (lN (t_kp T)), .long (lN (t_shp T)), .long (lN (t_pa T)), .long (lN (t_pb T)), .int (t_sht T)])), (ka, .inl (cJ, 4, .inr (.inl (lF (t_ko T))))), (aa, .inl (cJ, 64, .inr (.inl (lF (t_ao T))))), (ba, .inl (cJ, 64, .inr (.inl (lF (t_bo T))))), (sa, .inl (cJ, 4, .inr (.inl (lF (t_so T))))), (bd0, .inr (3, [.ref h0, .ref ro, .ref lo, .int (nI n)]))] := hD
  rw [hfe] at hP hD
  refine lv_goto (tgt := 14) hx hb d_Lw_count_8 (by decide) ?_
  refine lv_iconst (v := 0) hx hb d_Lw_count_14 (by decide) ?_
  refine W.widen (k := 8) (n := 48) (by decide) (by decide) ?_
  refine vx_ret ?_
  exact W.iret (v := 0) hx hb hr (fun t ht9 hW => ⟨⟨_, i9, rfl, ⟨rfl, h1, h2⟩, by rw [ht9]; exact hP, va_K.moved hW.alike hK, hD⟩, hS.F ht9⟩) hS.2.2 d_Lw_count_15
abbrev b_Lw_begin : ByteArray := method_3_code
abbrev y_Lw_begin : MethodName := ⟨"BallotBoardLaw", "begin", "(LBallotBoard;JJI[J)I"⟩
abbrev h_Lw_begin : List (Nat × Nat × Nat × Nat) := [(0, 12, 15, 13)]
abbrev w_Lw_begin : List Cond := .codeWith y_Lw_begin b_Lw_begin 8 (some .int) h_Lw_begin :: gw
theorem d_Lw_begin_0 : decode b_Lw_begin 0 = .ok (.aload 6, 2) := by decide +kernel
theorem d_Lw_begin_2 : decode b_Lw_begin 2 = .ok (.iconst 0, 1) := by decide +kernel
theorem d_Lw_begin_3 : decode b_Lw_begin 3 = .ok (.aload_n 0, 1) := by decide +kernel
theorem d_Lw_begin_4 : decode b_Lw_begin 4 = .ok (.lload_n 1, 1) := by decide +kernel
theorem d_Lw_begin_5 : decode b_Lw_begin 5 = .ok (.lload_n 3, 1) := by decide +kernel
theorem d_Lw_begin_6 : decode b_Lw_begin 6 = .ok (.iload 5, 2) := by decide +kernel
theorem d_Lw_begin_8 : decode b_Lw_begin 8 = .ok (.invokevirtual 7, 3) := by decide +kernel
theorem d_Lw_begin_11 : decode b_Lw_begin 11 = .ok (.lastore, 1) := by decide +kernel
theorem d_Lw_begin_12 : decode b_Lw_begin 12 = .ok (.goto 7, 3) := by decide +kernel
theorem d_Lw_begin_15 : decode b_Lw_begin 15 = .ok (.astore 7, 2) := by decide +kernel
theorem d_Lw_begin_17 : decode b_Lw_begin 17 = .ok (.iconst 1, 1) := by decide +kernel
theorem d_Lw_begin_18 : decode b_Lw_begin 18 = .ok (.ireturn, 1) := by decide +kernel
theorem d_Lw_begin_19 : decode b_Lw_begin 19 = .ok (.iconst 0, 1) := by decide +kernel
theorem d_Lw_begin_20 : decode b_Lw_begin 20 = .ok (.ireturn, 1) := by decide +kernel
set_option maxHeartbeats 8000000 in
set_option maxRecDepth 100000 in
theorem c_Lw_begin_1 (l : Launch) (hnt : l.stackTraces = false) (dC : Nat → ClassId) (dI : Nat → Nat → Nat) (cJ cI cR : ClassId) (sz : Nat) (b0 bd0 pr0 t0 au0 da : Nat) (gv gt : Value) (ka aa ba sa : Nat) (T : TS) (h0 ro lo n tu0 sd wA : Nat) (x1 x2 : Int64) (x3 : Int32) (out : Nat) (of : Nat → Int64) (hsd : sd ≤ 154) (hC : ¬ bgC x1 x2 x3) : vx_Met l y_Lw_begin w_Lw_begin ({ frames := 7, cells := 8, slots := 48, locals := 168 }) (va_Pc [.ref b0, .long x1, .long x2, .int x3, .ref out] (fun U => U.heap.size = sz ∧ va_P (dC, dI) classes (jw_ws out cJ 1 of ++ (bb_ws b0 bd0 pr0 t0 au0 da gv ++ (tt_ws t0 ka aa ba sa gt cJ T ++ (bo_ws bd0 h0 ro lo n ++ (au_ws au0 bd0 pr0 tu0 sd))))) U.heap ∧ va_K (dC, dI) classes [(cJ, .long), (cI, .int), (cR, .array .long)] U ∧ va_D (fun _ => True) (jw_ws out cJ 1 of ++ (bb_ws b0 bd0 pr0 t0 au0 da gv ++ (tt_ws t0 ka aa ba sa gt cJ T ++ (bo_ws bd0 h0 ro lo n ++ (au_ws au0 bd0 pr0 tu0 sd))))) ∧ xz (va_A (jw_ws out cJ 1 of ++ (bb_ws b0 bd0 pr0 t0 au0 da gv ++ (tt_ws t0 ka aa ba sa gt cJ T ++ (bo_ws bd0 h0 ro lo n ++ (au_ws au0 bd0 pr0 tu0 sd))))) sz) U U.heap ∧ nc_Z U ∧ wi_Z wA (va_A (jw_ws out cJ 1 of ++ (bb_ws b0 bd0 pr0 t0 au0 da gv ++ (tt_ws t0 ka aa ba sa gt cJ T ++ (bo_ws bd0 h0 ro lo n ++ (au_ws au0 bd0 pr0 tu0 sd))))) sz) U U.heap)) (va_Qi (fun (r : Int32) (_ : Unit) => r = 1) (fun _ t => va_P (dC, dI) classes (jw_ws out cJ 1 of ++ (bb_ws b0 bd0 pr0 t0 au0 da gv ++ (tt_ws t0 ka aa ba sa gt cJ T ++ (bo_ws bd0 h0 ro lo n ++ (au_ws au0 bd0 pr0 tu0 sd))))) t.heap ∧ va_K (dC, dI) classes [(cJ, .long), (cI, .int), (cR, .array .long)] t ∧ va_D (va_A (jw_ws out cJ 1 of ++ (bb_ws b0 bd0 pr0 t0 au0 da gv ++ (tt_ws t0 ka aa ba sa gt cJ T ++ (bo_ws bd0 h0 ro lo n ++ (au_ws au0 bd0 pr0 tu0 sd))))) sz) (jw_ws out cJ 1 of ++ (bb_ws b0 bd0 pr0 t0 au0 da gv ++ (tt_ws t0 ka aa ba sa gt cJ T ++ (bo_ws bd0 h0 ro lo n ++ (au_ws au0 bd0 pr0 tu0 sd)))))) (va_A (jw_ws out cJ 1 of ++ (bb_ws b0 bd0 pr0 t0 au0 da gv ++ (tt_ws t0 ka aa ba sa gt cJ T ++ (bo_ws bd0 h0 ro lo n ++ (au_ws au0 bd0 pr0 tu0 sd))))) sz)) (vx_X (fun _ : Unit => False) (fun _ _ _ => True) (va_A (jw_ws out cJ 1 of ++ (bb_ws b0 bd0 pr0 t0 au0 da gv ++ (tt_ws t0 ka aa ba sa gt cJ T ++ (bo_ws bd0 h0 ro lo n ++ (au_ws au0 bd0 pr0 tu0 sd))))) sz)) 8 48 (va_A (jw_ws out cJ 1 of ++ (bb_ws b0 bd0 pr0 t0 au0 da gv ++ (tt_ws t0 ka aa ba sa gt cJ T ++ (bo_ws bd0 h0 ro lo n ++ (au_ws au0 bd0 pr0 tu0 sd))))) sz) := by
  refine vx_ofWH (cc := b_Lw_begin) (maxL := 8) (ret := (some .int)) (hh := h_Lw_begin) (by decide) rfl ?_
  intro p e s m args below meth c s₁ Bd hml hv
  obtain ⟨rfl, hsz, hP, hK, hD0, hZx, hZn, hZw⟩ := hv
  have hx := Bd.exec
  have hb := Bd.bytes
  have hr := Bd.returns
  have hts := atoms_spec (ws := w_Lw_begin) Bd.pre
  have hown : s.vm.findClass "BallotBoardLaw" = some m.cls := findClass_of_methodNamed Bd.named
  have hlocks := Bd.notSynchronized
  have htb := vx_table (x := y_Lw_begin) Bd (hts _ List.mem_cons_self)
  subst hsz
  have hD := hD0.self (sz := s.heap.size)
  generalize hAe : va_A (jw_ws out cJ 1 of ++ (bb_ws b0 bd0 pr0 t0 au0 da gv ++ (tt_ws t0 ka aa ba sa gt cJ T ++ (bo_ws bd0 h0 ro lo n ++ (au_ws au0 bd0 pr0 tu0 sd))))) s.heap.size = A at hD hZx hZw ⊢
  have hA : ∀ q : Nat, s.heap.size ≤ q → A q := fun q h => by rw [← hAe]; exact Or.inr h
  have hS : va_S A s.heap s.heap [] := va_S.rf
  have hl := lv_entry ([.ref b0, .long x1, .long x2, .int x3, .ref out]) (n := 8) (Nat.le_of_ble_eq_true rfl)
  rw [lg_entry_eq]
  generalize (lg_sl ([.ref b0, .long x1, .long x2, .int x3, .ref out]) ++ List.replicate (8 - (lg_sl ([.ref b0, .long x1, .long x2, .int x3, .ref out])).length) Slot.unset).toArray = ls at hl ⊢
  have hl : lv_has ls 8 [(0, .ref b0), (1, .long x1), (3, .long x2), (5, .int x3), (6, .ref out)] := hl
  refine lv_aload hx hb d_Lw_begin_0 (lv_at hl 4 rfl) ?_
  refine lv_iconst (v := 0) hx hb d_Lw_begin_2 (by decide) ?_
  refine lv_aload_n hx hb d_Lw_begin_3 rfl (lv_at hl 0 rfl) ?_
  refine lv_lload_n hx hb d_Lw_begin_4 rfl (lv_at hl 1 rfl) ?_
  refine lv_lload_n hx hb d_Lw_begin_5 rfl (lv_at hl 2 rfl) ?_
  refine lv_iload hx hb d_Lw_begin_6 (lv_at hl 3 rfl) ?_
  have hPc := hP.sub (ws' := (bb_ws b0 bd0 pr0 t0 au0 da gv ++ (tt_ws t0 ka aa ba sa gt cJ T ++ (bo_ws bd0 h0 ro lo n ++ (au_ws au0 bd0 pr0 tu0 sd))))) [1, 2, 3, 4, 5, 6, 7, 8] rfl
  have hDc := hD.sub (ws' := (bb_ws b0 bd0 pr0 t0 au0 da gv ++ (tt_ws t0 ka aa ba sa gt cJ T ++ (bo_ws bd0 h0 ro lo n ++ (au_ws au0 bd0 pr0 tu0 sd))))) [1, 2, 3, 4, 5, 6, 7, 8] (by decide) rfl
  have hKc := hK.sub (tys' := [(cJ, .long), (cI, .int), (cR, .array .long)]) [0, 1, 2] rfl
  have hFc := va_free (wc := (bb_ws b0 bd0 pr0 t0 au0 da gv ++ (tt_ws t0 ka aa ba sa gt cJ T ++ (bo_ws bd0 h0 ro lo n ++ (au_ws au0 bd0 pr0 tu0 sd))))) hD hS hA [1, 2, 3, 4, 5, 6, 7, 8] rfl
  have hZc0 : xz (va_A (bb_ws b0 bd0 pr0 t0 au0 da gv ++ (tt_ws t0 ka aa ba sa gt cJ T ++ (bo_ws bd0 h0 ro lo n ++ (au_ws au0 bd0 pr0 tu0 sd)))) s.heap.size) s s.heap := (hZx.kept hS.2.1).narrow hFc
  have hZc1 : wi_Z wA (va_A (bb_ws b0 bd0 pr0 t0 au0 da gv ++ (tt_ws t0 ka aa ba sa gt cJ T ++ (bo_ws bd0 h0 ro lo n ++ (au_ws au0 bd0 pr0 tu0 sd)))) s.heap.size) s s.heap := (hZw.kept hS.2.1).narrow hFc
  refine vx_calll (vx_runV (As := [.long x1, .long x2, .int x3]) (rest := [.int 0, .ref out]) ⟨hx, hb, hml, hown, hts⟩ (c_BB_begin l hnt dC dI cJ cI cR s.heap.size b0 bd0 pr0 t0 au0 da gv gt ka aa ba sa T h0 ro lo n tu0 sd wA x1 x2 x3 hsd) (cwV 3 hts (gw_V gk_179 gk_180 gk_181 gk_1 gk_182) rfl rfl rfl (by decide +kernel) ⟨(Nat.le_of_ble_eq_true rfl), (Nat.le_of_ble_eq_true rfl)⟩) ⟨fun a U g mk q => by obtain ⟨q0, q1, qP, qK, qD, qZ0, qZ1⟩ := q; exact ⟨q0, q1, qP, va_K.moved (u := U) (U := U.calling g mk a) (Vm.Alike.refl U.vm) qK, qD, xz.same (u := U) (U := U.calling g mk a) rfl qZ0, wi_Z.moved (u := U) (U := U.calling g mk a) (Vm.Alike.refl U.vm) qZ1⟩, va_recv hK hP (ci := 7) (q0 := 1) rfl rfl, fun U hU hW => ⟨rfl, by rw [hU], by rw [hU]; exact hPc, va_K.moved hW.alike hKc, hDc.weaken (fun _ _ _ _ => trivial), by rw [hU]; exact xz.warm hW hZc0, by rw [hU]; exact wi_Z.moved hW.alike hZc1⟩⟩ rfl rfl hl.1 rfl (lv_room (Nat.le_of_ble_eq_true rfl)) d_Lw_begin_8 ⟨(Nat.le_of_ble_eq_true rfl), (Nat.le_of_ble_eq_true rfl)⟩) hS (fun q _ h => hFc q h) hFc (fun q _ h => hFc q h) (fun E9 ce9 q9 u8 t9 H1 locs ht hvm hpx hbx hz1 hk1 hS hce hcv hcl => ?_) (fun r_1 v9 t9 H1 locs ht hvm hw hB hz1 hk1 hS => ?_)
  · obtain ⟨hbx, hP1, hK1, hD1⟩ := hbx
    rw [ht] at hP1
    have hbx : E9 = eA ∧ ¬ bgC x1 x2 x3 := hbx
    obtain ⟨hP, hD⟩ := va_join (wr := [(out, .inl (cJ, 1, .inr (.inl of)))]) (w1 := [(b0, .inr (7, [.ref bd0, .ref pr0, .ref t0, .ref au0, .ref da, gv])), (t0, .inr (4, [.ref ka, .ref aa, .ref ba, .ref sa, gt, .int (nI (t_tn T)), .int (nI (t_kc T)), .int (nI (t_bc T)), .int (nI (t_shc T)), .long (lN (t_kp T)), .long (lN (t_shp T)), .long (lN (t_pa T)), .long (lN (t_pb T)), .int (t_sht T)])), (ka, .inl (cJ, 4, .inr (.inl (lF (t_ko T))))), (aa, .inl (cJ, 64, .inr (.inl (lF (t_ao T))))), (ba, .inl (cJ, 64, .inr (.inl (lF (t_bo T))))), (sa, .inl (cJ, 4, .inr (.inl (lF (t_so T))))), (bd0, .inr (3, [.ref h0, .ref ro, .ref lo, .int (nI n)])), (au0, .inr (6, [.ref bd0, .ref pr0, .ref tu0, .int (nI sd)]))]) hP hD [1, 2, 3, 4, 5, 6, 7, 8] [0] rfl rfl (by decide) (by decide) hk1 hFc hP1 hD1
    have hP := hP.sub (ws' := [(out, .inl (cJ, 1, .inr (.inl of))), (b0, .inr (7, [.ref bd0, .ref pr0, .ref t0, .ref au0, .ref da, gv])), (t0, .inr (4, [.ref ka, .ref aa, .ref ba, .ref sa, gt, .int (nI (t_tn T)), .int (nI (t_kc T)), .int (nI (t_bc T)), .int (nI (t_shc T)), .long (lN (t_kp T)), .long (lN (t_shp T)), .long (lN (t_pa T)), .long (lN (t_pb T)), .int (t_sht T)])), (ka, .inl (cJ, 4, .inr (.inl (lF (t_ko T))))), (aa, .inl (cJ, 64, .inr (.inl (lF (t_ao T))))), (ba, .inl (cJ, 64, .inr (.inl (lF (t_bo T))))), (sa, .inl (cJ, 4, .inr (.inl (lF (t_so T))))), (bd0, .inr (3, [.ref h0, .ref ro, .ref lo, .int (nI n)])), (au0, .inr (6, [.ref bd0, .ref pr0, .ref tu0, .int (nI sd)]))]) [0, 1, 2, 3, 4, 5, 6, 7, 8] rfl
    have hD := hD.sub (ws' := [(out, .inl (cJ, 1, .inr (.inl of))), (b0, .inr (7, [.ref bd0, .ref pr0, .ref t0, .ref au0, .ref da, gv])), (t0, .inr (4, [.ref ka, .ref aa, .ref ba, .ref sa, gt, .int (nI (t_tn T)), .int (nI (t_kc T)), .int (nI (t_bc T)), .int (nI (t_shc T)), .long (lN (t_kp T)), .long (lN (t_shp T)), .long (lN (t_pa T)), .long (lN (t_pb T)), .int (t_sht T)])), (ka, .inl (cJ, 4, .inr (.inl (lF (t_ko T))))), (aa, .inl (cJ, 64, .inr (.inl (lF (t_ao T))))), (ba, .inl (cJ, 64, .inr (.inl (lF (t_bo T))))), (sa, .inl (cJ, 4, .inr (.inl (lF (t_so T))))), (bd0, .inr (3, [.ref h0, .ref ro, .ref lo, .int (nI n)])), (au0, .inr (6, [.ref bd0, .ref pr0, .ref tu0, .int (nI sd)]))]) [0, 1, 2, 3, 4, 5, 6, 7, 8] (by decide) rfl
    obtain ⟨rfl, _⟩ : E9 = eA ∧ True := ⟨hbx.1, trivial⟩
    refine vx_catch (own := "BallotBoardLaw") (name := eA) hown [] ⟨0, 12, 15, 13⟩ [] htb (fun z hz => absurd hz List.not_mem_nil) (by decide) (by decide) (hts _ (List.mem_cons_of_mem _ gk_178)) (hZx.cast xB_A) hce hcv hcl ?_
    generalize H1 = H at hP hS ⊢
    refine lv_astore (lv' := [(7, .ref q9), (0, .ref b0), (1, .long x1), (3, .long x2), (5, .int x3), (6, .ref out)]) hx hb d_Lw_begin_15 hl (by decide) rfl (fun ls hl => ?_)
    refine lv_iconst (v := 1) hx hb d_Lw_begin_17 (by decide) ?_
    refine W.widen (k := 8) (n := 48) (by decide) (by decide) ?_
    refine vx_ret ?_
    exact W.iret (v := 1) hx hb hr (fun t ht9 hW => ⟨⟨_, (), rfl, rfl, by rw [ht9]; exact hP, va_K.moved hW.alike hK, hD⟩, hS.F ht9⟩) hS.2.2 d_Lw_begin_18
  obtain ⟨h1, h2, h3, h4, h5, h6, h7, hr9⟩ := hw
  have hr9 : r_1 = lN v9.1.2.2.2.2.2.2.1 := hr9
  subst hr9
  obtain ⟨hP1, hK1, hD1⟩ := hB
  rw [ht] at hP1
  obtain ⟨hP, hD⟩ := va_join (wr := [(out, .inl (cJ, 1, .inr (.inl of)))]) (w1 := [(b0, .inr (7, [.ref bd0, .ref pr0, .ref t0, .ref au0, .ref da, .ref v9.1.1])), (t0, .inr (4, [.ref ka, .ref aa, .ref ba, .ref sa, .ref v9.1.1, .int (nI (t_tn (tStart v9.2 T))), .int (nI (t_kc (tStart v9.2 T))), .int (nI (t_bc (tStart v9.2 T))), .int (nI (t_shc (tStart v9.2 T))), .long (lN (t_kp (tStart v9.2 T))), .long (lN (t_shp (tStart v9.2 T))), .long (lN (t_pa (tStart v9.2 T))), .long (lN (t_pb (tStart v9.2 T))), .int (t_sht (tStart v9.2 T))])), (ka, .inl (cJ, 4, .inr (.inl (lF (t_ko (tStart v9.2 T)))))), (aa, .inl (cJ, 64, .inr (.inl (lF (t_ao (tStart v9.2 T)))))), (ba, .inl (cJ, 64, .inr (.inl (lF (t_bo (tStart v9.2 T)))))), (sa, .inl (cJ, 4, .inr (.inl (lF (t_so (tStart v9.2 T)))))), (bd0, .inr (3, [.ref h0, .ref ro, .ref lo, .int (nI 0)])), (au0, .inr (6, [.ref bd0, .ref pr0, .ref tu0, .int (nI (min sd 0))])), (v9.1.1, .inr (1, [.ref v9.1.2.1, .ref v9.1.2.2.1, .long (lN v9.1.2.2.2.2.2.2.2.2.2), .long (lN (v9.1.2.2.2.2.2.2.2.2.2 ^ (v9.1.2.2.2.2.2.2.1 - 1) % v9.1.2.2.2.1))])), (v9.1.2.1, .inr (0, [.long (lN v9.1.2.2.2.1), .long (lN (v9.1.2.2.2.1 % 2 ^ 31)), .long (lN (v9.1.2.2.2.1 / 2 ^ 31)), .long (lN v9.1.2.2.2.2.1), .long (lN (2 ^ 62 % v9.1.2.2.2.1)), .long (lN (2 ^ 124 % v9.1.2.2.2.1)), .int (nI v9.1.2.2.2.2.2.1)])), (v9.1.2.2.1, .inr (0, [.long (lN v9.1.2.2.2.2.2.2.1), .long (lN (v9.1.2.2.2.2.2.2.1 % 2 ^ 31)), .long (lN (v9.1.2.2.2.2.2.2.1 / 2 ^ 31)), .long (lN v9.1.2.2.2.2.2.2.2.1), .long (lN (2 ^ 62 % v9.1.2.2.2.2.2.2.1)), .long (lN (2 ^ 124 % v9.1.2.2.2.2.2.2.1)), .int (nI v9.1.2.2.2.2.2.2.2.2.1)]))]) hP hD [1, 2, 3, 4, 5, 6, 7, 8] [0] rfl rfl (by decide) (by decide) hk1 hFc hP1 hD1
  have hP := hP.sub (ws' := [(out, .inl (cJ, 1, .inr (.inl of))), (b0, .inr (7, [.ref bd0, .ref pr0, .ref t0, .ref au0, .ref da, .ref v9.1.1])), (t0, .inr (4, [.ref ka, .ref aa, .ref ba, .ref sa, .ref v9.1.1, .int (nI (t_tn (tStart v9.2 T))), .int (nI (t_kc (tStart v9.2 T))), .int (nI (t_bc (tStart v9.2 T))), .int (nI (t_shc (tStart v9.2 T))), .long (lN (t_kp (tStart v9.2 T))), .long (lN (t_shp (tStart v9.2 T))), .long (lN (t_pa (tStart v9.2 T))), .long (lN (t_pb (tStart v9.2 T))), .int (t_sht (tStart v9.2 T))])), (ka, .inl (cJ, 4, .inr (.inl (lF (t_ko (tStart v9.2 T)))))), (aa, .inl (cJ, 64, .inr (.inl (lF (t_ao (tStart v9.2 T)))))), (ba, .inl (cJ, 64, .inr (.inl (lF (t_bo (tStart v9.2 T)))))), (sa, .inl (cJ, 4, .inr (.inl (lF (t_so (tStart v9.2 T)))))), (bd0, .inr (3, [.ref h0, .ref ro, .ref lo, .int (nI 0)])), (au0, .inr (6, [.ref bd0, .ref pr0, .ref tu0, .int (nI (min sd 0))])), (v9.1.1, .inr (1, [.ref v9.1.2.1, .ref v9.1.2.2.1, .long (lN v9.1.2.2.2.2.2.2.2.2.2), .long (lN (v9.1.2.2.2.2.2.2.2.2.2 ^ (v9.1.2.2.2.2.2.2.1 - 1) % v9.1.2.2.2.1))])), (v9.1.2.1, .inr (0, [.long (lN v9.1.2.2.2.1), .long (lN (v9.1.2.2.2.1 % 2 ^ 31)), .long (lN (v9.1.2.2.2.1 / 2 ^ 31)), .long (lN v9.1.2.2.2.2.1), .long (lN (2 ^ 62 % v9.1.2.2.2.1)), .long (lN (2 ^ 124 % v9.1.2.2.2.1)), .int (nI v9.1.2.2.2.2.2.1)])), (v9.1.2.2.1, .inr (0, [.long (lN v9.1.2.2.2.2.2.2.1), .long (lN (v9.1.2.2.2.2.2.2.1 % 2 ^ 31)), .long (lN (v9.1.2.2.2.2.2.2.1 / 2 ^ 31)), .long (lN v9.1.2.2.2.2.2.2.2.1), .long (lN (2 ^ 62 % v9.1.2.2.2.2.2.2.1)), .long (lN (2 ^ 124 % v9.1.2.2.2.2.2.2.1)), .int (nI v9.1.2.2.2.2.2.2.2.2.1)]))]) [0, 1, 2, 3, 4, 5, 6, 7, 8, 9, 10, 11] rfl
  have hD := hD.sub (ws' := [(out, .inl (cJ, 1, .inr (.inl of))), (b0, .inr (7, [.ref bd0, .ref pr0, .ref t0, .ref au0, .ref da, .ref v9.1.1])), (t0, .inr (4, [.ref ka, .ref aa, .ref ba, .ref sa, .ref v9.1.1, .int (nI (t_tn (tStart v9.2 T))), .int (nI (t_kc (tStart v9.2 T))), .int (nI (t_bc (tStart v9.2 T))), .int (nI (t_shc (tStart v9.2 T))), .long (lN (t_kp (tStart v9.2 T))), .long (lN (t_shp (tStart v9.2 T))), .long (lN (t_pa (tStart v9.2 T))), .long (lN (t_pb (tStart v9.2 T))), .int (t_sht (tStart v9.2 T))])), (ka, .inl (cJ, 4, .inr (.inl (lF (t_ko (tStart v9.2 T)))))), (aa, .inl (cJ, 64, .inr (.inl (lF (t_ao (tStart v9.2 T)))))), (ba, .inl (cJ, 64, .inr (.inl (lF (t_bo (tStart v9.2 T)))))), (sa, .inl (cJ, 4, .inr (.inl (lF (t_so (tStart v9.2 T)))))), (bd0, .inr (3, [.ref h0, .ref ro, .ref lo, .int (nI 0)])), (au0, .inr (6, [.ref bd0, .ref pr0, .ref tu0, .int (nI (min sd 0))])), (v9.1.1, .inr (1, [.ref v9.1.2.1, .ref v9.1.2.2.1, .long (lN v9.1.2.2.2.2.2.2.2.2.2), .long (lN (v9.1.2.2.2.2.2.2.2.2.2 ^ (v9.1.2.2.2.2.2.2.1 - 1) % v9.1.2.2.2.1))])), (v9.1.2.1, .inr (0, [.long (lN v9.1.2.2.2.1), .long (lN (v9.1.2.2.2.1 % 2 ^ 31)), .long (lN (v9.1.2.2.2.1 / 2 ^ 31)), .long (lN v9.1.2.2.2.2.1), .long (lN (2 ^ 62 % v9.1.2.2.2.1)), .long (lN (2 ^ 124 % v9.1.2.2.2.1)), .int (nI v9.1.2.2.2.2.2.1)])), (v9.1.2.2.1, .inr (0, [.long (lN v9.1.2.2.2.2.2.2.1), .long (lN (v9.1.2.2.2.2.2.2.1 % 2 ^ 31)), .long (lN (v9.1.2.2.2.2.2.2.1 / 2 ^ 31)), .long (lN v9.1.2.2.2.2.2.2.2.1), .long (lN (2 ^ 62 % v9.1.2.2.2.2.2.2.1)), .long (lN (2 ^ 124 % v9.1.2.2.2.2.2.2.1)), .int (nI v9.1.2.2.2.2.2.2.2.2.1)]))]) [0, 1, 2, 3, 4, 5, 6, 7, 8, 9, 10, 11] (by decide) rfl
  generalize H1 = H at hP hS ⊢
  exact absurd h7 hC
set_option maxHeartbeats 8000000 in
set_option maxRecDepth 100000 in
theorem c_Lw_begin_0 (l : Launch) (hnt : l.stackTraces = false) (dC : Nat → ClassId) (dI : Nat → Nat → Nat) (cJ cI cR : ClassId) (sz : Nat) (b0 bd0 pr0 t0 au0 da : Nat) (gv gt : Value) (ka aa ba sa : Nat) (T : TS) (h0 ro lo n tu0 sd wA : Nat) (x1 x2 : Int64) (x3 : Int32) (out : Nat) (of : Nat → Int64) (hsd : sd ≤ 154) (hC : bgC x1 x2 x3) : vx_Met l y_Lw_begin w_Lw_begin ({ frames := 7, cells := 8, slots := 48, locals := 168 }) (va_Pc [.ref b0, .long x1, .long x2, .int x3, .ref out] (fun U => U.heap.size = sz ∧ va_P (dC, dI) classes (jw_ws out cJ 1 of ++ (bb_ws b0 bd0 pr0 t0 au0 da gv ++ (tt_ws t0 ka aa ba sa gt cJ T ++ (bo_ws bd0 h0 ro lo n ++ (au_ws au0 bd0 pr0 tu0 sd))))) U.heap ∧ va_K (dC, dI) classes [(cJ, .long), (cI, .int), (cR, .array .long)] U ∧ va_D (fun _ => True) (jw_ws out cJ 1 of ++ (bb_ws b0 bd0 pr0 t0 au0 da gv ++ (tt_ws t0 ka aa ba sa gt cJ T ++ (bo_ws bd0 h0 ro lo n ++ (au_ws au0 bd0 pr0 tu0 sd))))) ∧ xz (va_A (jw_ws out cJ 1 of ++ (bb_ws b0 bd0 pr0 t0 au0 da gv ++ (tt_ws t0 ka aa ba sa gt cJ T ++ (bo_ws bd0 h0 ro lo n ++ (au_ws au0 bd0 pr0 tu0 sd))))) sz) U U.heap ∧ nc_Z U ∧ wi_Z wA (va_A (jw_ws out cJ 1 of ++ (bb_ws b0 bd0 pr0 t0 au0 da gv ++ (tt_ws t0 ka aa ba sa gt cJ T ++ (bo_ws bd0 h0 ro lo n ++ (au_ws au0 bd0 pr0 tu0 sd))))) sz) U U.heap)) (va_Qi (fun (r : Int32) (u9 : GT × Nat) => r = 0 ∧ x1 = lN u9.1.2.2.2.1 ∧ x2 = lN u9.1.2.2.2.2.2.2.2.2.2 ∧ x3 = nI u9.2 ∧ 1 ≤ u9.2 ∧ u9.2 ≤ 4 ∧ gp_ok u9.1.2.2.2.1 u9.1.2.2.2.2.1 u9.1.2.2.2.2.2.1 u9.1.2.2.2.2.2.2.1 u9.1.2.2.2.2.2.2.2.1 u9.1.2.2.2.2.2.2.2.2.1 u9.1.2.2.2.2.2.2.2.2.2) (fun u9 t => va_P (dC, dI) classes (jw_ws out cJ 1 (vp_updL of 0 (lN u9.1.2.2.2.2.2.2.1)) ++ (bb_ws b0 bd0 pr0 t0 au0 da (.ref u9.1.1) ++ (tt_ws t0 ka aa ba sa (.ref u9.1.1) cJ (tStart u9.2 T) ++ (bo_ws bd0 h0 ro lo 0 ++ (au_ws au0 bd0 pr0 tu0 (min sd 0) ++ (gp_ws u9.1.1 u9.1.2.1 u9.1.2.2.1 u9.1.2.2.2.1 u9.1.2.2.2.2.1 u9.1.2.2.2.2.2.1 u9.1.2.2.2.2.2.2.1 u9.1.2.2.2.2.2.2.2.1 u9.1.2.2.2.2.2.2.2.2.1 u9.1.2.2.2.2.2.2.2.2.2)))))) t.heap ∧ va_K (dC, dI) classes [(cJ, .long), (cI, .int), (cR, .array .long)] t ∧ va_D (va_A (jw_ws out cJ 1 of ++ (bb_ws b0 bd0 pr0 t0 au0 da gv ++ (tt_ws t0 ka aa ba sa gt cJ T ++ (bo_ws bd0 h0 ro lo n ++ (au_ws au0 bd0 pr0 tu0 sd))))) sz) (jw_ws out cJ 1 (vp_updL of 0 (lN u9.1.2.2.2.2.2.2.1)) ++ (bb_ws b0 bd0 pr0 t0 au0 da (.ref u9.1.1) ++ (tt_ws t0 ka aa ba sa (.ref u9.1.1) cJ (tStart u9.2 T) ++ (bo_ws bd0 h0 ro lo 0 ++ (au_ws au0 bd0 pr0 tu0 (min sd 0) ++ (gp_ws u9.1.1 u9.1.2.1 u9.1.2.2.1 u9.1.2.2.2.1 u9.1.2.2.2.2.1 u9.1.2.2.2.2.2.1 u9.1.2.2.2.2.2.2.1 u9.1.2.2.2.2.2.2.2.1 u9.1.2.2.2.2.2.2.2.2.1 u9.1.2.2.2.2.2.2.2.2.2))))))) (va_A (jw_ws out cJ 1 of ++ (bb_ws b0 bd0 pr0 t0 au0 da gv ++ (tt_ws t0 ka aa ba sa gt cJ T ++ (bo_ws bd0 h0 ro lo n ++ (au_ws au0 bd0 pr0 tu0 sd))))) sz)) (vx_X (fun _ : Unit => False) (fun _ _ _ => True) (va_A (jw_ws out cJ 1 of ++ (bb_ws b0 bd0 pr0 t0 au0 da gv ++ (tt_ws t0 ka aa ba sa gt cJ T ++ (bo_ws bd0 h0 ro lo n ++ (au_ws au0 bd0 pr0 tu0 sd))))) sz)) 8 48 (va_A (jw_ws out cJ 1 of ++ (bb_ws b0 bd0 pr0 t0 au0 da gv ++ (tt_ws t0 ka aa ba sa gt cJ T ++ (bo_ws bd0 h0 ro lo n ++ (au_ws au0 bd0 pr0 tu0 sd))))) sz) := by
  refine vx_ofWH (cc := b_Lw_begin) (maxL := 8) (ret := (some .int)) (hh := h_Lw_begin) (by decide) rfl ?_
  intro p e s m args below meth c s₁ Bd hml hv
  obtain ⟨rfl, hsz, hP, hK, hD0, hZx, hZn, hZw⟩ := hv
  have hx := Bd.exec
  have hb := Bd.bytes
  have hr := Bd.returns
  have hts := atoms_spec (ws := w_Lw_begin) Bd.pre
  have hown : s.vm.findClass "BallotBoardLaw" = some m.cls := findClass_of_methodNamed Bd.named
  have hlocks := Bd.notSynchronized
  have htb := vx_table (x := y_Lw_begin) Bd (hts _ List.mem_cons_self)
  subst hsz
  have hD := hD0.self (sz := s.heap.size)
  generalize hAe : va_A (jw_ws out cJ 1 of ++ (bb_ws b0 bd0 pr0 t0 au0 da gv ++ (tt_ws t0 ka aa ba sa gt cJ T ++ (bo_ws bd0 h0 ro lo n ++ (au_ws au0 bd0 pr0 tu0 sd))))) s.heap.size = A at hD hZx hZw ⊢
  have hA : ∀ q : Nat, s.heap.size ≤ q → A q := fun q h => by rw [← hAe]; exact Or.inr h
  have hS : va_S A s.heap s.heap [] := va_S.rf
  have hl := lv_entry ([.ref b0, .long x1, .long x2, .int x3, .ref out]) (n := 8) (Nat.le_of_ble_eq_true rfl)
  rw [lg_entry_eq]
  generalize (lg_sl ([.ref b0, .long x1, .long x2, .int x3, .ref out]) ++ List.replicate (8 - (lg_sl ([.ref b0, .long x1, .long x2, .int x3, .ref out])).length) Slot.unset).toArray = ls at hl ⊢
  have hl : lv_has ls 8 [(0, .ref b0), (1, .long x1), (3, .long x2), (5, .int x3), (6, .ref out)] := hl
  refine lv_aload hx hb d_Lw_begin_0 (lv_at hl 4 rfl) ?_
  refine lv_iconst (v := 0) hx hb d_Lw_begin_2 (by decide) ?_
  refine lv_aload_n hx hb d_Lw_begin_3 rfl (lv_at hl 0 rfl) ?_
  refine lv_lload_n hx hb d_Lw_begin_4 rfl (lv_at hl 1 rfl) ?_
  refine lv_lload_n hx hb d_Lw_begin_5 rfl (lv_at hl 2 rfl) ?_
  refine lv_iload hx hb d_Lw_begin_6 (lv_at hl 3 rfl) ?_
  have hPc := hP.sub (ws' := (bb_ws b0 bd0 pr0 t0 au0 da gv ++ (tt_ws t0 ka aa ba sa gt cJ T ++ (bo_ws bd0 h0 ro lo n ++ (au_ws au0 bd0 pr0 tu0 sd))))) [1, 2, 3, 4, 5, 6, 7, 8] rfl
  have hDc := hD.sub (ws' := (bb_ws b0 bd0 pr0 t0 au0 da gv ++ (tt_ws t0 ka aa ba sa gt cJ T ++ (bo_ws bd0 h0 ro lo n ++ (au_ws au0 bd0 pr0 tu0 sd))))) [1, 2, 3, 4, 5, 6, 7, 8] (by decide) rfl
  have hKc := hK.sub (tys' := [(cJ, .long), (cI, .int), (cR, .array .long)]) [0, 1, 2] rfl
  have hFc := va_free (wc := (bb_ws b0 bd0 pr0 t0 au0 da gv ++ (tt_ws t0 ka aa ba sa gt cJ T ++ (bo_ws bd0 h0 ro lo n ++ (au_ws au0 bd0 pr0 tu0 sd))))) hD hS hA [1, 2, 3, 4, 5, 6, 7, 8] rfl
  have hZc0 : xz (va_A (bb_ws b0 bd0 pr0 t0 au0 da gv ++ (tt_ws t0 ka aa ba sa gt cJ T ++ (bo_ws bd0 h0 ro lo n ++ (au_ws au0 bd0 pr0 tu0 sd)))) s.heap.size) s s.heap := (hZx.kept hS.2.1).narrow hFc
  have hZc1 : wi_Z wA (va_A (bb_ws b0 bd0 pr0 t0 au0 da gv ++ (tt_ws t0 ka aa ba sa gt cJ T ++ (bo_ws bd0 h0 ro lo n ++ (au_ws au0 bd0 pr0 tu0 sd)))) s.heap.size) s s.heap := (hZw.kept hS.2.1).narrow hFc
  refine vx_calll (vx_runV (As := [.long x1, .long x2, .int x3]) (rest := [.int 0, .ref out]) ⟨hx, hb, hml, hown, hts⟩ (c_BB_begin l hnt dC dI cJ cI cR s.heap.size b0 bd0 pr0 t0 au0 da gv gt ka aa ba sa T h0 ro lo n tu0 sd wA x1 x2 x3 hsd) (cwV 3 hts (gw_V gk_179 gk_180 gk_181 gk_1 gk_182) rfl rfl rfl (by decide +kernel) ⟨(Nat.le_of_ble_eq_true rfl), (Nat.le_of_ble_eq_true rfl)⟩) ⟨fun a U g mk q => by obtain ⟨q0, q1, qP, qK, qD, qZ0, qZ1⟩ := q; exact ⟨q0, q1, qP, va_K.moved (u := U) (U := U.calling g mk a) (Vm.Alike.refl U.vm) qK, qD, xz.same (u := U) (U := U.calling g mk a) rfl qZ0, wi_Z.moved (u := U) (U := U.calling g mk a) (Vm.Alike.refl U.vm) qZ1⟩, va_recv hK hP (ci := 7) (q0 := 1) rfl rfl, fun U hU hW => ⟨rfl, by rw [hU], by rw [hU]; exact hPc, va_K.moved hW.alike hKc, hDc.weaken (fun _ _ _ _ => trivial), by rw [hU]; exact xz.warm hW hZc0, by rw [hU]; exact wi_Z.moved hW.alike hZc1⟩⟩ rfl rfl hl.1 rfl (lv_room (Nat.le_of_ble_eq_true rfl)) d_Lw_begin_8 ⟨(Nat.le_of_ble_eq_true rfl), (Nat.le_of_ble_eq_true rfl)⟩) hS (fun q _ h => hFc q h) hFc (fun q _ h => hFc q h) (fun E9 ce9 q9 u8 t9 H1 locs ht hvm hpx hbx hz1 hk1 hS hce hcv hcl => ?_) (fun r_1 v9 t9 H1 locs ht hvm hw hB hz1 hk1 hS => ?_)
  · obtain ⟨hbx, hP1, hK1, hD1⟩ := hbx
    rw [ht] at hP1
    have hbx : E9 = eA ∧ ¬ bgC x1 x2 x3 := hbx
    obtain ⟨hP, hD⟩ := va_join (wr := [(out, .inl (cJ, 1, .inr (.inl of)))]) (w1 := [(b0, .inr (7, [.ref bd0, .ref pr0, .ref t0, .ref au0, .ref da, gv])), (t0, .inr (4, [.ref ka, .ref aa, .ref ba, .ref sa, gt, .int (nI (t_tn T)), .int (nI (t_kc T)), .int (nI (t_bc T)), .int (nI (t_shc T)), .long (lN (t_kp T)), .long (lN (t_shp T)), .long (lN (t_pa T)), .long (lN (t_pb T)), .int (t_sht T)])), (ka, .inl (cJ, 4, .inr (.inl (lF (t_ko T))))), (aa, .inl (cJ, 64, .inr (.inl (lF (t_ao T))))), (ba, .inl (cJ, 64, .inr (.inl (lF (t_bo T))))), (sa, .inl (cJ, 4, .inr (.inl (lF (t_so T))))), (bd0, .inr (3, [.ref h0, .ref ro, .ref lo, .int (nI n)])), (au0, .inr (6, [.ref bd0, .ref pr0, .ref tu0, .int (nI sd)]))]) hP hD [1, 2, 3, 4, 5, 6, 7, 8] [0] rfl rfl (by decide) (by decide) hk1 hFc hP1 hD1
    have hP := hP.sub (ws' := [(out, .inl (cJ, 1, .inr (.inl of))), (b0, .inr (7, [.ref bd0, .ref pr0, .ref t0, .ref au0, .ref da, gv])), (t0, .inr (4, [.ref ka, .ref aa, .ref ba, .ref sa, gt, .int (nI (t_tn T)), .int (nI (t_kc T)), .int (nI (t_bc T)), .int (nI (t_shc T)), .long (lN (t_kp T)), .long (lN (t_shp T)), .long (lN (t_pa T)), .long (lN (t_pb T)), .int (t_sht T)])), (ka, .inl (cJ, 4, .inr (.inl (lF (t_ko T))))), (aa, .inl (cJ, 64, .inr (.inl (lF (t_ao T))))), (ba, .inl (cJ, 64, .inr (.inl (lF (t_bo T))))), (sa, .inl (cJ, 4, .inr (.inl (lF (t_so T))))), (bd0, .inr (3, [.ref h0, .ref ro, .ref lo, .int (nI n)])), (au0, .inr (6, [.ref bd0, .ref pr0, .ref tu0, .int (nI sd)]))]) [0, 1, 2, 3, 4, 5, 6, 7, 8] rfl
    have hD := hD.sub (ws' := [(out, .inl (cJ, 1, .inr (.inl of))), (b0, .inr (7, [.ref bd0, .ref pr0, .ref t0, .ref au0, .ref da, gv])), (t0, .inr (4, [.ref ka, .ref aa, .ref ba, .ref sa, gt, .int (nI (t_tn T)), .int (nI (t_kc T)), .int (nI (t_bc T)), .int (nI (t_shc T)), .long (lN (t_kp T)), .long (lN (t_shp T)), .long (lN (t_pa T)), .long (lN (t_pb T)), .int (t_sht T)])), (ka, .inl (cJ, 4, .inr (.inl (lF (t_ko T))))), (aa, .inl (cJ, 64, .inr (.inl (lF (t_ao T))))), (ba, .inl (cJ, 64, .inr (.inl (lF (t_bo T))))), (sa, .inl (cJ, 4, .inr (.inl (lF (t_so T))))), (bd0, .inr (3, [.ref h0, .ref ro, .ref lo, .int (nI n)])), (au0, .inr (6, [.ref bd0, .ref pr0, .ref tu0, .int (nI sd)]))]) [0, 1, 2, 3, 4, 5, 6, 7, 8] (by decide) rfl
    exact absurd hC hbx.2
  obtain ⟨h1, h2, h3, h4, h5, h6, h7, hr9⟩ := hw
  have hr9 : r_1 = lN v9.1.2.2.2.2.2.2.1 := hr9
  subst hr9
  obtain ⟨hP1, hK1, hD1⟩ := hB
  rw [ht] at hP1
  obtain ⟨hP, hD⟩ := va_join (wr := [(out, .inl (cJ, 1, .inr (.inl of)))]) (w1 := [(b0, .inr (7, [.ref bd0, .ref pr0, .ref t0, .ref au0, .ref da, .ref v9.1.1])), (t0, .inr (4, [.ref ka, .ref aa, .ref ba, .ref sa, .ref v9.1.1, .int (nI (t_tn (tStart v9.2 T))), .int (nI (t_kc (tStart v9.2 T))), .int (nI (t_bc (tStart v9.2 T))), .int (nI (t_shc (tStart v9.2 T))), .long (lN (t_kp (tStart v9.2 T))), .long (lN (t_shp (tStart v9.2 T))), .long (lN (t_pa (tStart v9.2 T))), .long (lN (t_pb (tStart v9.2 T))), .int (t_sht (tStart v9.2 T))])), (ka, .inl (cJ, 4, .inr (.inl (lF (t_ko (tStart v9.2 T)))))), (aa, .inl (cJ, 64, .inr (.inl (lF (t_ao (tStart v9.2 T)))))), (ba, .inl (cJ, 64, .inr (.inl (lF (t_bo (tStart v9.2 T)))))), (sa, .inl (cJ, 4, .inr (.inl (lF (t_so (tStart v9.2 T)))))), (bd0, .inr (3, [.ref h0, .ref ro, .ref lo, .int (nI 0)])), (au0, .inr (6, [.ref bd0, .ref pr0, .ref tu0, .int (nI (min sd 0))])), (v9.1.1, .inr (1, [.ref v9.1.2.1, .ref v9.1.2.2.1, .long (lN v9.1.2.2.2.2.2.2.2.2.2), .long (lN (v9.1.2.2.2.2.2.2.2.2.2 ^ (v9.1.2.2.2.2.2.2.1 - 1) % v9.1.2.2.2.1))])), (v9.1.2.1, .inr (0, [.long (lN v9.1.2.2.2.1), .long (lN (v9.1.2.2.2.1 % 2 ^ 31)), .long (lN (v9.1.2.2.2.1 / 2 ^ 31)), .long (lN v9.1.2.2.2.2.1), .long (lN (2 ^ 62 % v9.1.2.2.2.1)), .long (lN (2 ^ 124 % v9.1.2.2.2.1)), .int (nI v9.1.2.2.2.2.2.1)])), (v9.1.2.2.1, .inr (0, [.long (lN v9.1.2.2.2.2.2.2.1), .long (lN (v9.1.2.2.2.2.2.2.1 % 2 ^ 31)), .long (lN (v9.1.2.2.2.2.2.2.1 / 2 ^ 31)), .long (lN v9.1.2.2.2.2.2.2.2.1), .long (lN (2 ^ 62 % v9.1.2.2.2.2.2.2.1)), .long (lN (2 ^ 124 % v9.1.2.2.2.2.2.2.1)), .int (nI v9.1.2.2.2.2.2.2.2.2.1)]))]) hP hD [1, 2, 3, 4, 5, 6, 7, 8] [0] rfl rfl (by decide) (by decide) hk1 hFc hP1 hD1
  have hP := hP.sub (ws' := [(out, .inl (cJ, 1, .inr (.inl of))), (b0, .inr (7, [.ref bd0, .ref pr0, .ref t0, .ref au0, .ref da, .ref v9.1.1])), (t0, .inr (4, [.ref ka, .ref aa, .ref ba, .ref sa, .ref v9.1.1, .int (nI (t_tn (tStart v9.2 T))), .int (nI (t_kc (tStart v9.2 T))), .int (nI (t_bc (tStart v9.2 T))), .int (nI (t_shc (tStart v9.2 T))), .long (lN (t_kp (tStart v9.2 T))), .long (lN (t_shp (tStart v9.2 T))), .long (lN (t_pa (tStart v9.2 T))), .long (lN (t_pb (tStart v9.2 T))), .int (t_sht (tStart v9.2 T))])), (ka, .inl (cJ, 4, .inr (.inl (lF (t_ko (tStart v9.2 T)))))), (aa, .inl (cJ, 64, .inr (.inl (lF (t_ao (tStart v9.2 T)))))), (ba, .inl (cJ, 64, .inr (.inl (lF (t_bo (tStart v9.2 T)))))), (sa, .inl (cJ, 4, .inr (.inl (lF (t_so (tStart v9.2 T)))))), (bd0, .inr (3, [.ref h0, .ref ro, .ref lo, .int (nI 0)])), (au0, .inr (6, [.ref bd0, .ref pr0, .ref tu0, .int (nI (min sd 0))])), (v9.1.1, .inr (1, [.ref v9.1.2.1, .ref v9.1.2.2.1, .long (lN v9.1.2.2.2.2.2.2.2.2.2), .long (lN (v9.1.2.2.2.2.2.2.2.2.2 ^ (v9.1.2.2.2.2.2.2.1 - 1) % v9.1.2.2.2.1))])), (v9.1.2.1, .inr (0, [.long (lN v9.1.2.2.2.1), .long (lN (v9.1.2.2.2.1 % 2 ^ 31)), .long (lN (v9.1.2.2.2.1 / 2 ^ 31)), .long (lN v9.1.2.2.2.2.1), .long (lN (2 ^ 62 % v9.1.2.2.2.1)), .long (lN (2 ^ 124 % v9.1.2.2.2.1)), .int (nI v9.1.2.2.2.2.2.1)])), (v9.1.2.2.1, .inr (0, [.long (lN v9.1.2.2.2.2.2.2.1), .long (lN (v9.1.2.2.2.2.2.2.1 % 2 ^ 31)), .long (lN (v9.1.2.2.2.2.2.2.1 / 2 ^ 31)), .long (lN v9.1.2.2.2.2.2.2.2.1), .long (lN (2 ^ 62 % v9.1.2.2.2.2.2.2.1)), .long (lN (2 ^ 124 % v9.1.2.2.2.2.2.2.1)), .int (nI v9.1.2.2.2.2.2.2.2.2.1)]))]) [0, 1, 2, 3, 4, 5, 6, 7, 8, 9, 10, 11] rfl
  have hD := hD.sub (ws' := [(out, .inl (cJ, 1, .inr (.inl of))), (b0, .inr (7, [.ref bd0, .ref pr0, .ref t0, .ref au0, .ref da, .ref v9.1.1])), (t0, .inr (4, [.ref ka, .ref aa, .ref ba, .ref sa, .ref v9.1.1, .int (nI (t_tn (tStart v9.2 T))), .int (nI (t_kc (tStart v9.2 T))), .int (nI (t_bc (tStart v9.2 T))), .int (nI (t_shc (tStart v9.2 T))), .long (lN (t_kp (tStart v9.2 T))), .long (lN (t_shp (tStart v9.2 T))), .long (lN (t_pa (tStart v9.2 T))), .long (lN (t_pb (tStart v9.2 T))), .int (t_sht (tStart v9.2 T))])), (ka, .inl (cJ, 4, .inr (.inl (lF (t_ko (tStart v9.2 T)))))), (aa, .inl (cJ, 64, .inr (.inl (lF (t_ao (tStart v9.2 T)))))), (ba, .inl (cJ, 64, .inr (.inl (lF (t_bo (tStart v9.2 T)))))), (sa, .inl (cJ, 4, .inr (.inl (lF (t_so (tStart v9.2 T)))))), (bd0, .inr (3, [.ref h0, .ref ro, .ref lo, .int (nI 0)])), (au0, .inr (6, [.ref bd0, .ref pr0, .ref tu0, .int (nI (min sd 0))])), (v9.1.1, .inr (1, [.ref v9.1.2.1, .ref v9.1.2.2.1, .long (lN v9.1.2.2.2.2.2.2.2.2.2), .long (lN (v9.1.2.2.2.2.2.2.2.2.2 ^ (v9.1.2.2.2.2.2.2.1 - 1) % v9.1.2.2.2.1))])), (v9.1.2.1, .inr (0, [.long (lN v9.1.2.2.2.1), .long (lN (v9.1.2.2.2.1 % 2 ^ 31)), .long (lN (v9.1.2.2.2.1 / 2 ^ 31)), .long (lN v9.1.2.2.2.2.1), .long (lN (2 ^ 62 % v9.1.2.2.2.1)), .long (lN (2 ^ 124 % v9.1.2.2.2.1)), .int (nI v9.1.2.2.2.2.2.1)])), (v9.1.2.2.1, .inr (0, [.long (lN v9.1.2.2.2.2.2.2.1), .long (lN (v9.1.2.2.2.2.2.2.1 % 2 ^ 31)), .long (lN (v9.1.2.2.2.2.2.2.1 / 2 ^ 31)), .long (lN v9.1.2.2.2.2.2.2.2.1), .long (lN (2 ^ 62 % v9.1.2.2.2.2.2.2.1)), .long (lN (2 ^ 124 % v9.1.2.2.2.2.2.2.1)), .int (nI v9.1.2.2.2.2.2.2.2.2.1)]))]) [0, 1, 2, 3, 4, 5, 6, 7, 8, 9, 10, 11] (by decide) rfl
  generalize H1 = H at hP hS ⊢
  refine va_last hx hb hK hP hD hS 0 0 rfl rfl (vp_lit rfl) d_Lw_begin_11 (fun H locs hP hD hS => ?_)
  have hfe : vp_updL of (0 : Int32).toNatClampNeg (lN v9.1.2.2.2.2.2.2.1) = vp_updL of 0 (lN v9.1.2.2.2.2.2.2.1) := rfl
  have hP : va_P (dC, dI) classes [(out, .inl (cJ, 1, .inr (.inl (vp_updL of (0 : Int32).toNatClampNeg (lN v9.1.2.2.2.2.2.2.1))))), (b0, .inr (7, [.ref bd0, .ref pr0, .ref t0, .ref au0, .ref da, .ref v9.1.1])), (t0, .inr (4, [.ref ka, .ref aa, .ref ba, .ref sa, .ref v9.1.1, .int (nI (t_tn (tStart v9.2 T))), .int (nI (t_kc (tStart v9.2 T))), .int (nI (t_bc (tStart v9.2 T))), .int (nI (t_shc (tStart v9.2 T))), .long (lN (t_kp (tStart v9.2 T))), .long (lN (t_shp (tStart v9.2 T))), .long (lN (t_pa (tStart v9.2 T))), .long (lN (t_pb (tStart v9.2 T))), .int (t_sht (tStart v9.2 T))])), (ka, .inl (cJ, 4, .inr (.inl (lF (t_ko (tStart v9.2 T)))))), (aa, .inl (cJ, 64, .inr (.inl (lF (t_ao (tStart v9.2 T)))))), (ba, .inl (cJ, 64, .inr (.inl (lF (t_bo (tStart v9.2 T)))))), (sa, .inl (cJ, 4, .inr (.inl (lF (t_so (tStart v9.2 T)))))), (bd0, .inr (3, [.ref h0, .ref ro, .ref lo, .int (nI 0)])), (au0, .inr (6, [.ref bd0, .ref pr0, .ref tu0, .int (nI (min sd 0))])), (v9.1.1, .inr (1, [.ref v9.1.2.1, .ref v9.1.2.2.1, .long (lN v9.1.2.2.2.2.2.2.2.2.2), .long (lN (v9.1.2.2.2.2.2.2.2.2.2 ^ (v9.1.2.2.2.2.2.2.1 - 1) % v9.1.2.2.2.1))])), (v9.1.2.1, .inr (0, [.long (lN v9.1.2.2.2.1), .long (lN (v9.1.2.2.2.1 % 2 ^ 31)), .long (lN (v9.1.2.2.2.1 / 2 ^ 31)), .long (lN v9.1.2.2.2.2.1), .long (lN (2 ^ 62 % v9.1.2.2.2.1)), .long (lN (2 ^ 124 % v9.1.2.2.2.1)), .int (nI v9.1.2.2.2.2.2.1)])), (v9.1.2.2.1, .inr (0, [.long (lN v9.1.2.2.2.2.2.2.1), .long (lN (v9.1.2.2.2.2.2.2.1 % 2 ^ 31)), .long (lN (v9.1.2.2.2.2.2.2.1 / 2 ^ 31)), .long (lN v9.1.2.2.2.2.2.2.2.1), .long (lN (2 ^ 62 % v9.1.2.2.2.2.2.2.1)), .long (lN (2 ^ 124 % v9.1.2.2.2.2.2.2.1)), .int (nI v9.1.2.2.2.2.2.2.2.2.1)]))] H := hP
  have hD : va_D A [(out, .inl (cJ, 1, .inr (.inl (vp_updL of (0 : Int32).toNatClampNeg (lN v9.1.2.2.2.2.2.2.1))))), (b0, .inr (7, [.ref bd0, .ref pr0, .ref t0, .ref au0, .ref da, .ref v9.1.1])), (t0, .inr (4, [.ref ka, .ref aa, .ref ba, .ref sa, .ref v9.1.1, .int (nI (t_tn (tStart v9.2 T))), .int (nI (t_kc (tStart v9.2 T))), .int (nI (t_bc (tStart v9.2 T))), .int (nI (t_shc (tStart v9.2 T))), .long (lN (t_kp (tStart v9.2 T))), .long (lN (t_shp (tStart v9.2 T))), .long (lN (t_pa (tStart v9.2 T))), .long (lN (t_pb (tStart v9.2 T))), .int (t_sht (tStart v9.2 T))])), (ka, .inl (cJ, 4, .inr (.inl (lF (t_ko (tStart v9.2 T)))))), (aa, .inl (cJ, 64, .inr (.inl (lF (t_ao (tStart v9.2 T)))))), (ba, .inl (cJ, 64, .inr (.inl (lF (t_bo (tStart v9.2 T)))))), (sa, .inl (cJ, 4, .inr (.inl (lF (t_so (tStart v9.2 T)))))), (bd0, .inr (3, [.ref h0, .ref ro, .ref lo, .int (nI 0)])), (au0, .inr (6, [.ref bd0, .ref pr0, .ref tu0, .int (nI (min sd 0))])), (v9.1.1, .inr (1, [.ref v9.1.2.1, .ref v9.1.2.2.1, .long (lN v9.1.2.2.2.2.2.2.2.2.2), .long (lN (v9.1.2.2.2.2.2.2.2.2.2 ^ (v9.1.2.2.2.2.2.2.1 - 1) % v9.1.2.2.2.1))])), (v9.1.2.1, .inr (0, [.long (lN v9.1.2.2.2.1), .long (lN (v9.1.2.2.2.1 % 2 ^ 31)), .long (lN (v9.1.2.2.2.1 / 2 ^ 31)), .long (lN v9.1.2.2.2.2.1), .long (lN (2 ^ 62 % v9.1.2.2.2.1)), .long (lN (2 ^ 124 % v9.1.2.2.2.1)), .int (nI v9.1.2.2.2.2.2.1)])), (v9.1.2.2.1, .inr (0, [.long (lN v9.1.2.2.2.2.2.2.1), .long (lN (v9.1.2.2.2.2.2.2.1 % 2 ^ 31)), .long (lN (v9.1.2.2.2.2.2.2.1 / 2 ^ 31)), .long (lN v9.1.2.2.2.2.2.2.2.1), .long (lN (2 ^ 62 % v9.1.2.2.2.2.2.2.1)), .long (lN (2 ^ 124 % v9.1.2.2.2.2.2.2.1)), .int (nI v9.1.2.2.2.2.2.2.2.2.1)]))] := hD
  rw [hfe] at hP hD
  refine lv_goto (tgt := 19) hx hb d_Lw_begin_12 (by decide) ?_
  refine lv_iconst (v := 0) hx hb d_Lw_begin_19 (by decide) ?_
  refine W.widen (k := 8) (n := 48) (by decide) (by decide) ?_
  refine vx_ret ?_
  exact W.iret (v := 0) hx hb hr (fun t ht9 hW => ⟨⟨_, v9, rfl, ⟨rfl, h1, h2, h3, h4, h5, h6⟩, by rw [ht9]; exact hP, va_K.moved hW.alike hK, hD⟩, hS.F ht9⟩) hS.2.2 d_Lw_begin_20
set_option maxHeartbeats 8000000 in
set_option maxRecDepth 100000 in
theorem c_Lw_key_n (l : Launch) (hnt : l.stackTraces = false) (dC : Nat → ClassId) (dI : Nat → Nat → Nat) (cJ cI cR : ClassId) (sz : Nat) (b0 bd0 pr0 t0 au0 da : Nat) (x1 : Int32) (x2 : Int64) (x3 : Int64) (x4 : Int64) (out : Nat) (of : Nat → Int64)  : vx_Met l y_Lw_key w_Lw_key ({ frames := 10, cells := 8, slots := 48, locals := 170 }) (va_Pc [.ref b0, .int x1, .long x2, .long x3, .long x4, .ref out] (fun U => U.heap.size = sz ∧ va_P (dC, dI) classes (jw_ws out cJ 1 of ++ (bb_ws b0 bd0 pr0 t0 au0 da .null)) U.heap ∧ va_K (dC, dI) classes [(cJ, .long), (cI, .int), (cR, .array .long)] U ∧ va_D (fun _ => True) (jw_ws out cJ 1 of ++ (bb_ws b0 bd0 pr0 t0 au0 da .null)) ∧ xz (va_A (jw_ws out cJ 1 of ++ (bb_ws b0 bd0 pr0 t0 au0 da .null)) sz) U U.heap ∧ nc_Z U)) (va_Qi (fun (r : Int32) (_ : Unit) => r = 1) (fun _ t => va_P (dC, dI) classes (jw_ws out cJ 1 of ++ (bb_ws b0 bd0 pr0 t0 au0 da .null)) t.heap ∧ va_K (dC, dI) classes [(cJ, .long), (cI, .int), (cR, .array .long)] t ∧ va_D (va_A (jw_ws out cJ 1 of ++ (bb_ws b0 bd0 pr0 t0 au0 da .null)) sz) (jw_ws out cJ 1 of ++ (bb_ws b0 bd0 pr0 t0 au0 da .null))) (va_A (jw_ws out cJ 1 of ++ (bb_ws b0 bd0 pr0 t0 au0 da .null)) sz)) (vx_X (fun _ : Unit => False) (fun _ _ _ => True) (va_A (jw_ws out cJ 1 of ++ (bb_ws b0 bd0 pr0 t0 au0 da .null)) sz)) 8 48 (va_A (jw_ws out cJ 1 of ++ (bb_ws b0 bd0 pr0 t0 au0 da .null)) sz) := by
  refine vx_ofWH (cc := b_Lw_key) (maxL := 10) (ret := (some .int)) (hh := h_Lw_key) (by decide) rfl ?_
  intro p e s m args below meth c s₁ Bd hml hv
  obtain ⟨rfl, hsz, hP, hK, hD0, hZx, hZn⟩ := hv
  have hx := Bd.exec
  have hb := Bd.bytes
  have hr := Bd.returns
  have hts := atoms_spec (ws := w_Lw_key) Bd.pre
  have hown : s.vm.findClass "BallotBoardLaw" = some m.cls := findClass_of_methodNamed Bd.named
  have hlocks := Bd.notSynchronized
  have htb := vx_table (x := y_Lw_key) Bd (hts _ List.mem_cons_self)
  subst hsz
  have hD := hD0.self (sz := s.heap.size)
  generalize hAe : va_A (jw_ws out cJ 1 of ++ (bb_ws b0 bd0 pr0 t0 au0 da .null)) s.heap.size = A at hD hZx ⊢
  have hA : ∀ q : Nat, s.heap.size ≤ q → A q := fun q h => by rw [← hAe]; exact Or.inr h
  have hS : va_S A s.heap s.heap [] := va_S.rf
  have hl := lv_entry ([.ref b0, .int x1, .long x2, .long x3, .long x4, .ref out]) (n := 10) (Nat.le_of_ble_eq_true rfl)
  rw [lg_entry_eq]
  generalize (lg_sl ([.ref b0, .int x1, .long x2, .long x3, .long x4, .ref out]) ++ List.replicate (10 - (lg_sl ([.ref b0, .int x1, .long x2, .long x3, .long x4, .ref out])).length) Slot.unset).toArray = ls at hl ⊢
  have hl : lv_has ls 10 [(0, .ref b0), (1, .int x1), (2, .long x2), (4, .long x3), (6, .long x4), (8, .ref out)] := hl
  refine lv_aload hx hb d_Lw_key_0 (lv_at hl 5 rfl) ?_
  refine lv_iconst (v := 0) hx hb d_Lw_key_2 (by decide) ?_
  refine lv_aload_n hx hb d_Lw_key_3 rfl (lv_at hl 0 rfl) ?_
  refine lv_iload_n hx hb d_Lw_key_4 rfl (lv_at hl 1 rfl) ?_
  refine lv_lload_n hx hb d_Lw_key_5 rfl (lv_at hl 2 rfl) ?_
  refine lv_lload hx hb d_Lw_key_6 (lv_at hl 3 rfl) ?_
  refine lv_lload hx hb d_Lw_key_8 (lv_at hl 4 rfl) ?_
  have hPc := hP.sub (ws' := (bb_ws b0 bd0 pr0 t0 au0 da .null)) [1] rfl
  have hKc := hK.sub (tys' := [(cJ, .long), (cI, .int), (cR, .array .long)]) [0, 1, 2] rfl
  have hZc : xz (fun _ => False) s s.heap := (hZx.kept hS.2.1).narrow (fun q h => h.elim)
  refine vx_calli (vx_runV (As := [.int x1, .long x2, .long x3, .long x4]) (rest := [.int 0, .ref out]) ⟨hx, hb, hml, hown, hts⟩ (c_BB_key_n l hnt s.heap dC dI cJ cI cR b0 bd0 pr0 t0 au0 da x1 x2 x3 x4 hPc) (cwV 4 hts (gw_V gk_371 gk_372 gk_373 gk_1 gk_374) rfl rfl rfl (by decide +kernel) ⟨(Nat.le_of_ble_eq_true rfl), (Nat.le_of_ble_eq_true rfl)⟩) ⟨fun a U g mk q => ⟨q.1, q.2.1, va_K.moved (u := U) (U := U.calling g mk a) (Vm.Alike.refl U.vm) q.2.2.1, xz.same (u := U) (U := U.calling g mk a) rfl q.2.2.2⟩, va_recv hK hP (ci := 7) (q0 := 1) rfl rfl, fun U hU hW => ⟨rfl, hU, va_K.moved hW.alike hKc, by rw [hU]; exact xz.warm hW hZc⟩⟩ rfl rfl hl.1 rfl (lv_room (Nat.le_of_ble_eq_true rfl)) d_Lw_key_10 ⟨(Nat.le_of_ble_eq_true rfl), (Nat.le_of_ble_eq_true rfl)⟩) hS (fun q _ h => h.elim) (fun q h => h.elim) (fun q _ h => h.elim) (fun E9 ce9 q9 u8 t9 H1 locs ht hvm hpx hbx hz1 hk1 hS hce hcv hcl => ?_) (fun r_1 u9 t9 H1 locs ht hvm hw hB hz1 hk1 hS => ?_)
  · obtain ⟨rfl, _⟩ : E9 = eS ∧ True := ⟨hbx, trivial⟩
    have hP : va_P (dC, dI) classes [(out, .inl (cJ, 1, .inr (.inl of))), (b0, .inr (7, [.ref bd0, .ref pr0, .ref t0, .ref au0, .ref da, .null]))] H1 := hP.kept (fun k9 x9 h9 => hk1 x9.1 ((hP k9 x9 h9).lt) (fun h => h))
    refine vx_catch (own := "BallotBoardLaw") (name := eS) hown [] ⟨0, 15, 18, 19⟩ [⟨0, 15, 22, 13⟩] htb (fun z hz => absurd hz List.not_mem_nil) (by decide) (by decide) (hts _ (List.mem_cons_of_mem _ gk_370)) (hZx.cast xB_S) hce hcv hcl ?_
    generalize H1 = H at hP hS ⊢
    refine lv_astore (lv' := [(9, .ref q9), (0, .ref b0), (1, .int x1), (2, .long x2), (4, .long x3), (6, .long x4), (8, .ref out)]) hx hb d_Lw_key_18 hl (by decide) rfl (fun ls hl => ?_)
    refine lv_iconst (v := 1) hx hb d_Lw_key_20 (by decide) ?_
    refine W.widen (k := 8) (n := 48) (by decide) (by decide) ?_
    refine vx_ret ?_
    exact W.iret (v := 1) hx hb hr (fun t ht9 hW => ⟨⟨_, (), rfl, rfl, by rw [ht9]; exact hP, va_K.moved hW.alike hK, hD⟩, hS.F ht9⟩) hS.2.2 d_Lw_key_21
  obtain rfl : s.heap = H1 := hB.symm.trans ht
  have hw10 := hw
  have hw : False := hw
  exact hw.elim
set_option maxHeartbeats 8000000 in
set_option maxRecDepth 100000 in
theorem c_Lw_makeKey_n (l : Launch) (hnt : l.stackTraces = false) (dC : Nat → ClassId) (dI : Nat → Nat → Nat) (cJ cI cR : ClassId) (sz : Nat) (b0 bd0 pr0 t0 au0 da : Nat) (x1 : Int32) (x2 : Int64) (x3 : Int64) (out : Nat) (of : Nat → Int64)  : vx_Met l y_Lw_makeKey w_Lw_makeKey ({ frames := 10, cells := 8, slots := 48, locals := 168 }) (va_Pc [.ref b0, .int x1, .long x2, .long x3, .ref out] (fun U => U.heap.size = sz ∧ va_P (dC, dI) classes (jw_ws out cJ 1 of ++ (bb_ws b0 bd0 pr0 t0 au0 da .null)) U.heap ∧ va_K (dC, dI) classes [(cJ, .long), (cI, .int), (cR, .array .long)] U ∧ va_D (fun _ => True) (jw_ws out cJ 1 of ++ (bb_ws b0 bd0 pr0 t0 au0 da .null)) ∧ xz (va_A (jw_ws out cJ 1 of ++ (bb_ws b0 bd0 pr0 t0 au0 da .null)) sz) U U.heap ∧ nc_Z U)) (va_Qi (fun (r : Int32) (_ : Unit) => r = 1) (fun _ t => va_P (dC, dI) classes (jw_ws out cJ 1 of ++ (bb_ws b0 bd0 pr0 t0 au0 da .null)) t.heap ∧ va_K (dC, dI) classes [(cJ, .long), (cI, .int), (cR, .array .long)] t ∧ va_D (va_A (jw_ws out cJ 1 of ++ (bb_ws b0 bd0 pr0 t0 au0 da .null)) sz) (jw_ws out cJ 1 of ++ (bb_ws b0 bd0 pr0 t0 au0 da .null))) (va_A (jw_ws out cJ 1 of ++ (bb_ws b0 bd0 pr0 t0 au0 da .null)) sz)) (vx_X (fun _ : Unit => False) (fun _ _ _ => True) (va_A (jw_ws out cJ 1 of ++ (bb_ws b0 bd0 pr0 t0 au0 da .null)) sz)) 8 48 (va_A (jw_ws out cJ 1 of ++ (bb_ws b0 bd0 pr0 t0 au0 da .null)) sz) := by
  refine vx_ofWH (cc := b_Lw_makeKey) (maxL := 8) (ret := (some .int)) (hh := h_Lw_makeKey) (by decide) rfl ?_
  intro p e s m args below meth c s₁ Bd hml hv
  obtain ⟨rfl, hsz, hP, hK, hD0, hZx, hZn⟩ := hv
  have hx := Bd.exec
  have hb := Bd.bytes
  have hr := Bd.returns
  have hts := atoms_spec (ws := w_Lw_makeKey) Bd.pre
  have hown : s.vm.findClass "BallotBoardLaw" = some m.cls := findClass_of_methodNamed Bd.named
  have hlocks := Bd.notSynchronized
  have htb := vx_table (x := y_Lw_makeKey) Bd (hts _ List.mem_cons_self)
  subst hsz
  have hD := hD0.self (sz := s.heap.size)
  generalize hAe : va_A (jw_ws out cJ 1 of ++ (bb_ws b0 bd0 pr0 t0 au0 da .null)) s.heap.size = A at hD hZx ⊢
  have hA : ∀ q : Nat, s.heap.size ≤ q → A q := fun q h => by rw [← hAe]; exact Or.inr h
  have hS : va_S A s.heap s.heap [] := va_S.rf
  have hl := lv_entry ([.ref b0, .int x1, .long x2, .long x3, .ref out]) (n := 8) (Nat.le_of_ble_eq_true rfl)
  rw [lg_entry_eq]
  generalize (lg_sl ([.ref b0, .int x1, .long x2, .long x3, .ref out]) ++ List.replicate (8 - (lg_sl ([.ref b0, .int x1, .long x2, .long x3, .ref out])).length) Slot.unset).toArray = ls at hl ⊢
  have hl : lv_has ls 8 [(0, .ref b0), (1, .int x1), (2, .long x2), (4, .long x3), (6, .ref out)] := hl
  refine lv_aload hx hb d_Lw_makeKey_0 (lv_at hl 4 rfl) ?_
  refine lv_iconst (v := 0) hx hb d_Lw_makeKey_2 (by decide) ?_
  refine lv_aload_n hx hb d_Lw_makeKey_3 rfl (lv_at hl 0 rfl) ?_
  refine lv_iload_n hx hb d_Lw_makeKey_4 rfl (lv_at hl 1 rfl) ?_
  refine lv_lload_n hx hb d_Lw_makeKey_5 rfl (lv_at hl 2 rfl) ?_
  refine lv_lload hx hb d_Lw_makeKey_6 (lv_at hl 3 rfl) ?_
  have hPc := hP.sub (ws' := (bb_ws b0 bd0 pr0 t0 au0 da .null)) [1] rfl
  have hKc := hK.sub (tys' := [(cJ, .long), (cI, .int), (cR, .array .long)]) [0, 1, 2] rfl
  have hZc : xz (fun _ => False) s s.heap := (hZx.kept hS.2.1).narrow (fun q h => h.elim)
  refine vx_calli (vx_runV (As := [.int x1, .long x2, .long x3]) (rest := [.int 0, .ref out]) ⟨hx, hb, hml, hown, hts⟩ (c_BB_makeKey_n l hnt s.heap dC dI cJ cI cR b0 bd0 pr0 t0 au0 da x1 x2 x3 hPc) (cwV 3 hts (gw_V gk_602 gk_603 gk_604 gk_1 gk_605) rfl rfl rfl (by decide +kernel) ⟨(Nat.le_of_ble_eq_true rfl), (Nat.le_of_ble_eq_true rfl)⟩) ⟨fun a U g mk q => ⟨q.1, q.2.1, va_K.moved (u := U) (U := U.calling g mk a) (Vm.Alike.refl U.vm) q.2.2.1, xz.same (u := U) (U := U.calling g mk a) rfl q.2.2.2⟩, va_recv hK hP (ci := 7) (q0 := 1) rfl rfl, fun U hU hW => ⟨rfl, hU, va_K.moved hW.alike hKc, by rw [hU]; exact xz.warm hW hZc⟩⟩ rfl rfl hl.1 rfl (lv_room (Nat.le_of_ble_eq_true rfl)) d_Lw_makeKey_8 ⟨(Nat.le_of_ble_eq_true rfl), (Nat.le_of_ble_eq_true rfl)⟩) hS (fun q _ h => h.elim) (fun q h => h.elim) (fun q _ h => h.elim) (fun E9 ce9 q9 u8 t9 H1 locs ht hvm hpx hbx hz1 hk1 hS hce hcv hcl => ?_) (fun r_1 u9 t9 H1 locs ht hvm hw hB hz1 hk1 hS => ?_)
  · obtain ⟨rfl, _⟩ : E9 = eS ∧ True := ⟨hbx, trivial⟩
    have hP : va_P (dC, dI) classes [(out, .inl (cJ, 1, .inr (.inl of))), (b0, .inr (7, [.ref bd0, .ref pr0, .ref t0, .ref au0, .ref da, .null]))] H1 := hP.kept (fun k9 x9 h9 => hk1 x9.1 ((hP k9 x9 h9).lt) (fun h => h))
    refine vx_catch (own := "BallotBoardLaw") (name := eS) hown [] ⟨0, 13, 16, 19⟩ [⟨0, 13, 20, 13⟩] htb (fun z hz => absurd hz List.not_mem_nil) (by decide) (by decide) (hts _ (List.mem_cons_of_mem _ gk_370)) (hZx.cast xB_S) hce hcv hcl ?_
    generalize H1 = H at hP hS ⊢
    refine lv_astore (lv' := [(7, .ref q9), (0, .ref b0), (1, .int x1), (2, .long x2), (4, .long x3), (6, .ref out)]) hx hb d_Lw_makeKey_16 hl (by decide) rfl (fun ls hl => ?_)
    refine lv_iconst (v := 1) hx hb d_Lw_makeKey_18 (by decide) ?_
    refine W.widen (k := 8) (n := 48) (by decide) (by decide) ?_
    refine vx_ret ?_
    exact W.iret (v := 1) hx hb hr (fun t ht9 hW => ⟨⟨_, (), rfl, rfl, by rw [ht9]; exact hP, va_K.moved hW.alike hK, hD⟩, hS.F ht9⟩) hS.2.2 d_Lw_makeKey_19
  obtain rfl : s.heap = H1 := hB.symm.trans ht
  have hw8 := hw
  have hw : False := hw
  exact hw.elim
set_option maxHeartbeats 8000000 in
set_option maxRecDepth 100000 in
theorem c_Lw_ballot_n (l : Launch) (hnt : l.stackTraces = false) (dC : Nat → ClassId) (dI : Nat → Nat → Nat) (cJ cI cR : ClassId) (sz : Nat) (b0 bd0 pr0 t0 au0 da : Nat) (x1 : Int32) (x2 : Int64) (x3 : Int64) (x4 : Int64) (x5 : Int64) (x6 : Int64) (x7 : Int64) (out : Nat) (of : Nat → Int64)  : vx_Met l y_Lw_ballot w_Lw_ballot ({ frames := 11, cells := 8, slots := 48, locals := 195 }) (va_Pc [.ref b0, .int x1, .long x2, .long x3, .long x4, .long x5, .long x6, .long x7, .ref out] (fun U => U.heap.size = sz ∧ va_P (dC, dI) classes (jw_ws out cJ 1 of ++ (bb_ws b0 bd0 pr0 t0 au0 da .null)) U.heap ∧ va_K (dC, dI) classes [(cJ, .long), (cI, .int), (cR, .array .long)] U ∧ va_D (fun _ => True) (jw_ws out cJ 1 of ++ (bb_ws b0 bd0 pr0 t0 au0 da .null)) ∧ xz (va_A (jw_ws out cJ 1 of ++ (bb_ws b0 bd0 pr0 t0 au0 da .null)) sz) U U.heap ∧ nc_Z U)) (va_Qi (fun (r : Int32) (_ : Unit) => r = 1) (fun _ t => va_P (dC, dI) classes (jw_ws out cJ 1 of ++ (bb_ws b0 bd0 pr0 t0 au0 da .null)) t.heap ∧ va_K (dC, dI) classes [(cJ, .long), (cI, .int), (cR, .array .long)] t ∧ va_D (va_A (jw_ws out cJ 1 of ++ (bb_ws b0 bd0 pr0 t0 au0 da .null)) sz) (jw_ws out cJ 1 of ++ (bb_ws b0 bd0 pr0 t0 au0 da .null))) (va_A (jw_ws out cJ 1 of ++ (bb_ws b0 bd0 pr0 t0 au0 da .null)) sz)) (vx_X (fun _ : Unit => False) (fun _ _ _ => True) (va_A (jw_ws out cJ 1 of ++ (bb_ws b0 bd0 pr0 t0 au0 da .null)) sz)) 8 48 (va_A (jw_ws out cJ 1 of ++ (bb_ws b0 bd0 pr0 t0 au0 da .null)) sz) := by
  refine vx_ofWH (cc := b_Lw_ballot) (maxL := 16) (ret := (some .int)) (hh := h_Lw_ballot) (by decide) rfl ?_
  intro p e s m args below meth c s₁ Bd hml hv
  obtain ⟨rfl, hsz, hP, hK, hD0, hZx, hZn⟩ := hv
  have hx := Bd.exec
  have hb := Bd.bytes
  have hr := Bd.returns
  have hts := atoms_spec (ws := w_Lw_ballot) Bd.pre
  have hown : s.vm.findClass "BallotBoardLaw" = some m.cls := findClass_of_methodNamed Bd.named
  have hlocks := Bd.notSynchronized
  have htb := vx_table (x := y_Lw_ballot) Bd (hts _ List.mem_cons_self)
  subst hsz
  have hD := hD0.self (sz := s.heap.size)
  generalize hAe : va_A (jw_ws out cJ 1 of ++ (bb_ws b0 bd0 pr0 t0 au0 da .null)) s.heap.size = A at hD hZx ⊢
  have hA : ∀ q : Nat, s.heap.size ≤ q → A q := fun q h => by rw [← hAe]; exact Or.inr h
  have hS : va_S A s.heap s.heap [] := va_S.rf
  have hl := lv_entry ([.ref b0, .int x1, .long x2, .long x3, .long x4, .long x5, .long x6, .long x7, .ref out]) (n := 16) (Nat.le_of_ble_eq_true rfl)
  rw [lg_entry_eq]
  generalize (lg_sl ([.ref b0, .int x1, .long x2, .long x3, .long x4, .long x5, .long x6, .long x7, .ref out]) ++ List.replicate (16 - (lg_sl ([.ref b0, .int x1, .long x2, .long x3, .long x4, .long x5, .long x6, .long x7, .ref out])).length) Slot.unset).toArray = ls at hl ⊢
  have hl : lv_has ls 16 [(0, .ref b0), (1, .int x1), (2, .long x2), (4, .long x3), (6, .long x4), (8, .long x5), (10, .long x6), (12, .long x7), (14, .ref out)] := hl
  refine lv_aload hx hb d_Lw_ballot_0 (lv_at hl 8 rfl) ?_
  refine lv_iconst (v := 0) hx hb d_Lw_ballot_2 (by decide) ?_
  refine lv_aload_n hx hb d_Lw_ballot_3 rfl (lv_at hl 0 rfl) ?_
  refine lv_iload_n hx hb d_Lw_ballot_4 rfl (lv_at hl 1 rfl) ?_
  refine lv_lload_n hx hb d_Lw_ballot_5 rfl (lv_at hl 2 rfl) ?_
  refine lv_lload hx hb d_Lw_ballot_6 (lv_at hl 3 rfl) ?_
  refine lv_lload hx hb d_Lw_ballot_8 (lv_at hl 4 rfl) ?_
  refine lv_lload hx hb d_Lw_ballot_10 (lv_at hl 5 rfl) ?_
  refine lv_lload hx hb d_Lw_ballot_12 (lv_at hl 6 rfl) ?_
  refine lv_lload hx hb d_Lw_ballot_14 (lv_at hl 7 rfl) ?_
  have hPc := hP.sub (ws' := (bb_ws b0 bd0 pr0 t0 au0 da .null)) [1] rfl
  have hKc := hK.sub (tys' := [(cJ, .long), (cI, .int), (cR, .array .long)]) [0, 1, 2] rfl
  have hZc : xz (fun _ => False) s s.heap := (hZx.kept hS.2.1).narrow (fun q h => h.elim)
  refine vx_calli (vx_runV (As := [.int x1, .long x2, .long x3, .long x4, .long x5, .long x6, .long x7]) (rest := [.int 0, .ref out]) ⟨hx, hb, hml, hown, hts⟩ (c_BB_ballot_n l hnt s.heap dC dI cJ cI cR b0 bd0 pr0 t0 au0 da x1 x2 x3 x4 x5 x6 x7 hPc) (cwV 7 hts (gw_V gk_628 gk_629 gk_630 gk_1 gk_631) rfl rfl rfl (by decide +kernel) ⟨(Nat.le_of_ble_eq_true rfl), (Nat.le_of_ble_eq_true rfl)⟩) ⟨fun a U g mk q => ⟨q.1, q.2.1, va_K.moved (u := U) (U := U.calling g mk a) (Vm.Alike.refl U.vm) q.2.2.1, xz.same (u := U) (U := U.calling g mk a) rfl q.2.2.2⟩, va_recv hK hP (ci := 7) (q0 := 1) rfl rfl, fun U hU hW => ⟨rfl, hU, va_K.moved hW.alike hKc, by rw [hU]; exact xz.warm hW hZc⟩⟩ rfl rfl hl.1 rfl (lv_room (Nat.le_of_ble_eq_true rfl)) d_Lw_ballot_16 ⟨(Nat.le_of_ble_eq_true rfl), (Nat.le_of_ble_eq_true rfl)⟩) hS (fun q _ h => h.elim) (fun q h => h.elim) (fun q _ h => h.elim) (fun E9 ce9 q9 u8 t9 H1 locs ht hvm hpx hbx hz1 hk1 hS hce hcv hcl => ?_) (fun r_1 u9 t9 H1 locs ht hvm hw hB hz1 hk1 hS => ?_)
  · obtain ⟨rfl, _⟩ : E9 = eS ∧ True := ⟨hbx, trivial⟩
    have hP : va_P (dC, dI) classes [(out, .inl (cJ, 1, .inr (.inl of))), (b0, .inr (7, [.ref bd0, .ref pr0, .ref t0, .ref au0, .ref da, .null]))] H1 := hP.kept (fun k9 x9 h9 => hk1 x9.1 ((hP k9 x9 h9).lt) (fun h => h))
    refine vx_catch (own := "BallotBoardLaw") (name := eS) hown [] ⟨0, 21, 24, 19⟩ [⟨0, 21, 28, 29⟩, ⟨0, 21, 32, 13⟩] htb (fun z hz => absurd hz List.not_mem_nil) (by decide) (by decide) (hts _ (List.mem_cons_of_mem _ gk_370)) (hZx.cast xB_S) hce hcv hcl ?_
    generalize H1 = H at hP hS ⊢
    refine lv_astore (lv' := [(15, .ref q9), (0, .ref b0), (1, .int x1), (2, .long x2), (4, .long x3), (6, .long x4), (8, .long x5), (10, .long x6), (12, .long x7), (14, .ref out)]) hx hb d_Lw_ballot_24 hl (by decide) rfl (fun ls hl => ?_)
    refine lv_iconst (v := 1) hx hb d_Lw_ballot_26 (by decide) ?_
    refine W.widen (k := 8) (n := 48) (by decide) (by decide) ?_
    refine vx_ret ?_
    exact W.iret (v := 1) hx hb hr (fun t ht9 hW => ⟨⟨_, (), rfl, rfl, by rw [ht9]; exact hP, va_K.moved hW.alike hK, hD⟩, hS.F ht9⟩) hS.2.2 d_Lw_ballot_27
  obtain rfl : s.heap = H1 := hB.symm.trans ht
  have hw16 := hw
  have hw : False := hw
  exact hw.elim
set_option maxHeartbeats 8000000 in
set_option maxRecDepth 100000 in
theorem c_Lw_makeBallot_n (l : Launch) (hnt : l.stackTraces = false) (dC : Nat → ClassId) (dI : Nat → Nat → Nat) (cJ cI cR : ClassId) (sz : Nat) (b0 bd0 pr0 t0 au0 da : Nat) (x1 : Int32) (x2 : Int32) (x3 : Int64) (x4 : Int64) (x5 : Int64) (x6 : Int64) (out : Nat) (of : Nat → Int64)  : vx_Met l y_Lw_makeBallot w_Lw_makeBallot ({ frames := 11, cells := 8, slots := 48, locals := 192 }) (va_Pc [.ref b0, .int x1, .int x2, .long x3, .long x4, .long x5, .long x6, .ref out] (fun U => U.heap.size = sz ∧ va_P (dC, dI) classes (jw_ws out cJ 1 of ++ (bb_ws b0 bd0 pr0 t0 au0 da .null)) U.heap ∧ va_K (dC, dI) classes [(cJ, .long), (cI, .int), (cR, .array .long)] U ∧ va_D (fun _ => True) (jw_ws out cJ 1 of ++ (bb_ws b0 bd0 pr0 t0 au0 da .null)) ∧ xz (va_A (jw_ws out cJ 1 of ++ (bb_ws b0 bd0 pr0 t0 au0 da .null)) sz) U U.heap ∧ nc_Z U)) (va_Qi (fun (r : Int32) (_ : Unit) => r = 1) (fun _ t => va_P (dC, dI) classes (jw_ws out cJ 1 of ++ (bb_ws b0 bd0 pr0 t0 au0 da .null)) t.heap ∧ va_K (dC, dI) classes [(cJ, .long), (cI, .int), (cR, .array .long)] t ∧ va_D (va_A (jw_ws out cJ 1 of ++ (bb_ws b0 bd0 pr0 t0 au0 da .null)) sz) (jw_ws out cJ 1 of ++ (bb_ws b0 bd0 pr0 t0 au0 da .null))) (va_A (jw_ws out cJ 1 of ++ (bb_ws b0 bd0 pr0 t0 au0 da .null)) sz)) (vx_X (fun _ : Unit => False) (fun _ _ _ => True) (va_A (jw_ws out cJ 1 of ++ (bb_ws b0 bd0 pr0 t0 au0 da .null)) sz)) 8 48 (va_A (jw_ws out cJ 1 of ++ (bb_ws b0 bd0 pr0 t0 au0 da .null)) sz) := by
  refine vx_ofWH (cc := b_Lw_makeBallot) (maxL := 13) (ret := (some .int)) (hh := h_Lw_makeBallot) (by decide) rfl ?_
  intro p e s m args below meth c s₁ Bd hml hv
  obtain ⟨rfl, hsz, hP, hK, hD0, hZx, hZn⟩ := hv
  have hx := Bd.exec
  have hb := Bd.bytes
  have hr := Bd.returns
  have hts := atoms_spec (ws := w_Lw_makeBallot) Bd.pre
  have hown : s.vm.findClass "BallotBoardLaw" = some m.cls := findClass_of_methodNamed Bd.named
  have hlocks := Bd.notSynchronized
  have htb := vx_table (x := y_Lw_makeBallot) Bd (hts _ List.mem_cons_self)
  subst hsz
  have hD := hD0.self (sz := s.heap.size)
  generalize hAe : va_A (jw_ws out cJ 1 of ++ (bb_ws b0 bd0 pr0 t0 au0 da .null)) s.heap.size = A at hD hZx ⊢
  have hA : ∀ q : Nat, s.heap.size ≤ q → A q := fun q h => by rw [← hAe]; exact Or.inr h
  have hS : va_S A s.heap s.heap [] := va_S.rf
  have hl := lv_entry ([.ref b0, .int x1, .int x2, .long x3, .long x4, .long x5, .long x6, .ref out]) (n := 13) (Nat.le_of_ble_eq_true rfl)
  rw [lg_entry_eq]
  generalize (lg_sl ([.ref b0, .int x1, .int x2, .long x3, .long x4, .long x5, .long x6, .ref out]) ++ List.replicate (13 - (lg_sl ([.ref b0, .int x1, .int x2, .long x3, .long x4, .long x5, .long x6, .ref out])).length) Slot.unset).toArray = ls at hl ⊢
  have hl : lv_has ls 13 [(0, .ref b0), (1, .int x1), (2, .int x2), (3, .long x3), (5, .long x4), (7, .long x5), (9, .long x6), (11, .ref out)] := hl
  refine lv_aload hx hb d_Lw_makeBallot_0 (lv_at hl 7 rfl) ?_
  refine lv_iconst (v := 0) hx hb d_Lw_makeBallot_2 (by decide) ?_
  refine lv_aload_n hx hb d_Lw_makeBallot_3 rfl (lv_at hl 0 rfl) ?_
  refine lv_iload_n hx hb d_Lw_makeBallot_4 rfl (lv_at hl 1 rfl) ?_
  refine lv_iload_n hx hb d_Lw_makeBallot_5 rfl (lv_at hl 2 rfl) ?_
  refine lv_lload_n hx hb d_Lw_makeBallot_6 rfl (lv_at hl 3 rfl) ?_
  refine lv_lload hx hb d_Lw_makeBallot_7 (lv_at hl 4 rfl) ?_
  refine lv_lload hx hb d_Lw_makeBallot_9 (lv_at hl 5 rfl) ?_
  refine lv_lload hx hb d_Lw_makeBallot_11 (lv_at hl 6 rfl) ?_
  have hPc := hP.sub (ws' := (bb_ws b0 bd0 pr0 t0 au0 da .null)) [1] rfl
  have hKc := hK.sub (tys' := [(cJ, .long), (cI, .int), (cR, .array .long)]) [0, 1, 2] rfl
  have hZc : xz (fun _ => False) s s.heap := (hZx.kept hS.2.1).narrow (fun q h => h.elim)
  refine vx_calli (vx_runV (As := [.int x1, .int x2, .long x3, .long x4, .long x5, .long x6]) (rest := [.int 0, .ref out]) ⟨hx, hb, hml, hown, hts⟩ (c_BB_makeBallot_n l hnt s.heap dC dI cJ cI cR b0 bd0 pr0 t0 au0 da x1 x2 x3 x4 x5 x6 hPc) (cwV 6 hts (gw_V gk_670 gk_671 gk_672 gk_1 gk_673) rfl rfl rfl (by decide +kernel) ⟨(Nat.le_of_ble_eq_true rfl), (Nat.le_of_ble_eq_true rfl)⟩) ⟨fun a U g mk q => ⟨q.1, q.2.1, va_K.moved (u := U) (U := U.calling g mk a) (Vm.Alike.refl U.vm) q.2.2.1, xz.same (u := U) (U := U.calling g mk a) rfl q.2.2.2⟩, va_recv hK hP (ci := 7) (q0 := 1) rfl rfl, fun U hU hW => ⟨rfl, hU, va_K.moved hW.alike hKc, by rw [hU]; exact xz.warm hW hZc⟩⟩ rfl rfl hl.1 rfl (lv_room (Nat.le_of_ble_eq_true rfl)) d_Lw_makeBallot_13 ⟨(Nat.le_of_ble_eq_true rfl), (Nat.le_of_ble_eq_true rfl)⟩) hS (fun q _ h => h.elim) (fun q h => h.elim) (fun q _ h => h.elim) (fun E9 ce9 q9 u8 t9 H1 locs ht hvm hpx hbx hz1 hk1 hS hce hcv hcl => ?_) (fun r_1 u9 t9 H1 locs ht hvm hw hB hz1 hk1 hS => ?_)
  · obtain ⟨rfl, _⟩ : E9 = eS ∧ True := ⟨hbx, trivial⟩
    have hP : va_P (dC, dI) classes [(out, .inl (cJ, 1, .inr (.inl of))), (b0, .inr (7, [.ref bd0, .ref pr0, .ref t0, .ref au0, .ref da, .null]))] H1 := hP.kept (fun k9 x9 h9 => hk1 x9.1 ((hP k9 x9 h9).lt) (fun h => h))
    refine vx_catch (own := "BallotBoardLaw") (name := eS) hown [] ⟨0, 18, 21, 19⟩ [⟨0, 18, 25, 29⟩, ⟨0, 18, 29, 13⟩] htb (fun z hz => absurd hz List.not_mem_nil) (by decide) (by decide) (hts _ (List.mem_cons_of_mem _ gk_370)) (hZx.cast xB_S) hce hcv hcl ?_
    generalize H1 = H at hP hS ⊢
    refine lv_astore (lv' := [(12, .ref q9), (0, .ref b0), (1, .int x1), (2, .int x2), (3, .long x3), (5, .long x4), (7, .long x5), (9, .long x6), (11, .ref out)]) hx hb d_Lw_makeBallot_21 hl (by decide) rfl (fun ls hl => ?_)
    refine lv_iconst (v := 1) hx hb d_Lw_makeBallot_23 (by decide) ?_
    refine W.widen (k := 8) (n := 48) (by decide) (by decide) ?_
    refine vx_ret ?_
    exact W.iret (v := 1) hx hb hr (fun t ht9 hW => ⟨⟨_, (), rfl, rfl, by rw [ht9]; exact hP, va_K.moved hW.alike hK, hD⟩, hS.F ht9⟩) hS.2.2 d_Lw_makeBallot_24
  obtain rfl : s.heap = H1 := hB.symm.trans ht
  have hw13 := hw
  have hw : False := hw
  exact hw.elim
set_option maxHeartbeats 8000000 in
set_option maxRecDepth 100000 in
theorem c_Lw_close_n (l : Launch) (hnt : l.stackTraces = false) (dC : Nat → ClassId) (dI : Nat → Nat → Nat) (cJ cI cR : ClassId) (sz : Nat) (b0 bd0 pr0 t0 au0 da : Nat) (out : Nat) (of : Nat → Int64)  : vx_Met l y_Lw_close w_Lw_close ({ frames := 10, cells := 8, slots := 48, locals := 162 }) (va_Pc [.ref b0, .ref out] (fun U => U.heap.size = sz ∧ va_P (dC, dI) classes (jw_ws out cJ 1 of ++ (bb_ws b0 bd0 pr0 t0 au0 da .null)) U.heap ∧ va_K (dC, dI) classes [(cJ, .long), (cI, .int), (cR, .array .long)] U ∧ va_D (fun _ => True) (jw_ws out cJ 1 of ++ (bb_ws b0 bd0 pr0 t0 au0 da .null)) ∧ xz (va_A (jw_ws out cJ 1 of ++ (bb_ws b0 bd0 pr0 t0 au0 da .null)) sz) U U.heap ∧ nc_Z U)) (va_Qi (fun (r : Int32) (_ : Unit) => r = 1) (fun _ t => va_P (dC, dI) classes (jw_ws out cJ 1 of ++ (bb_ws b0 bd0 pr0 t0 au0 da .null)) t.heap ∧ va_K (dC, dI) classes [(cJ, .long), (cI, .int), (cR, .array .long)] t ∧ va_D (va_A (jw_ws out cJ 1 of ++ (bb_ws b0 bd0 pr0 t0 au0 da .null)) sz) (jw_ws out cJ 1 of ++ (bb_ws b0 bd0 pr0 t0 au0 da .null))) (va_A (jw_ws out cJ 1 of ++ (bb_ws b0 bd0 pr0 t0 au0 da .null)) sz)) (vx_X (fun _ : Unit => False) (fun _ _ _ => True) (va_A (jw_ws out cJ 1 of ++ (bb_ws b0 bd0 pr0 t0 au0 da .null)) sz)) 8 48 (va_A (jw_ws out cJ 1 of ++ (bb_ws b0 bd0 pr0 t0 au0 da .null)) sz) := by
  refine vx_ofWH (cc := b_Lw_close) (maxL := 3) (ret := (some .int)) (hh := h_Lw_close) (by decide) rfl ?_
  intro p e s m args below meth c s₁ Bd hml hv
  obtain ⟨rfl, hsz, hP, hK, hD0, hZx, hZn⟩ := hv
  have hx := Bd.exec
  have hb := Bd.bytes
  have hr := Bd.returns
  have hts := atoms_spec (ws := w_Lw_close) Bd.pre
  have hown : s.vm.findClass "BallotBoardLaw" = some m.cls := findClass_of_methodNamed Bd.named
  have hlocks := Bd.notSynchronized
  have htb := vx_table (x := y_Lw_close) Bd (hts _ List.mem_cons_self)
  subst hsz
  have hD := hD0.self (sz := s.heap.size)
  generalize hAe : va_A (jw_ws out cJ 1 of ++ (bb_ws b0 bd0 pr0 t0 au0 da .null)) s.heap.size = A at hD hZx ⊢
  have hA : ∀ q : Nat, s.heap.size ≤ q → A q := fun q h => by rw [← hAe]; exact Or.inr h
  have hS : va_S A s.heap s.heap [] := va_S.rf
  have hl := lv_entry ([.ref b0, .ref out]) (n := 3) (Nat.le_of_ble_eq_true rfl)
  rw [lg_entry_eq]
  generalize (lg_sl ([.ref b0, .ref out]) ++ List.replicate (3 - (lg_sl ([.ref b0, .ref out])).length) Slot.unset).toArray = ls at hl ⊢
  have hl : lv_has ls 3 [(0, .ref b0), (1, .ref out)] := hl
  refine lv_aload_n hx hb d_Lw_close_0 rfl (lv_at hl 1 rfl) ?_
  refine lv_iconst (v := 0) hx hb d_Lw_close_1 (by decide) ?_
  refine lv_aload_n hx hb d_Lw_close_2 rfl (lv_at hl 0 rfl) ?_
  have hPc := hP.sub (ws' := (bb_ws b0 bd0 pr0 t0 au0 da .null)) [1] rfl
  have hKc := hK.sub (tys' := [(cJ, .long), (cI, .int), (cR, .array .long)]) [0, 1, 2] rfl
  have hZc : xz (fun _ => False) s s.heap := (hZx.kept hS.2.1).narrow (fun q h => h.elim)
  refine vx_calli (vx_runV (As := []) (rest := [.int 0, .ref out]) ⟨hx, hb, hml, hown, hts⟩ (c_BB_close_n l hnt s.heap dC dI cJ cI cR b0 bd0 pr0 t0 au0 da  hPc) (cwV 0 hts (gw_V gk_690 gk_691 gk_692 gk_1 gk_693) rfl rfl rfl (by decide +kernel) ⟨(Nat.le_of_ble_eq_true rfl), (Nat.le_of_ble_eq_true rfl)⟩) ⟨fun a U g mk q => ⟨q.1, q.2.1, va_K.moved (u := U) (U := U.calling g mk a) (Vm.Alike.refl U.vm) q.2.2.1, xz.same (u := U) (U := U.calling g mk a) rfl q.2.2.2⟩, va_recv hK hP (ci := 7) (q0 := 1) rfl rfl, fun U hU hW => ⟨rfl, hU, va_K.moved hW.alike hKc, by rw [hU]; exact xz.warm hW hZc⟩⟩ rfl rfl hl.1 rfl (lv_room (Nat.le_of_ble_eq_true rfl)) d_Lw_close_3 ⟨(Nat.le_of_ble_eq_true rfl), (Nat.le_of_ble_eq_true rfl)⟩) hS (fun q _ h => h.elim) (fun q h => h.elim) (fun q _ h => h.elim) (fun E9 ce9 q9 u8 t9 H1 locs ht hvm hpx hbx hz1 hk1 hS hce hcv hcl => ?_) (fun r_1 u9 t9 H1 locs ht hvm hw hB hz1 hk1 hS => ?_)
  · obtain ⟨rfl, _⟩ : E9 = eS ∧ True := ⟨hbx, trivial⟩
    have hP : va_P (dC, dI) classes [(out, .inl (cJ, 1, .inr (.inl of))), (b0, .inr (7, [.ref bd0, .ref pr0, .ref t0, .ref au0, .ref da, .null]))] H1 := hP.kept (fun k9 x9 h9 => hk1 x9.1 ((hP k9 x9 h9).lt) (fun h => h))
    refine vx_catch (own := "BallotBoardLaw") (name := eS) hown [] ⟨0, 8, 11, 19⟩ [] htb (fun z hz => absurd hz List.not_mem_nil) (by decide) (by decide) (hts _ (List.mem_cons_of_mem _ gk_370)) (hZx.cast xB_S) hce hcv hcl ?_
    generalize H1 = H at hP hS ⊢
    refine lv_astore_n (lv' := [(2, .ref q9), (0, .ref b0), (1, .ref out)]) hx hb d_Lw_close_11 rfl hl (by decide) rfl (fun ls hl => ?_)
    refine lv_iconst (v := 1) hx hb d_Lw_close_12 (by decide) ?_
    refine W.widen (k := 8) (n := 48) (by decide) (by decide) ?_
    refine vx_ret ?_
    exact W.iret (v := 1) hx hb hr (fun t ht9 hW => ⟨⟨_, (), rfl, rfl, by rw [ht9]; exact hP, va_K.moved hW.alike hK, hD⟩, hS.F ht9⟩) hS.2.2 d_Lw_close_13
  obtain rfl : s.heap = H1 := hB.symm.trans ht
  have hw3 := hw
  have hw : False := hw
  exact hw.elim
set_option maxHeartbeats 8000000 in
set_option maxRecDepth 100000 in
theorem c_Lw_share_n (l : Launch) (hnt : l.stackTraces = false) (dC : Nat → ClassId) (dI : Nat → Nat → Nat) (cJ cI cR : ClassId) (sz : Nat) (b0 bd0 pr0 t0 au0 da : Nat) (x1 : Int32) (x2 : Int64) (x3 : Int64) (x4 : Int64) (out : Nat) (of : Nat → Int64)  : vx_Met l y_Lw_share w_Lw_share ({ frames := 9, cells := 8, slots := 48, locals := 150 }) (va_Pc [.ref b0, .int x1, .long x2, .long x3, .long x4, .ref out] (fun U => U.heap.size = sz ∧ va_P (dC, dI) classes (jw_ws out cJ 1 of ++ (bb_ws b0 bd0 pr0 t0 au0 da .null)) U.heap ∧ va_K (dC, dI) classes [(cJ, .long), (cI, .int), (cR, .array .long)] U ∧ va_D (fun _ => True) (jw_ws out cJ 1 of ++ (bb_ws b0 bd0 pr0 t0 au0 da .null)) ∧ xz (va_A (jw_ws out cJ 1 of ++ (bb_ws b0 bd0 pr0 t0 au0 da .null)) sz) U U.heap ∧ nc_Z U)) (va_Qi (fun (r : Int32) (_ : Unit) => r = 1) (fun _ t => va_P (dC, dI) classes (jw_ws out cJ 1 of ++ (bb_ws b0 bd0 pr0 t0 au0 da .null)) t.heap ∧ va_K (dC, dI) classes [(cJ, .long), (cI, .int), (cR, .array .long)] t ∧ va_D (va_A (jw_ws out cJ 1 of ++ (bb_ws b0 bd0 pr0 t0 au0 da .null)) sz) (jw_ws out cJ 1 of ++ (bb_ws b0 bd0 pr0 t0 au0 da .null))) (va_A (jw_ws out cJ 1 of ++ (bb_ws b0 bd0 pr0 t0 au0 da .null)) sz)) (vx_X (fun _ : Unit => False) (fun _ _ _ => True) (va_A (jw_ws out cJ 1 of ++ (bb_ws b0 bd0 pr0 t0 au0 da .null)) sz)) 8 48 (va_A (jw_ws out cJ 1 of ++ (bb_ws b0 bd0 pr0 t0 au0 da .null)) sz) := by
  refine vx_ofWH (cc := b_Lw_share) (maxL := 10) (ret := (some .int)) (hh := h_Lw_share) (by decide) rfl ?_
  intro p e s m args below meth c s₁ Bd hml hv
  obtain ⟨rfl, hsz, hP, hK, hD0, hZx, hZn⟩ := hv
  have hx := Bd.exec
  have hb := Bd.bytes
  have hr := Bd.returns
  have hts := atoms_spec (ws := w_Lw_share) Bd.pre
  have hown : s.vm.findClass "BallotBoardLaw" = some m.cls := findClass_of_methodNamed Bd.named
  have hlocks := Bd.notSynchronized
  have htb := vx_table (x := y_Lw_share) Bd (hts _ List.mem_cons_self)
  subst hsz
  have hD := hD0.self (sz := s.heap.size)
  generalize hAe : va_A (jw_ws out cJ 1 of ++ (bb_ws b0 bd0 pr0 t0 au0 da .null)) s.heap.size = A at hD hZx ⊢
  have hA : ∀ q : Nat, s.heap.size ≤ q → A q := fun q h => by rw [← hAe]; exact Or.inr h
  have hS : va_S A s.heap s.heap [] := va_S.rf
  have hl := lv_entry ([.ref b0, .int x1, .long x2, .long x3, .long x4, .ref out]) (n := 10) (Nat.le_of_ble_eq_true rfl)
  rw [lg_entry_eq]
  generalize (lg_sl ([.ref b0, .int x1, .long x2, .long x3, .long x4, .ref out]) ++ List.replicate (10 - (lg_sl ([.ref b0, .int x1, .long x2, .long x3, .long x4, .ref out])).length) Slot.unset).toArray = ls at hl ⊢
  have hl : lv_has ls 10 [(0, .ref b0), (1, .int x1), (2, .long x2), (4, .long x3), (6, .long x4), (8, .ref out)] := hl
  refine lv_aload hx hb d_Lw_share_0 (lv_at hl 5 rfl) ?_
  refine lv_iconst (v := 0) hx hb d_Lw_share_2 (by decide) ?_
  refine lv_aload_n hx hb d_Lw_share_3 rfl (lv_at hl 0 rfl) ?_
  refine lv_iload_n hx hb d_Lw_share_4 rfl (lv_at hl 1 rfl) ?_
  refine lv_lload_n hx hb d_Lw_share_5 rfl (lv_at hl 2 rfl) ?_
  refine lv_lload hx hb d_Lw_share_6 (lv_at hl 3 rfl) ?_
  refine lv_lload hx hb d_Lw_share_8 (lv_at hl 4 rfl) ?_
  have hPc := hP.sub (ws' := (bb_ws b0 bd0 pr0 t0 au0 da .null)) [1] rfl
  have hKc := hK.sub (tys' := [(cJ, .long), (cI, .int), (cR, .array .long)]) [0, 1, 2] rfl
  have hZc : xz (fun _ => False) s s.heap := (hZx.kept hS.2.1).narrow (fun q h => h.elim)
  refine vx_calli (vx_runV (As := [.int x1, .long x2, .long x3, .long x4]) (rest := [.int 0, .ref out]) ⟨hx, hb, hml, hown, hts⟩ (c_BB_share_n l hnt s.heap dC dI cJ cI cR b0 bd0 pr0 t0 au0 da x1 x2 x3 x4 hPc) (cwV 4 hts (gw_V gk_705 gk_706 gk_707 gk_1 gk_708) rfl rfl rfl (by decide +kernel) ⟨(Nat.le_of_ble_eq_true rfl), (Nat.le_of_ble_eq_true rfl)⟩) ⟨fun a U g mk q => ⟨q.1, q.2.1, va_K.moved (u := U) (U := U.calling g mk a) (Vm.Alike.refl U.vm) q.2.2.1, xz.same (u := U) (U := U.calling g mk a) rfl q.2.2.2⟩, va_recv hK hP (ci := 7) (q0 := 1) rfl rfl, fun U hU hW => ⟨rfl, hU, va_K.moved hW.alike hKc, by rw [hU]; exact xz.warm hW hZc⟩⟩ rfl rfl hl.1 rfl (lv_room (Nat.le_of_ble_eq_true rfl)) d_Lw_share_10 ⟨(Nat.le_of_ble_eq_true rfl), (Nat.le_of_ble_eq_true rfl)⟩) hS (fun q _ h => h.elim) (fun q h => h.elim) (fun q _ h => h.elim) (fun E9 ce9 q9 u8 t9 H1 locs ht hvm hpx hbx hz1 hk1 hS hce hcv hcl => ?_) (fun r_1 u9 t9 H1 locs ht hvm hw hB hz1 hk1 hS => ?_)
  · obtain ⟨rfl, _⟩ : E9 = eS ∧ True := ⟨hbx, trivial⟩
    have hP : va_P (dC, dI) classes [(out, .inl (cJ, 1, .inr (.inl of))), (b0, .inr (7, [.ref bd0, .ref pr0, .ref t0, .ref au0, .ref da, .null]))] H1 := hP.kept (fun k9 x9 h9 => hk1 x9.1 ((hP k9 x9 h9).lt) (fun h => h))
    refine vx_catch (own := "BallotBoardLaw") (name := eS) hown [] ⟨0, 15, 18, 19⟩ [⟨0, 15, 22, 13⟩] htb (fun z hz => absurd hz List.not_mem_nil) (by decide) (by decide) (hts _ (List.mem_cons_of_mem _ gk_370)) (hZx.cast xB_S) hce hcv hcl ?_
    generalize H1 = H at hP hS ⊢
    refine lv_astore (lv' := [(9, .ref q9), (0, .ref b0), (1, .int x1), (2, .long x2), (4, .long x3), (6, .long x4), (8, .ref out)]) hx hb d_Lw_share_18 hl (by decide) rfl (fun ls hl => ?_)
    refine lv_iconst (v := 1) hx hb d_Lw_share_20 (by decide) ?_
    refine W.widen (k := 8) (n := 48) (by decide) (by decide) ?_
    refine vx_ret ?_
    exact W.iret (v := 1) hx hb hr (fun t ht9 hW => ⟨⟨_, (), rfl, rfl, by rw [ht9]; exact hP, va_K.moved hW.alike hK, hD⟩, hS.F ht9⟩) hS.2.2 d_Lw_share_21
  obtain rfl : s.heap = H1 := hB.symm.trans ht
  have hw10 := hw
  have hw : False := hw
  exact hw.elim
set_option maxHeartbeats 8000000 in
set_option maxRecDepth 100000 in
theorem c_Lw_makeShare_n (l : Launch) (hnt : l.stackTraces = false) (dC : Nat → ClassId) (dI : Nat → Nat → Nat) (cJ cI cR : ClassId) (sz : Nat) (b0 bd0 pr0 t0 au0 da : Nat) (x1 : Int32) (x2 : Int64) (x3 : Int64) (out : Nat) (of : Nat → Int64)  : vx_Met l y_Lw_makeShare w_Lw_makeShare ({ frames := 9, cells := 8, slots := 48, locals := 148 }) (va_Pc [.ref b0, .int x1, .long x2, .long x3, .ref out] (fun U => U.heap.size = sz ∧ va_P (dC, dI) classes (jw_ws out cJ 1 of ++ (bb_ws b0 bd0 pr0 t0 au0 da .null)) U.heap ∧ va_K (dC, dI) classes [(cJ, .long), (cI, .int), (cR, .array .long)] U ∧ va_D (fun _ => True) (jw_ws out cJ 1 of ++ (bb_ws b0 bd0 pr0 t0 au0 da .null)) ∧ xz (va_A (jw_ws out cJ 1 of ++ (bb_ws b0 bd0 pr0 t0 au0 da .null)) sz) U U.heap ∧ nc_Z U)) (va_Qi (fun (r : Int32) (_ : Unit) => r = 1) (fun _ t => va_P (dC, dI) classes (jw_ws out cJ 1 of ++ (bb_ws b0 bd0 pr0 t0 au0 da .null)) t.heap ∧ va_K (dC, dI) classes [(cJ, .long), (cI, .int), (cR, .array .long)] t ∧ va_D (va_A (jw_ws out cJ 1 of ++ (bb_ws b0 bd0 pr0 t0 au0 da .null)) sz) (jw_ws out cJ 1 of ++ (bb_ws b0 bd0 pr0 t0 au0 da .null))) (va_A (jw_ws out cJ 1 of ++ (bb_ws b0 bd0 pr0 t0 au0 da .null)) sz)) (vx_X (fun _ : Unit => False) (fun _ _ _ => True) (va_A (jw_ws out cJ 1 of ++ (bb_ws b0 bd0 pr0 t0 au0 da .null)) sz)) 8 48 (va_A (jw_ws out cJ 1 of ++ (bb_ws b0 bd0 pr0 t0 au0 da .null)) sz) := by
  refine vx_ofWH (cc := b_Lw_makeShare) (maxL := 8) (ret := (some .int)) (hh := h_Lw_makeShare) (by decide) rfl ?_
  intro p e s m args below meth c s₁ Bd hml hv
  obtain ⟨rfl, hsz, hP, hK, hD0, hZx, hZn⟩ := hv
  have hx := Bd.exec
  have hb := Bd.bytes
  have hr := Bd.returns
  have hts := atoms_spec (ws := w_Lw_makeShare) Bd.pre
  have hown : s.vm.findClass "BallotBoardLaw" = some m.cls := findClass_of_methodNamed Bd.named
  have hlocks := Bd.notSynchronized
  have htb := vx_table (x := y_Lw_makeShare) Bd (hts _ List.mem_cons_self)
  subst hsz
  have hD := hD0.self (sz := s.heap.size)
  generalize hAe : va_A (jw_ws out cJ 1 of ++ (bb_ws b0 bd0 pr0 t0 au0 da .null)) s.heap.size = A at hD hZx ⊢
  have hA : ∀ q : Nat, s.heap.size ≤ q → A q := fun q h => by rw [← hAe]; exact Or.inr h
  have hS : va_S A s.heap s.heap [] := va_S.rf
  have hl := lv_entry ([.ref b0, .int x1, .long x2, .long x3, .ref out]) (n := 8) (Nat.le_of_ble_eq_true rfl)
  rw [lg_entry_eq]
  generalize (lg_sl ([.ref b0, .int x1, .long x2, .long x3, .ref out]) ++ List.replicate (8 - (lg_sl ([.ref b0, .int x1, .long x2, .long x3, .ref out])).length) Slot.unset).toArray = ls at hl ⊢
  have hl : lv_has ls 8 [(0, .ref b0), (1, .int x1), (2, .long x2), (4, .long x3), (6, .ref out)] := hl
  refine lv_aload hx hb d_Lw_makeShare_0 (lv_at hl 4 rfl) ?_
  refine lv_iconst (v := 0) hx hb d_Lw_makeShare_2 (by decide) ?_
  refine lv_aload_n hx hb d_Lw_makeShare_3 rfl (lv_at hl 0 rfl) ?_
  refine lv_iload_n hx hb d_Lw_makeShare_4 rfl (lv_at hl 1 rfl) ?_
  refine lv_lload_n hx hb d_Lw_makeShare_5 rfl (lv_at hl 2 rfl) ?_
  refine lv_lload hx hb d_Lw_makeShare_6 (lv_at hl 3 rfl) ?_
  have hPc := hP.sub (ws' := (bb_ws b0 bd0 pr0 t0 au0 da .null)) [1] rfl
  have hKc := hK.sub (tys' := [(cJ, .long), (cI, .int), (cR, .array .long)]) [0, 1, 2] rfl
  have hZc : xz (fun _ => False) s s.heap := (hZx.kept hS.2.1).narrow (fun q h => h.elim)
  refine vx_calli (vx_runV (As := [.int x1, .long x2, .long x3]) (rest := [.int 0, .ref out]) ⟨hx, hb, hml, hown, hts⟩ (c_BB_makeShare_n l hnt s.heap dC dI cJ cI cR b0 bd0 pr0 t0 au0 da x1 x2 x3 hPc) (cwV 3 hts (gw_V gk_726 gk_727 gk_728 gk_1 gk_729) rfl rfl rfl (by decide +kernel) ⟨(Nat.le_of_ble_eq_true rfl), (Nat.le_of_ble_eq_true rfl)⟩) ⟨fun a U g mk q => ⟨q.1, q.2.1, va_K.moved (u := U) (U := U.calling g mk a) (Vm.Alike.refl U.vm) q.2.2.1, xz.same (u := U) (U := U.calling g mk a) rfl q.2.2.2⟩, va_recv hK hP (ci := 7) (q0 := 1) rfl rfl, fun U hU hW => ⟨rfl, hU, va_K.moved hW.alike hKc, by rw [hU]; exact xz.warm hW hZc⟩⟩ rfl rfl hl.1 rfl (lv_room (Nat.le_of_ble_eq_true rfl)) d_Lw_makeShare_8 ⟨(Nat.le_of_ble_eq_true rfl), (Nat.le_of_ble_eq_true rfl)⟩) hS (fun q _ h => h.elim) (fun q h => h.elim) (fun q _ h => h.elim) (fun E9 ce9 q9 u8 t9 H1 locs ht hvm hpx hbx hz1 hk1 hS hce hcv hcl => ?_) (fun r_1 u9 t9 H1 locs ht hvm hw hB hz1 hk1 hS => ?_)
  · obtain ⟨rfl, _⟩ : E9 = eS ∧ True := ⟨hbx, trivial⟩
    have hP : va_P (dC, dI) classes [(out, .inl (cJ, 1, .inr (.inl of))), (b0, .inr (7, [.ref bd0, .ref pr0, .ref t0, .ref au0, .ref da, .null]))] H1 := hP.kept (fun k9 x9 h9 => hk1 x9.1 ((hP k9 x9 h9).lt) (fun h => h))
    refine vx_catch (own := "BallotBoardLaw") (name := eS) hown [] ⟨0, 13, 16, 19⟩ [⟨0, 13, 20, 13⟩] htb (fun z hz => absurd hz List.not_mem_nil) (by decide) (by decide) (hts _ (List.mem_cons_of_mem _ gk_370)) (hZx.cast xB_S) hce hcv hcl ?_
    generalize H1 = H at hP hS ⊢
    refine lv_astore (lv' := [(7, .ref q9), (0, .ref b0), (1, .int x1), (2, .long x2), (4, .long x3), (6, .ref out)]) hx hb d_Lw_makeShare_16 hl (by decide) rfl (fun ls hl => ?_)
    refine lv_iconst (v := 1) hx hb d_Lw_makeShare_18 (by decide) ?_
    refine W.widen (k := 8) (n := 48) (by decide) (by decide) ?_
    refine vx_ret ?_
    exact W.iret (v := 1) hx hb hr (fun t ht9 hW => ⟨⟨_, (), rfl, rfl, by rw [ht9]; exact hP, va_K.moved hW.alike hK, hD⟩, hS.F ht9⟩) hS.2.2 d_Lw_makeShare_19
  obtain rfl : s.heap = H1 := hB.symm.trans ht
  have hw8 := hw
  have hw : False := hw
  exact hw.elim
set_option maxHeartbeats 8000000 in
set_option maxRecDepth 100000 in
theorem c_Lw_result_n (l : Launch) (hnt : l.stackTraces = false) (dC : Nat → ClassId) (dI : Nat → Nat → Nat) (cJ cI cR : ClassId) (sz : Nat) (b0 bd0 pr0 t0 au0 da : Nat) (out : Nat) (of : Nat → Int64)  : vx_Met l y_Lw_result w_Lw_result ({ frames := 8, cells := 8, slots := 48, locals := 122 }) (va_Pc [.ref b0, .ref out] (fun U => U.heap.size = sz ∧ va_P (dC, dI) classes (jw_ws out cJ 1 of ++ (bb_ws b0 bd0 pr0 t0 au0 da .null)) U.heap ∧ va_K (dC, dI) classes [(cJ, .long), (cI, .int), (cR, .array .long)] U ∧ va_D (fun _ => True) (jw_ws out cJ 1 of ++ (bb_ws b0 bd0 pr0 t0 au0 da .null)) ∧ xz (va_A (jw_ws out cJ 1 of ++ (bb_ws b0 bd0 pr0 t0 au0 da .null)) sz) U U.heap ∧ nc_Z U)) (va_Qi (fun (r : Int32) (_ : Unit) => r = 1) (fun _ t => va_P (dC, dI) classes (jw_ws out cJ 1 of ++ (bb_ws b0 bd0 pr0 t0 au0 da .null)) t.heap ∧ va_K (dC, dI) classes [(cJ, .long), (cI, .int), (cR, .array .long)] t ∧ va_D (va_A (jw_ws out cJ 1 of ++ (bb_ws b0 bd0 pr0 t0 au0 da .null)) sz) (jw_ws out cJ 1 of ++ (bb_ws b0 bd0 pr0 t0 au0 da .null))) (va_A (jw_ws out cJ 1 of ++ (bb_ws b0 bd0 pr0 t0 au0 da .null)) sz)) (vx_X (fun _ : Unit => False) (fun _ _ _ => True) (va_A (jw_ws out cJ 1 of ++ (bb_ws b0 bd0 pr0 t0 au0 da .null)) sz)) 8 48 (va_A (jw_ws out cJ 1 of ++ (bb_ws b0 bd0 pr0 t0 au0 da .null)) sz) := by
  refine vx_ofWH (cc := b_Lw_result) (maxL := 3) (ret := (some .int)) (hh := h_Lw_result) (by decide) rfl ?_
  intro p e s m args below meth c s₁ Bd hml hv
  obtain ⟨rfl, hsz, hP, hK, hD0, hZx, hZn⟩ := hv
  have hx := Bd.exec
  have hb := Bd.bytes
  have hr := Bd.returns
  have hts := atoms_spec (ws := w_Lw_result) Bd.pre
  have hown : s.vm.findClass "BallotBoardLaw" = some m.cls := findClass_of_methodNamed Bd.named
  have hlocks := Bd.notSynchronized
  have htb := vx_table (x := y_Lw_result) Bd (hts _ List.mem_cons_self)
  subst hsz
  have hD := hD0.self (sz := s.heap.size)
  generalize hAe : va_A (jw_ws out cJ 1 of ++ (bb_ws b0 bd0 pr0 t0 au0 da .null)) s.heap.size = A at hD hZx ⊢
  have hA : ∀ q : Nat, s.heap.size ≤ q → A q := fun q h => by rw [← hAe]; exact Or.inr h
  have hS : va_S A s.heap s.heap [] := va_S.rf
  have hl := lv_entry ([.ref b0, .ref out]) (n := 3) (Nat.le_of_ble_eq_true rfl)
  rw [lg_entry_eq]
  generalize (lg_sl ([.ref b0, .ref out]) ++ List.replicate (3 - (lg_sl ([.ref b0, .ref out])).length) Slot.unset).toArray = ls at hl ⊢
  have hl : lv_has ls 3 [(0, .ref b0), (1, .ref out)] := hl
  refine lv_aload_n hx hb d_Lw_result_0 rfl (lv_at hl 1 rfl) ?_
  refine lv_iconst (v := 0) hx hb d_Lw_result_1 (by decide) ?_
  refine lv_aload_n hx hb d_Lw_result_2 rfl (lv_at hl 0 rfl) ?_
  have hPc := hP.sub (ws' := (bb_ws b0 bd0 pr0 t0 au0 da .null)) [1] rfl
  have hKc := hK.sub (tys' := [(cJ, .long), (cI, .int), (cR, .array .long)]) [0, 1, 2] rfl
  have hZc : xz (fun _ => False) s s.heap := (hZx.kept hS.2.1).narrow (fun q h => h.elim)
  refine vx_calli (vx_runV (As := []) (rest := [.int 0, .ref out]) ⟨hx, hb, hml, hown, hts⟩ (c_BB_result_n l hnt s.heap dC dI cJ cI cR b0 bd0 pr0 t0 au0 da  hPc) (cwV 0 hts (gw_V gk_737 gk_738 gk_739 gk_1 gk_740) rfl rfl rfl (by decide +kernel) ⟨(Nat.le_of_ble_eq_true rfl), (Nat.le_of_ble_eq_true rfl)⟩) ⟨fun a U g mk q => ⟨q.1, q.2.1, va_K.moved (u := U) (U := U.calling g mk a) (Vm.Alike.refl U.vm) q.2.2.1, xz.same (u := U) (U := U.calling g mk a) rfl q.2.2.2⟩, va_recv hK hP (ci := 7) (q0 := 1) rfl rfl, fun U hU hW => ⟨rfl, hU, va_K.moved hW.alike hKc, by rw [hU]; exact xz.warm hW hZc⟩⟩ rfl rfl hl.1 rfl (lv_room (Nat.le_of_ble_eq_true rfl)) d_Lw_result_3 ⟨(Nat.le_of_ble_eq_true rfl), (Nat.le_of_ble_eq_true rfl)⟩) hS (fun q _ h => h.elim) (fun q h => h.elim) (fun q _ h => h.elim) (fun E9 ce9 q9 u8 t9 H1 locs ht hvm hpx hbx hz1 hk1 hS hce hcv hcl => ?_) (fun r_1 u9 t9 H1 locs ht hvm hw hB hz1 hk1 hS => ?_)
  · obtain ⟨rfl, _⟩ : E9 = eS ∧ True := ⟨hbx, trivial⟩
    have hP : va_P (dC, dI) classes [(out, .inl (cJ, 1, .inr (.inl of))), (b0, .inr (7, [.ref bd0, .ref pr0, .ref t0, .ref au0, .ref da, .null]))] H1 := hP.kept (fun k9 x9 h9 => hk1 x9.1 ((hP k9 x9 h9).lt) (fun h => h))
    refine vx_catch (own := "BallotBoardLaw") (name := eS) hown [] ⟨0, 8, 11, 19⟩ [] htb (fun z hz => absurd hz List.not_mem_nil) (by decide) (by decide) (hts _ (List.mem_cons_of_mem _ gk_370)) (hZx.cast xB_S) hce hcv hcl ?_
    generalize H1 = H at hP hS ⊢
    refine lv_astore_n (lv' := [(2, .ref q9), (0, .ref b0), (1, .ref out)]) hx hb d_Lw_result_11 rfl hl (by decide) rfl (fun ls hl => ?_)
    refine lv_iconst (v := 1) hx hb d_Lw_result_12 (by decide) ?_
    refine W.widen (k := 8) (n := 48) (by decide) (by decide) ?_
    refine vx_ret ?_
    exact W.iret (v := 1) hx hb hr (fun t ht9 hW => ⟨⟨_, (), rfl, rfl, by rw [ht9]; exact hP, va_K.moved hW.alike hK, hD⟩, hS.F ht9⟩) hS.2.2 d_Lw_result_13
  obtain rfl : s.heap = H1 := hB.symm.trans ht
  have hw3 := hw
  have hw : False := hw
  exact hw.elim
set_option maxHeartbeats 8000000 in
set_option maxRecDepth 100000 in
theorem c_Lw_audit_n (l : Launch) (hnt : l.stackTraces = false) (dC : Nat → ClassId) (dI : Nat → Nat → Nat) (cJ cI cR : ClassId) (sz : Nat) (b0 bd0 pr0 t0 au0 da : Nat) (out : Nat) (of : Nat → Int64)  : vx_Met l y_Lw_audit w_Lw_audit ({ frames := 8, cells := 8, slots := 48, locals := 122 }) (va_Pc [.ref b0, .ref out] (fun U => U.heap.size = sz ∧ va_P (dC, dI) classes (jw_ws out cJ 1 of ++ (bb_ws b0 bd0 pr0 t0 au0 da .null)) U.heap ∧ va_K (dC, dI) classes [(cJ, .long), (cI, .int), (cR, .array .long)] U ∧ va_D (fun _ => True) (jw_ws out cJ 1 of ++ (bb_ws b0 bd0 pr0 t0 au0 da .null)) ∧ xz (va_A (jw_ws out cJ 1 of ++ (bb_ws b0 bd0 pr0 t0 au0 da .null)) sz) U U.heap ∧ nc_Z U)) (va_Qi (fun (r : Int32) (_ : Unit) => r = 1) (fun _ t => va_P (dC, dI) classes (jw_ws out cJ 1 of ++ (bb_ws b0 bd0 pr0 t0 au0 da .null)) t.heap ∧ va_K (dC, dI) classes [(cJ, .long), (cI, .int), (cR, .array .long)] t ∧ va_D (va_A (jw_ws out cJ 1 of ++ (bb_ws b0 bd0 pr0 t0 au0 da .null)) sz) (jw_ws out cJ 1 of ++ (bb_ws b0 bd0 pr0 t0 au0 da .null))) (va_A (jw_ws out cJ 1 of ++ (bb_ws b0 bd0 pr0 t0 au0 da .null)) sz)) (vx_X (fun _ : Unit => False) (fun _ _ _ => True) (va_A (jw_ws out cJ 1 of ++ (bb_ws b0 bd0 pr0 t0 au0 da .null)) sz)) 8 48 (va_A (jw_ws out cJ 1 of ++ (bb_ws b0 bd0 pr0 t0 au0 da .null)) sz) := by
  refine vx_ofWH (cc := b_Lw_audit) (maxL := 3) (ret := (some .int)) (hh := h_Lw_audit) (by decide) rfl ?_
  intro p e s m args below meth c s₁ Bd hml hv
  obtain ⟨rfl, hsz, hP, hK, hD0, hZx, hZn⟩ := hv
  have hx := Bd.exec
  have hb := Bd.bytes
  have hr := Bd.returns
  have hts := atoms_spec (ws := w_Lw_audit) Bd.pre
  have hown : s.vm.findClass "BallotBoardLaw" = some m.cls := findClass_of_methodNamed Bd.named
  have hlocks := Bd.notSynchronized
  have htb := vx_table (x := y_Lw_audit) Bd (hts _ List.mem_cons_self)
  subst hsz
  have hD := hD0.self (sz := s.heap.size)
  generalize hAe : va_A (jw_ws out cJ 1 of ++ (bb_ws b0 bd0 pr0 t0 au0 da .null)) s.heap.size = A at hD hZx ⊢
  have hA : ∀ q : Nat, s.heap.size ≤ q → A q := fun q h => by rw [← hAe]; exact Or.inr h
  have hS : va_S A s.heap s.heap [] := va_S.rf
  have hl := lv_entry ([.ref b0, .ref out]) (n := 3) (Nat.le_of_ble_eq_true rfl)
  rw [lg_entry_eq]
  generalize (lg_sl ([.ref b0, .ref out]) ++ List.replicate (3 - (lg_sl ([.ref b0, .ref out])).length) Slot.unset).toArray = ls at hl ⊢
  have hl : lv_has ls 3 [(0, .ref b0), (1, .ref out)] := hl
  refine lv_aload_n hx hb d_Lw_audit_0 rfl (lv_at hl 1 rfl) ?_
  refine lv_iconst (v := 0) hx hb d_Lw_audit_1 (by decide) ?_
  refine lv_aload_n hx hb d_Lw_audit_2 rfl (lv_at hl 0 rfl) ?_
  have hPc := hP.sub (ws' := (bb_ws b0 bd0 pr0 t0 au0 da .null)) [1] rfl
  have hKc := hK.sub (tys' := [(cJ, .long), (cI, .int), (cR, .array .long)]) [0, 1, 2] rfl
  have hZc : xz (fun _ => False) s s.heap := (hZx.kept hS.2.1).narrow (fun q h => h.elim)
  refine vx_calli (vx_runV (As := []) (rest := [.int 0, .ref out]) ⟨hx, hb, hml, hown, hts⟩ (c_BB_audit_n l hnt s.heap dC dI cJ cI cR b0 bd0 pr0 t0 au0 da  hPc) (cwV 0 hts (gw_V gk_790 gk_791 gk_792 gk_1 gk_793) rfl rfl rfl (by decide +kernel) ⟨(Nat.le_of_ble_eq_true rfl), (Nat.le_of_ble_eq_true rfl)⟩) ⟨fun a U g mk q => ⟨q.1, q.2.1, va_K.moved (u := U) (U := U.calling g mk a) (Vm.Alike.refl U.vm) q.2.2.1, xz.same (u := U) (U := U.calling g mk a) rfl q.2.2.2⟩, va_recv hK hP (ci := 7) (q0 := 1) rfl rfl, fun U hU hW => ⟨rfl, hU, va_K.moved hW.alike hKc, by rw [hU]; exact xz.warm hW hZc⟩⟩ rfl rfl hl.1 rfl (lv_room (Nat.le_of_ble_eq_true rfl)) d_Lw_audit_3 ⟨(Nat.le_of_ble_eq_true rfl), (Nat.le_of_ble_eq_true rfl)⟩) hS (fun q _ h => h.elim) (fun q h => h.elim) (fun q _ h => h.elim) (fun E9 ce9 q9 u8 t9 H1 locs ht hvm hpx hbx hz1 hk1 hS hce hcv hcl => ?_) (fun r_1 u9 t9 H1 locs ht hvm hw hB hz1 hk1 hS => ?_)
  · obtain ⟨rfl, _⟩ : E9 = eS ∧ True := ⟨hbx, trivial⟩
    have hP : va_P (dC, dI) classes [(out, .inl (cJ, 1, .inr (.inl of))), (b0, .inr (7, [.ref bd0, .ref pr0, .ref t0, .ref au0, .ref da, .null]))] H1 := hP.kept (fun k9 x9 h9 => hk1 x9.1 ((hP k9 x9 h9).lt) (fun h => h))
    refine vx_catch (own := "BallotBoardLaw") (name := eS) hown [] ⟨0, 8, 11, 19⟩ [] htb (fun z hz => absurd hz List.not_mem_nil) (by decide) (by decide) (hts _ (List.mem_cons_of_mem _ gk_370)) (hZx.cast xB_S) hce hcv hcl ?_
    generalize H1 = H at hP hS ⊢
    refine lv_astore_n (lv' := [(2, .ref q9), (0, .ref b0), (1, .ref out)]) hx hb d_Lw_audit_11 rfl hl (by decide) rfl (fun ls hl => ?_)
    refine lv_iconst (v := 1) hx hb d_Lw_audit_12 (by decide) ?_
    refine W.widen (k := 8) (n := 48) (by decide) (by decide) ?_
    refine vx_ret ?_
    exact W.iret (v := 1) hx hb hr (fun t ht9 hW => ⟨⟨_, (), rfl, rfl, by rw [ht9]; exact hP, va_K.moved hW.alike hK, hD⟩, hS.F ht9⟩) hS.2.2 d_Lw_audit_13
  obtain rfl : s.heap = H1 := hB.symm.trans ht
  have hw3 := hw
  have hw : False := hw
  exact hw.elim
