abbrev bb_ws (b0 bd0 pr0 t0 au0 da : Nat) (gv : Value) : va_W := [(b0, .inr (7, [.ref bd0, .ref pr0, .ref t0, .ref au0, .ref da, gv]))]
abbrev b_BB_expectGroup : ByteArray := prog_1_method_16_code
abbrev y_BB_expectGroup : MethodName := ⟨"BallotBoard", "expectGroup", "()V"⟩
abbrev w_BB_expectGroup : List Cond := .code y_BB_expectGroup b_BB_expectGroup 1 none :: gw
theorem d_BB_expectGroup_0 : decode b_BB_expectGroup 0 = .ok (.aload_n 0, 1) := by decide +kernel
theorem d_BB_expectGroup_1 : decode b_BB_expectGroup 1 = .ok (.getfield 48, 3) := by decide +kernel
theorem d_BB_expectGroup_4 : decode b_BB_expectGroup 4 = .ok (.ifnonnull 13, 3) := by decide +kernel
theorem d_BB_expectGroup_7 : decode b_BB_expectGroup 7 = .ok (.new 139, 3) := by decide +kernel
theorem d_BB_expectGroup_10 : decode b_BB_expectGroup 10 = .ok (.dup, 1) := by decide +kernel
theorem d_BB_expectGroup_11 : decode b_BB_expectGroup 11 = .ok (.ldc 206, 2) := by decide +kernel
theorem d_BB_expectGroup_13 : decode b_BB_expectGroup 13 = .ok (.invokespecial 143, 3) := by decide +kernel
theorem d_BB_expectGroup_16 : decode b_BB_expectGroup 16 = .ok (.athrow, 1) := by decide +kernel
theorem d_BB_expectGroup_17 : decode b_BB_expectGroup 17 = .ok (.return_, 1) := by decide +kernel
set_option maxHeartbeats 8000000 in
set_option maxRecDepth 100000 in
theorem c_BB_expectGroup_g (l : Launch) (hnt : l.stackTraces = false) (H0 : Heap) (dC : Nat → ClassId) (dI : Nat → Nat → Nat) (cJ cI cR : ClassId) (b0 bd0 pr0 t0 au0 da : Nat) (g0 : Nat) (hP : va_P (dC, dI) classes (bb_ws b0 bd0 pr0 t0 au0 da (.ref g0)) H0)  : vx_Met l y_BB_expectGroup w_BB_expectGroup ({ frames := 6, cells := 1, slots := 6, locals := 82 }) (va_Pc [.ref b0] (fun U => U.heap = H0 ∧ va_K (dC, dI) classes [(cJ, .long), (cI, .int), (cR, .array .long)] U ∧ xz (fun _ => False) U U.heap)) (va_Qv (fun _ : Unit => True) (fun _ t => t.heap = H0) (fun _ => False)) (vx_X (fun _ : Unit => True) (fun E _ _ => False) (fun _ => False)) 1 6 (fun _ => False) := by
  refine vx_ofW (cc := b_BB_expectGroup) (maxL := 1) (ret := none) (by decide) rfl ?_
  intro p e s m args below meth c s₁ Bd hml htab hv
  obtain ⟨rfl, hH, hK, hZx⟩ := hv
  have hx := Bd.exec
  have hb := Bd.bytes
  have hr := Bd.returns
  have hts := atoms_spec (ws := w_BB_expectGroup) Bd.pre
  have hown : s.vm.findClass "BallotBoard" = some m.cls := findClass_of_methodNamed Bd.named
  have hlocks := Bd.notSynchronized
  subst hH
  have hS : va_S (fun _ => False) s.heap s.heap [] := va_S.rf
  have hl := lv_entry ([.ref b0]) (n := 1) (Nat.le_of_ble_eq_true rfl)
  rw [lg_entry_eq]
  generalize (lg_sl ([.ref b0]) ++ List.replicate (1 - (lg_sl ([.ref b0])).length) Slot.unset).toArray = ls at hl ⊢
  have hl : lv_has ls 1 [(0, .ref b0)] := hl
  refine lv_aload_n hx hb d_BB_expectGroup_0 rfl (lv_at hl 0 rfl) ?_
  refine va_get (D := (dC, dI)) (ci := 7) (v := .ref g0) (C := "BallotBoard") (T := F_BB) (N := 6) hx hb hts (fun w9 h9 => List.mem_cons_of_mem _ (i_BB w9 h9)) hown hK hP 0 rfl rfl 5 (by decide) (hts _ (List.mem_cons_of_mem _ gk_161)) (fun _ h9 => h9) rfl d_BB_expectGroup_1 ?_
  refine lv_ifnonnull (tgt := 17) hx hb d_BB_expectGroup_4 (by decide) ?_
  refine vx_ret ?_
  refine W.widen (k := 1) (n := 6) (by decide) (by decide) ?_
  exact W.vret hx hb hr (fun t ht hW => ⟨⟨(), rfl, trivial, ht⟩, hS.F ht⟩) hS.2.2 d_BB_expectGroup_17
abbrev b_BB_expectOpen : ByteArray := prog_1_method_17_code
abbrev y_BB_expectOpen : MethodName := ⟨"BallotBoard", "expectOpen", "()V"⟩
abbrev w_BB_expectOpen : List Cond := .code y_BB_expectOpen b_BB_expectOpen 1 none :: gw
theorem d_BB_expectOpen_0 : decode b_BB_expectOpen 0 = .ok (.aload_n 0, 1) := by decide +kernel
theorem d_BB_expectOpen_1 : decode b_BB_expectOpen 1 = .ok (.invokevirtual 167, 3) := by decide +kernel
theorem d_BB_expectOpen_4 : decode b_BB_expectOpen 4 = .ok (.aload_n 0, 1) := by decide +kernel
theorem d_BB_expectOpen_5 : decode b_BB_expectOpen 5 = .ok (.getfield 31, 3) := by decide +kernel
theorem d_BB_expectOpen_8 : decode b_BB_expectOpen 8 = .ok (.invokevirtual 201, 3) := by decide +kernel
theorem d_BB_expectOpen_11 : decode b_BB_expectOpen 11 = .ok (.ifCond .eq 13, 3) := by decide +kernel
theorem d_BB_expectOpen_14 : decode b_BB_expectOpen 14 = .ok (.new 139, 3) := by decide +kernel
theorem d_BB_expectOpen_17 : decode b_BB_expectOpen 17 = .ok (.dup, 1) := by decide +kernel
theorem d_BB_expectOpen_18 : decode b_BB_expectOpen 18 = .ok (.ldc 208, 2) := by decide +kernel
theorem d_BB_expectOpen_20 : decode b_BB_expectOpen 20 = .ok (.invokespecial 143, 3) := by decide +kernel
theorem d_BB_expectOpen_23 : decode b_BB_expectOpen 23 = .ok (.athrow, 1) := by decide +kernel
theorem d_BB_expectOpen_24 : decode b_BB_expectOpen 24 = .ok (.return_, 1) := by decide +kernel
set_option maxHeartbeats 8000000 in
set_option maxRecDepth 100000 in
theorem c_BB_expectOpen_g (l : Launch) (hnt : l.stackTraces = false) (H0 : Heap) (dC : Nat → ClassId) (dI : Nat → Nat → Nat) (cJ cI cR : ClassId) (b0 bd0 pr0 t0 au0 da : Nat) (g0 : Nat) (ka aa ba sa : Nat) (T : TS) (hP : va_P (dC, dI) classes (bb_ws b0 bd0 pr0 t0 au0 da (.ref g0) ++ tt_ws t0 ka aa ba sa (.ref g0) cJ T) H0) (hsh : t_sht T = 0 ∨ t_sht T = 1) : vx_Met l y_BB_expectOpen w_BB_expectOpen ({ frames := 7, cells := 2, slots := 12, locals := 102 }) (va_Pc [.ref b0] (fun U => U.heap = H0 ∧ va_K (dC, dI) classes [(cJ, .long), (cI, .int), (cR, .array .long)] U ∧ xz (fun _ => False) U U.heap)) (va_Qv (fun _ : Unit => ¬ t_sht T = 1) (fun _ t => t.heap = H0) (fun _ => False)) (vx_X (fun _ : Unit => True) (fun E _ _ => E = eS ∧ t_sht T = 1) (fun _ => False)) 2 12 (fun _ => False) := by
  refine vx_ofW (cc := b_BB_expectOpen) (maxL := 1) (ret := none) (by decide) rfl ?_
  intro p e s m args below meth c s₁ Bd hml htab hv
  obtain ⟨rfl, hH, hK, hZx⟩ := hv
  have hx := Bd.exec
  have hb := Bd.bytes
  have hr := Bd.returns
  have hts := atoms_spec (ws := w_BB_expectOpen) Bd.pre
  have hown : s.vm.findClass "BallotBoard" = some m.cls := findClass_of_methodNamed Bd.named
  have hlocks := Bd.notSynchronized
  subst hH
  have hS : va_S (fun _ => False) s.heap s.heap [] := va_S.rf
  have hl := lv_entry ([.ref b0]) (n := 1) (Nat.le_of_ble_eq_true rfl)
  rw [lg_entry_eq]
  generalize (lg_sl ([.ref b0]) ++ List.replicate (1 - (lg_sl ([.ref b0])).length) Slot.unset).toArray = ls at hl ⊢
  have hl : lv_has ls 1 [(0, .ref b0)] := hl
  refine lv_aload_n hx hb d_BB_expectOpen_0 rfl (lv_at hl 0 rfl) ?_
  have hPc := hP.sub (ws' := (bb_ws b0 bd0 pr0 t0 au0 da (.ref g0))) [0] rfl
  have hKc := hK.sub (tys' := [(cJ, .long), (cI, .int), (cR, .array .long)]) [0, 1, 2] rfl
  have hZc : xz (fun _ => False) s s.heap := (hZx.kept hS.2.1).narrow (fun q h => h.elim)
  refine vx_callv (vx_runV (As := []) (rest := []) ⟨hx, hb, hml, hown, hts⟩ (c_BB_expectGroup_g l hnt s.heap dC dI cJ cI cR b0 bd0 pr0 t0 au0 da g0 hPc ) (cwV 0 hts (gw_V gk_383 gk_385 gp_5 gk_1 gk_386) rfl rfl rfl (by decide +kernel) ⟨(Nat.le_of_ble_eq_true rfl), (Nat.le_of_ble_eq_true rfl)⟩) ⟨fun a U g mk q => ⟨q.1, q.2.1, va_K.moved (u := U) (U := U.calling g mk a) (Vm.Alike.refl U.vm) q.2.2.1, xz.same (u := U) (U := U.calling g mk a) rfl q.2.2.2⟩, va_recv hK hP (ci := 7) (q0 := 0) rfl rfl, fun U hU hW => ⟨rfl, hU, va_K.moved hW.alike hKc, by rw [hU]; exact xz.warm hW hZc⟩⟩ rfl rfl hl.1 rfl (lv_room (Nat.le_of_ble_eq_true rfl)) d_BB_expectOpen_1 ⟨(Nat.le_of_ble_eq_true rfl), (Nat.le_of_ble_eq_true rfl)⟩) hS (fun q _ h => h.elim) (fun q h => h.elim) (fun q _ h => h.elim) (fun E9 ce9 q9 u8 t9 H1 locs ht hvm hpx hbx hz1 hk1 hS hce hcv hcl => ?_) (fun u9 t9 H1 locs ht hvm hw hB hz1 hk1 hS => ?_)
  · exact vx_out (fun x hx => (htab x hx).elim) hlocks hce hcv hcl (fun t8 ht8 hal => ⟨(), trivial, (show False from hbx).elim, hS.F ht8⟩) (fun z hz => hS.2.2 z hz) (Nat.le_of_ble_eq_true rfl) (Nat.le_of_ble_eq_true rfl)
  obtain rfl : s.heap = H1 := hB.symm.trans ht
  have hw1 := hw
  refine lv_aload_n hx hb d_BB_expectOpen_4 rfl (lv_at hl 0 rfl) ?_
  refine va_get (D := (dC, dI)) (ci := 7) (v := .ref t0) (C := "BallotBoard") (T := F_BB) (N := 6) hx hb hts (fun w9 h9 => List.mem_cons_of_mem _ (i_BB w9 h9)) hown hK hP 0 rfl rfl 2 (by decide) (hts _ (List.mem_cons_of_mem _ gk_158)) (fun _ h9 => h9) rfl d_BB_expectOpen_5 ?_
  have hPc := hP.sub (ws' := (tl_ws t0 ka aa ba sa (.ref g0) cJ (t_ko T) (t_ao T) (t_bo T) (t_so T) (t_tn T) (t_kc T) (t_bc T) (t_shc T) (t_kp T) (t_shp T) (t_pa T) (t_pb T) (t_sht T))) [1, 2, 3, 4, 5] rfl
  have hKc := hK.sub (tys' := [(cJ, .long), (cI, .int)]) [0, 1] rfl
  refine va_calli (va_runV (As := []) (rest := []) ⟨hx, hb, hml, hown, hts⟩ (c_Ta_isShut l s.heap dC dI cJ cI t0 ka aa ba sa (.ref g0) (t_ko T) (t_ao T) (t_bo T) (t_so T) (t_tn T) (t_kc T) (t_bc T) (t_shc T) (t_kp T) (t_shp T) (t_pa T) (t_pb T) (t_sht T)  hPc hsh) (cwV 0 hts (gw_V gk_403 gk_404 gk_405 gk_5 gk_406) rfl rfl rfl (by decide +kernel) ⟨Nat.le_of_ble_eq_true rfl, Nat.le_of_ble_eq_true rfl⟩) ⟨fun a U g mk q => ⟨q.1, q.2.1, va_K.moved (u := U) (U := U.calling g mk a) (Vm.Alike.refl U.vm) q.2.2⟩, va_recv hK hP (ci := 4) (q0 := 1) rfl rfl, fun U hU hW => ⟨rfl, hU, va_K.moved hW.alike hKc⟩⟩ rfl rfl hl.1 rfl (lv_room (Nat.le_of_ble_eq_true rfl)) d_BB_expectOpen_8 ⟨Nat.le_of_ble_eq_true rfl, Nat.le_of_ble_eq_true rfl⟩) hS (fun q _ h => h.elim) (fun q h => h.elim) (fun r8 u9 t9 H1 locs ht hvm hw hB hz1 hk1 hS => ?_)
  obtain rfl : s.heap = H1 := hB.symm.trans ht
  have h8 := hw
  refine lv_if_eq (tgt := 24) hx hb d_BB_expectOpen_11 (by decide) (fun c_2 => ?_) (fun c_2 => ?_)
  · -- taken
    have b8 := bz_f h8 c_2
    refine vx_ret ?_
    refine W.widen (k := 2) (n := 12) (by decide) (by decide) ?_
    exact W.vret hx hb hr (fun t ht hW => ⟨⟨(), rfl, b8, ht⟩, hS.F ht⟩) hS.2.2 d_BB_expectOpen_24
  · -- not taken
    have b8 := bz_t h8 c_2
    exact thr hx hb hnt 208 "it is closed" hts hown (by decide) gk_387 gk_15 xa_S1 xa_S2 xa_S3 hZx (by decide) hS (hl.1.trans hml.symm) d_BB_expectOpen_14 d_BB_expectOpen_17 d_BB_expectOpen_18 d_BB_expectOpen_20 d_BB_expectOpen_23 htab (Nat.le_of_ble_eq_true rfl) (Nat.le_of_ble_eq_true rfl) (Nat.le_of_ble_eq_true rfl) (Nat.le_of_ble_eq_true rfl) hlocks (fun t9 hal9 hsz9 hkp9 => ⟨(), trivial, ⟨rfl, b8⟩, hS.Fx hsz9 hkp9⟩) (fun z hz => hS.2.2 z hz) (Nat.le_of_ble_eq_true rfl) (Nat.le_of_ble_eq_true rfl)
abbrev b_BB_expectKeyDue : ByteArray := prog_1_method_18_code
abbrev y_BB_expectKeyDue : MethodName := ⟨"BallotBoard", "expectKeyDue", "(I)V"⟩
abbrev w_BB_expectKeyDue : List Cond := .code y_BB_expectKeyDue b_BB_expectKeyDue 2 none :: gw
theorem d_BB_expectKeyDue_0 : decode b_BB_expectKeyDue 0 = .ok (.aload_n 0, 1) := by decide +kernel
theorem d_BB_expectKeyDue_1 : decode b_BB_expectKeyDue 1 = .ok (.invokevirtual 210, 3) := by decide +kernel
theorem d_BB_expectKeyDue_4 : decode b_BB_expectKeyDue 4 = .ok (.aload_n 0, 1) := by decide +kernel
theorem d_BB_expectKeyDue_5 : decode b_BB_expectKeyDue 5 = .ok (.getfield 31, 3) := by decide +kernel
theorem d_BB_expectKeyDue_8 : decode b_BB_expectKeyDue 8 = .ok (.iload_n 1, 1) := by decide +kernel
theorem d_BB_expectKeyDue_9 : decode b_BB_expectKeyDue 9 = .ok (.invokevirtual 213, 3) := by decide +kernel
theorem d_BB_expectKeyDue_12 : decode b_BB_expectKeyDue 12 = .ok (.ifCond .eq 13, 3) := by decide +kernel
theorem d_BB_expectKeyDue_15 : decode b_BB_expectKeyDue 15 = .ok (.new 139, 3) := by decide +kernel
theorem d_BB_expectKeyDue_18 : decode b_BB_expectKeyDue 18 = .ok (.dup, 1) := by decide +kernel
theorem d_BB_expectKeyDue_19 : decode b_BB_expectKeyDue 19 = .ok (.ldc 217, 2) := by decide +kernel
theorem d_BB_expectKeyDue_21 : decode b_BB_expectKeyDue 21 = .ok (.invokespecial 143, 3) := by decide +kernel
theorem d_BB_expectKeyDue_24 : decode b_BB_expectKeyDue 24 = .ok (.athrow, 1) := by decide +kernel
theorem d_BB_expectKeyDue_25 : decode b_BB_expectKeyDue 25 = .ok (.return_, 1) := by decide +kernel
set_option maxHeartbeats 8000000 in
set_option maxRecDepth 100000 in
theorem c_BB_expectKeyDue_g (l : Launch) (hnt : l.stackTraces = false) (H0 : Heap) (dC : Nat → ClassId) (dI : Nat → Nat → Nat) (cJ cI cR : ClassId) (b0 bd0 pr0 t0 au0 da : Nat) (g0 : Nat) (ka aa ba sa : Nat) (T : TS) (x1 : Int32) (hP : va_P (dC, dI) classes (bb_ws b0 bd0 pr0 t0 au0 da (.ref g0) ++ tt_ws t0 ka aa ba sa (.ref g0) cJ T) H0) (hsh : t_sht T = 0 ∨ t_sht T = 1) (htn : t_tn T ≤ 4) (hko61 : ∀ j, t_ko T j < 2 ^ 61) : vx_Met l y_BB_expectKeyDue w_BB_expectKeyDue ({ frames := 8, cells := 3, slots := 18, locals := 122 }) (va_Pc [.ref b0, .int x1] (fun U => U.heap = H0 ∧ va_K (dC, dI) classes [(cJ, .long), (cI, .int), (cR, .array .long)] U ∧ xz (fun _ => False) U U.heap)) (va_Qv (fun _ : Unit => ¬ t_sht T = 1 ∧ ¬ (∃ I, x1 = nI I ∧ I < t_tn T ∧ t_ko T I ≠ 0)) (fun _ t => t.heap = H0) (fun _ => False)) (vx_X (fun _ : Unit => True) (fun E _ _ => E = eS ∧ (t_sht T = 1 ∨ ∃ I, x1 = nI I ∧ I < t_tn T ∧ t_ko T I ≠ 0)) (fun _ => False)) 3 18 (fun _ => False) := by
  refine vx_ofW (cc := b_BB_expectKeyDue) (maxL := 2) (ret := none) (by decide) rfl ?_
  intro p e s m args below meth c s₁ Bd hml htab hv
  obtain ⟨rfl, hH, hK, hZx⟩ := hv
  have hx := Bd.exec
  have hb := Bd.bytes
  have hr := Bd.returns
  have hts := atoms_spec (ws := w_BB_expectKeyDue) Bd.pre
  have hown : s.vm.findClass "BallotBoard" = some m.cls := findClass_of_methodNamed Bd.named
  have hlocks := Bd.notSynchronized
  subst hH
  have hS : va_S (fun _ => False) s.heap s.heap [] := va_S.rf
  have hl := lv_entry ([.ref b0, .int x1]) (n := 2) (Nat.le_of_ble_eq_true rfl)
  rw [lg_entry_eq]
  generalize (lg_sl ([.ref b0, .int x1]) ++ List.replicate (2 - (lg_sl ([.ref b0, .int x1])).length) Slot.unset).toArray = ls at hl ⊢
  have hl : lv_has ls 2 [(0, .ref b0), (1, .int x1)] := hl
  refine lv_aload_n hx hb d_BB_expectKeyDue_0 rfl (lv_at hl 0 rfl) ?_
  have hPc := hP.sub (ws' := (bb_ws b0 bd0 pr0 t0 au0 da (.ref g0) ++ tt_ws t0 ka aa ba sa (.ref g0) cJ T)) [0, 1, 2, 3, 4, 5] rfl
  have hKc := hK.sub (tys' := [(cJ, .long), (cI, .int), (cR, .array .long)]) [0, 1, 2] rfl
  have hZc : xz (fun _ => False) s s.heap := (hZx.kept hS.2.1).narrow (fun q h => h.elim)
  refine vx_callv (vx_runV (As := []) (rest := []) ⟨hx, hb, hml, hown, hts⟩ (c_BB_expectOpen_g l hnt s.heap dC dI cJ cI cR b0 bd0 pr0 t0 au0 da g0 ka aa ba sa T hPc hsh) (cwV 0 hts (gw_V gk_379 gk_381 gp_4 gk_1 gk_382) rfl rfl rfl (by decide +kernel) ⟨(Nat.le_of_ble_eq_true rfl), (Nat.le_of_ble_eq_true rfl)⟩) ⟨fun a U g mk q => ⟨q.1, q.2.1, va_K.moved (u := U) (U := U.calling g mk a) (Vm.Alike.refl U.vm) q.2.2.1, xz.same (u := U) (U := U.calling g mk a) rfl q.2.2.2⟩, va_recv hK hP (ci := 7) (q0 := 0) rfl rfl, fun U hU hW => ⟨rfl, hU, va_K.moved hW.alike hKc, by rw [hU]; exact xz.warm hW hZc⟩⟩ rfl rfl hl.1 rfl (lv_room (Nat.le_of_ble_eq_true rfl)) d_BB_expectKeyDue_1 ⟨(Nat.le_of_ble_eq_true rfl), (Nat.le_of_ble_eq_true rfl)⟩) hS (fun q _ h => h.elim) (fun q h => h.elim) (fun q _ h => h.elim) (fun E9 ce9 q9 u8 t9 H1 locs ht hvm hpx hbx hz1 hk1 hS hce hcv hcl => ?_) (fun u9 t9 H1 locs ht hvm hw hB hz1 hk1 hS => ?_)
  · exact vx_out (fun x hx => (htab x hx).elim) hlocks hce hcv hcl (fun t8 ht8 hal => ⟨(), trivial, (show E9 = eS ∧ (t_sht T = 1 ∨ ∃ I, x1 = nI I ∧ I < t_tn T ∧ t_ko T I ≠ 0) from ⟨hbx.1, Or.inl hbx.2⟩), hS.F ht8⟩) (fun z hz => hS.2.2 z hz) (Nat.le_of_ble_eq_true rfl) (Nat.le_of_ble_eq_true rfl)
  obtain rfl : s.heap = H1 := hB.symm.trans ht
  have hw1 := hw
  refine lv_aload_n hx hb d_BB_expectKeyDue_4 rfl (lv_at hl 0 rfl) ?_
  refine va_get (D := (dC, dI)) (ci := 7) (v := .ref t0) (C := "BallotBoard") (T := F_BB) (N := 6) hx hb hts (fun w9 h9 => List.mem_cons_of_mem _ (i_BB w9 h9)) hown hK hP 0 rfl rfl 2 (by decide) (hts _ (List.mem_cons_of_mem _ gk_158)) (fun _ h9 => h9) rfl d_BB_expectKeyDue_5 ?_
  refine lv_iload_n hx hb d_BB_expectKeyDue_8 rfl (lv_at hl 1 rfl) ?_
  have hPc := hP.sub (ws' := (tl_ws t0 ka aa ba sa (.ref g0) cJ (t_ko T) (t_ao T) (t_bo T) (t_so T) (t_tn T) (t_kc T) (t_bc T) (t_shc T) (t_kp T) (t_shp T) (t_pa T) (t_pb T) (t_sht T))) [1, 2, 3, 4, 5] rfl
  have hKc := hK.sub (tys' := [(cJ, .long), (cI, .int)]) [0, 1] rfl
  refine va_calli (va_runV (As := [.int x1]) (rest := []) ⟨hx, hb, hml, hown, hts⟩ (c_Ta_hasKey l s.heap dC dI cJ cI t0 ka aa ba sa (.ref g0) (t_ko T) (t_ao T) (t_bo T) (t_so T) (t_tn T) (t_kc T) (t_bc T) (t_shc T) (t_kp T) (t_shp T) (t_pa T) (t_pb T) (t_sht T) x1 hPc (by omega) hko61) (cwV 1 hts (gw_V gk_408 gk_409 gk_410 gk_5 gk_411) rfl rfl rfl (by decide +kernel) ⟨Nat.le_of_ble_eq_true rfl, Nat.le_of_ble_eq_true rfl⟩) ⟨fun a U g mk q => ⟨q.1, q.2.1, va_K.moved (u := U) (U := U.calling g mk a) (Vm.Alike.refl U.vm) q.2.2⟩, va_recv hK hP (ci := 4) (q0 := 1) rfl rfl, fun U hU hW => ⟨rfl, hU, va_K.moved hW.alike hKc⟩⟩ rfl rfl hl.1 rfl (lv_room (Nat.le_of_ble_eq_true rfl)) d_BB_expectKeyDue_9 ⟨Nat.le_of_ble_eq_true rfl, Nat.le_of_ble_eq_true rfl⟩) hS (fun q _ h => h.elim) (fun q h => h.elim) (fun r9 u9 t9 H1 locs ht hvm hw hB hz1 hk1 hS => ?_)
  obtain rfl : s.heap = H1 := hB.symm.trans ht
  have h9 := hw
  refine lv_if_eq (tgt := 25) hx hb d_BB_expectKeyDue_12 (by decide) (fun c_2 => ?_) (fun c_2 => ?_)
  · -- taken
    have b9 := bz_f h9 c_2
    refine vx_ret ?_
    refine W.widen (k := 3) (n := 18) (by decide) (by decide) ?_
    exact W.vret hx hb hr (fun t ht hW => ⟨⟨(), rfl, ⟨hw1, b9⟩, ht⟩, hS.F ht⟩) hS.2.2 d_BB_expectKeyDue_25
  · -- not taken
    have b9 := bz_t h9 c_2
    exact thr hx hb hnt 217 "the key is there" hts hown (by decide) gk_387 gk_15 xa_S1 xa_S2 xa_S3 hZx (by decide) hS (hl.1.trans hml.symm) d_BB_expectKeyDue_15 d_BB_expectKeyDue_18 d_BB_expectKeyDue_19 d_BB_expectKeyDue_21 d_BB_expectKeyDue_24 htab (Nat.le_of_ble_eq_true rfl) (Nat.le_of_ble_eq_true rfl) (Nat.le_of_ble_eq_true rfl) (Nat.le_of_ble_eq_true rfl) hlocks (fun t9 hal9 hsz9 hkp9 => ⟨(), trivial, ⟨rfl, Or.inr b9⟩, hS.Fx hsz9 hkp9⟩) (fun z hz => hS.2.2 z hz) (Nat.le_of_ble_eq_true rfl) (Nat.le_of_ble_eq_true rfl)
abbrev b_BB_expectOpenWithKeys : ByteArray := prog_1_method_19_code
abbrev y_BB_expectOpenWithKeys : MethodName := ⟨"BallotBoard", "expectOpenWithKeys", "()V"⟩
abbrev w_BB_expectOpenWithKeys : List Cond := .code y_BB_expectOpenWithKeys b_BB_expectOpenWithKeys 1 none :: gw
theorem d_BB_expectOpenWithKeys_0 : decode b_BB_expectOpenWithKeys 0 = .ok (.aload_n 0, 1) := by decide +kernel
theorem d_BB_expectOpenWithKeys_1 : decode b_BB_expectOpenWithKeys 1 = .ok (.invokevirtual 210, 3) := by decide +kernel
theorem d_BB_expectOpenWithKeys_4 : decode b_BB_expectOpenWithKeys 4 = .ok (.aload_n 0, 1) := by decide +kernel
theorem d_BB_expectOpenWithKeys_5 : decode b_BB_expectOpenWithKeys 5 = .ok (.getfield 31, 3) := by decide +kernel
theorem d_BB_expectOpenWithKeys_8 : decode b_BB_expectOpenWithKeys 8 = .ok (.invokevirtual 219, 3) := by decide +kernel
theorem d_BB_expectOpenWithKeys_11 : decode b_BB_expectOpenWithKeys 11 = .ok (.ifCond .ne 13, 3) := by decide +kernel
theorem d_BB_expectOpenWithKeys_14 : decode b_BB_expectOpenWithKeys 14 = .ok (.new 139, 3) := by decide +kernel
theorem d_BB_expectOpenWithKeys_17 : decode b_BB_expectOpenWithKeys 17 = .ok (.dup, 1) := by decide +kernel
theorem d_BB_expectOpenWithKeys_18 : decode b_BB_expectOpenWithKeys 18 = .ok (.ldc 222, 2) := by decide +kernel
theorem d_BB_expectOpenWithKeys_20 : decode b_BB_expectOpenWithKeys 20 = .ok (.invokespecial 143, 3) := by decide +kernel
theorem d_BB_expectOpenWithKeys_23 : decode b_BB_expectOpenWithKeys 23 = .ok (.athrow, 1) := by decide +kernel
theorem d_BB_expectOpenWithKeys_24 : decode b_BB_expectOpenWithKeys 24 = .ok (.return_, 1) := by decide +kernel
set_option maxHeartbeats 8000000 in
set_option maxRecDepth 100000 in
theorem c_BB_expectOpenWithKeys_g (l : Launch) (hnt : l.stackTraces = false) (H0 : Heap) (dC : Nat → ClassId) (dI : Nat → Nat → Nat) (cJ cI cR : ClassId) (b0 bd0 pr0 t0 au0 da : Nat) (g0 : Nat) (ka aa ba sa : Nat) (T : TS) (hP : va_P (dC, dI) classes (bb_ws b0 bd0 pr0 t0 au0 da (.ref g0) ++ tt_ws t0 ka aa ba sa (.ref g0) cJ T) H0) (hsh : t_sht T = 0 ∨ t_sht T = 1) (htn : t_tn T ≤ 4) (hkc : t_kc T ≤ 4) : vx_Met l y_BB_expectOpenWithKeys w_BB_expectOpenWithKeys ({ frames := 8, cells := 3, slots := 18, locals := 122 }) (va_Pc [.ref b0] (fun U => U.heap = H0 ∧ va_K (dC, dI) classes [(cJ, .long), (cI, .int), (cR, .array .long)] U ∧ xz (fun _ => False) U U.heap)) (va_Qv (fun _ : Unit => ¬ t_sht T = 1 ∧ (0 < t_tn T ∧ t_kc T = t_tn T)) (fun _ t => t.heap = H0) (fun _ => False)) (vx_X (fun _ : Unit => True) (fun E _ _ => E = eS ∧ (t_sht T = 1 ∨ ¬ (0 < t_tn T ∧ t_kc T = t_tn T))) (fun _ => False)) 3 18 (fun _ => False) := by
  refine vx_ofW (cc := b_BB_expectOpenWithKeys) (maxL := 1) (ret := none) (by decide) rfl ?_
  intro p e s m args below meth c s₁ Bd hml htab hv
  obtain ⟨rfl, hH, hK, hZx⟩ := hv
  have hx := Bd.exec
  have hb := Bd.bytes
  have hr := Bd.returns
  have hts := atoms_spec (ws := w_BB_expectOpenWithKeys) Bd.pre
  have hown : s.vm.findClass "BallotBoard" = some m.cls := findClass_of_methodNamed Bd.named
  have hlocks := Bd.notSynchronized
  subst hH
  have hS : va_S (fun _ => False) s.heap s.heap [] := va_S.rf
  have hl := lv_entry ([.ref b0]) (n := 1) (Nat.le_of_ble_eq_true rfl)
  rw [lg_entry_eq]
  generalize (lg_sl ([.ref b0]) ++ List.replicate (1 - (lg_sl ([.ref b0])).length) Slot.unset).toArray = ls at hl ⊢
  have hl : lv_has ls 1 [(0, .ref b0)] := hl
  refine lv_aload_n hx hb d_BB_expectOpenWithKeys_0 rfl (lv_at hl 0 rfl) ?_
  have hPc := hP.sub (ws' := (bb_ws b0 bd0 pr0 t0 au0 da (.ref g0) ++ tt_ws t0 ka aa ba sa (.ref g0) cJ T)) [0, 1, 2, 3, 4, 5] rfl
  have hKc := hK.sub (tys' := [(cJ, .long), (cI, .int), (cR, .array .long)]) [0, 1, 2] rfl
  have hZc : xz (fun _ => False) s s.heap := (hZx.kept hS.2.1).narrow (fun q h => h.elim)
  refine vx_callv (vx_runV (As := []) (rest := []) ⟨hx, hb, hml, hown, hts⟩ (c_BB_expectOpen_g l hnt s.heap dC dI cJ cI cR b0 bd0 pr0 t0 au0 da g0 ka aa ba sa T hPc hsh) (cwV 0 hts (gw_V gk_379 gk_381 gp_4 gk_1 gk_382) rfl rfl rfl (by decide +kernel) ⟨(Nat.le_of_ble_eq_true rfl), (Nat.le_of_ble_eq_true rfl)⟩) ⟨fun a U g mk q => ⟨q.1, q.2.1, va_K.moved (u := U) (U := U.calling g mk a) (Vm.Alike.refl U.vm) q.2.2.1, xz.same (u := U) (U := U.calling g mk a) rfl q.2.2.2⟩, va_recv hK hP (ci := 7) (q0 := 0) rfl rfl, fun U hU hW => ⟨rfl, hU, va_K.moved hW.alike hKc, by rw [hU]; exact xz.warm hW hZc⟩⟩ rfl rfl hl.1 rfl (lv_room (Nat.le_of_ble_eq_true rfl)) d_BB_expectOpenWithKeys_1 ⟨(Nat.le_of_ble_eq_true rfl), (Nat.le_of_ble_eq_true rfl)⟩) hS (fun q _ h => h.elim) (fun q h => h.elim) (fun q _ h => h.elim) (fun E9 ce9 q9 u8 t9 H1 locs ht hvm hpx hbx hz1 hk1 hS hce hcv hcl => ?_) (fun u9 t9 H1 locs ht hvm hw hB hz1 hk1 hS => ?_)
  · exact vx_out (fun x hx => (htab x hx).elim) hlocks hce hcv hcl (fun t8 ht8 hal => ⟨(), trivial, (show E9 = eS ∧ (t_sht T = 1 ∨ ¬ (0 < t_tn T ∧ t_kc T = t_tn T)) from ⟨hbx.1, Or.inl hbx.2⟩), hS.F ht8⟩) (fun z hz => hS.2.2 z hz) (Nat.le_of_ble_eq_true rfl) (Nat.le_of_ble_eq_true rfl)
  obtain rfl : s.heap = H1 := hB.symm.trans ht
  have hw1 := hw
  refine lv_aload_n hx hb d_BB_expectOpenWithKeys_4 rfl (lv_at hl 0 rfl) ?_
  refine va_get (D := (dC, dI)) (ci := 7) (v := .ref t0) (C := "BallotBoard") (T := F_BB) (N := 6) hx hb hts (fun w9 h9 => List.mem_cons_of_mem _ (i_BB w9 h9)) hown hK hP 0 rfl rfl 2 (by decide) (hts _ (List.mem_cons_of_mem _ gk_158)) (fun _ h9 => h9) rfl d_BB_expectOpenWithKeys_5 ?_
  have hPc := hP.sub (ws' := (tl_ws t0 ka aa ba sa (.ref g0) cJ (t_ko T) (t_ao T) (t_bo T) (t_so T) (t_tn T) (t_kc T) (t_bc T) (t_shc T) (t_kp T) (t_shp T) (t_pa T) (t_pb T) (t_sht T))) [1, 2, 3, 4, 5] rfl
  have hKc := hK.sub (tys' := [(cJ, .long), (cI, .int)]) [0, 1] rfl
  refine va_calli (va_runV (As := []) (rest := []) ⟨hx, hb, hml, hown, hts⟩ (c_Ta_hasAllKeys l s.heap dC dI cJ cI t0 ka aa ba sa (.ref g0) (t_ko T) (t_ao T) (t_bo T) (t_so T) (t_tn T) (t_kc T) (t_bc T) (t_shc T) (t_kp T) (t_shp T) (t_pa T) (t_pb T) (t_sht T)  hPc (by omega) (by omega)) (cwV 0 hts (gw_V gk_640 gk_474 gk_475 gk_5 gk_476) rfl rfl rfl (by decide +kernel) ⟨Nat.le_of_ble_eq_true rfl, Nat.le_of_ble_eq_true rfl⟩) ⟨fun a U g mk q => ⟨q.1, q.2.1, va_K.moved (u := U) (U := U.calling g mk a) (Vm.Alike.refl U.vm) q.2.2⟩, va_recv hK hP (ci := 4) (q0 := 1) rfl rfl, fun U hU hW => ⟨rfl, hU, va_K.moved hW.alike hKc⟩⟩ rfl rfl hl.1 rfl (lv_room (Nat.le_of_ble_eq_true rfl)) d_BB_expectOpenWithKeys_8 ⟨Nat.le_of_ble_eq_true rfl, Nat.le_of_ble_eq_true rfl⟩) hS (fun q _ h => h.elim) (fun q h => h.elim) (fun r8 u9 t9 H1 locs ht hvm hw hB hz1 hk1 hS => ?_)
  obtain rfl : s.heap = H1 := hB.symm.trans ht
  have h8 := hw
  refine lv_if_ne (tgt := 24) hx hb d_BB_expectOpenWithKeys_11 (by decide) (fun c_2 => ?_) (fun c_2 => ?_)
  · -- taken
    have b8 := bz_t h8 c_2
    refine vx_ret ?_
    refine W.widen (k := 3) (n := 18) (by decide) (by decide) ?_
    exact W.vret hx hb hr (fun t ht hW => ⟨⟨(), rfl, ⟨hw1, b8⟩, ht⟩, hS.F ht⟩) hS.2.2 d_BB_expectOpenWithKeys_24
  · -- not taken
    have b8 := bz_f h8 c_2
    exact thr hx hb hnt 222 "not all keys are there" hts hown (by decide) gk_387 gk_15 xa_S1 xa_S2 xa_S3 hZx (by decide) hS (hl.1.trans hml.symm) d_BB_expectOpenWithKeys_14 d_BB_expectOpenWithKeys_17 d_BB_expectOpenWithKeys_18 d_BB_expectOpenWithKeys_20 d_BB_expectOpenWithKeys_23 htab (Nat.le_of_ble_eq_true rfl) (Nat.le_of_ble_eq_true rfl) (Nat.le_of_ble_eq_true rfl) (Nat.le_of_ble_eq_true rfl) hlocks (fun t9 hal9 hsz9 hkp9 => ⟨(), trivial, ⟨rfl, Or.inr b8⟩, hS.Fx hsz9 hkp9⟩) (fun z hz => hS.2.2 z hz) (Nat.le_of_ble_eq_true rfl) (Nat.le_of_ble_eq_true rfl)
abbrev b_BB_expectBallotDue : ByteArray := prog_1_method_20_code
abbrev y_BB_expectBallotDue : MethodName := ⟨"BallotBoard", "expectBallotDue", "()V"⟩
abbrev w_BB_expectBallotDue : List Cond := .code y_BB_expectBallotDue b_BB_expectBallotDue 1 none :: gw
theorem d_BB_expectBallotDue_0 : decode b_BB_expectBallotDue 0 = .ok (.aload_n 0, 1) := by decide +kernel
theorem d_BB_expectBallotDue_1 : decode b_BB_expectBallotDue 1 = .ok (.invokevirtual 117, 3) := by decide +kernel
theorem d_BB_expectBallotDue_4 : decode b_BB_expectBallotDue 4 = .ok (.aload_n 0, 1) := by decide +kernel
theorem d_BB_expectBallotDue_5 : decode b_BB_expectBallotDue 5 = .ok (.getfield 17, 3) := by decide +kernel
theorem d_BB_expectBallotDue_8 : decode b_BB_expectBallotDue 8 = .ok (.invokevirtual 192, 3) := by decide +kernel
theorem d_BB_expectBallotDue_11 : decode b_BB_expectBallotDue 11 = .ok (.sipush 150, 3) := by decide +kernel
theorem d_BB_expectBallotDue_14 : decode b_BB_expectBallotDue 14 = .ok (.if_icmp .lt 13, 3) := by decide +kernel
theorem d_BB_expectBallotDue_17 : decode b_BB_expectBallotDue 17 = .ok (.new 151, 3) := by decide +kernel
theorem d_BB_expectBallotDue_20 : decode b_BB_expectBallotDue 20 = .ok (.dup, 1) := by decide +kernel
theorem d_BB_expectBallotDue_21 : decode b_BB_expectBallotDue 21 = .ok (.ldc 224, 2) := by decide +kernel
theorem d_BB_expectBallotDue_23 : decode b_BB_expectBallotDue 23 = .ok (.invokespecial 155, 3) := by decide +kernel
theorem d_BB_expectBallotDue_26 : decode b_BB_expectBallotDue 26 = .ok (.athrow, 1) := by decide +kernel
theorem d_BB_expectBallotDue_27 : decode b_BB_expectBallotDue 27 = .ok (.return_, 1) := by decide +kernel
set_option maxHeartbeats 8000000 in
set_option maxRecDepth 100000 in
theorem c_BB_expectBallotDue_g (l : Launch) (hnt : l.stackTraces = false) (H0 : Heap) (dC : Nat → ClassId) (dI : Nat → Nat → Nat) (cJ cI cR : ClassId) (b0 bd0 pr0 t0 au0 da : Nat) (g0 : Nat) (ka aa ba sa : Nat) (T : TS) (h0 ro lo n : Nat) (hP : va_P (dC, dI) classes (bb_ws b0 bd0 pr0 t0 au0 da (.ref g0) ++ (tt_ws t0 ka aa ba sa (.ref g0) cJ T ++ bo_ws bd0 h0 ro lo n)) H0) (hsh : t_sht T = 0 ∨ t_sht T = 1) (htn : t_tn T ≤ 4) (hkc : t_kc T ≤ 4) (hn : n ≤ 154) : vx_Met l y_BB_expectBallotDue w_BB_expectBallotDue ({ frames := 9, cells := 4, slots := 24, locals := 142 }) (va_Pc [.ref b0] (fun U => U.heap = H0 ∧ va_K (dC, dI) classes [(cJ, .long), (cI, .int), (cR, .array .long)] U ∧ xz (fun _ => False) U U.heap)) (va_Qv (fun _ : Unit => ¬ t_sht T = 1 ∧ (0 < t_tn T ∧ t_kc T = t_tn T) ∧ n < 150) (fun _ t => t.heap = H0) (fun _ => False)) (vx_X (fun _ : Unit => True) (fun E _ _ => E = eS ∧ (t_sht T = 1 ∨ ¬ (0 < t_tn T ∧ t_kc T = t_tn T)) ∨ E = eB ∧ (¬ t_sht T = 1 ∧ (0 < t_tn T ∧ t_kc T = t_tn T) ∧ 150 ≤ n)) (fun _ => False)) 4 24 (fun _ => False) := by
  refine vx_ofW (cc := b_BB_expectBallotDue) (maxL := 1) (ret := none) (by decide) rfl ?_
  intro p e s m args below meth c s₁ Bd hml htab hv
  obtain ⟨rfl, hH, hK, hZx⟩ := hv
  have hx := Bd.exec
  have hb := Bd.bytes
  have hr := Bd.returns
  have hts := atoms_spec (ws := w_BB_expectBallotDue) Bd.pre
  have hown : s.vm.findClass "BallotBoard" = some m.cls := findClass_of_methodNamed Bd.named
  have hlocks := Bd.notSynchronized
  subst hH
  have hS : va_S (fun _ => False) s.heap s.heap [] := va_S.rf
  have hl := lv_entry ([.ref b0]) (n := 1) (Nat.le_of_ble_eq_true rfl)
  rw [lg_entry_eq]
  generalize (lg_sl ([.ref b0]) ++ List.replicate (1 - (lg_sl ([.ref b0])).length) Slot.unset).toArray = ls at hl ⊢
  have hl : lv_has ls 1 [(0, .ref b0)] := hl
  refine lv_aload_n hx hb d_BB_expectBallotDue_0 rfl (lv_at hl 0 rfl) ?_
  have hPc := hP.sub (ws' := (bb_ws b0 bd0 pr0 t0 au0 da (.ref g0) ++ tt_ws t0 ka aa ba sa (.ref g0) cJ T)) [0, 1, 2, 3, 4, 5] rfl
  have hKc := hK.sub (tys' := [(cJ, .long), (cI, .int), (cR, .array .long)]) [0, 1, 2] rfl
  have hZc : xz (fun _ => False) s s.heap := (hZx.kept hS.2.1).narrow (fun q h => h.elim)
  refine vx_callv (vx_runV (As := []) (rest := []) ⟨hx, hb, hml, hown, hts⟩ (c_BB_expectOpenWithKeys_g l hnt s.heap dC dI cJ cI cR b0 bd0 pr0 t0 au0 da g0 ka aa ba sa T hPc hsh htn hkc) (cwV 0 hts (gw_V gk_636 gk_638 gp_23 gk_1 gk_639) rfl rfl rfl (by decide +kernel) ⟨(Nat.le_of_ble_eq_true rfl), (Nat.le_of_ble_eq_true rfl)⟩) ⟨fun a U g mk q => ⟨q.1, q.2.1, va_K.moved (u := U) (U := U.calling g mk a) (Vm.Alike.refl U.vm) q.2.2.1, xz.same (u := U) (U := U.calling g mk a) rfl q.2.2.2⟩, va_recv hK hP (ci := 7) (q0 := 0) rfl rfl, fun U hU hW => ⟨rfl, hU, va_K.moved hW.alike hKc, by rw [hU]; exact xz.warm hW hZc⟩⟩ rfl rfl hl.1 rfl (lv_room (Nat.le_of_ble_eq_true rfl)) d_BB_expectBallotDue_1 ⟨(Nat.le_of_ble_eq_true rfl), (Nat.le_of_ble_eq_true rfl)⟩) hS (fun q _ h => h.elim) (fun q h => h.elim) (fun q _ h => h.elim) (fun E9 ce9 q9 u8 t9 H1 locs ht hvm hpx hbx hz1 hk1 hS hce hcv hcl => ?_) (fun u9 t9 H1 locs ht hvm hw hB hz1 hk1 hS => ?_)
  · exact vx_out (fun x hx => (htab x hx).elim) hlocks hce hcv hcl (fun t8 ht8 hal => ⟨(), trivial, (show E9 = eS ∧ (t_sht T = 1 ∨ ¬ (0 < t_tn T ∧ t_kc T = t_tn T)) ∨ E9 = eB ∧ (¬ t_sht T = 1 ∧ (0 < t_tn T ∧ t_kc T = t_tn T) ∧ 150 ≤ n) from Or.inl hbx), hS.F ht8⟩) (fun z hz => hS.2.2 z hz) (Nat.le_of_ble_eq_true rfl) (Nat.le_of_ble_eq_true rfl)
  obtain rfl : s.heap = H1 := hB.symm.trans ht
  have hw1 := hw
  refine lv_aload_n hx hb d_BB_expectBallotDue_4 rfl (lv_at hl 0 rfl) ?_
  refine va_get (D := (dC, dI)) (ci := 7) (v := .ref bd0) (C := "BallotBoard") (T := F_BB) (N := 6) hx hb hts (fun w9 h9 => List.mem_cons_of_mem _ (i_BB w9 h9)) hown hK hP 0 rfl rfl 0 (by decide) (hts _ (List.mem_cons_of_mem _ gk_156)) (fun _ h9 => h9) rfl d_BB_expectBallotDue_5 ?_
  have hPc := hP.sub (ws' := (bo_ws bd0 h0 ro lo n)) [6] rfl
  have hKc := hK.sub (tys' := [(cJ, .long), (cI, .int), (cR, .array .long)]) [0, 1, 2] rfl
  refine va_calli (va_runV (As := []) (rest := []) ⟨hx, hb, hml, hown, hts⟩ (c_Bd_size l s.heap dC dI cJ cI cR bd0 h0 ro lo n hPc) (cwV 0 hts (gw_V gk_642 gk_643 gk_644 gk_3 gk_645) rfl rfl rfl (by decide +kernel) ⟨Nat.le_of_ble_eq_true rfl, Nat.le_of_ble_eq_true rfl⟩) ⟨fun a U g mk q => ⟨q.1, q.2.1, va_K.moved (u := U) (U := U.calling g mk a) (Vm.Alike.refl U.vm) q.2.2⟩, va_recv hK hP (ci := 3) (q0 := 6) rfl rfl, fun U hU hW => ⟨rfl, hU, va_K.moved hW.alike hKc⟩⟩ rfl rfl hl.1 rfl (lv_room (Nat.le_of_ble_eq_true rfl)) d_BB_expectBallotDue_8 ⟨Nat.le_of_ble_eq_true rfl, Nat.le_of_ble_eq_true rfl⟩) hS (fun q _ h => h.elim) (fun q h => h.elim) (fun r8 u9 t9 H1 locs ht hvm hw hB hz1 hk1 hS => ?_)
  obtain rfl : s.heap = H1 := hB.symm.trans ht
  have hw : r8 = nI n := hw
  subst hw
  refine lv_sipush (v := 150) hx hb d_BB_expectBallotDue_11 (by decide) ?_
  refine lv_icmp_lt (tgt := 27) hx hb d_BB_expectBallotDue_14 (by decide) (fun c_2 => ?_) (fun c_2 => ?_)
  · -- taken
    have h150 : n < 150 := (nI_ltI (by omega) (by omega)).mp (show nI n < nI 150 from c_2)
    refine vx_ret ?_
    refine W.widen (k := 4) (n := 24) (by decide) (by decide) ?_
    exact W.vret hx hb hr (fun t ht hW => ⟨⟨(), rfl, ⟨hw1.1, hw1.2, h150⟩, ht⟩, hS.F ht⟩) hS.2.2 d_BB_expectBallotDue_27
  · -- not taken
    have h150 : 150 ≤ n := Nat.le_of_not_lt (fun h => c_2 (show nI n < nI 150 from (nI_ltI (by omega) (by omega)).mpr h))
    exact thr hx hb hnt 224 "the board has no room for a ballot" hts hown (by decide) gk_646 gk_18 xa_B1 xa_B2 xa_B3 hZx (by decide) hS (hl.1.trans hml.symm) d_BB_expectBallotDue_17 d_BB_expectBallotDue_20 d_BB_expectBallotDue_21 d_BB_expectBallotDue_23 d_BB_expectBallotDue_26 htab (Nat.le_of_ble_eq_true rfl) (Nat.le_of_ble_eq_true rfl) (Nat.le_of_ble_eq_true rfl) (Nat.le_of_ble_eq_true rfl) hlocks (fun t9 hal9 hsz9 hkp9 => ⟨(), trivial, Or.inr ⟨rfl, hw1.1, hw1.2, h150⟩, hS.Fx hsz9 hkp9⟩) (fun z hz => hS.2.2 z hz) (Nat.le_of_ble_eq_true rfl) (Nat.le_of_ble_eq_true rfl)
abbrev b_BB_expectShut : ByteArray := prog_1_method_21_code
abbrev y_BB_expectShut : MethodName := ⟨"BallotBoard", "expectShut", "()V"⟩
abbrev w_BB_expectShut : List Cond := .code y_BB_expectShut b_BB_expectShut 1 none :: gw
theorem d_BB_expectShut_0 : decode b_BB_expectShut 0 = .ok (.aload_n 0, 1) := by decide +kernel
theorem d_BB_expectShut_1 : decode b_BB_expectShut 1 = .ok (.getfield 48, 3) := by decide +kernel
theorem d_BB_expectShut_4 : decode b_BB_expectShut 4 = .ok (.ifnull 13, 3) := by decide +kernel
theorem d_BB_expectShut_7 : decode b_BB_expectShut 7 = .ok (.aload_n 0, 1) := by decide +kernel
theorem d_BB_expectShut_8 : decode b_BB_expectShut 8 = .ok (.getfield 31, 3) := by decide +kernel
theorem d_BB_expectShut_11 : decode b_BB_expectShut 11 = .ok (.invokevirtual 201, 3) := by decide +kernel
theorem d_BB_expectShut_14 : decode b_BB_expectShut 14 = .ok (.ifCond .ne 13, 3) := by decide +kernel
theorem d_BB_expectShut_17 : decode b_BB_expectShut 17 = .ok (.new 139, 3) := by decide +kernel
theorem d_BB_expectShut_20 : decode b_BB_expectShut 20 = .ok (.dup, 1) := by decide +kernel
theorem d_BB_expectShut_21 : decode b_BB_expectShut 21 = .ok (.ldc 226, 2) := by decide +kernel
theorem d_BB_expectShut_23 : decode b_BB_expectShut 23 = .ok (.invokespecial 143, 3) := by decide +kernel
theorem d_BB_expectShut_26 : decode b_BB_expectShut 26 = .ok (.athrow, 1) := by decide +kernel
theorem d_BB_expectShut_27 : decode b_BB_expectShut 27 = .ok (.return_, 1) := by decide +kernel
set_option maxHeartbeats 8000000 in
set_option maxRecDepth 100000 in
theorem c_BB_expectShut_g (l : Launch) (hnt : l.stackTraces = false) (H0 : Heap) (dC : Nat → ClassId) (dI : Nat → Nat → Nat) (cJ cI cR : ClassId) (b0 bd0 pr0 t0 au0 da : Nat) (g0 : Nat) (ka aa ba sa : Nat) (T : TS) (hP : va_P (dC, dI) classes (bb_ws b0 bd0 pr0 t0 au0 da (.ref g0) ++ tt_ws t0 ka aa ba sa (.ref g0) cJ T) H0) (hsh : t_sht T = 0 ∨ t_sht T = 1) : vx_Met l y_BB_expectShut w_BB_expectShut ({ frames := 6, cells := 1, slots := 6, locals := 82 }) (va_Pc [.ref b0] (fun U => U.heap = H0 ∧ va_K (dC, dI) classes [(cJ, .long), (cI, .int), (cR, .array .long)] U ∧ xz (fun _ => False) U U.heap)) (va_Qv (fun _ : Unit => t_sht T = 1) (fun _ t => t.heap = H0) (fun _ => False)) (vx_X (fun _ : Unit => True) (fun E _ _ => E = eS ∧ ¬ t_sht T = 1) (fun _ => False)) 1 6 (fun _ => False) := by
  refine vx_ofW (cc := b_BB_expectShut) (maxL := 1) (ret := none) (by decide) rfl ?_
  intro p e s m args below meth c s₁ Bd hml htab hv
  obtain ⟨rfl, hH, hK, hZx⟩ := hv
  have hx := Bd.exec
  have hb := Bd.bytes
  have hr := Bd.returns
  have hts := atoms_spec (ws := w_BB_expectShut) Bd.pre
  have hown : s.vm.findClass "BallotBoard" = some m.cls := findClass_of_methodNamed Bd.named
  have hlocks := Bd.notSynchronized
  subst hH
  have hS : va_S (fun _ => False) s.heap s.heap [] := va_S.rf
  have hl := lv_entry ([.ref b0]) (n := 1) (Nat.le_of_ble_eq_true rfl)
  rw [lg_entry_eq]
  generalize (lg_sl ([.ref b0]) ++ List.replicate (1 - (lg_sl ([.ref b0])).length) Slot.unset).toArray = ls at hl ⊢
  have hl : lv_has ls 1 [(0, .ref b0)] := hl
  refine lv_aload_n hx hb d_BB_expectShut_0 rfl (lv_at hl 0 rfl) ?_
  refine va_get (D := (dC, dI)) (ci := 7) (v := .ref g0) (C := "BallotBoard") (T := F_BB) (N := 6) hx hb hts (fun w9 h9 => List.mem_cons_of_mem _ (i_BB w9 h9)) hown hK hP 0 rfl rfl 5 (by decide) (hts _ (List.mem_cons_of_mem _ gk_161)) (fun _ h9 => h9) rfl d_BB_expectShut_1 ?_
  refine lv_ifnull hx hb d_BB_expectShut_4 ?_
  refine lv_aload_n hx hb d_BB_expectShut_7 rfl (lv_at hl 0 rfl) ?_
  refine va_get (D := (dC, dI)) (ci := 7) (v := .ref t0) (C := "BallotBoard") (T := F_BB) (N := 6) hx hb hts (fun w9 h9 => List.mem_cons_of_mem _ (i_BB w9 h9)) hown hK hP 0 rfl rfl 2 (by decide) (hts _ (List.mem_cons_of_mem _ gk_158)) (fun _ h9 => h9) rfl d_BB_expectShut_8 ?_
  have hPc := hP.sub (ws' := (tl_ws t0 ka aa ba sa (.ref g0) cJ (t_ko T) (t_ao T) (t_bo T) (t_so T) (t_tn T) (t_kc T) (t_bc T) (t_shc T) (t_kp T) (t_shp T) (t_pa T) (t_pb T) (t_sht T))) [1, 2, 3, 4, 5] rfl
  have hKc := hK.sub (tys' := [(cJ, .long), (cI, .int)]) [0, 1] rfl
  refine va_calli (va_runV (As := []) (rest := []) ⟨hx, hb, hml, hown, hts⟩ (c_Ta_isShut l s.heap dC dI cJ cI t0 ka aa ba sa (.ref g0) (t_ko T) (t_ao T) (t_bo T) (t_so T) (t_tn T) (t_kc T) (t_bc T) (t_shc T) (t_kp T) (t_shp T) (t_pa T) (t_pb T) (t_sht T)  hPc hsh) (cwV 0 hts (gw_V gk_403 gk_404 gk_405 gk_5 gk_406) rfl rfl rfl (by decide +kernel) ⟨Nat.le_of_ble_eq_true rfl, Nat.le_of_ble_eq_true rfl⟩) ⟨fun a U g mk q => ⟨q.1, q.2.1, va_K.moved (u := U) (U := U.calling g mk a) (Vm.Alike.refl U.vm) q.2.2⟩, va_recv hK hP (ci := 4) (q0 := 1) rfl rfl, fun U hU hW => ⟨rfl, hU, va_K.moved hW.alike hKc⟩⟩ rfl rfl hl.1 rfl (lv_room (Nat.le_of_ble_eq_true rfl)) d_BB_expectShut_11 ⟨Nat.le_of_ble_eq_true rfl, Nat.le_of_ble_eq_true rfl⟩) hS (fun q _ h => h.elim) (fun q h => h.elim) (fun r11 u9 t9 H1 locs ht hvm hw hB hz1 hk1 hS => ?_)
  obtain rfl : s.heap = H1 := hB.symm.trans ht
  have h11 := hw
  refine lv_if_ne (tgt := 27) hx hb d_BB_expectShut_14 (by decide) (fun c_1 => ?_) (fun c_1 => ?_)
  · -- taken
    have b11 := bz_t h11 c_1
    refine vx_ret ?_
    refine W.widen (k := 1) (n := 6) (by decide) (by decide) ?_
    exact W.vret hx hb hr (fun t ht hW => ⟨⟨(), rfl, b11, ht⟩, hS.F ht⟩) hS.2.2 d_BB_expectShut_27
  · -- not taken
    have b11 := bz_f h11 c_1
    exact thr hx hb hnt 226 "it is not closed" hts hown (by decide) gk_387 gk_15 xa_S1 xa_S2 xa_S3 hZx (by decide) hS (hl.1.trans hml.symm) d_BB_expectShut_17 d_BB_expectShut_20 d_BB_expectShut_21 d_BB_expectShut_23 d_BB_expectShut_26 htab (Nat.le_of_ble_eq_true rfl) (Nat.le_of_ble_eq_true rfl) (Nat.le_of_ble_eq_true rfl) (Nat.le_of_ble_eq_true rfl) hlocks (fun t9 hal9 hsz9 hkp9 => ⟨(), trivial, ⟨rfl, b11⟩, hS.Fx hsz9 hkp9⟩) (fun z hz => hS.2.2 z hz) (Nat.le_of_ble_eq_true rfl) (Nat.le_of_ble_eq_true rfl)
abbrev b_BB_expectShareDue : ByteArray := prog_1_method_22_code
abbrev y_BB_expectShareDue : MethodName := ⟨"BallotBoard", "expectShareDue", "(I)V"⟩
abbrev w_BB_expectShareDue : List Cond := .code y_BB_expectShareDue b_BB_expectShareDue 2 none :: gw
theorem d_BB_expectShareDue_0 : decode b_BB_expectShareDue 0 = .ok (.aload_n 0, 1) := by decide +kernel
theorem d_BB_expectShareDue_1 : decode b_BB_expectShareDue 1 = .ok (.invokevirtual 132, 3) := by decide +kernel
theorem d_BB_expectShareDue_4 : decode b_BB_expectShareDue 4 = .ok (.aload_n 0, 1) := by decide +kernel
theorem d_BB_expectShareDue_5 : decode b_BB_expectShareDue 5 = .ok (.getfield 31, 3) := by decide +kernel
theorem d_BB_expectShareDue_8 : decode b_BB_expectShareDue 8 = .ok (.iload_n 1, 1) := by decide +kernel
theorem d_BB_expectShareDue_9 : decode b_BB_expectShareDue 9 = .ok (.invokevirtual 228, 3) := by decide +kernel
theorem d_BB_expectShareDue_12 : decode b_BB_expectShareDue 12 = .ok (.ifCond .eq 13, 3) := by decide +kernel
theorem d_BB_expectShareDue_15 : decode b_BB_expectShareDue 15 = .ok (.new 139, 3) := by decide +kernel
theorem d_BB_expectShareDue_18 : decode b_BB_expectShareDue 18 = .ok (.dup, 1) := by decide +kernel
theorem d_BB_expectShareDue_19 : decode b_BB_expectShareDue 19 = .ok (.ldc 231, 2) := by decide +kernel
theorem d_BB_expectShareDue_21 : decode b_BB_expectShareDue 21 = .ok (.invokespecial 143, 3) := by decide +kernel
theorem d_BB_expectShareDue_24 : decode b_BB_expectShareDue 24 = .ok (.athrow, 1) := by decide +kernel
theorem d_BB_expectShareDue_25 : decode b_BB_expectShareDue 25 = .ok (.return_, 1) := by decide +kernel
set_option maxHeartbeats 8000000 in
set_option maxRecDepth 100000 in
theorem c_BB_expectShareDue_g (l : Launch) (hnt : l.stackTraces = false) (H0 : Heap) (dC : Nat → ClassId) (dI : Nat → Nat → Nat) (cJ cI cR : ClassId) (b0 bd0 pr0 t0 au0 da : Nat) (g0 : Nat) (ka aa ba sa : Nat) (T : TS) (x1 : Int32) (hP : va_P (dC, dI) classes (bb_ws b0 bd0 pr0 t0 au0 da (.ref g0) ++ tt_ws t0 ka aa ba sa (.ref g0) cJ T) H0) (hsh : t_sht T = 0 ∨ t_sht T = 1) (htn : t_tn T ≤ 4) (hso61 : ∀ j, t_so T j < 2 ^ 61) : vx_Met l y_BB_expectShareDue w_BB_expectShareDue ({ frames := 7, cells := 2, slots := 12, locals := 102 }) (va_Pc [.ref b0, .int x1] (fun U => U.heap = H0 ∧ va_K (dC, dI) classes [(cJ, .long), (cI, .int), (cR, .array .long)] U ∧ xz (fun _ => False) U U.heap)) (va_Qv (fun _ : Unit => t_sht T = 1 ∧ ¬ (∃ I, x1 = nI I ∧ I < t_tn T ∧ t_so T I ≠ 0)) (fun _ t => t.heap = H0) (fun _ => False)) (vx_X (fun _ : Unit => True) (fun E _ _ => E = eS ∧ (¬ t_sht T = 1 ∨ ∃ I, x1 = nI I ∧ I < t_tn T ∧ t_so T I ≠ 0)) (fun _ => False)) 2 12 (fun _ => False) := by
  refine vx_ofW (cc := b_BB_expectShareDue) (maxL := 2) (ret := none) (by decide) rfl ?_
  intro p e s m args below meth c s₁ Bd hml htab hv
  obtain ⟨rfl, hH, hK, hZx⟩ := hv
  have hx := Bd.exec
  have hb := Bd.bytes
  have hr := Bd.returns
  have hts := atoms_spec (ws := w_BB_expectShareDue) Bd.pre
  have hown : s.vm.findClass "BallotBoard" = some m.cls := findClass_of_methodNamed Bd.named
  have hlocks := Bd.notSynchronized
  subst hH
  have hS : va_S (fun _ => False) s.heap s.heap [] := va_S.rf
  have hl := lv_entry ([.ref b0, .int x1]) (n := 2) (Nat.le_of_ble_eq_true rfl)
  rw [lg_entry_eq]
  generalize (lg_sl ([.ref b0, .int x1]) ++ List.replicate (2 - (lg_sl ([.ref b0, .int x1])).length) Slot.unset).toArray = ls at hl ⊢
  have hl : lv_has ls 2 [(0, .ref b0), (1, .int x1)] := hl
  refine lv_aload_n hx hb d_BB_expectShareDue_0 rfl (lv_at hl 0 rfl) ?_
  have hPc := hP.sub (ws' := (bb_ws b0 bd0 pr0 t0 au0 da (.ref g0) ++ tt_ws t0 ka aa ba sa (.ref g0) cJ T)) [0, 1, 2, 3, 4, 5] rfl
  have hKc := hK.sub (tys' := [(cJ, .long), (cI, .int), (cR, .array .long)]) [0, 1, 2] rfl
  have hZc : xz (fun _ => False) s s.heap := (hZx.kept hS.2.1).narrow (fun q h => h.elim)
  refine vx_callv (vx_runV (As := []) (rest := []) ⟨hx, hb, hml, hown, hts⟩ (c_BB_expectShut_g l hnt s.heap dC dI cJ cI cR b0 bd0 pr0 t0 au0 da g0 ka aa ba sa T hPc hsh) (cwV 0 hts (gw_V gk_713 gk_715 gp_26 gk_1 gk_716) rfl rfl rfl (by decide +kernel) ⟨(Nat.le_of_ble_eq_true rfl), (Nat.le_of_ble_eq_true rfl)⟩) ⟨fun a U g mk q => ⟨q.1, q.2.1, va_K.moved (u := U) (U := U.calling g mk a) (Vm.Alike.refl U.vm) q.2.2.1, xz.same (u := U) (U := U.calling g mk a) rfl q.2.2.2⟩, va_recv hK hP (ci := 7) (q0 := 0) rfl rfl, fun U hU hW => ⟨rfl, hU, va_K.moved hW.alike hKc, by rw [hU]; exact xz.warm hW hZc⟩⟩ rfl rfl hl.1 rfl (lv_room (Nat.le_of_ble_eq_true rfl)) d_BB_expectShareDue_1 ⟨(Nat.le_of_ble_eq_true rfl), (Nat.le_of_ble_eq_true rfl)⟩) hS (fun q _ h => h.elim) (fun q h => h.elim) (fun q _ h => h.elim) (fun E9 ce9 q9 u8 t9 H1 locs ht hvm hpx hbx hz1 hk1 hS hce hcv hcl => ?_) (fun u9 t9 H1 locs ht hvm hw hB hz1 hk1 hS => ?_)
  · exact vx_out (fun x hx => (htab x hx).elim) hlocks hce hcv hcl (fun t8 ht8 hal => ⟨(), trivial, (show E9 = eS ∧ (¬ t_sht T = 1 ∨ ∃ I, x1 = nI I ∧ I < t_tn T ∧ t_so T I ≠ 0) from ⟨hbx.1, Or.inl hbx.2⟩), hS.F ht8⟩) (fun z hz => hS.2.2 z hz) (Nat.le_of_ble_eq_true rfl) (Nat.le_of_ble_eq_true rfl)
  obtain rfl : s.heap = H1 := hB.symm.trans ht
  have hw1 := hw
  refine lv_aload_n hx hb d_BB_expectShareDue_4 rfl (lv_at hl 0 rfl) ?_
  refine va_get (D := (dC, dI)) (ci := 7) (v := .ref t0) (C := "BallotBoard") (T := F_BB) (N := 6) hx hb hts (fun w9 h9 => List.mem_cons_of_mem _ (i_BB w9 h9)) hown hK hP 0 rfl rfl 2 (by decide) (hts _ (List.mem_cons_of_mem _ gk_158)) (fun _ h9 => h9) rfl d_BB_expectShareDue_5 ?_
  refine lv_iload_n hx hb d_BB_expectShareDue_8 rfl (lv_at hl 1 rfl) ?_
  have hPc := hP.sub (ws' := (tl_ws t0 ka aa ba sa (.ref g0) cJ (t_ko T) (t_ao T) (t_bo T) (t_so T) (t_tn T) (t_kc T) (t_bc T) (t_shc T) (t_kp T) (t_shp T) (t_pa T) (t_pb T) (t_sht T))) [1, 2, 3, 4, 5] rfl
  have hKc := hK.sub (tys' := [(cJ, .long), (cI, .int)]) [0, 1] rfl
  refine va_calli (va_runV (As := [.int x1]) (rest := []) ⟨hx, hb, hml, hown, hts⟩ (c_Ta_hasShare l s.heap dC dI cJ cI t0 ka aa ba sa (.ref g0) (t_ko T) (t_ao T) (t_bo T) (t_so T) (t_tn T) (t_kc T) (t_bc T) (t_shc T) (t_kp T) (t_shp T) (t_pa T) (t_pb T) (t_sht T) x1 hPc (by omega) hso61) (cwV 1 hts (gw_V gk_718 gk_719 gk_720 gk_5 gk_721) rfl rfl rfl (by decide +kernel) ⟨Nat.le_of_ble_eq_true rfl, Nat.le_of_ble_eq_true rfl⟩) ⟨fun a U g mk q => ⟨q.1, q.2.1, va_K.moved (u := U) (U := U.calling g mk a) (Vm.Alike.refl U.vm) q.2.2⟩, va_recv hK hP (ci := 4) (q0 := 1) rfl rfl, fun U hU hW => ⟨rfl, hU, va_K.moved hW.alike hKc⟩⟩ rfl rfl hl.1 rfl (lv_room (Nat.le_of_ble_eq_true rfl)) d_BB_expectShareDue_9 ⟨Nat.le_of_ble_eq_true rfl, Nat.le_of_ble_eq_true rfl⟩) hS (fun q _ h => h.elim) (fun q h => h.elim) (fun r9 u9 t9 H1 locs ht hvm hw hB hz1 hk1 hS => ?_)
  obtain rfl : s.heap = H1 := hB.symm.trans ht
  have h9 := hw
  refine lv_if_eq (tgt := 25) hx hb d_BB_expectShareDue_12 (by decide) (fun c_2 => ?_) (fun c_2 => ?_)
  · -- taken
    have b9 := bz_f h9 c_2
    refine vx_ret ?_
    refine W.widen (k := 2) (n := 12) (by decide) (by decide) ?_
    exact W.vret hx hb hr (fun t ht hW => ⟨⟨(), rfl, ⟨hw1, b9⟩, ht⟩, hS.F ht⟩) hS.2.2 d_BB_expectShareDue_25
  · -- not taken
    have b9 := bz_t h9 c_2
    exact thr hx hb hnt 231 "the share is there" hts hown (by decide) gk_387 gk_15 xa_S1 xa_S2 xa_S3 hZx (by decide) hS (hl.1.trans hml.symm) d_BB_expectShareDue_15 d_BB_expectShareDue_18 d_BB_expectShareDue_19 d_BB_expectShareDue_21 d_BB_expectShareDue_24 htab (Nat.le_of_ble_eq_true rfl) (Nat.le_of_ble_eq_true rfl) (Nat.le_of_ble_eq_true rfl) (Nat.le_of_ble_eq_true rfl) hlocks (fun t9 hal9 hsz9 hkp9 => ⟨(), trivial, ⟨rfl, Or.inr b9⟩, hS.Fx hsz9 hkp9⟩) (fun z hz => hS.2.2 z hz) (Nat.le_of_ble_eq_true rfl) (Nat.le_of_ble_eq_true rfl)
abbrev b_BB_expectTrustee : ByteArray := prog_1_method_23_code
abbrev y_BB_expectTrustee : MethodName := ⟨"BallotBoard", "expectTrustee", "(I)V"⟩
abbrev w_BB_expectTrustee : List Cond := .code y_BB_expectTrustee b_BB_expectTrustee 2 none :: gw
theorem d_BB_expectTrustee_0 : decode b_BB_expectTrustee 0 = .ok (.aload_n 0, 1) := by decide +kernel
theorem d_BB_expectTrustee_1 : decode b_BB_expectTrustee 1 = .ok (.getfield 31, 3) := by decide +kernel
theorem d_BB_expectTrustee_4 : decode b_BB_expectTrustee 4 = .ok (.iload_n 1, 1) := by decide +kernel
theorem d_BB_expectTrustee_5 : decode b_BB_expectTrustee 5 = .ok (.invokevirtual 233, 3) := by decide +kernel
theorem d_BB_expectTrustee_8 : decode b_BB_expectTrustee 8 = .ok (.ifCond .ne 13, 3) := by decide +kernel
theorem d_BB_expectTrustee_11 : decode b_BB_expectTrustee 11 = .ok (.new 58, 3) := by decide +kernel
theorem d_BB_expectTrustee_14 : decode b_BB_expectTrustee 14 = .ok (.dup, 1) := by decide +kernel
theorem d_BB_expectTrustee_15 : decode b_BB_expectTrustee 15 = .ok (.ldc 236, 2) := by decide +kernel
theorem d_BB_expectTrustee_17 : decode b_BB_expectTrustee 17 = .ok (.invokespecial 62, 3) := by decide +kernel
theorem d_BB_expectTrustee_20 : decode b_BB_expectTrustee 20 = .ok (.athrow, 1) := by decide +kernel
theorem d_BB_expectTrustee_21 : decode b_BB_expectTrustee 21 = .ok (.return_, 1) := by decide +kernel
set_option maxHeartbeats 8000000 in
set_option maxRecDepth 100000 in
theorem c_BB_expectTrustee_g (l : Launch) (hnt : l.stackTraces = false) (H0 : Heap) (dC : Nat → ClassId) (dI : Nat → Nat → Nat) (cJ cI cR : ClassId) (b0 bd0 pr0 t0 au0 da : Nat) (g0 : Nat) (ka aa ba sa : Nat) (T : TS) (x1 : Int32) (hP : va_P (dC, dI) classes (bb_ws b0 bd0 pr0 t0 au0 da (.ref g0) ++ tt_ws t0 ka aa ba sa (.ref g0) cJ T) H0) (htn : t_tn T ≤ 4) : vx_Met l y_BB_expectTrustee w_BB_expectTrustee ({ frames := 6, cells := 1, slots := 6, locals := 82 }) (va_Pc [.ref b0, .int x1] (fun U => U.heap = H0 ∧ va_K (dC, dI) classes [(cJ, .long), (cI, .int), (cR, .array .long)] U ∧ xz (fun _ => False) U U.heap)) (va_Qv (fun _ : Unit => inN x1 (t_tn T)) (fun _ t => t.heap = H0) (fun _ => False)) (vx_X (fun _ : Unit => True) (fun E _ _ => E = eA ∧ ¬ inN x1 (t_tn T)) (fun _ => False)) 1 6 (fun _ => False) := by
  refine vx_ofW (cc := b_BB_expectTrustee) (maxL := 2) (ret := none) (by decide) rfl ?_
  intro p e s m args below meth c s₁ Bd hml htab hv
  obtain ⟨rfl, hH, hK, hZx⟩ := hv
  have hx := Bd.exec
  have hb := Bd.bytes
  have hr := Bd.returns
  have hts := atoms_spec (ws := w_BB_expectTrustee) Bd.pre
  have hown : s.vm.findClass "BallotBoard" = some m.cls := findClass_of_methodNamed Bd.named
  have hlocks := Bd.notSynchronized
  subst hH
  have hS : va_S (fun _ => False) s.heap s.heap [] := va_S.rf
  have hl := lv_entry ([.ref b0, .int x1]) (n := 2) (Nat.le_of_ble_eq_true rfl)
  rw [lg_entry_eq]
  generalize (lg_sl ([.ref b0, .int x1]) ++ List.replicate (2 - (lg_sl ([.ref b0, .int x1])).length) Slot.unset).toArray = ls at hl ⊢
  have hl : lv_has ls 2 [(0, .ref b0), (1, .int x1)] := hl
  refine lv_aload_n hx hb d_BB_expectTrustee_0 rfl (lv_at hl 0 rfl) ?_
  refine va_get (D := (dC, dI)) (ci := 7) (v := .ref t0) (C := "BallotBoard") (T := F_BB) (N := 6) hx hb hts (fun w9 h9 => List.mem_cons_of_mem _ (i_BB w9 h9)) hown hK hP 0 rfl rfl 2 (by decide) (hts _ (List.mem_cons_of_mem _ gk_158)) (fun _ h9 => h9) rfl d_BB_expectTrustee_1 ?_
  refine lv_iload_n hx hb d_BB_expectTrustee_4 rfl (lv_at hl 1 rfl) ?_
  have hPc := hP.sub (ws' := (tl_ws t0 ka aa ba sa (.ref g0) cJ (t_ko T) (t_ao T) (t_bo T) (t_so T) (t_tn T) (t_kc T) (t_bc T) (t_shc T) (t_kp T) (t_shp T) (t_pa T) (t_pb T) (t_sht T))) [1, 2, 3, 4, 5] rfl
  have hKc := hK.sub (tys' := [(cJ, .long), (cI, .int)]) [0, 1] rfl
  refine va_calli (va_runV (As := [.int x1]) (rest := []) ⟨hx, hb, hml, hown, hts⟩ (c_Ta_hasTrustee l s.heap dC dI cJ cI t0 ka aa ba sa (.ref g0) (t_ko T) (t_ao T) (t_bo T) (t_so T) (t_tn T) (t_kc T) (t_bc T) (t_shc T) (t_kp T) (t_shp T) (t_pa T) (t_pb T) (t_sht T) x1 hPc (by omega)) (cwV 1 hts (gw_V gk_421 gk_413 gk_414 gk_5 gk_415) rfl rfl rfl (by decide +kernel) ⟨Nat.le_of_ble_eq_true rfl, Nat.le_of_ble_eq_true rfl⟩) ⟨fun a U g mk q => ⟨q.1, q.2.1, va_K.moved (u := U) (U := U.calling g mk a) (Vm.Alike.refl U.vm) q.2.2⟩, va_recv hK hP (ci := 4) (q0 := 1) rfl rfl, fun U hU hW => ⟨rfl, hU, va_K.moved hW.alike hKc⟩⟩ rfl rfl hl.1 rfl (lv_room (Nat.le_of_ble_eq_true rfl)) d_BB_expectTrustee_5 ⟨Nat.le_of_ble_eq_true rfl, Nat.le_of_ble_eq_true rfl⟩) hS (fun q _ h => h.elim) (fun q h => h.elim) (fun r5 u9 t9 H1 locs ht hvm hw hB hz1 hk1 hS => ?_)
  obtain rfl : s.heap = H1 := hB.symm.trans ht
  have h5 := hw
  refine lv_if_ne (tgt := 21) hx hb d_BB_expectTrustee_8 (by decide) (fun c_1 => ?_) (fun c_1 => ?_)
  · -- taken
    have b5 := bz_t h5 c_1
    refine vx_ret ?_
    refine W.widen (k := 1) (n := 6) (by decide) (by decide) ?_
    exact W.vret hx hb hr (fun t ht hW => ⟨⟨(), rfl, b5, ht⟩, hS.F ht⟩) hS.2.2 d_BB_expectTrustee_21
  · -- not taken
    have b5 := bz_f h5 c_1
    exact thr hx hb hnt 236 "there is no such trustee" hts hown (by decide) gk_279 gk_13 xa_A1 xa_A2 xa_A3 hZx (by decide) hS (hl.1.trans hml.symm) d_BB_expectTrustee_11 d_BB_expectTrustee_14 d_BB_expectTrustee_15 d_BB_expectTrustee_17 d_BB_expectTrustee_20 htab (Nat.le_of_ble_eq_true rfl) (Nat.le_of_ble_eq_true rfl) (Nat.le_of_ble_eq_true rfl) (Nat.le_of_ble_eq_true rfl) hlocks (fun t9 hal9 hsz9 hkp9 => ⟨(), trivial, ⟨rfl, b5⟩, hS.Fx hsz9 hkp9⟩) (fun z hz => hS.2.2 z hz) (Nat.le_of_ble_eq_true rfl) (Nat.le_of_ble_eq_true rfl)
abbrev b_BB_expectVoter : ByteArray := prog_1_method_24_code
abbrev y_BB_expectVoter : MethodName := ⟨"BallotBoard", "expectVoter", "(I)V"⟩
abbrev w_BB_expectVoter : List Cond := .code y_BB_expectVoter b_BB_expectVoter 2 none :: gw
theorem d_BB_expectVoter_0 : decode b_BB_expectVoter 0 = .ok (.iload_n 1, 1) := by decide +kernel
theorem d_BB_expectVoter_1 : decode b_BB_expectVoter 1 = .ok (.ifCond .lt 9, 3) := by decide +kernel
theorem d_BB_expectVoter_4 : decode b_BB_expectVoter 4 = .ok (.iload_n 1, 1) := by decide +kernel
theorem d_BB_expectVoter_5 : decode b_BB_expectVoter 5 = .ok (.bipush 64, 2) := by decide +kernel
theorem d_BB_expectVoter_7 : decode b_BB_expectVoter 7 = .ok (.if_icmp .lt 13, 3) := by decide +kernel
theorem d_BB_expectVoter_10 : decode b_BB_expectVoter 10 = .ok (.new 58, 3) := by decide +kernel
theorem d_BB_expectVoter_13 : decode b_BB_expectVoter 13 = .ok (.dup, 1) := by decide +kernel
theorem d_BB_expectVoter_14 : decode b_BB_expectVoter 14 = .ok (.ldc 238, 2) := by decide +kernel
theorem d_BB_expectVoter_16 : decode b_BB_expectVoter 16 = .ok (.invokespecial 62, 3) := by decide +kernel
theorem d_BB_expectVoter_19 : decode b_BB_expectVoter 19 = .ok (.athrow, 1) := by decide +kernel
theorem d_BB_expectVoter_20 : decode b_BB_expectVoter 20 = .ok (.return_, 1) := by decide +kernel
set_option maxHeartbeats 8000000 in
set_option maxRecDepth 100000 in
theorem c_BB_expectVoter_g (l : Launch) (hnt : l.stackTraces = false) (H0 : Heap) (dC : Nat → ClassId) (dI : Nat → Nat → Nat) (cJ cI cR : ClassId) (b0 bd0 pr0 t0 au0 da : Nat) (g0 : Nat) (x1 : Int32) (hP : va_P (dC, dI) classes (bb_ws b0 bd0 pr0 t0 au0 da (.ref g0)) H0)  : vx_Met l y_BB_expectVoter w_BB_expectVoter ({ frames := 6, cells := 1, slots := 6, locals := 82 }) (va_Pc [.ref b0, .int x1] (fun U => U.heap = H0 ∧ va_K (dC, dI) classes [(cJ, .long), (cI, .int), (cR, .array .long)] U ∧ xz (fun _ => False) U U.heap)) (va_Qv (fun _ : Unit => inN x1 64) (fun _ t => t.heap = H0) (fun _ => False)) (vx_X (fun _ : Unit => True) (fun E _ _ => E = eA ∧ ¬ inN x1 64) (fun _ => False)) 1 6 (fun _ => False) := by
  refine vx_ofW (cc := b_BB_expectVoter) (maxL := 2) (ret := none) (by decide) rfl ?_
  intro p e s m args below meth c s₁ Bd hml htab hv
  obtain ⟨rfl, hH, hK, hZx⟩ := hv
  have hx := Bd.exec
  have hb := Bd.bytes
  have hr := Bd.returns
  have hts := atoms_spec (ws := w_BB_expectVoter) Bd.pre
  have hown : s.vm.findClass "BallotBoard" = some m.cls := findClass_of_methodNamed Bd.named
  have hlocks := Bd.notSynchronized
  subst hH
  have hS : va_S (fun _ => False) s.heap s.heap [] := va_S.rf
  have hl := lv_entry ([.ref b0, .int x1]) (n := 2) (Nat.le_of_ble_eq_true rfl)
  rw [lg_entry_eq]
  generalize (lg_sl ([.ref b0, .int x1]) ++ List.replicate (2 - (lg_sl ([.ref b0, .int x1])).length) Slot.unset).toArray = ls at hl ⊢
  have hl : lv_has ls 2 [(0, .ref b0), (1, .int x1)] := hl
  refine lv_iload_n hx hb d_BB_expectVoter_0 rfl (lv_at hl 1 rfl) ?_
  refine lv_if_lt (tgt := 10) hx hb d_BB_expectVoter_1 (by decide) (fun c_1 => ?_) (fun c_1 => ?_)
  · -- taken
    have hbad : ¬ inN x1 64 := inN_neg (by omega) c_1
    exact thr hx hb hnt 238 "there is no such voter" hts hown (by decide) gk_279 gk_13 xa_A1 xa_A2 xa_A3 hZx (by decide) hS (hl.1.trans hml.symm) d_BB_expectVoter_10 d_BB_expectVoter_13 d_BB_expectVoter_14 d_BB_expectVoter_16 d_BB_expectVoter_19 htab (Nat.le_of_ble_eq_true rfl) (Nat.le_of_ble_eq_true rfl) (Nat.le_of_ble_eq_true rfl) (Nat.le_of_ble_eq_true rfl) hlocks (fun t9 hal9 hsz9 hkp9 => ⟨(), trivial, ⟨rfl, hbad⟩, hS.Fx hsz9 hkp9⟩) (fun z hz => hS.2.2 z hz) (Nat.le_of_ble_eq_true rfl) (Nat.le_of_ble_eq_true rfl)
  · -- not taken
    obtain ⟨I, hI31, rfl⟩ := i_nn c_1
    refine lv_iload_n hx hb d_BB_expectVoter_4 rfl (lv_at hl 1 rfl) ?_
    refine lv_bipush (v := 64) hx hb d_BB_expectVoter_5 (by decide) ?_
    refine lv_icmp_lt (tgt := 20) hx hb d_BB_expectVoter_7 (by decide) (fun c_2 => ?_) (fun c_2 => ?_)
    · -- taken
      have hgood : inN (nI I) 64 := ⟨I, rfl, (nI_ltI (by omega) (by omega)).mp (show nI I < nI 64 from c_2)⟩
      refine vx_ret ?_
      refine W.widen (k := 1) (n := 6) (by decide) (by decide) ?_
      exact W.vret hx hb hr (fun t ht hW => ⟨⟨(), rfl, hgood, ht⟩, hS.F ht⟩) hS.2.2 d_BB_expectVoter_20
    · -- not taken
      have hbad : ¬ inN (nI I) 64 := inN_big hI31 (by omega) (Nat.le_of_not_lt (fun h => c_2 (show nI I < nI 64 from (nI_ltI (by omega) (by omega)).mpr h)))
      exact thr hx hb hnt 238 "there is no such voter" hts hown (by decide) gk_279 gk_13 xa_A1 xa_A2 xa_A3 hZx (by decide) hS (hl.1.trans hml.symm) d_BB_expectVoter_10 d_BB_expectVoter_13 d_BB_expectVoter_14 d_BB_expectVoter_16 d_BB_expectVoter_19 htab (Nat.le_of_ble_eq_true rfl) (Nat.le_of_ble_eq_true rfl) (Nat.le_of_ble_eq_true rfl) (Nat.le_of_ble_eq_true rfl) hlocks (fun t9 hal9 hsz9 hkp9 => ⟨(), trivial, ⟨rfl, hbad⟩, hS.Fx hsz9 hkp9⟩) (fun z hz => hS.2.2 z hz) (Nat.le_of_ble_eq_true rfl) (Nat.le_of_ble_eq_true rfl)
abbrev b_BB_expectExponents : ByteArray := prog_1_method_25_code
abbrev y_BB_expectExponents : MethodName := ⟨"BallotBoard", "expectExponents", "(JJ)V"⟩
abbrev w_BB_expectExponents : List Cond := .code y_BB_expectExponents b_BB_expectExponents 5 none :: gw
theorem d_BB_expectExponents_0 : decode b_BB_expectExponents 0 = .ok (.aload_n 0, 1) := by decide +kernel
theorem d_BB_expectExponents_1 : decode b_BB_expectExponents 1 = .ok (.getfield 48, 3) := by decide +kernel
theorem d_BB_expectExponents_4 : decode b_BB_expectExponents 4 = .ok (.lload_n 1, 1) := by decide +kernel
theorem d_BB_expectExponents_5 : decode b_BB_expectExponents 5 = .ok (.invokevirtual 240, 3) := by decide +kernel
theorem d_BB_expectExponents_8 : decode b_BB_expectExponents 8 = .ok (.ifCond .eq 14, 3) := by decide +kernel
theorem d_BB_expectExponents_11 : decode b_BB_expectExponents 11 = .ok (.aload_n 0, 1) := by decide +kernel
theorem d_BB_expectExponents_12 : decode b_BB_expectExponents 12 = .ok (.getfield 48, 3) := by decide +kernel
theorem d_BB_expectExponents_15 : decode b_BB_expectExponents 15 = .ok (.lload_n 3, 1) := by decide +kernel
theorem d_BB_expectExponents_16 : decode b_BB_expectExponents 16 = .ok (.invokevirtual 240, 3) := by decide +kernel
theorem d_BB_expectExponents_19 : decode b_BB_expectExponents 19 = .ok (.ifCond .ne 13, 3) := by decide +kernel
theorem d_BB_expectExponents_22 : decode b_BB_expectExponents 22 = .ok (.new 58, 3) := by decide +kernel
theorem d_BB_expectExponents_25 : decode b_BB_expectExponents 25 = .ok (.dup, 1) := by decide +kernel
theorem d_BB_expectExponents_26 : decode b_BB_expectExponents 26 = .ok (.ldc 244, 2) := by decide +kernel
theorem d_BB_expectExponents_28 : decode b_BB_expectExponents 28 = .ok (.invokespecial 62, 3) := by decide +kernel
theorem d_BB_expectExponents_31 : decode b_BB_expectExponents 31 = .ok (.athrow, 1) := by decide +kernel
theorem d_BB_expectExponents_32 : decode b_BB_expectExponents 32 = .ok (.return_, 1) := by decide +kernel
set_option maxHeartbeats 8000000 in
set_option maxRecDepth 100000 in
theorem c_BB_expectExponents_g (l : Launch) (hnt : l.stackTraces = false) (H0 : Heap) (dC : Nat → ClassId) (dI : Nat → Nat → Nat) (cJ cI cR : ClassId) (b0 bd0 pr0 t0 au0 da : Nat) (g0 mF mE P f1 k1 Q f2 k2 G : Nat) (x1 x2 : Int64) (hP : va_P (dC, dI) classes (bb_ws b0 bd0 pr0 t0 au0 da (.ref g0) ++ gp_ws g0 mF mE P f1 k1 Q f2 k2 G) H0) (hok : gp_ok P f1 k1 Q f2 k2 G) : vx_Met l y_BB_expectExponents w_BB_expectExponents ({ frames := 6, cells := 1, slots := 6, locals := 82 }) (va_Pc [.ref b0, .long x1, .long x2] (fun U => U.heap = H0 ∧ va_K (dC, dI) classes [(cJ, .long), (cI, .int), (cR, .array .long)] U ∧ xz (fun _ => False) U U.heap)) (va_Qv (fun _ : Unit => in_ex Q x1 ∧ in_ex Q x2) (fun _ t => t.heap = H0) (fun _ => False)) (vx_X (fun _ : Unit => True) (fun E _ _ => E = eA ∧ ¬ (in_ex Q x1 ∧ in_ex Q x2)) (fun _ => False)) 1 6 (fun _ => False) := by
  refine vx_ofW (cc := b_BB_expectExponents) (maxL := 5) (ret := none) (by decide) rfl ?_
  intro p e s m args below meth c s₁ Bd hml htab hv
  obtain ⟨rfl, hH, hK, hZx⟩ := hv
  have hx := Bd.exec
  have hb := Bd.bytes
  have hr := Bd.returns
  have hts := atoms_spec (ws := w_BB_expectExponents) Bd.pre
  have hown : s.vm.findClass "BallotBoard" = some m.cls := findClass_of_methodNamed Bd.named
  have hlocks := Bd.notSynchronized
  subst hH
  have hS : va_S (fun _ => False) s.heap s.heap [] := va_S.rf
  have hl := lv_entry ([.ref b0, .long x1, .long x2]) (n := 5) (Nat.le_of_ble_eq_true rfl)
  rw [lg_entry_eq]
  generalize (lg_sl ([.ref b0, .long x1, .long x2]) ++ List.replicate (5 - (lg_sl ([.ref b0, .long x1, .long x2])).length) Slot.unset).toArray = ls at hl ⊢
  have hl : lv_has ls 5 [(0, .ref b0), (1, .long x1), (3, .long x2)] := hl
  refine lv_aload_n hx hb d_BB_expectExponents_0 rfl (lv_at hl 0 rfl) ?_
  refine va_get (D := (dC, dI)) (ci := 7) (v := .ref g0) (C := "BallotBoard") (T := F_BB) (N := 6) hx hb hts (fun w9 h9 => List.mem_cons_of_mem _ (i_BB w9 h9)) hown hK hP 0 rfl rfl 5 (by decide) (hts _ (List.mem_cons_of_mem _ gk_161)) (fun _ h9 => h9) rfl d_BB_expectExponents_1 ?_
  refine lv_lload_n hx hb d_BB_expectExponents_4 rfl (lv_at hl 1 rfl) ?_
  have hPc := hP.sub (ws' := (gp_ws g0 mF mE P f1 k1 Q f2 k2 G)) [1, 2, 3] rfl
  have hKc := hK.sub (tys' := []) [] rfl
  refine va_calli (va_runV (As := [.long x1]) (rest := []) ⟨hx, hb, hml, hown, hts⟩ (c_Gr_hasExponent l s.heap dC dI g0 mF mE P f1 k1 Q f2 k2 G x1 hPc hok ) (cwV 1 hts (gw_V gk_610 gk_445 gk_446 gk_8 gk_447) rfl rfl rfl (by decide +kernel) ⟨Nat.le_of_ble_eq_true rfl, Nat.le_of_ble_eq_true rfl⟩) ⟨fun a U g mk q => ⟨q.1, q.2.1, va_K.moved (u := U) (U := U.calling g mk a) (Vm.Alike.refl U.vm) q.2.2⟩, va_recv hK hP (ci := 1) (q0 := 1) rfl rfl, fun U hU hW => ⟨rfl, hU, va_K.moved hW.alike hKc⟩⟩ rfl rfl hl.1 rfl (lv_room (Nat.le_of_ble_eq_true rfl)) d_BB_expectExponents_5 ⟨Nat.le_of_ble_eq_true rfl, Nat.le_of_ble_eq_true rfl⟩) hS (fun q _ h => h.elim) (fun q h => h.elim) (fun r5 u9 t9 H1 locs ht hvm hw hB hz1 hk1 hS => ?_)
  obtain rfl : s.heap = H1 := hB.symm.trans ht
  have h5 := hw
  refine lv_if_eq (tgt := 22) hx hb d_BB_expectExponents_8 (by decide) (fun c_1 => ?_) (fun c_1 => ?_)
  · -- taken
    have hbad : ¬ (in_ex Q x1 ∧ in_ex Q x2) := fun h => bz_f h5 c_1 h.1
    exact thr hx hb hnt 244 "no exponent" hts hown (by decide) gk_279 gk_13 xa_A1 xa_A2 xa_A3 hZx (by decide) hS (hl.1.trans hml.symm) d_BB_expectExponents_22 d_BB_expectExponents_25 d_BB_expectExponents_26 d_BB_expectExponents_28 d_BB_expectExponents_31 htab (Nat.le_of_ble_eq_true rfl) (Nat.le_of_ble_eq_true rfl) (Nat.le_of_ble_eq_true rfl) (Nat.le_of_ble_eq_true rfl) hlocks (fun t9 hal9 hsz9 hkp9 => ⟨(), trivial, ⟨rfl, hbad⟩, hS.Fx hsz9 hkp9⟩) (fun z hz => hS.2.2 z hz) (Nat.le_of_ble_eq_true rfl) (Nat.le_of_ble_eq_true rfl)
  · -- not taken
    have b5 := bz_t h5 c_1
    refine lv_aload_n hx hb d_BB_expectExponents_11 rfl (lv_at hl 0 rfl) ?_
    refine va_get (D := (dC, dI)) (ci := 7) (v := .ref g0) (C := "BallotBoard") (T := F_BB) (N := 6) hx hb hts (fun w9 h9 => List.mem_cons_of_mem _ (i_BB w9 h9)) hown hK hP 0 rfl rfl 5 (by decide) (hts _ (List.mem_cons_of_mem _ gk_161)) (fun _ h9 => h9) rfl d_BB_expectExponents_12 ?_
    refine lv_lload_n hx hb d_BB_expectExponents_15 rfl (lv_at hl 2 rfl) ?_
    have hPc := hP.sub (ws' := (gp_ws g0 mF mE P f1 k1 Q f2 k2 G)) [1, 2, 3] rfl
    have hKc := hK.sub (tys' := []) [] rfl
    refine va_calli (va_runV (As := [.long x2]) (rest := []) ⟨hx, hb, hml, hown, hts⟩ (c_Gr_hasExponent l s.heap dC dI g0 mF mE P f1 k1 Q f2 k2 G x2 hPc hok ) (cwV 1 hts (gw_V gk_610 gk_445 gk_446 gk_8 gk_447) rfl rfl rfl (by decide +kernel) ⟨Nat.le_of_ble_eq_true rfl, Nat.le_of_ble_eq_true rfl⟩) ⟨fun a U g mk q => ⟨q.1, q.2.1, va_K.moved (u := U) (U := U.calling g mk a) (Vm.Alike.refl U.vm) q.2.2⟩, va_recv hK hP (ci := 1) (q0 := 1) rfl rfl, fun U hU hW => ⟨rfl, hU, va_K.moved hW.alike hKc⟩⟩ rfl rfl hl.1 rfl (lv_room (Nat.le_of_ble_eq_true rfl)) d_BB_expectExponents_16 ⟨Nat.le_of_ble_eq_true rfl, Nat.le_of_ble_eq_true rfl⟩) hS (fun q _ h => h.elim) (fun q h => h.elim) (fun r16 u9 t9 H1 locs ht hvm hw hB hz1 hk1 hS => ?_)
    obtain rfl : s.heap = H1 := hB.symm.trans ht
    have h16 := hw
    refine lv_if_ne (tgt := 32) hx hb d_BB_expectExponents_19 (by decide) (fun c_2 => ?_) (fun c_2 => ?_)
    · -- taken
      have b16 := bz_t h16 c_2
      refine vx_ret ?_
      refine W.widen (k := 1) (n := 6) (by decide) (by decide) ?_
      exact W.vret hx hb hr (fun t ht hW => ⟨⟨(), rfl, ⟨b5, b16⟩, ht⟩, hS.F ht⟩) hS.2.2 d_BB_expectExponents_32
    · -- not taken
      have hbad : ¬ (in_ex Q x1 ∧ in_ex Q x2) := fun h => bz_f h16 c_2 h.2
      exact thr hx hb hnt 244 "no exponent" hts hown (by decide) gk_279 gk_13 xa_A1 xa_A2 xa_A3 hZx (by decide) hS (hl.1.trans hml.symm) d_BB_expectExponents_22 d_BB_expectExponents_25 d_BB_expectExponents_26 d_BB_expectExponents_28 d_BB_expectExponents_31 htab (Nat.le_of_ble_eq_true rfl) (Nat.le_of_ble_eq_true rfl) (Nat.le_of_ble_eq_true rfl) (Nat.le_of_ble_eq_true rfl) hlocks (fun t9 hal9 hsz9 hkp9 => ⟨(), trivial, ⟨rfl, hbad⟩, hS.Fx hsz9 hkp9⟩) (fun z hz => hS.2.2 z hz) (Nat.le_of_ble_eq_true rfl) (Nat.le_of_ble_eq_true rfl)
set_option maxHeartbeats 8000000 in
set_option maxRecDepth 100000 in
theorem c_BB_expectGroup_n (l : Launch) (hnt : l.stackTraces = false) (H0 : Heap) (dC : Nat → ClassId) (dI : Nat → Nat → Nat) (cJ cI cR : ClassId) (b0 bd0 pr0 t0 au0 da : Nat) (hP : va_P (dC, dI) classes (bb_ws b0 bd0 pr0 t0 au0 da .null) H0)  : vx_Met l y_BB_expectGroup w_BB_expectGroup ({ frames := 6, cells := 1, slots := 6, locals := 82 }) (va_Pc [.ref b0] (fun U => U.heap = H0 ∧ va_K (dC, dI) classes [(cJ, .long), (cI, .int), (cR, .array .long)] U ∧ xz (fun _ => False) U U.heap)) (va_Qv (fun _ : Unit => False) (fun _ t => t.heap = H0) (fun _ => False)) (vx_X (fun _ : Unit => True) (fun E _ _ => E = eS) (fun _ => False)) 1 6 (fun _ => False) := by
  refine vx_ofW (cc := b_BB_expectGroup) (maxL := 1) (ret := none) (by decide) rfl ?_
  intro p e s m args below meth c s₁ Bd hml htab hv
  obtain ⟨rfl, hH, hK, hZx⟩ := hv
  have hx := Bd.exec
  have hb := Bd.bytes
  have hr := Bd.returns
  have hts := atoms_spec (ws := w_BB_expectGroup) Bd.pre
  have hown : s.vm.findClass "BallotBoard" = some m.cls := findClass_of_methodNamed Bd.named
  have hlocks := Bd.notSynchronized
  subst hH
  have hS : va_S (fun _ => False) s.heap s.heap [] := va_S.rf
  have hl := lv_entry ([.ref b0]) (n := 1) (Nat.le_of_ble_eq_true rfl)
  rw [lg_entry_eq]
  generalize (lg_sl ([.ref b0]) ++ List.replicate (1 - (lg_sl ([.ref b0])).length) Slot.unset).toArray = ls at hl ⊢
  have hl : lv_has ls 1 [(0, .ref b0)] := hl
  refine lv_aload_n hx hb d_BB_expectGroup_0 rfl (lv_at hl 0 rfl) ?_
  refine va_get (D := (dC, dI)) (ci := 7) (v := .null) (C := "BallotBoard") (T := F_BB) (N := 6) hx hb hts (fun w9 h9 => List.mem_cons_of_mem _ (i_BB w9 h9)) hown hK hP 0 rfl rfl 5 (by decide) (hts _ (List.mem_cons_of_mem _ gk_161)) (fun _ h9 => h9) rfl d_BB_expectGroup_1 ?_
  refine lv_ifnonnullN hx hb d_BB_expectGroup_4 ?_
  exact thr hx hb hnt 206 "there is no group" hts hown (by decide) gk_387 gk_15 xa_S1 xa_S2 xa_S3 hZx (by decide) hS (hl.1.trans hml.symm) d_BB_expectGroup_7 d_BB_expectGroup_10 d_BB_expectGroup_11 d_BB_expectGroup_13 d_BB_expectGroup_16 htab (Nat.le_of_ble_eq_true rfl) (Nat.le_of_ble_eq_true rfl) (Nat.le_of_ble_eq_true rfl) (Nat.le_of_ble_eq_true rfl) hlocks (fun t9 hal9 hsz9 hkp9 => ⟨(), trivial, rfl, hS.Fx hsz9 hkp9⟩) (fun z hz => hS.2.2 z hz) (Nat.le_of_ble_eq_true rfl) (Nat.le_of_ble_eq_true rfl)
set_option maxHeartbeats 8000000 in
set_option maxRecDepth 100000 in
theorem c_BB_expectOpen_n (l : Launch) (hnt : l.stackTraces = false) (H0 : Heap) (dC : Nat → ClassId) (dI : Nat → Nat → Nat) (cJ cI cR : ClassId) (b0 bd0 pr0 t0 au0 da : Nat) (hP : va_P (dC, dI) classes (bb_ws b0 bd0 pr0 t0 au0 da .null) H0)  : vx_Met l y_BB_expectOpen w_BB_expectOpen ({ frames := 7, cells := 1, slots := 6, locals := 102 }) (va_Pc [.ref b0] (fun U => U.heap = H0 ∧ va_K (dC, dI) classes [(cJ, .long), (cI, .int), (cR, .array .long)] U ∧ xz (fun _ => False) U U.heap)) (va_Qv (fun _ : Unit => False) (fun _ t => t.heap = H0) (fun _ => False)) (vx_X (fun _ : Unit => True) (fun E _ _ => E = eS) (fun _ => False)) 1 6 (fun _ => False) := by
  refine vx_ofW (cc := b_BB_expectOpen) (maxL := 1) (ret := none) (by decide) rfl ?_
  intro p e s m args below meth c s₁ Bd hml htab hv
  obtain ⟨rfl, hH, hK, hZx⟩ := hv
  have hx := Bd.exec
  have hb := Bd.bytes
  have hr := Bd.returns
  have hts := atoms_spec (ws := w_BB_expectOpen) Bd.pre
  have hown : s.vm.findClass "BallotBoard" = some m.cls := findClass_of_methodNamed Bd.named
  have hlocks := Bd.notSynchronized
  subst hH
  have hS : va_S (fun _ => False) s.heap s.heap [] := va_S.rf
  have hl := lv_entry ([.ref b0]) (n := 1) (Nat.le_of_ble_eq_true rfl)
  rw [lg_entry_eq]
  generalize (lg_sl ([.ref b0]) ++ List.replicate (1 - (lg_sl ([.ref b0])).length) Slot.unset).toArray = ls at hl ⊢
  have hl : lv_has ls 1 [(0, .ref b0)] := hl
  refine lv_aload_n hx hb d_BB_expectOpen_0 rfl (lv_at hl 0 rfl) ?_
  have hPc := hP.sub (ws' := (bb_ws b0 bd0 pr0 t0 au0 da .null)) [0] rfl
  have hKc := hK.sub (tys' := [(cJ, .long), (cI, .int), (cR, .array .long)]) [0, 1, 2] rfl
  have hZc : xz (fun _ => False) s s.heap := (hZx.kept hS.2.1).narrow (fun q h => h.elim)
  refine vx_callv (vx_runV (As := []) (rest := []) ⟨hx, hb, hml, hown, hts⟩ (c_BB_expectGroup_n l hnt s.heap dC dI cJ cI cR b0 bd0 pr0 t0 au0 da hPc ) (cwV 0 hts (gw_V gk_383 gk_385 gp_5 gk_1 gk_386) rfl rfl rfl (by decide +kernel) ⟨(Nat.le_of_ble_eq_true rfl), (Nat.le_of_ble_eq_true rfl)⟩) ⟨fun a U g mk q => ⟨q.1, q.2.1, va_K.moved (u := U) (U := U.calling g mk a) (Vm.Alike.refl U.vm) q.2.2.1, xz.same (u := U) (U := U.calling g mk a) rfl q.2.2.2⟩, va_recv hK hP (ci := 7) (q0 := 0) rfl rfl, fun U hU hW => ⟨rfl, hU, va_K.moved hW.alike hKc, by rw [hU]; exact xz.warm hW hZc⟩⟩ rfl rfl hl.1 rfl (lv_room (Nat.le_of_ble_eq_true rfl)) d_BB_expectOpen_1 ⟨(Nat.le_of_ble_eq_true rfl), (Nat.le_of_ble_eq_true rfl)⟩) hS (fun q _ h => h.elim) (fun q h => h.elim) (fun q _ h => h.elim) (fun E9 ce9 q9 u8 t9 H1 locs ht hvm hpx hbx hz1 hk1 hS hce hcv hcl => ?_) (fun u9 t9 H1 locs ht hvm hw hB hz1 hk1 hS => ?_)
  · exact vx_out (fun x hx => (htab x hx).elim) hlocks hce hcv hcl (fun t8 ht8 hal => ⟨(), trivial, (show E9 = eS from hbx), hS.F ht8⟩) (fun z hz => hS.2.2 z hz) (Nat.le_of_ble_eq_true rfl) (Nat.le_of_ble_eq_true rfl)
  obtain rfl : s.heap = H1 := hB.symm.trans ht
  have hw1 := hw
  exact (show False from hw1).elim
set_option maxHeartbeats 8000000 in
set_option maxRecDepth 100000 in
theorem c_BB_expectKeyDue_n (l : Launch) (hnt : l.stackTraces = false) (H0 : Heap) (dC : Nat → ClassId) (dI : Nat → Nat → Nat) (cJ cI cR : ClassId) (b0 bd0 pr0 t0 au0 da : Nat) (x1 : Int32) (hP : va_P (dC, dI) classes (bb_ws b0 bd0 pr0 t0 au0 da .null) H0)  : vx_Met l y_BB_expectKeyDue w_BB_expectKeyDue ({ frames := 8, cells := 1, slots := 6, locals := 122 }) (va_Pc [.ref b0, .int x1] (fun U => U.heap = H0 ∧ va_K (dC, dI) classes [(cJ, .long), (cI, .int), (cR, .array .long)] U ∧ xz (fun _ => False) U U.heap)) (va_Qv (fun _ : Unit => False) (fun _ t => t.heap = H0) (fun _ => False)) (vx_X (fun _ : Unit => True) (fun E _ _ => E = eS) (fun _ => False)) 1 6 (fun _ => False) := by
  refine vx_ofW (cc := b_BB_expectKeyDue) (maxL := 2) (ret := none) (by decide) rfl ?_
  intro p e s m args below meth c s₁ Bd hml htab hv
  obtain ⟨rfl, hH, hK, hZx⟩ := hv
  have hx := Bd.exec
  have hb := Bd.bytes
  have hr := Bd.returns
  have hts := atoms_spec (ws := w_BB_expectKeyDue) Bd.pre
  have hown : s.vm.findClass "BallotBoard" = some m.cls := findClass_of_methodNamed Bd.named
  have hlocks := Bd.notSynchronized
  subst hH
  have hS : va_S (fun _ => False) s.heap s.heap [] := va_S.rf
  have hl := lv_entry ([.ref b0, .int x1]) (n := 2) (Nat.le_of_ble_eq_true rfl)
  rw [lg_entry_eq]
  generalize (lg_sl ([.ref b0, .int x1]) ++ List.replicate (2 - (lg_sl ([.ref b0, .int x1])).length) Slot.unset).toArray = ls at hl ⊢
  have hl : lv_has ls 2 [(0, .ref b0), (1, .int x1)] := hl
  refine lv_aload_n hx hb d_BB_expectKeyDue_0 rfl (lv_at hl 0 rfl) ?_
  have hPc := hP.sub (ws' := (bb_ws b0 bd0 pr0 t0 au0 da .null)) [0] rfl
  have hKc := hK.sub (tys' := [(cJ, .long), (cI, .int), (cR, .array .long)]) [0, 1, 2] rfl
  have hZc : xz (fun _ => False) s s.heap := (hZx.kept hS.2.1).narrow (fun q h => h.elim)
  refine vx_callv (vx_runV (As := []) (rest := []) ⟨hx, hb, hml, hown, hts⟩ (c_BB_expectOpen_n l hnt s.heap dC dI cJ cI cR b0 bd0 pr0 t0 au0 da hPc ) (cwV 0 hts (gw_V gk_379 gk_381 gp_4 gk_1 gk_382) rfl rfl rfl (by decide +kernel) ⟨(Nat.le_of_ble_eq_true rfl), (Nat.le_of_ble_eq_true rfl)⟩) ⟨fun a U g mk q => ⟨q.1, q.2.1, va_K.moved (u := U) (U := U.calling g mk a) (Vm.Alike.refl U.vm) q.2.2.1, xz.same (u := U) (U := U.calling g mk a) rfl q.2.2.2⟩, va_recv hK hP (ci := 7) (q0 := 0) rfl rfl, fun U hU hW => ⟨rfl, hU, va_K.moved hW.alike hKc, by rw [hU]; exact xz.warm hW hZc⟩⟩ rfl rfl hl.1 rfl (lv_room (Nat.le_of_ble_eq_true rfl)) d_BB_expectKeyDue_1 ⟨(Nat.le_of_ble_eq_true rfl), (Nat.le_of_ble_eq_true rfl)⟩) hS (fun q _ h => h.elim) (fun q h => h.elim) (fun q _ h => h.elim) (fun E9 ce9 q9 u8 t9 H1 locs ht hvm hpx hbx hz1 hk1 hS hce hcv hcl => ?_) (fun u9 t9 H1 locs ht hvm hw hB hz1 hk1 hS => ?_)
  · exact vx_out (fun x hx => (htab x hx).elim) hlocks hce hcv hcl (fun t8 ht8 hal => ⟨(), trivial, (show E9 = eS from hbx), hS.F ht8⟩) (fun z hz => hS.2.2 z hz) (Nat.le_of_ble_eq_true rfl) (Nat.le_of_ble_eq_true rfl)
  obtain rfl : s.heap = H1 := hB.symm.trans ht
  have hw1 := hw
  exact (show False from hw1).elim
set_option maxHeartbeats 8000000 in
set_option maxRecDepth 100000 in
theorem c_BB_expectOpenWithKeys_n (l : Launch) (hnt : l.stackTraces = false) (H0 : Heap) (dC : Nat → ClassId) (dI : Nat → Nat → Nat) (cJ cI cR : ClassId) (b0 bd0 pr0 t0 au0 da : Nat) (hP : va_P (dC, dI) classes (bb_ws b0 bd0 pr0 t0 au0 da .null) H0)  : vx_Met l y_BB_expectOpenWithKeys w_BB_expectOpenWithKeys ({ frames := 8, cells := 1, slots := 6, locals := 122 }) (va_Pc [.ref b0] (fun U => U.heap = H0 ∧ va_K (dC, dI) classes [(cJ, .long), (cI, .int), (cR, .array .long)] U ∧ xz (fun _ => False) U U.heap)) (va_Qv (fun _ : Unit => False) (fun _ t => t.heap = H0) (fun _ => False)) (vx_X (fun _ : Unit => True) (fun E _ _ => E = eS) (fun _ => False)) 1 6 (fun _ => False) := by
  refine vx_ofW (cc := b_BB_expectOpenWithKeys) (maxL := 1) (ret := none) (by decide) rfl ?_
  intro p e s m args below meth c s₁ Bd hml htab hv
  obtain ⟨rfl, hH, hK, hZx⟩ := hv
  have hx := Bd.exec
  have hb := Bd.bytes
  have hr := Bd.returns
  have hts := atoms_spec (ws := w_BB_expectOpenWithKeys) Bd.pre
  have hown : s.vm.findClass "BallotBoard" = some m.cls := findClass_of_methodNamed Bd.named
  have hlocks := Bd.notSynchronized
  subst hH
  have hS : va_S (fun _ => False) s.heap s.heap [] := va_S.rf
  have hl := lv_entry ([.ref b0]) (n := 1) (Nat.le_of_ble_eq_true rfl)
  rw [lg_entry_eq]
  generalize (lg_sl ([.ref b0]) ++ List.replicate (1 - (lg_sl ([.ref b0])).length) Slot.unset).toArray = ls at hl ⊢
  have hl : lv_has ls 1 [(0, .ref b0)] := hl
  refine lv_aload_n hx hb d_BB_expectOpenWithKeys_0 rfl (lv_at hl 0 rfl) ?_
  have hPc := hP.sub (ws' := (bb_ws b0 bd0 pr0 t0 au0 da .null)) [0] rfl
  have hKc := hK.sub (tys' := [(cJ, .long), (cI, .int), (cR, .array .long)]) [0, 1, 2] rfl
  have hZc : xz (fun _ => False) s s.heap := (hZx.kept hS.2.1).narrow (fun q h => h.elim)
  refine vx_callv (vx_runV (As := []) (rest := []) ⟨hx, hb, hml, hown, hts⟩ (c_BB_expectOpen_n l hnt s.heap dC dI cJ cI cR b0 bd0 pr0 t0 au0 da hPc ) (cwV 0 hts (gw_V gk_379 gk_381 gp_4 gk_1 gk_382) rfl rfl rfl (by decide +kernel) ⟨(Nat.le_of_ble_eq_true rfl), (Nat.le_of_ble_eq_true rfl)⟩) ⟨fun a U g mk q => ⟨q.1, q.2.1, va_K.moved (u := U) (U := U.calling g mk a) (Vm.Alike.refl U.vm) q.2.2.1, xz.same (u := U) (U := U.calling g mk a) rfl q.2.2.2⟩, va_recv hK hP (ci := 7) (q0 := 0) rfl rfl, fun U hU hW => ⟨rfl, hU, va_K.moved hW.alike hKc, by rw [hU]; exact xz.warm hW hZc⟩⟩ rfl rfl hl.1 rfl (lv_room (Nat.le_of_ble_eq_true rfl)) d_BB_expectOpenWithKeys_1 ⟨(Nat.le_of_ble_eq_true rfl), (Nat.le_of_ble_eq_true rfl)⟩) hS (fun q _ h => h.elim) (fun q h => h.elim) (fun q _ h => h.elim) (fun E9 ce9 q9 u8 t9 H1 locs ht hvm hpx hbx hz1 hk1 hS hce hcv hcl => ?_) (fun u9 t9 H1 locs ht hvm hw hB hz1 hk1 hS => ?_)
  · exact vx_out (fun x hx => (htab x hx).elim) hlocks hce hcv hcl (fun t8 ht8 hal => ⟨(), trivial, (show E9 = eS from hbx), hS.F ht8⟩) (fun z hz => hS.2.2 z hz) (Nat.le_of_ble_eq_true rfl) (Nat.le_of_ble_eq_true rfl)
  obtain rfl : s.heap = H1 := hB.symm.trans ht
  have hw1 := hw
  exact (show False from hw1).elim
set_option maxHeartbeats 8000000 in
set_option maxRecDepth 100000 in
theorem c_BB_expectBallotDue_n (l : Launch) (hnt : l.stackTraces = false) (H0 : Heap) (dC : Nat → ClassId) (dI : Nat → Nat → Nat) (cJ cI cR : ClassId) (b0 bd0 pr0 t0 au0 da : Nat) (hP : va_P (dC, dI) classes (bb_ws b0 bd0 pr0 t0 au0 da .null) H0)  : vx_Met l y_BB_expectBallotDue w_BB_expectBallotDue ({ frames := 9, cells := 1, slots := 6, locals := 142 }) (va_Pc [.ref b0] (fun U => U.heap = H0 ∧ va_K (dC, dI) classes [(cJ, .long), (cI, .int), (cR, .array .long)] U ∧ xz (fun _ => False) U U.heap)) (va_Qv (fun _ : Unit => False) (fun _ t => t.heap = H0) (fun _ => False)) (vx_X (fun _ : Unit => True) (fun E _ _ => E = eS) (fun _ => False)) 1 6 (fun _ => False) := by
  refine vx_ofW (cc := b_BB_expectBallotDue) (maxL := 1) (ret := none) (by decide) rfl ?_
  intro p e s m args below meth c s₁ Bd hml htab hv
  obtain ⟨rfl, hH, hK, hZx⟩ := hv
  have hx := Bd.exec
  have hb := Bd.bytes
  have hr := Bd.returns
  have hts := atoms_spec (ws := w_BB_expectBallotDue) Bd.pre
  have hown : s.vm.findClass "BallotBoard" = some m.cls := findClass_of_methodNamed Bd.named
  have hlocks := Bd.notSynchronized
  subst hH
  have hS : va_S (fun _ => False) s.heap s.heap [] := va_S.rf
  have hl := lv_entry ([.ref b0]) (n := 1) (Nat.le_of_ble_eq_true rfl)
  rw [lg_entry_eq]
  generalize (lg_sl ([.ref b0]) ++ List.replicate (1 - (lg_sl ([.ref b0])).length) Slot.unset).toArray = ls at hl ⊢
  have hl : lv_has ls 1 [(0, .ref b0)] := hl
  refine lv_aload_n hx hb d_BB_expectBallotDue_0 rfl (lv_at hl 0 rfl) ?_
  have hPc := hP.sub (ws' := (bb_ws b0 bd0 pr0 t0 au0 da .null)) [0] rfl
  have hKc := hK.sub (tys' := [(cJ, .long), (cI, .int), (cR, .array .long)]) [0, 1, 2] rfl
  have hZc : xz (fun _ => False) s s.heap := (hZx.kept hS.2.1).narrow (fun q h => h.elim)
  refine vx_callv (vx_runV (As := []) (rest := []) ⟨hx, hb, hml, hown, hts⟩ (c_BB_expectOpenWithKeys_n l hnt s.heap dC dI cJ cI cR b0 bd0 pr0 t0 au0 da hPc ) (cwV 0 hts (gw_V gk_636 gk_638 gp_23 gk_1 gk_639) rfl rfl rfl (by decide +kernel) ⟨(Nat.le_of_ble_eq_true rfl), (Nat.le_of_ble_eq_true rfl)⟩) ⟨fun a U g mk q => ⟨q.1, q.2.1, va_K.moved (u := U) (U := U.calling g mk a) (Vm.Alike.refl U.vm) q.2.2.1, xz.same (u := U) (U := U.calling g mk a) rfl q.2.2.2⟩, va_recv hK hP (ci := 7) (q0 := 0) rfl rfl, fun U hU hW => ⟨rfl, hU, va_K.moved hW.alike hKc, by rw [hU]; exact xz.warm hW hZc⟩⟩ rfl rfl hl.1 rfl (lv_room (Nat.le_of_ble_eq_true rfl)) d_BB_expectBallotDue_1 ⟨(Nat.le_of_ble_eq_true rfl), (Nat.le_of_ble_eq_true rfl)⟩) hS (fun q _ h => h.elim) (fun q h => h.elim) (fun q _ h => h.elim) (fun E9 ce9 q9 u8 t9 H1 locs ht hvm hpx hbx hz1 hk1 hS hce hcv hcl => ?_) (fun u9 t9 H1 locs ht hvm hw hB hz1 hk1 hS => ?_)
  · exact vx_out (fun x hx => (htab x hx).elim) hlocks hce hcv hcl (fun t8 ht8 hal => ⟨(), trivial, (show E9 = eS from hbx), hS.F ht8⟩) (fun z hz => hS.2.2 z hz) (Nat.le_of_ble_eq_true rfl) (Nat.le_of_ble_eq_true rfl)
  obtain rfl : s.heap = H1 := hB.symm.trans ht
  have hw1 := hw
  exact (show False from hw1).elim
set_option maxHeartbeats 8000000 in
set_option maxRecDepth 100000 in
theorem c_BB_expectShut_n (l : Launch) (hnt : l.stackTraces = false) (H0 : Heap) (dC : Nat → ClassId) (dI : Nat → Nat → Nat) (cJ cI cR : ClassId) (b0 bd0 pr0 t0 au0 da : Nat) (hP : va_P (dC, dI) classes (bb_ws b0 bd0 pr0 t0 au0 da .null) H0)  : vx_Met l y_BB_expectShut w_BB_expectShut ({ frames := 6, cells := 1, slots := 6, locals := 82 }) (va_Pc [.ref b0] (fun U => U.heap = H0 ∧ va_K (dC, dI) classes [(cJ, .long), (cI, .int), (cR, .array .long)] U ∧ xz (fun _ => False) U U.heap)) (va_Qv (fun _ : Unit => False) (fun _ t => t.heap = H0) (fun _ => False)) (vx_X (fun _ : Unit => True) (fun E _ _ => E = eS) (fun _ => False)) 1 6 (fun _ => False) := by
  refine vx_ofW (cc := b_BB_expectShut) (maxL := 1) (ret := none) (by decide) rfl ?_
  intro p e s m args below meth c s₁ Bd hml htab hv
  obtain ⟨rfl, hH, hK, hZx⟩ := hv
  have hx := Bd.exec
  have hb := Bd.bytes
  have hr := Bd.returns
  have hts := atoms_spec (ws := w_BB_expectShut) Bd.pre
  have hown : s.vm.findClass "BallotBoard" = some m.cls := findClass_of_methodNamed Bd.named
  have hlocks := Bd.notSynchronized
  subst hH
  have hS : va_S (fun _ => False) s.heap s.heap [] := va_S.rf
  have hl := lv_entry ([.ref b0]) (n := 1) (Nat.le_of_ble_eq_true rfl)
  rw [lg_entry_eq]
  generalize (lg_sl ([.ref b0]) ++ List.replicate (1 - (lg_sl ([.ref b0])).length) Slot.unset).toArray = ls at hl ⊢
  have hl : lv_has ls 1 [(0, .ref b0)] := hl
  refine lv_aload_n hx hb d_BB_expectShut_0 rfl (lv_at hl 0 rfl) ?_
  refine va_get (D := (dC, dI)) (ci := 7) (v := .null) (C := "BallotBoard") (T := F_BB) (N := 6) hx hb hts (fun w9 h9 => List.mem_cons_of_mem _ (i_BB w9 h9)) hown hK hP 0 rfl rfl 5 (by decide) (hts _ (List.mem_cons_of_mem _ gk_161)) (fun _ h9 => h9) rfl d_BB_expectShut_1 ?_
  refine lv_ifnullN (tgt := 17) hx hb d_BB_expectShut_4 (by decide) ?_
  exact thr hx hb hnt 226 "it is not closed" hts hown (by decide) gk_387 gk_15 xa_S1 xa_S2 xa_S3 hZx (by decide) hS (hl.1.trans hml.symm) d_BB_expectShut_17 d_BB_expectShut_20 d_BB_expectShut_21 d_BB_expectShut_23 d_BB_expectShut_26 htab (Nat.le_of_ble_eq_true rfl) (Nat.le_of_ble_eq_true rfl) (Nat.le_of_ble_eq_true rfl) (Nat.le_of_ble_eq_true rfl) hlocks (fun t9 hal9 hsz9 hkp9 => ⟨(), trivial, rfl, hS.Fx hsz9 hkp9⟩) (fun z hz => hS.2.2 z hz) (Nat.le_of_ble_eq_true rfl) (Nat.le_of_ble_eq_true rfl)
set_option maxHeartbeats 8000000 in
set_option maxRecDepth 100000 in
theorem c_BB_expectShareDue_n (l : Launch) (hnt : l.stackTraces = false) (H0 : Heap) (dC : Nat → ClassId) (dI : Nat → Nat → Nat) (cJ cI cR : ClassId) (b0 bd0 pr0 t0 au0 da : Nat) (x1 : Int32) (hP : va_P (dC, dI) classes (bb_ws b0 bd0 pr0 t0 au0 da .null) H0)  : vx_Met l y_BB_expectShareDue w_BB_expectShareDue ({ frames := 7, cells := 1, slots := 6, locals := 102 }) (va_Pc [.ref b0, .int x1] (fun U => U.heap = H0 ∧ va_K (dC, dI) classes [(cJ, .long), (cI, .int), (cR, .array .long)] U ∧ xz (fun _ => False) U U.heap)) (va_Qv (fun _ : Unit => False) (fun _ t => t.heap = H0) (fun _ => False)) (vx_X (fun _ : Unit => True) (fun E _ _ => E = eS) (fun _ => False)) 1 6 (fun _ => False) := by
  refine vx_ofW (cc := b_BB_expectShareDue) (maxL := 2) (ret := none) (by decide) rfl ?_
  intro p e s m args below meth c s₁ Bd hml htab hv
  obtain ⟨rfl, hH, hK, hZx⟩ := hv
  have hx := Bd.exec
  have hb := Bd.bytes
  have hr := Bd.returns
  have hts := atoms_spec (ws := w_BB_expectShareDue) Bd.pre
  have hown : s.vm.findClass "BallotBoard" = some m.cls := findClass_of_methodNamed Bd.named
  have hlocks := Bd.notSynchronized
  subst hH
  have hS : va_S (fun _ => False) s.heap s.heap [] := va_S.rf
  have hl := lv_entry ([.ref b0, .int x1]) (n := 2) (Nat.le_of_ble_eq_true rfl)
  rw [lg_entry_eq]
  generalize (lg_sl ([.ref b0, .int x1]) ++ List.replicate (2 - (lg_sl ([.ref b0, .int x1])).length) Slot.unset).toArray = ls at hl ⊢
  have hl : lv_has ls 2 [(0, .ref b0), (1, .int x1)] := hl
  refine lv_aload_n hx hb d_BB_expectShareDue_0 rfl (lv_at hl 0 rfl) ?_
  have hPc := hP.sub (ws' := (bb_ws b0 bd0 pr0 t0 au0 da .null)) [0] rfl
  have hKc := hK.sub (tys' := [(cJ, .long), (cI, .int), (cR, .array .long)]) [0, 1, 2] rfl
  have hZc : xz (fun _ => False) s s.heap := (hZx.kept hS.2.1).narrow (fun q h => h.elim)
  refine vx_callv (vx_runV (As := []) (rest := []) ⟨hx, hb, hml, hown, hts⟩ (c_BB_expectShut_n l hnt s.heap dC dI cJ cI cR b0 bd0 pr0 t0 au0 da hPc ) (cwV 0 hts (gw_V gk_713 gk_715 gp_26 gk_1 gk_716) rfl rfl rfl (by decide +kernel) ⟨(Nat.le_of_ble_eq_true rfl), (Nat.le_of_ble_eq_true rfl)⟩) ⟨fun a U g mk q => ⟨q.1, q.2.1, va_K.moved (u := U) (U := U.calling g mk a) (Vm.Alike.refl U.vm) q.2.2.1, xz.same (u := U) (U := U.calling g mk a) rfl q.2.2.2⟩, va_recv hK hP (ci := 7) (q0 := 0) rfl rfl, fun U hU hW => ⟨rfl, hU, va_K.moved hW.alike hKc, by rw [hU]; exact xz.warm hW hZc⟩⟩ rfl rfl hl.1 rfl (lv_room (Nat.le_of_ble_eq_true rfl)) d_BB_expectShareDue_1 ⟨(Nat.le_of_ble_eq_true rfl), (Nat.le_of_ble_eq_true rfl)⟩) hS (fun q _ h => h.elim) (fun q h => h.elim) (fun q _ h => h.elim) (fun E9 ce9 q9 u8 t9 H1 locs ht hvm hpx hbx hz1 hk1 hS hce hcv hcl => ?_) (fun u9 t9 H1 locs ht hvm hw hB hz1 hk1 hS => ?_)
  · exact vx_out (fun x hx => (htab x hx).elim) hlocks hce hcv hcl (fun t8 ht8 hal => ⟨(), trivial, (show E9 = eS from hbx), hS.F ht8⟩) (fun z hz => hS.2.2 z hz) (Nat.le_of_ble_eq_true rfl) (Nat.le_of_ble_eq_true rfl)
  obtain rfl : s.heap = H1 := hB.symm.trans ht
  have hw1 := hw
  exact (show False from hw1).elim
