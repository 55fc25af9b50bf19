set_option maxHeartbeats 8000000 in
set_option maxRecDepth 100000 in
theorem c_BB_key_n (l : Launch) (hnt : l.stackTraces = false) (H0 : Heap) (dC : Nat → ClassId) (dI : Nat → Nat → Nat) (cJ cI cR : ClassId) (b0 bd0 pr0 t0 au0 da : Nat) (x1 : Int32) (x2 : Int64) (x3 : Int64) (x4 : Int64) (hP : va_P (dC, dI) classes (bb_ws b0 bd0 pr0 t0 au0 da .null) H0)  : vx_Met l y_BB_key w_BB_key ({ frames := 9, cells := 1, slots := 6, locals := 143 }) (va_Pc [.ref b0, .int x1, .long x2, .long x3, .long x4] (fun U => U.heap = H0 ∧ va_K (dC, dI) classes [(cJ, .long), (cI, .int), (cR, .array .long)] U ∧ xz (fun _ => False) U U.heap)) (va_Qi (fun (r : Int32) (_ : Unit) => False) (fun _ t => t.heap = H0) (fun _ => False)) (vx_X (fun _ : Unit => True) (fun E _ _ => E = eS) (fun _ => False)) 1 6 (fun _ => False) := by
  refine vx_ofW (cc := b_BB_key) (maxL := 8) (ret := (some .int)) (by decide) rfl ?_
  intro p e s m args below meth c s₁ Bd hml htab hv
  obtain ⟨rfl, hH, hK, hZx⟩ := hv
  have hx := Bd.exec
  have hb := Bd.bytes
  have hr := Bd.returns
  have hts := atoms_spec (ws := w_BB_key) Bd.pre
  have hown : s.vm.findClass "BallotBoard" = some m.cls := findClass_of_methodNamed Bd.named
  have hlocks := Bd.notSynchronized
  subst hH
  have hS : va_S (fun _ => False) s.heap s.heap [] := va_S.rf
  have hl := lv_entry ([.ref b0, .int x1, .long x2, .long x3, .long x4]) (n := 8) (Nat.le_of_ble_eq_true rfl)
  rw [lg_entry_eq]
  generalize (lg_sl ([.ref b0, .int x1, .long x2, .long x3, .long x4]) ++ List.replicate (8 - (lg_sl ([.ref b0, .int x1, .long x2, .long x3, .long x4])).length) Slot.unset).toArray = ls at hl ⊢
  have hl : lv_has ls 8 [(0, .ref b0), (1, .int x1), (2, .long x2), (4, .long x3), (6, .long x4)] := hl
  refine lv_aload_n hx hb d_BB_key_0 rfl (lv_at hl 0 rfl) ?_
  refine lv_iload_n hx hb d_BB_key_1 rfl (lv_at hl 1 rfl) ?_
  have hPc := hP.sub (ws' := (bb_ws b0 bd0 pr0 t0 au0 da .null)) [0] rfl
  have hKc := hK.sub (tys' := [(cJ, .long), (cI, .int), (cR, .array .long)]) [0, 1, 2] rfl
  have hZc : xz (fun _ => False) s s.heap := (hZx.kept hS.2.1).narrow (fun q h => h.elim)
  refine vx_callv (vx_runV (As := [.int x1]) (rest := []) ⟨hx, hb, hml, hown, hts⟩ (c_BB_expectKeyDue_n l hnt s.heap dC dI cJ cI cR b0 bd0 pr0 t0 au0 da x1 hPc ) (cwV 1 hts (gw_V gk_375 gk_377 gp_3 gk_1 gk_378) rfl rfl rfl (by decide +kernel) ⟨(Nat.le_of_ble_eq_true rfl), (Nat.le_of_ble_eq_true rfl)⟩) ⟨fun a U g mk q => ⟨q.1, q.2.1, va_K.moved (u := U) (U := U.calling g mk a) (Vm.Alike.refl U.vm) q.2.2.1, xz.same (u := U) (U := U.calling g mk a) rfl q.2.2.2⟩, va_recv hK hP (ci := 7) (q0 := 0) rfl rfl, fun U hU hW => ⟨rfl, hU, va_K.moved hW.alike hKc, by rw [hU]; exact xz.warm hW hZc⟩⟩ rfl rfl hl.1 rfl (lv_room (Nat.le_of_ble_eq_true rfl)) d_BB_key_2 ⟨(Nat.le_of_ble_eq_true rfl), (Nat.le_of_ble_eq_true rfl)⟩) hS (fun q _ h => h.elim) (fun q h => h.elim) (fun q _ h => h.elim) (fun E9 ce9 q9 u8 t9 H1 locs ht hvm hpx hbx hz1 hk1 hS hce hcv hcl => ?_) (fun u9 t9 H1 locs ht hvm hw hB hz1 hk1 hS => ?_)
  · exact vx_out (fun x hx => (htab x hx).elim) hlocks hce hcv hcl (fun t8 ht8 hal => ⟨(), trivial, (show E9 = eS from hbx), hS.F ht8⟩) (fun z hz => hS.2.2 z hz) (Nat.le_of_ble_eq_true rfl) (Nat.le_of_ble_eq_true rfl)
  obtain rfl : s.heap = H1 := hB.symm.trans ht
  have hw2 := hw
  exact (show False from hw2).elim
set_option maxHeartbeats 8000000 in
set_option maxRecDepth 100000 in
theorem c_BB_makeKey_n (l : Launch) (hnt : l.stackTraces = false) (H0 : Heap) (dC : Nat → ClassId) (dI : Nat → Nat → Nat) (cJ cI cR : ClassId) (b0 bd0 pr0 t0 au0 da : Nat) (x1 : Int32) (x2 : Int64) (x3 : Int64) (hP : va_P (dC, dI) classes (bb_ws b0 bd0 pr0 t0 au0 da .null) H0)  : vx_Met l y_BB_makeKey w_BB_makeKey ({ frames := 9, cells := 1, slots := 6, locals := 143 }) (va_Pc [.ref b0, .int x1, .long x2, .long x3] (fun U => U.heap = H0 ∧ va_K (dC, dI) classes [(cJ, .long), (cI, .int), (cR, .array .long)] U ∧ xz (fun _ => False) U U.heap)) (va_Qi (fun (r : Int32) (_ : Unit) => False) (fun _ t => t.heap = H0) (fun _ => False)) (vx_X (fun _ : Unit => True) (fun E _ _ => E = eS) (fun _ => False)) 1 6 (fun _ => False) := by
  refine vx_ofW (cc := b_BB_makeKey) (maxL := 6) (ret := (some .int)) (by decide) rfl ?_
  intro p e s m args below meth c s₁ Bd hml htab hv
  obtain ⟨rfl, hH, hK, hZx⟩ := hv
  have hx := Bd.exec
  have hb := Bd.bytes
  have hr := Bd.returns
  have hts := atoms_spec (ws := w_BB_makeKey) Bd.pre
  have hown : s.vm.findClass "BallotBoard" = some m.cls := findClass_of_methodNamed Bd.named
  have hlocks := Bd.notSynchronized
  subst hH
  have hS : va_S (fun _ => False) s.heap s.heap [] := va_S.rf
  have hl := lv_entry ([.ref b0, .int x1, .long x2, .long x3]) (n := 6) (Nat.le_of_ble_eq_true rfl)
  rw [lg_entry_eq]
  generalize (lg_sl ([.ref b0, .int x1, .long x2, .long x3]) ++ List.replicate (6 - (lg_sl ([.ref b0, .int x1, .long x2, .long x3])).length) Slot.unset).toArray = ls at hl ⊢
  have hl : lv_has ls 6 [(0, .ref b0), (1, .int x1), (2, .long x2), (4, .long x3)] := hl
  refine lv_aload_n hx hb d_BB_makeKey_0 rfl (lv_at hl 0 rfl) ?_
  refine lv_iload_n hx hb d_BB_makeKey_1 rfl (lv_at hl 1 rfl) ?_
  have hPc := hP.sub (ws' := (bb_ws b0 bd0 pr0 t0 au0 da .null)) [0] rfl
  have hKc := hK.sub (tys' := [(cJ, .long), (cI, .int), (cR, .array .long)]) [0, 1, 2] rfl
  have hZc : xz (fun _ => False) s s.heap := (hZx.kept hS.2.1).narrow (fun q h => h.elim)
  refine vx_callv (vx_runV (As := [.int x1]) (rest := []) ⟨hx, hb, hml, hown, hts⟩ (c_BB_expectKeyDue_n l hnt s.heap dC dI cJ cI cR b0 bd0 pr0 t0 au0 da x1 hPc ) (cwV 1 hts (gw_V gk_375 gk_377 gp_3 gk_1 gk_378) rfl rfl rfl (by decide +kernel) ⟨(Nat.le_of_ble_eq_true rfl), (Nat.le_of_ble_eq_true rfl)⟩) ⟨fun a U g mk q => ⟨q.1, q.2.1, va_K.moved (u := U) (U := U.calling g mk a) (Vm.Alike.refl U.vm) q.2.2.1, xz.same (u := U) (U := U.calling g mk a) rfl q.2.2.2⟩, va_recv hK hP (ci := 7) (q0 := 0) rfl rfl, fun U hU hW => ⟨rfl, hU, va_K.moved hW.alike hKc, by rw [hU]; exact xz.warm hW hZc⟩⟩ rfl rfl hl.1 rfl (lv_room (Nat.le_of_ble_eq_true rfl)) d_BB_makeKey_2 ⟨(Nat.le_of_ble_eq_true rfl), (Nat.le_of_ble_eq_true rfl)⟩) hS (fun q _ h => h.elim) (fun q h => h.elim) (fun q _ h => h.elim) (fun E9 ce9 q9 u8 t9 H1 locs ht hvm hpx hbx hz1 hk1 hS hce hcv hcl => ?_) (fun u9 t9 H1 locs ht hvm hw hB hz1 hk1 hS => ?_)
  · exact vx_out (fun x hx => (htab x hx).elim) hlocks hce hcv hcl (fun t8 ht8 hal => ⟨(), trivial, (show E9 = eS from hbx), hS.F ht8⟩) (fun z hz => hS.2.2 z hz) (Nat.le_of_ble_eq_true rfl) (Nat.le_of_ble_eq_true rfl)
  obtain rfl : s.heap = H1 := hB.symm.trans ht
  have hw2 := hw
  exact (show False from hw2).elim
set_option maxHeartbeats 8000000 in
set_option maxRecDepth 100000 in
theorem c_BB_ballot_n (l : Launch) (hnt : l.stackTraces = false) (H0 : Heap) (dC : Nat → ClassId) (dI : Nat → Nat → Nat) (cJ cI cR : ClassId) (b0 bd0 pr0 t0 au0 da : Nat) (x1 : Int32) (x2 : Int64) (x3 : Int64) (x4 : Int64) (x5 : Int64) (x6 : Int64) (x7 : Int64) (hP : va_P (dC, dI) classes (bb_ws b0 bd0 pr0 t0 au0 da .null) H0)  : vx_Met l y_BB_ballot w_BB_ballot ({ frames := 10, cells := 1, slots := 6, locals := 162 }) (va_Pc [.ref b0, .int x1, .long x2, .long x3, .long x4, .long x5, .long x6, .long x7] (fun U => U.heap = H0 ∧ va_K (dC, dI) classes [(cJ, .long), (cI, .int), (cR, .array .long)] U ∧ xz (fun _ => False) U U.heap)) (va_Qi (fun (r : Int32) (_ : Unit) => False) (fun _ t => t.heap = H0) (fun _ => False)) (vx_X (fun _ : Unit => True) (fun E _ _ => E = eS) (fun _ => False)) 1 6 (fun _ => False) := by
  refine vx_ofW (cc := b_BB_ballot) (maxL := 14) (ret := (some .int)) (by decide) rfl ?_
  intro p e s m args below meth c s₁ Bd hml htab hv
  obtain ⟨rfl, hH, hK, hZx⟩ := hv
  have hx := Bd.exec
  have hb := Bd.bytes
  have hr := Bd.returns
  have hts := atoms_spec (ws := w_BB_ballot) Bd.pre
  have hown : s.vm.findClass "BallotBoard" = some m.cls := findClass_of_methodNamed Bd.named
  have hlocks := Bd.notSynchronized
  subst hH
  have hS : va_S (fun _ => False) s.heap s.heap [] := va_S.rf
  have hl := lv_entry ([.ref b0, .int x1, .long x2, .long x3, .long x4, .long x5, .long x6, .long x7]) (n := 14) (Nat.le_of_ble_eq_true rfl)
  rw [lg_entry_eq]
  generalize (lg_sl ([.ref b0, .int x1, .long x2, .long x3, .long x4, .long x5, .long x6, .long x7]) ++ List.replicate (14 - (lg_sl ([.ref b0, .int x1, .long x2, .long x3, .long x4, .long x5, .long x6, .long x7])).length) Slot.unset).toArray = ls at hl ⊢
  have hl : lv_has ls 14 [(0, .ref b0), (1, .int x1), (2, .long x2), (4, .long x3), (6, .long x4), (8, .long x5), (10, .long x6), (12, .long x7)] := hl
  refine lv_aload_n hx hb d_BB_ballot_0 rfl (lv_at hl 0 rfl) ?_
  have hPc := hP.sub (ws' := (bb_ws b0 bd0 pr0 t0 au0 da .null)) [0] rfl
  have hKc := hK.sub (tys' := [(cJ, .long), (cI, .int), (cR, .array .long)]) [0, 1, 2] rfl
  have hZc : xz (fun _ => False) s s.heap := (hZx.kept hS.2.1).narrow (fun q h => h.elim)
  refine vx_callv (vx_runV (As := []) (rest := []) ⟨hx, hb, hml, hown, hts⟩ (c_BB_expectBallotDue_n l hnt s.heap dC dI cJ cI cR b0 bd0 pr0 t0 au0 da hPc ) (cwV 0 hts (gw_V gk_632 gk_634 gp_22 gk_1 gk_635) rfl rfl rfl (by decide +kernel) ⟨(Nat.le_of_ble_eq_true rfl), (Nat.le_of_ble_eq_true rfl)⟩) ⟨fun a U g mk q => ⟨q.1, q.2.1, va_K.moved (u := U) (U := U.calling g mk a) (Vm.Alike.refl U.vm) q.2.2.1, xz.same (u := U) (U := U.calling g mk a) rfl q.2.2.2⟩, va_recv hK hP (ci := 7) (q0 := 0) rfl rfl, fun U hU hW => ⟨rfl, hU, va_K.moved hW.alike hKc, by rw [hU]; exact xz.warm hW hZc⟩⟩ rfl rfl hl.1 rfl (lv_room (Nat.le_of_ble_eq_true rfl)) d_BB_ballot_1 ⟨(Nat.le_of_ble_eq_true rfl), (Nat.le_of_ble_eq_true rfl)⟩) hS (fun q _ h => h.elim) (fun q h => h.elim) (fun q _ h => h.elim) (fun E9 ce9 q9 u8 t9 H1 locs ht hvm hpx hbx hz1 hk1 hS hce hcv hcl => ?_) (fun u9 t9 H1 locs ht hvm hw hB hz1 hk1 hS => ?_)
  · exact vx_out (fun x hx => (htab x hx).elim) hlocks hce hcv hcl (fun t8 ht8 hal => ⟨(), trivial, (show E9 = eS from hbx), hS.F ht8⟩) (fun z hz => hS.2.2 z hz) (Nat.le_of_ble_eq_true rfl) (Nat.le_of_ble_eq_true rfl)
  obtain rfl : s.heap = H1 := hB.symm.trans ht
  have hw1 := hw
  exact (show False from hw1).elim
set_option maxHeartbeats 8000000 in
set_option maxRecDepth 100000 in
theorem c_BB_makeBallot_n (l : Launch) (hnt : l.stackTraces = false) (H0 : Heap) (dC : Nat → ClassId) (dI : Nat → Nat → Nat) (cJ cI cR : ClassId) (b0 bd0 pr0 t0 au0 da : Nat) (x1 : Int32) (x2 : Int32) (x3 : Int64) (x4 : Int64) (x5 : Int64) (x6 : Int64) (hP : va_P (dC, dI) classes (bb_ws b0 bd0 pr0 t0 au0 da .null) H0)  : vx_Met l y_BB_makeBallot w_BB_makeBallot ({ frames := 10, cells := 1, slots := 6, locals := 162 }) (va_Pc [.ref b0, .int x1, .int x2, .long x3, .long x4, .long x5, .long x6] (fun U => U.heap = H0 ∧ va_K (dC, dI) classes [(cJ, .long), (cI, .int), (cR, .array .long)] U ∧ xz (fun _ => False) U U.heap)) (va_Qi (fun (r : Int32) (_ : Unit) => False) (fun _ t => t.heap = H0) (fun _ => False)) (vx_X (fun _ : Unit => True) (fun E _ _ => E = eS) (fun _ => False)) 1 6 (fun _ => False) := by
  refine vx_ofW (cc := b_BB_makeBallot) (maxL := 11) (ret := (some .int)) (by decide) rfl ?_
  intro p e s m args below meth c s₁ Bd hml htab hv
  obtain ⟨rfl, hH, hK, hZx⟩ := hv
  have hx := Bd.exec
  have hb := Bd.bytes
  have hr := Bd.returns
  have hts := atoms_spec (ws := w_BB_makeBallot) Bd.pre
  have hown : s.vm.findClass "BallotBoard" = some m.cls := findClass_of_methodNamed Bd.named
  have hlocks := Bd.notSynchronized
  subst hH
  have hS : va_S (fun _ => False) s.heap s.heap [] := va_S.rf
  have hl := lv_entry ([.ref b0, .int x1, .int x2, .long x3, .long x4, .long x5, .long x6]) (n := 11) (Nat.le_of_ble_eq_true rfl)
  rw [lg_entry_eq]
  generalize (lg_sl ([.ref b0, .int x1, .int x2, .long x3, .long x4, .long x5, .long x6]) ++ List.replicate (11 - (lg_sl ([.ref b0, .int x1, .int x2, .long x3, .long x4, .long x5, .long x6])).length) Slot.unset).toArray = ls at hl ⊢
  have hl : lv_has ls 11 [(0, .ref b0), (1, .int x1), (2, .int x2), (3, .long x3), (5, .long x4), (7, .long x5), (9, .long x6)] := hl
  refine lv_aload_n hx hb d_BB_makeBallot_0 rfl (lv_at hl 0 rfl) ?_
  have hPc := hP.sub (ws' := (bb_ws b0 bd0 pr0 t0 au0 da .null)) [0] rfl
  have hKc := hK.sub (tys' := [(cJ, .long), (cI, .int), (cR, .array .long)]) [0, 1, 2] rfl
  have hZc : xz (fun _ => False) s s.heap := (hZx.kept hS.2.1).narrow (fun q h => h.elim)
  refine vx_callv (vx_runV (As := []) (rest := []) ⟨hx, hb, hml, hown, hts⟩ (c_BB_expectBallotDue_n l hnt s.heap dC dI cJ cI cR b0 bd0 pr0 t0 au0 da hPc ) (cwV 0 hts (gw_V gk_632 gk_634 gp_22 gk_1 gk_635) rfl rfl rfl (by decide +kernel) ⟨(Nat.le_of_ble_eq_true rfl), (Nat.le_of_ble_eq_true rfl)⟩) ⟨fun a U g mk q => ⟨q.1, q.2.1, va_K.moved (u := U) (U := U.calling g mk a) (Vm.Alike.refl U.vm) q.2.2.1, xz.same (u := U) (U := U.calling g mk a) rfl q.2.2.2⟩, va_recv hK hP (ci := 7) (q0 := 0) rfl rfl, fun U hU hW => ⟨rfl, hU, va_K.moved hW.alike hKc, by rw [hU]; exact xz.warm hW hZc⟩⟩ rfl rfl hl.1 rfl (lv_room (Nat.le_of_ble_eq_true rfl)) d_BB_makeBallot_1 ⟨(Nat.le_of_ble_eq_true rfl), (Nat.le_of_ble_eq_true rfl)⟩) hS (fun q _ h => h.elim) (fun q h => h.elim) (fun q _ h => h.elim) (fun E9 ce9 q9 u8 t9 H1 locs ht hvm hpx hbx hz1 hk1 hS hce hcv hcl => ?_) (fun u9 t9 H1 locs ht hvm hw hB hz1 hk1 hS => ?_)
  · exact vx_out (fun x hx => (htab x hx).elim) hlocks hce hcv hcl (fun t8 ht8 hal => ⟨(), trivial, (show E9 = eS from hbx), hS.F ht8⟩) (fun z hz => hS.2.2 z hz) (Nat.le_of_ble_eq_true rfl) (Nat.le_of_ble_eq_true rfl)
  obtain rfl : s.heap = H1 := hB.symm.trans ht
  have hw1 := hw
  exact (show False from hw1).elim
set_option maxHeartbeats 8000000 in
set_option maxRecDepth 100000 in
theorem c_BB_close_n (l : Launch) (hnt : l.stackTraces = false) (H0 : Heap) (dC : Nat → ClassId) (dI : Nat → Nat → Nat) (cJ cI cR : ClassId) (b0 bd0 pr0 t0 au0 da : Nat) (hP : va_P (dC, dI) classes (bb_ws b0 bd0 pr0 t0 au0 da .null) H0)  : vx_Met l y_BB_close w_BB_close ({ frames := 9, cells := 1, slots := 6, locals := 142 }) (va_Pc [.ref b0] (fun U => U.heap = H0 ∧ va_K (dC, dI) classes [(cJ, .long), (cI, .int), (cR, .array .long)] U ∧ xz (fun _ => False) U U.heap)) (va_Qi (fun (r : Int32) (_ : Unit) => False) (fun _ t => t.heap = H0) (fun _ => False)) (vx_X (fun _ : Unit => True) (fun E _ _ => E = eS) (fun _ => False)) 1 6 (fun _ => False) := by
  refine vx_ofW (cc := b_BB_close) (maxL := 1) (ret := (some .int)) (by decide) rfl ?_
  intro p e s m args below meth c s₁ Bd hml htab hv
  obtain ⟨rfl, hH, hK, hZx⟩ := hv
  have hx := Bd.exec
  have hb := Bd.bytes
  have hr := Bd.returns
  have hts := atoms_spec (ws := w_BB_close) Bd.pre
  have hown : s.vm.findClass "BallotBoard" = some m.cls := findClass_of_methodNamed Bd.named
  have hlocks := Bd.notSynchronized
  subst hH
  have hS : va_S (fun _ => False) s.heap s.heap [] := va_S.rf
  have hl := lv_entry ([.ref b0]) (n := 1) (Nat.le_of_ble_eq_true rfl)
  rw [lg_entry_eq]
  generalize (lg_sl ([.ref b0]) ++ List.replicate (1 - (lg_sl ([.ref b0])).length) Slot.unset).toArray = ls at hl ⊢
  have hl : lv_has ls 1 [(0, .ref b0)] := hl
  refine lv_aload_n hx hb d_BB_close_0 rfl (lv_at hl 0 rfl) ?_
  have hPc := hP.sub (ws' := (bb_ws b0 bd0 pr0 t0 au0 da .null)) [0] rfl
  have hKc := hK.sub (tys' := [(cJ, .long), (cI, .int), (cR, .array .long)]) [0, 1, 2] rfl
  have hZc : xz (fun _ => False) s s.heap := (hZx.kept hS.2.1).narrow (fun q h => h.elim)
  refine vx_callv (vx_runV (As := []) (rest := []) ⟨hx, hb, hml, hown, hts⟩ (c_BB_expectOpenWithKeys_n l hnt s.heap dC dI cJ cI cR b0 bd0 pr0 t0 au0 da hPc ) (cwV 0 hts (gw_V gk_636 gk_638 gp_23 gk_1 gk_639) rfl rfl rfl (by decide +kernel) ⟨(Nat.le_of_ble_eq_true rfl), (Nat.le_of_ble_eq_true rfl)⟩) ⟨fun a U g mk q => ⟨q.1, q.2.1, va_K.moved (u := U) (U := U.calling g mk a) (Vm.Alike.refl U.vm) q.2.2.1, xz.same (u := U) (U := U.calling g mk a) rfl q.2.2.2⟩, va_recv hK hP (ci := 7) (q0 := 0) rfl rfl, fun U hU hW => ⟨rfl, hU, va_K.moved hW.alike hKc, by rw [hU]; exact xz.warm hW hZc⟩⟩ rfl rfl hl.1 rfl (lv_room (Nat.le_of_ble_eq_true rfl)) d_BB_close_1 ⟨(Nat.le_of_ble_eq_true rfl), (Nat.le_of_ble_eq_true rfl)⟩) hS (fun q _ h => h.elim) (fun q h => h.elim) (fun q _ h => h.elim) (fun E9 ce9 q9 u8 t9 H1 locs ht hvm hpx hbx hz1 hk1 hS hce hcv hcl => ?_) (fun u9 t9 H1 locs ht hvm hw hB hz1 hk1 hS => ?_)
  · exact vx_out (fun x hx => (htab x hx).elim) hlocks hce hcv hcl (fun t8 ht8 hal => ⟨(), trivial, (show E9 = eS from hbx), hS.F ht8⟩) (fun z hz => hS.2.2 z hz) (Nat.le_of_ble_eq_true rfl) (Nat.le_of_ble_eq_true rfl)
  obtain rfl : s.heap = H1 := hB.symm.trans ht
  have hw1 := hw
  exact (show False from hw1).elim
set_option maxHeartbeats 8000000 in
set_option maxRecDepth 100000 in
theorem c_BB_share_n (l : Launch) (hnt : l.stackTraces = false) (H0 : Heap) (dC : Nat → ClassId) (dI : Nat → Nat → Nat) (cJ cI cR : ClassId) (b0 bd0 pr0 t0 au0 da : Nat) (x1 : Int32) (x2 : Int64) (x3 : Int64) (x4 : Int64) (hP : va_P (dC, dI) classes (bb_ws b0 bd0 pr0 t0 au0 da .null) H0)  : vx_Met l y_BB_share w_BB_share ({ frames := 8, cells := 1, slots := 6, locals := 123 }) (va_Pc [.ref b0, .int x1, .long x2, .long x3, .long x4] (fun U => U.heap = H0 ∧ va_K (dC, dI) classes [(cJ, .long), (cI, .int), (cR, .array .long)] U ∧ xz (fun _ => False) U U.heap)) (va_Qi (fun (r : Int32) (_ : Unit) => False) (fun _ t => t.heap = H0) (fun _ => False)) (vx_X (fun _ : Unit => True) (fun E _ _ => E = eS) (fun _ => False)) 1 6 (fun _ => False) := by
  refine vx_ofW (cc := b_BB_share) (maxL := 8) (ret := (some .int)) (by decide) rfl ?_
  intro p e s m args below meth c s₁ Bd hml htab hv
  obtain ⟨rfl, hH, hK, hZx⟩ := hv
  have hx := Bd.exec
  have hb := Bd.bytes
  have hr := Bd.returns
  have hts := atoms_spec (ws := w_BB_share) Bd.pre
  have hown : s.vm.findClass "BallotBoard" = some m.cls := findClass_of_methodNamed Bd.named
  have hlocks := Bd.notSynchronized
  subst hH
  have hS : va_S (fun _ => False) s.heap s.heap [] := va_S.rf
  have hl := lv_entry ([.ref b0, .int x1, .long x2, .long x3, .long x4]) (n := 8) (Nat.le_of_ble_eq_true rfl)
  rw [lg_entry_eq]
  generalize (lg_sl ([.ref b0, .int x1, .long x2, .long x3, .long x4]) ++ List.replicate (8 - (lg_sl ([.ref b0, .int x1, .long x2, .long x3, .long x4])).length) Slot.unset).toArray = ls at hl ⊢
  have hl : lv_has ls 8 [(0, .ref b0), (1, .int x1), (2, .long x2), (4, .long x3), (6, .long x4)] := hl
  refine lv_aload_n hx hb d_BB_share_0 rfl (lv_at hl 0 rfl) ?_
  refine lv_iload_n hx hb d_BB_share_1 rfl (lv_at hl 1 rfl) ?_
  have hPc := hP.sub (ws' := (bb_ws b0 bd0 pr0 t0 au0 da .null)) [0] rfl
  have hKc := hK.sub (tys' := [(cJ, .long), (cI, .int), (cR, .array .long)]) [0, 1, 2] rfl
  have hZc : xz (fun _ => False) s s.heap := (hZx.kept hS.2.1).narrow (fun q h => h.elim)
  refine vx_callv (vx_runV (As := [.int x1]) (rest := []) ⟨hx, hb, hml, hown, hts⟩ (c_BB_expectShareDue_n l hnt s.heap dC dI cJ cI cR b0 bd0 pr0 t0 au0 da x1 hPc ) (cwV 1 hts (gw_V gk_709 gk_711 gp_25 gk_1 gk_712) rfl rfl rfl (by decide +kernel) ⟨(Nat.le_of_ble_eq_true rfl), (Nat.le_of_ble_eq_true rfl)⟩) ⟨fun a U g mk q => ⟨q.1, q.2.1, va_K.moved (u := U) (U := U.calling g mk a) (Vm.Alike.refl U.vm) q.2.2.1, xz.same (u := U) (U := U.calling g mk a) rfl q.2.2.2⟩, va_recv hK hP (ci := 7) (q0 := 0) rfl rfl, fun U hU hW => ⟨rfl, hU, va_K.moved hW.alike hKc, by rw [hU]; exact xz.warm hW hZc⟩⟩ rfl rfl hl.1 rfl (lv_room (Nat.le_of_ble_eq_true rfl)) d_BB_share_2 ⟨(Nat.le_of_ble_eq_true rfl), (Nat.le_of_ble_eq_true rfl)⟩) hS (fun q _ h => h.elim) (fun q h => h.elim) (fun q _ h => h.elim) (fun E9 ce9 q9 u8 t9 H1 locs ht hvm hpx hbx hz1 hk1 hS hce hcv hcl => ?_) (fun u9 t9 H1 locs ht hvm hw hB hz1 hk1 hS => ?_)
  · exact vx_out (fun x hx => (htab x hx).elim) hlocks hce hcv hcl (fun t8 ht8 hal => ⟨(), trivial, (show E9 = eS from hbx), hS.F ht8⟩) (fun z hz => hS.2.2 z hz) (Nat.le_of_ble_eq_true rfl) (Nat.le_of_ble_eq_true rfl)
  obtain rfl : s.heap = H1 := hB.symm.trans ht
  have hw2 := hw
  exact (show False from hw2).elim
set_option maxHeartbeats 8000000 in
set_option maxRecDepth 100000 in
theorem c_BB_makeShare_n (l : Launch) (hnt : l.stackTraces = false) (H0 : Heap) (dC : Nat → ClassId) (dI : Nat → Nat → Nat) (cJ cI cR : ClassId) (b0 bd0 pr0 t0 au0 da : Nat) (x1 : Int32) (x2 : Int64) (x3 : Int64) (hP : va_P (dC, dI) classes (bb_ws b0 bd0 pr0 t0 au0 da .null) H0)  : vx_Met l y_BB_makeShare w_BB_makeShare ({ frames := 8, cells := 1, slots := 6, locals := 123 }) (va_Pc [.ref b0, .int x1, .long x2, .long x3] (fun U => U.heap = H0 ∧ va_K (dC, dI) classes [(cJ, .long), (cI, .int), (cR, .array .long)] U ∧ xz (fun _ => False) U U.heap)) (va_Qi (fun (r : Int32) (_ : Unit) => False) (fun _ t => t.heap = H0) (fun _ => False)) (vx_X (fun _ : Unit => True) (fun E _ _ => E = eS) (fun _ => False)) 1 6 (fun _ => False) := by
  refine vx_ofW (cc := b_BB_makeShare) (maxL := 6) (ret := (some .int)) (by decide) rfl ?_
  intro p e s m args below meth c s₁ Bd hml htab hv
  obtain ⟨rfl, hH, hK, hZx⟩ := hv
  have hx := Bd.exec
  have hb := Bd.bytes
  have hr := Bd.returns
  have hts := atoms_spec (ws := w_BB_makeShare) Bd.pre
  have hown : s.vm.findClass "BallotBoard" = some m.cls := findClass_of_methodNamed Bd.named
  have hlocks := Bd.notSynchronized
  subst hH
  have hS : va_S (fun _ => False) s.heap s.heap [] := va_S.rf
  have hl := lv_entry ([.ref b0, .int x1, .long x2, .long x3]) (n := 6) (Nat.le_of_ble_eq_true rfl)
  rw [lg_entry_eq]
  generalize (lg_sl ([.ref b0, .int x1, .long x2, .long x3]) ++ List.replicate (6 - (lg_sl ([.ref b0, .int x1, .long x2, .long x3])).length) Slot.unset).toArray = ls at hl ⊢
  have hl : lv_has ls 6 [(0, .ref b0), (1, .int x1), (2, .long x2), (4, .long x3)] := hl
  refine lv_aload_n hx hb d_BB_makeShare_0 rfl (lv_at hl 0 rfl) ?_
  refine lv_iload_n hx hb d_BB_makeShare_1 rfl (lv_at hl 1 rfl) ?_
  have hPc := hP.sub (ws' := (bb_ws b0 bd0 pr0 t0 au0 da .null)) [0] rfl
  have hKc := hK.sub (tys' := [(cJ, .long), (cI, .int), (cR, .array .long)]) [0, 1, 2] rfl
  have hZc : xz (fun _ => False) s s.heap := (hZx.kept hS.2.1).narrow (fun q h => h.elim)
  refine vx_callv (vx_runV (As := [.int x1]) (rest := []) ⟨hx, hb, hml, hown, hts⟩ (c_BB_expectShareDue_n l hnt s.heap dC dI cJ cI cR b0 bd0 pr0 t0 au0 da x1 hPc ) (cwV 1 hts (gw_V gk_709 gk_711 gp_25 gk_1 gk_712) rfl rfl rfl (by decide +kernel) ⟨(Nat.le_of_ble_eq_true rfl), (Nat.le_of_ble_eq_true rfl)⟩) ⟨fun a U g mk q => ⟨q.1, q.2.1, va_K.moved (u := U) (U := U.calling g mk a) (Vm.Alike.refl U.vm) q.2.2.1, xz.same (u := U) (U := U.calling g mk a) rfl q.2.2.2⟩, va_recv hK hP (ci := 7) (q0 := 0) rfl rfl, fun U hU hW => ⟨rfl, hU, va_K.moved hW.alike hKc, by rw [hU]; exact xz.warm hW hZc⟩⟩ rfl rfl hl.1 rfl (lv_room (Nat.le_of_ble_eq_true rfl)) d_BB_makeShare_2 ⟨(Nat.le_of_ble_eq_true rfl), (Nat.le_of_ble_eq_true rfl)⟩) hS (fun q _ h => h.elim) (fun q h => h.elim) (fun q _ h => h.elim) (fun E9 ce9 q9 u8 t9 H1 locs ht hvm hpx hbx hz1 hk1 hS hce hcv hcl => ?_) (fun u9 t9 H1 locs ht hvm hw hB hz1 hk1 hS => ?_)
  · exact vx_out (fun x hx => (htab x hx).elim) hlocks hce hcv hcl (fun t8 ht8 hal => ⟨(), trivial, (show E9 = eS from hbx), hS.F ht8⟩) (fun z hz => hS.2.2 z hz) (Nat.le_of_ble_eq_true rfl) (Nat.le_of_ble_eq_true rfl)
  obtain rfl : s.heap = H1 := hB.symm.trans ht
  have hw2 := hw
  exact (show False from hw2).elim
set_option maxHeartbeats 8000000 in
set_option maxRecDepth 100000 in
theorem c_BB_result_n (l : Launch) (hnt : l.stackTraces = false) (H0 : Heap) (dC : Nat → ClassId) (dI : Nat → Nat → Nat) (cJ cI cR : ClassId) (b0 bd0 pr0 t0 au0 da : Nat) (hP : va_P (dC, dI) classes (bb_ws b0 bd0 pr0 t0 au0 da .null) H0)  : vx_Met l y_BB_result w_BB_result ({ frames := 7, cells := 1, slots := 6, locals := 102 }) (va_Pc [.ref b0] (fun U => U.heap = H0 ∧ va_K (dC, dI) classes [(cJ, .long), (cI, .int), (cR, .array .long)] U ∧ xz (fun _ => False) U U.heap)) (va_Qi (fun (r : Int32) (_ : Unit) => False) (fun _ t => t.heap = H0) (fun _ => False)) (vx_X (fun _ : Unit => True) (fun E _ _ => E = eS) (fun _ => False)) 1 6 (fun _ => False) := by
  refine vx_ofW (cc := b_BB_result) (maxL := 1) (ret := (some .int)) (by decide) rfl ?_
  intro p e s m args below meth c s₁ Bd hml htab hv
  obtain ⟨rfl, hH, hK, hZx⟩ := hv
  have hx := Bd.exec
  have hb := Bd.bytes
  have hr := Bd.returns
  have hts := atoms_spec (ws := w_BB_result) Bd.pre
  have hown : s.vm.findClass "BallotBoard" = some m.cls := findClass_of_methodNamed Bd.named
  have hlocks := Bd.notSynchronized
  subst hH
  have hS : va_S (fun _ => False) s.heap s.heap [] := va_S.rf
  have hl := lv_entry ([.ref b0]) (n := 1) (Nat.le_of_ble_eq_true rfl)
  rw [lg_entry_eq]
  generalize (lg_sl ([.ref b0]) ++ List.replicate (1 - (lg_sl ([.ref b0])).length) Slot.unset).toArray = ls at hl ⊢
  have hl : lv_has ls 1 [(0, .ref b0)] := hl
  refine lv_aload_n hx hb d_BB_result_0 rfl (lv_at hl 0 rfl) ?_
  have hPc := hP.sub (ws' := (bb_ws b0 bd0 pr0 t0 au0 da .null)) [0] rfl
  have hKc := hK.sub (tys' := [(cJ, .long), (cI, .int), (cR, .array .long)]) [0, 1, 2] rfl
  have hZc : xz (fun _ => False) s s.heap := (hZx.kept hS.2.1).narrow (fun q h => h.elim)
  refine vx_callv (vx_runV (As := []) (rest := []) ⟨hx, hb, hml, hown, hts⟩ (c_BB_expectShut_n l hnt s.heap dC dI cJ cI cR b0 bd0 pr0 t0 au0 da hPc ) (cwV 0 hts (gw_V gk_713 gk_715 gp_26 gk_1 gk_716) rfl rfl rfl (by decide +kernel) ⟨(Nat.le_of_ble_eq_true rfl), (Nat.le_of_ble_eq_true rfl)⟩) ⟨fun a U g mk q => ⟨q.1, q.2.1, va_K.moved (u := U) (U := U.calling g mk a) (Vm.Alike.refl U.vm) q.2.2.1, xz.same (u := U) (U := U.calling g mk a) rfl q.2.2.2⟩, va_recv hK hP (ci := 7) (q0 := 0) rfl rfl, fun U hU hW => ⟨rfl, hU, va_K.moved hW.alike hKc, by rw [hU]; exact xz.warm hW hZc⟩⟩ rfl rfl hl.1 rfl (lv_room (Nat.le_of_ble_eq_true rfl)) d_BB_result_1 ⟨(Nat.le_of_ble_eq_true rfl), (Nat.le_of_ble_eq_true rfl)⟩) hS (fun q _ h => h.elim) (fun q h => h.elim) (fun q _ h => h.elim) (fun E9 ce9 q9 u8 t9 H1 locs ht hvm hpx hbx hz1 hk1 hS hce hcv hcl => ?_) (fun u9 t9 H1 locs ht hvm hw hB hz1 hk1 hS => ?_)
  · exact vx_out (fun x hx => (htab x hx).elim) hlocks hce hcv hcl (fun t8 ht8 hal => ⟨(), trivial, (show E9 = eS from hbx), hS.F ht8⟩) (fun z hz => hS.2.2 z hz) (Nat.le_of_ble_eq_true rfl) (Nat.le_of_ble_eq_true rfl)
  obtain rfl : s.heap = H1 := hB.symm.trans ht
  have hw1 := hw
  exact (show False from hw1).elim
set_option maxHeartbeats 8000000 in
set_option maxRecDepth 100000 in
theorem c_BB_audit_n (l : Launch) (hnt : l.stackTraces = false) (H0 : Heap) (dC : Nat → ClassId) (dI : Nat → Nat → Nat) (cJ cI cR : ClassId) (b0 bd0 pr0 t0 au0 da : Nat) (hP : va_P (dC, dI) classes (bb_ws b0 bd0 pr0 t0 au0 da .null) H0)  : vx_Met l y_BB_audit w_BB_audit ({ frames := 7, cells := 1, slots := 6, locals := 102 }) (va_Pc [.ref b0] (fun U => U.heap = H0 ∧ va_K (dC, dI) classes [(cJ, .long), (cI, .int), (cR, .array .long)] U ∧ xz (fun _ => False) U U.heap)) (va_Qi (fun (r : Int32) (_ : Unit) => False) (fun _ t => t.heap = H0) (fun _ => False)) (vx_X (fun _ : Unit => True) (fun E _ _ => E = eS) (fun _ => False)) 1 6 (fun _ => False) := by
  refine vx_ofW (cc := b_BB_audit) (maxL := 1) (ret := (some .int)) (by decide) rfl ?_
  intro p e s m args below meth c s₁ Bd hml htab hv
  obtain ⟨rfl, hH, hK, hZx⟩ := hv
  have hx := Bd.exec
  have hb := Bd.bytes
  have hr := Bd.returns
  have hts := atoms_spec (ws := w_BB_audit) Bd.pre
  have hown : s.vm.findClass "BallotBoard" = some m.cls := findClass_of_methodNamed Bd.named
  have hlocks := Bd.notSynchronized
  subst hH
  have hS : va_S (fun _ => False) s.heap s.heap [] := va_S.rf
  have hl := lv_entry ([.ref b0]) (n := 1) (Nat.le_of_ble_eq_true rfl)
  rw [lg_entry_eq]
  generalize (lg_sl ([.ref b0]) ++ List.replicate (1 - (lg_sl ([.ref b0])).length) Slot.unset).toArray = ls at hl ⊢
  have hl : lv_has ls 1 [(0, .ref b0)] := hl
  refine lv_aload_n hx hb d_BB_audit_0 rfl (lv_at hl 0 rfl) ?_
  have hPc := hP.sub (ws' := (bb_ws b0 bd0 pr0 t0 au0 da .null)) [0] rfl
  have hKc := hK.sub (tys' := [(cJ, .long), (cI, .int), (cR, .array .long)]) [0, 1, 2] rfl
  have hZc : xz (fun _ => False) s s.heap := (hZx.kept hS.2.1).narrow (fun q h => h.elim)
  refine vx_callv (vx_runV (As := []) (rest := []) ⟨hx, hb, hml, hown, hts⟩ (c_BB_expectGroup_n l hnt s.heap dC dI cJ cI cR b0 bd0 pr0 t0 au0 da hPc ) (cwV 0 hts (gw_V gk_383 gk_385 gp_5 gk_1 gk_386) rfl rfl rfl (by decide +kernel) ⟨(Nat.le_of_ble_eq_true rfl), (Nat.le_of_ble_eq_true rfl)⟩) ⟨fun a U g mk q => ⟨q.1, q.2.1, va_K.moved (u := U) (U := U.calling g mk a) (Vm.Alike.refl U.vm) q.2.2.1, xz.same (u := U) (U := U.calling g mk a) rfl q.2.2.2⟩, va_recv hK hP (ci := 7) (q0 := 0) rfl rfl, fun U hU hW => ⟨rfl, hU, va_K.moved hW.alike hKc, by rw [hU]; exact xz.warm hW hZc⟩⟩ rfl rfl hl.1 rfl (lv_room (Nat.le_of_ble_eq_true rfl)) d_BB_audit_1 ⟨(Nat.le_of_ble_eq_true rfl), (Nat.le_of_ble_eq_true rfl)⟩) hS (fun q _ h => h.elim) (fun q h => h.elim) (fun q _ h => h.elim) (fun E9 ce9 q9 u8 t9 H1 locs ht hvm hpx hbx hz1 hk1 hS hce hcv hcl => ?_) (fun u9 t9 H1 locs ht hvm hw hB hz1 hk1 hS => ?_)
  · exact vx_out (fun x hx => (htab x hx).elim) hlocks hce hcv hcl (fun t8 ht8 hal => ⟨(), trivial, (show E9 = eS from hbx), hS.F ht8⟩) (fun z hz => hS.2.2 z hz) (Nat.le_of_ble_eq_true rfl) (Nat.le_of_ble_eq_true rfl)
  obtain rfl : s.heap = H1 := hB.symm.trans ht
  have hw1 := hw
  exact (show False from hw1).elim
