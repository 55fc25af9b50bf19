abbrev b_Gr_p : ByteArray := prog_4_method_3_code
abbrev y_Gr_p : MethodName := ⟨"BallotBoard$Group", "p", "()J"⟩
abbrev w_Gr_p : List Cond := .code y_Gr_p b_Gr_p 1 (some .long) :: gw
theorem d_Gr_p_0 : decode b_Gr_p 0 = .ok (.aload_n 0, 1) := by decide +kernel
theorem d_Gr_p_1 : decode b_Gr_p 1 = .ok (.getfield 7, 3) := by decide +kernel
theorem d_Gr_p_4 : decode b_Gr_p 4 = .ok (.invokevirtual 20, 3) := by decide +kernel
theorem d_Gr_p_7 : decode b_Gr_p 7 = .ok (.lreturn, 1) := by decide +kernel
set_option maxHeartbeats 4000000 in
set_option maxRecDepth 100000 in
theorem c_Gr_p (l : Launch) (H0 : Heap) (dC : Nat → ClassId) (dI : Nat → Nat → Nat) (h0 : Nat) (mF mE P f1 k1 Q f2 k2 G : Nat)  (hP : va_P (dC, dI) classes (gp_ws h0 mF mE P f1 k1 Q f2 k2 G) H0) (hok : gp_ok P f1 k1 Q f2 k2 G)  : Met l y_Gr_p w_Gr_p ({ frames := 1, cells := 0, slots := 0, locals := 20 }) (va_Pc [.ref h0] (fun U => U.heap = H0 ∧ va_K (dC, dI) classes [] U)) (va_Ql (fun (r : Int64) (_ : Unit) => r = lN P) (fun _ t => t.heap = H0) (fun _ => False)) 0 0 (fun _ => False) := by
  refine Met.ofW (cc := b_Gr_p) (maxL := 1) (ret := (some .long)) (by decide) rfl ?_
  intro p e s m args below meth c s₁ Bd hml hv
  obtain ⟨rfl, hH, hK⟩ := hv
  subst hH
  have hx := Bd.exec
  have hb := Bd.bytes
  have hr := Bd.returns
  have hts := atoms_spec (ws := w_Gr_p) Bd.pre
  have hown : s.vm.findClass "BallotBoard$Group" = some m.cls := findClass_of_methodNamed Bd.named
  have hlocks := Bd.notSynchronized
  have hS : va_S (fun _ => False) s.heap s.heap [] := va_S.rf
  have hl := lv_entry ([.ref h0]) (n := 1) (Nat.le_of_ble_eq_true rfl)
  rw [lg_entry_eq]
  generalize (lg_sl ([.ref h0]) ++ List.replicate (1 - (lg_sl ([.ref h0])).length) Slot.unset).toArray = ls at hl ⊢
  have hl : lv_has ls 1 [(0, .ref h0)] := hl
  have hK0 : va_K (dC, dI) classes [] s := hK
  have hPF : va_P (dC, dI) classes [(mF, .inr (0, md_fs P f1 k1))] s.heap := hP.sub (ws' := [(mF, .inr (0, md_fs P f1 k1))]) [1] rfl
  have hPE : va_P (dC, dI) classes [(mE, .inr (0, md_fs Q f2 k2))] s.heap := hP.sub (ws' := [(mE, .inr (0, md_fs Q f2 k2))]) [2] rfl
  obtain ⟨hokF, hokE, hPQ, hG2, hGP, hGQ⟩ := id hok
  obtain ⟨hoF, h3F, h61F, _, _, hk61F, hNkF⟩ := id hokF
  obtain ⟨hoE, h3E, h61E, _, _, hk61E, hNkE⟩ := id hokE
  refine lv_aload_n hx hb d_Gr_p_0 rfl (lv_at hl 0 rfl) ?_
  refine va_get (D := (dC, dI)) (ci := 1) (v := .ref mF) (C := "BallotBoard$Group") (T := F_Gr) (N := 4) hx hb hts (fun w9 h9 => List.mem_cons_of_mem _ (i_Gr w9 h9)) hown hK hP 0 rfl rfl 0 (by decide) (hts _ (List.mem_cons_of_mem _ gk_262)) (fun _ h9 => h9) rfl d_Gr_p_1 ?_
  refine va_calll (va_runV (As := []) (rest := []) ⟨hx, hb, hml, hown, hts⟩ (c_Mo_size l s.heap dC dI mF P f1 k1  hPF hokF ) (cwV 0 hts (gw_V gk_257 gk_258 gk_259 gk_9 gk_260) rfl rfl rfl (by decide +kernel) ⟨Nat.le_of_ble_eq_true rfl, Nat.le_of_ble_eq_true rfl⟩) ⟨fun a U g mk q => ⟨q.1, q.2.1, va_K.moved (u := U) (U := U.calling g mk a) (Vm.Alike.refl U.vm) q.2.2⟩, va_recv hK hP (ci := 0) (q0 := 1) rfl rfl, fun U hU hW => ⟨rfl, hU, va_K.moved hW.alike hK0⟩⟩ rfl rfl hl.1 rfl (lv_room (Nat.le_of_ble_eq_true rfl)) d_Gr_p_4 ⟨Nat.zero_le _, Nat.zero_le _⟩) hS (fun q _ h => h.elim) (fun q h => h.elim) (fun r_1 u9 t9 H1 locs ht hvm hw hB hz1 hk1 hS => ?_)
  obtain rfl : s.heap = H1 := hB.symm.trans ht
  have hw : r_1 = lN P := hw
  subst hw
  exact W.lret (v := (lN P)) hx hb hr (fun t ht hW => ⟨⟨_, (), rfl, rfl, ht⟩, hS.F ht⟩) hS.2.2 d_Gr_p_7
abbrev b_Gr_q : ByteArray := prog_4_method_4_code
abbrev y_Gr_q : MethodName := ⟨"BallotBoard$Group", "q", "()J"⟩
abbrev w_Gr_q : List Cond := .code y_Gr_q b_Gr_q 1 (some .long) :: gw
theorem d_Gr_q_0 : decode b_Gr_q 0 = .ok (.aload_n 0, 1) := by decide +kernel
theorem d_Gr_q_1 : decode b_Gr_q 1 = .ok (.getfield 13, 3) := by decide +kernel
theorem d_Gr_q_4 : decode b_Gr_q 4 = .ok (.invokevirtual 20, 3) := by decide +kernel
theorem d_Gr_q_7 : decode b_Gr_q 7 = .ok (.lreturn, 1) := by decide +kernel
set_option maxHeartbeats 4000000 in
set_option maxRecDepth 100000 in
theorem c_Gr_q (l : Launch) (H0 : Heap) (dC : Nat → ClassId) (dI : Nat → Nat → Nat) (h0 : Nat) (mF mE P f1 k1 Q f2 k2 G : Nat)  (hP : va_P (dC, dI) classes (gp_ws h0 mF mE P f1 k1 Q f2 k2 G) H0) (hok : gp_ok P f1 k1 Q f2 k2 G)  : Met l y_Gr_q w_Gr_q ({ frames := 1, cells := 0, slots := 0, locals := 20 }) (va_Pc [.ref h0] (fun U => U.heap = H0 ∧ va_K (dC, dI) classes [] U)) (va_Ql (fun (r : Int64) (_ : Unit) => r = lN Q) (fun _ t => t.heap = H0) (fun _ => False)) 0 0 (fun _ => False) := by
  refine Met.ofW (cc := b_Gr_q) (maxL := 1) (ret := (some .long)) (by decide) rfl ?_
  intro p e s m args below meth c s₁ Bd hml hv
  obtain ⟨rfl, hH, hK⟩ := hv
  subst hH
  have hx := Bd.exec
  have hb := Bd.bytes
  have hr := Bd.returns
  have hts := atoms_spec (ws := w_Gr_q) Bd.pre
  have hown : s.vm.findClass "BallotBoard$Group" = some m.cls := findClass_of_methodNamed Bd.named
  have hlocks := Bd.notSynchronized
  have hS : va_S (fun _ => False) s.heap s.heap [] := va_S.rf
  have hl := lv_entry ([.ref h0]) (n := 1) (Nat.le_of_ble_eq_true rfl)
  rw [lg_entry_eq]
  generalize (lg_sl ([.ref h0]) ++ List.replicate (1 - (lg_sl ([.ref h0])).length) Slot.unset).toArray = ls at hl ⊢
  have hl : lv_has ls 1 [(0, .ref h0)] := hl
  have hK0 : va_K (dC, dI) classes [] s := hK
  have hPF : va_P (dC, dI) classes [(mF, .inr (0, md_fs P f1 k1))] s.heap := hP.sub (ws' := [(mF, .inr (0, md_fs P f1 k1))]) [1] rfl
  have hPE : va_P (dC, dI) classes [(mE, .inr (0, md_fs Q f2 k2))] s.heap := hP.sub (ws' := [(mE, .inr (0, md_fs Q f2 k2))]) [2] rfl
  obtain ⟨hokF, hokE, hPQ, hG2, hGP, hGQ⟩ := id hok
  obtain ⟨hoF, h3F, h61F, _, _, hk61F, hNkF⟩ := id hokF
  obtain ⟨hoE, h3E, h61E, _, _, hk61E, hNkE⟩ := id hokE
  refine lv_aload_n hx hb d_Gr_q_0 rfl (lv_at hl 0 rfl) ?_
  refine va_get (D := (dC, dI)) (ci := 1) (v := .ref mE) (C := "BallotBoard$Group") (T := F_Gr) (N := 4) hx hb hts (fun w9 h9 => List.mem_cons_of_mem _ (i_Gr w9 h9)) hown hK hP 0 rfl rfl 1 (by decide) (hts _ (List.mem_cons_of_mem _ gk_263)) (fun _ h9 => h9) rfl d_Gr_q_1 ?_
  refine va_calll (va_runV (As := []) (rest := []) ⟨hx, hb, hml, hown, hts⟩ (c_Mo_size l s.heap dC dI mE Q f2 k2  hPE hokE ) (cwV 0 hts (gw_V gk_257 gk_258 gk_259 gk_9 gk_260) rfl rfl rfl (by decide +kernel) ⟨Nat.le_of_ble_eq_true rfl, Nat.le_of_ble_eq_true rfl⟩) ⟨fun a U g mk q => ⟨q.1, q.2.1, va_K.moved (u := U) (U := U.calling g mk a) (Vm.Alike.refl U.vm) q.2.2⟩, va_recv hK hP (ci := 0) (q0 := 2) rfl rfl, fun U hU hW => ⟨rfl, hU, va_K.moved hW.alike hK0⟩⟩ rfl rfl hl.1 rfl (lv_room (Nat.le_of_ble_eq_true rfl)) d_Gr_q_4 ⟨Nat.zero_le _, Nat.zero_le _⟩) hS (fun q _ h => h.elim) (fun q h => h.elim) (fun r_1 u9 t9 H1 locs ht hvm hw hB hz1 hk1 hS => ?_)
  obtain rfl : s.heap = H1 := hB.symm.trans ht
  have hw : r_1 = lN Q := hw
  subst hw
  exact W.lret (v := (lN Q)) hx hb hr (fun t ht hW => ⟨⟨_, (), rfl, rfl, ht⟩, hS.F ht⟩) hS.2.2 d_Gr_q_7
abbrev b_Gr_g : ByteArray := prog_4_method_5_code
abbrev y_Gr_g : MethodName := ⟨"BallotBoard$Group", "g", "()J"⟩
abbrev w_Gr_g : List Cond := .code y_Gr_g b_Gr_g 1 (some .long) :: gw
theorem d_Gr_g_0 : decode b_Gr_g 0 = .ok (.aload_n 0, 1) := by decide +kernel
theorem d_Gr_g_1 : decode b_Gr_g 1 = .ok (.getfield 16, 3) := by decide +kernel
theorem d_Gr_g_4 : decode b_Gr_g 4 = .ok (.lreturn, 1) := by decide +kernel
set_option maxHeartbeats 4000000 in
set_option maxRecDepth 100000 in
theorem c_Gr_g (l : Launch) (H0 : Heap) (dC : Nat → ClassId) (dI : Nat → Nat → Nat) (h0 : Nat) (mF mE P f1 k1 Q f2 k2 G : Nat)  (hP : va_P (dC, dI) classes (gp_ws h0 mF mE P f1 k1 Q f2 k2 G) H0) (hok : gp_ok P f1 k1 Q f2 k2 G)  : Met l y_Gr_g w_Gr_g ({ frames := 0, cells := 0, slots := 0, locals := 0 }) (va_Pc [.ref h0] (fun U => U.heap = H0 ∧ va_K (dC, dI) classes [] U)) (va_Ql (fun (r : Int64) (_ : Unit) => r = lN G) (fun _ t => t.heap = H0) (fun _ => False)) 0 0 (fun _ => False) := by
  refine Met.ofW (cc := b_Gr_g) (maxL := 1) (ret := (some .long)) (by decide) rfl ?_
  intro p e s m args below meth c s₁ Bd hml hv
  obtain ⟨rfl, hH, hK⟩ := hv
  subst hH
  have hx := Bd.exec
  have hb := Bd.bytes
  have hr := Bd.returns
  have hts := atoms_spec (ws := w_Gr_g) Bd.pre
  have hown : s.vm.findClass "BallotBoard$Group" = some m.cls := findClass_of_methodNamed Bd.named
  have hlocks := Bd.notSynchronized
  have hS : va_S (fun _ => False) s.heap s.heap [] := va_S.rf
  have hl := lv_entry ([.ref h0]) (n := 1) (Nat.le_of_ble_eq_true rfl)
  rw [lg_entry_eq]
  generalize (lg_sl ([.ref h0]) ++ List.replicate (1 - (lg_sl ([.ref h0])).length) Slot.unset).toArray = ls at hl ⊢
  have hl : lv_has ls 1 [(0, .ref h0)] := hl
  have hK0 : va_K (dC, dI) classes [] s := hK
  have hPF : va_P (dC, dI) classes [(mF, .inr (0, md_fs P f1 k1))] s.heap := hP.sub (ws' := [(mF, .inr (0, md_fs P f1 k1))]) [1] rfl
  have hPE : va_P (dC, dI) classes [(mE, .inr (0, md_fs Q f2 k2))] s.heap := hP.sub (ws' := [(mE, .inr (0, md_fs Q f2 k2))]) [2] rfl
  obtain ⟨hokF, hokE, hPQ, hG2, hGP, hGQ⟩ := id hok
  obtain ⟨hoF, h3F, h61F, _, _, hk61F, hNkF⟩ := id hokF
  obtain ⟨hoE, h3E, h61E, _, _, hk61E, hNkE⟩ := id hokE
  refine lv_aload_n hx hb d_Gr_g_0 rfl (lv_at hl 0 rfl) ?_
  refine va_get (D := (dC, dI)) (ci := 1) (v := .long (lN G)) (C := "BallotBoard$Group") (T := F_Gr) (N := 4) hx hb hts (fun w9 h9 => List.mem_cons_of_mem _ (i_Gr w9 h9)) hown hK hP 0 rfl rfl 2 (by decide) (hts _ (List.mem_cons_of_mem _ gk_264)) (fun _ h9 => h9) rfl d_Gr_g_1 ?_
  exact W.lret (v := (lN G)) hx hb hr (fun t ht hW => ⟨⟨_, (), rfl, rfl, ht⟩, hS.F ht⟩) hS.2.2 d_Gr_g_4
abbrev b_Gr_product : ByteArray := prog_4_method_8_code
abbrev y_Gr_product : MethodName := ⟨"BallotBoard$Group", "product", "(JJ)J"⟩
abbrev w_Gr_product : List Cond := .code y_Gr_product b_Gr_product 5 (some .long) :: gw
theorem d_Gr_product_0 : decode b_Gr_product 0 = .ok (.aload_n 0, 1) := by decide +kernel
theorem d_Gr_product_1 : decode b_Gr_product 1 = .ok (.getfield 7, 3) := by decide +kernel
theorem d_Gr_product_4 : decode b_Gr_product 4 = .ok (.lload_n 1, 1) := by decide +kernel
theorem d_Gr_product_5 : decode b_Gr_product 5 = .ok (.lload_n 3, 1) := by decide +kernel
theorem d_Gr_product_6 : decode b_Gr_product 6 = .ok (.invokevirtual 55, 3) := by decide +kernel
theorem d_Gr_product_9 : decode b_Gr_product 9 = .ok (.lreturn, 1) := by decide +kernel
set_option maxHeartbeats 4000000 in
set_option maxRecDepth 100000 in
theorem c_Gr_product (l : Launch) (H0 : Heap) (dC : Nat → ClassId) (dI : Nat → Nat → Nat) (h0 : Nat) (mF mE P f1 k1 Q f2 k2 G : Nat) (A B : Nat) (hP : va_P (dC, dI) classes (gp_ws h0 mF mE P f1 k1 Q f2 k2 G) H0) (hok : gp_ok P f1 k1 Q f2 k2 G) (hA : A < P) (hB : B < P) : Met l y_Gr_product w_Gr_product ({ frames := 2, cells := 0, slots := 0, locals := 60 }) (va_Pc [.ref h0, .long (lN A), .long (lN B)] (fun U => U.heap = H0 ∧ va_K (dC, dI) classes [] U)) (va_Ql (fun (r : Int64) (_ : Unit) => r = lN (A * B % P)) (fun _ t => t.heap = H0) (fun _ => False)) 0 0 (fun _ => False) := by
  refine Met.ofW (cc := b_Gr_product) (maxL := 5) (ret := (some .long)) (by decide) rfl ?_
  intro p e s m args below meth c s₁ Bd hml hv
  obtain ⟨rfl, hH, hK⟩ := hv
  subst hH
  have hx := Bd.exec
  have hb := Bd.bytes
  have hr := Bd.returns
  have hts := atoms_spec (ws := w_Gr_product) Bd.pre
  have hown : s.vm.findClass "BallotBoard$Group" = some m.cls := findClass_of_methodNamed Bd.named
  have hlocks := Bd.notSynchronized
  have hS : va_S (fun _ => False) s.heap s.heap [] := va_S.rf
  have hl := lv_entry ([.ref h0, .long (lN A), .long (lN B)]) (n := 5) (Nat.le_of_ble_eq_true rfl)
  rw [lg_entry_eq]
  generalize (lg_sl ([.ref h0, .long (lN A), .long (lN B)]) ++ List.replicate (5 - (lg_sl ([.ref h0, .long (lN A), .long (lN B)])).length) Slot.unset).toArray = ls at hl ⊢
  have hl : lv_has ls 5 [(0, .ref h0), (1, .long (lN A)), (3, .long (lN B))] := hl
  have hK0 : va_K (dC, dI) classes [] s := hK
  have hPF : va_P (dC, dI) classes [(mF, .inr (0, md_fs P f1 k1))] s.heap := hP.sub (ws' := [(mF, .inr (0, md_fs P f1 k1))]) [1] rfl
  have hPE : va_P (dC, dI) classes [(mE, .inr (0, md_fs Q f2 k2))] s.heap := hP.sub (ws' := [(mE, .inr (0, md_fs Q f2 k2))]) [2] rfl
  obtain ⟨hokF, hokE, hPQ, hG2, hGP, hGQ⟩ := id hok
  obtain ⟨hoF, h3F, h61F, _, _, hk61F, hNkF⟩ := id hokF
  obtain ⟨hoE, h3E, h61E, _, _, hk61E, hNkE⟩ := id hokE
  refine lv_aload_n hx hb d_Gr_product_0 rfl (lv_at hl 0 rfl) ?_
  refine va_get (D := (dC, dI)) (ci := 1) (v := .ref mF) (C := "BallotBoard$Group") (T := F_Gr) (N := 4) hx hb hts (fun w9 h9 => List.mem_cons_of_mem _ (i_Gr w9 h9)) hown hK hP 0 rfl rfl 0 (by decide) (hts _ (List.mem_cons_of_mem _ gk_262)) (fun _ h9 => h9) rfl d_Gr_product_1 ?_
  refine lv_lload_n hx hb d_Gr_product_4 rfl (lv_at hl 1 rfl) ?_
  refine lv_lload_n hx hb d_Gr_product_5 rfl (lv_at hl 2 rfl) ?_
  refine va_calll (va_runV (As := [.long (lN A), .long (lN B)]) (rest := []) ⟨hx, hb, hml, hown, hts⟩ (c_Mo_times l s.heap dC dI mF P f1 k1 A B hPF hokF hA hB) (cwV 2 hts (gw_V gk_485 gk_248 gk_249 gk_9 gk_250) rfl rfl rfl (by decide +kernel) ⟨Nat.le_of_ble_eq_true rfl, Nat.le_of_ble_eq_true rfl⟩) ⟨fun a U g mk q => ⟨q.1, q.2.1, va_K.moved (u := U) (U := U.calling g mk a) (Vm.Alike.refl U.vm) q.2.2⟩, va_recv hK hP (ci := 0) (q0 := 1) rfl rfl, fun U hU hW => ⟨rfl, hU, va_K.moved hW.alike hK0⟩⟩ rfl rfl hl.1 rfl (lv_room (Nat.le_of_ble_eq_true rfl)) d_Gr_product_6 ⟨Nat.zero_le _, Nat.zero_le _⟩) hS (fun q _ h => h.elim) (fun q h => h.elim) (fun r_1 u9 t9 H1 locs ht hvm hw hB hz1 hk1 hS => ?_)
  obtain rfl : s.heap = H1 := hB.symm.trans ht
  have hw : r_1 = lN (A * B % P) := hw
  subst hw
  exact W.lret (v := (lN (A * B % P))) hx hb hr (fun t ht hW => ⟨⟨_, (), rfl, rfl, ht⟩, hS.F ht⟩) hS.2.2 d_Gr_product_9
abbrev b_Gr_power : ByteArray := prog_4_method_9_code
abbrev y_Gr_power : MethodName := ⟨"BallotBoard$Group", "power", "(JJ)J"⟩
abbrev w_Gr_power : List Cond := .code y_Gr_power b_Gr_power 5 (some .long) :: gw
theorem d_Gr_power_0 : decode b_Gr_power 0 = .ok (.aload_n 0, 1) := by decide +kernel
theorem d_Gr_power_1 : decode b_Gr_power 1 = .ok (.getfield 7, 3) := by decide +kernel
theorem d_Gr_power_4 : decode b_Gr_power 4 = .ok (.lload_n 1, 1) := by decide +kernel
theorem d_Gr_power_5 : decode b_Gr_power 5 = .ok (.lload_n 3, 1) := by decide +kernel
theorem d_Gr_power_6 : decode b_Gr_power 6 = .ok (.invokevirtual 26, 3) := by decide +kernel
theorem d_Gr_power_9 : decode b_Gr_power 9 = .ok (.lreturn, 1) := by decide +kernel
set_option maxHeartbeats 4000000 in
set_option maxRecDepth 100000 in
theorem c_Gr_power (l : Launch) (H0 : Heap) (dC : Nat → ClassId) (dI : Nat → Nat → Nat) (h0 : Nat) (mF mE P f1 k1 Q f2 k2 G : Nat) (X E : Nat) (hP : va_P (dC, dI) classes (gp_ws h0 mF mE P f1 k1 Q f2 k2 G) H0) (hok : gp_ok P f1 k1 Q f2 k2 G) (hX : X < P) (hE : E < P) : Met l y_Gr_power w_Gr_power ({ frames := 2, cells := 0, slots := 0, locals := 65 }) (va_Pc [.ref h0, .long (lN X), .long (lN E)] (fun U => U.heap = H0 ∧ va_K (dC, dI) classes [] U)) (va_Ql (fun (r : Int64) (_ : Unit) => r = lN (X ^ E % P)) (fun _ t => t.heap = H0) (fun _ => False)) 0 0 (fun _ => False) := by
  refine Met.ofW (cc := b_Gr_power) (maxL := 5) (ret := (some .long)) (by decide) rfl ?_
  intro p e s m args below meth c s₁ Bd hml hv
  obtain ⟨rfl, hH, hK⟩ := hv
  subst hH
  have hx := Bd.exec
  have hb := Bd.bytes
  have hr := Bd.returns
  have hts := atoms_spec (ws := w_Gr_power) Bd.pre
  have hown : s.vm.findClass "BallotBoard$Group" = some m.cls := findClass_of_methodNamed Bd.named
  have hlocks := Bd.notSynchronized
  have hS : va_S (fun _ => False) s.heap s.heap [] := va_S.rf
  have hl := lv_entry ([.ref h0, .long (lN X), .long (lN E)]) (n := 5) (Nat.le_of_ble_eq_true rfl)
  rw [lg_entry_eq]
  generalize (lg_sl ([.ref h0, .long (lN X), .long (lN E)]) ++ List.replicate (5 - (lg_sl ([.ref h0, .long (lN X), .long (lN E)])).length) Slot.unset).toArray = ls at hl ⊢
  have hl : lv_has ls 5 [(0, .ref h0), (1, .long (lN X)), (3, .long (lN E))] := hl
  have hK0 : va_K (dC, dI) classes [] s := hK
  have hPF : va_P (dC, dI) classes [(mF, .inr (0, md_fs P f1 k1))] s.heap := hP.sub (ws' := [(mF, .inr (0, md_fs P f1 k1))]) [1] rfl
  have hPE : va_P (dC, dI) classes [(mE, .inr (0, md_fs Q f2 k2))] s.heap := hP.sub (ws' := [(mE, .inr (0, md_fs Q f2 k2))]) [2] rfl
  obtain ⟨hokF, hokE, hPQ, hG2, hGP, hGQ⟩ := id hok
  obtain ⟨hoF, h3F, h61F, _, _, hk61F, hNkF⟩ := id hokF
  obtain ⟨hoE, h3E, h61E, _, _, hk61E, hNkE⟩ := id hokE
  refine lv_aload_n hx hb d_Gr_power_0 rfl (lv_at hl 0 rfl) ?_
  refine va_get (D := (dC, dI)) (ci := 1) (v := .ref mF) (C := "BallotBoard$Group") (T := F_Gr) (N := 4) hx hb hts (fun w9 h9 => List.mem_cons_of_mem _ (i_Gr w9 h9)) hown hK hP 0 rfl rfl 0 (by decide) (hts _ (List.mem_cons_of_mem _ gk_262)) (fun _ h9 => h9) rfl d_Gr_power_1 ?_
  refine lv_lload_n hx hb d_Gr_power_4 rfl (lv_at hl 1 rfl) ?_
  refine lv_lload_n hx hb d_Gr_power_5 rfl (lv_at hl 2 rfl) ?_
  refine va_calll (va_runV (As := [.long (lN X), .long (lN E)]) (rest := []) ⟨hx, hb, hml, hown, hts⟩ (c_Mo_power l s.heap dC dI mF P f1 k1 X E hPF hokF hX (Nat.lt_trans hE hNkF)) (cwV 2 hts (gw_V gk_261 gk_236 gk_237 gk_9 gk_238) rfl rfl rfl (by decide +kernel) ⟨Nat.le_of_ble_eq_true rfl, Nat.le_of_ble_eq_true rfl⟩) ⟨fun a U g mk q => ⟨q.1, q.2.1, va_K.moved (u := U) (U := U.calling g mk a) (Vm.Alike.refl U.vm) q.2.2⟩, va_recv hK hP (ci := 0) (q0 := 1) rfl rfl, fun U hU hW => ⟨rfl, hU, va_K.moved hW.alike hK0⟩⟩ rfl rfl hl.1 rfl (lv_room (Nat.le_of_ble_eq_true rfl)) d_Gr_power_6 ⟨Nat.zero_le _, Nat.zero_le _⟩) hS (fun q _ h => h.elim) (fun q h => h.elim) (fun r_1 u9 t9 H1 locs ht hvm hw hB hz1 hk1 hS => ?_)
  obtain rfl : s.heap = H1 := hB.symm.trans ht
  have hw : r_1 = lN (X ^ E % P) := hw
  subst hw
  exact W.lret (v := (lN (X ^ E % P))) hx hb hr (fun t ht hW => ⟨⟨_, (), rfl, rfl, ht⟩, hS.F ht⟩) hS.2.2 d_Gr_power_9
abbrev b_Gr_overG : ByteArray := prog_4_method_10_code
abbrev y_Gr_overG : MethodName := ⟨"BallotBoard$Group", "overG", "(J)J"⟩
abbrev w_Gr_overG : List Cond := .code y_Gr_overG b_Gr_overG 3 (some .long) :: gw
theorem d_Gr_overG_0 : decode b_Gr_overG 0 = .ok (.aload_n 0, 1) := by decide +kernel
theorem d_Gr_overG_1 : decode b_Gr_overG 1 = .ok (.getfield 7, 3) := by decide +kernel
theorem d_Gr_overG_4 : decode b_Gr_overG 4 = .ok (.lload_n 1, 1) := by decide +kernel
theorem d_Gr_overG_5 : decode b_Gr_overG 5 = .ok (.aload_n 0, 1) := by decide +kernel
theorem d_Gr_overG_6 : decode b_Gr_overG 6 = .ok (.getfield 30, 3) := by decide +kernel
theorem d_Gr_overG_9 : decode b_Gr_overG 9 = .ok (.invokevirtual 55, 3) := by decide +kernel
theorem d_Gr_overG_12 : decode b_Gr_overG 12 = .ok (.lreturn, 1) := by decide +kernel
set_option maxHeartbeats 4000000 in
set_option maxRecDepth 100000 in
theorem c_Gr_overG (l : Launch) (H0 : Heap) (dC : Nat → ClassId) (dI : Nat → Nat → Nat) (h0 : Nat) (mF mE P f1 k1 Q f2 k2 G : Nat) (A : Nat) (hP : va_P (dC, dI) classes (gp_ws h0 mF mE P f1 k1 Q f2 k2 G) H0) (hok : gp_ok P f1 k1 Q f2 k2 G) (hA : A < P) : Met l y_Gr_overG w_Gr_overG ({ frames := 2, cells := 0, slots := 0, locals := 60 }) (va_Pc [.ref h0, .long (lN A)] (fun U => U.heap = H0 ∧ va_K (dC, dI) classes [] U)) (va_Ql (fun (r : Int64) (_ : Unit) => r = lN (A * (G ^ (Q - 1) % P) % P)) (fun _ t => t.heap = H0) (fun _ => False)) 0 0 (fun _ => False) := by
  refine Met.ofW (cc := b_Gr_overG) (maxL := 3) (ret := (some .long)) (by decide) rfl ?_
  intro p e s m args below meth c s₁ Bd hml hv
  obtain ⟨rfl, hH, hK⟩ := hv
  subst hH
  have hx := Bd.exec
  have hb := Bd.bytes
  have hr := Bd.returns
  have hts := atoms_spec (ws := w_Gr_overG) Bd.pre
  have hown : s.vm.findClass "BallotBoard$Group" = some m.cls := findClass_of_methodNamed Bd.named
  have hlocks := Bd.notSynchronized
  have hS : va_S (fun _ => False) s.heap s.heap [] := va_S.rf
  have hl := lv_entry ([.ref h0, .long (lN A)]) (n := 3) (Nat.le_of_ble_eq_true rfl)
  rw [lg_entry_eq]
  generalize (lg_sl ([.ref h0, .long (lN A)]) ++ List.replicate (3 - (lg_sl ([.ref h0, .long (lN A)])).length) Slot.unset).toArray = ls at hl ⊢
  have hl : lv_has ls 3 [(0, .ref h0), (1, .long (lN A))] := hl
  have hK0 : va_K (dC, dI) classes [] s := hK
  have hPF : va_P (dC, dI) classes [(mF, .inr (0, md_fs P f1 k1))] s.heap := hP.sub (ws' := [(mF, .inr (0, md_fs P f1 k1))]) [1] rfl
  have hPE : va_P (dC, dI) classes [(mE, .inr (0, md_fs Q f2 k2))] s.heap := hP.sub (ws' := [(mE, .inr (0, md_fs Q f2 k2))]) [2] rfl
  obtain ⟨hokF, hokE, hPQ, hG2, hGP, hGQ⟩ := id hok
  obtain ⟨hoF, h3F, h61F, _, _, hk61F, hNkF⟩ := id hokF
  obtain ⟨hoE, h3E, h61E, _, _, hk61E, hNkE⟩ := id hokE
  refine lv_aload_n hx hb d_Gr_overG_0 rfl (lv_at hl 0 rfl) ?_
  refine va_get (D := (dC, dI)) (ci := 1) (v := .ref mF) (C := "BallotBoard$Group") (T := F_Gr) (N := 4) hx hb hts (fun w9 h9 => List.mem_cons_of_mem _ (i_Gr w9 h9)) hown hK hP 0 rfl rfl 0 (by decide) (hts _ (List.mem_cons_of_mem _ gk_262)) (fun _ h9 => h9) rfl d_Gr_overG_1 ?_
  refine lv_lload_n hx hb d_Gr_overG_4 rfl (lv_at hl 1 rfl) ?_
  refine lv_aload_n hx hb d_Gr_overG_5 rfl (lv_at hl 0 rfl) ?_
  refine va_get (D := (dC, dI)) (ci := 1) (v := .long (lN (G ^ (Q - 1) % P))) (C := "BallotBoard$Group") (T := F_Gr) (N := 4) hx hb hts (fun w9 h9 => List.mem_cons_of_mem _ (i_Gr w9 h9)) hown hK hP 0 rfl rfl 3 (by decide) (hts _ (List.mem_cons_of_mem _ gk_265)) (fun _ h9 => h9) rfl d_Gr_overG_6 ?_
  refine va_calll (va_runV (As := [.long (lN A), .long (lN (G ^ (Q - 1) % P))]) (rest := []) ⟨hx, hb, hml, hown, hts⟩ (c_Mo_times l s.heap dC dI mF P f1 k1 A (G ^ (Q - 1) % P) hPF hokF hA (Nat.mod_lt _ (by omega))) (cwV 2 hts (gw_V gk_485 gk_248 gk_249 gk_9 gk_250) rfl rfl rfl (by decide +kernel) ⟨Nat.le_of_ble_eq_true rfl, Nat.le_of_ble_eq_true rfl⟩) ⟨fun a U g mk q => ⟨q.1, q.2.1, va_K.moved (u := U) (U := U.calling g mk a) (Vm.Alike.refl U.vm) q.2.2⟩, va_recv hK hP (ci := 0) (q0 := 1) rfl rfl, fun U hU hW => ⟨rfl, hU, va_K.moved hW.alike hK0⟩⟩ rfl rfl hl.1 rfl (lv_room (Nat.le_of_ble_eq_true rfl)) d_Gr_overG_9 ⟨Nat.zero_le _, Nat.zero_le _⟩) hS (fun q _ h => h.elim) (fun q h => h.elim) (fun r_1 u9 t9 H1 locs ht hvm hw hB hz1 hk1 hS => ?_)
  obtain rfl : s.heap = H1 := hB.symm.trans ht
  have hw : r_1 = lN (A * (G ^ (Q - 1) % P) % P) := hw
  subst hw
  exact W.lret (v := (lN (A * (G ^ (Q - 1) % P) % P))) hx hb hr (fun t ht hW => ⟨⟨_, (), rfl, rfl, ht⟩, hS.F ht⟩) hS.2.2 d_Gr_overG_12
abbrev b_Gr_opened : ByteArray := prog_4_method_11_code
abbrev y_Gr_opened : MethodName := ⟨"BallotBoard$Group", "opened", "(JJJJ)J"⟩
abbrev w_Gr_opened : List Cond := .code y_Gr_opened b_Gr_opened 9 (some .long) :: gw
theorem d_Gr_opened_0 : decode b_Gr_opened 0 = .ok (.aload_n 0, 1) := by decide +kernel
theorem d_Gr_opened_1 : decode b_Gr_opened 1 = .ok (.getfield 7, 3) := by decide +kernel
theorem d_Gr_opened_4 : decode b_Gr_opened 4 = .ok (.lload_n 1, 1) := by decide +kernel
theorem d_Gr_opened_5 : decode b_Gr_opened 5 = .ok (.lload_n 3, 1) := by decide +kernel
theorem d_Gr_opened_6 : decode b_Gr_opened 6 = .ok (.lload 5, 2) := by decide +kernel
theorem d_Gr_opened_8 : decode b_Gr_opened 8 = .ok (.aload_n 0, 1) := by decide +kernel
theorem d_Gr_opened_9 : decode b_Gr_opened 9 = .ok (.getfield 13, 3) := by decide +kernel
theorem d_Gr_opened_12 : decode b_Gr_opened 12 = .ok (.lconst 0, 1) := by decide +kernel
theorem d_Gr_opened_13 : decode b_Gr_opened 13 = .ok (.lload 7, 2) := by decide +kernel
theorem d_Gr_opened_15 : decode b_Gr_opened 15 = .ok (.invokevirtual 58, 3) := by decide +kernel
theorem d_Gr_opened_18 : decode b_Gr_opened 18 = .ok (.invokevirtual 61, 3) := by decide +kernel
theorem d_Gr_opened_21 : decode b_Gr_opened 21 = .ok (.lreturn, 1) := by decide +kernel
set_option maxHeartbeats 4000000 in
set_option maxRecDepth 100000 in
theorem c_Gr_opened (l : Launch) (H0 : Heap) (dC : Nat → ClassId) (dI : Nat → Nat → Nat) (h0 : Nat) (mF mE P f1 k1 Q f2 k2 G : Nat) (X E Y F : Nat) (hP : va_P (dC, dI) classes (gp_ws h0 mF mE P f1 k1 Q f2 k2 G) H0) (hok : gp_ok P f1 k1 Q f2 k2 G) (hX : X < P) (hE : E < Q) (hY : Y < P) (hF : F < Q) : Met l y_Gr_opened w_Gr_opened ({ frames := 2, cells := 0, slots := 0, locals := 75 }) (va_Pc [.ref h0, .long (lN X), .long (lN E), .long (lN Y), .long (lN F)] (fun U => U.heap = H0 ∧ va_K (dC, dI) classes [] U)) (va_Ql (fun (r : Int64) (_ : Unit) => r = lN (X ^ E * Y ^ ((Q - F) % Q) % P)) (fun _ t => t.heap = H0) (fun _ => False)) 0 0 (fun _ => False) := by
  refine Met.ofW (cc := b_Gr_opened) (maxL := 9) (ret := (some .long)) (by decide) rfl ?_
  intro p e s m args below meth c s₁ Bd hml hv
  obtain ⟨rfl, hH, hK⟩ := hv
  subst hH
  have hx := Bd.exec
  have hb := Bd.bytes
  have hr := Bd.returns
  have hts := atoms_spec (ws := w_Gr_opened) Bd.pre
  have hown : s.vm.findClass "BallotBoard$Group" = some m.cls := findClass_of_methodNamed Bd.named
  have hlocks := Bd.notSynchronized
  have hS : va_S (fun _ => False) s.heap s.heap [] := va_S.rf
  have hl := lv_entry ([.ref h0, .long (lN X), .long (lN E), .long (lN Y), .long (lN F)]) (n := 9) (Nat.le_of_ble_eq_true rfl)
  rw [lg_entry_eq]
  generalize (lg_sl ([.ref h0, .long (lN X), .long (lN E), .long (lN Y), .long (lN F)]) ++ List.replicate (9 - (lg_sl ([.ref h0, .long (lN X), .long (lN E), .long (lN Y), .long (lN F)])).length) Slot.unset).toArray = ls at hl ⊢
  have hl : lv_has ls 9 [(0, .ref h0), (1, .long (lN X)), (3, .long (lN E)), (5, .long (lN Y)), (7, .long (lN F))] := hl
  have hK0 : va_K (dC, dI) classes [] s := hK
  have hPF : va_P (dC, dI) classes [(mF, .inr (0, md_fs P f1 k1))] s.heap := hP.sub (ws' := [(mF, .inr (0, md_fs P f1 k1))]) [1] rfl
  have hPE : va_P (dC, dI) classes [(mE, .inr (0, md_fs Q f2 k2))] s.heap := hP.sub (ws' := [(mE, .inr (0, md_fs Q f2 k2))]) [2] rfl
  obtain ⟨hokF, hokE, hPQ, hG2, hGP, hGQ⟩ := id hok
  obtain ⟨hoF, h3F, h61F, _, _, hk61F, hNkF⟩ := id hokF
  obtain ⟨hoE, h3E, h61E, _, _, hk61E, hNkE⟩ := id hokE
  refine lv_aload_n hx hb d_Gr_opened_0 rfl (lv_at hl 0 rfl) ?_
  refine va_get (D := (dC, dI)) (ci := 1) (v := .ref mF) (C := "BallotBoard$Group") (T := F_Gr) (N := 4) hx hb hts (fun w9 h9 => List.mem_cons_of_mem _ (i_Gr w9 h9)) hown hK hP 0 rfl rfl 0 (by decide) (hts _ (List.mem_cons_of_mem _ gk_262)) (fun _ h9 => h9) rfl d_Gr_opened_1 ?_
  refine lv_lload_n hx hb d_Gr_opened_4 rfl (lv_at hl 1 rfl) ?_
  refine lv_lload_n hx hb d_Gr_opened_5 rfl (lv_at hl 2 rfl) ?_
  refine lv_lload hx hb d_Gr_opened_6 (lv_at hl 3 rfl) ?_
  refine lv_aload_n hx hb d_Gr_opened_8 rfl (lv_at hl 0 rfl) ?_
  refine va_get (D := (dC, dI)) (ci := 1) (v := .ref mE) (C := "BallotBoard$Group") (T := F_Gr) (N := 4) hx hb hts (fun w9 h9 => List.mem_cons_of_mem _ (i_Gr w9 h9)) hown hK hP 0 rfl rfl 1 (by decide) (hts _ (List.mem_cons_of_mem _ gk_263)) (fun _ h9 => h9) rfl d_Gr_opened_9 ?_
  refine lv_lconst (v := 0) hx hb d_Gr_opened_12 (by decide) ?_
  refine lv_lload hx hb d_Gr_opened_13 (lv_at hl 4 rfl) ?_
  refine va_calll (va_runV (As := [.long 0, .long (lN F)]) (rest := [.long (lN Y), .long (lN E), .long (lN X), .ref mF]) ⟨hx, hb, hml, hown, hts⟩ (c_Mo_minus l s.heap dC dI mE Q f2 k2 0 F hPE hokE (by omega) hF) (cwV 2 hts (gw_V gk_461 gk_462 gk_463 gk_9 gk_464) rfl rfl rfl (by decide +kernel) ⟨Nat.le_of_ble_eq_true rfl, Nat.le_of_ble_eq_true rfl⟩) ⟨fun a U g mk q => ⟨q.1, q.2.1, va_K.moved (u := U) (U := U.calling g mk a) (Vm.Alike.refl U.vm) q.2.2⟩, va_recv hK hP (ci := 0) (q0 := 2) rfl rfl, fun U hU hW => ⟨rfl, hU, va_K.moved hW.alike hK0⟩⟩ rfl rfl hl.1 rfl (lv_room (Nat.le_of_ble_eq_true rfl)) d_Gr_opened_15 ⟨Nat.zero_le _, Nat.zero_le _⟩) hS (fun q _ h => h.elim) (fun q h => h.elim) (fun r_1 u9 t9 H1 locs ht hvm hw hB hz1 hk1 hS => ?_)
  obtain rfl : s.heap = H1 := hB.symm.trans ht
  have hw : r_1 = lN ((0 + (Q - F)) % Q) := hw
  subst hw
  rw [show (lN ((0 + (Q - F)) % Q) : Int64) = (lN ((Q - F) % Q)) from by rw [Nat.zero_add]]
  refine va_calll (va_runV (As := [.long (lN X), .long (lN E), .long (lN Y), .long (lN ((Q - F) % Q))]) (rest := []) ⟨hx, hb, hml, hown, hts⟩ (c_Mo_powers l s.heap dC dI mF P f1 k1 X E Y ((Q - F) % Q) hPF hokF hX (Nat.lt_trans hE (by omega)) hY (Nat.lt_trans (Nat.mod_lt _ (by omega)) (by omega))) (cwV 4 hts (gw_V gk_465 gk_466 gk_467 gk_9 gk_468) rfl rfl rfl (by decide +kernel) ⟨Nat.le_of_ble_eq_true rfl, Nat.le_of_ble_eq_true rfl⟩) ⟨fun a U g mk q => ⟨q.1, q.2.1, va_K.moved (u := U) (U := U.calling g mk a) (Vm.Alike.refl U.vm) q.2.2⟩, va_recv hK hP (ci := 0) (q0 := 1) rfl rfl, fun U hU hW => ⟨rfl, hU, va_K.moved hW.alike hK0⟩⟩ rfl rfl hl.1 rfl (lv_room (Nat.le_of_ble_eq_true rfl)) d_Gr_opened_18 ⟨Nat.zero_le _, Nat.zero_le _⟩) hS (fun q _ h => h.elim) (fun q h => h.elim) (fun r_2 u9 t9 H1 locs ht hvm hw hB hz1 hk1 hS => ?_)
  obtain rfl : s.heap = H1 := hB.symm.trans ht
  have hw : r_2 = lN (X ^ E * Y ^ ((Q - F) % Q) % P) := hw
  subst hw
  exact W.lret (v := (lN (X ^ E * Y ^ ((Q - F) % Q) % P))) hx hb hr (fun t ht hW => ⟨⟨_, (), rfl, rfl, ht⟩, hS.F ht⟩) hS.2.2 d_Gr_opened_21
abbrev b_Gr_sum : ByteArray := prog_4_method_12_code
abbrev y_Gr_sum : MethodName := ⟨"BallotBoard$Group", "sum", "(JJ)J"⟩
abbrev w_Gr_sum : List Cond := .code y_Gr_sum b_Gr_sum 5 (some .long) :: gw
theorem d_Gr_sum_0 : decode b_Gr_sum 0 = .ok (.aload_n 0, 1) := by decide +kernel
theorem d_Gr_sum_1 : decode b_Gr_sum 1 = .ok (.getfield 13, 3) := by decide +kernel
theorem d_Gr_sum_4 : decode b_Gr_sum 4 = .ok (.lload_n 1, 1) := by decide +kernel
theorem d_Gr_sum_5 : decode b_Gr_sum 5 = .ok (.lload_n 3, 1) := by decide +kernel
theorem d_Gr_sum_6 : decode b_Gr_sum 6 = .ok (.invokevirtual 65, 3) := by decide +kernel
theorem d_Gr_sum_9 : decode b_Gr_sum 9 = .ok (.lreturn, 1) := by decide +kernel
set_option maxHeartbeats 4000000 in
set_option maxRecDepth 100000 in
theorem c_Gr_sum (l : Launch) (H0 : Heap) (dC : Nat → ClassId) (dI : Nat → Nat → Nat) (h0 : Nat) (mF mE P f1 k1 Q f2 k2 G : Nat) (A B : Nat) (hP : va_P (dC, dI) classes (gp_ws h0 mF mE P f1 k1 Q f2 k2 G) H0) (hok : gp_ok P f1 k1 Q f2 k2 G) (hA : A < Q) (hB : B < Q) : Met l y_Gr_sum w_Gr_sum ({ frames := 1, cells := 0, slots := 0, locals := 26 }) (va_Pc [.ref h0, .long (lN A), .long (lN B)] (fun U => U.heap = H0 ∧ va_K (dC, dI) classes [] U)) (va_Ql (fun (r : Int64) (_ : Unit) => r = lN ((A + B) % Q)) (fun _ t => t.heap = H0) (fun _ => False)) 0 0 (fun _ => False) := by
  refine Met.ofW (cc := b_Gr_sum) (maxL := 5) (ret := (some .long)) (by decide) rfl ?_
  intro p e s m args below meth c s₁ Bd hml hv
  obtain ⟨rfl, hH, hK⟩ := hv
  subst hH
  have hx := Bd.exec
  have hb := Bd.bytes
  have hr := Bd.returns
  have hts := atoms_spec (ws := w_Gr_sum) Bd.pre
  have hown : s.vm.findClass "BallotBoard$Group" = some m.cls := findClass_of_methodNamed Bd.named
  have hlocks := Bd.notSynchronized
  have hS : va_S (fun _ => False) s.heap s.heap [] := va_S.rf
  have hl := lv_entry ([.ref h0, .long (lN A), .long (lN B)]) (n := 5) (Nat.le_of_ble_eq_true rfl)
  rw [lg_entry_eq]
  generalize (lg_sl ([.ref h0, .long (lN A), .long (lN B)]) ++ List.replicate (5 - (lg_sl ([.ref h0, .long (lN A), .long (lN B)])).length) Slot.unset).toArray = ls at hl ⊢
  have hl : lv_has ls 5 [(0, .ref h0), (1, .long (lN A)), (3, .long (lN B))] := hl
  have hK0 : va_K (dC, dI) classes [] s := hK
  have hPF : va_P (dC, dI) classes [(mF, .inr (0, md_fs P f1 k1))] s.heap := hP.sub (ws' := [(mF, .inr (0, md_fs P f1 k1))]) [1] rfl
  have hPE : va_P (dC, dI) classes [(mE, .inr (0, md_fs Q f2 k2))] s.heap := hP.sub (ws' := [(mE, .inr (0, md_fs Q f2 k2))]) [2] rfl
  obtain ⟨hokF, hokE, hPQ, hG2, hGP, hGQ⟩ := id hok
  obtain ⟨hoF, h3F, h61F, _, _, hk61F, hNkF⟩ := id hokF
  obtain ⟨hoE, h3E, h61E, _, _, hk61E, hNkE⟩ := id hokE
  refine lv_aload_n hx hb d_Gr_sum_0 rfl (lv_at hl 0 rfl) ?_
  refine va_get (D := (dC, dI)) (ci := 1) (v := .ref mE) (C := "BallotBoard$Group") (T := F_Gr) (N := 4) hx hb hts (fun w9 h9 => List.mem_cons_of_mem _ (i_Gr w9 h9)) hown hK hP 0 rfl rfl 1 (by decide) (hts _ (List.mem_cons_of_mem _ gk_263)) (fun _ h9 => h9) rfl d_Gr_sum_1 ?_
  refine lv_lload_n hx hb d_Gr_sum_4 rfl (lv_at hl 1 rfl) ?_
  refine lv_lload_n hx hb d_Gr_sum_5 rfl (lv_at hl 2 rfl) ?_
  refine va_calll (va_runV (As := [.long (lN A), .long (lN B)]) (rest := []) ⟨hx, hb, hml, hown, hts⟩ (c_Mo_plus l s.heap dC dI mE Q f2 k2 A B hPE hokE hA hB) (cwV 2 hts (gw_V gk_490 gk_491 gk_492 gk_9 gk_493) rfl rfl rfl (by decide +kernel) ⟨Nat.le_of_ble_eq_true rfl, Nat.le_of_ble_eq_true rfl⟩) ⟨fun a U g mk q => ⟨q.1, q.2.1, va_K.moved (u := U) (U := U.calling g mk a) (Vm.Alike.refl U.vm) q.2.2⟩, va_recv hK hP (ci := 0) (q0 := 2) rfl rfl, fun U hU hW => ⟨rfl, hU, va_K.moved hW.alike hK0⟩⟩ rfl rfl hl.1 rfl (lv_room (Nat.le_of_ble_eq_true rfl)) d_Gr_sum_6 ⟨Nat.zero_le _, Nat.zero_le _⟩) hS (fun q _ h => h.elim) (fun q h => h.elim) (fun r_1 u9 t9 H1 locs ht hvm hw hB hz1 hk1 hS => ?_)
  obtain rfl : s.heap = H1 := hB.symm.trans ht
  have hw : r_1 = lN ((A + B) % Q) := hw
  subst hw
  exact W.lret (v := (lN ((A + B) % Q))) hx hb hr (fun t ht hW => ⟨⟨_, (), rfl, rfl, ht⟩, hS.F ht⟩) hS.2.2 d_Gr_sum_9
abbrev b_Gr_difference : ByteArray := prog_4_method_13_code
abbrev y_Gr_difference : MethodName := ⟨"BallotBoard$Group", "difference", "(JJ)J"⟩
abbrev w_Gr_difference : List Cond := .code y_Gr_difference b_Gr_difference 5 (some .long) :: gw
theorem d_Gr_difference_0 : decode b_Gr_difference 0 = .ok (.aload_n 0, 1) := by decide +kernel
theorem d_Gr_difference_1 : decode b_Gr_difference 1 = .ok (.getfield 13, 3) := by decide +kernel
theorem d_Gr_difference_4 : decode b_Gr_difference 4 = .ok (.lload_n 1, 1) := by decide +kernel
theorem d_Gr_difference_5 : decode b_Gr_difference 5 = .ok (.lload_n 3, 1) := by decide +kernel
theorem d_Gr_difference_6 : decode b_Gr_difference 6 = .ok (.invokevirtual 58, 3) := by decide +kernel
theorem d_Gr_difference_9 : decode b_Gr_difference 9 = .ok (.lreturn, 1) := by decide +kernel
set_option maxHeartbeats 4000000 in
set_option maxRecDepth 100000 in
theorem c_Gr_difference (l : Launch) (H0 : Heap) (dC : Nat → ClassId) (dI : Nat → Nat → Nat) (h0 : Nat) (mF mE P f1 k1 Q f2 k2 G : Nat) (A B : Nat) (hP : va_P (dC, dI) classes (gp_ws h0 mF mE P f1 k1 Q f2 k2 G) H0) (hok : gp_ok P f1 k1 Q f2 k2 G) (hA : A < Q) (hB : B < Q) : Met l y_Gr_difference w_Gr_difference ({ frames := 1, cells := 0, slots := 0, locals := 24 }) (va_Pc [.ref h0, .long (lN A), .long (lN B)] (fun U => U.heap = H0 ∧ va_K (dC, dI) classes [] U)) (va_Ql (fun (r : Int64) (_ : Unit) => r = lN ((A + (Q - B)) % Q)) (fun _ t => t.heap = H0) (fun _ => False)) 0 0 (fun _ => False) := by
  refine Met.ofW (cc := b_Gr_difference) (maxL := 5) (ret := (some .long)) (by decide) rfl ?_
  intro p e s m args below meth c s₁ Bd hml hv
  obtain ⟨rfl, hH, hK⟩ := hv
  subst hH
  have hx := Bd.exec
  have hb := Bd.bytes
  have hr := Bd.returns
  have hts := atoms_spec (ws := w_Gr_difference) Bd.pre
  have hown : s.vm.findClass "BallotBoard$Group" = some m.cls := findClass_of_methodNamed Bd.named
  have hlocks := Bd.notSynchronized
  have hS : va_S (fun _ => False) s.heap s.heap [] := va_S.rf
  have hl := lv_entry ([.ref h0, .long (lN A), .long (lN B)]) (n := 5) (Nat.le_of_ble_eq_true rfl)
  rw [lg_entry_eq]
  generalize (lg_sl ([.ref h0, .long (lN A), .long (lN B)]) ++ List.replicate (5 - (lg_sl ([.ref h0, .long (lN A), .long (lN B)])).length) Slot.unset).toArray = ls at hl ⊢
  have hl : lv_has ls 5 [(0, .ref h0), (1, .long (lN A)), (3, .long (lN B))] := hl
  have hK0 : va_K (dC, dI) classes [] s := hK
  have hPF : va_P (dC, dI) classes [(mF, .inr (0, md_fs P f1 k1))] s.heap := hP.sub (ws' := [(mF, .inr (0, md_fs P f1 k1))]) [1] rfl
  have hPE : va_P (dC, dI) classes [(mE, .inr (0, md_fs Q f2 k2))] s.heap := hP.sub (ws' := [(mE, .inr (0, md_fs Q f2 k2))]) [2] rfl
  obtain ⟨hokF, hokE, hPQ, hG2, hGP, hGQ⟩ := id hok
  obtain ⟨hoF, h3F, h61F, _, _, hk61F, hNkF⟩ := id hokF
  obtain ⟨hoE, h3E, h61E, _, _, hk61E, hNkE⟩ := id hokE
  refine lv_aload_n hx hb d_Gr_difference_0 rfl (lv_at hl 0 rfl) ?_
  refine va_get (D := (dC, dI)) (ci := 1) (v := .ref mE) (C := "BallotBoard$Group") (T := F_Gr) (N := 4) hx hb hts (fun w9 h9 => List.mem_cons_of_mem _ (i_Gr w9 h9)) hown hK hP 0 rfl rfl 1 (by decide) (hts _ (List.mem_cons_of_mem _ gk_263)) (fun _ h9 => h9) rfl d_Gr_difference_1 ?_
  refine lv_lload_n hx hb d_Gr_difference_4 rfl (lv_at hl 1 rfl) ?_
  refine lv_lload_n hx hb d_Gr_difference_5 rfl (lv_at hl 2 rfl) ?_
  refine va_calll (va_runV (As := [.long (lN A), .long (lN B)]) (rest := []) ⟨hx, hb, hml, hown, hts⟩ (c_Mo_minus l s.heap dC dI mE Q f2 k2 A B hPE hokE hA hB) (cwV 2 hts (gw_V gk_461 gk_462 gk_463 gk_9 gk_464) rfl rfl rfl (by decide +kernel) ⟨Nat.le_of_ble_eq_true rfl, Nat.le_of_ble_eq_true rfl⟩) ⟨fun a U g mk q => ⟨q.1, q.2.1, va_K.moved (u := U) (U := U.calling g mk a) (Vm.Alike.refl U.vm) q.2.2⟩, va_recv hK hP (ci := 0) (q0 := 2) rfl rfl, fun U hU hW => ⟨rfl, hU, va_K.moved hW.alike hK0⟩⟩ rfl rfl hl.1 rfl (lv_room (Nat.le_of_ble_eq_true rfl)) d_Gr_difference_6 ⟨Nat.zero_le _, Nat.zero_le _⟩) hS (fun q _ h => h.elim) (fun q h => h.elim) (fun r_1 u9 t9 H1 locs ht hvm hw hB hz1 hk1 hS => ?_)
  obtain rfl : s.heap = H1 := hB.symm.trans ht
  have hw : r_1 = lN ((A + (Q - B)) % Q) := hw
  subst hw
  exact W.lret (v := (lN ((A + (Q - B)) % Q))) hx hb hr (fun t ht hW => ⟨⟨_, (), rfl, rfl, ht⟩, hS.F ht⟩) hS.2.2 d_Gr_difference_9
abbrev b_Gr_response : ByteArray := prog_4_method_14_code
abbrev y_Gr_response : MethodName := ⟨"BallotBoard$Group", "response", "(JJJ)J"⟩
abbrev w_Gr_response : List Cond := .code y_Gr_response b_Gr_response 7 (some .long) :: gw
theorem d_Gr_response_0 : decode b_Gr_response 0 = .ok (.aload_n 0, 1) := by decide +kernel
theorem d_Gr_response_1 : decode b_Gr_response 1 = .ok (.getfield 13, 3) := by decide +kernel
theorem d_Gr_response_4 : decode b_Gr_response 4 = .ok (.lload_n 1, 1) := by decide +kernel
theorem d_Gr_response_5 : decode b_Gr_response 5 = .ok (.aload_n 0, 1) := by decide +kernel
theorem d_Gr_response_6 : decode b_Gr_response 6 = .ok (.getfield 13, 3) := by decide +kernel
theorem d_Gr_response_9 : decode b_Gr_response 9 = .ok (.lload_n 3, 1) := by decide +kernel
theorem d_Gr_response_10 : decode b_Gr_response 10 = .ok (.lload 5, 2) := by decide +kernel
theorem d_Gr_response_12 : decode b_Gr_response 12 = .ok (.invokevirtual 55, 3) := by decide +kernel
theorem d_Gr_response_15 : decode b_Gr_response 15 = .ok (.invokevirtual 65, 3) := by decide +kernel
theorem d_Gr_response_18 : decode b_Gr_response 18 = .ok (.lreturn, 1) := by decide +kernel
set_option maxHeartbeats 4000000 in
set_option maxRecDepth 100000 in
theorem c_Gr_response (l : Launch) (H0 : Heap) (dC : Nat → ClassId) (dI : Nat → Nat → Nat) (h0 : Nat) (mF mE P f1 k1 Q f2 k2 G : Nat) (A B D : Nat) (hP : va_P (dC, dI) classes (gp_ws h0 mF mE P f1 k1 Q f2 k2 G) H0) (hok : gp_ok P f1 k1 Q f2 k2 G) (hA : A < Q) (hB : B < Q) (hD9 : D < Q) : Met l y_Gr_response w_Gr_response ({ frames := 2, cells := 0, slots := 0, locals := 60 }) (va_Pc [.ref h0, .long (lN A), .long (lN B), .long (lN D)] (fun U => U.heap = H0 ∧ va_K (dC, dI) classes [] U)) (va_Ql (fun (r : Int64) (_ : Unit) => r = lN ((A + B * D % Q) % Q)) (fun _ t => t.heap = H0) (fun _ => False)) 0 0 (fun _ => False) := by
  refine Met.ofW (cc := b_Gr_response) (maxL := 7) (ret := (some .long)) (by decide) rfl ?_
  intro p e s m args below meth c s₁ Bd hml hv
  obtain ⟨rfl, hH, hK⟩ := hv
  subst hH
  have hx := Bd.exec
  have hb := Bd.bytes
  have hr := Bd.returns
  have hts := atoms_spec (ws := w_Gr_response) Bd.pre
  have hown : s.vm.findClass "BallotBoard$Group" = some m.cls := findClass_of_methodNamed Bd.named
  have hlocks := Bd.notSynchronized
  have hS : va_S (fun _ => False) s.heap s.heap [] := va_S.rf
  have hl := lv_entry ([.ref h0, .long (lN A), .long (lN B), .long (lN D)]) (n := 7) (Nat.le_of_ble_eq_true rfl)
  rw [lg_entry_eq]
  generalize (lg_sl ([.ref h0, .long (lN A), .long (lN B), .long (lN D)]) ++ List.replicate (7 - (lg_sl ([.ref h0, .long (lN A), .long (lN B), .long (lN D)])).length) Slot.unset).toArray = ls at hl ⊢
  have hl : lv_has ls 7 [(0, .ref h0), (1, .long (lN A)), (3, .long (lN B)), (5, .long (lN D))] := hl
  have hK0 : va_K (dC, dI) classes [] s := hK
  have hPF : va_P (dC, dI) classes [(mF, .inr (0, md_fs P f1 k1))] s.heap := hP.sub (ws' := [(mF, .inr (0, md_fs P f1 k1))]) [1] rfl
  have hPE : va_P (dC, dI) classes [(mE, .inr (0, md_fs Q f2 k2))] s.heap := hP.sub (ws' := [(mE, .inr (0, md_fs Q f2 k2))]) [2] rfl
  obtain ⟨hokF, hokE, hPQ, hG2, hGP, hGQ⟩ := id hok
  obtain ⟨hoF, h3F, h61F, _, _, hk61F, hNkF⟩ := id hokF
  obtain ⟨hoE, h3E, h61E, _, _, hk61E, hNkE⟩ := id hokE
  refine lv_aload_n hx hb d_Gr_response_0 rfl (lv_at hl 0 rfl) ?_
  refine va_get (D := (dC, dI)) (ci := 1) (v := .ref mE) (C := "BallotBoard$Group") (T := F_Gr) (N := 4) hx hb hts (fun w9 h9 => List.mem_cons_of_mem _ (i_Gr w9 h9)) hown hK hP 0 rfl rfl 1 (by decide) (hts _ (List.mem_cons_of_mem _ gk_263)) (fun _ h9 => h9) rfl d_Gr_response_1 ?_
  refine lv_lload_n hx hb d_Gr_response_4 rfl (lv_at hl 1 rfl) ?_
  refine lv_aload_n hx hb d_Gr_response_5 rfl (lv_at hl 0 rfl) ?_
  refine va_get (D := (dC, dI)) (ci := 1) (v := .ref mE) (C := "BallotBoard$Group") (T := F_Gr) (N := 4) hx hb hts (fun w9 h9 => List.mem_cons_of_mem _ (i_Gr w9 h9)) hown hK hP 0 rfl rfl 1 (by decide) (hts _ (List.mem_cons_of_mem _ gk_263)) (fun _ h9 => h9) rfl d_Gr_response_6 ?_
  refine lv_lload_n hx hb d_Gr_response_9 rfl (lv_at hl 2 rfl) ?_
  refine lv_lload hx hb d_Gr_response_10 (lv_at hl 3 rfl) ?_
  refine va_calll (va_runV (As := [.long (lN B), .long (lN D)]) (rest := [.long (lN A), .ref mE]) ⟨hx, hb, hml, hown, hts⟩ (c_Mo_times l s.heap dC dI mE Q f2 k2 B D hPE hokE hB hD9) (cwV 2 hts (gw_V gk_485 gk_248 gk_249 gk_9 gk_250) rfl rfl rfl (by decide +kernel) ⟨Nat.le_of_ble_eq_true rfl, Nat.le_of_ble_eq_true rfl⟩) ⟨fun a U g mk q => ⟨q.1, q.2.1, va_K.moved (u := U) (U := U.calling g mk a) (Vm.Alike.refl U.vm) q.2.2⟩, va_recv hK hP (ci := 0) (q0 := 2) rfl rfl, fun U hU hW => ⟨rfl, hU, va_K.moved hW.alike hK0⟩⟩ rfl rfl hl.1 rfl (lv_room (Nat.le_of_ble_eq_true rfl)) d_Gr_response_12 ⟨Nat.zero_le _, Nat.zero_le _⟩) hS (fun q _ h => h.elim) (fun q h => h.elim) (fun r_1 u9 t9 H1 locs ht hvm hw hB hz1 hk1 hS => ?_)
  obtain rfl : s.heap = H1 := hB.symm.trans ht
  have hw : r_1 = lN (B * D % Q) := hw
  subst hw
  refine va_calll (va_runV (As := [.long (lN A), .long (lN (B * D % Q))]) (rest := []) ⟨hx, hb, hml, hown, hts⟩ (c_Mo_plus l s.heap dC dI mE Q f2 k2 A (B * D % Q) hPE hokE hA (Nat.mod_lt _ (by omega))) (cwV 2 hts (gw_V gk_490 gk_491 gk_492 gk_9 gk_493) rfl rfl rfl (by decide +kernel) ⟨Nat.le_of_ble_eq_true rfl, Nat.le_of_ble_eq_true rfl⟩) ⟨fun a U g mk q => ⟨q.1, q.2.1, va_K.moved (u := U) (U := U.calling g mk a) (Vm.Alike.refl U.vm) q.2.2⟩, va_recv hK hP (ci := 0) (q0 := 2) rfl rfl, fun U hU hW => ⟨rfl, hU, va_K.moved hW.alike hK0⟩⟩ rfl rfl hl.1 rfl (lv_room (Nat.le_of_ble_eq_true rfl)) d_Gr_response_15 ⟨Nat.zero_le _, Nat.zero_le _⟩) hS (fun q _ h => h.elim) (fun q h => h.elim) (fun r_2 u9 t9 H1 locs ht hvm hw hB hz1 hk1 hS => ?_)
  obtain rfl : s.heap = H1 := hB.symm.trans ht
  have hw : r_2 = lN ((A + (B * D % Q)) % Q) := hw
  subst hw
  exact W.lret (v := (lN ((A + (B * D % Q)) % Q))) hx hb hr (fun t ht hW => ⟨⟨_, (), rfl, rfl, ht⟩, hS.F ht⟩) hS.2.2 d_Gr_response_18
abbrev b_Gr_exponentOf : ByteArray := prog_4_method_15_code
abbrev y_Gr_exponentOf : MethodName := ⟨"BallotBoard$Group", "exponentOf", "(J)J"⟩
abbrev w_Gr_exponentOf : List Cond := .code y_Gr_exponentOf b_Gr_exponentOf 3 (some .long) :: gw
theorem d_Gr_exponentOf_0 : decode b_Gr_exponentOf 0 = .ok (.aload_n 0, 1) := by decide +kernel
theorem d_Gr_exponentOf_1 : decode b_Gr_exponentOf 1 = .ok (.getfield 13, 3) := by decide +kernel
theorem d_Gr_exponentOf_4 : decode b_Gr_exponentOf 4 = .ok (.lload_n 1, 1) := by decide +kernel
theorem d_Gr_exponentOf_5 : decode b_Gr_exponentOf 5 = .ok (.invokevirtual 68, 3) := by decide +kernel
theorem d_Gr_exponentOf_8 : decode b_Gr_exponentOf 8 = .ok (.lreturn, 1) := by decide +kernel
set_option maxHeartbeats 4000000 in
set_option maxRecDepth 100000 in
theorem c_Gr_exponentOf (l : Launch) (H0 : Heap) (dC : Nat → ClassId) (dI : Nat → Nat → Nat) (h0 : Nat) (mF mE P f1 k1 Q f2 k2 G : Nat) (U : Nat) (hP : va_P (dC, dI) classes (gp_ws h0 mF mE P f1 k1 Q f2 k2 G) H0) (hok : gp_ok P f1 k1 Q f2 k2 G) (hU : U < 2 ^ 64) : Met l y_Gr_exponentOf w_Gr_exponentOf ({ frames := 1, cells := 0, slots := 0, locals := 24 }) (va_Pc [.ref h0, .long (lN U)] (fun U => U.heap = H0 ∧ va_K (dC, dI) classes [] U)) (va_Ql (fun (r : Int64) (_ : Unit) => r = lN (U % Q)) (fun _ t => t.heap = H0) (fun _ => False)) 0 0 (fun _ => False) := by
  refine Met.ofW (cc := b_Gr_exponentOf) (maxL := 3) (ret := (some .long)) (by decide) rfl ?_
  intro p e s m args below meth c s₁ Bd hml hv
  obtain ⟨rfl, hH, hK⟩ := hv
  subst hH
  have hx := Bd.exec
  have hb := Bd.bytes
  have hr := Bd.returns
  have hts := atoms_spec (ws := w_Gr_exponentOf) Bd.pre
  have hown : s.vm.findClass "BallotBoard$Group" = some m.cls := findClass_of_methodNamed Bd.named
  have hlocks := Bd.notSynchronized
  have hS : va_S (fun _ => False) s.heap s.heap [] := va_S.rf
  have hl := lv_entry ([.ref h0, .long (lN U)]) (n := 3) (Nat.le_of_ble_eq_true rfl)
  rw [lg_entry_eq]
  generalize (lg_sl ([.ref h0, .long (lN U)]) ++ List.replicate (3 - (lg_sl ([.ref h0, .long (lN U)])).length) Slot.unset).toArray = ls at hl ⊢
  have hl : lv_has ls 3 [(0, .ref h0), (1, .long (lN U))] := hl
  have hK0 : va_K (dC, dI) classes [] s := hK
  have hPF : va_P (dC, dI) classes [(mF, .inr (0, md_fs P f1 k1))] s.heap := hP.sub (ws' := [(mF, .inr (0, md_fs P f1 k1))]) [1] rfl
  have hPE : va_P (dC, dI) classes [(mE, .inr (0, md_fs Q f2 k2))] s.heap := hP.sub (ws' := [(mE, .inr (0, md_fs Q f2 k2))]) [2] rfl
  obtain ⟨hokF, hokE, hPQ, hG2, hGP, hGQ⟩ := id hok
  obtain ⟨hoF, h3F, h61F, _, _, hk61F, hNkF⟩ := id hokF
  obtain ⟨hoE, h3E, h61E, _, _, hk61E, hNkE⟩ := id hokE
  refine lv_aload_n hx hb d_Gr_exponentOf_0 rfl (lv_at hl 0 rfl) ?_
  refine va_get (D := (dC, dI)) (ci := 1) (v := .ref mE) (C := "BallotBoard$Group") (T := F_Gr) (N := 4) hx hb hts (fun w9 h9 => List.mem_cons_of_mem _ (i_Gr w9 h9)) hown hK hP 0 rfl rfl 1 (by decide) (hts _ (List.mem_cons_of_mem _ gk_263)) (fun _ h9 => h9) rfl d_Gr_exponentOf_1 ?_
  refine lv_lload_n hx hb d_Gr_exponentOf_4 rfl (lv_at hl 1 rfl) ?_
  refine va_calll (va_runV (As := [.long (lN U)]) (rest := []) ⟨hx, hb, hml, hown, hts⟩ (c_Mo_leftOf l s.heap dC dI mE Q f2 k2 U hPE hokE hU) (cwV 1 hts (gw_V gk_544 gk_545 gk_546 gk_9 gk_547) rfl rfl rfl (by decide +kernel) ⟨Nat.le_of_ble_eq_true rfl, Nat.le_of_ble_eq_true rfl⟩) ⟨fun a U g mk q => ⟨q.1, q.2.1, va_K.moved (u := U) (U := U.calling g mk a) (Vm.Alike.refl U.vm) q.2.2⟩, va_recv hK hP (ci := 0) (q0 := 2) rfl rfl, fun U hU hW => ⟨rfl, hU, va_K.moved hW.alike hK0⟩⟩ rfl rfl hl.1 rfl (lv_room (Nat.le_of_ble_eq_true rfl)) d_Gr_exponentOf_5 ⟨Nat.zero_le _, Nat.zero_le _⟩) hS (fun q _ h => h.elim) (fun q h => h.elim) (fun r_1 u9 t9 H1 locs ht hvm hw hB hz1 hk1 hS => ?_)
  obtain rfl : s.heap = H1 := hB.symm.trans ht
  have hw : r_1 = lN (U % Q) := hw
  subst hw
  exact W.lret (v := (lN (U % Q))) hx hb hr (fun t ht hW => ⟨⟨_, (), rfl, rfl, ht⟩, hS.F ht⟩) hS.2.2 d_Gr_exponentOf_8
abbrev b_Gr_has : ByteArray := prog_4_method_6_code
abbrev y_Gr_has : MethodName := ⟨"BallotBoard$Group", "has", "(J)Z"⟩
abbrev w_Gr_has : List Cond := .code y_Gr_has b_Gr_has 3 (some .boolean) :: gw
theorem d_Gr_has_0 : decode b_Gr_has 0 = .ok (.lload_n 1, 1) := by decide +kernel
theorem d_Gr_has_1 : decode b_Gr_has 1 = .ok (.lconst 1, 1) := by decide +kernel
theorem d_Gr_has_2 : decode b_Gr_has 2 = .ok (.lcmp, 1) := by decide +kernel
theorem d_Gr_has_3 : decode b_Gr_has 3 = .ok (.ifCond .lt 39, 3) := by decide +kernel
theorem d_Gr_has_6 : decode b_Gr_has 6 = .ok (.lload_n 1, 1) := by decide +kernel
theorem d_Gr_has_7 : decode b_Gr_has 7 = .ok (.aload_n 0, 1) := by decide +kernel
theorem d_Gr_has_8 : decode b_Gr_has 8 = .ok (.getfield 7, 3) := by decide +kernel
theorem d_Gr_has_11 : decode b_Gr_has 11 = .ok (.invokevirtual 20, 3) := by decide +kernel
theorem d_Gr_has_14 : decode b_Gr_has 14 = .ok (.lcmp, 1) := by decide +kernel
theorem d_Gr_has_15 : decode b_Gr_has 15 = .ok (.ifCond .ge 27, 3) := by decide +kernel
theorem d_Gr_has_18 : decode b_Gr_has 18 = .ok (.aload_n 0, 1) := by decide +kernel
theorem d_Gr_has_19 : decode b_Gr_has 19 = .ok (.getfield 7, 3) := by decide +kernel
theorem d_Gr_has_22 : decode b_Gr_has 22 = .ok (.lload_n 1, 1) := by decide +kernel
theorem d_Gr_has_23 : decode b_Gr_has 23 = .ok (.aload_n 0, 1) := by decide +kernel
theorem d_Gr_has_24 : decode b_Gr_has 24 = .ok (.getfield 13, 3) := by decide +kernel
theorem d_Gr_has_27 : decode b_Gr_has 27 = .ok (.invokevirtual 20, 3) := by decide +kernel
theorem d_Gr_has_30 : decode b_Gr_has 30 = .ok (.invokevirtual 26, 3) := by decide +kernel
theorem d_Gr_has_33 : decode b_Gr_has 33 = .ok (.lconst 1, 1) := by decide +kernel
theorem d_Gr_has_34 : decode b_Gr_has 34 = .ok (.lcmp, 1) := by decide +kernel
theorem d_Gr_has_35 : decode b_Gr_has 35 = .ok (.ifCond .ne 7, 3) := by decide +kernel
theorem d_Gr_has_38 : decode b_Gr_has 38 = .ok (.iconst 1, 1) := by decide +kernel
theorem d_Gr_has_39 : decode b_Gr_has 39 = .ok (.goto 4, 3) := by decide +kernel
theorem d_Gr_has_42 : decode b_Gr_has 42 = .ok (.iconst 0, 1) := by decide +kernel
theorem d_Gr_has_43 : decode b_Gr_has 43 = .ok (.ireturn, 1) := by decide +kernel
set_option maxHeartbeats 4000000 in
set_option maxRecDepth 100000 in
theorem c_Gr_has (l : Launch) (H0 : Heap) (dC : Nat → ClassId) (dI : Nat → Nat → Nat) (h0 : Nat) (mF mE P f1 k1 Q f2 k2 G : Nat) (x1 : Int64) (hP : va_P (dC, dI) classes (gp_ws h0 mF mE P f1 k1 Q f2 k2 G) H0) (hok : gp_ok0 P f1 k1 Q f2 k2 G)  : Met l y_Gr_has w_Gr_has ({ frames := 2, cells := 0, slots := 0, locals := 65 }) (va_Pc [.ref h0, .long x1] (fun U => U.heap = H0 ∧ va_K (dC, dI) classes [] U)) (va_Qi (fun (r : Int32) (_ : Unit) => (r = 1 ∧ in_gp P Q x1) ∨ (r = 0 ∧ ¬ in_gp P Q x1)) (fun _ t => t.heap = H0) (fun _ => False)) 0 0 (fun _ => False) := by
  refine Met.ofW (cc := b_Gr_has) (maxL := 3) (ret := (some .boolean)) (by decide) rfl ?_
  intro p e s m args below meth c s₁ Bd hml hv
  obtain ⟨rfl, hH, hK⟩ := hv
  subst hH
  have hx := Bd.exec
  have hb := Bd.bytes
  have hr := Bd.returns
  have hts := atoms_spec (ws := w_Gr_has) Bd.pre
  have hown : s.vm.findClass "BallotBoard$Group" = some m.cls := findClass_of_methodNamed Bd.named
  have hlocks := Bd.notSynchronized
  have hS : va_S (fun _ => False) s.heap s.heap [] := va_S.rf
  have hl := lv_entry ([.ref h0, .long x1]) (n := 3) (Nat.le_of_ble_eq_true rfl)
  rw [lg_entry_eq]
  generalize (lg_sl ([.ref h0, .long x1]) ++ List.replicate (3 - (lg_sl ([.ref h0, .long x1])).length) Slot.unset).toArray = ls at hl ⊢
  have hl : lv_has ls 3 [(0, .ref h0), (1, .long x1)] := hl
  have hK0 : va_K (dC, dI) classes [] s := hK
  have hPF : va_P (dC, dI) classes [(mF, .inr (0, md_fs P f1 k1))] s.heap := hP.sub (ws' := [(mF, .inr (0, md_fs P f1 k1))]) [1] rfl
  have hPE : va_P (dC, dI) classes [(mE, .inr (0, md_fs Q f2 k2))] s.heap := hP.sub (ws' := [(mE, .inr (0, md_fs Q f2 k2))]) [2] rfl
  obtain ⟨hokF, hokE, hPQ, hG2, hGP⟩ := id hok
  obtain ⟨hoF, h3F, h61F, _, _, hk61F, hNkF⟩ := id hokF
  obtain ⟨hoE, h3E, h61E, _, _, hk61E, hNkE⟩ := id hokE
  refine lv_lload_n hx hb d_Gr_has_0 rfl (lv_at hl 1 rfl) ?_
  refine lv_lconst (v := 1) hx hb d_Gr_has_1 (by decide) ?_
  refine W.lcmp hx hb d_Gr_has_2 ?_
  refine lv_if_lt (tgt := 42) hx hb d_Gr_has_3 (by decide) (fun c_1 => ?_) (fun c_1 => ?_)
  · -- taken
    have hbad : ¬ in_gp P Q x1 := by
      rintro ⟨Y, rfl, h1, h2, _⟩
      have := (ln_lt1 (by omega)).mp c_1
      omega
    refine lv_iconst (v := 0) hx hb d_Gr_has_42 (by decide) ?_
    exact W.zret (v := 0) hx hb hr (by decide) (fun t ht hW => ⟨⟨_, (), rfl, (Or.inr ⟨rfl, hbad⟩), ht⟩, hS.F ht⟩) hS.2.2 d_Gr_has_43
  · -- not taken
    obtain ⟨Y, hY63, hY1, rfl⟩ := l_pos c_1
    refine lv_lload_n hx hb d_Gr_has_6 rfl (lv_at hl 1 rfl) ?_
    refine lv_aload_n hx hb d_Gr_has_7 rfl (lv_at hl 0 rfl) ?_
    refine va_get (D := (dC, dI)) (ci := 1) (v := .ref mF) (C := "BallotBoard$Group") (T := F_Gr) (N := 4) hx hb hts (fun w9 h9 => List.mem_cons_of_mem _ (i_Gr w9 h9)) hown hK hP 0 rfl rfl 0 (by decide) (hts _ (List.mem_cons_of_mem _ gk_262)) (fun _ h9 => h9) rfl d_Gr_has_8 ?_
    refine va_calll (va_runV (As := []) (rest := [.long (lN Y)]) ⟨hx, hb, hml, hown, hts⟩ (c_Mo_size l s.heap dC dI mF P f1 k1  hPF hokF ) (cwV 0 hts (gw_V gk_257 gk_258 gk_259 gk_9 gk_260) rfl rfl rfl (by decide +kernel) ⟨Nat.le_of_ble_eq_true rfl, Nat.le_of_ble_eq_true rfl⟩) ⟨fun a U g mk q => ⟨q.1, q.2.1, va_K.moved (u := U) (U := U.calling g mk a) (Vm.Alike.refl U.vm) q.2.2⟩, va_recv hK hP (ci := 0) (q0 := 1) rfl rfl, fun U hU hW => ⟨rfl, hU, va_K.moved hW.alike hK0⟩⟩ rfl rfl hl.1 rfl (lv_room (Nat.le_of_ble_eq_true rfl)) d_Gr_has_11 ⟨Nat.zero_le _, Nat.zero_le _⟩) hS (fun q _ h => h.elim) (fun q h => h.elim) (fun r_2 u9 t9 H1 locs ht hvm hw hB hz1 hk1 hS => ?_)
    obtain rfl : s.heap = H1 := hB.symm.trans ht
    have hw : r_2 = lN P := hw
    subst hw
    refine W.lcmp hx hb d_Gr_has_14 ?_
    refine lv_if_ge (tgt := 42) hx hb d_Gr_has_15 (by decide) (fun c_3 => ?_) (fun c_3 => ?_)
    · -- taken
      have hbad : ¬ in_gp P Q (lN Y) := by
        rintro ⟨Z, e9, h1, h2, _⟩
        have e8 := ln_inj hY63 (by omega) e9
        have := (cmpge hY63 P (by omega)).mp c_3
        omega
      refine lv_iconst (v := 0) hx hb d_Gr_has_42 (by decide) ?_
      exact W.zret (v := 0) hx hb hr (by decide) (fun t ht hW => ⟨⟨_, (), rfl, (Or.inr ⟨rfl, hbad⟩), ht⟩, hS.F ht⟩) hS.2.2 d_Gr_has_43
    · -- not taken
      have hYP : Y < P := Nat.lt_of_not_le (fun h => c_3 ((cmpge hY63 P (by omega)).mpr h))
      refine lv_aload_n hx hb d_Gr_has_18 rfl (lv_at hl 0 rfl) ?_
      refine va_get (D := (dC, dI)) (ci := 1) (v := .ref mF) (C := "BallotBoard$Group") (T := F_Gr) (N := 4) hx hb hts (fun w9 h9 => List.mem_cons_of_mem _ (i_Gr w9 h9)) hown hK hP 0 rfl rfl 0 (by decide) (hts _ (List.mem_cons_of_mem _ gk_262)) (fun _ h9 => h9) rfl d_Gr_has_19 ?_
      refine lv_lload_n hx hb d_Gr_has_22 rfl (lv_at hl 1 rfl) ?_
      refine lv_aload_n hx hb d_Gr_has_23 rfl (lv_at hl 0 rfl) ?_
      refine va_get (D := (dC, dI)) (ci := 1) (v := .ref mE) (C := "BallotBoard$Group") (T := F_Gr) (N := 4) hx hb hts (fun w9 h9 => List.mem_cons_of_mem _ (i_Gr w9 h9)) hown hK hP 0 rfl rfl 1 (by decide) (hts _ (List.mem_cons_of_mem _ gk_263)) (fun _ h9 => h9) rfl d_Gr_has_24 ?_
      refine va_calll (va_runV (As := []) (rest := [.long (lN Y), .ref mF]) ⟨hx, hb, hml, hown, hts⟩ (c_Mo_size l s.heap dC dI mE Q f2 k2  hPE hokE ) (cwV 0 hts (gw_V gk_257 gk_258 gk_259 gk_9 gk_260) rfl rfl rfl (by decide +kernel) ⟨Nat.le_of_ble_eq_true rfl, Nat.le_of_ble_eq_true rfl⟩) ⟨fun a U g mk q => ⟨q.1, q.2.1, va_K.moved (u := U) (U := U.calling g mk a) (Vm.Alike.refl U.vm) q.2.2⟩, va_recv hK hP (ci := 0) (q0 := 2) rfl rfl, fun U hU hW => ⟨rfl, hU, va_K.moved hW.alike hK0⟩⟩ rfl rfl hl.1 rfl (lv_room (Nat.le_of_ble_eq_true rfl)) d_Gr_has_27 ⟨Nat.zero_le _, Nat.zero_le _⟩) hS (fun q _ h => h.elim) (fun q h => h.elim) (fun r_4 u9 t9 H1 locs ht hvm hw hB hz1 hk1 hS => ?_)
      obtain rfl : s.heap = H1 := hB.symm.trans ht
      have hw : r_4 = lN Q := hw
      subst hw
      refine va_calll (va_runV (As := [.long (lN Y), .long (lN Q)]) (rest := []) ⟨hx, hb, hml, hown, hts⟩ (c_Mo_power l s.heap dC dI mF P f1 k1 Y Q hPF hokF hYP (by omega)) (cwV 2 hts (gw_V gk_261 gk_236 gk_237 gk_9 gk_238) rfl rfl rfl (by decide +kernel) ⟨Nat.le_of_ble_eq_true rfl, Nat.le_of_ble_eq_true rfl⟩) ⟨fun a U g mk q => ⟨q.1, q.2.1, va_K.moved (u := U) (U := U.calling g mk a) (Vm.Alike.refl U.vm) q.2.2⟩, va_recv hK hP (ci := 0) (q0 := 1) rfl rfl, fun U hU hW => ⟨rfl, hU, va_K.moved hW.alike hK0⟩⟩ rfl rfl hl.1 rfl (lv_room (Nat.le_of_ble_eq_true rfl)) d_Gr_has_30 ⟨Nat.zero_le _, Nat.zero_le _⟩) hS (fun q _ h => h.elim) (fun q h => h.elim) (fun r_5 u9 t9 H1 locs ht hvm hw hB hz1 hk1 hS => ?_)
      obtain rfl : s.heap = H1 := hB.symm.trans ht
      have hw : r_5 = lN (Y ^ Q % P) := hw
      subst hw
      refine lv_lconst (v := 1) hx hb d_Gr_has_33 (by decide) ?_
      refine W.lcmp hx hb d_Gr_has_34 ?_
      refine lv_if_ne (tgt := 42) hx hb d_Gr_has_35 (by decide) (fun c_6 => ?_) (fun c_6 => ?_)
      · -- taken
        have hbad : ¬ in_gp P Q (lN Y) := by
          rintro ⟨Z, e9, h1, h2, h4⟩
          have e8 := ln_inj hY63 (by omega) e9
          subst e8
          exact c_6 ((cmpe (Nat.lt_trans (Nat.mod_lt _ (by omega)) (by omega)) 1 (by omega) rfl).mpr h4)
        refine lv_iconst (v := 0) hx hb d_Gr_has_42 (by decide) ?_
        exact W.zret (v := 0) hx hb hr (by decide) (fun t ht hW => ⟨⟨_, (), rfl, (Or.inr ⟨rfl, hbad⟩), ht⟩, hS.F ht⟩) hS.2.2 d_Gr_has_43
      · -- not taken
        have hgood : in_gp P Q (lN Y) := ⟨Y, rfl, hY1, hYP, (cmpe (Nat.lt_trans (Nat.mod_lt _ (by omega)) (by omega)) 1 (by omega) rfl).mp c_6⟩
        refine lv_iconst (v := 1) hx hb d_Gr_has_38 (by decide) ?_
        refine lv_goto (tgt := 43) hx hb d_Gr_has_39 (by decide) ?_
        exact W.zret (v := 1) hx hb hr (by decide) (fun t ht hW => ⟨⟨_, (), rfl, (Or.inl ⟨rfl, hgood⟩), ht⟩, hS.F ht⟩) hS.2.2 d_Gr_has_43
abbrev b_Gr_hasExponent : ByteArray := prog_4_method_7_code
abbrev y_Gr_hasExponent : MethodName := ⟨"BallotBoard$Group", "hasExponent", "(J)Z"⟩
abbrev w_Gr_hasExponent : List Cond := .code y_Gr_hasExponent b_Gr_hasExponent 3 (some .boolean) :: gw
theorem d_Gr_hasExponent_0 : decode b_Gr_hasExponent 0 = .ok (.lload_n 1, 1) := by decide +kernel
theorem d_Gr_hasExponent_1 : decode b_Gr_hasExponent 1 = .ok (.lconst 0, 1) := by decide +kernel
theorem d_Gr_hasExponent_2 : decode b_Gr_hasExponent 2 = .ok (.lcmp, 1) := by decide +kernel
theorem d_Gr_hasExponent_3 : decode b_Gr_hasExponent 3 = .ok (.ifCond .lt 19, 3) := by decide +kernel
theorem d_Gr_hasExponent_6 : decode b_Gr_hasExponent 6 = .ok (.lload_n 1, 1) := by decide +kernel
theorem d_Gr_hasExponent_7 : decode b_Gr_hasExponent 7 = .ok (.aload_n 0, 1) := by decide +kernel
theorem d_Gr_hasExponent_8 : decode b_Gr_hasExponent 8 = .ok (.getfield 13, 3) := by decide +kernel
theorem d_Gr_hasExponent_11 : decode b_Gr_hasExponent 11 = .ok (.invokevirtual 20, 3) := by decide +kernel
theorem d_Gr_hasExponent_14 : decode b_Gr_hasExponent 14 = .ok (.lcmp, 1) := by decide +kernel
theorem d_Gr_hasExponent_15 : decode b_Gr_hasExponent 15 = .ok (.ifCond .ge 7, 3) := by decide +kernel
theorem d_Gr_hasExponent_18 : decode b_Gr_hasExponent 18 = .ok (.iconst 1, 1) := by decide +kernel
theorem d_Gr_hasExponent_19 : decode b_Gr_hasExponent 19 = .ok (.goto 4, 3) := by decide +kernel
theorem d_Gr_hasExponent_22 : decode b_Gr_hasExponent 22 = .ok (.iconst 0, 1) := by decide +kernel
theorem d_Gr_hasExponent_23 : decode b_Gr_hasExponent 23 = .ok (.ireturn, 1) := by decide +kernel
set_option maxHeartbeats 4000000 in
set_option maxRecDepth 100000 in
theorem c_Gr_hasExponent (l : Launch) (H0 : Heap) (dC : Nat → ClassId) (dI : Nat → Nat → Nat) (h0 : Nat) (mF mE P f1 k1 Q f2 k2 G : Nat) (x1 : Int64) (hP : va_P (dC, dI) classes (gp_ws h0 mF mE P f1 k1 Q f2 k2 G) H0) (hok : gp_ok P f1 k1 Q f2 k2 G)  : Met l y_Gr_hasExponent w_Gr_hasExponent ({ frames := 1, cells := 0, slots := 0, locals := 20 }) (va_Pc [.ref h0, .long x1] (fun U => U.heap = H0 ∧ va_K (dC, dI) classes [] U)) (va_Qi (fun (r : Int32) (_ : Unit) => (r = 1 ∧ in_ex Q x1) ∨ (r = 0 ∧ ¬ in_ex Q x1)) (fun _ t => t.heap = H0) (fun _ => False)) 0 0 (fun _ => False) := by
  refine Met.ofW (cc := b_Gr_hasExponent) (maxL := 3) (ret := (some .boolean)) (by decide) rfl ?_
  intro p e s m args below meth c s₁ Bd hml hv
  obtain ⟨rfl, hH, hK⟩ := hv
  subst hH
  have hx := Bd.exec
  have hb := Bd.bytes
  have hr := Bd.returns
  have hts := atoms_spec (ws := w_Gr_hasExponent) Bd.pre
  have hown : s.vm.findClass "BallotBoard$Group" = some m.cls := findClass_of_methodNamed Bd.named
  have hlocks := Bd.notSynchronized
  have hS : va_S (fun _ => False) s.heap s.heap [] := va_S.rf
  have hl := lv_entry ([.ref h0, .long x1]) (n := 3) (Nat.le_of_ble_eq_true rfl)
  rw [lg_entry_eq]
  generalize (lg_sl ([.ref h0, .long x1]) ++ List.replicate (3 - (lg_sl ([.ref h0, .long x1])).length) Slot.unset).toArray = ls at hl ⊢
  have hl : lv_has ls 3 [(0, .ref h0), (1, .long x1)] := hl
  have hK0 : va_K (dC, dI) classes [] s := hK
  have hPF : va_P (dC, dI) classes [(mF, .inr (0, md_fs P f1 k1))] s.heap := hP.sub (ws' := [(mF, .inr (0, md_fs P f1 k1))]) [1] rfl
  have hPE : va_P (dC, dI) classes [(mE, .inr (0, md_fs Q f2 k2))] s.heap := hP.sub (ws' := [(mE, .inr (0, md_fs Q f2 k2))]) [2] rfl
  obtain ⟨hokF, hokE, hPQ, hG2, hGP, hGQ⟩ := id hok
  obtain ⟨hoF, h3F, h61F, _, _, hk61F, hNkF⟩ := id hokF
  obtain ⟨hoE, h3E, h61E, _, _, hk61E, hNkE⟩ := id hokE
  refine lv_lload_n hx hb d_Gr_hasExponent_0 rfl (lv_at hl 1 rfl) ?_
  refine lv_lconst (v := 0) hx hb d_Gr_hasExponent_1 (by decide) ?_
  refine W.lcmp hx hb d_Gr_hasExponent_2 ?_
  refine lv_if_lt (tgt := 22) hx hb d_Gr_hasExponent_3 (by decide) (fun c_1 => ?_) (fun c_1 => ?_)
  · -- taken
    have hbad : ¬ in_ex Q x1 := by
      rintro ⟨Y, rfl, h1⟩
      exact ln_neg (by omega) c_1
    refine lv_iconst (v := 0) hx hb d_Gr_hasExponent_22 (by decide) ?_
    exact W.zret (v := 0) hx hb hr (by decide) (fun t ht hW => ⟨⟨_, (), rfl, (Or.inr ⟨rfl, hbad⟩), ht⟩, hS.F ht⟩) hS.2.2 d_Gr_hasExponent_23
  · -- not taken
    obtain ⟨Y, hY63, rfl⟩ := l_nn c_1
    refine lv_lload_n hx hb d_Gr_hasExponent_6 rfl (lv_at hl 1 rfl) ?_
    refine lv_aload_n hx hb d_Gr_hasExponent_7 rfl (lv_at hl 0 rfl) ?_
    refine va_get (D := (dC, dI)) (ci := 1) (v := .ref mE) (C := "BallotBoard$Group") (T := F_Gr) (N := 4) hx hb hts (fun w9 h9 => List.mem_cons_of_mem _ (i_Gr w9 h9)) hown hK hP 0 rfl rfl 1 (by decide) (hts _ (List.mem_cons_of_mem _ gk_263)) (fun _ h9 => h9) rfl d_Gr_hasExponent_8 ?_
    refine va_calll (va_runV (As := []) (rest := [.long (lN Y)]) ⟨hx, hb, hml, hown, hts⟩ (c_Mo_size l s.heap dC dI mE Q f2 k2  hPE hokE ) (cwV 0 hts (gw_V gk_257 gk_258 gk_259 gk_9 gk_260) rfl rfl rfl (by decide +kernel) ⟨Nat.le_of_ble_eq_true rfl, Nat.le_of_ble_eq_true rfl⟩) ⟨fun a U g mk q => ⟨q.1, q.2.1, va_K.moved (u := U) (U := U.calling g mk a) (Vm.Alike.refl U.vm) q.2.2⟩, va_recv hK hP (ci := 0) (q0 := 2) rfl rfl, fun U hU hW => ⟨rfl, hU, va_K.moved hW.alike hK0⟩⟩ rfl rfl hl.1 rfl (lv_room (Nat.le_of_ble_eq_true rfl)) d_Gr_hasExponent_11 ⟨Nat.zero_le _, Nat.zero_le _⟩) hS (fun q _ h => h.elim) (fun q h => h.elim) (fun r_2 u9 t9 H1 locs ht hvm hw hB hz1 hk1 hS => ?_)
    obtain rfl : s.heap = H1 := hB.symm.trans ht
    have hw : r_2 = lN Q := hw
    subst hw
    refine W.lcmp hx hb d_Gr_hasExponent_14 ?_
    refine lv_if_ge (tgt := 22) hx hb d_Gr_hasExponent_15 (by decide) (fun c_3 => ?_) (fun c_3 => ?_)
    · -- taken
      have hbad : ¬ in_ex Q (lN Y) := by
        rintro ⟨Z, e9, h1⟩
        have e8 := ln_inj hY63 (by omega) e9
        have := (cmpge hY63 Q (by omega)).mp c_3
        omega
      refine lv_iconst (v := 0) hx hb d_Gr_hasExponent_22 (by decide) ?_
      exact W.zret (v := 0) hx hb hr (by decide) (fun t ht hW => ⟨⟨_, (), rfl, (Or.inr ⟨rfl, hbad⟩), ht⟩, hS.F ht⟩) hS.2.2 d_Gr_hasExponent_23
    · -- not taken
      have hgood : in_ex Q (lN Y) := ⟨Y, rfl, Nat.lt_of_not_le (fun h => c_3 ((cmpge hY63 Q (by omega)).mpr h))⟩
      refine lv_iconst (v := 1) hx hb d_Gr_hasExponent_18 (by decide) ?_
      refine lv_goto (tgt := 23) hx hb d_Gr_hasExponent_19 (by decide) ?_
      exact W.zret (v := 1) hx hb hr (by decide) (fun t ht hW => ⟨⟨_, (), rfl, (Or.inl ⟨rfl, hgood⟩), ht⟩, hS.F ht⟩) hS.2.2 d_Gr_hasExponent_23
