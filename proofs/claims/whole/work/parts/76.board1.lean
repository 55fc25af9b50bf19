abbrev b_Bd_clear : ByteArray := prog_3_method_2_code
abbrev y_Bd_clear : MethodName := ⟨"BallotBoard$Board", "clear", "()V"⟩
abbrev w_Bd_clear : List Cond := .code y_Bd_clear b_Bd_clear 1 none :: gw
theorem d_Bd_clear_0 : decode b_Bd_clear 0 = .ok (.aload_n 0, 1) := by decide +kernel
theorem d_Bd_clear_1 : decode b_Bd_clear 1 = .ok (.iconst 0, 1) := by decide +kernel
theorem d_Bd_clear_2 : decode b_Bd_clear 2 = .ok (.putfield 23, 3) := by decide +kernel
theorem d_Bd_clear_5 : decode b_Bd_clear 5 = .ok (.return_, 1) := by decide +kernel
set_option maxHeartbeats 8000000 in
set_option maxRecDepth 100000 in
theorem c_Bd_clear (l : Launch) (dC : Nat → ClassId) (dI : Nat → Nat → Nat) (cJ cI cR : ClassId) (sz : Nat) (bd0 h0 ro lo n : Nat)  : Met l y_Bd_clear w_Bd_clear ({ frames := 0, cells := 0, slots := 0, locals := 0 }) (va_Pc [.ref bd0] (fun U => U.heap.size = sz ∧ va_P (dC, dI) classes (bo_ws bd0 h0 ro lo n) U.heap ∧ va_K (dC, dI) classes [(cJ, .long), (cI, .int), (cR, .array .long)] U ∧ va_D (fun _ => True) (bo_ws bd0 h0 ro lo n))) (va_Qv (fun _ : Unit => True) (fun _ t => va_P (dC, dI) classes (bo_ws bd0 h0 ro lo 0) t.heap ∧ va_K (dC, dI) classes [(cJ, .long), (cI, .int), (cR, .array .long)] t ∧ va_D (va_A (bo_ws bd0 h0 ro lo n) sz) (bo_ws bd0 h0 ro lo 0)) (va_A (bo_ws bd0 h0 ro lo n) sz)) 0 0 (va_A (bo_ws bd0 h0 ro lo n) sz) := by
  refine Met.ofW (cc := b_Bd_clear) (maxL := 1) (ret := none) (by decide) rfl ?_
  intro p e s m args below meth c s₁ Bd hml hv
  obtain ⟨rfl, hsz, hP, hK, hD0⟩ := hv
  have hx := Bd.exec
  have hb := Bd.bytes
  have hr := Bd.returns
  have hts := atoms_spec (ws := w_Bd_clear) Bd.pre
  have hown : s.vm.findClass "BallotBoard$Board" = some m.cls := findClass_of_methodNamed Bd.named
  have hlocks := Bd.notSynchronized
  subst hsz
  have hD := hD0.self (sz := s.heap.size)
  generalize hAe : va_A (bo_ws bd0 h0 ro lo n) s.heap.size = A at hD ⊢
  have hA : ∀ q : Nat, s.heap.size ≤ q → A q := fun q h => by rw [← hAe]; exact Or.inr h
  have hS : va_S A s.heap s.heap [] := va_S.rf
  have hl := lv_entry ([.ref bd0]) (n := 1) (Nat.le_of_ble_eq_true rfl)
  rw [lg_entry_eq]
  generalize (lg_sl ([.ref bd0]) ++ List.replicate (1 - (lg_sl ([.ref bd0])).length) Slot.unset).toArray = ls at hl ⊢
  have hl : lv_has ls 1 [(0, .ref bd0)] := hl
  refine lv_aload_n hx hb d_Bd_clear_0 rfl (lv_at hl 0 rfl) ?_
  refine lv_iconst (v := 0) hx hb d_Bd_clear_1 (by decide) ?_
  refine va_put (D := (dC, dI)) (ci := 3) (v := .int 0) (ty := .int) (C := "BallotBoard$Board") (T := F_Bo) (N := 4) hx hb hts (fun w9 h9 => List.mem_cons_of_mem _ (i_Bo w9 h9)) t_Bo t_Bo_ok n_Bo hown hK hP hD hS 0 rfl rfl 3 (by decide) (hts _ (List.mem_cons_of_mem _ gk_63)) (fun _ h9 => h9) rfl (by decide +kernel) rfl rfl (Nat.le_of_ble_eq_true rfl) d_Bd_clear_2 (fun H locs hP hD hS => ?_)
  have hP : va_P (dC, dI) classes [(bd0, .inr (3, [.ref h0, .ref ro, .ref lo, .int 0]))] H := hP
  have hD : va_D A [(bd0, .inr (3, [.ref h0, .ref ro, .ref lo, .int 0]))] := hD
  exact W.vret hx hb hr (fun t ht9 hW => ⟨⟨(), rfl, trivial, by rw [ht9]; exact hP, va_K.moved hW.alike hK, hD⟩, hS.F ht9⟩) hS.2.2 d_Bd_clear_5
abbrev b_Bd_size : ByteArray := prog_3_method_3_code
abbrev y_Bd_size : MethodName := ⟨"BallotBoard$Board", "size", "()I"⟩
abbrev w_Bd_size : List Cond := .code y_Bd_size b_Bd_size 1 (some .int) :: gw
theorem d_Bd_size_0 : decode b_Bd_size 0 = .ok (.aload_n 0, 1) := by decide +kernel
theorem d_Bd_size_1 : decode b_Bd_size 1 = .ok (.getfield 23, 3) := by decide +kernel
theorem d_Bd_size_4 : decode b_Bd_size 4 = .ok (.ireturn, 1) := by decide +kernel
set_option maxHeartbeats 8000000 in
set_option maxRecDepth 100000 in
theorem c_Bd_size (l : Launch) (H0 : Heap) (dC : Nat → ClassId) (dI : Nat → Nat → Nat) (cJ cI cR : ClassId) (bd0 h0 ro lo n : Nat) (hP : va_P (dC, dI) classes (bo_ws bd0 h0 ro lo n) H0)  : Met l y_Bd_size w_Bd_size ({ frames := 0, cells := 0, slots := 0, locals := 0 }) (va_Pc [.ref bd0] (fun U => U.heap = H0 ∧ va_K (dC, dI) classes [(cJ, .long), (cI, .int), (cR, .array .long)] U)) (va_Qi (fun (r : Int32) (_ : Unit) => r = nI n) (fun _ t => t.heap = H0) (fun _ => False)) 0 0 (fun _ => False) := by
  refine Met.ofW (cc := b_Bd_size) (maxL := 1) (ret := (some .int)) (by decide) rfl ?_
  intro p e s m args below meth c s₁ Bd hml hv
  obtain ⟨rfl, hH, hK⟩ := hv
  subst hH
  have hx := Bd.exec
  have hb := Bd.bytes
  have hr := Bd.returns
  have hts := atoms_spec (ws := w_Bd_size) Bd.pre
  have hown : s.vm.findClass "BallotBoard$Board" = some m.cls := findClass_of_methodNamed Bd.named
  have hlocks := Bd.notSynchronized
  have hS : va_S (fun _ => False) s.heap s.heap [] := va_S.rf
  have hl := lv_entry ([.ref bd0]) (n := 1) (Nat.le_of_ble_eq_true rfl)
  rw [lg_entry_eq]
  generalize (lg_sl ([.ref bd0]) ++ List.replicate (1 - (lg_sl ([.ref bd0])).length) Slot.unset).toArray = ls at hl ⊢
  have hl : lv_has ls 1 [(0, .ref bd0)] := hl
  refine lv_aload_n hx hb d_Bd_size_0 rfl (lv_at hl 0 rfl) ?_
  refine va_get (D := (dC, dI)) (ci := 3) (v := .int (nI n)) (C := "BallotBoard$Board") (T := F_Bo) (N := 4) hx hb hts (fun w9 h9 => List.mem_cons_of_mem _ (i_Bo w9 h9)) hown hK hP 0 rfl rfl 3 (by decide) (hts _ (List.mem_cons_of_mem _ gk_63)) (fun _ h9 => h9) rfl d_Bd_size_1 ?_
  exact W.iret (v := (nI n)) hx hb hr (fun t ht hW => ⟨⟨_, (), rfl, rfl, ht⟩, hS.F ht⟩) hS.2.2 d_Bd_size_4
abbrev b_Bd_row : ByteArray := prog_3_method_5_code
abbrev y_Bd_row : MethodName := ⟨"BallotBoard$Board", "row", "(I)[J"⟩
abbrev w_Bd_row : List Cond := .code y_Bd_row b_Bd_row 2 (some (.array .long)) :: gw
theorem d_Bd_row_0 : decode b_Bd_row 0 = .ok (.aload_n 0, 1) := by decide +kernel
theorem d_Bd_row_1 : decode b_Bd_row 1 = .ok (.getfield 17, 3) := by decide +kernel
theorem d_Bd_row_4 : decode b_Bd_row 4 = .ok (.iload_n 1, 1) := by decide +kernel
theorem d_Bd_row_5 : decode b_Bd_row 5 = .ok (.aaload, 1) := by decide +kernel
theorem d_Bd_row_6 : decode b_Bd_row 6 = .ok (.areturn, 1) := by decide +kernel
set_option maxHeartbeats 8000000 in
set_option maxRecDepth 100000 in
theorem c_Bd_row (l : Launch) (H0 : Heap) (dC : Nat → ClassId) (dI : Nat → Nat → Nat) (cJ cI cR : ClassId) (bd0 h0 ro lo n : Nat) (rr lr : Nat → Option Nat) (k rk : Nat) (hP : va_P (dC, dI) classes (bd_ws bd0 h0 ro lo n cR rr lr) H0) (hk : k < 154) (hrk : rr k = some rk) : Met l y_Bd_row w_Bd_row ({ frames := 0, cells := 0, slots := 0, locals := 0 }) (va_Pc [.ref bd0, .int (nI k)] (fun U => U.heap = H0 ∧ va_K (dC, dI) classes [(cJ, .long), (cI, .int), (cR, .array .long)] U)) (va_Qr (fun _ : Unit => True) (fun _ a t => a = rk ∧ t.heap = H0) (fun _ => False)) 0 0 (fun _ => False) := by
  refine Met.ofW (cc := b_Bd_row) (maxL := 2) (ret := (some (.array .long))) (by decide) rfl ?_
  intro p e s m args below meth c s₁ Bd hml hv
  obtain ⟨rfl, hH, hK⟩ := hv
  subst hH
  have hx := Bd.exec
  have hb := Bd.bytes
  have hr := Bd.returns
  have hts := atoms_spec (ws := w_Bd_row) Bd.pre
  have hown : s.vm.findClass "BallotBoard$Board" = some m.cls := findClass_of_methodNamed Bd.named
  have hlocks := Bd.notSynchronized
  have hS : va_S (fun _ => False) s.heap s.heap [] := va_S.rf
  have hl := lv_entry ([.ref bd0, .int (nI k)]) (n := 2) (Nat.le_of_ble_eq_true rfl)
  rw [lg_entry_eq]
  generalize (lg_sl ([.ref bd0, .int (nI k)]) ++ List.replicate (2 - (lg_sl ([.ref bd0, .int (nI k)])).length) Slot.unset).toArray = ls at hl ⊢
  have hl : lv_has ls 2 [(0, .ref bd0), (1, .int (nI k))] := hl
  refine lv_aload_n hx hb d_Bd_row_0 rfl (lv_at hl 0 rfl) ?_
  refine va_get (D := (dC, dI)) (ci := 3) (v := .ref ro) (C := "BallotBoard$Board") (T := F_Bo) (N := 4) hx hb hts (fun w9 h9 => List.mem_cons_of_mem _ (i_Bo w9 h9)) hown hK hP 0 rfl rfl 1 (by decide) (hts _ (List.mem_cons_of_mem _ gk_61)) (fun _ h9 => h9) rfl d_Bd_row_1 ?_
  refine lv_iload_n hx hb d_Bd_row_4 rfl (lv_at hl 1 rfl) ?_
  refine va_aldA hx hb hK hP 1 2 rfl rfl (vp_in_nI (by omega) (by omega)) d_Bd_row_5 (b := rk) (by rw [nI_clamp (by omega)]; exact hrk) ?_
  exact W.aret (v := .ref rk) hx hb hr (Or.inr ⟨_, rfl⟩) (Or.inr ⟨_, rfl⟩) (fun t ht hW => ⟨⟨(), _, rfl, trivial, rfl, ht⟩, hS.F ht⟩) hS.2.2 d_Bd_row_6
abbrev b_Bd_link : ByteArray := prog_3_method_6_code
abbrev y_Bd_link : MethodName := ⟨"BallotBoard$Board", "link", "(I)[J"⟩
abbrev w_Bd_link : List Cond := .code y_Bd_link b_Bd_link 2 (some (.array .long)) :: gw
theorem d_Bd_link_0 : decode b_Bd_link 0 = .ok (.aload_n 0, 1) := by decide +kernel
theorem d_Bd_link_1 : decode b_Bd_link 1 = .ok (.getfield 20, 3) := by decide +kernel
theorem d_Bd_link_4 : decode b_Bd_link 4 = .ok (.iload_n 1, 1) := by decide +kernel
theorem d_Bd_link_5 : decode b_Bd_link 5 = .ok (.aaload, 1) := by decide +kernel
theorem d_Bd_link_6 : decode b_Bd_link 6 = .ok (.areturn, 1) := by decide +kernel
set_option maxHeartbeats 8000000 in
set_option maxRecDepth 100000 in
theorem c_Bd_link (l : Launch) (H0 : Heap) (dC : Nat → ClassId) (dI : Nat → Nat → Nat) (cJ cI cR : ClassId) (bd0 h0 ro lo n : Nat) (rr lr : Nat → Option Nat) (k lk : Nat) (hP : va_P (dC, dI) classes (bd_ws bd0 h0 ro lo n cR rr lr) H0) (hk : k < 154) (hlk : lr k = some lk) : Met l y_Bd_link w_Bd_link ({ frames := 0, cells := 0, slots := 0, locals := 0 }) (va_Pc [.ref bd0, .int (nI k)] (fun U => U.heap = H0 ∧ va_K (dC, dI) classes [(cJ, .long), (cI, .int), (cR, .array .long)] U)) (va_Qr (fun _ : Unit => True) (fun _ a t => a = lk ∧ t.heap = H0) (fun _ => False)) 0 0 (fun _ => False) := by
  refine Met.ofW (cc := b_Bd_link) (maxL := 2) (ret := (some (.array .long))) (by decide) rfl ?_
  intro p e s m args below meth c s₁ Bd hml hv
  obtain ⟨rfl, hH, hK⟩ := hv
  subst hH
  have hx := Bd.exec
  have hb := Bd.bytes
  have hr := Bd.returns
  have hts := atoms_spec (ws := w_Bd_link) Bd.pre
  have hown : s.vm.findClass "BallotBoard$Board" = some m.cls := findClass_of_methodNamed Bd.named
  have hlocks := Bd.notSynchronized
  have hS : va_S (fun _ => False) s.heap s.heap [] := va_S.rf
  have hl := lv_entry ([.ref bd0, .int (nI k)]) (n := 2) (Nat.le_of_ble_eq_true rfl)
  rw [lg_entry_eq]
  generalize (lg_sl ([.ref bd0, .int (nI k)]) ++ List.replicate (2 - (lg_sl ([.ref bd0, .int (nI k)])).length) Slot.unset).toArray = ls at hl ⊢
  have hl : lv_has ls 2 [(0, .ref bd0), (1, .int (nI k))] := hl
  refine lv_aload_n hx hb d_Bd_link_0 rfl (lv_at hl 0 rfl) ?_
  refine va_get (D := (dC, dI)) (ci := 3) (v := .ref lo) (C := "BallotBoard$Board") (T := F_Bo) (N := 4) hx hb hts (fun w9 h9 => List.mem_cons_of_mem _ (i_Bo w9 h9)) hown hK hP 0 rfl rfl 2 (by decide) (hts _ (List.mem_cons_of_mem _ gk_62)) (fun _ h9 => h9) rfl d_Bd_link_1 ?_
  refine lv_iload_n hx hb d_Bd_link_4 rfl (lv_at hl 1 rfl) ?_
  refine va_aldA hx hb hK hP 2 2 rfl rfl (vp_in_nI (by omega) (by omega)) d_Bd_link_5 (b := lk) (by rw [nI_clamp (by omega)]; exact hlk) ?_
  exact W.aret (v := .ref lk) hx hb hr (Or.inr ⟨_, rfl⟩) (Or.inr ⟨_, rfl⟩) (fun t ht hW => ⟨⟨(), _, rfl, trivial, rfl, ht⟩, hS.F ht⟩) hS.2.2 d_Bd_link_6
abbrev b_Bd_width : ByteArray := prog_3_method_10_code
abbrev y_Bd_width : MethodName := ⟨"BallotBoard$Board", "width", "([J)I"⟩
abbrev w_Bd_width : List Cond := .code y_Bd_width b_Bd_width 1 (some .int) :: gw
theorem d_Bd_width_0 : decode b_Bd_width 0 = .ok (.aload_n 0, 1) := by decide +kernel
theorem d_Bd_width_1 : decode b_Bd_width 1 = .ok (.iconst 0, 1) := by decide +kernel
theorem d_Bd_width_2 : decode b_Bd_width 2 = .ok (.laload, 1) := by decide +kernel
theorem d_Bd_width_3 : decode b_Bd_width 3 = .ok (.ldc2_w 57, 3) := by decide +kernel
theorem d_Bd_width_6 : decode b_Bd_width 6 = .ok (.lcmp, 1) := by decide +kernel
theorem d_Bd_width_7 : decode b_Bd_width 7 = .ok (.ifCond .ne 8, 3) := by decide +kernel
theorem d_Bd_width_10 : decode b_Bd_width 10 = .ok (.bipush 8, 2) := by decide +kernel
theorem d_Bd_width_12 : decode b_Bd_width 12 = .ok (.goto 4, 3) := by decide +kernel
theorem d_Bd_width_15 : decode b_Bd_width 15 = .ok (.iconst 5, 1) := by decide +kernel
theorem d_Bd_width_16 : decode b_Bd_width 16 = .ok (.ireturn, 1) := by decide +kernel
set_option maxHeartbeats 8000000 in
set_option maxRecDepth 100000 in
theorem c_Bd_width (l : Launch) (H0 : Heap) (dC : Nat → ClassId) (dI : Nat → Nat → Nat) (cJ cI cR : ClassId) (rk : Nat) (rw : Nat → Int64) (K : Nat) (hP : va_P (dC, dI) classes (rw_ws rk cJ rw) H0) (hr0 : rw 0 = lN K) (hK4 : K < 4) : Met l y_Bd_width w_Bd_width ({ frames := 0, cells := 0, slots := 0, locals := 0 }) (va_Pc [.ref rk] (fun U => U.heap = H0 ∧ va_K (dC, dI) classes [(cJ, .long), (cI, .int), (cR, .array .long)] U)) (va_Qi (fun (r : Int32) (_ : Unit) => r = nI (wdt K)) (fun _ t => t.heap = H0) (fun _ => False)) 0 0 (fun _ => False) := by
  refine Met.ofW (cc := b_Bd_width) (maxL := 1) (ret := (some .int)) (by decide) rfl ?_
  intro p e s m args below meth c s₁ Bd hml hv
  obtain ⟨rfl, hH, hK⟩ := hv
  subst hH
  have hx := Bd.exec
  have hb := Bd.bytes
  have hr := Bd.returns
  have hts := atoms_spec (ws := w_Bd_width) Bd.pre
  have hown : s.vm.findClass "BallotBoard$Board" = some m.cls := findClass_of_methodNamed Bd.named
  have hlocks := Bd.notSynchronized
  have hS : va_S (fun _ => False) s.heap s.heap [] := va_S.rf
  have hl := lv_entry ([.ref rk]) (n := 1) (Nat.le_of_ble_eq_true rfl)
  rw [lg_entry_eq]
  generalize (lg_sl ([.ref rk]) ++ List.replicate (1 - (lg_sl ([.ref rk])).length) Slot.unset).toArray = ls at hl ⊢
  have hl : lv_has ls 1 [(0, .ref rk)] := hl
  refine lv_aload_n hx hb d_Bd_width_0 rfl (lv_at hl 0 rfl) ?_
  refine lv_iconst (v := 0) hx hb d_Bd_width_1 (by decide) ?_
  refine va_lald hx hb hK hP 0 0 rfl rfl (vp_lit rfl) d_Bd_width_2 ?_
  refine lv_topl (fun v_1 ev_1 => ?_)
  obtain rfl : v_1 = lN K := ev_1.trans hr0
  refine lv_ldc2 (v := 2) hx hb hown (hts _ (List.mem_cons_of_mem _ gk_596)) d_Bd_width_3 ?_
  refine W.lcmp hx hb d_Bd_width_6 ?_
  refine lv_if_ne (tgt := 15) hx hb d_Bd_width_7 (by decide) (fun c_2 => ?_) (fun c_2 => ?_)
  · -- taken
    have hK2 : ¬ K = 2 := fun h => c_2 ((cmpe (by omega) 2 (by omega) rfl).mpr h)
    refine lv_iconst (v := 5) hx hb d_Bd_width_15 (by decide) ?_
    exact W.iret (v := 5) hx hb hr (fun t ht hW => ⟨⟨_, (), rfl, (by unfold wdt; rw [if_neg hK2]; rfl), ht⟩, hS.F ht⟩) hS.2.2 d_Bd_width_16
  · -- not taken
    have hK2 : K = 2 := (cmpe (by omega) 2 (by omega) rfl).mp c_2
    refine lv_bipush (v := 8) hx hb d_Bd_width_10 (by decide) ?_
    refine lv_goto (tgt := 16) hx hb d_Bd_width_12 (by decide) ?_
    exact W.iret (v := 8) hx hb hr (fun t ht hW => ⟨⟨_, (), rfl, (by unfold wdt; rw [if_pos hK2]; rfl), ht⟩, hS.F ht⟩) hS.2.2 d_Bd_width_16
abbrev b_Bd_has : ByteArray := prog_3_method_4_code
abbrev y_Bd_has : MethodName := ⟨"BallotBoard$Board", "has", "(II)Z"⟩
abbrev w_Bd_has : List Cond := .code y_Bd_has b_Bd_has 3 (some .boolean) :: gw
theorem d_Bd_has_0 : decode b_Bd_has 0 = .ok (.iload_n 1, 1) := by decide +kernel
theorem d_Bd_has_1 : decode b_Bd_has 1 = .ok (.ifCond .lt 32, 3) := by decide +kernel
theorem d_Bd_has_4 : decode b_Bd_has 4 = .ok (.iload_n 1, 1) := by decide +kernel
theorem d_Bd_has_5 : decode b_Bd_has 5 = .ok (.aload_n 0, 1) := by decide +kernel
theorem d_Bd_has_6 : decode b_Bd_has 6 = .ok (.getfield 23, 3) := by decide +kernel
theorem d_Bd_has_9 : decode b_Bd_has 9 = .ok (.if_icmp .ge 24, 3) := by decide +kernel
theorem d_Bd_has_12 : decode b_Bd_has 12 = .ok (.iload_n 2, 1) := by decide +kernel
theorem d_Bd_has_13 : decode b_Bd_has 13 = .ok (.ifCond .lt 20, 3) := by decide +kernel
theorem d_Bd_has_16 : decode b_Bd_has 16 = .ok (.iload_n 2, 1) := by decide +kernel
theorem d_Bd_has_17 : decode b_Bd_has 17 = .ok (.aload_n 0, 1) := by decide +kernel
theorem d_Bd_has_18 : decode b_Bd_has 18 = .ok (.getfield 17, 3) := by decide +kernel
theorem d_Bd_has_21 : decode b_Bd_has 21 = .ok (.iload_n 1, 1) := by decide +kernel
theorem d_Bd_has_22 : decode b_Bd_has 22 = .ok (.aaload, 1) := by decide +kernel
theorem d_Bd_has_23 : decode b_Bd_has 23 = .ok (.invokestatic 27, 3) := by decide +kernel
theorem d_Bd_has_26 : decode b_Bd_has 26 = .ok (.if_icmp .ge 7, 3) := by decide +kernel
theorem d_Bd_has_29 : decode b_Bd_has 29 = .ok (.iconst 1, 1) := by decide +kernel
theorem d_Bd_has_30 : decode b_Bd_has 30 = .ok (.goto 4, 3) := by decide +kernel
theorem d_Bd_has_33 : decode b_Bd_has 33 = .ok (.iconst 0, 1) := by decide +kernel
theorem d_Bd_has_34 : decode b_Bd_has 34 = .ok (.ireturn, 1) := by decide +kernel
set_option maxHeartbeats 8000000 in
set_option maxRecDepth 100000 in
theorem c_Bd_has_in (l : Launch) (H0 : Heap) (dC : Nat → ClassId) (dI : Nat → Nat → Nat) (cJ cI cR : ClassId) (bd0 h0 ro lo n : Nat) (rr lr : Nat → Option Nat) (k rk : Nat) (rw : Nat → Int64) (K : Nat) (x2 : Int32) (hP : va_P (dC, dI) classes (bd_ws bd0 h0 ro lo n cR rr lr ++ (rw_ws rk cJ rw)) H0) (hk : k < n) (hn : n ≤ 154) (hrk : rr k = some rk) (hr0 : rw 0 = lN K) (hK4 : K < 4) : Met l y_Bd_has w_Bd_has ({ frames := 1, cells := 0, slots := 0, locals := 20 }) (va_Pc [.ref bd0, .int (nI k), .int x2] (fun U => U.heap = H0 ∧ va_K (dC, dI) classes [(cJ, .long), (cI, .int), (cR, .array .long)] U)) (va_Qi (fun (r : Int32) (_ : Unit) => bz r (hasN x2 K)) (fun _ t => t.heap = H0) (fun _ => False)) 0 0 (fun _ => False) := by
  refine Met.ofW (cc := b_Bd_has) (maxL := 3) (ret := (some .boolean)) (by decide) rfl ?_
  intro p e s m args below meth c s₁ Bd hml hv
  obtain ⟨rfl, hH, hK⟩ := hv
  subst hH
  have hx := Bd.exec
  have hb := Bd.bytes
  have hr := Bd.returns
  have hts := atoms_spec (ws := w_Bd_has) Bd.pre
  have hown : s.vm.findClass "BallotBoard$Board" = some m.cls := findClass_of_methodNamed Bd.named
  have hlocks := Bd.notSynchronized
  have hS : va_S (fun _ => False) s.heap s.heap [] := va_S.rf
  have hl := lv_entry ([.ref bd0, .int (nI k), .int x2]) (n := 3) (Nat.le_of_ble_eq_true rfl)
  rw [lg_entry_eq]
  generalize (lg_sl ([.ref bd0, .int (nI k), .int x2]) ++ List.replicate (3 - (lg_sl ([.ref bd0, .int (nI k), .int x2])).length) Slot.unset).toArray = ls at hl ⊢
  have hl : lv_has ls 3 [(0, .ref bd0), (1, .int (nI k)), (2, .int x2)] := hl
  refine lv_iload_n hx hb d_Bd_has_0 rfl (lv_at hl 1 rfl) ?_
  refine lv_if_lt (tgt := 33) hx hb d_Bd_has_1 (by decide) (fun c_1 => ?_) (fun c_1 => ?_)
  · -- taken
    exact absurd c_1 (nI_pos (by omega))
  · -- not taken
    refine lv_iload_n hx hb d_Bd_has_4 rfl (lv_at hl 1 rfl) ?_
    refine lv_aload_n hx hb d_Bd_has_5 rfl (lv_at hl 0 rfl) ?_
    refine va_get (D := (dC, dI)) (ci := 3) (v := .int (nI n)) (C := "BallotBoard$Board") (T := F_Bo) (N := 4) hx hb hts (fun w9 h9 => List.mem_cons_of_mem _ (i_Bo w9 h9)) hown hK hP 0 rfl rfl 3 (by decide) (hts _ (List.mem_cons_of_mem _ gk_63)) (fun _ h9 => h9) rfl d_Bd_has_6 ?_
    refine lv_icmp_ge (tgt := 33) hx hb d_Bd_has_9 (by decide) (fun c_2 => ?_) (fun c_2 => ?_)
    · -- taken
      exact absurd ((nI_leI (by omega) (by omega)).mp c_2) (by omega)
    · -- not taken
      refine lv_iload_n hx hb d_Bd_has_12 rfl (lv_at hl 2 rfl) ?_
      refine lv_if_lt (tgt := 33) hx hb d_Bd_has_13 (by decide) (fun c_3 => ?_) (fun c_3 => ?_)
      · -- taken
        have hbad : ¬ hasN x2 K := fun ⟨J, e, hJ⟩ => by
          have h9 : wdt K ≤ 8 := by unfold wdt; split <;> omega
          rw [e] at c_3
          exact nI_pos (by omega) c_3
        refine lv_iconst (v := 0) hx hb d_Bd_has_33 (by decide) ?_
        exact W.zret (v := 0) hx hb hr (by decide) (fun t ht hW => ⟨⟨_, (), rfl, (bz_0 hbad), ht⟩, hS.F ht⟩) hS.2.2 d_Bd_has_34
      · -- not taken
        obtain ⟨J, hJ31, rfl⟩ := i_nn c_3
        have h9 : wdt K ≤ 8 := by unfold wdt; split <;> omega
        refine lv_iload_n hx hb d_Bd_has_16 rfl (lv_at hl 2 rfl) ?_
        refine lv_aload_n hx hb d_Bd_has_17 rfl (lv_at hl 0 rfl) ?_
        refine va_get (D := (dC, dI)) (ci := 3) (v := .ref ro) (C := "BallotBoard$Board") (T := F_Bo) (N := 4) hx hb hts (fun w9 h9 => List.mem_cons_of_mem _ (i_Bo w9 h9)) hown hK hP 0 rfl rfl 1 (by decide) (hts _ (List.mem_cons_of_mem _ gk_61)) (fun _ h9 => h9) rfl d_Bd_has_18 ?_
        refine lv_iload_n hx hb d_Bd_has_21 rfl (lv_at hl 1 rfl) ?_
        refine va_aldA hx hb hK hP 1 2 rfl rfl (vp_in_nI (by omega) (by omega)) d_Bd_has_22 (b := rk) (by rw [nI_clamp (by omega)]; exact hrk) ?_
        have hPc := hP.sub (ws' := (rw_ws rk cJ rw)) [3] rfl
        have hKc := hK.sub (tys' := [(cJ, .long), (cI, .int), (cR, .array .long)]) [0, 1, 2] rfl
        refine va_calli (va_runS (As := [.ref rk]) (rest := [.int (nI J)]) ⟨hx, hb, hml, hown, hts⟩ (c_Bd_width l s.heap dC dI cJ cI cR rk rw K hPc hr0 hK4) (cwS 1 hts (gw_S gk_593 gk_594 gk_3 gk_595) rfl rfl rfl (by decide +kernel) ⟨Nat.le_of_ble_eq_true rfl, Nat.le_of_ble_eq_true rfl⟩) ⟨fun a U g mk q => ⟨q.1, q.2.1, va_K.moved (u := U) (U := U.calling g mk a) (Vm.Alike.refl U.vm) q.2.2⟩, fun U hU hW => ⟨rfl, hU, va_K.moved hW.alike hKc⟩⟩ rfl rfl hl.1 rfl (lv_room (Nat.le_of_ble_eq_true rfl)) d_Bd_has_23 ⟨Nat.le_of_ble_eq_true rfl, Nat.le_of_ble_eq_true rfl⟩) hS (fun q _ h => h.elim) (fun q h => h.elim) (fun r23 u9 t9 H1 locs ht hvm hw hB hz1 hk1 hS => ?_)
        obtain rfl : s.heap = H1 := hB.symm.trans ht
        have hw : r23 = nI (wdt K) := hw
        subst hw
        refine lv_icmp_ge (tgt := 33) hx hb d_Bd_has_26 (by decide) (fun c_4 => ?_) (fun c_4 => ?_)
        · -- taken
          have hbad : ¬ hasN (nI J) K := fun ⟨J2, e, hJ⟩ => by
            have := nI_inj hJ31 (by omega) e
            have := (nI_leI (by omega) (by omega)).mp c_4
            omega
          refine lv_iconst (v := 0) hx hb d_Bd_has_33 (by decide) ?_
          exact W.zret (v := 0) hx hb hr (by decide) (fun t ht hW => ⟨⟨_, (), rfl, (bz_0 hbad), ht⟩, hS.F ht⟩) hS.2.2 d_Bd_has_34
        · -- not taken
          have hgood : hasN (nI J) K := ⟨J, rfl, Nat.lt_of_not_le (fun h => c_4 ((nI_leI (by omega) (by omega)).mpr h))⟩
          refine lv_iconst (v := 1) hx hb d_Bd_has_29 (by decide) ?_
          refine lv_goto (tgt := 34) hx hb d_Bd_has_30 (by decide) ?_
          exact W.zret (v := 1) hx hb hr (by decide) (fun t ht hW => ⟨⟨_, (), rfl, (bz_1 hgood), ht⟩, hS.F ht⟩) hS.2.2 d_Bd_has_34
set_option maxHeartbeats 8000000 in
set_option maxRecDepth 100000 in
theorem c_Bd_has_out (l : Launch) (H0 : Heap) (dC : Nat → ClassId) (dI : Nat → Nat → Nat) (cJ cI cR : ClassId) (bd0 h0 ro lo n : Nat) (x1 x2 : Int32) (hP : va_P (dC, dI) classes (bo_ws bd0 h0 ro lo n) H0) (hn : n ≤ 154) (hno : ¬ inN x1 n) : Met l y_Bd_has w_Bd_has ({ frames := 1, cells := 0, slots := 0, locals := 20 }) (va_Pc [.ref bd0, .int x1, .int x2] (fun U => U.heap = H0 ∧ va_K (dC, dI) classes [(cJ, .long), (cI, .int), (cR, .array .long)] U)) (va_Qi (fun (r : Int32) (_ : Unit) => r = 0) (fun _ t => t.heap = H0) (fun _ => False)) 0 0 (fun _ => False) := by
  refine Met.ofW (cc := b_Bd_has) (maxL := 3) (ret := (some .boolean)) (by decide) rfl ?_
  intro p e s m args below meth c s₁ Bd hml hv
  obtain ⟨rfl, hH, hK⟩ := hv
  subst hH
  have hx := Bd.exec
  have hb := Bd.bytes
  have hr := Bd.returns
  have hts := atoms_spec (ws := w_Bd_has) Bd.pre
  have hown : s.vm.findClass "BallotBoard$Board" = some m.cls := findClass_of_methodNamed Bd.named
  have hlocks := Bd.notSynchronized
  have hS : va_S (fun _ => False) s.heap s.heap [] := va_S.rf
  have hl := lv_entry ([.ref bd0, .int x1, .int x2]) (n := 3) (Nat.le_of_ble_eq_true rfl)
  rw [lg_entry_eq]
  generalize (lg_sl ([.ref bd0, .int x1, .int x2]) ++ List.replicate (3 - (lg_sl ([.ref bd0, .int x1, .int x2])).length) Slot.unset).toArray = ls at hl ⊢
  have hl : lv_has ls 3 [(0, .ref bd0), (1, .int x1), (2, .int x2)] := hl
  refine lv_iload_n hx hb d_Bd_has_0 rfl (lv_at hl 1 rfl) ?_
  refine lv_if_lt (tgt := 33) hx hb d_Bd_has_1 (by decide) (fun c_1 => ?_) (fun c_1 => ?_)
  · -- taken
    refine lv_iconst (v := 0) hx hb d_Bd_has_33 (by decide) ?_
    exact W.zret (v := 0) hx hb hr (by decide) (fun t ht hW => ⟨⟨_, (), rfl, rfl, ht⟩, hS.F ht⟩) hS.2.2 d_Bd_has_34
  · -- not taken
    obtain ⟨k, hk31, rfl⟩ := i_nn c_1
    refine lv_iload_n hx hb d_Bd_has_4 rfl (lv_at hl 1 rfl) ?_
    refine lv_aload_n hx hb d_Bd_has_5 rfl (lv_at hl 0 rfl) ?_
    refine va_get (D := (dC, dI)) (ci := 3) (v := .int (nI n)) (C := "BallotBoard$Board") (T := F_Bo) (N := 4) hx hb hts (fun w9 h9 => List.mem_cons_of_mem _ (i_Bo w9 h9)) hown hK hP 0 rfl rfl 3 (by decide) (hts _ (List.mem_cons_of_mem _ gk_63)) (fun _ h9 => h9) rfl d_Bd_has_6 ?_
    refine lv_icmp_ge (tgt := 33) hx hb d_Bd_has_9 (by decide) (fun c_2 => ?_) (fun c_2 => ?_)
    · -- taken
      refine lv_iconst (v := 0) hx hb d_Bd_has_33 (by decide) ?_
      exact W.zret (v := 0) hx hb hr (by decide) (fun t ht hW => ⟨⟨_, (), rfl, rfl, ht⟩, hS.F ht⟩) hS.2.2 d_Bd_has_34
    · -- not taken
      exact absurd ⟨k, rfl, Nat.lt_of_not_le (fun h => c_2 ((nI_leI (by omega) (by omega)).mpr h))⟩ hno
abbrev b_Bd_hashEntry : ByteArray := prog_3_method_9_code
abbrev y_Bd_hashEntry : MethodName := ⟨"BallotBoard$Board", "hashEntry", "(I)V"⟩
abbrev w_Bd_hashEntry : List Cond := .code y_Bd_hashEntry b_Bd_hashEntry 4 none :: gw
theorem d_Bd_hashEntry_0 : decode b_Bd_hashEntry 0 = .ok (.aload_n 0, 1) := by decide +kernel
theorem d_Bd_hashEntry_1 : decode b_Bd_hashEntry 1 = .ok (.getfield 9, 3) := by decide +kernel
theorem d_Bd_hashEntry_4 : decode b_Bd_hashEntry 4 = .ok (.invokevirtual 47, 3) := by decide +kernel
theorem d_Bd_hashEntry_7 : decode b_Bd_hashEntry 7 = .ok (.iconst 0, 1) := by decide +kernel
theorem d_Bd_hashEntry_8 : decode b_Bd_hashEntry 8 = .ok (.istore_n 2, 1) := by decide +kernel
theorem d_Bd_hashEntry_9 : decode b_Bd_hashEntry 9 = .ok (.iload_n 2, 1) := by decide +kernel
theorem d_Bd_hashEntry_10 : decode b_Bd_hashEntry 10 = .ok (.iconst 4, 1) := by decide +kernel
theorem d_Bd_hashEntry_11 : decode b_Bd_hashEntry 11 = .ok (.if_icmp .ge 34, 3) := by decide +kernel
theorem d_Bd_hashEntry_14 : decode b_Bd_hashEntry 14 = .ok (.aload_n 0, 1) := by decide +kernel
theorem d_Bd_hashEntry_15 : decode b_Bd_hashEntry 15 = .ok (.getfield 9, 3) := by decide +kernel
theorem d_Bd_hashEntry_18 : decode b_Bd_hashEntry 18 = .ok (.iload_n 1, 1) := by decide +kernel
theorem d_Bd_hashEntry_19 : decode b_Bd_hashEntry 19 = .ok (.ifCond .ne 7, 3) := by decide +kernel
theorem d_Bd_hashEntry_22 : decode b_Bd_hashEntry 22 = .ok (.lconst 0, 1) := by decide +kernel
theorem d_Bd_hashEntry_23 : decode b_Bd_hashEntry 23 = .ok (.goto 13, 3) := by decide +kernel
theorem d_Bd_hashEntry_26 : decode b_Bd_hashEntry 26 = .ok (.aload_n 0, 1) := by decide +kernel
theorem d_Bd_hashEntry_27 : decode b_Bd_hashEntry 27 = .ok (.getfield 20, 3) := by decide +kernel
theorem d_Bd_hashEntry_30 : decode b_Bd_hashEntry 30 = .ok (.iload_n 1, 1) := by decide +kernel
theorem d_Bd_hashEntry_31 : decode b_Bd_hashEntry 31 = .ok (.iconst 1, 1) := by decide +kernel
theorem d_Bd_hashEntry_32 : decode b_Bd_hashEntry 32 = .ok (.isub, 1) := by decide +kernel
theorem d_Bd_hashEntry_33 : decode b_Bd_hashEntry 33 = .ok (.aaload, 1) := by decide +kernel
theorem d_Bd_hashEntry_34 : decode b_Bd_hashEntry 34 = .ok (.iload_n 2, 1) := by decide +kernel
theorem d_Bd_hashEntry_35 : decode b_Bd_hashEntry 35 = .ok (.laload, 1) := by decide +kernel
theorem d_Bd_hashEntry_36 : decode b_Bd_hashEntry 36 = .ok (.invokevirtual 50, 3) := by decide +kernel
theorem d_Bd_hashEntry_39 : decode b_Bd_hashEntry 39 = .ok (.iinc 2 1, 3) := by decide +kernel
theorem d_Bd_hashEntry_42 : decode b_Bd_hashEntry 42 = .ok (.goto (-33), 3) := by decide +kernel
theorem d_Bd_hashEntry_45 : decode b_Bd_hashEntry 45 = .ok (.aload_n 0, 1) := by decide +kernel
theorem d_Bd_hashEntry_46 : decode b_Bd_hashEntry 46 = .ok (.getfield 17, 3) := by decide +kernel
theorem d_Bd_hashEntry_49 : decode b_Bd_hashEntry 49 = .ok (.iload_n 1, 1) := by decide +kernel
theorem d_Bd_hashEntry_50 : decode b_Bd_hashEntry 50 = .ok (.aaload, 1) := by decide +kernel
theorem d_Bd_hashEntry_51 : decode b_Bd_hashEntry 51 = .ok (.invokestatic 27, 3) := by decide +kernel
theorem d_Bd_hashEntry_54 : decode b_Bd_hashEntry 54 = .ok (.istore_n 2, 1) := by decide +kernel
theorem d_Bd_hashEntry_55 : decode b_Bd_hashEntry 55 = .ok (.iconst 0, 1) := by decide +kernel
theorem d_Bd_hashEntry_56 : decode b_Bd_hashEntry 56 = .ok (.istore_n 3, 1) := by decide +kernel
theorem d_Bd_hashEntry_57 : decode b_Bd_hashEntry 57 = .ok (.iload_n 3, 1) := by decide +kernel
theorem d_Bd_hashEntry_58 : decode b_Bd_hashEntry 58 = .ok (.iload_n 2, 1) := by decide +kernel
theorem d_Bd_hashEntry_59 : decode b_Bd_hashEntry 59 = .ok (.if_icmp .ge 24, 3) := by decide +kernel
theorem d_Bd_hashEntry_62 : decode b_Bd_hashEntry 62 = .ok (.aload_n 0, 1) := by decide +kernel
theorem d_Bd_hashEntry_63 : decode b_Bd_hashEntry 63 = .ok (.getfield 9, 3) := by decide +kernel
theorem d_Bd_hashEntry_66 : decode b_Bd_hashEntry 66 = .ok (.aload_n 0, 1) := by decide +kernel
theorem d_Bd_hashEntry_67 : decode b_Bd_hashEntry 67 = .ok (.getfield 17, 3) := by decide +kernel
theorem d_Bd_hashEntry_70 : decode b_Bd_hashEntry 70 = .ok (.iload_n 1, 1) := by decide +kernel
theorem d_Bd_hashEntry_71 : decode b_Bd_hashEntry 71 = .ok (.aaload, 1) := by decide +kernel
theorem d_Bd_hashEntry_72 : decode b_Bd_hashEntry 72 = .ok (.iload_n 3, 1) := by decide +kernel
theorem d_Bd_hashEntry_73 : decode b_Bd_hashEntry 73 = .ok (.laload, 1) := by decide +kernel
theorem d_Bd_hashEntry_74 : decode b_Bd_hashEntry 74 = .ok (.invokevirtual 50, 3) := by decide +kernel
theorem d_Bd_hashEntry_77 : decode b_Bd_hashEntry 77 = .ok (.iinc 3 1, 3) := by decide +kernel
theorem d_Bd_hashEntry_80 : decode b_Bd_hashEntry 80 = .ok (.goto (-23), 3) := by decide +kernel
theorem d_Bd_hashEntry_83 : decode b_Bd_hashEntry 83 = .ok (.aload_n 0, 1) := by decide +kernel
theorem d_Bd_hashEntry_84 : decode b_Bd_hashEntry 84 = .ok (.getfield 9, 3) := by decide +kernel
theorem d_Bd_hashEntry_87 : decode b_Bd_hashEntry 87 = .ok (.invokevirtual 54, 3) := by decide +kernel
theorem d_Bd_hashEntry_90 : decode b_Bd_hashEntry 90 = .ok (.return_, 1) := by decide +kernel
set_option maxHeartbeats 8000000 in
set_option maxRecDepth 100000 in
theorem c_Bd_hashEntry_0 (l : Launch) (dC : Nat → ClassId) (dI : Nat → Nat → Nat) (cJ cI cR : ClassId) (sz : Nat) (bd0 h0 ro lo n : Nat) (rr lr : Nat → Option Nat) (aw ax ay : Nat) (w : Nat → Int64) (sc st : Nat → Int32) (L : Nat) (rA sA : Nat) (k rk : Nat) (rw : Nat → Int64) (K : Nat) (hk : k < 154) (hrk : rr k = some rk) (hr0 : rw 0 = lN K) (hK4 : K < 4) (hK2 : ¬ K = 2) (hk0 : k = 0) : Met l y_Bd_hashEntry w_Bd_hashEntry ({ frames := 3, cells := 0, slots := 0, locals := 82 }) (va_Pc [.ref bd0, .int (nI k)] (fun U => U.heap.size = sz ∧ va_P (dC, dI) classes (bd_ws bd0 h0 ro lo n cR rr lr ++ (rw_ws rk cJ rw ++ (ha_ws h0 aw ax ay cJ cI w sc st L))) U.heap ∧ va_K (dC, dI) classes [(cJ, .long), (cI, .int), (cR, .array .long)] U ∧ va_D (fun _ => True) (bd_ws bd0 h0 ro lo n cR rr lr ++ (rw_ws rk cJ rw ++ (ha_ws h0 aw ax ay cJ cI w sc st L))) ∧ ha_Z rA sA (va_A (bd_ws bd0 h0 ro lo n cR rr lr ++ (rw_ws rk cJ rw ++ (ha_ws h0 aw ax ay cJ cI w sc st L))) sz) U U.heap)) (va_Qv (fun u9 : HU => dgo u9.2.2.1 [0, 0, 0, 0, rw 0, rw 1, rw 2, rw 3, rw 4]) (fun u9 t => va_P (dC, dI) classes (bd_ws bd0 h0 ro lo n cR rr lr ++ (rw_ws rk cJ rw ++ (hu_ws h0 aw ax ay cJ cI u9))) t.heap ∧ va_K (dC, dI) classes [(cJ, .long), (cI, .int), (cR, .array .long)] t ∧ va_D (va_A (bd_ws bd0 h0 ro lo n cR rr lr ++ (rw_ws rk cJ rw ++ (ha_ws h0 aw ax ay cJ cI w sc st L))) sz) (bd_ws bd0 h0 ro lo n cR rr lr ++ (rw_ws rk cJ rw ++ (hu_ws h0 aw ax ay cJ cI u9)))) (va_A (bd_ws bd0 h0 ro lo n cR rr lr ++ (rw_ws rk cJ rw ++ (ha_ws h0 aw ax ay cJ cI w sc st L))) sz)) 0 0 (va_A (bd_ws bd0 h0 ro lo n cR rr lr ++ (rw_ws rk cJ rw ++ (ha_ws h0 aw ax ay cJ cI w sc st L))) sz) := by
  refine Met.ofW (cc := b_Bd_hashEntry) (maxL := 4) (ret := none) (by decide) rfl ?_
  intro p e s m args below meth c s₁ Bd hml hv
  obtain ⟨rfl, hsz, hP, hK, hD0, hZha⟩ := hv
  have hx := Bd.exec
  have hb := Bd.bytes
  have hr := Bd.returns
  have hts := atoms_spec (ws := w_Bd_hashEntry) Bd.pre
  have hown : s.vm.findClass "BallotBoard$Board" = some m.cls := findClass_of_methodNamed Bd.named
  have hlocks := Bd.notSynchronized
  subst hsz
  have hD := hD0.self (sz := s.heap.size)
  generalize hAe : va_A (bd_ws bd0 h0 ro lo n cR rr lr ++ (rw_ws rk cJ rw ++ (ha_ws h0 aw ax ay cJ cI w sc st L))) s.heap.size = A at hD hZha ⊢
  have hA : ∀ q : Nat, s.heap.size ≤ q → A q := fun q h => by rw [← hAe]; exact Or.inr h
  have hS : va_S A s.heap s.heap [] := va_S.rf
  have hl := lv_entry ([.ref bd0, .int (nI k)]) (n := 4) (Nat.le_of_ble_eq_true rfl)
  rw [lg_entry_eq]
  generalize (lg_sl ([.ref bd0, .int (nI k)]) ++ List.replicate (4 - (lg_sl ([.ref bd0, .int (nI k)])).length) Slot.unset).toArray = ls at hl ⊢
  have hl : lv_has ls 4 [(0, .ref bd0), (1, .int (nI k))] := hl
  refine lv_aload_n hx hb d_Bd_hashEntry_0 rfl (lv_at hl 0 rfl) ?_
  refine va_get (D := (dC, dI)) (ci := 3) (v := .ref h0) (C := "BallotBoard$Board") (T := F_Bo) (N := 4) hx hb hts (fun w9 h9 => List.mem_cons_of_mem _ (i_Bo w9 h9)) hown hK hP 0 rfl rfl 0 (by decide) (hts _ (List.mem_cons_of_mem _ gk_60)) (fun _ h9 => h9) rfl d_Bd_hashEntry_1 ?_
  have hPc := hP.sub (ws' := (ha_ws h0 aw ax ay cJ cI w sc st L)) [4, 5, 6, 7] rfl
  have hDc := hD.sub (ws' := (ha_ws h0 aw ax ay cJ cI w sc st L)) [4, 5, 6, 7] (by decide) rfl
  have hKc := hK.sub (tys' := [(cJ, .long), (cI, .int)]) [0, 1] rfl
  have hFc := va_free (wc := (ha_ws h0 aw ax ay cJ cI w sc st L)) hD hS hA [4, 5, 6, 7] rfl
  refine va_callv (va_runV (As := []) (rest := []) ⟨hx, hb, hml, hown, hts⟩ (c_Ha_start l dC dI h0 s.heap.size aw ax ay cJ cI w sc st L) (cwV 0 hts (gw_V gk_591 gk_499 gk_500 gk_2 gk_501) rfl rfl rfl (by decide +kernel) ⟨Nat.le_of_ble_eq_true rfl, Nat.le_of_ble_eq_true rfl⟩) ⟨fun a U g mk q => by obtain ⟨q0, q1, qP, qK, qD⟩ := q; exact ⟨q0, q1, qP, va_K.moved (u := U) (U := U.calling g mk a) (Vm.Alike.refl U.vm) qK, qD⟩, va_recv hK hP (ci := 2) (q0 := 4) rfl rfl, fun U hU hW => ⟨rfl, by rw [hU], by rw [hU]; exact hPc, va_K.moved hW.alike hKc, hDc.weaken (fun _ _ _ _ => trivial)⟩⟩ rfl rfl hl.1 rfl (lv_room (Nat.le_of_ble_eq_true rfl)) d_Bd_hashEntry_4 ⟨Nat.le_of_ble_eq_true rfl, Nat.le_of_ble_eq_true rfl⟩) hS (fun q _ h => hFc q h) hFc (fun u9 t9 H1 locs ht hvm hw hB hz1 hk1 hS => ?_)
  obtain ⟨hP1, hK1, hD1⟩ := hB
  rw [ht] at hP1
  obtain ⟨hP, hD⟩ := va_join (wr := [(bd0, .inr (3, [.ref h0, .ref ro, .ref lo, .int (nI n)])), (ro, .inl (cR, 154, .inr (.inr (.inr (.inr rr))))), (lo, .inl (cR, 154, .inr (.inr (.inr (.inr lr))))), (rk, .inl (cJ, 8, .inr (.inl rw)))]) (w1 := [(h0, .inr (2, [.ref aw, .ref ax, .ref ay, .int (nI 0)])), (aw, .inl (cJ, 16, .inr (.inl w))), (ax, .inl (cI, 64, .inl sc)), (ay, .inl (cI, 8, .inl st))]) hP hD [4, 5, 6, 7] [0, 1, 2, 3] rfl rfl (by decide) (by decide) hk1 hFc hP1 hD1
  have hP := hP.sub (ws' := [(bd0, .inr (3, [.ref h0, .ref ro, .ref lo, .int (nI n)])), (ro, .inl (cR, 154, .inr (.inr (.inr (.inr rr))))), (lo, .inl (cR, 154, .inr (.inr (.inr (.inr lr))))), (rk, .inl (cJ, 8, .inr (.inl rw))), (h0, .inr (2, [.ref aw, .ref ax, .ref ay, .int (nI 0)])), (aw, .inl (cJ, 16, .inr (.inl w))), (ax, .inl (cI, 64, .inl sc)), (ay, .inl (cI, 8, .inl st))]) [0, 1, 2, 3, 4, 5, 6, 7] rfl
  have hD := hD.sub (ws' := [(bd0, .inr (3, [.ref h0, .ref ro, .ref lo, .int (nI n)])), (ro, .inl (cR, 154, .inr (.inr (.inr (.inr rr))))), (lo, .inl (cR, 154, .inr (.inr (.inr (.inr lr))))), (rk, .inl (cJ, 8, .inr (.inl rw))), (h0, .inr (2, [.ref aw, .ref ax, .ref ay, .int (nI 0)])), (aw, .inl (cJ, 16, .inr (.inl w))), (ax, .inl (cI, 64, .inl sc)), (ay, .inl (cI, 8, .inl st))]) [0, 1, 2, 3, 4, 5, 6, 7] (by decide) rfl
  generalize H1 = H at hP hS ⊢
  have hm0 := wok_0 w
  refine lv_iconst (v := 0) hx hb d_Bd_hashEntry_7 (by decide) ?_
  refine lv_istore_n (lv' := [(2, .int 0), (0, .ref bd0), (1, .int (nI k))]) hx hb d_Bd_hashEntry_8 rfl hl (by decide) rfl (fun ls hl => ?_)
  refine lv_iload_n hx hb d_Bd_hashEntry_9 rfl (lv_at hl 0 rfl) ?_
  refine lv_iconst (v := 4) hx hb d_Bd_hashEntry_10 (by decide) ?_
  refine lv_icmp_ge (tgt := 45) hx hb d_Bd_hashEntry_11 (by decide) (fun c_2 => ?_) (fun c_2 => ?_)
  · -- taken
    exact absurd c_2 (by decide)
  · -- not taken
    refine lv_aload_n hx hb d_Bd_hashEntry_14 rfl (lv_at hl 1 rfl) ?_
    refine va_get (D := (dC, dI)) (ci := 3) (v := .ref h0) (C := "BallotBoard$Board") (T := F_Bo) (N := 4) hx hb hts (fun w9 h9 => List.mem_cons_of_mem _ (i_Bo w9 h9)) hown hK hP 0 rfl rfl 0 (by decide) (hts _ (List.mem_cons_of_mem _ gk_60)) (fun _ h9 => h9) rfl d_Bd_hashEntry_15 ?_
    refine lv_iload_n hx hb d_Bd_hashEntry_18 rfl (lv_at hl 2 rfl) ?_
    refine lv_if_ne (tgt := 26) hx hb d_Bd_hashEntry_19 (by decide) (fun c_3 => ?_) (fun c_3 => ?_)
    · -- taken
      exact absurd (by rw [hk0]; rfl) c_3
    · -- not taken
      refine lv_lconst (v := 0) hx hb d_Bd_hashEntry_22 (by decide) ?_
      refine lv_goto (tgt := 36) hx hb d_Bd_hashEntry_23 (by decide) ?_
      have hPc := hP.sub (ws' := (ha_ws h0 aw ax ay cJ cI w sc st 0)) [4, 5, 6, 7] rfl
      have hDc := hD.sub (ws' := (ha_ws h0 aw ax ay cJ cI w sc st 0)) [4, 5, 6, 7] (by decide) rfl
      have hKc := hK.sub (tys' := [(cJ, .long), (cI, .int)]) [0, 1] rfl
      have hFc := va_free (wc := (ha_ws h0 aw ax ay cJ cI w sc st 0)) hD hS hA [4, 5, 6, 7] rfl
      refine va_callv (va_runV (As := [.long 0]) (rest := []) ⟨hx, hb, hml, hown, hts⟩ (c_Ha_add l dC dI h0 H.size aw ax ay cJ cI w sc st 0 0 (by decide)) (cwV 1 hts (gw_V gk_592 gk_507 gk_508 gk_2 gk_509) rfl rfl rfl (by decide +kernel) ⟨Nat.le_of_ble_eq_true rfl, Nat.le_of_ble_eq_true rfl⟩) ⟨fun a U g mk q => by obtain ⟨q0, q1, qP, qK, qD⟩ := q; exact ⟨q0, q1, qP, va_K.moved (u := U) (U := U.calling g mk a) (Vm.Alike.refl U.vm) qK, qD⟩, va_recv hK hP (ci := 2) (q0 := 4) rfl rfl, fun U hU hW => ⟨rfl, by rw [hU], by rw [hU]; exact hPc, va_K.moved hW.alike hKc, hDc.weaken (fun _ _ _ _ => trivial)⟩⟩ rfl rfl hl.1 rfl (lv_room (Nat.le_of_ble_eq_true rfl)) d_Bd_hashEntry_36 ⟨Nat.le_of_ble_eq_true rfl, Nat.le_of_ble_eq_true rfl⟩) hS (fun q _ h => hFc q h) hFc (fun u9 t9 H1 locs ht hvm hw hB hz1 hk1 hS => ?_)
      obtain ⟨hP1, hK1, hD1⟩ := hB
      rw [ht] at hP1
      obtain ⟨hP, hD⟩ := va_join (wr := [(bd0, .inr (3, [.ref h0, .ref ro, .ref lo, .int (nI n)])), (ro, .inl (cR, 154, .inr (.inr (.inr (.inr rr))))), (lo, .inl (cR, 154, .inr (.inr (.inr (.inr lr))))), (rk, .inl (cJ, 8, .inr (.inl rw)))]) (w1 := [(h0, .inr (2, [.ref aw, .ref ax, .ref ay, .int (nI 1)])), (aw, .inl (cJ, 16, .inr (.inl (vp_updL w 0 0)))), (ax, .inl (cI, 64, .inl sc)), (ay, .inl (cI, 8, .inl st))]) hP hD [4, 5, 6, 7] [0, 1, 2, 3] rfl rfl (by decide) (by decide) hk1 hFc hP1 hD1
      have hP := hP.sub (ws' := [(bd0, .inr (3, [.ref h0, .ref ro, .ref lo, .int (nI n)])), (ro, .inl (cR, 154, .inr (.inr (.inr (.inr rr))))), (lo, .inl (cR, 154, .inr (.inr (.inr (.inr lr))))), (rk, .inl (cJ, 8, .inr (.inl rw))), (h0, .inr (2, [.ref aw, .ref ax, .ref ay, .int (nI 1)])), (aw, .inl (cJ, 16, .inr (.inl (vp_updL w 0 0)))), (ax, .inl (cI, 64, .inl sc)), (ay, .inl (cI, 8, .inl st))]) [0, 1, 2, 3, 4, 5, 6, 7] rfl
      have hD := hD.sub (ws' := [(bd0, .inr (3, [.ref h0, .ref ro, .ref lo, .int (nI n)])), (ro, .inl (cR, 154, .inr (.inr (.inr (.inr rr))))), (lo, .inl (cR, 154, .inr (.inr (.inr (.inr lr))))), (rk, .inl (cJ, 8, .inr (.inl rw))), (h0, .inr (2, [.ref aw, .ref ax, .ref ay, .int (nI 1)])), (aw, .inl (cJ, 16, .inr (.inl (vp_updL w 0 0)))), (ax, .inl (cI, 64, .inl sc)), (ay, .inl (cI, 8, .inl st))]) [0, 1, 2, 3, 4, 5, 6, 7] (by decide) rfl
      generalize H1 = H at hP hS ⊢
      obtain ⟨g_5, eg_5⟩ : ∃ f : Nat → Int64, f = vp_updL w 0 0 := ⟨_, rfl⟩
      rw [← eg_5] at hP hD
      have hm_6 : wok g_5 1 [0] := wok_add _ hm0 eg_5
      obtain ⟨i_7, ei_7⟩ : ∃ y : Int32, y = 0 + 1 := ⟨_, rfl⟩
      refine lv_iinc (v := i_7) (lv' := [(2, .int i_7), (0, .ref bd0), (1, .int (nI k))]) hx hb d_Bd_hashEntry_39 hl (k := 0) rfl (by rw [ei_7]; rfl) (by decide) rfl (fun ls hl => ?_)
      obtain rfl : i_7 = 1 := by rw [ei_7]; exact by decide
      refine lv_goto (tgt := 9) hx hb d_Bd_hashEntry_42 (by decide) ?_
      refine lv_iload_n hx hb d_Bd_hashEntry_9 rfl (lv_at hl 0 rfl) ?_
      refine lv_iconst (v := 4) hx hb d_Bd_hashEntry_10 (by decide) ?_
      refine lv_icmp_ge (tgt := 45) hx hb d_Bd_hashEntry_11 (by decide) (fun c_8 => ?_) (fun c_8 => ?_)
      · -- taken
        exact absurd c_8 (by decide)
      · -- not taken
        refine lv_aload_n hx hb d_Bd_hashEntry_14 rfl (lv_at hl 1 rfl) ?_
        refine va_get (D := (dC, dI)) (ci := 3) (v := .ref h0) (C := "BallotBoard$Board") (T := F_Bo) (N := 4) hx hb hts (fun w9 h9 => List.mem_cons_of_mem _ (i_Bo w9 h9)) hown hK hP 0 rfl rfl 0 (by decide) (hts _ (List.mem_cons_of_mem _ gk_60)) (fun _ h9 => h9) rfl d_Bd_hashEntry_15 ?_
        refine lv_iload_n hx hb d_Bd_hashEntry_18 rfl (lv_at hl 2 rfl) ?_
        refine lv_if_ne (tgt := 26) hx hb d_Bd_hashEntry_19 (by decide) (fun c_9 => ?_) (fun c_9 => ?_)
        · -- taken
          exact absurd (by rw [hk0]; rfl) c_9
        · -- not taken
          refine lv_lconst (v := 0) hx hb d_Bd_hashEntry_22 (by decide) ?_
          refine lv_goto (tgt := 36) hx hb d_Bd_hashEntry_23 (by decide) ?_
          have hPc := hP.sub (ws' := (ha_ws h0 aw ax ay cJ cI g_5 sc st 1)) [4, 5, 6, 7] rfl
          have hDc := hD.sub (ws' := (ha_ws h0 aw ax ay cJ cI g_5 sc st 1)) [4, 5, 6, 7] (by decide) rfl
          have hKc := hK.sub (tys' := [(cJ, .long), (cI, .int)]) [0, 1] rfl
          have hFc := va_free (wc := (ha_ws h0 aw ax ay cJ cI g_5 sc st 1)) hD hS hA [4, 5, 6, 7] rfl
          refine va_callv (va_runV (As := [.long 0]) (rest := []) ⟨hx, hb, hml, hown, hts⟩ (c_Ha_add l dC dI h0 H.size aw ax ay cJ cI g_5 sc st 1 0 (by decide)) (cwV 1 hts (gw_V gk_592 gk_507 gk_508 gk_2 gk_509) rfl rfl rfl (by decide +kernel) ⟨Nat.le_of_ble_eq_true rfl, Nat.le_of_ble_eq_true rfl⟩) ⟨fun a U g mk q => by obtain ⟨q0, q1, qP, qK, qD⟩ := q; exact ⟨q0, q1, qP, va_K.moved (u := U) (U := U.calling g mk a) (Vm.Alike.refl U.vm) qK, qD⟩, va_recv hK hP (ci := 2) (q0 := 4) rfl rfl, fun U hU hW => ⟨rfl, by rw [hU], by rw [hU]; exact hPc, va_K.moved hW.alike hKc, hDc.weaken (fun _ _ _ _ => trivial)⟩⟩ rfl rfl hl.1 rfl (lv_room (Nat.le_of_ble_eq_true rfl)) d_Bd_hashEntry_36 ⟨Nat.le_of_ble_eq_true rfl, Nat.le_of_ble_eq_true rfl⟩) hS (fun q _ h => hFc q h) hFc (fun u9 t9 H1 locs ht hvm hw hB hz1 hk1 hS => ?_)
          obtain ⟨hP1, hK1, hD1⟩ := hB
          rw [ht] at hP1
          obtain ⟨hP, hD⟩ := va_join (wr := [(bd0, .inr (3, [.ref h0, .ref ro, .ref lo, .int (nI n)])), (ro, .inl (cR, 154, .inr (.inr (.inr (.inr rr))))), (lo, .inl (cR, 154, .inr (.inr (.inr (.inr lr))))), (rk, .inl (cJ, 8, .inr (.inl rw)))]) (w1 := [(h0, .inr (2, [.ref aw, .ref ax, .ref ay, .int (nI 2)])), (aw, .inl (cJ, 16, .inr (.inl (vp_updL g_5 1 0)))), (ax, .inl (cI, 64, .inl sc)), (ay, .inl (cI, 8, .inl st))]) hP hD [4, 5, 6, 7] [0, 1, 2, 3] rfl rfl (by decide) (by decide) hk1 hFc hP1 hD1
          have hP := hP.sub (ws' := [(bd0, .inr (3, [.ref h0, .ref ro, .ref lo, .int (nI n)])), (ro, .inl (cR, 154, .inr (.inr (.inr (.inr rr))))), (lo, .inl (cR, 154, .inr (.inr (.inr (.inr lr))))), (rk, .inl (cJ, 8, .inr (.inl rw))), (h0, .inr (2, [.ref aw, .ref ax, .ref ay, .int (nI 2)])), (aw, .inl (cJ, 16, .inr (.inl (vp_updL g_5 1 0)))), (ax, .inl (cI, 64, .inl sc)), (ay, .inl (cI, 8, .inl st))]) [0, 1, 2, 3, 4, 5, 6, 7] rfl
          have hD := hD.sub (ws' := [(bd0, .inr (3, [.ref h0, .ref ro, .ref lo, .int (nI n)])), (ro, .inl (cR, 154, .inr (.inr (.inr (.inr rr))))), (lo, .inl (cR, 154, .inr (.inr (.inr (.inr lr))))), (rk, .inl (cJ, 8, .inr (.inl rw))), (h0, .inr (2, [.ref aw, .ref ax, .ref ay, .int (nI 2)])), (aw, .inl (cJ, 16, .inr (.inl (vp_updL g_5 1 0)))), (ax, .inl (cI, 64, .inl sc)), (ay, .inl (cI, 8, .inl st))]) [0, 1, 2, 3, 4, 5, 6, 7] (by decide) rfl
          generalize H1 = H at hP hS ⊢
          obtain ⟨g_11, eg_11⟩ : ∃ f : Nat → Int64, f = vp_updL g_5 1 0 := ⟨_, rfl⟩
          rw [← eg_11] at hP hD
          have hm_12 : wok g_11 2 [0, 0] := wok_add _ hm_6 eg_11
          obtain ⟨i_13, ei_13⟩ : ∃ y : Int32, y = 1 + 1 := ⟨_, rfl⟩
          refine lv_iinc (v := i_13) (lv' := [(2, .int i_13), (0, .ref bd0), (1, .int (nI k))]) hx hb d_Bd_hashEntry_39 hl (k := 0) rfl (by rw [ei_13]; rfl) (by decide) rfl (fun ls hl => ?_)
          obtain rfl : i_13 = 2 := by rw [ei_13]; exact by decide
          refine lv_goto (tgt := 9) hx hb d_Bd_hashEntry_42 (by decide) ?_
          refine lv_iload_n hx hb d_Bd_hashEntry_9 rfl (lv_at hl 0 rfl) ?_
          refine lv_iconst (v := 4) hx hb d_Bd_hashEntry_10 (by decide) ?_
          refine lv_icmp_ge (tgt := 45) hx hb d_Bd_hashEntry_11 (by decide) (fun c_14 => ?_) (fun c_14 => ?_)
          · -- taken
            exact absurd c_14 (by decide)
          · -- not taken
            refine lv_aload_n hx hb d_Bd_hashEntry_14 rfl (lv_at hl 1 rfl) ?_
            refine va_get (D := (dC, dI)) (ci := 3) (v := .ref h0) (C := "BallotBoard$Board") (T := F_Bo) (N := 4) hx hb hts (fun w9 h9 => List.mem_cons_of_mem _ (i_Bo w9 h9)) hown hK hP 0 rfl rfl 0 (by decide) (hts _ (List.mem_cons_of_mem _ gk_60)) (fun _ h9 => h9) rfl d_Bd_hashEntry_15 ?_
            refine lv_iload_n hx hb d_Bd_hashEntry_18 rfl (lv_at hl 2 rfl) ?_
            refine lv_if_ne (tgt := 26) hx hb d_Bd_hashEntry_19 (by decide) (fun c_15 => ?_) (fun c_15 => ?_)
            · -- taken
              exact absurd (by rw [hk0]; rfl) c_15
            · -- not taken
              refine lv_lconst (v := 0) hx hb d_Bd_hashEntry_22 (by decide) ?_
              refine lv_goto (tgt := 36) hx hb d_Bd_hashEntry_23 (by decide) ?_
              have hPc := hP.sub (ws' := (ha_ws h0 aw ax ay cJ cI g_11 sc st 2)) [4, 5, 6, 7] rfl
              have hDc := hD.sub (ws' := (ha_ws h0 aw ax ay cJ cI g_11 sc st 2)) [4, 5, 6, 7] (by decide) rfl
              have hKc := hK.sub (tys' := [(cJ, .long), (cI, .int)]) [0, 1] rfl
              have hFc := va_free (wc := (ha_ws h0 aw ax ay cJ cI g_11 sc st 2)) hD hS hA [4, 5, 6, 7] rfl
              refine va_callv (va_runV (As := [.long 0]) (rest := []) ⟨hx, hb, hml, hown, hts⟩ (c_Ha_add l dC dI h0 H.size aw ax ay cJ cI g_11 sc st 2 0 (by decide)) (cwV 1 hts (gw_V gk_592 gk_507 gk_508 gk_2 gk_509) rfl rfl rfl (by decide +kernel) ⟨Nat.le_of_ble_eq_true rfl, Nat.le_of_ble_eq_true rfl⟩) ⟨fun a U g mk q => by obtain ⟨q0, q1, qP, qK, qD⟩ := q; exact ⟨q0, q1, qP, va_K.moved (u := U) (U := U.calling g mk a) (Vm.Alike.refl U.vm) qK, qD⟩, va_recv hK hP (ci := 2) (q0 := 4) rfl rfl, fun U hU hW => ⟨rfl, by rw [hU], by rw [hU]; exact hPc, va_K.moved hW.alike hKc, hDc.weaken (fun _ _ _ _ => trivial)⟩⟩ rfl rfl hl.1 rfl (lv_room (Nat.le_of_ble_eq_true rfl)) d_Bd_hashEntry_36 ⟨Nat.le_of_ble_eq_true rfl, Nat.le_of_ble_eq_true rfl⟩) hS (fun q _ h => hFc q h) hFc (fun u9 t9 H1 locs ht hvm hw hB hz1 hk1 hS => ?_)
              obtain ⟨hP1, hK1, hD1⟩ := hB
              rw [ht] at hP1
              obtain ⟨hP, hD⟩ := va_join (wr := [(bd0, .inr (3, [.ref h0, .ref ro, .ref lo, .int (nI n)])), (ro, .inl (cR, 154, .inr (.inr (.inr (.inr rr))))), (lo, .inl (cR, 154, .inr (.inr (.inr (.inr lr))))), (rk, .inl (cJ, 8, .inr (.inl rw)))]) (w1 := [(h0, .inr (2, [.ref aw, .ref ax, .ref ay, .int (nI 3)])), (aw, .inl (cJ, 16, .inr (.inl (vp_updL g_11 2 0)))), (ax, .inl (cI, 64, .inl sc)), (ay, .inl (cI, 8, .inl st))]) hP hD [4, 5, 6, 7] [0, 1, 2, 3] rfl rfl (by decide) (by decide) hk1 hFc hP1 hD1
              have hP := hP.sub (ws' := [(bd0, .inr (3, [.ref h0, .ref ro, .ref lo, .int (nI n)])), (ro, .inl (cR, 154, .inr (.inr (.inr (.inr rr))))), (lo, .inl (cR, 154, .inr (.inr (.inr (.inr lr))))), (rk, .inl (cJ, 8, .inr (.inl rw))), (h0, .inr (2, [.ref aw, .ref ax, .ref ay, .int (nI 3)])), (aw, .inl (cJ, 16, .inr (.inl (vp_updL g_11 2 0)))), (ax, .inl (cI, 64, .inl sc)), (ay, .inl (cI, 8, .inl st))]) [0, 1, 2, 3, 4, 5, 6, 7] rfl
              have hD := hD.sub (ws' := [(bd0, .inr (3, [.ref h0, .ref ro, .ref lo, .int (nI n)])), (ro, .inl (cR, 154, .inr (.inr (.inr (.inr rr))))), (lo, .inl (cR, 154, .inr (.inr (.inr (.inr lr))))), (rk, .inl (cJ, 8, .inr (.inl rw))), (h0, .inr (2, [.ref aw, .ref ax, .ref ay, .int (nI 3)])), (aw, .inl (cJ, 16, .inr (.inl (vp_updL g_11 2 0)))), (ax, .inl (cI, 64, .inl sc)), (ay, .inl (cI, 8, .inl st))]) [0, 1, 2, 3, 4, 5, 6, 7] (by decide) rfl
              generalize H1 = H at hP hS ⊢
              obtain ⟨g_17, eg_17⟩ : ∃ f : Nat → Int64, f = vp_updL g_11 2 0 := ⟨_, rfl⟩
              rw [← eg_17] at hP hD
              have hm_18 : wok g_17 3 [0, 0, 0] := wok_add _ hm_12 eg_17
              obtain ⟨i_19, ei_19⟩ : ∃ y : Int32, y = 2 + 1 := ⟨_, rfl⟩
              refine lv_iinc (v := i_19) (lv' := [(2, .int i_19), (0, .ref bd0), (1, .int (nI k))]) hx hb d_Bd_hashEntry_39 hl (k := 0) rfl (by rw [ei_19]; rfl) (by decide) rfl (fun ls hl => ?_)
              obtain rfl : i_19 = 3 := by rw [ei_19]; exact by decide
              refine lv_goto (tgt := 9) hx hb d_Bd_hashEntry_42 (by decide) ?_
              refine lv_iload_n hx hb d_Bd_hashEntry_9 rfl (lv_at hl 0 rfl) ?_
              refine lv_iconst (v := 4) hx hb d_Bd_hashEntry_10 (by decide) ?_
              refine lv_icmp_ge (tgt := 45) hx hb d_Bd_hashEntry_11 (by decide) (fun c_20 => ?_) (fun c_20 => ?_)
              · -- taken
                exact absurd c_20 (by decide)
              · -- not taken
                refine lv_aload_n hx hb d_Bd_hashEntry_14 rfl (lv_at hl 1 rfl) ?_
                refine va_get (D := (dC, dI)) (ci := 3) (v := .ref h0) (C := "BallotBoard$Board") (T := F_Bo) (N := 4) hx hb hts (fun w9 h9 => List.mem_cons_of_mem _ (i_Bo w9 h9)) hown hK hP 0 rfl rfl 0 (by decide) (hts _ (List.mem_cons_of_mem _ gk_60)) (fun _ h9 => h9) rfl d_Bd_hashEntry_15 ?_
                refine lv_iload_n hx hb d_Bd_hashEntry_18 rfl (lv_at hl 2 rfl) ?_
                refine lv_if_ne (tgt := 26) hx hb d_Bd_hashEntry_19 (by decide) (fun c_21 => ?_) (fun c_21 => ?_)
                · -- taken
                  exact absurd (by rw [hk0]; rfl) c_21
                · -- not taken
                  refine lv_lconst (v := 0) hx hb d_Bd_hashEntry_22 (by decide) ?_
                  refine lv_goto (tgt := 36) hx hb d_Bd_hashEntry_23 (by decide) ?_
                  have hPc := hP.sub (ws' := (ha_ws h0 aw ax ay cJ cI g_17 sc st 3)) [4, 5, 6, 7] rfl
                  have hDc := hD.sub (ws' := (ha_ws h0 aw ax ay cJ cI g_17 sc st 3)) [4, 5, 6, 7] (by decide) rfl
                  have hKc := hK.sub (tys' := [(cJ, .long), (cI, .int)]) [0, 1] rfl
                  have hFc := va_free (wc := (ha_ws h0 aw ax ay cJ cI g_17 sc st 3)) hD hS hA [4, 5, 6, 7] rfl
                  refine va_callv (va_runV (As := [.long 0]) (rest := []) ⟨hx, hb, hml, hown, hts⟩ (c_Ha_add l dC dI h0 H.size aw ax ay cJ cI g_17 sc st 3 0 (by decide)) (cwV 1 hts (gw_V gk_592 gk_507 gk_508 gk_2 gk_509) rfl rfl rfl (by decide +kernel) ⟨Nat.le_of_ble_eq_true rfl, Nat.le_of_ble_eq_true rfl⟩) ⟨fun a U g mk q => by obtain ⟨q0, q1, qP, qK, qD⟩ := q; exact ⟨q0, q1, qP, va_K.moved (u := U) (U := U.calling g mk a) (Vm.Alike.refl U.vm) qK, qD⟩, va_recv hK hP (ci := 2) (q0 := 4) rfl rfl, fun U hU hW => ⟨rfl, by rw [hU], by rw [hU]; exact hPc, va_K.moved hW.alike hKc, hDc.weaken (fun _ _ _ _ => trivial)⟩⟩ rfl rfl hl.1 rfl (lv_room (Nat.le_of_ble_eq_true rfl)) d_Bd_hashEntry_36 ⟨Nat.le_of_ble_eq_true rfl, Nat.le_of_ble_eq_true rfl⟩) hS (fun q _ h => hFc q h) hFc (fun u9 t9 H1 locs ht hvm hw hB hz1 hk1 hS => ?_)
                  obtain ⟨hP1, hK1, hD1⟩ := hB
                  rw [ht] at hP1
                  obtain ⟨hP, hD⟩ := va_join (wr := [(bd0, .inr (3, [.ref h0, .ref ro, .ref lo, .int (nI n)])), (ro, .inl (cR, 154, .inr (.inr (.inr (.inr rr))))), (lo, .inl (cR, 154, .inr (.inr (.inr (.inr lr))))), (rk, .inl (cJ, 8, .inr (.inl rw)))]) (w1 := [(h0, .inr (2, [.ref aw, .ref ax, .ref ay, .int (nI 4)])), (aw, .inl (cJ, 16, .inr (.inl (vp_updL g_17 3 0)))), (ax, .inl (cI, 64, .inl sc)), (ay, .inl (cI, 8, .inl st))]) hP hD [4, 5, 6, 7] [0, 1, 2, 3] rfl rfl (by decide) (by decide) hk1 hFc hP1 hD1
                  have hP := hP.sub (ws' := [(bd0, .inr (3, [.ref h0, .ref ro, .ref lo, .int (nI n)])), (ro, .inl (cR, 154, .inr (.inr (.inr (.inr rr))))), (lo, .inl (cR, 154, .inr (.inr (.inr (.inr lr))))), (rk, .inl (cJ, 8, .inr (.inl rw))), (h0, .inr (2, [.ref aw, .ref ax, .ref ay, .int (nI 4)])), (aw, .inl (cJ, 16, .inr (.inl (vp_updL g_17 3 0)))), (ax, .inl (cI, 64, .inl sc)), (ay, .inl (cI, 8, .inl st))]) [0, 1, 2, 3, 4, 5, 6, 7] rfl
                  have hD := hD.sub (ws' := [(bd0, .inr (3, [.ref h0, .ref ro, .ref lo, .int (nI n)])), (ro, .inl (cR, 154, .inr (.inr (.inr (.inr rr))))), (lo, .inl (cR, 154, .inr (.inr (.inr (.inr lr))))), (rk, .inl (cJ, 8, .inr (.inl rw))), (h0, .inr (2, [.ref aw, .ref ax, .ref ay, .int (nI 4)])), (aw, .inl (cJ, 16, .inr (.inl (vp_updL g_17 3 0)))), (ax, .inl (cI, 64, .inl sc)), (ay, .inl (cI, 8, .inl st))]) [0, 1, 2, 3, 4, 5, 6, 7] (by decide) rfl
                  generalize H1 = H at hP hS ⊢
                  obtain ⟨g_23, eg_23⟩ : ∃ f : Nat → Int64, f = vp_updL g_17 3 0 := ⟨_, rfl⟩
                  rw [← eg_23] at hP hD
                  have hm_24 : wok g_23 4 [0, 0, 0, 0] := wok_add _ hm_18 eg_23
                  obtain ⟨i_25, ei_25⟩ : ∃ y : Int32, y = 3 + 1 := ⟨_, rfl⟩
                  refine lv_iinc (v := i_25) (lv' := [(2, .int i_25), (0, .ref bd0), (1, .int (nI k))]) hx hb d_Bd_hashEntry_39 hl (k := 0) rfl (by rw [ei_25]; rfl) (by decide) rfl (fun ls hl => ?_)
                  obtain rfl : i_25 = 4 := by rw [ei_25]; exact by decide
                  refine lv_goto (tgt := 9) hx hb d_Bd_hashEntry_42 (by decide) ?_
                  refine lv_iload_n hx hb d_Bd_hashEntry_9 rfl (lv_at hl 0 rfl) ?_
                  refine lv_iconst (v := 4) hx hb d_Bd_hashEntry_10 (by decide) ?_
                  refine lv_icmp_ge (tgt := 45) hx hb d_Bd_hashEntry_11 (by decide) (fun c_26 => ?_) (fun c_26 => ?_)
                  · -- taken
                    refine lv_aload_n hx hb d_Bd_hashEntry_45 rfl (lv_at hl 1 rfl) ?_
                    refine va_get (D := (dC, dI)) (ci := 3) (v := .ref ro) (C := "BallotBoard$Board") (T := F_Bo) (N := 4) hx hb hts (fun w9 h9 => List.mem_cons_of_mem _ (i_Bo w9 h9)) hown hK hP 0 rfl rfl 1 (by decide) (hts _ (List.mem_cons_of_mem _ gk_61)) (fun _ h9 => h9) rfl d_Bd_hashEntry_46 ?_
                    refine lv_iload_n hx hb d_Bd_hashEntry_49 rfl (lv_at hl 2 rfl) ?_
                    refine va_aldA hx hb hK hP 1 2 rfl rfl (vp_in_nI (by omega) (by omega)) d_Bd_hashEntry_50 (b := rk) (by rw [nI_clamp (by omega)]; exact hrk) ?_
                    have hPc := hP.sub (ws' := (rw_ws rk cJ rw)) [3] rfl
                    have hKc := hK.sub (tys' := [(cJ, .long), (cI, .int), (cR, .array .long)]) [0, 1, 2] rfl
                    refine va_calli (va_runS (As := [.ref rk]) (rest := []) ⟨hx, hb, hml, hown, hts⟩ (c_Bd_width l H dC dI cJ cI cR rk rw K hPc hr0 hK4) (cwS 1 hts (gw_S gk_593 gk_594 gk_3 gk_595) rfl rfl rfl (by decide +kernel) ⟨Nat.le_of_ble_eq_true rfl, Nat.le_of_ble_eq_true rfl⟩) ⟨fun a U g mk q => ⟨q.1, q.2.1, va_K.moved (u := U) (U := U.calling g mk a) (Vm.Alike.refl U.vm) q.2.2⟩, fun U hU hW => ⟨rfl, hU, va_K.moved hW.alike hKc⟩⟩ rfl rfl hl.1 rfl (lv_room (Nat.le_of_ble_eq_true rfl)) d_Bd_hashEntry_51 ⟨Nat.le_of_ble_eq_true rfl, Nat.le_of_ble_eq_true rfl⟩) hS (fun q _ h => h.elim) (fun q h => h.elim) (fun r51 u9 t9 H1 locs ht hvm hw hB hz1 hk1 hS => ?_)
                    obtain rfl : H = H1 := hB.symm.trans ht
                    have hw : r51 = nI (wdt K) := hw
                    subst hw
                    rw [show (nI (wdt K) : Int32) = 5 from by unfold wdt; rw [if_neg hK2]; rfl]
                    refine lv_istore_n (lv' := [(2, .int 5), (0, .ref bd0), (1, .int (nI k))]) hx hb d_Bd_hashEntry_54 rfl hl (by decide) rfl (fun ls hl => ?_)
                    refine lv_iconst (v := 0) hx hb d_Bd_hashEntry_55 (by decide) ?_
                    refine lv_istore_n (lv' := [(3, .int 0), (2, .int 5), (0, .ref bd0), (1, .int (nI k))]) hx hb d_Bd_hashEntry_56 rfl hl (by decide) rfl (fun ls hl => ?_)
                    refine lv_iload_n hx hb d_Bd_hashEntry_57 rfl (lv_at hl 0 rfl) ?_
                    refine lv_iload_n hx hb d_Bd_hashEntry_58 rfl (lv_at hl 1 rfl) ?_
                    refine lv_icmp_ge (tgt := 83) hx hb d_Bd_hashEntry_59 (by decide) (fun c_27 => ?_) (fun c_27 => ?_)
                    · -- taken
                      exact absurd c_27 (by decide)
                    · -- not taken
                      refine lv_aload_n hx hb d_Bd_hashEntry_62 rfl (lv_at hl 2 rfl) ?_
                      refine va_get (D := (dC, dI)) (ci := 3) (v := .ref h0) (C := "BallotBoard$Board") (T := F_Bo) (N := 4) hx hb hts (fun w9 h9 => List.mem_cons_of_mem _ (i_Bo w9 h9)) hown hK hP 0 rfl rfl 0 (by decide) (hts _ (List.mem_cons_of_mem _ gk_60)) (fun _ h9 => h9) rfl d_Bd_hashEntry_63 ?_
                      refine lv_aload_n hx hb d_Bd_hashEntry_66 rfl (lv_at hl 2 rfl) ?_
                      refine va_get (D := (dC, dI)) (ci := 3) (v := .ref ro) (C := "BallotBoard$Board") (T := F_Bo) (N := 4) hx hb hts (fun w9 h9 => List.mem_cons_of_mem _ (i_Bo w9 h9)) hown hK hP 0 rfl rfl 1 (by decide) (hts _ (List.mem_cons_of_mem _ gk_61)) (fun _ h9 => h9) rfl d_Bd_hashEntry_67 ?_
                      refine lv_iload_n hx hb d_Bd_hashEntry_70 rfl (lv_at hl 3 rfl) ?_
                      refine va_aldA hx hb hK hP 1 2 rfl rfl (vp_in_nI (by omega) (by omega)) d_Bd_hashEntry_71 (b := rk) (by rw [nI_clamp (by omega)]; exact hrk) ?_
                      refine lv_iload_n hx hb d_Bd_hashEntry_72 rfl (lv_at hl 0 rfl) ?_
                      refine va_lald hx hb hK hP 3 0 rfl rfl (vp_lit rfl) d_Bd_hashEntry_73 ?_
                      rw [show (rw (0 : Int32).toNatClampNeg : Int64) = rw 0 from rfl]
                      have hPc := hP.sub (ws' := (ha_ws h0 aw ax ay cJ cI g_23 sc st 4)) [4, 5, 6, 7] rfl
                      have hDc := hD.sub (ws' := (ha_ws h0 aw ax ay cJ cI g_23 sc st 4)) [4, 5, 6, 7] (by decide) rfl
                      have hKc := hK.sub (tys' := [(cJ, .long), (cI, .int)]) [0, 1] rfl
                      have hFc := va_free (wc := (ha_ws h0 aw ax ay cJ cI g_23 sc st 4)) hD hS hA [4, 5, 6, 7] rfl
                      refine va_callv (va_runV (As := [.long (rw 0)]) (rest := []) ⟨hx, hb, hml, hown, hts⟩ (c_Ha_add l dC dI h0 H.size aw ax ay cJ cI g_23 sc st 4 (rw 0) (by decide)) (cwV 1 hts (gw_V gk_592 gk_507 gk_508 gk_2 gk_509) rfl rfl rfl (by decide +kernel) ⟨Nat.le_of_ble_eq_true rfl, Nat.le_of_ble_eq_true rfl⟩) ⟨fun a U g mk q => by obtain ⟨q0, q1, qP, qK, qD⟩ := q; exact ⟨q0, q1, qP, va_K.moved (u := U) (U := U.calling g mk a) (Vm.Alike.refl U.vm) qK, qD⟩, va_recv hK hP (ci := 2) (q0 := 4) rfl rfl, fun U hU hW => ⟨rfl, by rw [hU], by rw [hU]; exact hPc, va_K.moved hW.alike hKc, hDc.weaken (fun _ _ _ _ => trivial)⟩⟩ rfl rfl hl.1 rfl (lv_room (Nat.le_of_ble_eq_true rfl)) d_Bd_hashEntry_74 ⟨Nat.le_of_ble_eq_true rfl, Nat.le_of_ble_eq_true rfl⟩) hS (fun q _ h => hFc q h) hFc (fun u9 t9 H1 locs ht hvm hw hB hz1 hk1 hS => ?_)
                      obtain ⟨hP1, hK1, hD1⟩ := hB
                      rw [ht] at hP1
                      obtain ⟨hP, hD⟩ := va_join (wr := [(bd0, .inr (3, [.ref h0, .ref ro, .ref lo, .int (nI n)])), (ro, .inl (cR, 154, .inr (.inr (.inr (.inr rr))))), (lo, .inl (cR, 154, .inr (.inr (.inr (.inr lr))))), (rk, .inl (cJ, 8, .inr (.inl rw)))]) (w1 := [(h0, .inr (2, [.ref aw, .ref ax, .ref ay, .int (nI 5)])), (aw, .inl (cJ, 16, .inr (.inl (vp_updL g_23 4 (rw 0))))), (ax, .inl (cI, 64, .inl sc)), (ay, .inl (cI, 8, .inl st))]) hP hD [4, 5, 6, 7] [0, 1, 2, 3] rfl rfl (by decide) (by decide) hk1 hFc hP1 hD1
                      have hP := hP.sub (ws' := [(bd0, .inr (3, [.ref h0, .ref ro, .ref lo, .int (nI n)])), (ro, .inl (cR, 154, .inr (.inr (.inr (.inr rr))))), (lo, .inl (cR, 154, .inr (.inr (.inr (.inr lr))))), (rk, .inl (cJ, 8, .inr (.inl rw))), (h0, .inr (2, [.ref aw, .ref ax, .ref ay, .int (nI 5)])), (aw, .inl (cJ, 16, .inr (.inl (vp_updL g_23 4 (rw 0))))), (ax, .inl (cI, 64, .inl sc)), (ay, .inl (cI, 8, .inl st))]) [0, 1, 2, 3, 4, 5, 6, 7] rfl
                      have hD := hD.sub (ws' := [(bd0, .inr (3, [.ref h0, .ref ro, .ref lo, .int (nI n)])), (ro, .inl (cR, 154, .inr (.inr (.inr (.inr rr))))), (lo, .inl (cR, 154, .inr (.inr (.inr (.inr lr))))), (rk, .inl (cJ, 8, .inr (.inl rw))), (h0, .inr (2, [.ref aw, .ref ax, .ref ay, .int (nI 5)])), (aw, .inl (cJ, 16, .inr (.inl (vp_updL g_23 4 (rw 0))))), (ax, .inl (cI, 64, .inl sc)), (ay, .inl (cI, 8, .inl st))]) [0, 1, 2, 3, 4, 5, 6, 7] (by decide) rfl
                      generalize H1 = H at hP hS ⊢
                      obtain ⟨g_29, eg_29⟩ : ∃ f : Nat → Int64, f = vp_updL g_23 4 (rw 0) := ⟨_, rfl⟩
                      rw [← eg_29] at hP hD
                      have hm_30 : wok g_29 5 [0, 0, 0, 0, rw 0] := wok_add _ hm_24 eg_29
                      obtain ⟨i_31, ei_31⟩ : ∃ y : Int32, y = 0 + 1 := ⟨_, rfl⟩
                      refine lv_iinc (v := i_31) (lv' := [(3, .int i_31), (2, .int 5), (0, .ref bd0), (1, .int (nI k))]) hx hb d_Bd_hashEntry_77 hl (k := 0) rfl (by rw [ei_31]; rfl) (by decide) rfl (fun ls hl => ?_)
                      obtain rfl : i_31 = 1 := by rw [ei_31]; exact by decide
                      refine lv_goto (tgt := 57) hx hb d_Bd_hashEntry_80 (by decide) ?_
                      refine lv_iload_n hx hb d_Bd_hashEntry_57 rfl (lv_at hl 0 rfl) ?_
                      refine lv_iload_n hx hb d_Bd_hashEntry_58 rfl (lv_at hl 1 rfl) ?_
                      refine lv_icmp_ge (tgt := 83) hx hb d_Bd_hashEntry_59 (by decide) (fun c_32 => ?_) (fun c_32 => ?_)
                      · -- taken
                        exact absurd c_32 (by decide)
                      · -- not taken
                        refine lv_aload_n hx hb d_Bd_hashEntry_62 rfl (lv_at hl 2 rfl) ?_
                        refine va_get (D := (dC, dI)) (ci := 3) (v := .ref h0) (C := "BallotBoard$Board") (T := F_Bo) (N := 4) hx hb hts (fun w9 h9 => List.mem_cons_of_mem _ (i_Bo w9 h9)) hown hK hP 0 rfl rfl 0 (by decide) (hts _ (List.mem_cons_of_mem _ gk_60)) (fun _ h9 => h9) rfl d_Bd_hashEntry_63 ?_
                        refine lv_aload_n hx hb d_Bd_hashEntry_66 rfl (lv_at hl 2 rfl) ?_
                        refine va_get (D := (dC, dI)) (ci := 3) (v := .ref ro) (C := "BallotBoard$Board") (T := F_Bo) (N := 4) hx hb hts (fun w9 h9 => List.mem_cons_of_mem _ (i_Bo w9 h9)) hown hK hP 0 rfl rfl 1 (by decide) (hts _ (List.mem_cons_of_mem _ gk_61)) (fun _ h9 => h9) rfl d_Bd_hashEntry_67 ?_
                        refine lv_iload_n hx hb d_Bd_hashEntry_70 rfl (lv_at hl 3 rfl) ?_
                        refine va_aldA hx hb hK hP 1 2 rfl rfl (vp_in_nI (by omega) (by omega)) d_Bd_hashEntry_71 (b := rk) (by rw [nI_clamp (by omega)]; exact hrk) ?_
                        refine lv_iload_n hx hb d_Bd_hashEntry_72 rfl (lv_at hl 0 rfl) ?_
                        refine va_lald hx hb hK hP 3 0 rfl rfl (vp_lit rfl) d_Bd_hashEntry_73 ?_
                        rw [show (rw (1 : Int32).toNatClampNeg : Int64) = rw 1 from rfl]
                        have hPc := hP.sub (ws' := (ha_ws h0 aw ax ay cJ cI g_29 sc st 5)) [4, 5, 6, 7] rfl
                        have hDc := hD.sub (ws' := (ha_ws h0 aw ax ay cJ cI g_29 sc st 5)) [4, 5, 6, 7] (by decide) rfl
                        have hKc := hK.sub (tys' := [(cJ, .long), (cI, .int)]) [0, 1] rfl
                        have hFc := va_free (wc := (ha_ws h0 aw ax ay cJ cI g_29 sc st 5)) hD hS hA [4, 5, 6, 7] rfl
                        refine va_callv (va_runV (As := [.long (rw 1)]) (rest := []) ⟨hx, hb, hml, hown, hts⟩ (c_Ha_add l dC dI h0 H.size aw ax ay cJ cI g_29 sc st 5 (rw 1) (by decide)) (cwV 1 hts (gw_V gk_592 gk_507 gk_508 gk_2 gk_509) rfl rfl rfl (by decide +kernel) ⟨Nat.le_of_ble_eq_true rfl, Nat.le_of_ble_eq_true rfl⟩) ⟨fun a U g mk q => by obtain ⟨q0, q1, qP, qK, qD⟩ := q; exact ⟨q0, q1, qP, va_K.moved (u := U) (U := U.calling g mk a) (Vm.Alike.refl U.vm) qK, qD⟩, va_recv hK hP (ci := 2) (q0 := 4) rfl rfl, fun U hU hW => ⟨rfl, by rw [hU], by rw [hU]; exact hPc, va_K.moved hW.alike hKc, hDc.weaken (fun _ _ _ _ => trivial)⟩⟩ rfl rfl hl.1 rfl (lv_room (Nat.le_of_ble_eq_true rfl)) d_Bd_hashEntry_74 ⟨Nat.le_of_ble_eq_true rfl, Nat.le_of_ble_eq_true rfl⟩) hS (fun q _ h => hFc q h) hFc (fun u9 t9 H1 locs ht hvm hw hB hz1 hk1 hS => ?_)
                        obtain ⟨hP1, hK1, hD1⟩ := hB
                        rw [ht] at hP1
                        obtain ⟨hP, hD⟩ := va_join (wr := [(bd0, .inr (3, [.ref h0, .ref ro, .ref lo, .int (nI n)])), (ro, .inl (cR, 154, .inr (.inr (.inr (.inr rr))))), (lo, .inl (cR, 154, .inr (.inr (.inr (.inr lr))))), (rk, .inl (cJ, 8, .inr (.inl rw)))]) (w1 := [(h0, .inr (2, [.ref aw, .ref ax, .ref ay, .int (nI 6)])), (aw, .inl (cJ, 16, .inr (.inl (vp_updL g_29 5 (rw 1))))), (ax, .inl (cI, 64, .inl sc)), (ay, .inl (cI, 8, .inl st))]) hP hD [4, 5, 6, 7] [0, 1, 2, 3] rfl rfl (by decide) (by decide) hk1 hFc hP1 hD1
                        have hP := hP.sub (ws' := [(bd0, .inr (3, [.ref h0, .ref ro, .ref lo, .int (nI n)])), (ro, .inl (cR, 154, .inr (.inr (.inr (.inr rr))))), (lo, .inl (cR, 154, .inr (.inr (.inr (.inr lr))))), (rk, .inl (cJ, 8, .inr (.inl rw))), (h0, .inr (2, [.ref aw, .ref ax, .ref ay, .int (nI 6)])), (aw, .inl (cJ, 16, .inr (.inl (vp_updL g_29 5 (rw 1))))), (ax, .inl (cI, 64, .inl sc)), (ay, .inl (cI, 8, .inl st))]) [0, 1, 2, 3, 4, 5, 6, 7] rfl
                        have hD := hD.sub (ws' := [(bd0, .inr (3, [.ref h0, .ref ro, .ref lo, .int (nI n)])), (ro, .inl (cR, 154, .inr (.inr (.inr (.inr rr))))), (lo, .inl (cR, 154, .inr (.inr (.inr (.inr lr))))), (rk, .inl (cJ, 8, .inr (.inl rw))), (h0, .inr (2, [.ref aw, .ref ax, .ref ay, .int (nI 6)])), (aw, .inl (cJ, 16, .inr (.inl (vp_updL g_29 5 (rw 1))))), (ax, .inl (cI, 64, .inl sc)), (ay, .inl (cI, 8, .inl st))]) [0, 1, 2, 3, 4, 5, 6, 7] (by decide) rfl
                        generalize H1 = H at hP hS ⊢
                        obtain ⟨g_34, eg_34⟩ : ∃ f : Nat → Int64, f = vp_updL g_29 5 (rw 1) := ⟨_, rfl⟩
                        rw [← eg_34] at hP hD
                        have hm_35 : wok g_34 6 [0, 0, 0, 0, rw 0, rw 1] := wok_add _ hm_30 eg_34
                        obtain ⟨i_36, ei_36⟩ : ∃ y : Int32, y = 1 + 1 := ⟨_, rfl⟩
                        refine lv_iinc (v := i_36) (lv' := [(3, .int i_36), (2, .int 5), (0, .ref bd0), (1, .int (nI k))]) hx hb d_Bd_hashEntry_77 hl (k := 0) rfl (by rw [ei_36]; rfl) (by decide) rfl (fun ls hl => ?_)
                        obtain rfl : i_36 = 2 := by rw [ei_36]; exact by decide
                        refine lv_goto (tgt := 57) hx hb d_Bd_hashEntry_80 (by decide) ?_
                        refine lv_iload_n hx hb d_Bd_hashEntry_57 rfl (lv_at hl 0 rfl) ?_
                        refine lv_iload_n hx hb d_Bd_hashEntry_58 rfl (lv_at hl 1 rfl) ?_
                        refine lv_icmp_ge (tgt := 83) hx hb d_Bd_hashEntry_59 (by decide) (fun c_37 => ?_) (fun c_37 => ?_)
                        · -- taken
                          exact absurd c_37 (by decide)
                        · -- not taken
                          refine lv_aload_n hx hb d_Bd_hashEntry_62 rfl (lv_at hl 2 rfl) ?_
                          refine va_get (D := (dC, dI)) (ci := 3) (v := .ref h0) (C := "BallotBoard$Board") (T := F_Bo) (N := 4) hx hb hts (fun w9 h9 => List.mem_cons_of_mem _ (i_Bo w9 h9)) hown hK hP 0 rfl rfl 0 (by decide) (hts _ (List.mem_cons_of_mem _ gk_60)) (fun _ h9 => h9) rfl d_Bd_hashEntry_63 ?_
                          refine lv_aload_n hx hb d_Bd_hashEntry_66 rfl (lv_at hl 2 rfl) ?_
                          refine va_get (D := (dC, dI)) (ci := 3) (v := .ref ro) (C := "BallotBoard$Board") (T := F_Bo) (N := 4) hx hb hts (fun w9 h9 => List.mem_cons_of_mem _ (i_Bo w9 h9)) hown hK hP 0 rfl rfl 1 (by decide) (hts _ (List.mem_cons_of_mem _ gk_61)) (fun _ h9 => h9) rfl d_Bd_hashEntry_67 ?_
                          refine lv_iload_n hx hb d_Bd_hashEntry_70 rfl (lv_at hl 3 rfl) ?_
                          refine va_aldA hx hb hK hP 1 2 rfl rfl (vp_in_nI (by omega) (by omega)) d_Bd_hashEntry_71 (b := rk) (by rw [nI_clamp (by omega)]; exact hrk) ?_
                          refine lv_iload_n hx hb d_Bd_hashEntry_72 rfl (lv_at hl 0 rfl) ?_
                          refine va_lald hx hb hK hP 3 0 rfl rfl (vp_lit rfl) d_Bd_hashEntry_73 ?_
                          rw [show (rw (2 : Int32).toNatClampNeg : Int64) = rw 2 from rfl]
                          have hPc := hP.sub (ws' := (ha_ws h0 aw ax ay cJ cI g_34 sc st 6)) [4, 5, 6, 7] rfl
                          have hDc := hD.sub (ws' := (ha_ws h0 aw ax ay cJ cI g_34 sc st 6)) [4, 5, 6, 7] (by decide) rfl
                          have hKc := hK.sub (tys' := [(cJ, .long), (cI, .int)]) [0, 1] rfl
                          have hFc := va_free (wc := (ha_ws h0 aw ax ay cJ cI g_34 sc st 6)) hD hS hA [4, 5, 6, 7] rfl
                          refine va_callv (va_runV (As := [.long (rw 2)]) (rest := []) ⟨hx, hb, hml, hown, hts⟩ (c_Ha_add l dC dI h0 H.size aw ax ay cJ cI g_34 sc st 6 (rw 2) (by decide)) (cwV 1 hts (gw_V gk_592 gk_507 gk_508 gk_2 gk_509) rfl rfl rfl (by decide +kernel) ⟨Nat.le_of_ble_eq_true rfl, Nat.le_of_ble_eq_true rfl⟩) ⟨fun a U g mk q => by obtain ⟨q0, q1, qP, qK, qD⟩ := q; exact ⟨q0, q1, qP, va_K.moved (u := U) (U := U.calling g mk a) (Vm.Alike.refl U.vm) qK, qD⟩, va_recv hK hP (ci := 2) (q0 := 4) rfl rfl, fun U hU hW => ⟨rfl, by rw [hU], by rw [hU]; exact hPc, va_K.moved hW.alike hKc, hDc.weaken (fun _ _ _ _ => trivial)⟩⟩ rfl rfl hl.1 rfl (lv_room (Nat.le_of_ble_eq_true rfl)) d_Bd_hashEntry_74 ⟨Nat.le_of_ble_eq_true rfl, Nat.le_of_ble_eq_true rfl⟩) hS (fun q _ h => hFc q h) hFc (fun u9 t9 H1 locs ht hvm hw hB hz1 hk1 hS => ?_)
                          obtain ⟨hP1, hK1, hD1⟩ := hB
                          rw [ht] at hP1
                          obtain ⟨hP, hD⟩ := va_join (wr := [(bd0, .inr (3, [.ref h0, .ref ro, .ref lo, .int (nI n)])), (ro, .inl (cR, 154, .inr (.inr (.inr (.inr rr))))), (lo, .inl (cR, 154, .inr (.inr (.inr (.inr lr))))), (rk, .inl (cJ, 8, .inr (.inl rw)))]) (w1 := [(h0, .inr (2, [.ref aw, .ref ax, .ref ay, .int (nI 7)])), (aw, .inl (cJ, 16, .inr (.inl (vp_updL g_34 6 (rw 2))))), (ax, .inl (cI, 64, .inl sc)), (ay, .inl (cI, 8, .inl st))]) hP hD [4, 5, 6, 7] [0, 1, 2, 3] rfl rfl (by decide) (by decide) hk1 hFc hP1 hD1
                          have hP := hP.sub (ws' := [(bd0, .inr (3, [.ref h0, .ref ro, .ref lo, .int (nI n)])), (ro, .inl (cR, 154, .inr (.inr (.inr (.inr rr))))), (lo, .inl (cR, 154, .inr (.inr (.inr (.inr lr))))), (rk, .inl (cJ, 8, .inr (.inl rw))), (h0, .inr (2, [.ref aw, .ref ax, .ref ay, .int (nI 7)])), (aw, .inl (cJ, 16, .inr (.inl (vp_updL g_34 6 (rw 2))))), (ax, .inl (cI, 64, .inl sc)), (ay, .inl (cI, 8, .inl st))]) [0, 1, 2, 3, 4, 5, 6, 7] rfl
                          have hD := hD.sub (ws' := [(bd0, .inr (3, [.ref h0, .ref ro, .ref lo, .int (nI n)])), (ro, .inl (cR, 154, .inr (.inr (.inr (.inr rr))))), (lo, .inl (cR, 154, .inr (.inr (.inr (.inr lr))))), (rk, .inl (cJ, 8, .inr (.inl rw))), (h0, .inr (2, [.ref aw, .ref ax, .ref ay, .int (nI 7)])), (aw, .inl (cJ, 16, .inr (.inl (vp_updL g_34 6 (rw 2))))), (ax, .inl (cI, 64, .inl sc)), (ay, .inl (cI, 8, .inl st))]) [0, 1, 2, 3, 4, 5, 6, 7] (by decide) rfl
                          generalize H1 = H at hP hS ⊢
                          obtain ⟨g_39, eg_39⟩ : ∃ f : Nat → Int64, f = vp_updL g_34 6 (rw 2) := ⟨_, rfl⟩
                          rw [← eg_39] at hP hD
                          have hm_40 : wok g_39 7 [0, 0, 0, 0, rw 0, rw 1, rw 2] := wok_add _ hm_35 eg_39
                          obtain ⟨i_41, ei_41⟩ : ∃ y : Int32, y = 2 + 1 := ⟨_, rfl⟩
                          refine lv_iinc (v := i_41) (lv' := [(3, .int i_41), (2, .int 5), (0, .ref bd0), (1, .int (nI k))]) hx hb d_Bd_hashEntry_77 hl (k := 0) rfl (by rw [ei_41]; rfl) (by decide) rfl (fun ls hl => ?_)
                          obtain rfl : i_41 = 3 := by rw [ei_41]; exact by decide
                          refine lv_goto (tgt := 57) hx hb d_Bd_hashEntry_80 (by decide) ?_
                          refine lv_iload_n hx hb d_Bd_hashEntry_57 rfl (lv_at hl 0 rfl) ?_
                          refine lv_iload_n hx hb d_Bd_hashEntry_58 rfl (lv_at hl 1 rfl) ?_
                          refine lv_icmp_ge (tgt := 83) hx hb d_Bd_hashEntry_59 (by decide) (fun c_42 => ?_) (fun c_42 => ?_)
                          · -- taken
                            exact absurd c_42 (by decide)
                          · -- not taken
                            refine lv_aload_n hx hb d_Bd_hashEntry_62 rfl (lv_at hl 2 rfl) ?_
                            refine va_get (D := (dC, dI)) (ci := 3) (v := .ref h0) (C := "BallotBoard$Board") (T := F_Bo) (N := 4) hx hb hts (fun w9 h9 => List.mem_cons_of_mem _ (i_Bo w9 h9)) hown hK hP 0 rfl rfl 0 (by decide) (hts _ (List.mem_cons_of_mem _ gk_60)) (fun _ h9 => h9) rfl d_Bd_hashEntry_63 ?_
                            refine lv_aload_n hx hb d_Bd_hashEntry_66 rfl (lv_at hl 2 rfl) ?_
                            refine va_get (D := (dC, dI)) (ci := 3) (v := .ref ro) (C := "BallotBoard$Board") (T := F_Bo) (N := 4) hx hb hts (fun w9 h9 => List.mem_cons_of_mem _ (i_Bo w9 h9)) hown hK hP 0 rfl rfl 1 (by decide) (hts _ (List.mem_cons_of_mem _ gk_61)) (fun _ h9 => h9) rfl d_Bd_hashEntry_67 ?_
                            refine lv_iload_n hx hb d_Bd_hashEntry_70 rfl (lv_at hl 3 rfl) ?_
                            refine va_aldA hx hb hK hP 1 2 rfl rfl (vp_in_nI (by omega) (by omega)) d_Bd_hashEntry_71 (b := rk) (by rw [nI_clamp (by omega)]; exact hrk) ?_
                            refine lv_iload_n hx hb d_Bd_hashEntry_72 rfl (lv_at hl 0 rfl) ?_
                            refine va_lald hx hb hK hP 3 0 rfl rfl (vp_lit rfl) d_Bd_hashEntry_73 ?_
                            rw [show (rw (3 : Int32).toNatClampNeg : Int64) = rw 3 from rfl]
                            have hPc := hP.sub (ws' := (ha_ws h0 aw ax ay cJ cI g_39 sc st 7)) [4, 5, 6, 7] rfl
                            have hDc := hD.sub (ws' := (ha_ws h0 aw ax ay cJ cI g_39 sc st 7)) [4, 5, 6, 7] (by decide) rfl
                            have hKc := hK.sub (tys' := [(cJ, .long), (cI, .int)]) [0, 1] rfl
                            have hFc := va_free (wc := (ha_ws h0 aw ax ay cJ cI g_39 sc st 7)) hD hS hA [4, 5, 6, 7] rfl
                            refine va_callv (va_runV (As := [.long (rw 3)]) (rest := []) ⟨hx, hb, hml, hown, hts⟩ (c_Ha_add l dC dI h0 H.size aw ax ay cJ cI g_39 sc st 7 (rw 3) (by decide)) (cwV 1 hts (gw_V gk_592 gk_507 gk_508 gk_2 gk_509) rfl rfl rfl (by decide +kernel) ⟨Nat.le_of_ble_eq_true rfl, Nat.le_of_ble_eq_true rfl⟩) ⟨fun a U g mk q => by obtain ⟨q0, q1, qP, qK, qD⟩ := q; exact ⟨q0, q1, qP, va_K.moved (u := U) (U := U.calling g mk a) (Vm.Alike.refl U.vm) qK, qD⟩, va_recv hK hP (ci := 2) (q0 := 4) rfl rfl, fun U hU hW => ⟨rfl, by rw [hU], by rw [hU]; exact hPc, va_K.moved hW.alike hKc, hDc.weaken (fun _ _ _ _ => trivial)⟩⟩ rfl rfl hl.1 rfl (lv_room (Nat.le_of_ble_eq_true rfl)) d_Bd_hashEntry_74 ⟨Nat.le_of_ble_eq_true rfl, Nat.le_of_ble_eq_true rfl⟩) hS (fun q _ h => hFc q h) hFc (fun u9 t9 H1 locs ht hvm hw hB hz1 hk1 hS => ?_)
                            obtain ⟨hP1, hK1, hD1⟩ := hB
                            rw [ht] at hP1
                            obtain ⟨hP, hD⟩ := va_join (wr := [(bd0, .inr (3, [.ref h0, .ref ro, .ref lo, .int (nI n)])), (ro, .inl (cR, 154, .inr (.inr (.inr (.inr rr))))), (lo, .inl (cR, 154, .inr (.inr (.inr (.inr lr))))), (rk, .inl (cJ, 8, .inr (.inl rw)))]) (w1 := [(h0, .inr (2, [.ref aw, .ref ax, .ref ay, .int (nI 8)])), (aw, .inl (cJ, 16, .inr (.inl (vp_updL g_39 7 (rw 3))))), (ax, .inl (cI, 64, .inl sc)), (ay, .inl (cI, 8, .inl st))]) hP hD [4, 5, 6, 7] [0, 1, 2, 3] rfl rfl (by decide) (by decide) hk1 hFc hP1 hD1
                            have hP := hP.sub (ws' := [(bd0, .inr (3, [.ref h0, .ref ro, .ref lo, .int (nI n)])), (ro, .inl (cR, 154, .inr (.inr (.inr (.inr rr))))), (lo, .inl (cR, 154, .inr (.inr (.inr (.inr lr))))), (rk, .inl (cJ, 8, .inr (.inl rw))), (h0, .inr (2, [.ref aw, .ref ax, .ref ay, .int (nI 8)])), (aw, .inl (cJ, 16, .inr (.inl (vp_updL g_39 7 (rw 3))))), (ax, .inl (cI, 64, .inl sc)), (ay, .inl (cI, 8, .inl st))]) [0, 1, 2, 3, 4, 5, 6, 7] rfl
                            have hD := hD.sub (ws' := [(bd0, .inr (3, [.ref h0, .ref ro, .ref lo, .int (nI n)])), (ro, .inl (cR, 154, .inr (.inr (.inr (.inr rr))))), (lo, .inl (cR, 154, .inr (.inr (.inr (.inr lr))))), (rk, .inl (cJ, 8, .inr (.inl rw))), (h0, .inr (2, [.ref aw, .ref ax, .ref ay, .int (nI 8)])), (aw, .inl (cJ, 16, .inr (.inl (vp_updL g_39 7 (rw 3))))), (ax, .inl (cI, 64, .inl sc)), (ay, .inl (cI, 8, .inl st))]) [0, 1, 2, 3, 4, 5, 6, 7] (by decide) rfl
                            generalize H1 = H at hP hS ⊢
                            obtain ⟨g_44, eg_44⟩ : ∃ f : Nat → Int64, f = vp_updL g_39 7 (rw 3) := ⟨_, rfl⟩
                            rw [← eg_44] at hP hD
                            have hm_45 : wok g_44 8 [0, 0, 0, 0, rw 0, rw 1, rw 2, rw 3] := wok_add _ hm_40 eg_44
                            obtain ⟨i_46, ei_46⟩ : ∃ y : Int32, y = 3 + 1 := ⟨_, rfl⟩
                            refine lv_iinc (v := i_46) (lv' := [(3, .int i_46), (2, .int 5), (0, .ref bd0), (1, .int (nI k))]) hx hb d_Bd_hashEntry_77 hl (k := 0) rfl (by rw [ei_46]; rfl) (by decide) rfl (fun ls hl => ?_)
                            obtain rfl : i_46 = 4 := by rw [ei_46]; exact by decide
                            refine lv_goto (tgt := 57) hx hb d_Bd_hashEntry_80 (by decide) ?_
                            refine lv_iload_n hx hb d_Bd_hashEntry_57 rfl (lv_at hl 0 rfl) ?_
                            refine lv_iload_n hx hb d_Bd_hashEntry_58 rfl (lv_at hl 1 rfl) ?_
                            refine lv_icmp_ge (tgt := 83) hx hb d_Bd_hashEntry_59 (by decide) (fun c_47 => ?_) (fun c_47 => ?_)
                            · -- taken
                              exact absurd c_47 (by decide)
                            · -- not taken
                              refine lv_aload_n hx hb d_Bd_hashEntry_62 rfl (lv_at hl 2 rfl) ?_
                              refine va_get (D := (dC, dI)) (ci := 3) (v := .ref h0) (C := "BallotBoard$Board") (T := F_Bo) (N := 4) hx hb hts (fun w9 h9 => List.mem_cons_of_mem _ (i_Bo w9 h9)) hown hK hP 0 rfl rfl 0 (by decide) (hts _ (List.mem_cons_of_mem _ gk_60)) (fun _ h9 => h9) rfl d_Bd_hashEntry_63 ?_
                              refine lv_aload_n hx hb d_Bd_hashEntry_66 rfl (lv_at hl 2 rfl) ?_
                              refine va_get (D := (dC, dI)) (ci := 3) (v := .ref ro) (C := "BallotBoard$Board") (T := F_Bo) (N := 4) hx hb hts (fun w9 h9 => List.mem_cons_of_mem _ (i_Bo w9 h9)) hown hK hP 0 rfl rfl 1 (by decide) (hts _ (List.mem_cons_of_mem _ gk_61)) (fun _ h9 => h9) rfl d_Bd_hashEntry_67 ?_
                              refine lv_iload_n hx hb d_Bd_hashEntry_70 rfl (lv_at hl 3 rfl) ?_
                              refine va_aldA hx hb hK hP 1 2 rfl rfl (vp_in_nI (by omega) (by omega)) d_Bd_hashEntry_71 (b := rk) (by rw [nI_clamp (by omega)]; exact hrk) ?_
                              refine lv_iload_n hx hb d_Bd_hashEntry_72 rfl (lv_at hl 0 rfl) ?_
                              refine va_lald hx hb hK hP 3 0 rfl rfl (vp_lit rfl) d_Bd_hashEntry_73 ?_
                              rw [show (rw (4 : Int32).toNatClampNeg : Int64) = rw 4 from rfl]
                              have hPc := hP.sub (ws' := (ha_ws h0 aw ax ay cJ cI g_44 sc st 8)) [4, 5, 6, 7] rfl
                              have hDc := hD.sub (ws' := (ha_ws h0 aw ax ay cJ cI g_44 sc st 8)) [4, 5, 6, 7] (by decide) rfl
                              have hKc := hK.sub (tys' := [(cJ, .long), (cI, .int)]) [0, 1] rfl
                              have hFc := va_free (wc := (ha_ws h0 aw ax ay cJ cI g_44 sc st 8)) hD hS hA [4, 5, 6, 7] rfl
                              refine va_callv (va_runV (As := [.long (rw 4)]) (rest := []) ⟨hx, hb, hml, hown, hts⟩ (c_Ha_add l dC dI h0 H.size aw ax ay cJ cI g_44 sc st 8 (rw 4) (by decide)) (cwV 1 hts (gw_V gk_592 gk_507 gk_508 gk_2 gk_509) rfl rfl rfl (by decide +kernel) ⟨Nat.le_of_ble_eq_true rfl, Nat.le_of_ble_eq_true rfl⟩) ⟨fun a U g mk q => by obtain ⟨q0, q1, qP, qK, qD⟩ := q; exact ⟨q0, q1, qP, va_K.moved (u := U) (U := U.calling g mk a) (Vm.Alike.refl U.vm) qK, qD⟩, va_recv hK hP (ci := 2) (q0 := 4) rfl rfl, fun U hU hW => ⟨rfl, by rw [hU], by rw [hU]; exact hPc, va_K.moved hW.alike hKc, hDc.weaken (fun _ _ _ _ => trivial)⟩⟩ rfl rfl hl.1 rfl (lv_room (Nat.le_of_ble_eq_true rfl)) d_Bd_hashEntry_74 ⟨Nat.le_of_ble_eq_true rfl, Nat.le_of_ble_eq_true rfl⟩) hS (fun q _ h => hFc q h) hFc (fun u9 t9 H1 locs ht hvm hw hB hz1 hk1 hS => ?_)
                              obtain ⟨hP1, hK1, hD1⟩ := hB
                              rw [ht] at hP1
                              obtain ⟨hP, hD⟩ := va_join (wr := [(bd0, .inr (3, [.ref h0, .ref ro, .ref lo, .int (nI n)])), (ro, .inl (cR, 154, .inr (.inr (.inr (.inr rr))))), (lo, .inl (cR, 154, .inr (.inr (.inr (.inr lr))))), (rk, .inl (cJ, 8, .inr (.inl rw)))]) (w1 := [(h0, .inr (2, [.ref aw, .ref ax, .ref ay, .int (nI 9)])), (aw, .inl (cJ, 16, .inr (.inl (vp_updL g_44 8 (rw 4))))), (ax, .inl (cI, 64, .inl sc)), (ay, .inl (cI, 8, .inl st))]) hP hD [4, 5, 6, 7] [0, 1, 2, 3] rfl rfl (by decide) (by decide) hk1 hFc hP1 hD1
                              have hP := hP.sub (ws' := [(bd0, .inr (3, [.ref h0, .ref ro, .ref lo, .int (nI n)])), (ro, .inl (cR, 154, .inr (.inr (.inr (.inr rr))))), (lo, .inl (cR, 154, .inr (.inr (.inr (.inr lr))))), (rk, .inl (cJ, 8, .inr (.inl rw))), (h0, .inr (2, [.ref aw, .ref ax, .ref ay, .int (nI 9)])), (aw, .inl (cJ, 16, .inr (.inl (vp_updL g_44 8 (rw 4))))), (ax, .inl (cI, 64, .inl sc)), (ay, .inl (cI, 8, .inl st))]) [0, 1, 2, 3, 4, 5, 6, 7] rfl
                              have hD := hD.sub (ws' := [(bd0, .inr (3, [.ref h0, .ref ro, .ref lo, .int (nI n)])), (ro, .inl (cR, 154, .inr (.inr (.inr (.inr rr))))), (lo, .inl (cR, 154, .inr (.inr (.inr (.inr lr))))), (rk, .inl (cJ, 8, .inr (.inl rw))), (h0, .inr (2, [.ref aw, .ref ax, .ref ay, .int (nI 9)])), (aw, .inl (cJ, 16, .inr (.inl (vp_updL g_44 8 (rw 4))))), (ax, .inl (cI, 64, .inl sc)), (ay, .inl (cI, 8, .inl st))]) [0, 1, 2, 3, 4, 5, 6, 7] (by decide) rfl
                              generalize H1 = H at hP hS ⊢
                              obtain ⟨g_49, eg_49⟩ : ∃ f : Nat → Int64, f = vp_updL g_44 8 (rw 4) := ⟨_, rfl⟩
                              rw [← eg_49] at hP hD
                              have hm_50 : wok g_49 9 [0, 0, 0, 0, rw 0, rw 1, rw 2, rw 3, rw 4] := wok_add _ hm_45 eg_49
                              obtain ⟨i_51, ei_51⟩ : ∃ y : Int32, y = 4 + 1 := ⟨_, rfl⟩
                              refine lv_iinc (v := i_51) (lv' := [(3, .int i_51), (2, .int 5), (0, .ref bd0), (1, .int (nI k))]) hx hb d_Bd_hashEntry_77 hl (k := 0) rfl (by rw [ei_51]; rfl) (by decide) rfl (fun ls hl => ?_)
                              obtain rfl : i_51 = 5 := by rw [ei_51]; exact by decide
                              refine lv_goto (tgt := 57) hx hb d_Bd_hashEntry_80 (by decide) ?_
                              refine lv_iload_n hx hb d_Bd_hashEntry_57 rfl (lv_at hl 0 rfl) ?_
                              refine lv_iload_n hx hb d_Bd_hashEntry_58 rfl (lv_at hl 1 rfl) ?_
                              refine lv_icmp_ge (tgt := 83) hx hb d_Bd_hashEntry_59 (by decide) (fun c_52 => ?_) (fun c_52 => ?_)
                              · -- taken
                                refine lv_aload_n hx hb d_Bd_hashEntry_83 rfl (lv_at hl 2 rfl) ?_
                                refine va_get (D := (dC, dI)) (ci := 3) (v := .ref h0) (C := "BallotBoard$Board") (T := F_Bo) (N := 4) hx hb hts (fun w9 h9 => List.mem_cons_of_mem _ (i_Bo w9 h9)) hown hK hP 0 rfl rfl 0 (by decide) (hts _ (List.mem_cons_of_mem _ gk_60)) (fun _ h9 => h9) rfl d_Bd_hashEntry_84 ?_
                                have hPc := hP.sub (ws' := (ha_ws h0 aw ax ay cJ cI g_49 sc st 9)) [4, 5, 6, 7] rfl
                                have hDc := hD.sub (ws' := (ha_ws h0 aw ax ay cJ cI g_49 sc st 9)) [4, 5, 6, 7] (by decide) rfl
                                have hKc := hK.sub (tys' := [(cJ, .long), (cI, .int)]) [0, 1] rfl
                                have hFc := va_free (wc := (ha_ws h0 aw ax ay cJ cI g_49 sc st 9)) hD hS hA [4, 5, 6, 7] rfl
                                have hZc0 : ha_Z rA sA (va_A (ha_ws h0 aw ax ay cJ cI g_49 sc st 9) H.size) s H := (hZha.kept hS.2.1).narrow hFc
                                refine va_callv (va_runV (As := []) (rest := []) ⟨hx, hb, hml, hown, hts⟩ (c_Ha_finish l dC dI h0 H.size aw ax ay cJ cI g_49 sc st 9 rA sA (by decide)) (cwV 0 hts (gw_V gk_597 gk_516 gk_517 gk_2 gk_518) rfl rfl rfl (by decide +kernel) ⟨Nat.le_of_ble_eq_true rfl, Nat.le_of_ble_eq_true rfl⟩) ⟨fun a U g mk q => by obtain ⟨q0, q1, qP, qK, qD, qZ0⟩ := q; exact ⟨q0, q1, qP, va_K.moved (u := U) (U := U.calling g mk a) (Vm.Alike.refl U.vm) qK, qD, ha_Z.moved (u := U) (U := U.calling g mk a) (Vm.Alike.refl U.vm) qZ0⟩, va_recv hK hP (ci := 2) (q0 := 4) rfl rfl, fun U hU hW => ⟨rfl, by rw [hU], by rw [hU]; exact hPc, va_K.moved hW.alike hKc, hDc.weaken (fun _ _ _ _ => trivial), by rw [hU]; exact ha_Z.moved hW.alike hZc0⟩⟩ rfl rfl hl.1 rfl (lv_room (Nat.le_of_ble_eq_true rfl)) d_Bd_hashEntry_87 ⟨Nat.le_of_ble_eq_true rfl, Nat.le_of_ble_eq_true rfl⟩) hS (fun q _ h => hFc q h) hFc (fun u9 t9 H1 locs ht hvm hw hB hz1 hk1 hS => ?_)
                                obtain ⟨hP1, hK1, hD1⟩ := hB
                                rw [ht] at hP1
                                obtain ⟨hP, hD⟩ := va_join (wr := [(bd0, .inr (3, [.ref h0, .ref ro, .ref lo, .int (nI n)])), (ro, .inl (cR, 154, .inr (.inr (.inr (.inr rr))))), (lo, .inl (cR, 154, .inr (.inr (.inr (.inr lr))))), (rk, .inl (cJ, 8, .inr (.inl rw)))]) (w1 := [(h0, .inr (2, [.ref aw, .ref ax, .ref ay, .int (nI 9)])), (aw, .inl (cJ, 16, .inr (.inl (pw g_49 9)))), (ax, .inl (cI, 64, .inl ((hbk (pw g_49 9) sc (va_cpy kS st 0 0 8) (pdl 9 / 8)).1))), (ay, .inl (cI, 8, .inl ((hbk (pw g_49 9) sc (va_cpy kS st 0 0 8) (pdl 9 / 8)).2)))]) hP hD [4, 5, 6, 7] [0, 1, 2, 3] rfl rfl (by decide) (by decide) hk1 hFc hP1 hD1
                                have hP := hP.sub (ws' := [(bd0, .inr (3, [.ref h0, .ref ro, .ref lo, .int (nI n)])), (ro, .inl (cR, 154, .inr (.inr (.inr (.inr rr))))), (lo, .inl (cR, 154, .inr (.inr (.inr (.inr lr))))), (rk, .inl (cJ, 8, .inr (.inl rw))), (h0, .inr (2, [.ref aw, .ref ax, .ref ay, .int (nI 9)])), (aw, .inl (cJ, 16, .inr (.inl (pw g_49 9)))), (ax, .inl (cI, 64, .inl ((hbk (pw g_49 9) sc (va_cpy kS st 0 0 8) (pdl 9 / 8)).1))), (ay, .inl (cI, 8, .inl ((hbk (pw g_49 9) sc (va_cpy kS st 0 0 8) (pdl 9 / 8)).2)))]) [0, 1, 2, 3, 4, 5, 6, 7] rfl
                                have hD := hD.sub (ws' := [(bd0, .inr (3, [.ref h0, .ref ro, .ref lo, .int (nI n)])), (ro, .inl (cR, 154, .inr (.inr (.inr (.inr rr))))), (lo, .inl (cR, 154, .inr (.inr (.inr (.inr lr))))), (rk, .inl (cJ, 8, .inr (.inl rw))), (h0, .inr (2, [.ref aw, .ref ax, .ref ay, .int (nI 9)])), (aw, .inl (cJ, 16, .inr (.inl (pw g_49 9)))), (ax, .inl (cI, 64, .inl ((hbk (pw g_49 9) sc (va_cpy kS st 0 0 8) (pdl 9 / 8)).1))), (ay, .inl (cI, 8, .inl ((hbk (pw g_49 9) sc (va_cpy kS st 0 0 8) (pdl 9 / 8)).2)))]) [0, 1, 2, 3, 4, 5, 6, 7] (by decide) rfl
                                generalize H1 = H at hP hS ⊢
                                obtain ⟨g_54, eg_54⟩ : ∃ f : Nat → Int32, f = (hbk (pw g_49 9) sc (va_cpy kS st 0 0 8) (pdl 9 / 8)).1 := ⟨_, rfl⟩
                                rw [← eg_54] at hP hD
                                obtain ⟨g_55, eg_55⟩ : ∃ f : Nat → Int32, f = (hbk (pw g_49 9) sc (va_cpy kS st 0 0 8) (pdl 9 / 8)).2 := ⟨_, rfl⟩
                                rw [← eg_55] at hP hD
                                obtain ⟨g_56, eg_56⟩ : ∃ f : Nat → Int64, f = pw g_49 9 := ⟨_, rfl⟩
                                rw [← eg_56] at hP hD
                                have hn_57 := hN_of hm_50 (by decide) eg_55
                                exact W.vret hx hb hr (fun t ht9 hW => ⟨⟨(g_56, g_54, g_55, 9), rfl, (dg_of hm_50 (by decide) eg_55), by rw [ht9]; exact hP, va_K.moved hW.alike hK, hD⟩, hS.F ht9⟩) hS.2.2 d_Bd_hashEntry_90
                              · -- not taken
                                exact absurd c_52 (by decide)
                  · -- not taken
                    exact absurd c_26 (by decide)
set_option maxHeartbeats 8000000 in
set_option maxRecDepth 100000 in
theorem c_Bd_hashEntry_5 (l : Launch) (dC : Nat → ClassId) (dI : Nat → Nat → Nat) (cJ cI cR : ClassId) (sz : Nat) (bd0 h0 ro lo n : Nat) (rr lr : Nat → Option Nat) (aw ax ay : Nat) (w : Nat → Int64) (sc st : Nat → Int32) (L : Nat) (rA sA : Nat) (k rk : Nat) (rw : Nat → Int64) (K : Nat) (lp : Nat) (lw : Nat → Int64) (hk : k < 154) (hrk : rr k = some rk) (hr0 : rw 0 = lN K) (hK4 : K < 4) (hK2 : ¬ K = 2) (hk0 : 0 < k) (hlp : lr (k - 1) = some lp) : Met l y_Bd_hashEntry w_Bd_hashEntry ({ frames := 3, cells := 0, slots := 0, locals := 82 }) (va_Pc [.ref bd0, .int (nI k)] (fun U => U.heap.size = sz ∧ va_P (dC, dI) classes (bd_ws bd0 h0 ro lo n cR rr lr ++ (rw_ws rk cJ rw ++ (lk_ws lp cJ lw ++ (ha_ws h0 aw ax ay cJ cI w sc st L)))) U.heap ∧ va_K (dC, dI) classes [(cJ, .long), (cI, .int), (cR, .array .long)] U ∧ va_D (fun _ => True) (bd_ws bd0 h0 ro lo n cR rr lr ++ (rw_ws rk cJ rw ++ (lk_ws lp cJ lw ++ (ha_ws h0 aw ax ay cJ cI w sc st L)))) ∧ ha_Z rA sA (va_A (bd_ws bd0 h0 ro lo n cR rr lr ++ (rw_ws rk cJ rw ++ (lk_ws lp cJ lw ++ (ha_ws h0 aw ax ay cJ cI w sc st L)))) sz) U U.heap)) (va_Qv (fun u9 : HU => dgo u9.2.2.1 [lw 0, lw 1, lw 2, lw 3, rw 0, rw 1, rw 2, rw 3, rw 4]) (fun u9 t => va_P (dC, dI) classes (bd_ws bd0 h0 ro lo n cR rr lr ++ (rw_ws rk cJ rw ++ (lk_ws lp cJ lw ++ (hu_ws h0 aw ax ay cJ cI u9)))) t.heap ∧ va_K (dC, dI) classes [(cJ, .long), (cI, .int), (cR, .array .long)] t ∧ va_D (va_A (bd_ws bd0 h0 ro lo n cR rr lr ++ (rw_ws rk cJ rw ++ (lk_ws lp cJ lw ++ (ha_ws h0 aw ax ay cJ cI w sc st L)))) sz) (bd_ws bd0 h0 ro lo n cR rr lr ++ (rw_ws rk cJ rw ++ (lk_ws lp cJ lw ++ (hu_ws h0 aw ax ay cJ cI u9))))) (va_A (bd_ws bd0 h0 ro lo n cR rr lr ++ (rw_ws rk cJ rw ++ (lk_ws lp cJ lw ++ (ha_ws h0 aw ax ay cJ cI w sc st L)))) sz)) 0 0 (va_A (bd_ws bd0 h0 ro lo n cR rr lr ++ (rw_ws rk cJ rw ++ (lk_ws lp cJ lw ++ (ha_ws h0 aw ax ay cJ cI w sc st L)))) sz) := by
  refine Met.ofW (cc := b_Bd_hashEntry) (maxL := 4) (ret := none) (by decide) rfl ?_
  intro p e s m args below meth c s₁ Bd hml hv
  obtain ⟨rfl, hsz, hP, hK, hD0, hZha⟩ := hv
  have hx := Bd.exec
  have hb := Bd.bytes
  have hr := Bd.returns
  have hts := atoms_spec (ws := w_Bd_hashEntry) Bd.pre
  have hown : s.vm.findClass "BallotBoard$Board" = some m.cls := findClass_of_methodNamed Bd.named
  have hlocks := Bd.notSynchronized
  subst hsz
  have hD := hD0.self (sz := s.heap.size)
  generalize hAe : va_A (bd_ws bd0 h0 ro lo n cR rr lr ++ (rw_ws rk cJ rw ++ (lk_ws lp cJ lw ++ (ha_ws h0 aw ax ay cJ cI w sc st L)))) s.heap.size = A at hD hZha ⊢
  have hA : ∀ q : Nat, s.heap.size ≤ q → A q := fun q h => by rw [← hAe]; exact Or.inr h
  have hS : va_S A s.heap s.heap [] := va_S.rf
  have hl := lv_entry ([.ref bd0, .int (nI k)]) (n := 4) (Nat.le_of_ble_eq_true rfl)
  rw [lg_entry_eq]
  generalize (lg_sl ([.ref bd0, .int (nI k)]) ++ List.replicate (4 - (lg_sl ([.ref bd0, .int (nI k)])).length) Slot.unset).toArray = ls at hl ⊢
  have hl : lv_has ls 4 [(0, .ref bd0), (1, .int (nI k))] := hl
  refine lv_aload_n hx hb d_Bd_hashEntry_0 rfl (lv_at hl 0 rfl) ?_
  refine va_get (D := (dC, dI)) (ci := 3) (v := .ref h0) (C := "BallotBoard$Board") (T := F_Bo) (N := 4) hx hb hts (fun w9 h9 => List.mem_cons_of_mem _ (i_Bo w9 h9)) hown hK hP 0 rfl rfl 0 (by decide) (hts _ (List.mem_cons_of_mem _ gk_60)) (fun _ h9 => h9) rfl d_Bd_hashEntry_1 ?_
  have hPc := hP.sub (ws' := (ha_ws h0 aw ax ay cJ cI w sc st L)) [5, 6, 7, 8] rfl
  have hDc := hD.sub (ws' := (ha_ws h0 aw ax ay cJ cI w sc st L)) [5, 6, 7, 8] (by decide) rfl
  have hKc := hK.sub (tys' := [(cJ, .long), (cI, .int)]) [0, 1] rfl
  have hFc := va_free (wc := (ha_ws h0 aw ax ay cJ cI w sc st L)) hD hS hA [5, 6, 7, 8] rfl
  refine va_callv (va_runV (As := []) (rest := []) ⟨hx, hb, hml, hown, hts⟩ (c_Ha_start l dC dI h0 s.heap.size aw ax ay cJ cI w sc st L) (cwV 0 hts (gw_V gk_591 gk_499 gk_500 gk_2 gk_501) rfl rfl rfl (by decide +kernel) ⟨Nat.le_of_ble_eq_true rfl, Nat.le_of_ble_eq_true rfl⟩) ⟨fun a U g mk q => by obtain ⟨q0, q1, qP, qK, qD⟩ := q; exact ⟨q0, q1, qP, va_K.moved (u := U) (U := U.calling g mk a) (Vm.Alike.refl U.vm) qK, qD⟩, va_recv hK hP (ci := 2) (q0 := 5) rfl rfl, fun U hU hW => ⟨rfl, by rw [hU], by rw [hU]; exact hPc, va_K.moved hW.alike hKc, hDc.weaken (fun _ _ _ _ => trivial)⟩⟩ rfl rfl hl.1 rfl (lv_room (Nat.le_of_ble_eq_true rfl)) d_Bd_hashEntry_4 ⟨Nat.le_of_ble_eq_true rfl, Nat.le_of_ble_eq_true rfl⟩) hS (fun q _ h => hFc q h) hFc (fun u9 t9 H1 locs ht hvm hw hB hz1 hk1 hS => ?_)
  obtain ⟨hP1, hK1, hD1⟩ := hB
  rw [ht] at hP1
  obtain ⟨hP, hD⟩ := va_join (wr := [(bd0, .inr (3, [.ref h0, .ref ro, .ref lo, .int (nI n)])), (ro, .inl (cR, 154, .inr (.inr (.inr (.inr rr))))), (lo, .inl (cR, 154, .inr (.inr (.inr (.inr lr))))), (rk, .inl (cJ, 8, .inr (.inl rw))), (lp, .inl (cJ, 4, .inr (.inl lw)))]) (w1 := [(h0, .inr (2, [.ref aw, .ref ax, .ref ay, .int (nI 0)])), (aw, .inl (cJ, 16, .inr (.inl w))), (ax, .inl (cI, 64, .inl sc)), (ay, .inl (cI, 8, .inl st))]) hP hD [5, 6, 7, 8] [0, 1, 2, 3, 4] rfl rfl (by decide) (by decide) hk1 hFc hP1 hD1
  have hP := hP.sub (ws' := [(bd0, .inr (3, [.ref h0, .ref ro, .ref lo, .int (nI n)])), (ro, .inl (cR, 154, .inr (.inr (.inr (.inr rr))))), (lo, .inl (cR, 154, .inr (.inr (.inr (.inr lr))))), (rk, .inl (cJ, 8, .inr (.inl rw))), (lp, .inl (cJ, 4, .inr (.inl lw))), (h0, .inr (2, [.ref aw, .ref ax, .ref ay, .int (nI 0)])), (aw, .inl (cJ, 16, .inr (.inl w))), (ax, .inl (cI, 64, .inl sc)), (ay, .inl (cI, 8, .inl st))]) [0, 1, 2, 3, 4, 5, 6, 7, 8] rfl
  have hD := hD.sub (ws' := [(bd0, .inr (3, [.ref h0, .ref ro, .ref lo, .int (nI n)])), (ro, .inl (cR, 154, .inr (.inr (.inr (.inr rr))))), (lo, .inl (cR, 154, .inr (.inr (.inr (.inr lr))))), (rk, .inl (cJ, 8, .inr (.inl rw))), (lp, .inl (cJ, 4, .inr (.inl lw))), (h0, .inr (2, [.ref aw, .ref ax, .ref ay, .int (nI 0)])), (aw, .inl (cJ, 16, .inr (.inl w))), (ax, .inl (cI, 64, .inl sc)), (ay, .inl (cI, 8, .inl st))]) [0, 1, 2, 3, 4, 5, 6, 7, 8] (by decide) rfl
  generalize H1 = H at hP hS ⊢
  have hm0 := wok_0 w
  refine lv_iconst (v := 0) hx hb d_Bd_hashEntry_7 (by decide) ?_
  refine lv_istore_n (lv' := [(2, .int 0), (0, .ref bd0), (1, .int (nI k))]) hx hb d_Bd_hashEntry_8 rfl hl (by decide) rfl (fun ls hl => ?_)
  refine lv_iload_n hx hb d_Bd_hashEntry_9 rfl (lv_at hl 0 rfl) ?_
  refine lv_iconst (v := 4) hx hb d_Bd_hashEntry_10 (by decide) ?_
  refine lv_icmp_ge (tgt := 45) hx hb d_Bd_hashEntry_11 (by decide) (fun c_2 => ?_) (fun c_2 => ?_)
  · -- taken
    exact absurd c_2 (by decide)
  · -- not taken
    refine lv_aload_n hx hb d_Bd_hashEntry_14 rfl (lv_at hl 1 rfl) ?_
    refine va_get (D := (dC, dI)) (ci := 3) (v := .ref h0) (C := "BallotBoard$Board") (T := F_Bo) (N := 4) hx hb hts (fun w9 h9 => List.mem_cons_of_mem _ (i_Bo w9 h9)) hown hK hP 0 rfl rfl 0 (by decide) (hts _ (List.mem_cons_of_mem _ gk_60)) (fun _ h9 => h9) rfl d_Bd_hashEntry_15 ?_
    refine lv_iload_n hx hb d_Bd_hashEntry_18 rfl (lv_at hl 2 rfl) ?_
    refine lv_if_ne (tgt := 26) hx hb d_Bd_hashEntry_19 (by decide) (fun c_3 => ?_) (fun c_3 => ?_)
    · -- taken
      refine lv_aload_n hx hb d_Bd_hashEntry_26 rfl (lv_at hl 1 rfl) ?_
      refine va_get (D := (dC, dI)) (ci := 3) (v := .ref lo) (C := "BallotBoard$Board") (T := F_Bo) (N := 4) hx hb hts (fun w9 h9 => List.mem_cons_of_mem _ (i_Bo w9 h9)) hown hK hP 0 rfl rfl 2 (by decide) (hts _ (List.mem_cons_of_mem _ gk_62)) (fun _ h9 => h9) rfl d_Bd_hashEntry_27 ?_
      refine lv_iload_n hx hb d_Bd_hashEntry_30 rfl (lv_at hl 2 rfl) ?_
      refine lv_iconst (v := 1) hx hb d_Bd_hashEntry_31 (by decide) ?_
      refine lv_isub hx hb d_Bd_hashEntry_32 ?_
      rw [show ((nI k) - 1 : Int32) = (nI (k - 1)) from nI_subI (b := 1) (by omega) rfl]
      refine va_aldA hx hb hK hP 2 2 rfl rfl (vp_in_nI (by omega) (by omega)) d_Bd_hashEntry_33 (b := lp) (by rw [nI_clamp (by omega)]; exact hlp) ?_
      refine lv_iload_n hx hb d_Bd_hashEntry_34 rfl (lv_at hl 0 rfl) ?_
      refine va_lald hx hb hK hP 4 0 rfl rfl (vp_lit rfl) d_Bd_hashEntry_35 ?_
      rw [show (lw (0 : Int32).toNatClampNeg : Int64) = lw 0 from rfl]
      have hPc := hP.sub (ws' := (ha_ws h0 aw ax ay cJ cI w sc st 0)) [5, 6, 7, 8] rfl
      have hDc := hD.sub (ws' := (ha_ws h0 aw ax ay cJ cI w sc st 0)) [5, 6, 7, 8] (by decide) rfl
      have hKc := hK.sub (tys' := [(cJ, .long), (cI, .int)]) [0, 1] rfl
      have hFc := va_free (wc := (ha_ws h0 aw ax ay cJ cI w sc st 0)) hD hS hA [5, 6, 7, 8] rfl
      refine va_callv (va_runV (As := [.long (lw 0)]) (rest := []) ⟨hx, hb, hml, hown, hts⟩ (c_Ha_add l dC dI h0 H.size aw ax ay cJ cI w sc st 0 (lw 0) (by decide)) (cwV 1 hts (gw_V gk_592 gk_507 gk_508 gk_2 gk_509) rfl rfl rfl (by decide +kernel) ⟨Nat.le_of_ble_eq_true rfl, Nat.le_of_ble_eq_true rfl⟩) ⟨fun a U g mk q => by obtain ⟨q0, q1, qP, qK, qD⟩ := q; exact ⟨q0, q1, qP, va_K.moved (u := U) (U := U.calling g mk a) (Vm.Alike.refl U.vm) qK, qD⟩, va_recv hK hP (ci := 2) (q0 := 5) rfl rfl, fun U hU hW => ⟨rfl, by rw [hU], by rw [hU]; exact hPc, va_K.moved hW.alike hKc, hDc.weaken (fun _ _ _ _ => trivial)⟩⟩ rfl rfl hl.1 rfl (lv_room (Nat.le_of_ble_eq_true rfl)) d_Bd_hashEntry_36 ⟨Nat.le_of_ble_eq_true rfl, Nat.le_of_ble_eq_true rfl⟩) hS (fun q _ h => hFc q h) hFc (fun u9 t9 H1 locs ht hvm hw hB hz1 hk1 hS => ?_)
      obtain ⟨hP1, hK1, hD1⟩ := hB
      rw [ht] at hP1
      obtain ⟨hP, hD⟩ := va_join (wr := [(bd0, .inr (3, [.ref h0, .ref ro, .ref lo, .int (nI n)])), (ro, .inl (cR, 154, .inr (.inr (.inr (.inr rr))))), (lo, .inl (cR, 154, .inr (.inr (.inr (.inr lr))))), (rk, .inl (cJ, 8, .inr (.inl rw))), (lp, .inl (cJ, 4, .inr (.inl lw)))]) (w1 := [(h0, .inr (2, [.ref aw, .ref ax, .ref ay, .int (nI 1)])), (aw, .inl (cJ, 16, .inr (.inl (vp_updL w 0 (lw 0))))), (ax, .inl (cI, 64, .inl sc)), (ay, .inl (cI, 8, .inl st))]) hP hD [5, 6, 7, 8] [0, 1, 2, 3, 4] rfl rfl (by decide) (by decide) hk1 hFc hP1 hD1
      have hP := hP.sub (ws' := [(bd0, .inr (3, [.ref h0, .ref ro, .ref lo, .int (nI n)])), (ro, .inl (cR, 154, .inr (.inr (.inr (.inr rr))))), (lo, .inl (cR, 154, .inr (.inr (.inr (.inr lr))))), (rk, .inl (cJ, 8, .inr (.inl rw))), (lp, .inl (cJ, 4, .inr (.inl lw))), (h0, .inr (2, [.ref aw, .ref ax, .ref ay, .int (nI 1)])), (aw, .inl (cJ, 16, .inr (.inl (vp_updL w 0 (lw 0))))), (ax, .inl (cI, 64, .inl sc)), (ay, .inl (cI, 8, .inl st))]) [0, 1, 2, 3, 4, 5, 6, 7, 8] rfl
      have hD := hD.sub (ws' := [(bd0, .inr (3, [.ref h0, .ref ro, .ref lo, .int (nI n)])), (ro, .inl (cR, 154, .inr (.inr (.inr (.inr rr))))), (lo, .inl (cR, 154, .inr (.inr (.inr (.inr lr))))), (rk, .inl (cJ, 8, .inr (.inl rw))), (lp, .inl (cJ, 4, .inr (.inl lw))), (h0, .inr (2, [.ref aw, .ref ax, .ref ay, .int (nI 1)])), (aw, .inl (cJ, 16, .inr (.inl (vp_updL w 0 (lw 0))))), (ax, .inl (cI, 64, .inl sc)), (ay, .inl (cI, 8, .inl st))]) [0, 1, 2, 3, 4, 5, 6, 7, 8] (by decide) rfl
      generalize H1 = H at hP hS ⊢
      obtain ⟨g_5, eg_5⟩ : ∃ f : Nat → Int64, f = vp_updL w 0 (lw 0) := ⟨_, rfl⟩
      rw [← eg_5] at hP hD
      have hm_6 : wok g_5 1 [lw 0] := wok_add _ hm0 eg_5
      obtain ⟨i_7, ei_7⟩ : ∃ y : Int32, y = 0 + 1 := ⟨_, rfl⟩
      refine lv_iinc (v := i_7) (lv' := [(2, .int i_7), (0, .ref bd0), (1, .int (nI k))]) hx hb d_Bd_hashEntry_39 hl (k := 0) rfl (by rw [ei_7]; rfl) (by decide) rfl (fun ls hl => ?_)
      obtain rfl : i_7 = 1 := by rw [ei_7]; exact by decide
      refine lv_goto (tgt := 9) hx hb d_Bd_hashEntry_42 (by decide) ?_
      refine lv_iload_n hx hb d_Bd_hashEntry_9 rfl (lv_at hl 0 rfl) ?_
      refine lv_iconst (v := 4) hx hb d_Bd_hashEntry_10 (by decide) ?_
      refine lv_icmp_ge (tgt := 45) hx hb d_Bd_hashEntry_11 (by decide) (fun c_8 => ?_) (fun c_8 => ?_)
      · -- taken
        exact absurd c_8 (by decide)
      · -- not taken
        refine lv_aload_n hx hb d_Bd_hashEntry_14 rfl (lv_at hl 1 rfl) ?_
        refine va_get (D := (dC, dI)) (ci := 3) (v := .ref h0) (C := "BallotBoard$Board") (T := F_Bo) (N := 4) hx hb hts (fun w9 h9 => List.mem_cons_of_mem _ (i_Bo w9 h9)) hown hK hP 0 rfl rfl 0 (by decide) (hts _ (List.mem_cons_of_mem _ gk_60)) (fun _ h9 => h9) rfl d_Bd_hashEntry_15 ?_
        refine lv_iload_n hx hb d_Bd_hashEntry_18 rfl (lv_at hl 2 rfl) ?_
        refine lv_if_ne (tgt := 26) hx hb d_Bd_hashEntry_19 (by decide) (fun c_9 => ?_) (fun c_9 => ?_)
        · -- taken
          refine lv_aload_n hx hb d_Bd_hashEntry_26 rfl (lv_at hl 1 rfl) ?_
          refine va_get (D := (dC, dI)) (ci := 3) (v := .ref lo) (C := "BallotBoard$Board") (T := F_Bo) (N := 4) hx hb hts (fun w9 h9 => List.mem_cons_of_mem _ (i_Bo w9 h9)) hown hK hP 0 rfl rfl 2 (by decide) (hts _ (List.mem_cons_of_mem _ gk_62)) (fun _ h9 => h9) rfl d_Bd_hashEntry_27 ?_
          refine lv_iload_n hx hb d_Bd_hashEntry_30 rfl (lv_at hl 2 rfl) ?_
          refine lv_iconst (v := 1) hx hb d_Bd_hashEntry_31 (by decide) ?_
          refine lv_isub hx hb d_Bd_hashEntry_32 ?_
          rw [show ((nI k) - 1 : Int32) = (nI (k - 1)) from nI_subI (b := 1) (by omega) rfl]
          refine va_aldA hx hb hK hP 2 2 rfl rfl (vp_in_nI (by omega) (by omega)) d_Bd_hashEntry_33 (b := lp) (by rw [nI_clamp (by omega)]; exact hlp) ?_
          refine lv_iload_n hx hb d_Bd_hashEntry_34 rfl (lv_at hl 0 rfl) ?_
          refine va_lald hx hb hK hP 4 0 rfl rfl (vp_lit rfl) d_Bd_hashEntry_35 ?_
          rw [show (lw (1 : Int32).toNatClampNeg : Int64) = lw 1 from rfl]
          have hPc := hP.sub (ws' := (ha_ws h0 aw ax ay cJ cI g_5 sc st 1)) [5, 6, 7, 8] rfl
          have hDc := hD.sub (ws' := (ha_ws h0 aw ax ay cJ cI g_5 sc st 1)) [5, 6, 7, 8] (by decide) rfl
          have hKc := hK.sub (tys' := [(cJ, .long), (cI, .int)]) [0, 1] rfl
          have hFc := va_free (wc := (ha_ws h0 aw ax ay cJ cI g_5 sc st 1)) hD hS hA [5, 6, 7, 8] rfl
          refine va_callv (va_runV (As := [.long (lw 1)]) (rest := []) ⟨hx, hb, hml, hown, hts⟩ (c_Ha_add l dC dI h0 H.size aw ax ay cJ cI g_5 sc st 1 (lw 1) (by decide)) (cwV 1 hts (gw_V gk_592 gk_507 gk_508 gk_2 gk_509) rfl rfl rfl (by decide +kernel) ⟨Nat.le_of_ble_eq_true rfl, Nat.le_of_ble_eq_true rfl⟩) ⟨fun a U g mk q => by obtain ⟨q0, q1, qP, qK, qD⟩ := q; exact ⟨q0, q1, qP, va_K.moved (u := U) (U := U.calling g mk a) (Vm.Alike.refl U.vm) qK, qD⟩, va_recv hK hP (ci := 2) (q0 := 5) rfl rfl, fun U hU hW => ⟨rfl, by rw [hU], by rw [hU]; exact hPc, va_K.moved hW.alike hKc, hDc.weaken (fun _ _ _ _ => trivial)⟩⟩ rfl rfl hl.1 rfl (lv_room (Nat.le_of_ble_eq_true rfl)) d_Bd_hashEntry_36 ⟨Nat.le_of_ble_eq_true rfl, Nat.le_of_ble_eq_true rfl⟩) hS (fun q _ h => hFc q h) hFc (fun u9 t9 H1 locs ht hvm hw hB hz1 hk1 hS => ?_)
          obtain ⟨hP1, hK1, hD1⟩ := hB
          rw [ht] at hP1
          obtain ⟨hP, hD⟩ := va_join (wr := [(bd0, .inr (3, [.ref h0, .ref ro, .ref lo, .int (nI n)])), (ro, .inl (cR, 154, .inr (.inr (.inr (.inr rr))))), (lo, .inl (cR, 154, .inr (.inr (.inr (.inr lr))))), (rk, .inl (cJ, 8, .inr (.inl rw))), (lp, .inl (cJ, 4, .inr (.inl lw)))]) (w1 := [(h0, .inr (2, [.ref aw, .ref ax, .ref ay, .int (nI 2)])), (aw, .inl (cJ, 16, .inr (.inl (vp_updL g_5 1 (lw 1))))), (ax, .inl (cI, 64, .inl sc)), (ay, .inl (cI, 8, .inl st))]) hP hD [5, 6, 7, 8] [0, 1, 2, 3, 4] rfl rfl (by decide) (by decide) hk1 hFc hP1 hD1
          have hP := hP.sub (ws' := [(bd0, .inr (3, [.ref h0, .ref ro, .ref lo, .int (nI n)])), (ro, .inl (cR, 154, .inr (.inr (.inr (.inr rr))))), (lo, .inl (cR, 154, .inr (.inr (.inr (.inr lr))))), (rk, .inl (cJ, 8, .inr (.inl rw))), (lp, .inl (cJ, 4, .inr (.inl lw))), (h0, .inr (2, [.ref aw, .ref ax, .ref ay, .int (nI 2)])), (aw, .inl (cJ, 16, .inr (.inl (vp_updL g_5 1 (lw 1))))), (ax, .inl (cI, 64, .inl sc)), (ay, .inl (cI, 8, .inl st))]) [0, 1, 2, 3, 4, 5, 6, 7, 8] rfl
          have hD := hD.sub (ws' := [(bd0, .inr (3, [.ref h0, .ref ro, .ref lo, .int (nI n)])), (ro, .inl (cR, 154, .inr (.inr (.inr (.inr rr))))), (lo, .inl (cR, 154, .inr (.inr (.inr (.inr lr))))), (rk, .inl (cJ, 8, .inr (.inl rw))), (lp, .inl (cJ, 4, .inr (.inl lw))), (h0, .inr (2, [.ref aw, .ref ax, .ref ay, .int (nI 2)])), (aw, .inl (cJ, 16, .inr (.inl (vp_updL g_5 1 (lw 1))))), (ax, .inl (cI, 64, .inl sc)), (ay, .inl (cI, 8, .inl st))]) [0, 1, 2, 3, 4, 5, 6, 7, 8] (by decide) rfl
          generalize H1 = H at hP hS ⊢
          obtain ⟨g_11, eg_11⟩ : ∃ f : Nat → Int64, f = vp_updL g_5 1 (lw 1) := ⟨_, rfl⟩
          rw [← eg_11] at hP hD
          have hm_12 : wok g_11 2 [lw 0, lw 1] := wok_add _ hm_6 eg_11
          obtain ⟨i_13, ei_13⟩ : ∃ y : Int32, y = 1 + 1 := ⟨_, rfl⟩
          refine lv_iinc (v := i_13) (lv' := [(2, .int i_13), (0, .ref bd0), (1, .int (nI k))]) hx hb d_Bd_hashEntry_39 hl (k := 0) rfl (by rw [ei_13]; rfl) (by decide) rfl (fun ls hl => ?_)
          obtain rfl : i_13 = 2 := by rw [ei_13]; exact by decide
          refine lv_goto (tgt := 9) hx hb d_Bd_hashEntry_42 (by decide) ?_
          refine lv_iload_n hx hb d_Bd_hashEntry_9 rfl (lv_at hl 0 rfl) ?_
          refine lv_iconst (v := 4) hx hb d_Bd_hashEntry_10 (by decide) ?_
          refine lv_icmp_ge (tgt := 45) hx hb d_Bd_hashEntry_11 (by decide) (fun c_14 => ?_) (fun c_14 => ?_)
          · -- taken
            exact absurd c_14 (by decide)
          · -- not taken
            refine lv_aload_n hx hb d_Bd_hashEntry_14 rfl (lv_at hl 1 rfl) ?_
            refine va_get (D := (dC, dI)) (ci := 3) (v := .ref h0) (C := "BallotBoard$Board") (T := F_Bo) (N := 4) hx hb hts (fun w9 h9 => List.mem_cons_of_mem _ (i_Bo w9 h9)) hown hK hP 0 rfl rfl 0 (by decide) (hts _ (List.mem_cons_of_mem _ gk_60)) (fun _ h9 => h9) rfl d_Bd_hashEntry_15 ?_
            refine lv_iload_n hx hb d_Bd_hashEntry_18 rfl (lv_at hl 2 rfl) ?_
            refine lv_if_ne (tgt := 26) hx hb d_Bd_hashEntry_19 (by decide) (fun c_15 => ?_) (fun c_15 => ?_)
            · -- taken
              refine lv_aload_n hx hb d_Bd_hashEntry_26 rfl (lv_at hl 1 rfl) ?_
              refine va_get (D := (dC, dI)) (ci := 3) (v := .ref lo) (C := "BallotBoard$Board") (T := F_Bo) (N := 4) hx hb hts (fun w9 h9 => List.mem_cons_of_mem _ (i_Bo w9 h9)) hown hK hP 0 rfl rfl 2 (by decide) (hts _ (List.mem_cons_of_mem _ gk_62)) (fun _ h9 => h9) rfl d_Bd_hashEntry_27 ?_
              refine lv_iload_n hx hb d_Bd_hashEntry_30 rfl (lv_at hl 2 rfl) ?_
              refine lv_iconst (v := 1) hx hb d_Bd_hashEntry_31 (by decide) ?_
              refine lv_isub hx hb d_Bd_hashEntry_32 ?_
              rw [show ((nI k) - 1 : Int32) = (nI (k - 1)) from nI_subI (b := 1) (by omega) rfl]
              refine va_aldA hx hb hK hP 2 2 rfl rfl (vp_in_nI (by omega) (by omega)) d_Bd_hashEntry_33 (b := lp) (by rw [nI_clamp (by omega)]; exact hlp) ?_
              refine lv_iload_n hx hb d_Bd_hashEntry_34 rfl (lv_at hl 0 rfl) ?_
              refine va_lald hx hb hK hP 4 0 rfl rfl (vp_lit rfl) d_Bd_hashEntry_35 ?_
              rw [show (lw (2 : Int32).toNatClampNeg : Int64) = lw 2 from rfl]
              have hPc := hP.sub (ws' := (ha_ws h0 aw ax ay cJ cI g_11 sc st 2)) [5, 6, 7, 8] rfl
              have hDc := hD.sub (ws' := (ha_ws h0 aw ax ay cJ cI g_11 sc st 2)) [5, 6, 7, 8] (by decide) rfl
              have hKc := hK.sub (tys' := [(cJ, .long), (cI, .int)]) [0, 1] rfl
              have hFc := va_free (wc := (ha_ws h0 aw ax ay cJ cI g_11 sc st 2)) hD hS hA [5, 6, 7, 8] rfl
              refine va_callv (va_runV (As := [.long (lw 2)]) (rest := []) ⟨hx, hb, hml, hown, hts⟩ (c_Ha_add l dC dI h0 H.size aw ax ay cJ cI g_11 sc st 2 (lw 2) (by decide)) (cwV 1 hts (gw_V gk_592 gk_507 gk_508 gk_2 gk_509) rfl rfl rfl (by decide +kernel) ⟨Nat.le_of_ble_eq_true rfl, Nat.le_of_ble_eq_true rfl⟩) ⟨fun a U g mk q => by obtain ⟨q0, q1, qP, qK, qD⟩ := q; exact ⟨q0, q1, qP, va_K.moved (u := U) (U := U.calling g mk a) (Vm.Alike.refl U.vm) qK, qD⟩, va_recv hK hP (ci := 2) (q0 := 5) rfl rfl, fun U hU hW => ⟨rfl, by rw [hU], by rw [hU]; exact hPc, va_K.moved hW.alike hKc, hDc.weaken (fun _ _ _ _ => trivial)⟩⟩ rfl rfl hl.1 rfl (lv_room (Nat.le_of_ble_eq_true rfl)) d_Bd_hashEntry_36 ⟨Nat.le_of_ble_eq_true rfl, Nat.le_of_ble_eq_true rfl⟩) hS (fun q _ h => hFc q h) hFc (fun u9 t9 H1 locs ht hvm hw hB hz1 hk1 hS => ?_)
              obtain ⟨hP1, hK1, hD1⟩ := hB
              rw [ht] at hP1
              obtain ⟨hP, hD⟩ := va_join (wr := [(bd0, .inr (3, [.ref h0, .ref ro, .ref lo, .int (nI n)])), (ro, .inl (cR, 154, .inr (.inr (.inr (.inr rr))))), (lo, .inl (cR, 154, .inr (.inr (.inr (.inr lr))))), (rk, .inl (cJ, 8, .inr (.inl rw))), (lp, .inl (cJ, 4, .inr (.inl lw)))]) (w1 := [(h0, .inr (2, [.ref aw, .ref ax, .ref ay, .int (nI 3)])), (aw, .inl (cJ, 16, .inr (.inl (vp_updL g_11 2 (lw 2))))), (ax, .inl (cI, 64, .inl sc)), (ay, .inl (cI, 8, .inl st))]) hP hD [5, 6, 7, 8] [0, 1, 2, 3, 4] rfl rfl (by decide) (by decide) hk1 hFc hP1 hD1
              have hP := hP.sub (ws' := [(bd0, .inr (3, [.ref h0, .ref ro, .ref lo, .int (nI n)])), (ro, .inl (cR, 154, .inr (.inr (.inr (.inr rr))))), (lo, .inl (cR, 154, .inr (.inr (.inr (.inr lr))))), (rk, .inl (cJ, 8, .inr (.inl rw))), (lp, .inl (cJ, 4, .inr (.inl lw))), (h0, .inr (2, [.ref aw, .ref ax, .ref ay, .int (nI 3)])), (aw, .inl (cJ, 16, .inr (.inl (vp_updL g_11 2 (lw 2))))), (ax, .inl (cI, 64, .inl sc)), (ay, .inl (cI, 8, .inl st))]) [0, 1, 2, 3, 4, 5, 6, 7, 8] rfl
              have hD := hD.sub (ws' := [(bd0, .inr (3, [.ref h0, .ref ro, .ref lo, .int (nI n)])), (ro, .inl (cR, 154, .inr (.inr (.inr (.inr rr))))), (lo, .inl (cR, 154, .inr (.inr (.inr (.inr lr))))), (rk, .inl (cJ, 8, .inr (.inl rw))), (lp, .inl (cJ, 4, .inr (.inl lw))), (h0, .inr (2, [.ref aw, .ref ax, .ref ay, .int (nI 3)])), (aw, .inl (cJ, 16, .inr (.inl (vp_updL g_11 2 (lw 2))))), (ax, .inl (cI, 64, .inl sc)), (ay, .inl (cI, 8, .inl st))]) [0, 1, 2, 3, 4, 5, 6, 7, 8] (by decide) rfl
              generalize H1 = H at hP hS ⊢
              obtain ⟨g_17, eg_17⟩ : ∃ f : Nat → Int64, f = vp_updL g_11 2 (lw 2) := ⟨_, rfl⟩
              rw [← eg_17] at hP hD
              have hm_18 : wok g_17 3 [lw 0, lw 1, lw 2] := wok_add _ hm_12 eg_17
              obtain ⟨i_19, ei_19⟩ : ∃ y : Int32, y = 2 + 1 := ⟨_, rfl⟩
              refine lv_iinc (v := i_19) (lv' := [(2, .int i_19), (0, .ref bd0), (1, .int (nI k))]) hx hb d_Bd_hashEntry_39 hl (k := 0) rfl (by rw [ei_19]; rfl) (by decide) rfl (fun ls hl => ?_)
              obtain rfl : i_19 = 3 := by rw [ei_19]; exact by decide
              refine lv_goto (tgt := 9) hx hb d_Bd_hashEntry_42 (by decide) ?_
              refine lv_iload_n hx hb d_Bd_hashEntry_9 rfl (lv_at hl 0 rfl) ?_
              refine lv_iconst (v := 4) hx hb d_Bd_hashEntry_10 (by decide) ?_
              refine lv_icmp_ge (tgt := 45) hx hb d_Bd_hashEntry_11 (by decide) (fun c_20 => ?_) (fun c_20 => ?_)
              · -- taken
                exact absurd c_20 (by decide)
              · -- not taken
                refine lv_aload_n hx hb d_Bd_hashEntry_14 rfl (lv_at hl 1 rfl) ?_
                refine va_get (D := (dC, dI)) (ci := 3) (v := .ref h0) (C := "BallotBoard$Board") (T := F_Bo) (N := 4) hx hb hts (fun w9 h9 => List.mem_cons_of_mem _ (i_Bo w9 h9)) hown hK hP 0 rfl rfl 0 (by decide) (hts _ (List.mem_cons_of_mem _ gk_60)) (fun _ h9 => h9) rfl d_Bd_hashEntry_15 ?_
                refine lv_iload_n hx hb d_Bd_hashEntry_18 rfl (lv_at hl 2 rfl) ?_
                refine lv_if_ne (tgt := 26) hx hb d_Bd_hashEntry_19 (by decide) (fun c_21 => ?_) (fun c_21 => ?_)
                · -- taken
                  refine lv_aload_n hx hb d_Bd_hashEntry_26 rfl (lv_at hl 1 rfl) ?_
                  refine va_get (D := (dC, dI)) (ci := 3) (v := .ref lo) (C := "BallotBoard$Board") (T := F_Bo) (N := 4) hx hb hts (fun w9 h9 => List.mem_cons_of_mem _ (i_Bo w9 h9)) hown hK hP 0 rfl rfl 2 (by decide) (hts _ (List.mem_cons_of_mem _ gk_62)) (fun _ h9 => h9) rfl d_Bd_hashEntry_27 ?_
                  refine lv_iload_n hx hb d_Bd_hashEntry_30 rfl (lv_at hl 2 rfl) ?_
                  refine lv_iconst (v := 1) hx hb d_Bd_hashEntry_31 (by decide) ?_
                  refine lv_isub hx hb d_Bd_hashEntry_32 ?_
                  rw [show ((nI k) - 1 : Int32) = (nI (k - 1)) from nI_subI (b := 1) (by omega) rfl]
                  refine va_aldA hx hb hK hP 2 2 rfl rfl (vp_in_nI (by omega) (by omega)) d_Bd_hashEntry_33 (b := lp) (by rw [nI_clamp (by omega)]; exact hlp) ?_
                  refine lv_iload_n hx hb d_Bd_hashEntry_34 rfl (lv_at hl 0 rfl) ?_
                  refine va_lald hx hb hK hP 4 0 rfl rfl (vp_lit rfl) d_Bd_hashEntry_35 ?_
                  rw [show (lw (3 : Int32).toNatClampNeg : Int64) = lw 3 from rfl]
                  have hPc := hP.sub (ws' := (ha_ws h0 aw ax ay cJ cI g_17 sc st 3)) [5, 6, 7, 8] rfl
                  have hDc := hD.sub (ws' := (ha_ws h0 aw ax ay cJ cI g_17 sc st 3)) [5, 6, 7, 8] (by decide) rfl
                  have hKc := hK.sub (tys' := [(cJ, .long), (cI, .int)]) [0, 1] rfl
                  have hFc := va_free (wc := (ha_ws h0 aw ax ay cJ cI g_17 sc st 3)) hD hS hA [5, 6, 7, 8] rfl
                  refine va_callv (va_runV (As := [.long (lw 3)]) (rest := []) ⟨hx, hb, hml, hown, hts⟩ (c_Ha_add l dC dI h0 H.size aw ax ay cJ cI g_17 sc st 3 (lw 3) (by decide)) (cwV 1 hts (gw_V gk_592 gk_507 gk_508 gk_2 gk_509) rfl rfl rfl (by decide +kernel) ⟨Nat.le_of_ble_eq_true rfl, Nat.le_of_ble_eq_true rfl⟩) ⟨fun a U g mk q => by obtain ⟨q0, q1, qP, qK, qD⟩ := q; exact ⟨q0, q1, qP, va_K.moved (u := U) (U := U.calling g mk a) (Vm.Alike.refl U.vm) qK, qD⟩, va_recv hK hP (ci := 2) (q0 := 5) rfl rfl, fun U hU hW => ⟨rfl, by rw [hU], by rw [hU]; exact hPc, va_K.moved hW.alike hKc, hDc.weaken (fun _ _ _ _ => trivial)⟩⟩ rfl rfl hl.1 rfl (lv_room (Nat.le_of_ble_eq_true rfl)) d_Bd_hashEntry_36 ⟨Nat.le_of_ble_eq_true rfl, Nat.le_of_ble_eq_true rfl⟩) hS (fun q _ h => hFc q h) hFc (fun u9 t9 H1 locs ht hvm hw hB hz1 hk1 hS => ?_)
                  obtain ⟨hP1, hK1, hD1⟩ := hB
                  rw [ht] at hP1
                  obtain ⟨hP, hD⟩ := va_join (wr := [(bd0, .inr (3, [.ref h0, .ref ro, .ref lo, .int (nI n)])), (ro, .inl (cR, 154, .inr (.inr (.inr (.inr rr))))), (lo, .inl (cR, 154, .inr (.inr (.inr (.inr lr))))), (rk, .inl (cJ, 8, .inr (.inl rw))), (lp, .inl (cJ, 4, .inr (.inl lw)))]) (w1 := [(h0, .inr (2, [.ref aw, .ref ax, .ref ay, .int (nI 4)])), (aw, .inl (cJ, 16, .inr (.inl (vp_updL g_17 3 (lw 3))))), (ax, .inl (cI, 64, .inl sc)), (ay, .inl (cI, 8, .inl st))]) hP hD [5, 6, 7, 8] [0, 1, 2, 3, 4] rfl rfl (by decide) (by decide) hk1 hFc hP1 hD1
                  have hP := hP.sub (ws' := [(bd0, .inr (3, [.ref h0, .ref ro, .ref lo, .int (nI n)])), (ro, .inl (cR, 154, .inr (.inr (.inr (.inr rr))))), (lo, .inl (cR, 154, .inr (.inr (.inr (.inr lr))))), (rk, .inl (cJ, 8, .inr (.inl rw))), (lp, .inl (cJ, 4, .inr (.inl lw))), (h0, .inr (2, [.ref aw, .ref ax, .ref ay, .int (nI 4)])), (aw, .inl (cJ, 16, .inr (.inl (vp_updL g_17 3 (lw 3))))), (ax, .inl (cI, 64, .inl sc)), (ay, .inl (cI, 8, .inl st))]) [0, 1, 2, 3, 4, 5, 6, 7, 8] rfl
                  have hD := hD.sub (ws' := [(bd0, .inr (3, [.ref h0, .ref ro, .ref lo, .int (nI n)])), (ro, .inl (cR, 154, .inr (.inr (.inr (.inr rr))))), (lo, .inl (cR, 154, .inr (.inr (.inr (.inr lr))))), (rk, .inl (cJ, 8, .inr (.inl rw))), (lp, .inl (cJ, 4, .inr (.inl lw))), (h0, .inr (2, [.ref aw, .ref ax, .ref ay, .int (nI 4)])), (aw, .inl (cJ, 16, .inr (.inl (vp_updL g_17 3 (lw 3))))), (ax, .inl (cI, 64, .inl sc)), (ay, .inl (cI, 8, .inl st))]) [0, 1, 2, 3, 4, 5, 6, 7, 8] (by decide) rfl
                  generalize H1 = H at hP hS ⊢
                  obtain ⟨g_23, eg_23⟩ : ∃ f : Nat → Int64, f = vp_updL g_17 3 (lw 3) := ⟨_, rfl⟩
                  rw [← eg_23] at hP hD
                  have hm_24 : wok g_23 4 [lw 0, lw 1, lw 2, lw 3] := wok_add _ hm_18 eg_23
                  obtain ⟨i_25, ei_25⟩ : ∃ y : Int32, y = 3 + 1 := ⟨_, rfl⟩
                  refine lv_iinc (v := i_25) (lv' := [(2, .int i_25), (0, .ref bd0), (1, .int (nI k))]) hx hb d_Bd_hashEntry_39 hl (k := 0) rfl (by rw [ei_25]; rfl) (by decide) rfl (fun ls hl => ?_)
                  obtain rfl : i_25 = 4 := by rw [ei_25]; exact by decide
                  refine lv_goto (tgt := 9) hx hb d_Bd_hashEntry_42 (by decide) ?_
                  refine lv_iload_n hx hb d_Bd_hashEntry_9 rfl (lv_at hl 0 rfl) ?_
                  refine lv_iconst (v := 4) hx hb d_Bd_hashEntry_10 (by decide) ?_
                  refine lv_icmp_ge (tgt := 45) hx hb d_Bd_hashEntry_11 (by decide) (fun c_26 => ?_) (fun c_26 => ?_)
                  · -- taken
                    refine lv_aload_n hx hb d_Bd_hashEntry_45 rfl (lv_at hl 1 rfl) ?_
                    refine va_get (D := (dC, dI)) (ci := 3) (v := .ref ro) (C := "BallotBoard$Board") (T := F_Bo) (N := 4) hx hb hts (fun w9 h9 => List.mem_cons_of_mem _ (i_Bo w9 h9)) hown hK hP 0 rfl rfl 1 (by decide) (hts _ (List.mem_cons_of_mem _ gk_61)) (fun _ h9 => h9) rfl d_Bd_hashEntry_46 ?_
                    refine lv_iload_n hx hb d_Bd_hashEntry_49 rfl (lv_at hl 2 rfl) ?_
                    refine va_aldA hx hb hK hP 1 2 rfl rfl (vp_in_nI (by omega) (by omega)) d_Bd_hashEntry_50 (b := rk) (by rw [nI_clamp (by omega)]; exact hrk) ?_
                    have hPc := hP.sub (ws' := (rw_ws rk cJ rw)) [3] rfl
                    have hKc := hK.sub (tys' := [(cJ, .long), (cI, .int), (cR, .array .long)]) [0, 1, 2] rfl
                    refine va_calli (va_runS (As := [.ref rk]) (rest := []) ⟨hx, hb, hml, hown, hts⟩ (c_Bd_width l H dC dI cJ cI cR rk rw K hPc hr0 hK4) (cwS 1 hts (gw_S gk_593 gk_594 gk_3 gk_595) rfl rfl rfl (by decide +kernel) ⟨Nat.le_of_ble_eq_true rfl, Nat.le_of_ble_eq_true rfl⟩) ⟨fun a U g mk q => ⟨q.1, q.2.1, va_K.moved (u := U) (U := U.calling g mk a) (Vm.Alike.refl U.vm) q.2.2⟩, fun U hU hW => ⟨rfl, hU, va_K.moved hW.alike hKc⟩⟩ rfl rfl hl.1 rfl (lv_room (Nat.le_of_ble_eq_true rfl)) d_Bd_hashEntry_51 ⟨Nat.le_of_ble_eq_true rfl, Nat.le_of_ble_eq_true rfl⟩) hS (fun q _ h => h.elim) (fun q h => h.elim) (fun r51 u9 t9 H1 locs ht hvm hw hB hz1 hk1 hS => ?_)
                    obtain rfl : H = H1 := hB.symm.trans ht
                    have hw : r51 = nI (wdt K) := hw
                    subst hw
                    rw [show (nI (wdt K) : Int32) = 5 from by unfold wdt; rw [if_neg hK2]; rfl]
                    refine lv_istore_n (lv' := [(2, .int 5), (0, .ref bd0), (1, .int (nI k))]) hx hb d_Bd_hashEntry_54 rfl hl (by decide) rfl (fun ls hl => ?_)
                    refine lv_iconst (v := 0) hx hb d_Bd_hashEntry_55 (by decide) ?_
                    refine lv_istore_n (lv' := [(3, .int 0), (2, .int 5), (0, .ref bd0), (1, .int (nI k))]) hx hb d_Bd_hashEntry_56 rfl hl (by decide) rfl (fun ls hl => ?_)
                    refine lv_iload_n hx hb d_Bd_hashEntry_57 rfl (lv_at hl 0 rfl) ?_
                    refine lv_iload_n hx hb d_Bd_hashEntry_58 rfl (lv_at hl 1 rfl) ?_
                    refine lv_icmp_ge (tgt := 83) hx hb d_Bd_hashEntry_59 (by decide) (fun c_27 => ?_) (fun c_27 => ?_)
                    · -- taken
                      exact absurd c_27 (by decide)
                    · -- not taken
                      refine lv_aload_n hx hb d_Bd_hashEntry_62 rfl (lv_at hl 2 rfl) ?_
                      refine va_get (D := (dC, dI)) (ci := 3) (v := .ref h0) (C := "BallotBoard$Board") (T := F_Bo) (N := 4) hx hb hts (fun w9 h9 => List.mem_cons_of_mem _ (i_Bo w9 h9)) hown hK hP 0 rfl rfl 0 (by decide) (hts _ (List.mem_cons_of_mem _ gk_60)) (fun _ h9 => h9) rfl d_Bd_hashEntry_63 ?_
                      refine lv_aload_n hx hb d_Bd_hashEntry_66 rfl (lv_at hl 2 rfl) ?_
                      refine va_get (D := (dC, dI)) (ci := 3) (v := .ref ro) (C := "BallotBoard$Board") (T := F_Bo) (N := 4) hx hb hts (fun w9 h9 => List.mem_cons_of_mem _ (i_Bo w9 h9)) hown hK hP 0 rfl rfl 1 (by decide) (hts _ (List.mem_cons_of_mem _ gk_61)) (fun _ h9 => h9) rfl d_Bd_hashEntry_67 ?_
                      refine lv_iload_n hx hb d_Bd_hashEntry_70 rfl (lv_at hl 3 rfl) ?_
                      refine va_aldA hx hb hK hP 1 2 rfl rfl (vp_in_nI (by omega) (by omega)) d_Bd_hashEntry_71 (b := rk) (by rw [nI_clamp (by omega)]; exact hrk) ?_
                      refine lv_iload_n hx hb d_Bd_hashEntry_72 rfl (lv_at hl 0 rfl) ?_
                      refine va_lald hx hb hK hP 3 0 rfl rfl (vp_lit rfl) d_Bd_hashEntry_73 ?_
                      rw [show (rw (0 : Int32).toNatClampNeg : Int64) = rw 0 from rfl]
                      have hPc := hP.sub (ws' := (ha_ws h0 aw ax ay cJ cI g_23 sc st 4)) [5, 6, 7, 8] rfl
                      have hDc := hD.sub (ws' := (ha_ws h0 aw ax ay cJ cI g_23 sc st 4)) [5, 6, 7, 8] (by decide) rfl
                      have hKc := hK.sub (tys' := [(cJ, .long), (cI, .int)]) [0, 1] rfl
                      have hFc := va_free (wc := (ha_ws h0 aw ax ay cJ cI g_23 sc st 4)) hD hS hA [5, 6, 7, 8] rfl
                      refine va_callv (va_runV (As := [.long (rw 0)]) (rest := []) ⟨hx, hb, hml, hown, hts⟩ (c_Ha_add l dC dI h0 H.size aw ax ay cJ cI g_23 sc st 4 (rw 0) (by decide)) (cwV 1 hts (gw_V gk_592 gk_507 gk_508 gk_2 gk_509) rfl rfl rfl (by decide +kernel) ⟨Nat.le_of_ble_eq_true rfl, Nat.le_of_ble_eq_true rfl⟩) ⟨fun a U g mk q => by obtain ⟨q0, q1, qP, qK, qD⟩ := q; exact ⟨q0, q1, qP, va_K.moved (u := U) (U := U.calling g mk a) (Vm.Alike.refl U.vm) qK, qD⟩, va_recv hK hP (ci := 2) (q0 := 5) rfl rfl, fun U hU hW => ⟨rfl, by rw [hU], by rw [hU]; exact hPc, va_K.moved hW.alike hKc, hDc.weaken (fun _ _ _ _ => trivial)⟩⟩ rfl rfl hl.1 rfl (lv_room (Nat.le_of_ble_eq_true rfl)) d_Bd_hashEntry_74 ⟨Nat.le_of_ble_eq_true rfl, Nat.le_of_ble_eq_true rfl⟩) hS (fun q _ h => hFc q h) hFc (fun u9 t9 H1 locs ht hvm hw hB hz1 hk1 hS => ?_)
                      obtain ⟨hP1, hK1, hD1⟩ := hB
                      rw [ht] at hP1
                      obtain ⟨hP, hD⟩ := va_join (wr := [(bd0, .inr (3, [.ref h0, .ref ro, .ref lo, .int (nI n)])), (ro, .inl (cR, 154, .inr (.inr (.inr (.inr rr))))), (lo, .inl (cR, 154, .inr (.inr (.inr (.inr lr))))), (rk, .inl (cJ, 8, .inr (.inl rw))), (lp, .inl (cJ, 4, .inr (.inl lw)))]) (w1 := [(h0, .inr (2, [.ref aw, .ref ax, .ref ay, .int (nI 5)])), (aw, .inl (cJ, 16, .inr (.inl (vp_updL g_23 4 (rw 0))))), (ax, .inl (cI, 64, .inl sc)), (ay, .inl (cI, 8, .inl st))]) hP hD [5, 6, 7, 8] [0, 1, 2, 3, 4] rfl rfl (by decide) (by decide) hk1 hFc hP1 hD1
                      have hP := hP.sub (ws' := [(bd0, .inr (3, [.ref h0, .ref ro, .ref lo, .int (nI n)])), (ro, .inl (cR, 154, .inr (.inr (.inr (.inr rr))))), (lo, .inl (cR, 154, .inr (.inr (.inr (.inr lr))))), (rk, .inl (cJ, 8, .inr (.inl rw))), (lp, .inl (cJ, 4, .inr (.inl lw))), (h0, .inr (2, [.ref aw, .ref ax, .ref ay, .int (nI 5)])), (aw, .inl (cJ, 16, .inr (.inl (vp_updL g_23 4 (rw 0))))), (ax, .inl (cI, 64, .inl sc)), (ay, .inl (cI, 8, .inl st))]) [0, 1, 2, 3, 4, 5, 6, 7, 8] rfl
                      have hD := hD.sub (ws' := [(bd0, .inr (3, [.ref h0, .ref ro, .ref lo, .int (nI n)])), (ro, .inl (cR, 154, .inr (.inr (.inr (.inr rr))))), (lo, .inl (cR, 154, .inr (.inr (.inr (.inr lr))))), (rk, .inl (cJ, 8, .inr (.inl rw))), (lp, .inl (cJ, 4, .inr (.inl lw))), (h0, .inr (2, [.ref aw, .ref ax, .ref ay, .int (nI 5)])), (aw, .inl (cJ, 16, .inr (.inl (vp_updL g_23 4 (rw 0))))), (ax, .inl (cI, 64, .inl sc)), (ay, .inl (cI, 8, .inl st))]) [0, 1, 2, 3, 4, 5, 6, 7, 8] (by decide) rfl
                      generalize H1 = H at hP hS ⊢
                      obtain ⟨g_29, eg_29⟩ : ∃ f : Nat → Int64, f = vp_updL g_23 4 (rw 0) := ⟨_, rfl⟩
                      rw [← eg_29] at hP hD
                      have hm_30 : wok g_29 5 [lw 0, lw 1, lw 2, lw 3, rw 0] := wok_add _ hm_24 eg_29
                      obtain ⟨i_31, ei_31⟩ : ∃ y : Int32, y = 0 + 1 := ⟨_, rfl⟩
                      refine lv_iinc (v := i_31) (lv' := [(3, .int i_31), (2, .int 5), (0, .ref bd0), (1, .int (nI k))]) hx hb d_Bd_hashEntry_77 hl (k := 0) rfl (by rw [ei_31]; rfl) (by decide) rfl (fun ls hl => ?_)
                      obtain rfl : i_31 = 1 := by rw [ei_31]; exact by decide
                      refine lv_goto (tgt := 57) hx hb d_Bd_hashEntry_80 (by decide) ?_
                      refine lv_iload_n hx hb d_Bd_hashEntry_57 rfl (lv_at hl 0 rfl) ?_
                      refine lv_iload_n hx hb d_Bd_hashEntry_58 rfl (lv_at hl 1 rfl) ?_
                      refine lv_icmp_ge (tgt := 83) hx hb d_Bd_hashEntry_59 (by decide) (fun c_32 => ?_) (fun c_32 => ?_)
                      · -- taken
                        exact absurd c_32 (by decide)
                      · -- not taken
                        refine lv_aload_n hx hb d_Bd_hashEntry_62 rfl (lv_at hl 2 rfl) ?_
                        refine va_get (D := (dC, dI)) (ci := 3) (v := .ref h0) (C := "BallotBoard$Board") (T := F_Bo) (N := 4) hx hb hts (fun w9 h9 => List.mem_cons_of_mem _ (i_Bo w9 h9)) hown hK hP 0 rfl rfl 0 (by decide) (hts _ (List.mem_cons_of_mem _ gk_60)) (fun _ h9 => h9) rfl d_Bd_hashEntry_63 ?_
                        refine lv_aload_n hx hb d_Bd_hashEntry_66 rfl (lv_at hl 2 rfl) ?_
                        refine va_get (D := (dC, dI)) (ci := 3) (v := .ref ro) (C := "BallotBoard$Board") (T := F_Bo) (N := 4) hx hb hts (fun w9 h9 => List.mem_cons_of_mem _ (i_Bo w9 h9)) hown hK hP 0 rfl rfl 1 (by decide) (hts _ (List.mem_cons_of_mem _ gk_61)) (fun _ h9 => h9) rfl d_Bd_hashEntry_67 ?_
                        refine lv_iload_n hx hb d_Bd_hashEntry_70 rfl (lv_at hl 3 rfl) ?_
                        refine va_aldA hx hb hK hP 1 2 rfl rfl (vp_in_nI (by omega) (by omega)) d_Bd_hashEntry_71 (b := rk) (by rw [nI_clamp (by omega)]; exact hrk) ?_
                        refine lv_iload_n hx hb d_Bd_hashEntry_72 rfl (lv_at hl 0 rfl) ?_
                        refine va_lald hx hb hK hP 3 0 rfl rfl (vp_lit rfl) d_Bd_hashEntry_73 ?_
                        rw [show (rw (1 : Int32).toNatClampNeg : Int64) = rw 1 from rfl]
                        have hPc := hP.sub (ws' := (ha_ws h0 aw ax ay cJ cI g_29 sc st 5)) [5, 6, 7, 8] rfl
                        have hDc := hD.sub (ws' := (ha_ws h0 aw ax ay cJ cI g_29 sc st 5)) [5, 6, 7, 8] (by decide) rfl
                        have hKc := hK.sub (tys' := [(cJ, .long), (cI, .int)]) [0, 1] rfl
                        have hFc := va_free (wc := (ha_ws h0 aw ax ay cJ cI g_29 sc st 5)) hD hS hA [5, 6, 7, 8] rfl
                        refine va_callv (va_runV (As := [.long (rw 1)]) (rest := []) ⟨hx, hb, hml, hown, hts⟩ (c_Ha_add l dC dI h0 H.size aw ax ay cJ cI g_29 sc st 5 (rw 1) (by decide)) (cwV 1 hts (gw_V gk_592 gk_507 gk_508 gk_2 gk_509) rfl rfl rfl (by decide +kernel) ⟨Nat.le_of_ble_eq_true rfl, Nat.le_of_ble_eq_true rfl⟩) ⟨fun a U g mk q => by obtain ⟨q0, q1, qP, qK, qD⟩ := q; exact ⟨q0, q1, qP, va_K.moved (u := U) (U := U.calling g mk a) (Vm.Alike.refl U.vm) qK, qD⟩, va_recv hK hP (ci := 2) (q0 := 5) rfl rfl, fun U hU hW => ⟨rfl, by rw [hU], by rw [hU]; exact hPc, va_K.moved hW.alike hKc, hDc.weaken (fun _ _ _ _ => trivial)⟩⟩ rfl rfl hl.1 rfl (lv_room (Nat.le_of_ble_eq_true rfl)) d_Bd_hashEntry_74 ⟨Nat.le_of_ble_eq_true rfl, Nat.le_of_ble_eq_true rfl⟩) hS (fun q _ h => hFc q h) hFc (fun u9 t9 H1 locs ht hvm hw hB hz1 hk1 hS => ?_)
                        obtain ⟨hP1, hK1, hD1⟩ := hB
                        rw [ht] at hP1
                        obtain ⟨hP, hD⟩ := va_join (wr := [(bd0, .inr (3, [.ref h0, .ref ro, .ref lo, .int (nI n)])), (ro, .inl (cR, 154, .inr (.inr (.inr (.inr rr))))), (lo, .inl (cR, 154, .inr (.inr (.inr (.inr lr))))), (rk, .inl (cJ, 8, .inr (.inl rw))), (lp, .inl (cJ, 4, .inr (.inl lw)))]) (w1 := [(h0, .inr (2, [.ref aw, .ref ax, .ref ay, .int (nI 6)])), (aw, .inl (cJ, 16, .inr (.inl (vp_updL g_29 5 (rw 1))))), (ax, .inl (cI, 64, .inl sc)), (ay, .inl (cI, 8, .inl st))]) hP hD [5, 6, 7, 8] [0, 1, 2, 3, 4] rfl rfl (by decide) (by decide) hk1 hFc hP1 hD1
                        have hP := hP.sub (ws' := [(bd0, .inr (3, [.ref h0, .ref ro, .ref lo, .int (nI n)])), (ro, .inl (cR, 154, .inr (.inr (.inr (.inr rr))))), (lo, .inl (cR, 154, .inr (.inr (.inr (.inr lr))))), (rk, .inl (cJ, 8, .inr (.inl rw))), (lp, .inl (cJ, 4, .inr (.inl lw))), (h0, .inr (2, [.ref aw, .ref ax, .ref ay, .int (nI 6)])), (aw, .inl (cJ, 16, .inr (.inl (vp_updL g_29 5 (rw 1))))), (ax, .inl (cI, 64, .inl sc)), (ay, .inl (cI, 8, .inl st))]) [0, 1, 2, 3, 4, 5, 6, 7, 8] rfl
                        have hD := hD.sub (ws' := [(bd0, .inr (3, [.ref h0, .ref ro, .ref lo, .int (nI n)])), (ro, .inl (cR, 154, .inr (.inr (.inr (.inr rr))))), (lo, .inl (cR, 154, .inr (.inr (.inr (.inr lr))))), (rk, .inl (cJ, 8, .inr (.inl rw))), (lp, .inl (cJ, 4, .inr (.inl lw))), (h0, .inr (2, [.ref aw, .ref ax, .ref ay, .int (nI 6)])), (aw, .inl (cJ, 16, .inr (.inl (vp_updL g_29 5 (rw 1))))), (ax, .inl (cI, 64, .inl sc)), (ay, .inl (cI, 8, .inl st))]) [0, 1, 2, 3, 4, 5, 6, 7, 8] (by decide) rfl
                        generalize H1 = H at hP hS ⊢
                        obtain ⟨g_34, eg_34⟩ : ∃ f : Nat → Int64, f = vp_updL g_29 5 (rw 1) := ⟨_, rfl⟩
                        rw [← eg_34] at hP hD
                        have hm_35 : wok g_34 6 [lw 0, lw 1, lw 2, lw 3, rw 0, rw 1] := wok_add _ hm_30 eg_34
                        obtain ⟨i_36, ei_36⟩ : ∃ y : Int32, y = 1 + 1 := ⟨_, rfl⟩
                        refine lv_iinc (v := i_36) (lv' := [(3, .int i_36), (2, .int 5), (0, .ref bd0), (1, .int (nI k))]) hx hb d_Bd_hashEntry_77 hl (k := 0) rfl (by rw [ei_36]; rfl) (by decide) rfl (fun ls hl => ?_)
                        obtain rfl : i_36 = 2 := by rw [ei_36]; exact by decide
                        refine lv_goto (tgt := 57) hx hb d_Bd_hashEntry_80 (by decide) ?_
                        refine lv_iload_n hx hb d_Bd_hashEntry_57 rfl (lv_at hl 0 rfl) ?_
                        refine lv_iload_n hx hb d_Bd_hashEntry_58 rfl (lv_at hl 1 rfl) ?_
                        refine lv_icmp_ge (tgt := 83) hx hb d_Bd_hashEntry_59 (by decide) (fun c_37 => ?_) (fun c_37 => ?_)
                        · -- taken
                          exact absurd c_37 (by decide)
                        · -- not taken
                          refine lv_aload_n hx hb d_Bd_hashEntry_62 rfl (lv_at hl 2 rfl) ?_
                          refine va_get (D := (dC, dI)) (ci := 3) (v := .ref h0) (C := "BallotBoard$Board") (T := F_Bo) (N := 4) hx hb hts (fun w9 h9 => List.mem_cons_of_mem _ (i_Bo w9 h9)) hown hK hP 0 rfl rfl 0 (by decide) (hts _ (List.mem_cons_of_mem _ gk_60)) (fun _ h9 => h9) rfl d_Bd_hashEntry_63 ?_
                          refine lv_aload_n hx hb d_Bd_hashEntry_66 rfl (lv_at hl 2 rfl) ?_
                          refine va_get (D := (dC, dI)) (ci := 3) (v := .ref ro) (C := "BallotBoard$Board") (T := F_Bo) (N := 4) hx hb hts (fun w9 h9 => List.mem_cons_of_mem _ (i_Bo w9 h9)) hown hK hP 0 rfl rfl 1 (by decide) (hts _ (List.mem_cons_of_mem _ gk_61)) (fun _ h9 => h9) rfl d_Bd_hashEntry_67 ?_
                          refine lv_iload_n hx hb d_Bd_hashEntry_70 rfl (lv_at hl 3 rfl) ?_
                          refine va_aldA hx hb hK hP 1 2 rfl rfl (vp_in_nI (by omega) (by omega)) d_Bd_hashEntry_71 (b := rk) (by rw [nI_clamp (by omega)]; exact hrk) ?_
                          refine lv_iload_n hx hb d_Bd_hashEntry_72 rfl (lv_at hl 0 rfl) ?_
                          refine va_lald hx hb hK hP 3 0 rfl rfl (vp_lit rfl) d_Bd_hashEntry_73 ?_
                          rw [show (rw (2 : Int32).toNatClampNeg : Int64) = rw 2 from rfl]
                          have hPc := hP.sub (ws' := (ha_ws h0 aw ax ay cJ cI g_34 sc st 6)) [5, 6, 7, 8] rfl
                          have hDc := hD.sub (ws' := (ha_ws h0 aw ax ay cJ cI g_34 sc st 6)) [5, 6, 7, 8] (by decide) rfl
                          have hKc := hK.sub (tys' := [(cJ, .long), (cI, .int)]) [0, 1] rfl
                          have hFc := va_free (wc := (ha_ws h0 aw ax ay cJ cI g_34 sc st 6)) hD hS hA [5, 6, 7, 8] rfl
                          refine va_callv (va_runV (As := [.long (rw 2)]) (rest := []) ⟨hx, hb, hml, hown, hts⟩ (c_Ha_add l dC dI h0 H.size aw ax ay cJ cI g_34 sc st 6 (rw 2) (by decide)) (cwV 1 hts (gw_V gk_592 gk_507 gk_508 gk_2 gk_509) rfl rfl rfl (by decide +kernel) ⟨Nat.le_of_ble_eq_true rfl, Nat.le_of_ble_eq_true rfl⟩) ⟨fun a U g mk q => by obtain ⟨q0, q1, qP, qK, qD⟩ := q; exact ⟨q0, q1, qP, va_K.moved (u := U) (U := U.calling g mk a) (Vm.Alike.refl U.vm) qK, qD⟩, va_recv hK hP (ci := 2) (q0 := 5) rfl rfl, fun U hU hW => ⟨rfl, by rw [hU], by rw [hU]; exact hPc, va_K.moved hW.alike hKc, hDc.weaken (fun _ _ _ _ => trivial)⟩⟩ rfl rfl hl.1 rfl (lv_room (Nat.le_of_ble_eq_true rfl)) d_Bd_hashEntry_74 ⟨Nat.le_of_ble_eq_true rfl, Nat.le_of_ble_eq_true rfl⟩) hS (fun q _ h => hFc q h) hFc (fun u9 t9 H1 locs ht hvm hw hB hz1 hk1 hS => ?_)
                          obtain ⟨hP1, hK1, hD1⟩ := hB
                          rw [ht] at hP1
                          obtain ⟨hP, hD⟩ := va_join (wr := [(bd0, .inr (3, [.ref h0, .ref ro, .ref lo, .int (nI n)])), (ro, .inl (cR, 154, .inr (.inr (.inr (.inr rr))))), (lo, .inl (cR, 154, .inr (.inr (.inr (.inr lr))))), (rk, .inl (cJ, 8, .inr (.inl rw))), (lp, .inl (cJ, 4, .inr (.inl lw)))]) (w1 := [(h0, .inr (2, [.ref aw, .ref ax, .ref ay, .int (nI 7)])), (aw, .inl (cJ, 16, .inr (.inl (vp_updL g_34 6 (rw 2))))), (ax, .inl (cI, 64, .inl sc)), (ay, .inl (cI, 8, .inl st))]) hP hD [5, 6, 7, 8] [0, 1, 2, 3, 4] rfl rfl (by decide) (by decide) hk1 hFc hP1 hD1
                          have hP := hP.sub (ws' := [(bd0, .inr (3, [.ref h0, .ref ro, .ref lo, .int (nI n)])), (ro, .inl (cR, 154, .inr (.inr (.inr (.inr rr))))), (lo, .inl (cR, 154, .inr (.inr (.inr (.inr lr))))), (rk, .inl (cJ, 8, .inr (.inl rw))), (lp, .inl (cJ, 4, .inr (.inl lw))), (h0, .inr (2, [.ref aw, .ref ax, .ref ay, .int (nI 7)])), (aw, .inl (cJ, 16, .inr (.inl (vp_updL g_34 6 (rw 2))))), (ax, .inl (cI, 64, .inl sc)), (ay, .inl (cI, 8, .inl st))]) [0, 1, 2, 3, 4, 5, 6, 7, 8] rfl
                          have hD := hD.sub (ws' := [(bd0, .inr (3, [.ref h0, .ref ro, .ref lo, .int (nI n)])), (ro, .inl (cR, 154, .inr (.inr (.inr (.inr rr))))), (lo, .inl (cR, 154, .inr (.inr (.inr (.inr lr))))), (rk, .inl (cJ, 8, .inr (.inl rw))), (lp, .inl (cJ, 4, .inr (.inl lw))), (h0, .inr (2, [.ref aw, .ref ax, .ref ay, .int (nI 7)])), (aw, .inl (cJ, 16, .inr (.inl (vp_updL g_34 6 (rw 2))))), (ax, .inl (cI, 64, .inl sc)), (ay, .inl (cI, 8, .inl st))]) [0, 1, 2, 3, 4, 5, 6, 7, 8] (by decide) rfl
                          generalize H1 = H at hP hS ⊢
                          obtain ⟨g_39, eg_39⟩ : ∃ f : Nat → Int64, f = vp_updL g_34 6 (rw 2) := ⟨_, rfl⟩
                          rw [← eg_39] at hP hD
                          have hm_40 : wok g_39 7 [lw 0, lw 1, lw 2, lw 3, rw 0, rw 1, rw 2] := wok_add _ hm_35 eg_39
                          obtain ⟨i_41, ei_41⟩ : ∃ y : Int32, y = 2 + 1 := ⟨_, rfl⟩
                          refine lv_iinc (v := i_41) (lv' := [(3, .int i_41), (2, .int 5), (0, .ref bd0), (1, .int (nI k))]) hx hb d_Bd_hashEntry_77 hl (k := 0) rfl (by rw [ei_41]; rfl) (by decide) rfl (fun ls hl => ?_)
                          obtain rfl : i_41 = 3 := by rw [ei_41]; exact by decide
                          refine lv_goto (tgt := 57) hx hb d_Bd_hashEntry_80 (by decide) ?_
                          refine lv_iload_n hx hb d_Bd_hashEntry_57 rfl (lv_at hl 0 rfl) ?_
                          refine lv_iload_n hx hb d_Bd_hashEntry_58 rfl (lv_at hl 1 rfl) ?_
                          refine lv_icmp_ge (tgt := 83) hx hb d_Bd_hashEntry_59 (by decide) (fun c_42 => ?_) (fun c_42 => ?_)
                          · -- taken
                            exact absurd c_42 (by decide)
                          · -- not taken
                            refine lv_aload_n hx hb d_Bd_hashEntry_62 rfl (lv_at hl 2 rfl) ?_
                            refine va_get (D := (dC, dI)) (ci := 3) (v := .ref h0) (C := "BallotBoard$Board") (T := F_Bo) (N := 4) hx hb hts (fun w9 h9 => List.mem_cons_of_mem _ (i_Bo w9 h9)) hown hK hP 0 rfl rfl 0 (by decide) (hts _ (List.mem_cons_of_mem _ gk_60)) (fun _ h9 => h9) rfl d_Bd_hashEntry_63 ?_
                            refine lv_aload_n hx hb d_Bd_hashEntry_66 rfl (lv_at hl 2 rfl) ?_
                            refine va_get (D := (dC, dI)) (ci := 3) (v := .ref ro) (C := "BallotBoard$Board") (T := F_Bo) (N := 4) hx hb hts (fun w9 h9 => List.mem_cons_of_mem _ (i_Bo w9 h9)) hown hK hP 0 rfl rfl 1 (by decide) (hts _ (List.mem_cons_of_mem _ gk_61)) (fun _ h9 => h9) rfl d_Bd_hashEntry_67 ?_
                            refine lv_iload_n hx hb d_Bd_hashEntry_70 rfl (lv_at hl 3 rfl) ?_
                            refine va_aldA hx hb hK hP 1 2 rfl rfl (vp_in_nI (by omega) (by omega)) d_Bd_hashEntry_71 (b := rk) (by rw [nI_clamp (by omega)]; exact hrk) ?_
                            refine lv_iload_n hx hb d_Bd_hashEntry_72 rfl (lv_at hl 0 rfl) ?_
                            refine va_lald hx hb hK hP 3 0 rfl rfl (vp_lit rfl) d_Bd_hashEntry_73 ?_
                            rw [show (rw (3 : Int32).toNatClampNeg : Int64) = rw 3 from rfl]
                            have hPc := hP.sub (ws' := (ha_ws h0 aw ax ay cJ cI g_39 sc st 7)) [5, 6, 7, 8] rfl
                            have hDc := hD.sub (ws' := (ha_ws h0 aw ax ay cJ cI g_39 sc st 7)) [5, 6, 7, 8] (by decide) rfl
                            have hKc := hK.sub (tys' := [(cJ, .long), (cI, .int)]) [0, 1] rfl
                            have hFc := va_free (wc := (ha_ws h0 aw ax ay cJ cI g_39 sc st 7)) hD hS hA [5, 6, 7, 8] rfl
                            refine va_callv (va_runV (As := [.long (rw 3)]) (rest := []) ⟨hx, hb, hml, hown, hts⟩ (c_Ha_add l dC dI h0 H.size aw ax ay cJ cI g_39 sc st 7 (rw 3) (by decide)) (cwV 1 hts (gw_V gk_592 gk_507 gk_508 gk_2 gk_509) rfl rfl rfl (by decide +kernel) ⟨Nat.le_of_ble_eq_true rfl, Nat.le_of_ble_eq_true rfl⟩) ⟨fun a U g mk q => by obtain ⟨q0, q1, qP, qK, qD⟩ := q; exact ⟨q0, q1, qP, va_K.moved (u := U) (U := U.calling g mk a) (Vm.Alike.refl U.vm) qK, qD⟩, va_recv hK hP (ci := 2) (q0 := 5) rfl rfl, fun U hU hW => ⟨rfl, by rw [hU], by rw [hU]; exact hPc, va_K.moved hW.alike hKc, hDc.weaken (fun _ _ _ _ => trivial)⟩⟩ rfl rfl hl.1 rfl (lv_room (Nat.le_of_ble_eq_true rfl)) d_Bd_hashEntry_74 ⟨Nat.le_of_ble_eq_true rfl, Nat.le_of_ble_eq_true rfl⟩) hS (fun q _ h => hFc q h) hFc (fun u9 t9 H1 locs ht hvm hw hB hz1 hk1 hS => ?_)
                            obtain ⟨hP1, hK1, hD1⟩ := hB
                            rw [ht] at hP1
                            obtain ⟨hP, hD⟩ := va_join (wr := [(bd0, .inr (3, [.ref h0, .ref ro, .ref lo, .int (nI n)])), (ro, .inl (cR, 154, .inr (.inr (.inr (.inr rr))))), (lo, .inl (cR, 154, .inr (.inr (.inr (.inr lr))))), (rk, .inl (cJ, 8, .inr (.inl rw))), (lp, .inl (cJ, 4, .inr (.inl lw)))]) (w1 := [(h0, .inr (2, [.ref aw, .ref ax, .ref ay, .int (nI 8)])), (aw, .inl (cJ, 16, .inr (.inl (vp_updL g_39 7 (rw 3))))), (ax, .inl (cI, 64, .inl sc)), (ay, .inl (cI, 8, .inl st))]) hP hD [5, 6, 7, 8] [0, 1, 2, 3, 4] rfl rfl (by decide) (by decide) hk1 hFc hP1 hD1
                            have hP := hP.sub (ws' := [(bd0, .inr (3, [.ref h0, .ref ro, .ref lo, .int (nI n)])), (ro, .inl (cR, 154, .inr (.inr (.inr (.inr rr))))), (lo, .inl (cR, 154, .inr (.inr (.inr (.inr lr))))), (rk, .inl (cJ, 8, .inr (.inl rw))), (lp, .inl (cJ, 4, .inr (.inl lw))), (h0, .inr (2, [.ref aw, .ref ax, .ref ay, .int (nI 8)])), (aw, .inl (cJ, 16, .inr (.inl (vp_updL g_39 7 (rw 3))))), (ax, .inl (cI, 64, .inl sc)), (ay, .inl (cI, 8, .inl st))]) [0, 1, 2, 3, 4, 5, 6, 7, 8] rfl
                            have hD := hD.sub (ws' := [(bd0, .inr (3, [.ref h0, .ref ro, .ref lo, .int (nI n)])), (ro, .inl (cR, 154, .inr (.inr (.inr (.inr rr))))), (lo, .inl (cR, 154, .inr (.inr (.inr (.inr lr))))), (rk, .inl (cJ, 8, .inr (.inl rw))), (lp, .inl (cJ, 4, .inr (.inl lw))), (h0, .inr (2, [.ref aw, .ref ax, .ref ay, .int (nI 8)])), (aw, .inl (cJ, 16, .inr (.inl (vp_updL g_39 7 (rw 3))))), (ax, .inl (cI, 64, .inl sc)), (ay, .inl (cI, 8, .inl st))]) [0, 1, 2, 3, 4, 5, 6, 7, 8] (by decide) rfl
                            generalize H1 = H at hP hS ⊢
                            obtain ⟨g_44, eg_44⟩ : ∃ f : Nat → Int64, f = vp_updL g_39 7 (rw 3) := ⟨_, rfl⟩
                            rw [← eg_44] at hP hD
                            have hm_45 : wok g_44 8 [lw 0, lw 1, lw 2, lw 3, rw 0, rw 1, rw 2, rw 3] := wok_add _ hm_40 eg_44
                            obtain ⟨i_46, ei_46⟩ : ∃ y : Int32, y = 3 + 1 := ⟨_, rfl⟩
                            refine lv_iinc (v := i_46) (lv' := [(3, .int i_46), (2, .int 5), (0, .ref bd0), (1, .int (nI k))]) hx hb d_Bd_hashEntry_77 hl (k := 0) rfl (by rw [ei_46]; rfl) (by decide) rfl (fun ls hl => ?_)
                            obtain rfl : i_46 = 4 := by rw [ei_46]; exact by decide
                            refine lv_goto (tgt := 57) hx hb d_Bd_hashEntry_80 (by decide) ?_
                            refine lv_iload_n hx hb d_Bd_hashEntry_57 rfl (lv_at hl 0 rfl) ?_
                            refine lv_iload_n hx hb d_Bd_hashEntry_58 rfl (lv_at hl 1 rfl) ?_
                            refine lv_icmp_ge (tgt := 83) hx hb d_Bd_hashEntry_59 (by decide) (fun c_47 => ?_) (fun c_47 => ?_)
                            · -- taken
                              exact absurd c_47 (by decide)
                            · -- not taken
                              refine lv_aload_n hx hb d_Bd_hashEntry_62 rfl (lv_at hl 2 rfl) ?_
                              refine va_get (D := (dC, dI)) (ci := 3) (v := .ref h0) (C := "BallotBoard$Board") (T := F_Bo) (N := 4) hx hb hts (fun w9 h9 => List.mem_cons_of_mem _ (i_Bo w9 h9)) hown hK hP 0 rfl rfl 0 (by decide) (hts _ (List.mem_cons_of_mem _ gk_60)) (fun _ h9 => h9) rfl d_Bd_hashEntry_63 ?_
                              refine lv_aload_n hx hb d_Bd_hashEntry_66 rfl (lv_at hl 2 rfl) ?_
                              refine va_get (D := (dC, dI)) (ci := 3) (v := .ref ro) (C := "BallotBoard$Board") (T := F_Bo) (N := 4) hx hb hts (fun w9 h9 => List.mem_cons_of_mem _ (i_Bo w9 h9)) hown hK hP 0 rfl rfl 1 (by decide) (hts _ (List.mem_cons_of_mem _ gk_61)) (fun _ h9 => h9) rfl d_Bd_hashEntry_67 ?_
                              refine lv_iload_n hx hb d_Bd_hashEntry_70 rfl (lv_at hl 3 rfl) ?_
                              refine va_aldA hx hb hK hP 1 2 rfl rfl (vp_in_nI (by omega) (by omega)) d_Bd_hashEntry_71 (b := rk) (by rw [nI_clamp (by omega)]; exact hrk) ?_
                              refine lv_iload_n hx hb d_Bd_hashEntry_72 rfl (lv_at hl 0 rfl) ?_
                              refine va_lald hx hb hK hP 3 0 rfl rfl (vp_lit rfl) d_Bd_hashEntry_73 ?_
                              rw [show (rw (4 : Int32).toNatClampNeg : Int64) = rw 4 from rfl]
                              have hPc := hP.sub (ws' := (ha_ws h0 aw ax ay cJ cI g_44 sc st 8)) [5, 6, 7, 8] rfl
                              have hDc := hD.sub (ws' := (ha_ws h0 aw ax ay cJ cI g_44 sc st 8)) [5, 6, 7, 8] (by decide) rfl
                              have hKc := hK.sub (tys' := [(cJ, .long), (cI, .int)]) [0, 1] rfl
                              have hFc := va_free (wc := (ha_ws h0 aw ax ay cJ cI g_44 sc st 8)) hD hS hA [5, 6, 7, 8] rfl
                              refine va_callv (va_runV (As := [.long (rw 4)]) (rest := []) ⟨hx, hb, hml, hown, hts⟩ (c_Ha_add l dC dI h0 H.size aw ax ay cJ cI g_44 sc st 8 (rw 4) (by decide)) (cwV 1 hts (gw_V gk_592 gk_507 gk_508 gk_2 gk_509) rfl rfl rfl (by decide +kernel) ⟨Nat.le_of_ble_eq_true rfl, Nat.le_of_ble_eq_true rfl⟩) ⟨fun a U g mk q => by obtain ⟨q0, q1, qP, qK, qD⟩ := q; exact ⟨q0, q1, qP, va_K.moved (u := U) (U := U.calling g mk a) (Vm.Alike.refl U.vm) qK, qD⟩, va_recv hK hP (ci := 2) (q0 := 5) rfl rfl, fun U hU hW => ⟨rfl, by rw [hU], by rw [hU]; exact hPc, va_K.moved hW.alike hKc, hDc.weaken (fun _ _ _ _ => trivial)⟩⟩ rfl rfl hl.1 rfl (lv_room (Nat.le_of_ble_eq_true rfl)) d_Bd_hashEntry_74 ⟨Nat.le_of_ble_eq_true rfl, Nat.le_of_ble_eq_true rfl⟩) hS (fun q _ h => hFc q h) hFc (fun u9 t9 H1 locs ht hvm hw hB hz1 hk1 hS => ?_)
                              obtain ⟨hP1, hK1, hD1⟩ := hB
                              rw [ht] at hP1
                              obtain ⟨hP, hD⟩ := va_join (wr := [(bd0, .inr (3, [.ref h0, .ref ro, .ref lo, .int (nI n)])), (ro, .inl (cR, 154, .inr (.inr (.inr (.inr rr))))), (lo, .inl (cR, 154, .inr (.inr (.inr (.inr lr))))), (rk, .inl (cJ, 8, .inr (.inl rw))), (lp, .inl (cJ, 4, .inr (.inl lw)))]) (w1 := [(h0, .inr (2, [.ref aw, .ref ax, .ref ay, .int (nI 9)])), (aw, .inl (cJ, 16, .inr (.inl (vp_updL g_44 8 (rw 4))))), (ax, .inl (cI, 64, .inl sc)), (ay, .inl (cI, 8, .inl st))]) hP hD [5, 6, 7, 8] [0, 1, 2, 3, 4] rfl rfl (by decide) (by decide) hk1 hFc hP1 hD1
                              have hP := hP.sub (ws' := [(bd0, .inr (3, [.ref h0, .ref ro, .ref lo, .int (nI n)])), (ro, .inl (cR, 154, .inr (.inr (.inr (.inr rr))))), (lo, .inl (cR, 154, .inr (.inr (.inr (.inr lr))))), (rk, .inl (cJ, 8, .inr (.inl rw))), (lp, .inl (cJ, 4, .inr (.inl lw))), (h0, .inr (2, [.ref aw, .ref ax, .ref ay, .int (nI 9)])), (aw, .inl (cJ, 16, .inr (.inl (vp_updL g_44 8 (rw 4))))), (ax, .inl (cI, 64, .inl sc)), (ay, .inl (cI, 8, .inl st))]) [0, 1, 2, 3, 4, 5, 6, 7, 8] rfl
                              have hD := hD.sub (ws' := [(bd0, .inr (3, [.ref h0, .ref ro, .ref lo, .int (nI n)])), (ro, .inl (cR, 154, .inr (.inr (.inr (.inr rr))))), (lo, .inl (cR, 154, .inr (.inr (.inr (.inr lr))))), (rk, .inl (cJ, 8, .inr (.inl rw))), (lp, .inl (cJ, 4, .inr (.inl lw))), (h0, .inr (2, [.ref aw, .ref ax, .ref ay, .int (nI 9)])), (aw, .inl (cJ, 16, .inr (.inl (vp_updL g_44 8 (rw 4))))), (ax, .inl (cI, 64, .inl sc)), (ay, .inl (cI, 8, .inl st))]) [0, 1, 2, 3, 4, 5, 6, 7, 8] (by decide) rfl
                              generalize H1 = H at hP hS ⊢
                              obtain ⟨g_49, eg_49⟩ : ∃ f : Nat → Int64, f = vp_updL g_44 8 (rw 4) := ⟨_, rfl⟩
                              rw [← eg_49] at hP hD
                              have hm_50 : wok g_49 9 [lw 0, lw 1, lw 2, lw 3, rw 0, rw 1, rw 2, rw 3, rw 4] := wok_add _ hm_45 eg_49
                              obtain ⟨i_51, ei_51⟩ : ∃ y : Int32, y = 4 + 1 := ⟨_, rfl⟩
                              refine lv_iinc (v := i_51) (lv' := [(3, .int i_51), (2, .int 5), (0, .ref bd0), (1, .int (nI k))]) hx hb d_Bd_hashEntry_77 hl (k := 0) rfl (by rw [ei_51]; rfl) (by decide) rfl (fun ls hl => ?_)
                              obtain rfl : i_51 = 5 := by rw [ei_51]; exact by decide
                              refine lv_goto (tgt := 57) hx hb d_Bd_hashEntry_80 (by decide) ?_
                              refine lv_iload_n hx hb d_Bd_hashEntry_57 rfl (lv_at hl 0 rfl) ?_
                              refine lv_iload_n hx hb d_Bd_hashEntry_58 rfl (lv_at hl 1 rfl) ?_
                              refine lv_icmp_ge (tgt := 83) hx hb d_Bd_hashEntry_59 (by decide) (fun c_52 => ?_) (fun c_52 => ?_)
                              · -- taken
                                refine lv_aload_n hx hb d_Bd_hashEntry_83 rfl (lv_at hl 2 rfl) ?_
                                refine va_get (D := (dC, dI)) (ci := 3) (v := .ref h0) (C := "BallotBoard$Board") (T := F_Bo) (N := 4) hx hb hts (fun w9 h9 => List.mem_cons_of_mem _ (i_Bo w9 h9)) hown hK hP 0 rfl rfl 0 (by decide) (hts _ (List.mem_cons_of_mem _ gk_60)) (fun _ h9 => h9) rfl d_Bd_hashEntry_84 ?_
                                have hPc := hP.sub (ws' := (ha_ws h0 aw ax ay cJ cI g_49 sc st 9)) [5, 6, 7, 8] rfl
                                have hDc := hD.sub (ws' := (ha_ws h0 aw ax ay cJ cI g_49 sc st 9)) [5, 6, 7, 8] (by decide) rfl
                                have hKc := hK.sub (tys' := [(cJ, .long), (cI, .int)]) [0, 1] rfl
                                have hFc := va_free (wc := (ha_ws h0 aw ax ay cJ cI g_49 sc st 9)) hD hS hA [5, 6, 7, 8] rfl
                                have hZc0 : ha_Z rA sA (va_A (ha_ws h0 aw ax ay cJ cI g_49 sc st 9) H.size) s H := (hZha.kept hS.2.1).narrow hFc
                                refine va_callv (va_runV (As := []) (rest := []) ⟨hx, hb, hml, hown, hts⟩ (c_Ha_finish l dC dI h0 H.size aw ax ay cJ cI g_49 sc st 9 rA sA (by decide)) (cwV 0 hts (gw_V gk_597 gk_516 gk_517 gk_2 gk_518) rfl rfl rfl (by decide +kernel) ⟨Nat.le_of_ble_eq_true rfl, Nat.le_of_ble_eq_true rfl⟩) ⟨fun a U g mk q => by obtain ⟨q0, q1, qP, qK, qD, qZ0⟩ := q; exact ⟨q0, q1, qP, va_K.moved (u := U) (U := U.calling g mk a) (Vm.Alike.refl U.vm) qK, qD, ha_Z.moved (u := U) (U := U.calling g mk a) (Vm.Alike.refl U.vm) qZ0⟩, va_recv hK hP (ci := 2) (q0 := 5) rfl rfl, fun U hU hW => ⟨rfl, by rw [hU], by rw [hU]; exact hPc, va_K.moved hW.alike hKc, hDc.weaken (fun _ _ _ _ => trivial), by rw [hU]; exact ha_Z.moved hW.alike hZc0⟩⟩ rfl rfl hl.1 rfl (lv_room (Nat.le_of_ble_eq_true rfl)) d_Bd_hashEntry_87 ⟨Nat.le_of_ble_eq_true rfl, Nat.le_of_ble_eq_true rfl⟩) hS (fun q _ h => hFc q h) hFc (fun u9 t9 H1 locs ht hvm hw hB hz1 hk1 hS => ?_)
                                obtain ⟨hP1, hK1, hD1⟩ := hB
                                rw [ht] at hP1
                                obtain ⟨hP, hD⟩ := va_join (wr := [(bd0, .inr (3, [.ref h0, .ref ro, .ref lo, .int (nI n)])), (ro, .inl (cR, 154, .inr (.inr (.inr (.inr rr))))), (lo, .inl (cR, 154, .inr (.inr (.inr (.inr lr))))), (rk, .inl (cJ, 8, .inr (.inl rw))), (lp, .inl (cJ, 4, .inr (.inl lw)))]) (w1 := [(h0, .inr (2, [.ref aw, .ref ax, .ref ay, .int (nI 9)])), (aw, .inl (cJ, 16, .inr (.inl (pw g_49 9)))), (ax, .inl (cI, 64, .inl ((hbk (pw g_49 9) sc (va_cpy kS st 0 0 8) (pdl 9 / 8)).1))), (ay, .inl (cI, 8, .inl ((hbk (pw g_49 9) sc (va_cpy kS st 0 0 8) (pdl 9 / 8)).2)))]) hP hD [5, 6, 7, 8] [0, 1, 2, 3, 4] rfl rfl (by decide) (by decide) hk1 hFc hP1 hD1
                                have hP := hP.sub (ws' := [(bd0, .inr (3, [.ref h0, .ref ro, .ref lo, .int (nI n)])), (ro, .inl (cR, 154, .inr (.inr (.inr (.inr rr))))), (lo, .inl (cR, 154, .inr (.inr (.inr (.inr lr))))), (rk, .inl (cJ, 8, .inr (.inl rw))), (lp, .inl (cJ, 4, .inr (.inl lw))), (h0, .inr (2, [.ref aw, .ref ax, .ref ay, .int (nI 9)])), (aw, .inl (cJ, 16, .inr (.inl (pw g_49 9)))), (ax, .inl (cI, 64, .inl ((hbk (pw g_49 9) sc (va_cpy kS st 0 0 8) (pdl 9 / 8)).1))), (ay, .inl (cI, 8, .inl ((hbk (pw g_49 9) sc (va_cpy kS st 0 0 8) (pdl 9 / 8)).2)))]) [0, 1, 2, 3, 4, 5, 6, 7, 8] rfl
                                have hD := hD.sub (ws' := [(bd0, .inr (3, [.ref h0, .ref ro, .ref lo, .int (nI n)])), (ro, .inl (cR, 154, .inr (.inr (.inr (.inr rr))))), (lo, .inl (cR, 154, .inr (.inr (.inr (.inr lr))))), (rk, .inl (cJ, 8, .inr (.inl rw))), (lp, .inl (cJ, 4, .inr (.inl lw))), (h0, .inr (2, [.ref aw, .ref ax, .ref ay, .int (nI 9)])), (aw, .inl (cJ, 16, .inr (.inl (pw g_49 9)))), (ax, .inl (cI, 64, .inl ((hbk (pw g_49 9) sc (va_cpy kS st 0 0 8) (pdl 9 / 8)).1))), (ay, .inl (cI, 8, .inl ((hbk (pw g_49 9) sc (va_cpy kS st 0 0 8) (pdl 9 / 8)).2)))]) [0, 1, 2, 3, 4, 5, 6, 7, 8] (by decide) rfl
                                generalize H1 = H at hP hS ⊢
                                obtain ⟨g_54, eg_54⟩ : ∃ f : Nat → Int32, f = (hbk (pw g_49 9) sc (va_cpy kS st 0 0 8) (pdl 9 / 8)).1 := ⟨_, rfl⟩
                                rw [← eg_54] at hP hD
                                obtain ⟨g_55, eg_55⟩ : ∃ f : Nat → Int32, f = (hbk (pw g_49 9) sc (va_cpy kS st 0 0 8) (pdl 9 / 8)).2 := ⟨_, rfl⟩
                                rw [← eg_55] at hP hD
                                obtain ⟨g_56, eg_56⟩ : ∃ f : Nat → Int64, f = pw g_49 9 := ⟨_, rfl⟩
                                rw [← eg_56] at hP hD
                                have hn_57 := hN_of hm_50 (by decide) eg_55
                                exact W.vret hx hb hr (fun t ht9 hW => ⟨⟨(g_56, g_54, g_55, 9), rfl, (dg_of hm_50 (by decide) eg_55), by rw [ht9]; exact hP, va_K.moved hW.alike hK, hD⟩, hS.F ht9⟩) hS.2.2 d_Bd_hashEntry_90
                              · -- not taken
                                exact absurd c_52 (by decide)
                  · -- not taken
                    exact absurd c_26 (by decide)
                · -- not taken
                  exact absurd c_21 (nI_ne0 hk0 (by omega))
            · -- not taken
              exact absurd c_15 (nI_ne0 hk0 (by omega))
        · -- not taken
          exact absurd c_9 (nI_ne0 hk0 (by omega))
    · -- not taken
      exact absurd c_3 (nI_ne0 hk0 (by omega))
set_option maxHeartbeats 8000000 in
set_option maxRecDepth 100000 in
theorem c_Bd_hashEntry_8 (l : Launch) (dC : Nat → ClassId) (dI : Nat → Nat → Nat) (cJ cI cR : ClassId) (sz : Nat) (bd0 h0 ro lo n : Nat) (rr lr : Nat → Option Nat) (aw ax ay : Nat) (w : Nat → Int64) (sc st : Nat → Int32) (L : Nat) (rA sA : Nat) (k rk : Nat) (rw : Nat → Int64) (K : Nat) (lp : Nat) (lw : Nat → Int64) (hk : k < 154) (hrk : rr k = some rk) (hr0 : rw 0 = lN K) (hK4 : K < 4) (hK2 : K = 2) (hk0 : 0 < k) (hlp : lr (k - 1) = some lp) : Met l y_Bd_hashEntry w_Bd_hashEntry ({ frames := 3, cells := 0, slots := 0, locals := 82 }) (va_Pc [.ref bd0, .int (nI k)] (fun U => U.heap.size = sz ∧ va_P (dC, dI) classes (bd_ws bd0 h0 ro lo n cR rr lr ++ (rw_ws rk cJ rw ++ (lk_ws lp cJ lw ++ (ha_ws h0 aw ax ay cJ cI w sc st L)))) U.heap ∧ va_K (dC, dI) classes [(cJ, .long), (cI, .int), (cR, .array .long)] U ∧ va_D (fun _ => True) (bd_ws bd0 h0 ro lo n cR rr lr ++ (rw_ws rk cJ rw ++ (lk_ws lp cJ lw ++ (ha_ws h0 aw ax ay cJ cI w sc st L)))) ∧ ha_Z rA sA (va_A (bd_ws bd0 h0 ro lo n cR rr lr ++ (rw_ws rk cJ rw ++ (lk_ws lp cJ lw ++ (ha_ws h0 aw ax ay cJ cI w sc st L)))) sz) U U.heap)) (va_Qv (fun u9 : HU => dgo u9.2.2.1 [lw 0, lw 1, lw 2, lw 3, rw 0, rw 1, rw 2, rw 3, rw 4, rw 5, rw 6, rw 7]) (fun u9 t => va_P (dC, dI) classes (bd_ws bd0 h0 ro lo n cR rr lr ++ (rw_ws rk cJ rw ++ (lk_ws lp cJ lw ++ (hu_ws h0 aw ax ay cJ cI u9)))) t.heap ∧ va_K (dC, dI) classes [(cJ, .long), (cI, .int), (cR, .array .long)] t ∧ va_D (va_A (bd_ws bd0 h0 ro lo n cR rr lr ++ (rw_ws rk cJ rw ++ (lk_ws lp cJ lw ++ (ha_ws h0 aw ax ay cJ cI w sc st L)))) sz) (bd_ws bd0 h0 ro lo n cR rr lr ++ (rw_ws rk cJ rw ++ (lk_ws lp cJ lw ++ (hu_ws h0 aw ax ay cJ cI u9))))) (va_A (bd_ws bd0 h0 ro lo n cR rr lr ++ (rw_ws rk cJ rw ++ (lk_ws lp cJ lw ++ (ha_ws h0 aw ax ay cJ cI w sc st L)))) sz)) 0 0 (va_A (bd_ws bd0 h0 ro lo n cR rr lr ++ (rw_ws rk cJ rw ++ (lk_ws lp cJ lw ++ (ha_ws h0 aw ax ay cJ cI w sc st L)))) sz) := by
  refine Met.ofW (cc := b_Bd_hashEntry) (maxL := 4) (ret := none) (by decide) rfl ?_
  intro p e s m args below meth c s₁ Bd hml hv
  obtain ⟨rfl, hsz, hP, hK, hD0, hZha⟩ := hv
  have hx := Bd.exec
  have hb := Bd.bytes
  have hr := Bd.returns
  have hts := atoms_spec (ws := w_Bd_hashEntry) Bd.pre
  have hown : s.vm.findClass "BallotBoard$Board" = some m.cls := findClass_of_methodNamed Bd.named
  have hlocks := Bd.notSynchronized
  subst hsz
  have hD := hD0.self (sz := s.heap.size)
  generalize hAe : va_A (bd_ws bd0 h0 ro lo n cR rr lr ++ (rw_ws rk cJ rw ++ (lk_ws lp cJ lw ++ (ha_ws h0 aw ax ay cJ cI w sc st L)))) s.heap.size = A at hD hZha ⊢
  have hA : ∀ q : Nat, s.heap.size ≤ q → A q := fun q h => by rw [← hAe]; exact Or.inr h
  have hS : va_S A s.heap s.heap [] := va_S.rf
  have hl := lv_entry ([.ref bd0, .int (nI k)]) (n := 4) (Nat.le_of_ble_eq_true rfl)
  rw [lg_entry_eq]
  generalize (lg_sl ([.ref bd0, .int (nI k)]) ++ List.replicate (4 - (lg_sl ([.ref bd0, .int (nI k)])).length) Slot.unset).toArray = ls at hl ⊢
  have hl : lv_has ls 4 [(0, .ref bd0), (1, .int (nI k))] := hl
  refine lv_aload_n hx hb d_Bd_hashEntry_0 rfl (lv_at hl 0 rfl) ?_
  refine va_get (D := (dC, dI)) (ci := 3) (v := .ref h0) (C := "BallotBoard$Board") (T := F_Bo) (N := 4) hx hb hts (fun w9 h9 => List.mem_cons_of_mem _ (i_Bo w9 h9)) hown hK hP 0 rfl rfl 0 (by decide) (hts _ (List.mem_cons_of_mem _ gk_60)) (fun _ h9 => h9) rfl d_Bd_hashEntry_1 ?_
  have hPc := hP.sub (ws' := (ha_ws h0 aw ax ay cJ cI w sc st L)) [5, 6, 7, 8] rfl
  have hDc := hD.sub (ws' := (ha_ws h0 aw ax ay cJ cI w sc st L)) [5, 6, 7, 8] (by decide) rfl
  have hKc := hK.sub (tys' := [(cJ, .long), (cI, .int)]) [0, 1] rfl
  have hFc := va_free (wc := (ha_ws h0 aw ax ay cJ cI w sc st L)) hD hS hA [5, 6, 7, 8] rfl
  refine va_callv (va_runV (As := []) (rest := []) ⟨hx, hb, hml, hown, hts⟩ (c_Ha_start l dC dI h0 s.heap.size aw ax ay cJ cI w sc st L) (cwV 0 hts (gw_V gk_591 gk_499 gk_500 gk_2 gk_501) rfl rfl rfl (by decide +kernel) ⟨Nat.le_of_ble_eq_true rfl, Nat.le_of_ble_eq_true rfl⟩) ⟨fun a U g mk q => by obtain ⟨q0, q1, qP, qK, qD⟩ := q; exact ⟨q0, q1, qP, va_K.moved (u := U) (U := U.calling g mk a) (Vm.Alike.refl U.vm) qK, qD⟩, va_recv hK hP (ci := 2) (q0 := 5) rfl rfl, fun U hU hW => ⟨rfl, by rw [hU], by rw [hU]; exact hPc, va_K.moved hW.alike hKc, hDc.weaken (fun _ _ _ _ => trivial)⟩⟩ rfl rfl hl.1 rfl (lv_room (Nat.le_of_ble_eq_true rfl)) d_Bd_hashEntry_4 ⟨Nat.le_of_ble_eq_true rfl, Nat.le_of_ble_eq_true rfl⟩) hS (fun q _ h => hFc q h) hFc (fun u9 t9 H1 locs ht hvm hw hB hz1 hk1 hS => ?_)
  obtain ⟨hP1, hK1, hD1⟩ := hB
  rw [ht] at hP1
  obtain ⟨hP, hD⟩ := va_join (wr := [(bd0, .inr (3, [.ref h0, .ref ro, .ref lo, .int (nI n)])), (ro, .inl (cR, 154, .inr (.inr (.inr (.inr rr))))), (lo, .inl (cR, 154, .inr (.inr (.inr (.inr lr))))), (rk, .inl (cJ, 8, .inr (.inl rw))), (lp, .inl (cJ, 4, .inr (.inl lw)))]) (w1 := [(h0, .inr (2, [.ref aw, .ref ax, .ref ay, .int (nI 0)])), (aw, .inl (cJ, 16, .inr (.inl w))), (ax, .inl (cI, 64, .inl sc)), (ay, .inl (cI, 8, .inl st))]) hP hD [5, 6, 7, 8] [0, 1, 2, 3, 4] rfl rfl (by decide) (by decide) hk1 hFc hP1 hD1
  have hP := hP.sub (ws' := [(bd0, .inr (3, [.ref h0, .ref ro, .ref lo, .int (nI n)])), (ro, .inl (cR, 154, .inr (.inr (.inr (.inr rr))))), (lo, .inl (cR, 154, .inr (.inr (.inr (.inr lr))))), (rk, .inl (cJ, 8, .inr (.inl rw))), (lp, .inl (cJ, 4, .inr (.inl lw))), (h0, .inr (2, [.ref aw, .ref ax, .ref ay, .int (nI 0)])), (aw, .inl (cJ, 16, .inr (.inl w))), (ax, .inl (cI, 64, .inl sc)), (ay, .inl (cI, 8, .inl st))]) [0, 1, 2, 3, 4, 5, 6, 7, 8] rfl
  have hD := hD.sub (ws' := [(bd0, .inr (3, [.ref h0, .ref ro, .ref lo, .int (nI n)])), (ro, .inl (cR, 154, .inr (.inr (.inr (.inr rr))))), (lo, .inl (cR, 154, .inr (.inr (.inr (.inr lr))))), (rk, .inl (cJ, 8, .inr (.inl rw))), (lp, .inl (cJ, 4, .inr (.inl lw))), (h0, .inr (2, [.ref aw, .ref ax, .ref ay, .int (nI 0)])), (aw, .inl (cJ, 16, .inr (.inl w))), (ax, .inl (cI, 64, .inl sc)), (ay, .inl (cI, 8, .inl st))]) [0, 1, 2, 3, 4, 5, 6, 7, 8] (by decide) rfl
  generalize H1 = H at hP hS ⊢
  have hm0 := wok_0 w
  refine lv_iconst (v := 0) hx hb d_Bd_hashEntry_7 (by decide) ?_
  refine lv_istore_n (lv' := [(2, .int 0), (0, .ref bd0), (1, .int (nI k))]) hx hb d_Bd_hashEntry_8 rfl hl (by decide) rfl (fun ls hl => ?_)
  refine lv_iload_n hx hb d_Bd_hashEntry_9 rfl (lv_at hl 0 rfl) ?_
  refine lv_iconst (v := 4) hx hb d_Bd_hashEntry_10 (by decide) ?_
  refine lv_icmp_ge (tgt := 45) hx hb d_Bd_hashEntry_11 (by decide) (fun c_2 => ?_) (fun c_2 => ?_)
  · -- taken
    exact absurd c_2 (by decide)
  · -- not taken
    refine lv_aload_n hx hb d_Bd_hashEntry_14 rfl (lv_at hl 1 rfl) ?_
    refine va_get (D := (dC, dI)) (ci := 3) (v := .ref h0) (C := "BallotBoard$Board") (T := F_Bo) (N := 4) hx hb hts (fun w9 h9 => List.mem_cons_of_mem _ (i_Bo w9 h9)) hown hK hP 0 rfl rfl 0 (by decide) (hts _ (List.mem_cons_of_mem _ gk_60)) (fun _ h9 => h9) rfl d_Bd_hashEntry_15 ?_
    refine lv_iload_n hx hb d_Bd_hashEntry_18 rfl (lv_at hl 2 rfl) ?_
    refine lv_if_ne (tgt := 26) hx hb d_Bd_hashEntry_19 (by decide) (fun c_3 => ?_) (fun c_3 => ?_)
    · -- taken
      refine lv_aload_n hx hb d_Bd_hashEntry_26 rfl (lv_at hl 1 rfl) ?_
      refine va_get (D := (dC, dI)) (ci := 3) (v := .ref lo) (C := "BallotBoard$Board") (T := F_Bo) (N := 4) hx hb hts (fun w9 h9 => List.mem_cons_of_mem _ (i_Bo w9 h9)) hown hK hP 0 rfl rfl 2 (by decide) (hts _ (List.mem_cons_of_mem _ gk_62)) (fun _ h9 => h9) rfl d_Bd_hashEntry_27 ?_
      refine lv_iload_n hx hb d_Bd_hashEntry_30 rfl (lv_at hl 2 rfl) ?_
      refine lv_iconst (v := 1) hx hb d_Bd_hashEntry_31 (by decide) ?_
      refine lv_isub hx hb d_Bd_hashEntry_32 ?_
      rw [show ((nI k) - 1 : Int32) = (nI (k - 1)) from nI_subI (b := 1) (by omega) rfl]
      refine va_aldA hx hb hK hP 2 2 rfl rfl (vp_in_nI (by omega) (by omega)) d_Bd_hashEntry_33 (b := lp) (by rw [nI_clamp (by omega)]; exact hlp) ?_
      refine lv_iload_n hx hb d_Bd_hashEntry_34 rfl (lv_at hl 0 rfl) ?_
      refine va_lald hx hb hK hP 4 0 rfl rfl (vp_lit rfl) d_Bd_hashEntry_35 ?_
      rw [show (lw (0 : Int32).toNatClampNeg : Int64) = lw 0 from rfl]
      have hPc := hP.sub (ws' := (ha_ws h0 aw ax ay cJ cI w sc st 0)) [5, 6, 7, 8] rfl
      have hDc := hD.sub (ws' := (ha_ws h0 aw ax ay cJ cI w sc st 0)) [5, 6, 7, 8] (by decide) rfl
      have hKc := hK.sub (tys' := [(cJ, .long), (cI, .int)]) [0, 1] rfl
      have hFc := va_free (wc := (ha_ws h0 aw ax ay cJ cI w sc st 0)) hD hS hA [5, 6, 7, 8] rfl
      refine va_callv (va_runV (As := [.long (lw 0)]) (rest := []) ⟨hx, hb, hml, hown, hts⟩ (c_Ha_add l dC dI h0 H.size aw ax ay cJ cI w sc st 0 (lw 0) (by decide)) (cwV 1 hts (gw_V gk_592 gk_507 gk_508 gk_2 gk_509) rfl rfl rfl (by decide +kernel) ⟨Nat.le_of_ble_eq_true rfl, Nat.le_of_ble_eq_true rfl⟩) ⟨fun a U g mk q => by obtain ⟨q0, q1, qP, qK, qD⟩ := q; exact ⟨q0, q1, qP, va_K.moved (u := U) (U := U.calling g mk a) (Vm.Alike.refl U.vm) qK, qD⟩, va_recv hK hP (ci := 2) (q0 := 5) rfl rfl, fun U hU hW => ⟨rfl, by rw [hU], by rw [hU]; exact hPc, va_K.moved hW.alike hKc, hDc.weaken (fun _ _ _ _ => trivial)⟩⟩ rfl rfl hl.1 rfl (lv_room (Nat.le_of_ble_eq_true rfl)) d_Bd_hashEntry_36 ⟨Nat.le_of_ble_eq_true rfl, Nat.le_of_ble_eq_true rfl⟩) hS (fun q _ h => hFc q h) hFc (fun u9 t9 H1 locs ht hvm hw hB hz1 hk1 hS => ?_)
      obtain ⟨hP1, hK1, hD1⟩ := hB
      rw [ht] at hP1
      obtain ⟨hP, hD⟩ := va_join (wr := [(bd0, .inr (3, [.ref h0, .ref ro, .ref lo, .int (nI n)])), (ro, .inl (cR, 154, .inr (.inr (.inr (.inr rr))))), (lo, .inl (cR, 154, .inr (.inr (.inr (.inr lr))))), (rk, .inl (cJ, 8, .inr (.inl rw))), (lp, .inl (cJ, 4, .inr (.inl lw)))]) (w1 := [(h0, .inr (2, [.ref aw, .ref ax, .ref ay, .int (nI 1)])), (aw, .inl (cJ, 16, .inr (.inl (vp_updL w 0 (lw 0))))), (ax, .inl (cI, 64, .inl sc)), (ay, .inl (cI, 8, .inl st))]) hP hD [5, 6, 7, 8] [0, 1, 2, 3, 4] rfl rfl (by decide) (by decide) hk1 hFc hP1 hD1
      have hP := hP.sub (ws' := [(bd0, .inr (3, [.ref h0, .ref ro, .ref lo, .int (nI n)])), (ro, .inl (cR, 154, .inr (.inr (.inr (.inr rr))))), (lo, .inl (cR, 154, .inr (.inr (.inr (.inr lr))))), (rk, .inl (cJ, 8, .inr (.inl rw))), (lp, .inl (cJ, 4, .inr (.inl lw))), (h0, .inr (2, [.ref aw, .ref ax, .ref ay, .int (nI 1)])), (aw, .inl (cJ, 16, .inr (.inl (vp_updL w 0 (lw 0))))), (ax, .inl (cI, 64, .inl sc)), (ay, .inl (cI, 8, .inl st))]) [0, 1, 2, 3, 4, 5, 6, 7, 8] rfl
      have hD := hD.sub (ws' := [(bd0, .inr (3, [.ref h0, .ref ro, .ref lo, .int (nI n)])), (ro, .inl (cR, 154, .inr (.inr (.inr (.inr rr))))), (lo, .inl (cR, 154, .inr (.inr (.inr (.inr lr))))), (rk, .inl (cJ, 8, .inr (.inl rw))), (lp, .inl (cJ, 4, .inr (.inl lw))), (h0, .inr (2, [.ref aw, .ref ax, .ref ay, .int (nI 1)])), (aw, .inl (cJ, 16, .inr (.inl (vp_updL w 0 (lw 0))))), (ax, .inl (cI, 64, .inl sc)), (ay, .inl (cI, 8, .inl st))]) [0, 1, 2, 3, 4, 5, 6, 7, 8] (by decide) rfl
      generalize H1 = H at hP hS ⊢
      obtain ⟨g_5, eg_5⟩ : ∃ f : Nat → Int64, f = vp_updL w 0 (lw 0) := ⟨_, rfl⟩
      rw [← eg_5] at hP hD
      have hm_6 : wok g_5 1 [lw 0] := wok_add _ hm0 eg_5
      obtain ⟨i_7, ei_7⟩ : ∃ y : Int32, y = 0 + 1 := ⟨_, rfl⟩
      refine lv_iinc (v := i_7) (lv' := [(2, .int i_7), (0, .ref bd0), (1, .int (nI k))]) hx hb d_Bd_hashEntry_39 hl (k := 0) rfl (by rw [ei_7]; rfl) (by decide) rfl (fun ls hl => ?_)
      obtain rfl : i_7 = 1 := by rw [ei_7]; exact by decide
      refine lv_goto (tgt := 9) hx hb d_Bd_hashEntry_42 (by decide) ?_
      refine lv_iload_n hx hb d_Bd_hashEntry_9 rfl (lv_at hl 0 rfl) ?_
      refine lv_iconst (v := 4) hx hb d_Bd_hashEntry_10 (by decide) ?_
      refine lv_icmp_ge (tgt := 45) hx hb d_Bd_hashEntry_11 (by decide) (fun c_8 => ?_) (fun c_8 => ?_)
      · -- taken
        exact absurd c_8 (by decide)
      · -- not taken
        refine lv_aload_n hx hb d_Bd_hashEntry_14 rfl (lv_at hl 1 rfl) ?_
        refine va_get (D := (dC, dI)) (ci := 3) (v := .ref h0) (C := "BallotBoard$Board") (T := F_Bo) (N := 4) hx hb hts (fun w9 h9 => List.mem_cons_of_mem _ (i_Bo w9 h9)) hown hK hP 0 rfl rfl 0 (by decide) (hts _ (List.mem_cons_of_mem _ gk_60)) (fun _ h9 => h9) rfl d_Bd_hashEntry_15 ?_
        refine lv_iload_n hx hb d_Bd_hashEntry_18 rfl (lv_at hl 2 rfl) ?_
        refine lv_if_ne (tgt := 26) hx hb d_Bd_hashEntry_19 (by decide) (fun c_9 => ?_) (fun c_9 => ?_)
        · -- taken
          refine lv_aload_n hx hb d_Bd_hashEntry_26 rfl (lv_at hl 1 rfl) ?_
          refine va_get (D := (dC, dI)) (ci := 3) (v := .ref lo) (C := "BallotBoard$Board") (T := F_Bo) (N := 4) hx hb hts (fun w9 h9 => List.mem_cons_of_mem _ (i_Bo w9 h9)) hown hK hP 0 rfl rfl 2 (by decide) (hts _ (List.mem_cons_of_mem _ gk_62)) (fun _ h9 => h9) rfl d_Bd_hashEntry_27 ?_
          refine lv_iload_n hx hb d_Bd_hashEntry_30 rfl (lv_at hl 2 rfl) ?_
          refine lv_iconst (v := 1) hx hb d_Bd_hashEntry_31 (by decide) ?_
          refine lv_isub hx hb d_Bd_hashEntry_32 ?_
          rw [show ((nI k) - 1 : Int32) = (nI (k - 1)) from nI_subI (b := 1) (by omega) rfl]
          refine va_aldA hx hb hK hP 2 2 rfl rfl (vp_in_nI (by omega) (by omega)) d_Bd_hashEntry_33 (b := lp) (by rw [nI_clamp (by omega)]; exact hlp) ?_
          refine lv_iload_n hx hb d_Bd_hashEntry_34 rfl (lv_at hl 0 rfl) ?_
          refine va_lald hx hb hK hP 4 0 rfl rfl (vp_lit rfl) d_Bd_hashEntry_35 ?_
          rw [show (lw (1 : Int32).toNatClampNeg : Int64) = lw 1 from rfl]
          have hPc := hP.sub (ws' := (ha_ws h0 aw ax ay cJ cI g_5 sc st 1)) [5, 6, 7, 8] rfl
          have hDc := hD.sub (ws' := (ha_ws h0 aw ax ay cJ cI g_5 sc st 1)) [5, 6, 7, 8] (by decide) rfl
          have hKc := hK.sub (tys' := [(cJ, .long), (cI, .int)]) [0, 1] rfl
          have hFc := va_free (wc := (ha_ws h0 aw ax ay cJ cI g_5 sc st 1)) hD hS hA [5, 6, 7, 8] rfl
          refine va_callv (va_runV (As := [.long (lw 1)]) (rest := []) ⟨hx, hb, hml, hown, hts⟩ (c_Ha_add l dC dI h0 H.size aw ax ay cJ cI g_5 sc st 1 (lw 1) (by decide)) (cwV 1 hts (gw_V gk_592 gk_507 gk_508 gk_2 gk_509) rfl rfl rfl (by decide +kernel) ⟨Nat.le_of_ble_eq_true rfl, Nat.le_of_ble_eq_true rfl⟩) ⟨fun a U g mk q => by obtain ⟨q0, q1, qP, qK, qD⟩ := q; exact ⟨q0, q1, qP, va_K.moved (u := U) (U := U.calling g mk a) (Vm.Alike.refl U.vm) qK, qD⟩, va_recv hK hP (ci := 2) (q0 := 5) rfl rfl, fun U hU hW => ⟨rfl, by rw [hU], by rw [hU]; exact hPc, va_K.moved hW.alike hKc, hDc.weaken (fun _ _ _ _ => trivial)⟩⟩ rfl rfl hl.1 rfl (lv_room (Nat.le_of_ble_eq_true rfl)) d_Bd_hashEntry_36 ⟨Nat.le_of_ble_eq_true rfl, Nat.le_of_ble_eq_true rfl⟩) hS (fun q _ h => hFc q h) hFc (fun u9 t9 H1 locs ht hvm hw hB hz1 hk1 hS => ?_)
          obtain ⟨hP1, hK1, hD1⟩ := hB
          rw [ht] at hP1
          obtain ⟨hP, hD⟩ := va_join (wr := [(bd0, .inr (3, [.ref h0, .ref ro, .ref lo, .int (nI n)])), (ro, .inl (cR, 154, .inr (.inr (.inr (.inr rr))))), (lo, .inl (cR, 154, .inr (.inr (.inr (.inr lr))))), (rk, .inl (cJ, 8, .inr (.inl rw))), (lp, .inl (cJ, 4, .inr (.inl lw)))]) (w1 := [(h0, .inr (2, [.ref aw, .ref ax, .ref ay, .int (nI 2)])), (aw, .inl (cJ, 16, .inr (.inl (vp_updL g_5 1 (lw 1))))), (ax, .inl (cI, 64, .inl sc)), (ay, .inl (cI, 8, .inl st))]) hP hD [5, 6, 7, 8] [0, 1, 2, 3, 4] rfl rfl (by decide) (by decide) hk1 hFc hP1 hD1
          have hP := hP.sub (ws' := [(bd0, .inr (3, [.ref h0, .ref ro, .ref lo, .int (nI n)])), (ro, .inl (cR, 154, .inr (.inr (.inr (.inr rr))))), (lo, .inl (cR, 154, .inr (.inr (.inr (.inr lr))))), (rk, .inl (cJ, 8, .inr (.inl rw))), (lp, .inl (cJ, 4, .inr (.inl lw))), (h0, .inr (2, [.ref aw, .ref ax, .ref ay, .int (nI 2)])), (aw, .inl (cJ, 16, .inr (.inl (vp_updL g_5 1 (lw 1))))), (ax, .inl (cI, 64, .inl sc)), (ay, .inl (cI, 8, .inl st))]) [0, 1, 2, 3, 4, 5, 6, 7, 8] rfl
          have hD := hD.sub (ws' := [(bd0, .inr (3, [.ref h0, .ref ro, .ref lo, .int (nI n)])), (ro, .inl (cR, 154, .inr (.inr (.inr (.inr rr))))), (lo, .inl (cR, 154, .inr (.inr (.inr (.inr lr))))), (rk, .inl (cJ, 8, .inr (.inl rw))), (lp, .inl (cJ, 4, .inr (.inl lw))), (h0, .inr (2, [.ref aw, .ref ax, .ref ay, .int (nI 2)])), (aw, .inl (cJ, 16, .inr (.inl (vp_updL g_5 1 (lw 1))))), (ax, .inl (cI, 64, .inl sc)), (ay, .inl (cI, 8, .inl st))]) [0, 1, 2, 3, 4, 5, 6, 7, 8] (by decide) rfl
          generalize H1 = H at hP hS ⊢
          obtain ⟨g_11, eg_11⟩ : ∃ f : Nat → Int64, f = vp_updL g_5 1 (lw 1) := ⟨_, rfl⟩
          rw [← eg_11] at hP hD
          have hm_12 : wok g_11 2 [lw 0, lw 1] := wok_add _ hm_6 eg_11
          obtain ⟨i_13, ei_13⟩ : ∃ y : Int32, y = 1 + 1 := ⟨_, rfl⟩
          refine lv_iinc (v := i_13) (lv' := [(2, .int i_13), (0, .ref bd0), (1, .int (nI k))]) hx hb d_Bd_hashEntry_39 hl (k := 0) rfl (by rw [ei_13]; rfl) (by decide) rfl (fun ls hl => ?_)
          obtain rfl : i_13 = 2 := by rw [ei_13]; exact by decide
          refine lv_goto (tgt := 9) hx hb d_Bd_hashEntry_42 (by decide) ?_
          refine lv_iload_n hx hb d_Bd_hashEntry_9 rfl (lv_at hl 0 rfl) ?_
          refine lv_iconst (v := 4) hx hb d_Bd_hashEntry_10 (by decide) ?_
          refine lv_icmp_ge (tgt := 45) hx hb d_Bd_hashEntry_11 (by decide) (fun c_14 => ?_) (fun c_14 => ?_)
          · -- taken
            exact absurd c_14 (by decide)
          · -- not taken
            refine lv_aload_n hx hb d_Bd_hashEntry_14 rfl (lv_at hl 1 rfl) ?_
            refine va_get (D := (dC, dI)) (ci := 3) (v := .ref h0) (C := "BallotBoard$Board") (T := F_Bo) (N := 4) hx hb hts (fun w9 h9 => List.mem_cons_of_mem _ (i_Bo w9 h9)) hown hK hP 0 rfl rfl 0 (by decide) (hts _ (List.mem_cons_of_mem _ gk_60)) (fun _ h9 => h9) rfl d_Bd_hashEntry_15 ?_
            refine lv_iload_n hx hb d_Bd_hashEntry_18 rfl (lv_at hl 2 rfl) ?_
            refine lv_if_ne (tgt := 26) hx hb d_Bd_hashEntry_19 (by decide) (fun c_15 => ?_) (fun c_15 => ?_)
            · -- taken
              refine lv_aload_n hx hb d_Bd_hashEntry_26 rfl (lv_at hl 1 rfl) ?_
              refine va_get (D := (dC, dI)) (ci := 3) (v := .ref lo) (C := "BallotBoard$Board") (T := F_Bo) (N := 4) hx hb hts (fun w9 h9 => List.mem_cons_of_mem _ (i_Bo w9 h9)) hown hK hP 0 rfl rfl 2 (by decide) (hts _ (List.mem_cons_of_mem _ gk_62)) (fun _ h9 => h9) rfl d_Bd_hashEntry_27 ?_
              refine lv_iload_n hx hb d_Bd_hashEntry_30 rfl (lv_at hl 2 rfl) ?_
              refine lv_iconst (v := 1) hx hb d_Bd_hashEntry_31 (by decide) ?_
              refine lv_isub hx hb d_Bd_hashEntry_32 ?_
              rw [show ((nI k) - 1 : Int32) = (nI (k - 1)) from nI_subI (b := 1) (by omega) rfl]
              refine va_aldA hx hb hK hP 2 2 rfl rfl (vp_in_nI (by omega) (by omega)) d_Bd_hashEntry_33 (b := lp) (by rw [nI_clamp (by omega)]; exact hlp) ?_
              refine lv_iload_n hx hb d_Bd_hashEntry_34 rfl (lv_at hl 0 rfl) ?_
              refine va_lald hx hb hK hP 4 0 rfl rfl (vp_lit rfl) d_Bd_hashEntry_35 ?_
              rw [show (lw (2 : Int32).toNatClampNeg : Int64) = lw 2 from rfl]
              have hPc := hP.sub (ws' := (ha_ws h0 aw ax ay cJ cI g_11 sc st 2)) [5, 6, 7, 8] rfl
              have hDc := hD.sub (ws' := (ha_ws h0 aw ax ay cJ cI g_11 sc st 2)) [5, 6, 7, 8] (by decide) rfl
              have hKc := hK.sub (tys' := [(cJ, .long), (cI, .int)]) [0, 1] rfl
              have hFc := va_free (wc := (ha_ws h0 aw ax ay cJ cI g_11 sc st 2)) hD hS hA [5, 6, 7, 8] rfl
              refine va_callv (va_runV (As := [.long (lw 2)]) (rest := []) ⟨hx, hb, hml, hown, hts⟩ (c_Ha_add l dC dI h0 H.size aw ax ay cJ cI g_11 sc st 2 (lw 2) (by decide)) (cwV 1 hts (gw_V gk_592 gk_507 gk_508 gk_2 gk_509) rfl rfl rfl (by decide +kernel) ⟨Nat.le_of_ble_eq_true rfl, Nat.le_of_ble_eq_true rfl⟩) ⟨fun a U g mk q => by obtain ⟨q0, q1, qP, qK, qD⟩ := q; exact ⟨q0, q1, qP, va_K.moved (u := U) (U := U.calling g mk a) (Vm.Alike.refl U.vm) qK, qD⟩, va_recv hK hP (ci := 2) (q0 := 5) rfl rfl, fun U hU hW => ⟨rfl, by rw [hU], by rw [hU]; exact hPc, va_K.moved hW.alike hKc, hDc.weaken (fun _ _ _ _ => trivial)⟩⟩ rfl rfl hl.1 rfl (lv_room (Nat.le_of_ble_eq_true rfl)) d_Bd_hashEntry_36 ⟨Nat.le_of_ble_eq_true rfl, Nat.le_of_ble_eq_true rfl⟩) hS (fun q _ h => hFc q h) hFc (fun u9 t9 H1 locs ht hvm hw hB hz1 hk1 hS => ?_)
              obtain ⟨hP1, hK1, hD1⟩ := hB
              rw [ht] at hP1
              obtain ⟨hP, hD⟩ := va_join (wr := [(bd0, .inr (3, [.ref h0, .ref ro, .ref lo, .int (nI n)])), (ro, .inl (cR, 154, .inr (.inr (.inr (.inr rr))))), (lo, .inl (cR, 154, .inr (.inr (.inr (.inr lr))))), (rk, .inl (cJ, 8, .inr (.inl rw))), (lp, .inl (cJ, 4, .inr (.inl lw)))]) (w1 := [(h0, .inr (2, [.ref aw, .ref ax, .ref ay, .int (nI 3)])), (aw, .inl (cJ, 16, .inr (.inl (vp_updL g_11 2 (lw 2))))), (ax, .inl (cI, 64, .inl sc)), (ay, .inl (cI, 8, .inl st))]) hP hD [5, 6, 7, 8] [0, 1, 2, 3, 4] rfl rfl (by decide) (by decide) hk1 hFc hP1 hD1
              have hP := hP.sub (ws' := [(bd0, .inr (3, [.ref h0, .ref ro, .ref lo, .int (nI n)])), (ro, .inl (cR, 154, .inr (.inr (.inr (.inr rr))))), (lo, .inl (cR, 154, .inr (.inr (.inr (.inr lr))))), (rk, .inl (cJ, 8, .inr (.inl rw))), (lp, .inl (cJ, 4, .inr (.inl lw))), (h0, .inr (2, [.ref aw, .ref ax, .ref ay, .int (nI 3)])), (aw, .inl (cJ, 16, .inr (.inl (vp_updL g_11 2 (lw 2))))), (ax, .inl (cI, 64, .inl sc)), (ay, .inl (cI, 8, .inl st))]) [0, 1, 2, 3, 4, 5, 6, 7, 8] rfl
              have hD := hD.sub (ws' := [(bd0, .inr (3, [.ref h0, .ref ro, .ref lo, .int (nI n)])), (ro, .inl (cR, 154, .inr (.inr (.inr (.inr rr))))), (lo, .inl (cR, 154, .inr (.inr (.inr (.inr lr))))), (rk, .inl (cJ, 8, .inr (.inl rw))), (lp, .inl (cJ, 4, .inr (.inl lw))), (h0, .inr (2, [.ref aw, .ref ax, .ref ay, .int (nI 3)])), (aw, .inl (cJ, 16, .inr (.inl (vp_updL g_11 2 (lw 2))))), (ax, .inl (cI, 64, .inl sc)), (ay, .inl (cI, 8, .inl st))]) [0, 1, 2, 3, 4, 5, 6, 7, 8] (by decide) rfl
              generalize H1 = H at hP hS ⊢
              obtain ⟨g_17, eg_17⟩ : ∃ f : Nat → Int64, f = vp_updL g_11 2 (lw 2) := ⟨_, rfl⟩
              rw [← eg_17] at hP hD
              have hm_18 : wok g_17 3 [lw 0, lw 1, lw 2] := wok_add _ hm_12 eg_17
              obtain ⟨i_19, ei_19⟩ : ∃ y : Int32, y = 2 + 1 := ⟨_, rfl⟩
              refine lv_iinc (v := i_19) (lv' := [(2, .int i_19), (0, .ref bd0), (1, .int (nI k))]) hx hb d_Bd_hashEntry_39 hl (k := 0) rfl (by rw [ei_19]; rfl) (by decide) rfl (fun ls hl => ?_)
              obtain rfl : i_19 = 3 := by rw [ei_19]; exact by decide
              refine lv_goto (tgt := 9) hx hb d_Bd_hashEntry_42 (by decide) ?_
              refine lv_iload_n hx hb d_Bd_hashEntry_9 rfl (lv_at hl 0 rfl) ?_
              refine lv_iconst (v := 4) hx hb d_Bd_hashEntry_10 (by decide) ?_
              refine lv_icmp_ge (tgt := 45) hx hb d_Bd_hashEntry_11 (by decide) (fun c_20 => ?_) (fun c_20 => ?_)
              · -- taken
                exact absurd c_20 (by decide)
              · -- not taken
                refine lv_aload_n hx hb d_Bd_hashEntry_14 rfl (lv_at hl 1 rfl) ?_
                refine va_get (D := (dC, dI)) (ci := 3) (v := .ref h0) (C := "BallotBoard$Board") (T := F_Bo) (N := 4) hx hb hts (fun w9 h9 => List.mem_cons_of_mem _ (i_Bo w9 h9)) hown hK hP 0 rfl rfl 0 (by decide) (hts _ (List.mem_cons_of_mem _ gk_60)) (fun _ h9 => h9) rfl d_Bd_hashEntry_15 ?_
                refine lv_iload_n hx hb d_Bd_hashEntry_18 rfl (lv_at hl 2 rfl) ?_
                refine lv_if_ne (tgt := 26) hx hb d_Bd_hashEntry_19 (by decide) (fun c_21 => ?_) (fun c_21 => ?_)
                · -- taken
                  refine lv_aload_n hx hb d_Bd_hashEntry_26 rfl (lv_at hl 1 rfl) ?_
                  refine va_get (D := (dC, dI)) (ci := 3) (v := .ref lo) (C := "BallotBoard$Board") (T := F_Bo) (N := 4) hx hb hts (fun w9 h9 => List.mem_cons_of_mem _ (i_Bo w9 h9)) hown hK hP 0 rfl rfl 2 (by decide) (hts _ (List.mem_cons_of_mem _ gk_62)) (fun _ h9 => h9) rfl d_Bd_hashEntry_27 ?_
                  refine lv_iload_n hx hb d_Bd_hashEntry_30 rfl (lv_at hl 2 rfl) ?_
                  refine lv_iconst (v := 1) hx hb d_Bd_hashEntry_31 (by decide) ?_
                  refine lv_isub hx hb d_Bd_hashEntry_32 ?_
                  rw [show ((nI k) - 1 : Int32) = (nI (k - 1)) from nI_subI (b := 1) (by omega) rfl]
                  refine va_aldA hx hb hK hP 2 2 rfl rfl (vp_in_nI (by omega) (by omega)) d_Bd_hashEntry_33 (b := lp) (by rw [nI_clamp (by omega)]; exact hlp) ?_
                  refine lv_iload_n hx hb d_Bd_hashEntry_34 rfl (lv_at hl 0 rfl) ?_
                  refine va_lald hx hb hK hP 4 0 rfl rfl (vp_lit rfl) d_Bd_hashEntry_35 ?_
                  rw [show (lw (3 : Int32).toNatClampNeg : Int64) = lw 3 from rfl]
                  have hPc := hP.sub (ws' := (ha_ws h0 aw ax ay cJ cI g_17 sc st 3)) [5, 6, 7, 8] rfl
                  have hDc := hD.sub (ws' := (ha_ws h0 aw ax ay cJ cI g_17 sc st 3)) [5, 6, 7, 8] (by decide) rfl
                  have hKc := hK.sub (tys' := [(cJ, .long), (cI, .int)]) [0, 1] rfl
                  have hFc := va_free (wc := (ha_ws h0 aw ax ay cJ cI g_17 sc st 3)) hD hS hA [5, 6, 7, 8] rfl
                  refine va_callv (va_runV (As := [.long (lw 3)]) (rest := []) ⟨hx, hb, hml, hown, hts⟩ (c_Ha_add l dC dI h0 H.size aw ax ay cJ cI g_17 sc st 3 (lw 3) (by decide)) (cwV 1 hts (gw_V gk_592 gk_507 gk_508 gk_2 gk_509) rfl rfl rfl (by decide +kernel) ⟨Nat.le_of_ble_eq_true rfl, Nat.le_of_ble_eq_true rfl⟩) ⟨fun a U g mk q => by obtain ⟨q0, q1, qP, qK, qD⟩ := q; exact ⟨q0, q1, qP, va_K.moved (u := U) (U := U.calling g mk a) (Vm.Alike.refl U.vm) qK, qD⟩, va_recv hK hP (ci := 2) (q0 := 5) rfl rfl, fun U hU hW => ⟨rfl, by rw [hU], by rw [hU]; exact hPc, va_K.moved hW.alike hKc, hDc.weaken (fun _ _ _ _ => trivial)⟩⟩ rfl rfl hl.1 rfl (lv_room (Nat.le_of_ble_eq_true rfl)) d_Bd_hashEntry_36 ⟨Nat.le_of_ble_eq_true rfl, Nat.le_of_ble_eq_true rfl⟩) hS (fun q _ h => hFc q h) hFc (fun u9 t9 H1 locs ht hvm hw hB hz1 hk1 hS => ?_)
                  obtain ⟨hP1, hK1, hD1⟩ := hB
                  rw [ht] at hP1
                  obtain ⟨hP, hD⟩ := va_join (wr := [(bd0, .inr (3, [.ref h0, .ref ro, .ref lo, .int (nI n)])), (ro, .inl (cR, 154, .inr (.inr (.inr (.inr rr))))), (lo, .inl (cR, 154, .inr (.inr (.inr (.inr lr))))), (rk, .inl (cJ, 8, .inr (.inl rw))), (lp, .inl (cJ, 4, .inr (.inl lw)))]) (w1 := [(h0, .inr (2, [.ref aw, .ref ax, .ref ay, .int (nI 4)])), (aw, .inl (cJ, 16, .inr (.inl (vp_updL g_17 3 (lw 3))))), (ax, .inl (cI, 64, .inl sc)), (ay, .inl (cI, 8, .inl st))]) hP hD [5, 6, 7, 8] [0, 1, 2, 3, 4] rfl rfl (by decide) (by decide) hk1 hFc hP1 hD1
                  have hP := hP.sub (ws' := [(bd0, .inr (3, [.ref h0, .ref ro, .ref lo, .int (nI n)])), (ro, .inl (cR, 154, .inr (.inr (.inr (.inr rr))))), (lo, .inl (cR, 154, .inr (.inr (.inr (.inr lr))))), (rk, .inl (cJ, 8, .inr (.inl rw))), (lp, .inl (cJ, 4, .inr (.inl lw))), (h0, .inr (2, [.ref aw, .ref ax, .ref ay, .int (nI 4)])), (aw, .inl (cJ, 16, .inr (.inl (vp_updL g_17 3 (lw 3))))), (ax, .inl (cI, 64, .inl sc)), (ay, .inl (cI, 8, .inl st))]) [0, 1, 2, 3, 4, 5, 6, 7, 8] rfl
                  have hD := hD.sub (ws' := [(bd0, .inr (3, [.ref h0, .ref ro, .ref lo, .int (nI n)])), (ro, .inl (cR, 154, .inr (.inr (.inr (.inr rr))))), (lo, .inl (cR, 154, .inr (.inr (.inr (.inr lr))))), (rk, .inl (cJ, 8, .inr (.inl rw))), (lp, .inl (cJ, 4, .inr (.inl lw))), (h0, .inr (2, [.ref aw, .ref ax, .ref ay, .int (nI 4)])), (aw, .inl (cJ, 16, .inr (.inl (vp_updL g_17 3 (lw 3))))), (ax, .inl (cI, 64, .inl sc)), (ay, .inl (cI, 8, .inl st))]) [0, 1, 2, 3, 4, 5, 6, 7, 8] (by decide) rfl
                  generalize H1 = H at hP hS ⊢
                  obtain ⟨g_23, eg_23⟩ : ∃ f : Nat → Int64, f = vp_updL g_17 3 (lw 3) := ⟨_, rfl⟩
                  rw [← eg_23] at hP hD
                  have hm_24 : wok g_23 4 [lw 0, lw 1, lw 2, lw 3] := wok_add _ hm_18 eg_23
                  obtain ⟨i_25, ei_25⟩ : ∃ y : Int32, y = 3 + 1 := ⟨_, rfl⟩
                  refine lv_iinc (v := i_25) (lv' := [(2, .int i_25), (0, .ref bd0), (1, .int (nI k))]) hx hb d_Bd_hashEntry_39 hl (k := 0) rfl (by rw [ei_25]; rfl) (by decide) rfl (fun ls hl => ?_)
                  obtain rfl : i_25 = 4 := by rw [ei_25]; exact by decide
                  refine lv_goto (tgt := 9) hx hb d_Bd_hashEntry_42 (by decide) ?_
                  refine lv_iload_n hx hb d_Bd_hashEntry_9 rfl (lv_at hl 0 rfl) ?_
                  refine lv_iconst (v := 4) hx hb d_Bd_hashEntry_10 (by decide) ?_
                  refine lv_icmp_ge (tgt := 45) hx hb d_Bd_hashEntry_11 (by decide) (fun c_26 => ?_) (fun c_26 => ?_)
                  · -- taken
                    refine lv_aload_n hx hb d_Bd_hashEntry_45 rfl (lv_at hl 1 rfl) ?_
                    refine va_get (D := (dC, dI)) (ci := 3) (v := .ref ro) (C := "BallotBoard$Board") (T := F_Bo) (N := 4) hx hb hts (fun w9 h9 => List.mem_cons_of_mem _ (i_Bo w9 h9)) hown hK hP 0 rfl rfl 1 (by decide) (hts _ (List.mem_cons_of_mem _ gk_61)) (fun _ h9 => h9) rfl d_Bd_hashEntry_46 ?_
                    refine lv_iload_n hx hb d_Bd_hashEntry_49 rfl (lv_at hl 2 rfl) ?_
                    refine va_aldA hx hb hK hP 1 2 rfl rfl (vp_in_nI (by omega) (by omega)) d_Bd_hashEntry_50 (b := rk) (by rw [nI_clamp (by omega)]; exact hrk) ?_
                    have hPc := hP.sub (ws' := (rw_ws rk cJ rw)) [3] rfl
                    have hKc := hK.sub (tys' := [(cJ, .long), (cI, .int), (cR, .array .long)]) [0, 1, 2] rfl
                    refine va_calli (va_runS (As := [.ref rk]) (rest := []) ⟨hx, hb, hml, hown, hts⟩ (c_Bd_width l H dC dI cJ cI cR rk rw K hPc hr0 hK4) (cwS 1 hts (gw_S gk_593 gk_594 gk_3 gk_595) rfl rfl rfl (by decide +kernel) ⟨Nat.le_of_ble_eq_true rfl, Nat.le_of_ble_eq_true rfl⟩) ⟨fun a U g mk q => ⟨q.1, q.2.1, va_K.moved (u := U) (U := U.calling g mk a) (Vm.Alike.refl U.vm) q.2.2⟩, fun U hU hW => ⟨rfl, hU, va_K.moved hW.alike hKc⟩⟩ rfl rfl hl.1 rfl (lv_room (Nat.le_of_ble_eq_true rfl)) d_Bd_hashEntry_51 ⟨Nat.le_of_ble_eq_true rfl, Nat.le_of_ble_eq_true rfl⟩) hS (fun q _ h => h.elim) (fun q h => h.elim) (fun r51 u9 t9 H1 locs ht hvm hw hB hz1 hk1 hS => ?_)
                    obtain rfl : H = H1 := hB.symm.trans ht
                    have hw : r51 = nI (wdt K) := hw
                    subst hw
                    rw [show (nI (wdt K) : Int32) = 8 from by unfold wdt; rw [if_pos hK2]; rfl]
                    refine lv_istore_n (lv' := [(2, .int 8), (0, .ref bd0), (1, .int (nI k))]) hx hb d_Bd_hashEntry_54 rfl hl (by decide) rfl (fun ls hl => ?_)
                    refine lv_iconst (v := 0) hx hb d_Bd_hashEntry_55 (by decide) ?_
                    refine lv_istore_n (lv' := [(3, .int 0), (2, .int 8), (0, .ref bd0), (1, .int (nI k))]) hx hb d_Bd_hashEntry_56 rfl hl (by decide) rfl (fun ls hl => ?_)
                    refine lv_iload_n hx hb d_Bd_hashEntry_57 rfl (lv_at hl 0 rfl) ?_
                    refine lv_iload_n hx hb d_Bd_hashEntry_58 rfl (lv_at hl 1 rfl) ?_
                    refine lv_icmp_ge (tgt := 83) hx hb d_Bd_hashEntry_59 (by decide) (fun c_27 => ?_) (fun c_27 => ?_)
                    · -- taken
                      exact absurd c_27 (by decide)
                    · -- not taken
                      refine lv_aload_n hx hb d_Bd_hashEntry_62 rfl (lv_at hl 2 rfl) ?_
                      refine va_get (D := (dC, dI)) (ci := 3) (v := .ref h0) (C := "BallotBoard$Board") (T := F_Bo) (N := 4) hx hb hts (fun w9 h9 => List.mem_cons_of_mem _ (i_Bo w9 h9)) hown hK hP 0 rfl rfl 0 (by decide) (hts _ (List.mem_cons_of_mem _ gk_60)) (fun _ h9 => h9) rfl d_Bd_hashEntry_63 ?_
                      refine lv_aload_n hx hb d_Bd_hashEntry_66 rfl (lv_at hl 2 rfl) ?_
                      refine va_get (D := (dC, dI)) (ci := 3) (v := .ref ro) (C := "BallotBoard$Board") (T := F_Bo) (N := 4) hx hb hts (fun w9 h9 => List.mem_cons_of_mem _ (i_Bo w9 h9)) hown hK hP 0 rfl rfl 1 (by decide) (hts _ (List.mem_cons_of_mem _ gk_61)) (fun _ h9 => h9) rfl d_Bd_hashEntry_67 ?_
                      refine lv_iload_n hx hb d_Bd_hashEntry_70 rfl (lv_at hl 3 rfl) ?_
                      refine va_aldA hx hb hK hP 1 2 rfl rfl (vp_in_nI (by omega) (by omega)) d_Bd_hashEntry_71 (b := rk) (by rw [nI_clamp (by omega)]; exact hrk) ?_
                      refine lv_iload_n hx hb d_Bd_hashEntry_72 rfl (lv_at hl 0 rfl) ?_
                      refine va_lald hx hb hK hP 3 0 rfl rfl (vp_lit rfl) d_Bd_hashEntry_73 ?_
                      rw [show (rw (0 : Int32).toNatClampNeg : Int64) = rw 0 from rfl]
                      have hPc := hP.sub (ws' := (ha_ws h0 aw ax ay cJ cI g_23 sc st 4)) [5, 6, 7, 8] rfl
                      have hDc := hD.sub (ws' := (ha_ws h0 aw ax ay cJ cI g_23 sc st 4)) [5, 6, 7, 8] (by decide) rfl
                      have hKc := hK.sub (tys' := [(cJ, .long), (cI, .int)]) [0, 1] rfl
                      have hFc := va_free (wc := (ha_ws h0 aw ax ay cJ cI g_23 sc st 4)) hD hS hA [5, 6, 7, 8] rfl
                      refine va_callv (va_runV (As := [.long (rw 0)]) (rest := []) ⟨hx, hb, hml, hown, hts⟩ (c_Ha_add l dC dI h0 H.size aw ax ay cJ cI g_23 sc st 4 (rw 0) (by decide)) (cwV 1 hts (gw_V gk_592 gk_507 gk_508 gk_2 gk_509) rfl rfl rfl (by decide +kernel) ⟨Nat.le_of_ble_eq_true rfl, Nat.le_of_ble_eq_true rfl⟩) ⟨fun a U g mk q => by obtain ⟨q0, q1, qP, qK, qD⟩ := q; exact ⟨q0, q1, qP, va_K.moved (u := U) (U := U.calling g mk a) (Vm.Alike.refl U.vm) qK, qD⟩, va_recv hK hP (ci := 2) (q0 := 5) rfl rfl, fun U hU hW => ⟨rfl, by rw [hU], by rw [hU]; exact hPc, va_K.moved hW.alike hKc, hDc.weaken (fun _ _ _ _ => trivial)⟩⟩ rfl rfl hl.1 rfl (lv_room (Nat.le_of_ble_eq_true rfl)) d_Bd_hashEntry_74 ⟨Nat.le_of_ble_eq_true rfl, Nat.le_of_ble_eq_true rfl⟩) hS (fun q _ h => hFc q h) hFc (fun u9 t9 H1 locs ht hvm hw hB hz1 hk1 hS => ?_)
                      obtain ⟨hP1, hK1, hD1⟩ := hB
                      rw [ht] at hP1
                      obtain ⟨hP, hD⟩ := va_join (wr := [(bd0, .inr (3, [.ref h0, .ref ro, .ref lo, .int (nI n)])), (ro, .inl (cR, 154, .inr (.inr (.inr (.inr rr))))), (lo, .inl (cR, 154, .inr (.inr (.inr (.inr lr))))), (rk, .inl (cJ, 8, .inr (.inl rw))), (lp, .inl (cJ, 4, .inr (.inl lw)))]) (w1 := [(h0, .inr (2, [.ref aw, .ref ax, .ref ay, .int (nI 5)])), (aw, .inl (cJ, 16, .inr (.inl (vp_updL g_23 4 (rw 0))))), (ax, .inl (cI, 64, .inl sc)), (ay, .inl (cI, 8, .inl st))]) hP hD [5, 6, 7, 8] [0, 1, 2, 3, 4] rfl rfl (by decide) (by decide) hk1 hFc hP1 hD1
                      have hP := hP.sub (ws' := [(bd0, .inr (3, [.ref h0, .ref ro, .ref lo, .int (nI n)])), (ro, .inl (cR, 154, .inr (.inr (.inr (.inr rr))))), (lo, .inl (cR, 154, .inr (.inr (.inr (.inr lr))))), (rk, .inl (cJ, 8, .inr (.inl rw))), (lp, .inl (cJ, 4, .inr (.inl lw))), (h0, .inr (2, [.ref aw, .ref ax, .ref ay, .int (nI 5)])), (aw, .inl (cJ, 16, .inr (.inl (vp_updL g_23 4 (rw 0))))), (ax, .inl (cI, 64, .inl sc)), (ay, .inl (cI, 8, .inl st))]) [0, 1, 2, 3, 4, 5, 6, 7, 8] rfl
                      have hD := hD.sub (ws' := [(bd0, .inr (3, [.ref h0, .ref ro, .ref lo, .int (nI n)])), (ro, .inl (cR, 154, .inr (.inr (.inr (.inr rr))))), (lo, .inl (cR, 154, .inr (.inr (.inr (.inr lr))))), (rk, .inl (cJ, 8, .inr (.inl rw))), (lp, .inl (cJ, 4, .inr (.inl lw))), (h0, .inr (2, [.ref aw, .ref ax, .ref ay, .int (nI 5)])), (aw, .inl (cJ, 16, .inr (.inl (vp_updL g_23 4 (rw 0))))), (ax, .inl (cI, 64, .inl sc)), (ay, .inl (cI, 8, .inl st))]) [0, 1, 2, 3, 4, 5, 6, 7, 8] (by decide) rfl
                      generalize H1 = H at hP hS ⊢
                      obtain ⟨g_29, eg_29⟩ : ∃ f : Nat → Int64, f = vp_updL g_23 4 (rw 0) := ⟨_, rfl⟩
                      rw [← eg_29] at hP hD
                      have hm_30 : wok g_29 5 [lw 0, lw 1, lw 2, lw 3, rw 0] := wok_add _ hm_24 eg_29
                      obtain ⟨i_31, ei_31⟩ : ∃ y : Int32, y = 0 + 1 := ⟨_, rfl⟩
                      refine lv_iinc (v := i_31) (lv' := [(3, .int i_31), (2, .int 8), (0, .ref bd0), (1, .int (nI k))]) hx hb d_Bd_hashEntry_77 hl (k := 0) rfl (by rw [ei_31]; rfl) (by decide) rfl (fun ls hl => ?_)
                      obtain rfl : i_31 = 1 := by rw [ei_31]; exact by decide
                      refine lv_goto (tgt := 57) hx hb d_Bd_hashEntry_80 (by decide) ?_
                      refine lv_iload_n hx hb d_Bd_hashEntry_57 rfl (lv_at hl 0 rfl) ?_
                      refine lv_iload_n hx hb d_Bd_hashEntry_58 rfl (lv_at hl 1 rfl) ?_
                      refine lv_icmp_ge (tgt := 83) hx hb d_Bd_hashEntry_59 (by decide) (fun c_32 => ?_) (fun c_32 => ?_)
                      · -- taken
                        exact absurd c_32 (by decide)
                      · -- not taken
                        refine lv_aload_n hx hb d_Bd_hashEntry_62 rfl (lv_at hl 2 rfl) ?_
                        refine va_get (D := (dC, dI)) (ci := 3) (v := .ref h0) (C := "BallotBoard$Board") (T := F_Bo) (N := 4) hx hb hts (fun w9 h9 => List.mem_cons_of_mem _ (i_Bo w9 h9)) hown hK hP 0 rfl rfl 0 (by decide) (hts _ (List.mem_cons_of_mem _ gk_60)) (fun _ h9 => h9) rfl d_Bd_hashEntry_63 ?_
                        refine lv_aload_n hx hb d_Bd_hashEntry_66 rfl (lv_at hl 2 rfl) ?_
                        refine va_get (D := (dC, dI)) (ci := 3) (v := .ref ro) (C := "BallotBoard$Board") (T := F_Bo) (N := 4) hx hb hts (fun w9 h9 => List.mem_cons_of_mem _ (i_Bo w9 h9)) hown hK hP 0 rfl rfl 1 (by decide) (hts _ (List.mem_cons_of_mem _ gk_61)) (fun _ h9 => h9) rfl d_Bd_hashEntry_67 ?_
                        refine lv_iload_n hx hb d_Bd_hashEntry_70 rfl (lv_at hl 3 rfl) ?_
                        refine va_aldA hx hb hK hP 1 2 rfl rfl (vp_in_nI (by omega) (by omega)) d_Bd_hashEntry_71 (b := rk) (by rw [nI_clamp (by omega)]; exact hrk) ?_
                        refine lv_iload_n hx hb d_Bd_hashEntry_72 rfl (lv_at hl 0 rfl) ?_
                        refine va_lald hx hb hK hP 3 0 rfl rfl (vp_lit rfl) d_Bd_hashEntry_73 ?_
                        rw [show (rw (1 : Int32).toNatClampNeg : Int64) = rw 1 from rfl]
                        have hPc := hP.sub (ws' := (ha_ws h0 aw ax ay cJ cI g_29 sc st 5)) [5, 6, 7, 8] rfl
                        have hDc := hD.sub (ws' := (ha_ws h0 aw ax ay cJ cI g_29 sc st 5)) [5, 6, 7, 8] (by decide) rfl
                        have hKc := hK.sub (tys' := [(cJ, .long), (cI, .int)]) [0, 1] rfl
                        have hFc := va_free (wc := (ha_ws h0 aw ax ay cJ cI g_29 sc st 5)) hD hS hA [5, 6, 7, 8] rfl
                        refine va_callv (va_runV (As := [.long (rw 1)]) (rest := []) ⟨hx, hb, hml, hown, hts⟩ (c_Ha_add l dC dI h0 H.size aw ax ay cJ cI g_29 sc st 5 (rw 1) (by decide)) (cwV 1 hts (gw_V gk_592 gk_507 gk_508 gk_2 gk_509) rfl rfl rfl (by decide +kernel) ⟨Nat.le_of_ble_eq_true rfl, Nat.le_of_ble_eq_true rfl⟩) ⟨fun a U g mk q => by obtain ⟨q0, q1, qP, qK, qD⟩ := q; exact ⟨q0, q1, qP, va_K.moved (u := U) (U := U.calling g mk a) (Vm.Alike.refl U.vm) qK, qD⟩, va_recv hK hP (ci := 2) (q0 := 5) rfl rfl, fun U hU hW => ⟨rfl, by rw [hU], by rw [hU]; exact hPc, va_K.moved hW.alike hKc, hDc.weaken (fun _ _ _ _ => trivial)⟩⟩ rfl rfl hl.1 rfl (lv_room (Nat.le_of_ble_eq_true rfl)) d_Bd_hashEntry_74 ⟨Nat.le_of_ble_eq_true rfl, Nat.le_of_ble_eq_true rfl⟩) hS (fun q _ h => hFc q h) hFc (fun u9 t9 H1 locs ht hvm hw hB hz1 hk1 hS => ?_)
                        obtain ⟨hP1, hK1, hD1⟩ := hB
                        rw [ht] at hP1
                        obtain ⟨hP, hD⟩ := va_join (wr := [(bd0, .inr (3, [.ref h0, .ref ro, .ref lo, .int (nI n)])), (ro, .inl (cR, 154, .inr (.inr (.inr (.inr rr))))), (lo, .inl (cR, 154, .inr (.inr (.inr (.inr lr))))), (rk, .inl (cJ, 8, .inr (.inl rw))), (lp, .inl (cJ, 4, .inr (.inl lw)))]) (w1 := [(h0, .inr (2, [.ref aw, .ref ax, .ref ay, .int (nI 6)])), (aw, .inl (cJ, 16, .inr (.inl (vp_updL g_29 5 (rw 1))))), (ax, .inl (cI, 64, .inl sc)), (ay, .inl (cI, 8, .inl st))]) hP hD [5, 6, 7, 8] [0, 1, 2, 3, 4] rfl rfl (by decide) (by decide) hk1 hFc hP1 hD1
                        have hP := hP.sub (ws' := [(bd0, .inr (3, [.ref h0, .ref ro, .ref lo, .int (nI n)])), (ro, .inl (cR, 154, .inr (.inr (.inr (.inr rr))))), (lo, .inl (cR, 154, .inr (.inr (.inr (.inr lr))))), (rk, .inl (cJ, 8, .inr (.inl rw))), (lp, .inl (cJ, 4, .inr (.inl lw))), (h0, .inr (2, [.ref aw, .ref ax, .ref ay, .int (nI 6)])), (aw, .inl (cJ, 16, .inr (.inl (vp_updL g_29 5 (rw 1))))), (ax, .inl (cI, 64, .inl sc)), (ay, .inl (cI, 8, .inl st))]) [0, 1, 2, 3, 4, 5, 6, 7, 8] rfl
                        have hD := hD.sub (ws' := [(bd0, .inr (3, [.ref h0, .ref ro, .ref lo, .int (nI n)])), (ro, .inl (cR, 154, .inr (.inr (.inr (.inr rr))))), (lo, .inl (cR, 154, .inr (.inr (.inr (.inr lr))))), (rk, .inl (cJ, 8, .inr (.inl rw))), (lp, .inl (cJ, 4, .inr (.inl lw))), (h0, .inr (2, [.ref aw, .ref ax, .ref ay, .int (nI 6)])), (aw, .inl (cJ, 16, .inr (.inl (vp_updL g_29 5 (rw 1))))), (ax, .inl (cI, 64, .inl sc)), (ay, .inl (cI, 8, .inl st))]) [0, 1, 2, 3, 4, 5, 6, 7, 8] (by decide) rfl
                        generalize H1 = H at hP hS ⊢
                        obtain ⟨g_34, eg_34⟩ : ∃ f : Nat → Int64, f = vp_updL g_29 5 (rw 1) := ⟨_, rfl⟩
                        rw [← eg_34] at hP hD
                        have hm_35 : wok g_34 6 [lw 0, lw 1, lw 2, lw 3, rw 0, rw 1] := wok_add _ hm_30 eg_34
                        obtain ⟨i_36, ei_36⟩ : ∃ y : Int32, y = 1 + 1 := ⟨_, rfl⟩
                        refine lv_iinc (v := i_36) (lv' := [(3, .int i_36), (2, .int 8), (0, .ref bd0), (1, .int (nI k))]) hx hb d_Bd_hashEntry_77 hl (k := 0) rfl (by rw [ei_36]; rfl) (by decide) rfl (fun ls hl => ?_)
                        obtain rfl : i_36 = 2 := by rw [ei_36]; exact by decide
                        refine lv_goto (tgt := 57) hx hb d_Bd_hashEntry_80 (by decide) ?_
                        refine lv_iload_n hx hb d_Bd_hashEntry_57 rfl (lv_at hl 0 rfl) ?_
                        refine lv_iload_n hx hb d_Bd_hashEntry_58 rfl (lv_at hl 1 rfl) ?_
                        refine lv_icmp_ge (tgt := 83) hx hb d_Bd_hashEntry_59 (by decide) (fun c_37 => ?_) (fun c_37 => ?_)
                        · -- taken
                          exact absurd c_37 (by decide)
                        · -- not taken
                          refine lv_aload_n hx hb d_Bd_hashEntry_62 rfl (lv_at hl 2 rfl) ?_
                          refine va_get (D := (dC, dI)) (ci := 3) (v := .ref h0) (C := "BallotBoard$Board") (T := F_Bo) (N := 4) hx hb hts (fun w9 h9 => List.mem_cons_of_mem _ (i_Bo w9 h9)) hown hK hP 0 rfl rfl 0 (by decide) (hts _ (List.mem_cons_of_mem _ gk_60)) (fun _ h9 => h9) rfl d_Bd_hashEntry_63 ?_
                          refine lv_aload_n hx hb d_Bd_hashEntry_66 rfl (lv_at hl 2 rfl) ?_
                          refine va_get (D := (dC, dI)) (ci := 3) (v := .ref ro) (C := "BallotBoard$Board") (T := F_Bo) (N := 4) hx hb hts (fun w9 h9 => List.mem_cons_of_mem _ (i_Bo w9 h9)) hown hK hP 0 rfl rfl 1 (by decide) (hts _ (List.mem_cons_of_mem _ gk_61)) (fun _ h9 => h9) rfl d_Bd_hashEntry_67 ?_
                          refine lv_iload_n hx hb d_Bd_hashEntry_70 rfl (lv_at hl 3 rfl) ?_
                          refine va_aldA hx hb hK hP 1 2 rfl rfl (vp_in_nI (by omega) (by omega)) d_Bd_hashEntry_71 (b := rk) (by rw [nI_clamp (by omega)]; exact hrk) ?_
                          refine lv_iload_n hx hb d_Bd_hashEntry_72 rfl (lv_at hl 0 rfl) ?_
                          refine va_lald hx hb hK hP 3 0 rfl rfl (vp_lit rfl) d_Bd_hashEntry_73 ?_
                          rw [show (rw (2 : Int32).toNatClampNeg : Int64) = rw 2 from rfl]
                          have hPc := hP.sub (ws' := (ha_ws h0 aw ax ay cJ cI g_34 sc st 6)) [5, 6, 7, 8] rfl
                          have hDc := hD.sub (ws' := (ha_ws h0 aw ax ay cJ cI g_34 sc st 6)) [5, 6, 7, 8] (by decide) rfl
                          have hKc := hK.sub (tys' := [(cJ, .long), (cI, .int)]) [0, 1] rfl
                          have hFc := va_free (wc := (ha_ws h0 aw ax ay cJ cI g_34 sc st 6)) hD hS hA [5, 6, 7, 8] rfl
                          refine va_callv (va_runV (As := [.long (rw 2)]) (rest := []) ⟨hx, hb, hml, hown, hts⟩ (c_Ha_add l dC dI h0 H.size aw ax ay cJ cI g_34 sc st 6 (rw 2) (by decide)) (cwV 1 hts (gw_V gk_592 gk_507 gk_508 gk_2 gk_509) rfl rfl rfl (by decide +kernel) ⟨Nat.le_of_ble_eq_true rfl, Nat.le_of_ble_eq_true rfl⟩) ⟨fun a U g mk q => by obtain ⟨q0, q1, qP, qK, qD⟩ := q; exact ⟨q0, q1, qP, va_K.moved (u := U) (U := U.calling g mk a) (Vm.Alike.refl U.vm) qK, qD⟩, va_recv hK hP (ci := 2) (q0 := 5) rfl rfl, fun U hU hW => ⟨rfl, by rw [hU], by rw [hU]; exact hPc, va_K.moved hW.alike hKc, hDc.weaken (fun _ _ _ _ => trivial)⟩⟩ rfl rfl hl.1 rfl (lv_room (Nat.le_of_ble_eq_true rfl)) d_Bd_hashEntry_74 ⟨Nat.le_of_ble_eq_true rfl, Nat.le_of_ble_eq_true rfl⟩) hS (fun q _ h => hFc q h) hFc (fun u9 t9 H1 locs ht hvm hw hB hz1 hk1 hS => ?_)
                          obtain ⟨hP1, hK1, hD1⟩ := hB
                          rw [ht] at hP1
                          obtain ⟨hP, hD⟩ := va_join (wr := [(bd0, .inr (3, [.ref h0, .ref ro, .ref lo, .int (nI n)])), (ro, .inl (cR, 154, .inr (.inr (.inr (.inr rr))))), (lo, .inl (cR, 154, .inr (.inr (.inr (.inr lr))))), (rk, .inl (cJ, 8, .inr (.inl rw))), (lp, .inl (cJ, 4, .inr (.inl lw)))]) (w1 := [(h0, .inr (2, [.ref aw, .ref ax, .ref ay, .int (nI 7)])), (aw, .inl (cJ, 16, .inr (.inl (vp_updL g_34 6 (rw 2))))), (ax, .inl (cI, 64, .inl sc)), (ay, .inl (cI, 8, .inl st))]) hP hD [5, 6, 7, 8] [0, 1, 2, 3, 4] rfl rfl (by decide) (by decide) hk1 hFc hP1 hD1
                          have hP := hP.sub (ws' := [(bd0, .inr (3, [.ref h0, .ref ro, .ref lo, .int (nI n)])), (ro, .inl (cR, 154, .inr (.inr (.inr (.inr rr))))), (lo, .inl (cR, 154, .inr (.inr (.inr (.inr lr))))), (rk, .inl (cJ, 8, .inr (.inl rw))), (lp, .inl (cJ, 4, .inr (.inl lw))), (h0, .inr (2, [.ref aw, .ref ax, .ref ay, .int (nI 7)])), (aw, .inl (cJ, 16, .inr (.inl (vp_updL g_34 6 (rw 2))))), (ax, .inl (cI, 64, .inl sc)), (ay, .inl (cI, 8, .inl st))]) [0, 1, 2, 3, 4, 5, 6, 7, 8] rfl
                          have hD := hD.sub (ws' := [(bd0, .inr (3, [.ref h0, .ref ro, .ref lo, .int (nI n)])), (ro, .inl (cR, 154, .inr (.inr (.inr (.inr rr))))), (lo, .inl (cR, 154, .inr (.inr (.inr (.inr lr))))), (rk, .inl (cJ, 8, .inr (.inl rw))), (lp, .inl (cJ, 4, .inr (.inl lw))), (h0, .inr (2, [.ref aw, .ref ax, .ref ay, .int (nI 7)])), (aw, .inl (cJ, 16, .inr (.inl (vp_updL g_34 6 (rw 2))))), (ax, .inl (cI, 64, .inl sc)), (ay, .inl (cI, 8, .inl st))]) [0, 1, 2, 3, 4, 5, 6, 7, 8] (by decide) rfl
                          generalize H1 = H at hP hS ⊢
                          obtain ⟨g_39, eg_39⟩ : ∃ f : Nat → Int64, f = vp_updL g_34 6 (rw 2) := ⟨_, rfl⟩
                          rw [← eg_39] at hP hD
                          have hm_40 : wok g_39 7 [lw 0, lw 1, lw 2, lw 3, rw 0, rw 1, rw 2] := wok_add _ hm_35 eg_39
                          obtain ⟨i_41, ei_41⟩ : ∃ y : Int32, y = 2 + 1 := ⟨_, rfl⟩
                          refine lv_iinc (v := i_41) (lv' := [(3, .int i_41), (2, .int 8), (0, .ref bd0), (1, .int (nI k))]) hx hb d_Bd_hashEntry_77 hl (k := 0) rfl (by rw [ei_41]; rfl) (by decide) rfl (fun ls hl => ?_)
                          obtain rfl : i_41 = 3 := by rw [ei_41]; exact by decide
                          refine lv_goto (tgt := 57) hx hb d_Bd_hashEntry_80 (by decide) ?_
                          refine lv_iload_n hx hb d_Bd_hashEntry_57 rfl (lv_at hl 0 rfl) ?_
                          refine lv_iload_n hx hb d_Bd_hashEntry_58 rfl (lv_at hl 1 rfl) ?_
                          refine lv_icmp_ge (tgt := 83) hx hb d_Bd_hashEntry_59 (by decide) (fun c_42 => ?_) (fun c_42 => ?_)
                          · -- taken
                            exact absurd c_42 (by decide)
                          · -- not taken
                            refine lv_aload_n hx hb d_Bd_hashEntry_62 rfl (lv_at hl 2 rfl) ?_
                            refine va_get (D := (dC, dI)) (ci := 3) (v := .ref h0) (C := "BallotBoard$Board") (T := F_Bo) (N := 4) hx hb hts (fun w9 h9 => List.mem_cons_of_mem _ (i_Bo w9 h9)) hown hK hP 0 rfl rfl 0 (by decide) (hts _ (List.mem_cons_of_mem _ gk_60)) (fun _ h9 => h9) rfl d_Bd_hashEntry_63 ?_
                            refine lv_aload_n hx hb d_Bd_hashEntry_66 rfl (lv_at hl 2 rfl) ?_
                            refine va_get (D := (dC, dI)) (ci := 3) (v := .ref ro) (C := "BallotBoard$Board") (T := F_Bo) (N := 4) hx hb hts (fun w9 h9 => List.mem_cons_of_mem _ (i_Bo w9 h9)) hown hK hP 0 rfl rfl 1 (by decide) (hts _ (List.mem_cons_of_mem _ gk_61)) (fun _ h9 => h9) rfl d_Bd_hashEntry_67 ?_
                            refine lv_iload_n hx hb d_Bd_hashEntry_70 rfl (lv_at hl 3 rfl) ?_
                            refine va_aldA hx hb hK hP 1 2 rfl rfl (vp_in_nI (by omega) (by omega)) d_Bd_hashEntry_71 (b := rk) (by rw [nI_clamp (by omega)]; exact hrk) ?_
                            refine lv_iload_n hx hb d_Bd_hashEntry_72 rfl (lv_at hl 0 rfl) ?_
                            refine va_lald hx hb hK hP 3 0 rfl rfl (vp_lit rfl) d_Bd_hashEntry_73 ?_
                            rw [show (rw (3 : Int32).toNatClampNeg : Int64) = rw 3 from rfl]
                            have hPc := hP.sub (ws' := (ha_ws h0 aw ax ay cJ cI g_39 sc st 7)) [5, 6, 7, 8] rfl
                            have hDc := hD.sub (ws' := (ha_ws h0 aw ax ay cJ cI g_39 sc st 7)) [5, 6, 7, 8] (by decide) rfl
                            have hKc := hK.sub (tys' := [(cJ, .long), (cI, .int)]) [0, 1] rfl
                            have hFc := va_free (wc := (ha_ws h0 aw ax ay cJ cI g_39 sc st 7)) hD hS hA [5, 6, 7, 8] rfl
                            refine va_callv (va_runV (As := [.long (rw 3)]) (rest := []) ⟨hx, hb, hml, hown, hts⟩ (c_Ha_add l dC dI h0 H.size aw ax ay cJ cI g_39 sc st 7 (rw 3) (by decide)) (cwV 1 hts (gw_V gk_592 gk_507 gk_508 gk_2 gk_509) rfl rfl rfl (by decide +kernel) ⟨Nat.le_of_ble_eq_true rfl, Nat.le_of_ble_eq_true rfl⟩) ⟨fun a U g mk q => by obtain ⟨q0, q1, qP, qK, qD⟩ := q; exact ⟨q0, q1, qP, va_K.moved (u := U) (U := U.calling g mk a) (Vm.Alike.refl U.vm) qK, qD⟩, va_recv hK hP (ci := 2) (q0 := 5) rfl rfl, fun U hU hW => ⟨rfl, by rw [hU], by rw [hU]; exact hPc, va_K.moved hW.alike hKc, hDc.weaken (fun _ _ _ _ => trivial)⟩⟩ rfl rfl hl.1 rfl (lv_room (Nat.le_of_ble_eq_true rfl)) d_Bd_hashEntry_74 ⟨Nat.le_of_ble_eq_true rfl, Nat.le_of_ble_eq_true rfl⟩) hS (fun q _ h => hFc q h) hFc (fun u9 t9 H1 locs ht hvm hw hB hz1 hk1 hS => ?_)
                            obtain ⟨hP1, hK1, hD1⟩ := hB
                            rw [ht] at hP1
                            obtain ⟨hP, hD⟩ := va_join (wr := [(bd0, .inr (3, [.ref h0, .ref ro, .ref lo, .int (nI n)])), (ro, .inl (cR, 154, .inr (.inr (.inr (.inr rr))))), (lo, .inl (cR, 154, .inr (.inr (.inr (.inr lr))))), (rk, .inl (cJ, 8, .inr (.inl rw))), (lp, .inl (cJ, 4, .inr (.inl lw)))]) (w1 := [(h0, .inr (2, [.ref aw, .ref ax, .ref ay, .int (nI 8)])), (aw, .inl (cJ, 16, .inr (.inl (vp_updL g_39 7 (rw 3))))), (ax, .inl (cI, 64, .inl sc)), (ay, .inl (cI, 8, .inl st))]) hP hD [5, 6, 7, 8] [0, 1, 2, 3, 4] rfl rfl (by decide) (by decide) hk1 hFc hP1 hD1
                            have hP := hP.sub (ws' := [(bd0, .inr (3, [.ref h0, .ref ro, .ref lo, .int (nI n)])), (ro, .inl (cR, 154, .inr (.inr (.inr (.inr rr))))), (lo, .inl (cR, 154, .inr (.inr (.inr (.inr lr))))), (rk, .inl (cJ, 8, .inr (.inl rw))), (lp, .inl (cJ, 4, .inr (.inl lw))), (h0, .inr (2, [.ref aw, .ref ax, .ref ay, .int (nI 8)])), (aw, .inl (cJ, 16, .inr (.inl (vp_updL g_39 7 (rw 3))))), (ax, .inl (cI, 64, .inl sc)), (ay, .inl (cI, 8, .inl st))]) [0, 1, 2, 3, 4, 5, 6, 7, 8] rfl
                            have hD := hD.sub (ws' := [(bd0, .inr (3, [.ref h0, .ref ro, .ref lo, .int (nI n)])), (ro, .inl (cR, 154, .inr (.inr (.inr (.inr rr))))), (lo, .inl (cR, 154, .inr (.inr (.inr (.inr lr))))), (rk, .inl (cJ, 8, .inr (.inl rw))), (lp, .inl (cJ, 4, .inr (.inl lw))), (h0, .inr (2, [.ref aw, .ref ax, .ref ay, .int (nI 8)])), (aw, .inl (cJ, 16, .inr (.inl (vp_updL g_39 7 (rw 3))))), (ax, .inl (cI, 64, .inl sc)), (ay, .inl (cI, 8, .inl st))]) [0, 1, 2, 3, 4, 5, 6, 7, 8] (by decide) rfl
                            generalize H1 = H at hP hS ⊢
                            obtain ⟨g_44, eg_44⟩ : ∃ f : Nat → Int64, f = vp_updL g_39 7 (rw 3) := ⟨_, rfl⟩
                            rw [← eg_44] at hP hD
                            have hm_45 : wok g_44 8 [lw 0, lw 1, lw 2, lw 3, rw 0, rw 1, rw 2, rw 3] := wok_add _ hm_40 eg_44
                            obtain ⟨i_46, ei_46⟩ : ∃ y : Int32, y = 3 + 1 := ⟨_, rfl⟩
                            refine lv_iinc (v := i_46) (lv' := [(3, .int i_46), (2, .int 8), (0, .ref bd0), (1, .int (nI k))]) hx hb d_Bd_hashEntry_77 hl (k := 0) rfl (by rw [ei_46]; rfl) (by decide) rfl (fun ls hl => ?_)
                            obtain rfl : i_46 = 4 := by rw [ei_46]; exact by decide
                            refine lv_goto (tgt := 57) hx hb d_Bd_hashEntry_80 (by decide) ?_
                            refine lv_iload_n hx hb d_Bd_hashEntry_57 rfl (lv_at hl 0 rfl) ?_
                            refine lv_iload_n hx hb d_Bd_hashEntry_58 rfl (lv_at hl 1 rfl) ?_
                            refine lv_icmp_ge (tgt := 83) hx hb d_Bd_hashEntry_59 (by decide) (fun c_47 => ?_) (fun c_47 => ?_)
                            · -- taken
                              exact absurd c_47 (by decide)
                            · -- not taken
                              refine lv_aload_n hx hb d_Bd_hashEntry_62 rfl (lv_at hl 2 rfl) ?_
                              refine va_get (D := (dC, dI)) (ci := 3) (v := .ref h0) (C := "BallotBoard$Board") (T := F_Bo) (N := 4) hx hb hts (fun w9 h9 => List.mem_cons_of_mem _ (i_Bo w9 h9)) hown hK hP 0 rfl rfl 0 (by decide) (hts _ (List.mem_cons_of_mem _ gk_60)) (fun _ h9 => h9) rfl d_Bd_hashEntry_63 ?_
                              refine lv_aload_n hx hb d_Bd_hashEntry_66 rfl (lv_at hl 2 rfl) ?_
                              refine va_get (D := (dC, dI)) (ci := 3) (v := .ref ro) (C := "BallotBoard$Board") (T := F_Bo) (N := 4) hx hb hts (fun w9 h9 => List.mem_cons_of_mem _ (i_Bo w9 h9)) hown hK hP 0 rfl rfl 1 (by decide) (hts _ (List.mem_cons_of_mem _ gk_61)) (fun _ h9 => h9) rfl d_Bd_hashEntry_67 ?_
                              refine lv_iload_n hx hb d_Bd_hashEntry_70 rfl (lv_at hl 3 rfl) ?_
                              refine va_aldA hx hb hK hP 1 2 rfl rfl (vp_in_nI (by omega) (by omega)) d_Bd_hashEntry_71 (b := rk) (by rw [nI_clamp (by omega)]; exact hrk) ?_
                              refine lv_iload_n hx hb d_Bd_hashEntry_72 rfl (lv_at hl 0 rfl) ?_
                              refine va_lald hx hb hK hP 3 0 rfl rfl (vp_lit rfl) d_Bd_hashEntry_73 ?_
                              rw [show (rw (4 : Int32).toNatClampNeg : Int64) = rw 4 from rfl]
                              have hPc := hP.sub (ws' := (ha_ws h0 aw ax ay cJ cI g_44 sc st 8)) [5, 6, 7, 8] rfl
                              have hDc := hD.sub (ws' := (ha_ws h0 aw ax ay cJ cI g_44 sc st 8)) [5, 6, 7, 8] (by decide) rfl
                              have hKc := hK.sub (tys' := [(cJ, .long), (cI, .int)]) [0, 1] rfl
                              have hFc := va_free (wc := (ha_ws h0 aw ax ay cJ cI g_44 sc st 8)) hD hS hA [5, 6, 7, 8] rfl
                              refine va_callv (va_runV (As := [.long (rw 4)]) (rest := []) ⟨hx, hb, hml, hown, hts⟩ (c_Ha_add l dC dI h0 H.size aw ax ay cJ cI g_44 sc st 8 (rw 4) (by decide)) (cwV 1 hts (gw_V gk_592 gk_507 gk_508 gk_2 gk_509) rfl rfl rfl (by decide +kernel) ⟨Nat.le_of_ble_eq_true rfl, Nat.le_of_ble_eq_true rfl⟩) ⟨fun a U g mk q => by obtain ⟨q0, q1, qP, qK, qD⟩ := q; exact ⟨q0, q1, qP, va_K.moved (u := U) (U := U.calling g mk a) (Vm.Alike.refl U.vm) qK, qD⟩, va_recv hK hP (ci := 2) (q0 := 5) rfl rfl, fun U hU hW => ⟨rfl, by rw [hU], by rw [hU]; exact hPc, va_K.moved hW.alike hKc, hDc.weaken (fun _ _ _ _ => trivial)⟩⟩ rfl rfl hl.1 rfl (lv_room (Nat.le_of_ble_eq_true rfl)) d_Bd_hashEntry_74 ⟨Nat.le_of_ble_eq_true rfl, Nat.le_of_ble_eq_true rfl⟩) hS (fun q _ h => hFc q h) hFc (fun u9 t9 H1 locs ht hvm hw hB hz1 hk1 hS => ?_)
                              obtain ⟨hP1, hK1, hD1⟩ := hB
                              rw [ht] at hP1
                              obtain ⟨hP, hD⟩ := va_join (wr := [(bd0, .inr (3, [.ref h0, .ref ro, .ref lo, .int (nI n)])), (ro, .inl (cR, 154, .inr (.inr (.inr (.inr rr))))), (lo, .inl (cR, 154, .inr (.inr (.inr (.inr lr))))), (rk, .inl (cJ, 8, .inr (.inl rw))), (lp, .inl (cJ, 4, .inr (.inl lw)))]) (w1 := [(h0, .inr (2, [.ref aw, .ref ax, .ref ay, .int (nI 9)])), (aw, .inl (cJ, 16, .inr (.inl (vp_updL g_44 8 (rw 4))))), (ax, .inl (cI, 64, .inl sc)), (ay, .inl (cI, 8, .inl st))]) hP hD [5, 6, 7, 8] [0, 1, 2, 3, 4] rfl rfl (by decide) (by decide) hk1 hFc hP1 hD1
                              have hP := hP.sub (ws' := [(bd0, .inr (3, [.ref h0, .ref ro, .ref lo, .int (nI n)])), (ro, .inl (cR, 154, .inr (.inr (.inr (.inr rr))))), (lo, .inl (cR, 154, .inr (.inr (.inr (.inr lr))))), (rk, .inl (cJ, 8, .inr (.inl rw))), (lp, .inl (cJ, 4, .inr (.inl lw))), (h0, .inr (2, [.ref aw, .ref ax, .ref ay, .int (nI 9)])), (aw, .inl (cJ, 16, .inr (.inl (vp_updL g_44 8 (rw 4))))), (ax, .inl (cI, 64, .inl sc)), (ay, .inl (cI, 8, .inl st))]) [0, 1, 2, 3, 4, 5, 6, 7, 8] rfl
                              have hD := hD.sub (ws' := [(bd0, .inr (3, [.ref h0, .ref ro, .ref lo, .int (nI n)])), (ro, .inl (cR, 154, .inr (.inr (.inr (.inr rr))))), (lo, .inl (cR, 154, .inr (.inr (.inr (.inr lr))))), (rk, .inl (cJ, 8, .inr (.inl rw))), (lp, .inl (cJ, 4, .inr (.inl lw))), (h0, .inr (2, [.ref aw, .ref ax, .ref ay, .int (nI 9)])), (aw, .inl (cJ, 16, .inr (.inl (vp_updL g_44 8 (rw 4))))), (ax, .inl (cI, 64, .inl sc)), (ay, .inl (cI, 8, .inl st))]) [0, 1, 2, 3, 4, 5, 6, 7, 8] (by decide) rfl
                              generalize H1 = H at hP hS ⊢
                              obtain ⟨g_49, eg_49⟩ : ∃ f : Nat → Int64, f = vp_updL g_44 8 (rw 4) := ⟨_, rfl⟩
                              rw [← eg_49] at hP hD
                              have hm_50 : wok g_49 9 [lw 0, lw 1, lw 2, lw 3, rw 0, rw 1, rw 2, rw 3, rw 4] := wok_add _ hm_45 eg_49
                              obtain ⟨i_51, ei_51⟩ : ∃ y : Int32, y = 4 + 1 := ⟨_, rfl⟩
                              refine lv_iinc (v := i_51) (lv' := [(3, .int i_51), (2, .int 8), (0, .ref bd0), (1, .int (nI k))]) hx hb d_Bd_hashEntry_77 hl (k := 0) rfl (by rw [ei_51]; rfl) (by decide) rfl (fun ls hl => ?_)
                              obtain rfl : i_51 = 5 := by rw [ei_51]; exact by decide
                              refine lv_goto (tgt := 57) hx hb d_Bd_hashEntry_80 (by decide) ?_
                              refine lv_iload_n hx hb d_Bd_hashEntry_57 rfl (lv_at hl 0 rfl) ?_
                              refine lv_iload_n hx hb d_Bd_hashEntry_58 rfl (lv_at hl 1 rfl) ?_
                              refine lv_icmp_ge (tgt := 83) hx hb d_Bd_hashEntry_59 (by decide) (fun c_52 => ?_) (fun c_52 => ?_)
                              · -- taken
                                exact absurd c_52 (by decide)
                              · -- not taken
                                refine lv_aload_n hx hb d_Bd_hashEntry_62 rfl (lv_at hl 2 rfl) ?_
                                refine va_get (D := (dC, dI)) (ci := 3) (v := .ref h0) (C := "BallotBoard$Board") (T := F_Bo) (N := 4) hx hb hts (fun w9 h9 => List.mem_cons_of_mem _ (i_Bo w9 h9)) hown hK hP 0 rfl rfl 0 (by decide) (hts _ (List.mem_cons_of_mem _ gk_60)) (fun _ h9 => h9) rfl d_Bd_hashEntry_63 ?_
                                refine lv_aload_n hx hb d_Bd_hashEntry_66 rfl (lv_at hl 2 rfl) ?_
                                refine va_get (D := (dC, dI)) (ci := 3) (v := .ref ro) (C := "BallotBoard$Board") (T := F_Bo) (N := 4) hx hb hts (fun w9 h9 => List.mem_cons_of_mem _ (i_Bo w9 h9)) hown hK hP 0 rfl rfl 1 (by decide) (hts _ (List.mem_cons_of_mem _ gk_61)) (fun _ h9 => h9) rfl d_Bd_hashEntry_67 ?_
                                refine lv_iload_n hx hb d_Bd_hashEntry_70 rfl (lv_at hl 3 rfl) ?_
                                refine va_aldA hx hb hK hP 1 2 rfl rfl (vp_in_nI (by omega) (by omega)) d_Bd_hashEntry_71 (b := rk) (by rw [nI_clamp (by omega)]; exact hrk) ?_
                                refine lv_iload_n hx hb d_Bd_hashEntry_72 rfl (lv_at hl 0 rfl) ?_
                                refine va_lald hx hb hK hP 3 0 rfl rfl (vp_lit rfl) d_Bd_hashEntry_73 ?_
                                rw [show (rw (5 : Int32).toNatClampNeg : Int64) = rw 5 from rfl]
                                have hPc := hP.sub (ws' := (ha_ws h0 aw ax ay cJ cI g_49 sc st 9)) [5, 6, 7, 8] rfl
                                have hDc := hD.sub (ws' := (ha_ws h0 aw ax ay cJ cI g_49 sc st 9)) [5, 6, 7, 8] (by decide) rfl
                                have hKc := hK.sub (tys' := [(cJ, .long), (cI, .int)]) [0, 1] rfl
                                have hFc := va_free (wc := (ha_ws h0 aw ax ay cJ cI g_49 sc st 9)) hD hS hA [5, 6, 7, 8] rfl
                                refine va_callv (va_runV (As := [.long (rw 5)]) (rest := []) ⟨hx, hb, hml, hown, hts⟩ (c_Ha_add l dC dI h0 H.size aw ax ay cJ cI g_49 sc st 9 (rw 5) (by decide)) (cwV 1 hts (gw_V gk_592 gk_507 gk_508 gk_2 gk_509) rfl rfl rfl (by decide +kernel) ⟨Nat.le_of_ble_eq_true rfl, Nat.le_of_ble_eq_true rfl⟩) ⟨fun a U g mk q => by obtain ⟨q0, q1, qP, qK, qD⟩ := q; exact ⟨q0, q1, qP, va_K.moved (u := U) (U := U.calling g mk a) (Vm.Alike.refl U.vm) qK, qD⟩, va_recv hK hP (ci := 2) (q0 := 5) rfl rfl, fun U hU hW => ⟨rfl, by rw [hU], by rw [hU]; exact hPc, va_K.moved hW.alike hKc, hDc.weaken (fun _ _ _ _ => trivial)⟩⟩ rfl rfl hl.1 rfl (lv_room (Nat.le_of_ble_eq_true rfl)) d_Bd_hashEntry_74 ⟨Nat.le_of_ble_eq_true rfl, Nat.le_of_ble_eq_true rfl⟩) hS (fun q _ h => hFc q h) hFc (fun u9 t9 H1 locs ht hvm hw hB hz1 hk1 hS => ?_)
                                obtain ⟨hP1, hK1, hD1⟩ := hB
                                rw [ht] at hP1
                                obtain ⟨hP, hD⟩ := va_join (wr := [(bd0, .inr (3, [.ref h0, .ref ro, .ref lo, .int (nI n)])), (ro, .inl (cR, 154, .inr (.inr (.inr (.inr rr))))), (lo, .inl (cR, 154, .inr (.inr (.inr (.inr lr))))), (rk, .inl (cJ, 8, .inr (.inl rw))), (lp, .inl (cJ, 4, .inr (.inl lw)))]) (w1 := [(h0, .inr (2, [.ref aw, .ref ax, .ref ay, .int (nI 10)])), (aw, .inl (cJ, 16, .inr (.inl (vp_updL g_49 9 (rw 5))))), (ax, .inl (cI, 64, .inl sc)), (ay, .inl (cI, 8, .inl st))]) hP hD [5, 6, 7, 8] [0, 1, 2, 3, 4] rfl rfl (by decide) (by decide) hk1 hFc hP1 hD1
                                have hP := hP.sub (ws' := [(bd0, .inr (3, [.ref h0, .ref ro, .ref lo, .int (nI n)])), (ro, .inl (cR, 154, .inr (.inr (.inr (.inr rr))))), (lo, .inl (cR, 154, .inr (.inr (.inr (.inr lr))))), (rk, .inl (cJ, 8, .inr (.inl rw))), (lp, .inl (cJ, 4, .inr (.inl lw))), (h0, .inr (2, [.ref aw, .ref ax, .ref ay, .int (nI 10)])), (aw, .inl (cJ, 16, .inr (.inl (vp_updL g_49 9 (rw 5))))), (ax, .inl (cI, 64, .inl sc)), (ay, .inl (cI, 8, .inl st))]) [0, 1, 2, 3, 4, 5, 6, 7, 8] rfl
                                have hD := hD.sub (ws' := [(bd0, .inr (3, [.ref h0, .ref ro, .ref lo, .int (nI n)])), (ro, .inl (cR, 154, .inr (.inr (.inr (.inr rr))))), (lo, .inl (cR, 154, .inr (.inr (.inr (.inr lr))))), (rk, .inl (cJ, 8, .inr (.inl rw))), (lp, .inl (cJ, 4, .inr (.inl lw))), (h0, .inr (2, [.ref aw, .ref ax, .ref ay, .int (nI 10)])), (aw, .inl (cJ, 16, .inr (.inl (vp_updL g_49 9 (rw 5))))), (ax, .inl (cI, 64, .inl sc)), (ay, .inl (cI, 8, .inl st))]) [0, 1, 2, 3, 4, 5, 6, 7, 8] (by decide) rfl
                                generalize H1 = H at hP hS ⊢
                                obtain ⟨g_54, eg_54⟩ : ∃ f : Nat → Int64, f = vp_updL g_49 9 (rw 5) := ⟨_, rfl⟩
                                rw [← eg_54] at hP hD
                                have hm_55 : wok g_54 10 [lw 0, lw 1, lw 2, lw 3, rw 0, rw 1, rw 2, rw 3, rw 4, rw 5] := wok_add _ hm_50 eg_54
                                obtain ⟨i_56, ei_56⟩ : ∃ y : Int32, y = 5 + 1 := ⟨_, rfl⟩
                                refine lv_iinc (v := i_56) (lv' := [(3, .int i_56), (2, .int 8), (0, .ref bd0), (1, .int (nI k))]) hx hb d_Bd_hashEntry_77 hl (k := 0) rfl (by rw [ei_56]; rfl) (by decide) rfl (fun ls hl => ?_)
                                obtain rfl : i_56 = 6 := by rw [ei_56]; exact by decide
                                refine lv_goto (tgt := 57) hx hb d_Bd_hashEntry_80 (by decide) ?_
                                refine lv_iload_n hx hb d_Bd_hashEntry_57 rfl (lv_at hl 0 rfl) ?_
                                refine lv_iload_n hx hb d_Bd_hashEntry_58 rfl (lv_at hl 1 rfl) ?_
                                refine lv_icmp_ge (tgt := 83) hx hb d_Bd_hashEntry_59 (by decide) (fun c_57 => ?_) (fun c_57 => ?_)
                                · -- taken
                                  exact absurd c_57 (by decide)
                                · -- not taken
                                  refine lv_aload_n hx hb d_Bd_hashEntry_62 rfl (lv_at hl 2 rfl) ?_
                                  refine va_get (D := (dC, dI)) (ci := 3) (v := .ref h0) (C := "BallotBoard$Board") (T := F_Bo) (N := 4) hx hb hts (fun w9 h9 => List.mem_cons_of_mem _ (i_Bo w9 h9)) hown hK hP 0 rfl rfl 0 (by decide) (hts _ (List.mem_cons_of_mem _ gk_60)) (fun _ h9 => h9) rfl d_Bd_hashEntry_63 ?_
                                  refine lv_aload_n hx hb d_Bd_hashEntry_66 rfl (lv_at hl 2 rfl) ?_
                                  refine va_get (D := (dC, dI)) (ci := 3) (v := .ref ro) (C := "BallotBoard$Board") (T := F_Bo) (N := 4) hx hb hts (fun w9 h9 => List.mem_cons_of_mem _ (i_Bo w9 h9)) hown hK hP 0 rfl rfl 1 (by decide) (hts _ (List.mem_cons_of_mem _ gk_61)) (fun _ h9 => h9) rfl d_Bd_hashEntry_67 ?_
                                  refine lv_iload_n hx hb d_Bd_hashEntry_70 rfl (lv_at hl 3 rfl) ?_
                                  refine va_aldA hx hb hK hP 1 2 rfl rfl (vp_in_nI (by omega) (by omega)) d_Bd_hashEntry_71 (b := rk) (by rw [nI_clamp (by omega)]; exact hrk) ?_
                                  refine lv_iload_n hx hb d_Bd_hashEntry_72 rfl (lv_at hl 0 rfl) ?_
                                  refine va_lald hx hb hK hP 3 0 rfl rfl (vp_lit rfl) d_Bd_hashEntry_73 ?_
                                  rw [show (rw (6 : Int32).toNatClampNeg : Int64) = rw 6 from rfl]
                                  have hPc := hP.sub (ws' := (ha_ws h0 aw ax ay cJ cI g_54 sc st 10)) [5, 6, 7, 8] rfl
                                  have hDc := hD.sub (ws' := (ha_ws h0 aw ax ay cJ cI g_54 sc st 10)) [5, 6, 7, 8] (by decide) rfl
                                  have hKc := hK.sub (tys' := [(cJ, .long), (cI, .int)]) [0, 1] rfl
                                  have hFc := va_free (wc := (ha_ws h0 aw ax ay cJ cI g_54 sc st 10)) hD hS hA [5, 6, 7, 8] rfl
                                  refine va_callv (va_runV (As := [.long (rw 6)]) (rest := []) ⟨hx, hb, hml, hown, hts⟩ (c_Ha_add l dC dI h0 H.size aw ax ay cJ cI g_54 sc st 10 (rw 6) (by decide)) (cwV 1 hts (gw_V gk_592 gk_507 gk_508 gk_2 gk_509) rfl rfl rfl (by decide +kernel) ⟨Nat.le_of_ble_eq_true rfl, Nat.le_of_ble_eq_true rfl⟩) ⟨fun a U g mk q => by obtain ⟨q0, q1, qP, qK, qD⟩ := q; exact ⟨q0, q1, qP, va_K.moved (u := U) (U := U.calling g mk a) (Vm.Alike.refl U.vm) qK, qD⟩, va_recv hK hP (ci := 2) (q0 := 5) rfl rfl, fun U hU hW => ⟨rfl, by rw [hU], by rw [hU]; exact hPc, va_K.moved hW.alike hKc, hDc.weaken (fun _ _ _ _ => trivial)⟩⟩ rfl rfl hl.1 rfl (lv_room (Nat.le_of_ble_eq_true rfl)) d_Bd_hashEntry_74 ⟨Nat.le_of_ble_eq_true rfl, Nat.le_of_ble_eq_true rfl⟩) hS (fun q _ h => hFc q h) hFc (fun u9 t9 H1 locs ht hvm hw hB hz1 hk1 hS => ?_)
                                  obtain ⟨hP1, hK1, hD1⟩ := hB
                                  rw [ht] at hP1
                                  obtain ⟨hP, hD⟩ := va_join (wr := [(bd0, .inr (3, [.ref h0, .ref ro, .ref lo, .int (nI n)])), (ro, .inl (cR, 154, .inr (.inr (.inr (.inr rr))))), (lo, .inl (cR, 154, .inr (.inr (.inr (.inr lr))))), (rk, .inl (cJ, 8, .inr (.inl rw))), (lp, .inl (cJ, 4, .inr (.inl lw)))]) (w1 := [(h0, .inr (2, [.ref aw, .ref ax, .ref ay, .int (nI 11)])), (aw, .inl (cJ, 16, .inr (.inl (vp_updL g_54 10 (rw 6))))), (ax, .inl (cI, 64, .inl sc)), (ay, .inl (cI, 8, .inl st))]) hP hD [5, 6, 7, 8] [0, 1, 2, 3, 4] rfl rfl (by decide) (by decide) hk1 hFc hP1 hD1
                                  have hP := hP.sub (ws' := [(bd0, .inr (3, [.ref h0, .ref ro, .ref lo, .int (nI n)])), (ro, .inl (cR, 154, .inr (.inr (.inr (.inr rr))))), (lo, .inl (cR, 154, .inr (.inr (.inr (.inr lr))))), (rk, .inl (cJ, 8, .inr (.inl rw))), (lp, .inl (cJ, 4, .inr (.inl lw))), (h0, .inr (2, [.ref aw, .ref ax, .ref ay, .int (nI 11)])), (aw, .inl (cJ, 16, .inr (.inl (vp_updL g_54 10 (rw 6))))), (ax, .inl (cI, 64, .inl sc)), (ay, .inl (cI, 8, .inl st))]) [0, 1, 2, 3, 4, 5, 6, 7, 8] rfl
                                  have hD := hD.sub (ws' := [(bd0, .inr (3, [.ref h0, .ref ro, .ref lo, .int (nI n)])), (ro, .inl (cR, 154, .inr (.inr (.inr (.inr rr))))), (lo, .inl (cR, 154, .inr (.inr (.inr (.inr lr))))), (rk, .inl (cJ, 8, .inr (.inl rw))), (lp, .inl (cJ, 4, .inr (.inl lw))), (h0, .inr (2, [.ref aw, .ref ax, .ref ay, .int (nI 11)])), (aw, .inl (cJ, 16, .inr (.inl (vp_updL g_54 10 (rw 6))))), (ax, .inl (cI, 64, .inl sc)), (ay, .inl (cI, 8, .inl st))]) [0, 1, 2, 3, 4, 5, 6, 7, 8] (by decide) rfl
                                  generalize H1 = H at hP hS ⊢
                                  obtain ⟨g_59, eg_59⟩ : ∃ f : Nat → Int64, f = vp_updL g_54 10 (rw 6) := ⟨_, rfl⟩
                                  rw [← eg_59] at hP hD
                                  have hm_60 : wok g_59 11 [lw 0, lw 1, lw 2, lw 3, rw 0, rw 1, rw 2, rw 3, rw 4, rw 5, rw 6] := wok_add _ hm_55 eg_59
                                  obtain ⟨i_61, ei_61⟩ : ∃ y : Int32, y = 6 + 1 := ⟨_, rfl⟩
                                  refine lv_iinc (v := i_61) (lv' := [(3, .int i_61), (2, .int 8), (0, .ref bd0), (1, .int (nI k))]) hx hb d_Bd_hashEntry_77 hl (k := 0) rfl (by rw [ei_61]; rfl) (by decide) rfl (fun ls hl => ?_)
                                  obtain rfl : i_61 = 7 := by rw [ei_61]; exact by decide
                                  refine lv_goto (tgt := 57) hx hb d_Bd_hashEntry_80 (by decide) ?_
                                  refine lv_iload_n hx hb d_Bd_hashEntry_57 rfl (lv_at hl 0 rfl) ?_
                                  refine lv_iload_n hx hb d_Bd_hashEntry_58 rfl (lv_at hl 1 rfl) ?_
                                  refine lv_icmp_ge (tgt := 83) hx hb d_Bd_hashEntry_59 (by decide) (fun c_62 => ?_) (fun c_62 => ?_)
                                  · -- taken
                                    exact absurd c_62 (by decide)
                                  · -- not taken
                                    refine lv_aload_n hx hb d_Bd_hashEntry_62 rfl (lv_at hl 2 rfl) ?_
                                    refine va_get (D := (dC, dI)) (ci := 3) (v := .ref h0) (C := "BallotBoard$Board") (T := F_Bo) (N := 4) hx hb hts (fun w9 h9 => List.mem_cons_of_mem _ (i_Bo w9 h9)) hown hK hP 0 rfl rfl 0 (by decide) (hts _ (List.mem_cons_of_mem _ gk_60)) (fun _ h9 => h9) rfl d_Bd_hashEntry_63 ?_
                                    refine lv_aload_n hx hb d_Bd_hashEntry_66 rfl (lv_at hl 2 rfl) ?_
                                    refine va_get (D := (dC, dI)) (ci := 3) (v := .ref ro) (C := "BallotBoard$Board") (T := F_Bo) (N := 4) hx hb hts (fun w9 h9 => List.mem_cons_of_mem _ (i_Bo w9 h9)) hown hK hP 0 rfl rfl 1 (by decide) (hts _ (List.mem_cons_of_mem _ gk_61)) (fun _ h9 => h9) rfl d_Bd_hashEntry_67 ?_
                                    refine lv_iload_n hx hb d_Bd_hashEntry_70 rfl (lv_at hl 3 rfl) ?_
                                    refine va_aldA hx hb hK hP 1 2 rfl rfl (vp_in_nI (by omega) (by omega)) d_Bd_hashEntry_71 (b := rk) (by rw [nI_clamp (by omega)]; exact hrk) ?_
                                    refine lv_iload_n hx hb d_Bd_hashEntry_72 rfl (lv_at hl 0 rfl) ?_
                                    refine va_lald hx hb hK hP 3 0 rfl rfl (vp_lit rfl) d_Bd_hashEntry_73 ?_
                                    rw [show (rw (7 : Int32).toNatClampNeg : Int64) = rw 7 from rfl]
                                    have hPc := hP.sub (ws' := (ha_ws h0 aw ax ay cJ cI g_59 sc st 11)) [5, 6, 7, 8] rfl
                                    have hDc := hD.sub (ws' := (ha_ws h0 aw ax ay cJ cI g_59 sc st 11)) [5, 6, 7, 8] (by decide) rfl
                                    have hKc := hK.sub (tys' := [(cJ, .long), (cI, .int)]) [0, 1] rfl
                                    have hFc := va_free (wc := (ha_ws h0 aw ax ay cJ cI g_59 sc st 11)) hD hS hA [5, 6, 7, 8] rfl
                                    refine va_callv (va_runV (As := [.long (rw 7)]) (rest := []) ⟨hx, hb, hml, hown, hts⟩ (c_Ha_add l dC dI h0 H.size aw ax ay cJ cI g_59 sc st 11 (rw 7) (by decide)) (cwV 1 hts (gw_V gk_592 gk_507 gk_508 gk_2 gk_509) rfl rfl rfl (by decide +kernel) ⟨Nat.le_of_ble_eq_true rfl, Nat.le_of_ble_eq_true rfl⟩) ⟨fun a U g mk q => by obtain ⟨q0, q1, qP, qK, qD⟩ := q; exact ⟨q0, q1, qP, va_K.moved (u := U) (U := U.calling g mk a) (Vm.Alike.refl U.vm) qK, qD⟩, va_recv hK hP (ci := 2) (q0 := 5) rfl rfl, fun U hU hW => ⟨rfl, by rw [hU], by rw [hU]; exact hPc, va_K.moved hW.alike hKc, hDc.weaken (fun _ _ _ _ => trivial)⟩⟩ rfl rfl hl.1 rfl (lv_room (Nat.le_of_ble_eq_true rfl)) d_Bd_hashEntry_74 ⟨Nat.le_of_ble_eq_true rfl, Nat.le_of_ble_eq_true rfl⟩) hS (fun q _ h => hFc q h) hFc (fun u9 t9 H1 locs ht hvm hw hB hz1 hk1 hS => ?_)
                                    obtain ⟨hP1, hK1, hD1⟩ := hB
                                    rw [ht] at hP1
                                    obtain ⟨hP, hD⟩ := va_join (wr := [(bd0, .inr (3, [.ref h0, .ref ro, .ref lo, .int (nI n)])), (ro, .inl (cR, 154, .inr (.inr (.inr (.inr rr))))), (lo, .inl (cR, 154, .inr (.inr (.inr (.inr lr))))), (rk, .inl (cJ, 8, .inr (.inl rw))), (lp, .inl (cJ, 4, .inr (.inl lw)))]) (w1 := [(h0, .inr (2, [.ref aw, .ref ax, .ref ay, .int (nI 12)])), (aw, .inl (cJ, 16, .inr (.inl (vp_updL g_59 11 (rw 7))))), (ax, .inl (cI, 64, .inl sc)), (ay, .inl (cI, 8, .inl st))]) hP hD [5, 6, 7, 8] [0, 1, 2, 3, 4] rfl rfl (by decide) (by decide) hk1 hFc hP1 hD1
                                    have hP := hP.sub (ws' := [(bd0, .inr (3, [.ref h0, .ref ro, .ref lo, .int (nI n)])), (ro, .inl (cR, 154, .inr (.inr (.inr (.inr rr))))), (lo, .inl (cR, 154, .inr (.inr (.inr (.inr lr))))), (rk, .inl (cJ, 8, .inr (.inl rw))), (lp, .inl (cJ, 4, .inr (.inl lw))), (h0, .inr (2, [.ref aw, .ref ax, .ref ay, .int (nI 12)])), (aw, .inl (cJ, 16, .inr (.inl (vp_updL g_59 11 (rw 7))))), (ax, .inl (cI, 64, .inl sc)), (ay, .inl (cI, 8, .inl st))]) [0, 1, 2, 3, 4, 5, 6, 7, 8] rfl
                                    have hD := hD.sub (ws' := [(bd0, .inr (3, [.ref h0, .ref ro, .ref lo, .int (nI n)])), (ro, .inl (cR, 154, .inr (.inr (.inr (.inr rr))))), (lo, .inl (cR, 154, .inr (.inr (.inr (.inr lr))))), (rk, .inl (cJ, 8, .inr (.inl rw))), (lp, .inl (cJ, 4, .inr (.inl lw))), (h0, .inr (2, [.ref aw, .ref ax, .ref ay, .int (nI 12)])), (aw, .inl (cJ, 16, .inr (.inl (vp_updL g_59 11 (rw 7))))), (ax, .inl (cI, 64, .inl sc)), (ay, .inl (cI, 8, .inl st))]) [0, 1, 2, 3, 4, 5, 6, 7, 8] (by decide) rfl
                                    generalize H1 = H at hP hS ⊢
                                    obtain ⟨g_64, eg_64⟩ : ∃ f : Nat → Int64, f = vp_updL g_59 11 (rw 7) := ⟨_, rfl⟩
                                    rw [← eg_64] at hP hD
                                    have hm_65 : wok g_64 12 [lw 0, lw 1, lw 2, lw 3, rw 0, rw 1, rw 2, rw 3, rw 4, rw 5, rw 6, rw 7] := wok_add _ hm_60 eg_64
                                    obtain ⟨i_66, ei_66⟩ : ∃ y : Int32, y = 7 + 1 := ⟨_, rfl⟩
                                    refine lv_iinc (v := i_66) (lv' := [(3, .int i_66), (2, .int 8), (0, .ref bd0), (1, .int (nI k))]) hx hb d_Bd_hashEntry_77 hl (k := 0) rfl (by rw [ei_66]; rfl) (by decide) rfl (fun ls hl => ?_)
                                    obtain rfl : i_66 = 8 := by rw [ei_66]; exact by decide
                                    refine lv_goto (tgt := 57) hx hb d_Bd_hashEntry_80 (by decide) ?_
                                    refine lv_iload_n hx hb d_Bd_hashEntry_57 rfl (lv_at hl 0 rfl) ?_
                                    refine lv_iload_n hx hb d_Bd_hashEntry_58 rfl (lv_at hl 1 rfl) ?_
                                    refine lv_icmp_ge (tgt := 83) hx hb d_Bd_hashEntry_59 (by decide) (fun c_67 => ?_) (fun c_67 => ?_)
                                    · -- taken
                                      refine lv_aload_n hx hb d_Bd_hashEntry_83 rfl (lv_at hl 2 rfl) ?_
                                      refine va_get (D := (dC, dI)) (ci := 3) (v := .ref h0) (C := "BallotBoard$Board") (T := F_Bo) (N := 4) hx hb hts (fun w9 h9 => List.mem_cons_of_mem _ (i_Bo w9 h9)) hown hK hP 0 rfl rfl 0 (by decide) (hts _ (List.mem_cons_of_mem _ gk_60)) (fun _ h9 => h9) rfl d_Bd_hashEntry_84 ?_
                                      have hPc := hP.sub (ws' := (ha_ws h0 aw ax ay cJ cI g_64 sc st 12)) [5, 6, 7, 8] rfl
                                      have hDc := hD.sub (ws' := (ha_ws h0 aw ax ay cJ cI g_64 sc st 12)) [5, 6, 7, 8] (by decide) rfl
                                      have hKc := hK.sub (tys' := [(cJ, .long), (cI, .int)]) [0, 1] rfl
                                      have hFc := va_free (wc := (ha_ws h0 aw ax ay cJ cI g_64 sc st 12)) hD hS hA [5, 6, 7, 8] rfl
                                      have hZc0 : ha_Z rA sA (va_A (ha_ws h0 aw ax ay cJ cI g_64 sc st 12) H.size) s H := (hZha.kept hS.2.1).narrow hFc
                                      refine va_callv (va_runV (As := []) (rest := []) ⟨hx, hb, hml, hown, hts⟩ (c_Ha_finish l dC dI h0 H.size aw ax ay cJ cI g_64 sc st 12 rA sA (by decide)) (cwV 0 hts (gw_V gk_597 gk_516 gk_517 gk_2 gk_518) rfl rfl rfl (by decide +kernel) ⟨Nat.le_of_ble_eq_true rfl, Nat.le_of_ble_eq_true rfl⟩) ⟨fun a U g mk q => by obtain ⟨q0, q1, qP, qK, qD, qZ0⟩ := q; exact ⟨q0, q1, qP, va_K.moved (u := U) (U := U.calling g mk a) (Vm.Alike.refl U.vm) qK, qD, ha_Z.moved (u := U) (U := U.calling g mk a) (Vm.Alike.refl U.vm) qZ0⟩, va_recv hK hP (ci := 2) (q0 := 5) rfl rfl, fun U hU hW => ⟨rfl, by rw [hU], by rw [hU]; exact hPc, va_K.moved hW.alike hKc, hDc.weaken (fun _ _ _ _ => trivial), by rw [hU]; exact ha_Z.moved hW.alike hZc0⟩⟩ rfl rfl hl.1 rfl (lv_room (Nat.le_of_ble_eq_true rfl)) d_Bd_hashEntry_87 ⟨Nat.le_of_ble_eq_true rfl, Nat.le_of_ble_eq_true rfl⟩) hS (fun q _ h => hFc q h) hFc (fun u9 t9 H1 locs ht hvm hw hB hz1 hk1 hS => ?_)
                                      obtain ⟨hP1, hK1, hD1⟩ := hB
                                      rw [ht] at hP1
                                      obtain ⟨hP, hD⟩ := va_join (wr := [(bd0, .inr (3, [.ref h0, .ref ro, .ref lo, .int (nI n)])), (ro, .inl (cR, 154, .inr (.inr (.inr (.inr rr))))), (lo, .inl (cR, 154, .inr (.inr (.inr (.inr lr))))), (rk, .inl (cJ, 8, .inr (.inl rw))), (lp, .inl (cJ, 4, .inr (.inl lw)))]) (w1 := [(h0, .inr (2, [.ref aw, .ref ax, .ref ay, .int (nI 12)])), (aw, .inl (cJ, 16, .inr (.inl (pw g_64 12)))), (ax, .inl (cI, 64, .inl ((hbk (pw g_64 12) sc (va_cpy kS st 0 0 8) (pdl 12 / 8)).1))), (ay, .inl (cI, 8, .inl ((hbk (pw g_64 12) sc (va_cpy kS st 0 0 8) (pdl 12 / 8)).2)))]) hP hD [5, 6, 7, 8] [0, 1, 2, 3, 4] rfl rfl (by decide) (by decide) hk1 hFc hP1 hD1
                                      have hP := hP.sub (ws' := [(bd0, .inr (3, [.ref h0, .ref ro, .ref lo, .int (nI n)])), (ro, .inl (cR, 154, .inr (.inr (.inr (.inr rr))))), (lo, .inl (cR, 154, .inr (.inr (.inr (.inr lr))))), (rk, .inl (cJ, 8, .inr (.inl rw))), (lp, .inl (cJ, 4, .inr (.inl lw))), (h0, .inr (2, [.ref aw, .ref ax, .ref ay, .int (nI 12)])), (aw, .inl (cJ, 16, .inr (.inl (pw g_64 12)))), (ax, .inl (cI, 64, .inl ((hbk (pw g_64 12) sc (va_cpy kS st 0 0 8) (pdl 12 / 8)).1))), (ay, .inl (cI, 8, .inl ((hbk (pw g_64 12) sc (va_cpy kS st 0 0 8) (pdl 12 / 8)).2)))]) [0, 1, 2, 3, 4, 5, 6, 7, 8] rfl
                                      have hD := hD.sub (ws' := [(bd0, .inr (3, [.ref h0, .ref ro, .ref lo, .int (nI n)])), (ro, .inl (cR, 154, .inr (.inr (.inr (.inr rr))))), (lo, .inl (cR, 154, .inr (.inr (.inr (.inr lr))))), (rk, .inl (cJ, 8, .inr (.inl rw))), (lp, .inl (cJ, 4, .inr (.inl lw))), (h0, .inr (2, [.ref aw, .ref ax, .ref ay, .int (nI 12)])), (aw, .inl (cJ, 16, .inr (.inl (pw g_64 12)))), (ax, .inl (cI, 64, .inl ((hbk (pw g_64 12) sc (va_cpy kS st 0 0 8) (pdl 12 / 8)).1))), (ay, .inl (cI, 8, .inl ((hbk (pw g_64 12) sc (va_cpy kS st 0 0 8) (pdl 12 / 8)).2)))]) [0, 1, 2, 3, 4, 5, 6, 7, 8] (by decide) rfl
                                      generalize H1 = H at hP hS ⊢
                                      obtain ⟨g_69, eg_69⟩ : ∃ f : Nat → Int32, f = (hbk (pw g_64 12) sc (va_cpy kS st 0 0 8) (pdl 12 / 8)).1 := ⟨_, rfl⟩
                                      rw [← eg_69] at hP hD
                                      obtain ⟨g_70, eg_70⟩ : ∃ f : Nat → Int32, f = (hbk (pw g_64 12) sc (va_cpy kS st 0 0 8) (pdl 12 / 8)).2 := ⟨_, rfl⟩
                                      rw [← eg_70] at hP hD
                                      obtain ⟨g_71, eg_71⟩ : ∃ f : Nat → Int64, f = pw g_64 12 := ⟨_, rfl⟩
                                      rw [← eg_71] at hP hD
                                      have hn_72 := hN_of hm_65 (by decide) eg_70
                                      exact W.vret hx hb hr (fun t ht9 hW => ⟨⟨(g_71, g_69, g_70, 12), rfl, (dg_of hm_65 (by decide) eg_70), by rw [ht9]; exact hP, va_K.moved hW.alike hK, hD⟩, hS.F ht9⟩) hS.2.2 d_Bd_hashEntry_90
                                    · -- not taken
                                      exact absurd c_67 (by decide)
                  · -- not taken
                    exact absurd c_26 (by decide)
                · -- not taken
                  exact absurd c_21 (nI_ne0 hk0 (by omega))
            · -- not taken
              exact absurd c_15 (nI_ne0 hk0 (by omega))
        · -- not taken
          exact absurd c_9 (nI_ne0 hk0 (by omega))
    · -- not taken
      exact absurd c_3 (nI_ne0 hk0 (by omega))
