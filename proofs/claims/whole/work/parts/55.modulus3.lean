abbrev b_Mo_size : ByteArray := prog_6_method_2_code
abbrev y_Mo_size : MethodName := ⟨"BallotBoard$Modulus", "size", "()J"⟩
abbrev w_Mo_size : List Cond := .code y_Mo_size b_Mo_size 1 (some .long) :: gw
theorem d_Mo_size_0 : decode b_Mo_size 0 = .ok (.aload_n 0, 1) := by decide +kernel
theorem d_Mo_size_1 : decode b_Mo_size 1 = .ok (.getfield 9, 3) := by decide +kernel
theorem d_Mo_size_4 : decode b_Mo_size 4 = .ok (.lreturn, 1) := by decide +kernel
set_option maxHeartbeats 4000000 in
set_option maxRecDepth 100000 in
theorem c_Mo_size (l : Launch) (H0 : Heap) (dC : Nat → ClassId) (dI : Nat → Nat → Nat) (h0 : Nat) (N f k : Nat)  (hP : va_P (dC, dI) classes [(h0, .inr (0, md_fs N f k))] H0) (hok : md_ok N f k)  : Met l y_Mo_size w_Mo_size ({ frames := 0, cells := 0, slots := 0, locals := 0 }) (va_Pc [.ref h0] (fun U => U.heap = H0 ∧ va_K (dC, dI) classes [] U)) (va_Ql (fun (r : Int64) (_ : Unit) => r = lN N) (fun _ t => t.heap = H0) (fun _ => False)) 0 0 (fun _ => False) := by
  refine Met.ofW (cc := b_Mo_size) (maxL := 1) (ret := (some .long)) (by decide) rfl ?_
  intro p e s m args below meth c s₁ Bd hml hv
  obtain ⟨rfl, hH, hK⟩ := hv
  subst hH
  have hx := Bd.exec
  have hb := Bd.bytes
  have hr := Bd.returns
  have hts := atoms_spec (ws := w_Mo_size) Bd.pre
  have hown : s.vm.findClass "BallotBoard$Modulus" = some m.cls := findClass_of_methodNamed Bd.named
  have hlocks := Bd.notSynchronized
  have hS : va_S (fun _ => False) s.heap s.heap [] := va_S.rf
  have hl := lv_entry ([.ref h0]) (n := 1) (Nat.le_of_ble_eq_true rfl)
  rw [lg_entry_eq]
  generalize (lg_sl ([.ref h0]) ++ List.replicate (1 - (lg_sl ([.ref h0])).length) Slot.unset).toArray = ls at hl ⊢
  have hl : lv_has ls 1 [(0, .ref h0)] := hl
  have hK0 : va_K (dC, dI) classes [] s := hK
  obtain ⟨ho, h3, h61, hf31, hfN, hk61, hNk⟩ := id hok
  refine lv_aload_n hx hb d_Mo_size_0 rfl (lv_at hl 0 rfl) ?_
  refine va_get (D := (dC, dI)) (ci := 0) (v := .long (lN N)) (C := "BallotBoard$Modulus") (T := F_Mo) (N := 7) hx hb hts (fun w9 h9 => List.mem_cons_of_mem _ (i_Mo w9 h9)) hown hK hP 0 rfl rfl 0 (by decide) (hts _ (List.mem_cons_of_mem _ gk_207)) (fun _ h9 => h9) rfl d_Mo_size_1 ?_
  exact W.lret (v := (lN N)) hx hb hr (fun t ht hW => ⟨⟨_, (), rfl, rfl, ht⟩, hS.F ht⟩) hS.2.2 d_Mo_size_4
abbrev b_Mo_plus : ByteArray := prog_6_method_3_code
abbrev y_Mo_plus : MethodName := ⟨"BallotBoard$Modulus", "plus", "(JJ)J"⟩
abbrev w_Mo_plus : List Cond := .code y_Mo_plus b_Mo_plus 7 (some .long) :: gw
theorem d_Mo_plus_0 : decode b_Mo_plus 0 = .ok (.lload_n 1, 1) := by decide +kernel
theorem d_Mo_plus_1 : decode b_Mo_plus 1 = .ok (.lload_n 3, 1) := by decide +kernel
theorem d_Mo_plus_2 : decode b_Mo_plus 2 = .ok (.ladd, 1) := by decide +kernel
theorem d_Mo_plus_3 : decode b_Mo_plus 3 = .ok (.lstore 5, 2) := by decide +kernel
theorem d_Mo_plus_5 : decode b_Mo_plus 5 = .ok (.lload 5, 2) := by decide +kernel
theorem d_Mo_plus_7 : decode b_Mo_plus 7 = .ok (.aload_n 0, 1) := by decide +kernel
theorem d_Mo_plus_8 : decode b_Mo_plus 8 = .ok (.getfield 9, 3) := by decide +kernel
theorem d_Mo_plus_11 : decode b_Mo_plus 11 = .ok (.lcmp, 1) := by decide +kernel
theorem d_Mo_plus_12 : decode b_Mo_plus 12 = .ok (.ifCond .lt 13, 3) := by decide +kernel
theorem d_Mo_plus_15 : decode b_Mo_plus 15 = .ok (.lload 5, 2) := by decide +kernel
theorem d_Mo_plus_17 : decode b_Mo_plus 17 = .ok (.aload_n 0, 1) := by decide +kernel
theorem d_Mo_plus_18 : decode b_Mo_plus 18 = .ok (.getfield 9, 3) := by decide +kernel
theorem d_Mo_plus_21 : decode b_Mo_plus 21 = .ok (.lsub, 1) := by decide +kernel
theorem d_Mo_plus_22 : decode b_Mo_plus 22 = .ok (.goto 5, 3) := by decide +kernel
theorem d_Mo_plus_25 : decode b_Mo_plus 25 = .ok (.lload 5, 2) := by decide +kernel
theorem d_Mo_plus_27 : decode b_Mo_plus 27 = .ok (.lreturn, 1) := by decide +kernel
set_option maxHeartbeats 4000000 in
set_option maxRecDepth 100000 in
theorem c_Mo_plus (l : Launch) (H0 : Heap) (dC : Nat → ClassId) (dI : Nat → Nat → Nat) (h0 : Nat) (N f k : Nat) (A B : Nat) (hP : va_P (dC, dI) classes [(h0, .inr (0, md_fs N f k))] H0) (hok : md_ok N f k) (hA : A < N) (hB : B < N) : Met l y_Mo_plus w_Mo_plus ({ frames := 0, cells := 0, slots := 0, locals := 0 }) (va_Pc [.ref h0, .long (lN A), .long (lN B)] (fun U => U.heap = H0 ∧ va_K (dC, dI) classes [] U)) (va_Ql (fun (r : Int64) (_ : Unit) => r = lN ((A + B) % N)) (fun _ t => t.heap = H0) (fun _ => False)) 0 0 (fun _ => False) := by
  refine Met.ofW (cc := b_Mo_plus) (maxL := 7) (ret := (some .long)) (by decide) rfl ?_
  intro p e s m args below meth c s₁ Bd hml hv
  obtain ⟨rfl, hH, hK⟩ := hv
  subst hH
  have hx := Bd.exec
  have hb := Bd.bytes
  have hr := Bd.returns
  have hts := atoms_spec (ws := w_Mo_plus) Bd.pre
  have hown : s.vm.findClass "BallotBoard$Modulus" = some m.cls := findClass_of_methodNamed Bd.named
  have hlocks := Bd.notSynchronized
  have hS : va_S (fun _ => False) s.heap s.heap [] := va_S.rf
  have hl := lv_entry ([.ref h0, .long (lN A), .long (lN B)]) (n := 7) (Nat.le_of_ble_eq_true rfl)
  rw [lg_entry_eq]
  generalize (lg_sl ([.ref h0, .long (lN A), .long (lN B)]) ++ List.replicate (7 - (lg_sl ([.ref h0, .long (lN A), .long (lN B)])).length) Slot.unset).toArray = ls at hl ⊢
  have hl : lv_has ls 7 [(0, .ref h0), (1, .long (lN A)), (3, .long (lN B))] := hl
  have hK0 : va_K (dC, dI) classes [] s := hK
  obtain ⟨ho, h3, h61, hf31, hfN, hk61, hNk⟩ := id hok
  refine lv_lload_n hx hb d_Mo_plus_0 rfl (lv_at hl 1 rfl) ?_
  refine lv_lload_n hx hb d_Mo_plus_1 rfl (lv_at hl 2 rfl) ?_
  refine lv_ladd hx hb d_Mo_plus_2 ?_
  rw [show ((lN A) + (lN B) : Int64) = (lN (A + B)) from lN_add _ _]
  refine lv_lstore (lv' := [(5, .long (lN (A + B))), (0, .ref h0), (1, .long (lN A)), (3, .long (lN B))]) hx hb d_Mo_plus_3 hl (by decide) rfl (fun ls hl => ?_)
  refine lv_lload hx hb d_Mo_plus_5 (lv_at hl 0 rfl) ?_
  refine lv_aload_n hx hb d_Mo_plus_7 rfl (lv_at hl 1 rfl) ?_
  refine va_get (D := (dC, dI)) (ci := 0) (v := .long (lN N)) (C := "BallotBoard$Modulus") (T := F_Mo) (N := 7) hx hb hts (fun w9 h9 => List.mem_cons_of_mem _ (i_Mo w9 h9)) hown hK hP 0 rfl rfl 0 (by decide) (hts _ (List.mem_cons_of_mem _ gk_207)) (fun _ h9 => h9) rfl d_Mo_plus_8 ?_
  refine W.lcmp hx hb d_Mo_plus_11 ?_
  refine lv_if_lt (tgt := 25) hx hb d_Mo_plus_12 (by decide) (fun c_1 => ?_) (fun c_1 => ?_)
  · -- taken
    have hlt : A + B < N := (ln_cmp_lt (by omega) (by omega)).mp c_1
    refine lv_lload hx hb d_Mo_plus_25 (lv_at hl 0 rfl) ?_
    exact W.lret (v := (lN (A + B))) hx hb hr (fun t ht hW => ⟨⟨_, (), rfl, (by rw [Nat.mod_eq_of_lt hlt]), ht⟩, hS.F ht⟩) hS.2.2 d_Mo_plus_27
  · -- not taken
    have hge : N ≤ A + B := Nat.le_of_not_lt (fun h => c_1 ((ln_cmp_lt (by omega) (by omega)).mpr h))
    refine lv_lload hx hb d_Mo_plus_15 (lv_at hl 0 rfl) ?_
    refine lv_aload_n hx hb d_Mo_plus_17 rfl (lv_at hl 1 rfl) ?_
    refine va_get (D := (dC, dI)) (ci := 0) (v := .long (lN N)) (C := "BallotBoard$Modulus") (T := F_Mo) (N := 7) hx hb hts (fun w9 h9 => List.mem_cons_of_mem _ (i_Mo w9 h9)) hown hK hP 0 rfl rfl 0 (by decide) (hts _ (List.mem_cons_of_mem _ gk_207)) (fun _ h9 => h9) rfl d_Mo_plus_18 ?_
    refine lv_lsub hx hb d_Mo_plus_21 ?_
    rw [show ((lN (A + B)) - (lN N) : Int64) = (lN (A + B - N)) from lN_sub hge]
    refine lv_goto (tgt := 27) hx hb d_Mo_plus_22 (by decide) ?_
    exact W.lret (v := (lN (A + B - N))) hx hb hr (fun t ht hW => ⟨⟨_, (), rfl, (by rw [Nat.mod_eq_sub_mod hge, Nat.mod_eq_of_lt (by omega)]), ht⟩, hS.F ht⟩) hS.2.2 d_Mo_plus_27
abbrev b_Mo_minus : ByteArray := prog_6_method_4_code
abbrev y_Mo_minus : MethodName := ⟨"BallotBoard$Modulus", "minus", "(JJ)J"⟩
abbrev w_Mo_minus : List Cond := .code y_Mo_minus b_Mo_minus 5 (some .long) :: gw
theorem d_Mo_minus_0 : decode b_Mo_minus 0 = .ok (.lload_n 1, 1) := by decide +kernel
theorem d_Mo_minus_1 : decode b_Mo_minus 1 = .ok (.lload_n 3, 1) := by decide +kernel
theorem d_Mo_minus_2 : decode b_Mo_minus 2 = .ok (.lcmp, 1) := by decide +kernel
theorem d_Mo_minus_3 : decode b_Mo_minus 3 = .ok (.ifCond .lt 9, 3) := by decide +kernel
theorem d_Mo_minus_6 : decode b_Mo_minus 6 = .ok (.lload_n 1, 1) := by decide +kernel
theorem d_Mo_minus_7 : decode b_Mo_minus 7 = .ok (.lload_n 3, 1) := by decide +kernel
theorem d_Mo_minus_8 : decode b_Mo_minus 8 = .ok (.lsub, 1) := by decide +kernel
theorem d_Mo_minus_9 : decode b_Mo_minus 9 = .ok (.goto 11, 3) := by decide +kernel
theorem d_Mo_minus_12 : decode b_Mo_minus 12 = .ok (.lload_n 1, 1) := by decide +kernel
theorem d_Mo_minus_13 : decode b_Mo_minus 13 = .ok (.lload_n 3, 1) := by decide +kernel
theorem d_Mo_minus_14 : decode b_Mo_minus 14 = .ok (.lsub, 1) := by decide +kernel
theorem d_Mo_minus_15 : decode b_Mo_minus 15 = .ok (.aload_n 0, 1) := by decide +kernel
theorem d_Mo_minus_16 : decode b_Mo_minus 16 = .ok (.getfield 9, 3) := by decide +kernel
theorem d_Mo_minus_19 : decode b_Mo_minus 19 = .ok (.ladd, 1) := by decide +kernel
theorem d_Mo_minus_20 : decode b_Mo_minus 20 = .ok (.lreturn, 1) := by decide +kernel
set_option maxHeartbeats 4000000 in
set_option maxRecDepth 100000 in
theorem c_Mo_minus (l : Launch) (H0 : Heap) (dC : Nat → ClassId) (dI : Nat → Nat → Nat) (h0 : Nat) (N f k : Nat) (A B : Nat) (hP : va_P (dC, dI) classes [(h0, .inr (0, md_fs N f k))] H0) (hok : md_ok N f k) (hA : A < N) (hB : B < N) : Met l y_Mo_minus w_Mo_minus ({ frames := 0, cells := 0, slots := 0, locals := 0 }) (va_Pc [.ref h0, .long (lN A), .long (lN B)] (fun U => U.heap = H0 ∧ va_K (dC, dI) classes [] U)) (va_Ql (fun (r : Int64) (_ : Unit) => r = lN ((A + (N - B)) % N)) (fun _ t => t.heap = H0) (fun _ => False)) 0 0 (fun _ => False) := by
  refine Met.ofW (cc := b_Mo_minus) (maxL := 5) (ret := (some .long)) (by decide) rfl ?_
  intro p e s m args below meth c s₁ Bd hml hv
  obtain ⟨rfl, hH, hK⟩ := hv
  subst hH
  have hx := Bd.exec
  have hb := Bd.bytes
  have hr := Bd.returns
  have hts := atoms_spec (ws := w_Mo_minus) Bd.pre
  have hown : s.vm.findClass "BallotBoard$Modulus" = some m.cls := findClass_of_methodNamed Bd.named
  have hlocks := Bd.notSynchronized
  have hS : va_S (fun _ => False) s.heap s.heap [] := va_S.rf
  have hl := lv_entry ([.ref h0, .long (lN A), .long (lN B)]) (n := 5) (Nat.le_of_ble_eq_true rfl)
  rw [lg_entry_eq]
  generalize (lg_sl ([.ref h0, .long (lN A), .long (lN B)]) ++ List.replicate (5 - (lg_sl ([.ref h0, .long (lN A), .long (lN B)])).length) Slot.unset).toArray = ls at hl ⊢
  have hl : lv_has ls 5 [(0, .ref h0), (1, .long (lN A)), (3, .long (lN B))] := hl
  have hK0 : va_K (dC, dI) classes [] s := hK
  obtain ⟨ho, h3, h61, hf31, hfN, hk61, hNk⟩ := id hok
  refine lv_lload_n hx hb d_Mo_minus_0 rfl (lv_at hl 1 rfl) ?_
  refine lv_lload_n hx hb d_Mo_minus_1 rfl (lv_at hl 2 rfl) ?_
  refine W.lcmp hx hb d_Mo_minus_2 ?_
  refine lv_if_lt (tgt := 12) hx hb d_Mo_minus_3 (by decide) (fun c_1 => ?_) (fun c_1 => ?_)
  · -- taken
    have hlt : A < B := (ln_cmp_lt (by omega) (by omega)).mp c_1
    refine lv_lload_n hx hb d_Mo_minus_12 rfl (lv_at hl 1 rfl) ?_
    refine lv_lload_n hx hb d_Mo_minus_13 rfl (lv_at hl 2 rfl) ?_
    refine lv_lsub hx hb d_Mo_minus_14 ?_
    refine lv_aload_n hx hb d_Mo_minus_15 rfl (lv_at hl 0 rfl) ?_
    refine va_get (D := (dC, dI)) (ci := 0) (v := .long (lN N)) (C := "BallotBoard$Modulus") (T := F_Mo) (N := 7) hx hb hts (fun w9 h9 => List.mem_cons_of_mem _ (i_Mo w9 h9)) hown hK hP 0 rfl rfl 0 (by decide) (hts _ (List.mem_cons_of_mem _ gk_207)) (fun _ h9 => h9) rfl d_Mo_minus_16 ?_
    refine lv_ladd hx hb d_Mo_minus_19 ?_
    rw [show (lN A - lN B + lN N : Int64) = lN (A + (N - B)) from l_back (by omega)]
    exact W.lret (v := (lN (A + (N - B)))) hx hb hr (fun t ht hW => ⟨⟨_, (), rfl, (by rw [Nat.mod_eq_of_lt (by omega)]), ht⟩, hS.F ht⟩) hS.2.2 d_Mo_minus_20
  · -- not taken
    have hge : B ≤ A := Nat.le_of_not_lt (fun h => c_1 ((ln_cmp_lt (by omega) (by omega)).mpr h))
    refine lv_lload_n hx hb d_Mo_minus_6 rfl (lv_at hl 1 rfl) ?_
    refine lv_lload_n hx hb d_Mo_minus_7 rfl (lv_at hl 2 rfl) ?_
    refine lv_lsub hx hb d_Mo_minus_8 ?_
    rw [show ((lN A) - (lN B) : Int64) = (lN (A - B)) from lN_sub hge]
    refine lv_goto (tgt := 20) hx hb d_Mo_minus_9 (by decide) ?_
    
    exact W.lret (v := (lN (A - B))) hx hb hr (fun t ht hW => ⟨⟨_, (), rfl, (by rw [show A + (N - B) = N + (A - B) by omega, Nat.add_mod_left, Nat.mod_eq_of_lt (by omega)]), ht⟩, hS.F ht⟩) hS.2.2 d_Mo_minus_20
abbrev b_Mo_times : ByteArray := prog_6_method_5_code
abbrev y_Mo_times : MethodName := ⟨"BallotBoard$Modulus", "times", "(JJ)J"⟩
abbrev w_Mo_times : List Cond := .code y_Mo_times b_Mo_times 5 (some .long) :: gw
theorem d_Mo_times_0 : decode b_Mo_times 0 = .ok (.aload_n 0, 1) := by decide +kernel
theorem d_Mo_times_1 : decode b_Mo_times 1 = .ok (.aload_n 0, 1) := by decide +kernel
theorem d_Mo_times_2 : decode b_Mo_times 2 = .ok (.lload_n 1, 1) := by decide +kernel
theorem d_Mo_times_3 : decode b_Mo_times 3 = .ok (.lload_n 3, 1) := by decide +kernel
theorem d_Mo_times_4 : decode b_Mo_times 4 = .ok (.invokevirtual 46, 3) := by decide +kernel
theorem d_Mo_times_7 : decode b_Mo_times 7 = .ok (.aload_n 0, 1) := by decide +kernel
theorem d_Mo_times_8 : decode b_Mo_times 8 = .ok (.getfield 35, 3) := by decide +kernel
theorem d_Mo_times_11 : decode b_Mo_times 11 = .ok (.invokevirtual 46, 3) := by decide +kernel
theorem d_Mo_times_14 : decode b_Mo_times 14 = .ok (.lreturn, 1) := by decide +kernel
set_option maxHeartbeats 4000000 in
set_option maxRecDepth 100000 in
theorem c_Mo_times (l : Launch) (H0 : Heap) (dC : Nat → ClassId) (dI : Nat → Nat → Nat) (h0 : Nat) (N f k : Nat) (A B : Nat) (hP : va_P (dC, dI) classes [(h0, .inr (0, md_fs N f k))] H0) (hok : md_ok N f k) (hA : A < N) (hB : B < N) : Met l y_Mo_times w_Mo_times ({ frames := 1, cells := 0, slots := 0, locals := 36 }) (va_Pc [.ref h0, .long (lN A), .long (lN B)] (fun U => U.heap = H0 ∧ va_K (dC, dI) classes [] U)) (va_Ql (fun (r : Int64) (_ : Unit) => r = lN (A * B % N)) (fun _ t => t.heap = H0) (fun _ => False)) 0 0 (fun _ => False) := by
  refine Met.ofW (cc := b_Mo_times) (maxL := 5) (ret := (some .long)) (by decide) rfl ?_
  intro p e s m args below meth c s₁ Bd hml hv
  obtain ⟨rfl, hH, hK⟩ := hv
  subst hH
  have hx := Bd.exec
  have hb := Bd.bytes
  have hr := Bd.returns
  have hts := atoms_spec (ws := w_Mo_times) Bd.pre
  have hown : s.vm.findClass "BallotBoard$Modulus" = some m.cls := findClass_of_methodNamed Bd.named
  have hlocks := Bd.notSynchronized
  have hS : va_S (fun _ => False) s.heap s.heap [] := va_S.rf
  have hl := lv_entry ([.ref h0, .long (lN A), .long (lN B)]) (n := 5) (Nat.le_of_ble_eq_true rfl)
  rw [lg_entry_eq]
  generalize (lg_sl ([.ref h0, .long (lN A), .long (lN B)]) ++ List.replicate (5 - (lg_sl ([.ref h0, .long (lN A), .long (lN B)])).length) Slot.unset).toArray = ls at hl ⊢
  have hl : lv_has ls 5 [(0, .ref h0), (1, .long (lN A)), (3, .long (lN B))] := hl
  have hK0 : va_K (dC, dI) classes [] s := hK
  obtain ⟨ho, h3, h61, hf31, hfN, hk61, hNk⟩ := id hok
  refine lv_aload_n hx hb d_Mo_times_0 rfl (lv_at hl 0 rfl) ?_
  refine lv_aload_n hx hb d_Mo_times_1 rfl (lv_at hl 0 rfl) ?_
  refine lv_lload_n hx hb d_Mo_times_2 rfl (lv_at hl 1 rfl) ?_
  refine lv_lload_n hx hb d_Mo_times_3 rfl (lv_at hl 2 rfl) ?_
  refine va_calll (va_runV (As := [.long (lN A), .long (lN B)]) (rest := [.ref h0]) ⟨hx, hb, hml, hown, hts⟩ (c_Mo_reduced l s.heap dC dI h0 N f k A B hP hok hA hB) (cwV 2 hts (gw_V gk_239 gk_241 gp_0 gk_9 gk_242) rfl rfl rfl (by decide +kernel) ⟨Nat.le_of_ble_eq_true rfl, Nat.le_of_ble_eq_true rfl⟩) ⟨fun a U g mk q => ⟨q.1, q.2.1, va_K.moved (u := U) (U := U.calling g mk a) (Vm.Alike.refl U.vm) q.2.2⟩, va_recv hK hP (ci := 0) (q0 := 0) rfl rfl, fun U hU hW => ⟨rfl, hU, va_K.moved hW.alike hK0⟩⟩ rfl rfl hl.1 rfl (lv_room (Nat.le_of_ble_eq_true rfl)) d_Mo_times_4 ⟨Nat.zero_le _, Nat.zero_le _⟩) hS (fun q _ h => h.elim) (fun q h => h.elim) (fun r_1 u9 t9 H1 locs ht hvm hw hB hz1 hk1 hS => ?_)
  obtain rfl : s.heap = H1 := hB.symm.trans ht
  obtain ⟨R1, hR1, hRN1, hRm1⟩ := hw
  subst hR1
  refine lv_aload_n hx hb d_Mo_times_7 rfl (lv_at hl 0 rfl) ?_
  refine va_get (D := (dC, dI)) (ci := 0) (v := .long (lN (2 ^ 124 % N))) (C := "BallotBoard$Modulus") (T := F_Mo) (N := 7) hx hb hts (fun w9 h9 => List.mem_cons_of_mem _ (i_Mo w9 h9)) hown hK hP 0 rfl rfl 5 (by decide) (hts _ (List.mem_cons_of_mem _ gk_212)) (fun _ h9 => h9) rfl d_Mo_times_8 ?_
  refine va_calll (va_runV (As := [.long (lN R1), .long (lN (2 ^ 124 % N))]) (rest := []) ⟨hx, hb, hml, hown, hts⟩ (c_Mo_reduced l s.heap dC dI h0 N f k R1 (2 ^ 124 % N) hP hok (by assumption) (Nat.mod_lt _ (by omega))) (cwV 2 hts (gw_V gk_239 gk_241 gp_0 gk_9 gk_242) rfl rfl rfl (by decide +kernel) ⟨Nat.le_of_ble_eq_true rfl, Nat.le_of_ble_eq_true rfl⟩) ⟨fun a U g mk q => ⟨q.1, q.2.1, va_K.moved (u := U) (U := U.calling g mk a) (Vm.Alike.refl U.vm) q.2.2⟩, va_recv hK hP (ci := 0) (q0 := 0) rfl rfl, fun U hU hW => ⟨rfl, hU, va_K.moved hW.alike hK0⟩⟩ rfl rfl hl.1 rfl (lv_room (Nat.le_of_ble_eq_true rfl)) d_Mo_times_11 ⟨Nat.zero_le _, Nat.zero_le _⟩) hS (fun q _ h => h.elim) (fun q h => h.elim) (fun r_2 u9 t9 H1 locs ht hvm hw hB hz1 hk1 hS => ?_)
  obtain rfl : s.heap = H1 := hB.symm.trans ht
  obtain ⟨R2, hR2, hRN2, hRm2⟩ := hw
  subst hR2
  obtain rfl : R2 = A * B % N := red_two ho hRN2 hRm1 hRm2
  exact W.lret (v := (lN (A * B % N))) hx hb hr (fun t ht hW => ⟨⟨_, (), rfl, rfl, ht⟩, hS.F ht⟩) hS.2.2 d_Mo_times_14
abbrev b_Mo_power : ByteArray := prog_6_method_6_code
abbrev y_Mo_power : MethodName := ⟨"BallotBoard$Modulus", "power", "(JJ)J"⟩
abbrev w_Mo_power : List Cond := .code y_Mo_power b_Mo_power 10 (some .long) :: gw
theorem d_Mo_power_0 : decode b_Mo_power 0 = .ok (.aload_n 0, 1) := by decide +kernel
theorem d_Mo_power_1 : decode b_Mo_power 1 = .ok (.lload_n 1, 1) := by decide +kernel
theorem d_Mo_power_2 : decode b_Mo_power 2 = .ok (.aload_n 0, 1) := by decide +kernel
theorem d_Mo_power_3 : decode b_Mo_power 3 = .ok (.getfield 35, 3) := by decide +kernel
theorem d_Mo_power_6 : decode b_Mo_power 6 = .ok (.invokevirtual 46, 3) := by decide +kernel
theorem d_Mo_power_9 : decode b_Mo_power 9 = .ok (.lstore 5, 2) := by decide +kernel
theorem d_Mo_power_11 : decode b_Mo_power 11 = .ok (.aload_n 0, 1) := by decide +kernel
theorem d_Mo_power_12 : decode b_Mo_power 12 = .ok (.getfield 32, 3) := by decide +kernel
theorem d_Mo_power_15 : decode b_Mo_power 15 = .ok (.lstore 7, 2) := by decide +kernel
theorem d_Mo_power_17 : decode b_Mo_power 17 = .ok (.aload_n 0, 1) := by decide +kernel
theorem d_Mo_power_18 : decode b_Mo_power 18 = .ok (.getfield 42, 3) := by decide +kernel
theorem d_Mo_power_21 : decode b_Mo_power 21 = .ok (.iconst 1, 1) := by decide +kernel
theorem d_Mo_power_22 : decode b_Mo_power 22 = .ok (.isub, 1) := by decide +kernel
theorem d_Mo_power_23 : decode b_Mo_power 23 = .ok (.istore 9, 2) := by decide +kernel
theorem d_Mo_power_25 : decode b_Mo_power 25 = .ok (.iload 9, 2) := by decide +kernel
theorem d_Mo_power_27 : decode b_Mo_power 27 = .ok (.ifCond .lt 40, 3) := by decide +kernel
theorem d_Mo_power_30 : decode b_Mo_power 30 = .ok (.aload_n 0, 1) := by decide +kernel
theorem d_Mo_power_31 : decode b_Mo_power 31 = .ok (.lload 7, 2) := by decide +kernel
theorem d_Mo_power_33 : decode b_Mo_power 33 = .ok (.lload 7, 2) := by decide +kernel
theorem d_Mo_power_35 : decode b_Mo_power 35 = .ok (.invokevirtual 46, 3) := by decide +kernel
theorem d_Mo_power_38 : decode b_Mo_power 38 = .ok (.lstore 7, 2) := by decide +kernel
theorem d_Mo_power_40 : decode b_Mo_power 40 = .ok (.lload_n 3, 1) := by decide +kernel
theorem d_Mo_power_41 : decode b_Mo_power 41 = .ok (.iload 9, 2) := by decide +kernel
theorem d_Mo_power_43 : decode b_Mo_power 43 = .ok (.lushr, 1) := by decide +kernel
theorem d_Mo_power_44 : decode b_Mo_power 44 = .ok (.lconst 1, 1) := by decide +kernel
theorem d_Mo_power_45 : decode b_Mo_power 45 = .ok (.land, 1) := by decide +kernel
theorem d_Mo_power_46 : decode b_Mo_power 46 = .ok (.lconst 1, 1) := by decide +kernel
theorem d_Mo_power_47 : decode b_Mo_power 47 = .ok (.lcmp, 1) := by decide +kernel
theorem d_Mo_power_48 : decode b_Mo_power 48 = .ok (.ifCond .ne 13, 3) := by decide +kernel
theorem d_Mo_power_51 : decode b_Mo_power 51 = .ok (.aload_n 0, 1) := by decide +kernel
theorem d_Mo_power_52 : decode b_Mo_power 52 = .ok (.lload 7, 2) := by decide +kernel
theorem d_Mo_power_54 : decode b_Mo_power 54 = .ok (.lload 5, 2) := by decide +kernel
theorem d_Mo_power_56 : decode b_Mo_power 56 = .ok (.invokevirtual 46, 3) := by decide +kernel
theorem d_Mo_power_59 : decode b_Mo_power 59 = .ok (.lstore 7, 2) := by decide +kernel
theorem d_Mo_power_61 : decode b_Mo_power 61 = .ok (.iinc 9 (-1), 3) := by decide +kernel
theorem d_Mo_power_64 : decode b_Mo_power 64 = .ok (.goto (-39), 3) := by decide +kernel
theorem d_Mo_power_67 : decode b_Mo_power 67 = .ok (.aload_n 0, 1) := by decide +kernel
theorem d_Mo_power_68 : decode b_Mo_power 68 = .ok (.lload 7, 2) := by decide +kernel
theorem d_Mo_power_70 : decode b_Mo_power 70 = .ok (.lconst 1, 1) := by decide +kernel
theorem d_Mo_power_71 : decode b_Mo_power 71 = .ok (.invokevirtual 46, 3) := by decide +kernel
theorem d_Mo_power_74 : decode b_Mo_power 74 = .ok (.lreturn, 1) := by decide +kernel
set_option maxHeartbeats 4000000 in
set_option maxRecDepth 100000 in
theorem c_Mo_power (l : Launch) (H0 : Heap) (dC : Nat → ClassId) (dI : Nat → Nat → Nat) (h0 : Nat) (N f k : Nat) (X E : Nat) (hP : va_P (dC, dI) classes [(h0, .inr (0, md_fs N f k))] H0) (hok : md_ok N f k) (hX : X < N) (hE : E < 2 ^ k) : Met l y_Mo_power w_Mo_power ({ frames := 1, cells := 0, slots := 0, locals := 36 }) (va_Pc [.ref h0, .long (lN X), .long (lN E)] (fun U => U.heap = H0 ∧ va_K (dC, dI) classes [] U)) (va_Ql (fun (r : Int64) (_ : Unit) => r = lN (X ^ E % N)) (fun _ t => t.heap = H0) (fun _ => False)) 0 0 (fun _ => False) := by
  refine Met.ofW (cc := b_Mo_power) (maxL := 10) (ret := (some .long)) (by decide) rfl ?_
  intro p e s m args below meth c s₁ Bd hml hv
  obtain ⟨rfl, hH, hK⟩ := hv
  subst hH
  have hx := Bd.exec
  have hb := Bd.bytes
  have hr := Bd.returns
  have hts := atoms_spec (ws := w_Mo_power) Bd.pre
  have hown : s.vm.findClass "BallotBoard$Modulus" = some m.cls := findClass_of_methodNamed Bd.named
  have hlocks := Bd.notSynchronized
  have hS : va_S (fun _ => False) s.heap s.heap [] := va_S.rf
  have hl := lv_entry ([.ref h0, .long (lN X), .long (lN E)]) (n := 10) (Nat.le_of_ble_eq_true rfl)
  rw [lg_entry_eq]
  generalize (lg_sl ([.ref h0, .long (lN X), .long (lN E)]) ++ List.replicate (10 - (lg_sl ([.ref h0, .long (lN X), .long (lN E)])).length) Slot.unset).toArray = ls at hl ⊢
  have hl : lv_has ls 10 [(0, .ref h0), (1, .long (lN X)), (3, .long (lN E))] := hl
  have hK0 : va_K (dC, dI) classes [] s := hK
  obtain ⟨ho, h3, h61, hf31, hfN, hk61, hNk⟩ := id hok
  have hE64 : E < 2 ^ 64 := Nat.lt_of_lt_of_le hE (Nat.pow_le_pow_right (by omega) (by omega))
  have loop : ∀ (j : Nat), j ≤ k → ∀ (locs : List Loc), va_S (fun _ => False) s.heap s.heap locs → ∀ (ls : Array Slot), lv_has ls 10 [(0, .ref h0), (1, .long (lN X)), (3, .long (lN E)), (5, .long (lN (X * 2 ^ 62 % N))), (7, .long (lN (X ^ (E / 2 ^ j) * 2 ^ 62 % N))), (9, .int (nI j - 1))] → W p l e ({ frames := 1, cells := 0, slots := 0, locals := 36 } : Room) s m ([.ref h0, .long (lN X), .long (lN E)] : List Value).toArray below meth c s.heap locs 0 0 (MQ below (va_Ql (fun (r : Int64) (_ : Unit) => r = lN (X ^ E % N)) (fun _ t => t.heap = s.heap) (fun _ => False)) ([.ref h0, .long (lN X), .long (lN E)] : List Value).toArray s 0 0 (fun _ => False)) (F0 m 25 ls []) := by
    intro j
    induction j with
    | zero =>
      intro hjk locs hS ls hl
      refine lv_iload hx hb d_Mo_power_25 (lv_at hl 5 rfl) ?_
      refine lv_if_lt (tgt := 67) hx hb d_Mo_power_27 (by decide) (fun c_1 => ?_) (fun c_1 => ?_)
      · -- taken
        refine lv_aload_n hx hb d_Mo_power_67 rfl (lv_at hl 0 rfl) ?_
        refine lv_lload hx hb d_Mo_power_68 (lv_at hl 4 rfl) ?_
        refine lv_lconst (v := 1) hx hb d_Mo_power_70 (by decide) ?_
        refine va_calll (va_runV (As := [.long (lN (X ^ (E / 2 ^ 0) * 2 ^ 62 % N)), .long 1]) (rest := []) ⟨hx, hb, hml, hown, hts⟩ (c_Mo_reduced l s.heap dC dI h0 N f k (X ^ (E / 2 ^ 0) * 2 ^ 62 % N) 1 hP hok (Nat.mod_lt _ (by omega)) (by omega)) (cwV 2 hts (gw_V gk_239 gk_241 gp_0 gk_9 gk_242) rfl rfl rfl (by decide +kernel) ⟨Nat.le_of_ble_eq_true rfl, Nat.le_of_ble_eq_true rfl⟩) ⟨fun a U g mk q => ⟨q.1, q.2.1, va_K.moved (u := U) (U := U.calling g mk a) (Vm.Alike.refl U.vm) q.2.2⟩, va_recv hK hP (ci := 0) (q0 := 0) rfl rfl, fun U hU hW => ⟨rfl, hU, va_K.moved hW.alike hK0⟩⟩ rfl rfl hl.1 rfl (lv_room (Nat.le_of_ble_eq_true rfl)) d_Mo_power_71 ⟨Nat.zero_le _, Nat.zero_le _⟩) hS (fun q _ h => h.elim) (fun q h => h.elim) (fun r_2 u9 t9 H1 locs ht hvm hw hB hz1 hk1 hS => ?_)
        obtain rfl : s.heap = H1 := hB.symm.trans ht
        obtain ⟨R2, hR2, hRN2, hRm2⟩ := hw
        subst hR2
        obtain rfl : R2 = X ^ (E / 2 ^ 0) % N := red_one ho hRN2 hRm2
        exact W.lret (v := (lN (X ^ (E / 2 ^ 0) % N))) hx hb hr (fun t ht hW => ⟨⟨_, (), rfl, (by rw [Nat.pow_zero, Nat.div_one]), ht⟩, hS.F ht⟩) hS.2.2 d_Mo_power_74
      · -- not taken
        exact absurd ((nI_neg (by omega)).mpr rfl) c_1
    | succ j ih =>
      intro hjk locs hS ls hl
      refine lv_iload hx hb d_Mo_power_25 (lv_at hl 5 rfl) ?_
      refine lv_if_lt (tgt := 67) hx hb d_Mo_power_27 (by decide) (fun c_1 => ?_) (fun c_1 => ?_)
      · -- taken
        exact absurd ((nI_neg (by omega)).mp c_1) (by omega)
      · -- not taken
        refine lv_aload_n hx hb d_Mo_power_30 rfl (lv_at hl 0 rfl) ?_
        refine lv_lload hx hb d_Mo_power_31 (lv_at hl 4 rfl) ?_
        refine lv_lload hx hb d_Mo_power_33 (lv_at hl 4 rfl) ?_
        refine va_calll (va_runV (As := [.long (lN (X ^ (E / 2 ^ (j + 1)) * 2 ^ 62 % N)), .long (lN (X ^ (E / 2 ^ (j + 1)) * 2 ^ 62 % N))]) (rest := []) ⟨hx, hb, hml, hown, hts⟩ (c_Mo_reduced l s.heap dC dI h0 N f k (X ^ (E / 2 ^ (j + 1)) * 2 ^ 62 % N) (X ^ (E / 2 ^ (j + 1)) * 2 ^ 62 % N) hP hok (Nat.mod_lt _ (by omega)) (Nat.mod_lt _ (by omega))) (cwV 2 hts (gw_V gk_239 gk_241 gp_0 gk_9 gk_242) rfl rfl rfl (by decide +kernel) ⟨Nat.le_of_ble_eq_true rfl, Nat.le_of_ble_eq_true rfl⟩) ⟨fun a U g mk q => ⟨q.1, q.2.1, va_K.moved (u := U) (U := U.calling g mk a) (Vm.Alike.refl U.vm) q.2.2⟩, va_recv hK hP (ci := 0) (q0 := 0) rfl rfl, fun U hU hW => ⟨rfl, hU, va_K.moved hW.alike hK0⟩⟩ rfl rfl hl.1 rfl (lv_room (Nat.le_of_ble_eq_true rfl)) d_Mo_power_35 ⟨Nat.zero_le _, Nat.zero_le _⟩) hS (fun q _ h => h.elim) (fun q h => h.elim) (fun r_2 u9 t9 H1 locs ht hvm hw hB hz1 hk1 hS => ?_)
        obtain rfl : s.heap = H1 := hB.symm.trans ht
        obtain ⟨R2, hR2, hRN2, hRm2⟩ := hw
        subst hR2
        obtain rfl : R2 = (X ^ (E / 2 ^ (j + 1)) * X ^ (E / 2 ^ (j + 1))) * 2 ^ 62 % N := red_mul ho hRN2 hRm2
        refine lv_lstore (lv' := [(7, .long (lN ((X ^ (E / 2 ^ (j + 1)) * X ^ (E / 2 ^ (j + 1))) * 2 ^ 62 % N))), (0, .ref h0), (1, .long (lN X)), (3, .long (lN E)), (5, .long (lN (X * 2 ^ 62 % N))), (9, .int (nI (j + 1) - 1))]) hx hb d_Mo_power_38 hl (by decide) rfl (fun ls hl => ?_)
        refine lv_lload_n hx hb d_Mo_power_40 rfl (lv_at hl 3 rfl) ?_
        refine lv_iload hx hb d_Mo_power_41 (lv_at hl 5 rfl) ?_
        rw [show (nI (j + 1) - 1 : Int32) = nI j from nI_pred j]
        refine lv_lushr (v := ((lN E).toUInt64 >>> ((nI j : Int32).toInt64.toUInt64 &&& Int64.toUInt64 63)).toInt64) hx hb d_Mo_power_43 rfl ?_
        rw [show (((lN E).toUInt64 >>> ((nI j : Int32).toInt64.toUInt64 &&& Int64.toUInt64 63)).toInt64 : Int64) = (lN (E / 2 ^ j)) from shN hE64 (by omega)]
        refine lv_lconst (v := 1) hx hb d_Mo_power_44 (by decide) ?_
        refine lv_land hx hb d_Mo_power_45 ?_
        rw [show ((lN (E / 2 ^ j)) &&& 1 : Int64) = (lN (E / 2 ^ j % 2)) from wb_a1 (Nat.lt_of_le_of_lt (Nat.div_le_self _ _) hE64)]
        refine lv_lconst (v := 1) hx hb d_Mo_power_46 (by decide) ?_
        refine W.lcmp hx hb d_Mo_power_47 ?_
        refine lv_if_ne (tgt := 61) hx hb d_Mo_power_48 (by decide) (fun c_3 => ?_) (fun c_3 => ?_)
        · -- taken
          have hbit : E / 2 ^ j % 2 = 0 := by
            have : ¬ E / 2 ^ j % 2 = 1 := fun h => c_3 ((cmpe (by omega) 1 (by omega) rfl).mpr h)
            omega
          obtain ⟨i_4, ei_4⟩ : ∃ y : Int32, y = (nI (j + 1) - 1) + (-1) := ⟨_, rfl⟩
          refine lv_iinc (v := i_4) (lv' := [(9, .int i_4), (7, .long (lN ((X ^ (E / 2 ^ (j + 1)) * X ^ (E / 2 ^ (j + 1))) * 2 ^ 62 % N))), (0, .ref h0), (1, .long (lN X)), (3, .long (lN E)), (5, .long (lN (X * 2 ^ 62 % N)))]) hx hb d_Mo_power_61 hl (k := 5) rfl (by rw [ei_4]; rfl) (by decide) rfl (fun ls hl => ?_)
          obtain rfl : i_4 = nI j - 1 := by rw [ei_4]; exact by rw [nI_pred, i_add_neg]
          refine lv_goto (tgt := 25) hx hb d_Mo_power_64 (by decide) ?_
          have hb := bit_div E j
          rw [hbit] at hb
          have hp : X ^ (E / 2 ^ (j + 1)) * X ^ (E / 2 ^ (j + 1)) = X ^ (E / 2 ^ j) := by
            rw [pw_even]
            congr 1
            omega
          rw [hp] at hl
          exact ih (by omega) locs hS ls (lv_sub hl [2, 3, 4, 5, 1, 0] rfl)
        · -- not taken
          have hbit : E / 2 ^ j % 2 = 1 := (cmpe (by omega) 1 (by omega) rfl).mp c_3
          refine lv_aload_n hx hb d_Mo_power_51 rfl (lv_at hl 1 rfl) ?_
          refine lv_lload hx hb d_Mo_power_52 (lv_at hl 0 rfl) ?_
          refine lv_lload hx hb d_Mo_power_54 (lv_at hl 4 rfl) ?_
          refine va_calll (va_runV (As := [.long (lN ((X ^ (E / 2 ^ (j + 1)) * X ^ (E / 2 ^ (j + 1))) * 2 ^ 62 % N)), .long (lN (X * 2 ^ 62 % N))]) (rest := []) ⟨hx, hb, hml, hown, hts⟩ (c_Mo_reduced l s.heap dC dI h0 N f k ((X ^ (E / 2 ^ (j + 1)) * X ^ (E / 2 ^ (j + 1))) * 2 ^ 62 % N) (X * 2 ^ 62 % N) hP hok (Nat.mod_lt _ (by omega)) (Nat.mod_lt _ (by omega))) (cwV 2 hts (gw_V gk_239 gk_241 gp_0 gk_9 gk_242) rfl rfl rfl (by decide +kernel) ⟨Nat.le_of_ble_eq_true rfl, Nat.le_of_ble_eq_true rfl⟩) ⟨fun a U g mk q => ⟨q.1, q.2.1, va_K.moved (u := U) (U := U.calling g mk a) (Vm.Alike.refl U.vm) q.2.2⟩, va_recv hK hP (ci := 0) (q0 := 0) rfl rfl, fun U hU hW => ⟨rfl, hU, va_K.moved hW.alike hK0⟩⟩ rfl rfl hl.1 rfl (lv_room (Nat.le_of_ble_eq_true rfl)) d_Mo_power_56 ⟨Nat.zero_le _, Nat.zero_le _⟩) hS (fun q _ h => h.elim) (fun q h => h.elim) (fun r_5 u9 t9 H1 locs ht hvm hw hB hz1 hk1 hS => ?_)
          obtain rfl : s.heap = H1 := hB.symm.trans ht
          obtain ⟨R5, hR5, hRN5, hRm5⟩ := hw
          subst hR5
          obtain rfl : R5 = ((X ^ (E / 2 ^ (j + 1)) * X ^ (E / 2 ^ (j + 1))) * X) * 2 ^ 62 % N := red_mul ho hRN5 hRm5
          refine lv_lstore (lv' := [(7, .long (lN (((X ^ (E / 2 ^ (j + 1)) * X ^ (E / 2 ^ (j + 1))) * X) * 2 ^ 62 % N))), (0, .ref h0), (1, .long (lN X)), (3, .long (lN E)), (5, .long (lN (X * 2 ^ 62 % N))), (9, .int (nI (j + 1) - 1))]) hx hb d_Mo_power_59 hl (by decide) rfl (fun ls hl => ?_)
          obtain ⟨i_6, ei_6⟩ : ∃ y : Int32, y = (nI (j + 1) - 1) + (-1) := ⟨_, rfl⟩
          refine lv_iinc (v := i_6) (lv' := [(9, .int i_6), (7, .long (lN (((X ^ (E / 2 ^ (j + 1)) * X ^ (E / 2 ^ (j + 1))) * X) * 2 ^ 62 % N))), (0, .ref h0), (1, .long (lN X)), (3, .long (lN E)), (5, .long (lN (X * 2 ^ 62 % N)))]) hx hb d_Mo_power_61 hl (k := 5) rfl (by rw [ei_6]; rfl) (by decide) rfl (fun ls hl => ?_)
          obtain rfl : i_6 = nI j - 1 := by rw [ei_6]; exact by rw [nI_pred, i_add_neg]
          refine lv_goto (tgt := 25) hx hb d_Mo_power_64 (by decide) ?_
          have hb := bit_div E j
          rw [hbit] at hb
          have hp : X ^ (E / 2 ^ (j + 1)) * X ^ (E / 2 ^ (j + 1)) * X = X ^ (E / 2 ^ j) := by
            rw [pw_even, ← Nat.pow_succ]
            congr 1
            omega
          rw [hp] at hl
          exact ih (by omega) locs hS ls (lv_sub hl [2, 3, 4, 5, 1, 0] rfl)
  refine lv_aload_n hx hb d_Mo_power_0 rfl (lv_at hl 0 rfl) ?_
  refine lv_lload_n hx hb d_Mo_power_1 rfl (lv_at hl 1 rfl) ?_
  refine lv_aload_n hx hb d_Mo_power_2 rfl (lv_at hl 0 rfl) ?_
  refine va_get (D := (dC, dI)) (ci := 0) (v := .long (lN (2 ^ 124 % N))) (C := "BallotBoard$Modulus") (T := F_Mo) (N := 7) hx hb hts (fun w9 h9 => List.mem_cons_of_mem _ (i_Mo w9 h9)) hown hK hP 0 rfl rfl 5 (by decide) (hts _ (List.mem_cons_of_mem _ gk_212)) (fun _ h9 => h9) rfl d_Mo_power_3 ?_
  refine va_calll (va_runV (As := [.long (lN X), .long (lN (2 ^ 124 % N))]) (rest := []) ⟨hx, hb, hml, hown, hts⟩ (c_Mo_reduced l s.heap dC dI h0 N f k X (2 ^ 124 % N) hP hok hX (Nat.mod_lt _ (by omega))) (cwV 2 hts (gw_V gk_239 gk_241 gp_0 gk_9 gk_242) rfl rfl rfl (by decide +kernel) ⟨Nat.le_of_ble_eq_true rfl, Nat.le_of_ble_eq_true rfl⟩) ⟨fun a U g mk q => ⟨q.1, q.2.1, va_K.moved (u := U) (U := U.calling g mk a) (Vm.Alike.refl U.vm) q.2.2⟩, va_recv hK hP (ci := 0) (q0 := 0) rfl rfl, fun U hU hW => ⟨rfl, hU, va_K.moved hW.alike hK0⟩⟩ rfl rfl hl.1 rfl (lv_room (Nat.le_of_ble_eq_true rfl)) d_Mo_power_6 ⟨Nat.zero_le _, Nat.zero_le _⟩) hS (fun q _ h => h.elim) (fun q h => h.elim) (fun r_1 u9 t9 H1 locs ht hvm hw hB hz1 hk1 hS => ?_)
  obtain rfl : s.heap = H1 := hB.symm.trans ht
  obtain ⟨R1, hR1, hRN1, hRm1⟩ := hw
  subst hR1
  obtain rfl : R1 = X * 2 ^ 62 % N := red_sq ho hRN1 hRm1
  refine lv_lstore (lv' := [(5, .long (lN (X * 2 ^ 62 % N))), (0, .ref h0), (1, .long (lN X)), (3, .long (lN E))]) hx hb d_Mo_power_9 hl (by decide) rfl (fun ls hl => ?_)
  refine lv_aload_n hx hb d_Mo_power_11 rfl (lv_at hl 1 rfl) ?_
  refine va_get (D := (dC, dI)) (ci := 0) (v := .long (lN (2 ^ 62 % N))) (C := "BallotBoard$Modulus") (T := F_Mo) (N := 7) hx hb hts (fun w9 h9 => List.mem_cons_of_mem _ (i_Mo w9 h9)) hown hK hP 0 rfl rfl 4 (by decide) (hts _ (List.mem_cons_of_mem _ gk_211)) (fun _ h9 => h9) rfl d_Mo_power_12 ?_
  refine lv_lstore (lv' := [(7, .long (lN (2 ^ 62 % N))), (5, .long (lN (X * 2 ^ 62 % N))), (0, .ref h0), (1, .long (lN X)), (3, .long (lN E))]) hx hb d_Mo_power_15 hl (by decide) rfl (fun ls hl => ?_)
  refine lv_aload_n hx hb d_Mo_power_17 rfl (lv_at hl 2 rfl) ?_
  refine va_get (D := (dC, dI)) (ci := 0) (v := .int (nI k)) (C := "BallotBoard$Modulus") (T := F_Mo) (N := 7) hx hb hts (fun w9 h9 => List.mem_cons_of_mem _ (i_Mo w9 h9)) hown hK hP 0 rfl rfl 6 (by decide) (hts _ (List.mem_cons_of_mem _ gk_213)) (fun _ h9 => h9) rfl d_Mo_power_18 ?_
  refine lv_iconst (v := 1) hx hb d_Mo_power_21 (by decide) ?_
  refine lv_isub hx hb d_Mo_power_22 ?_
  refine lv_istore (lv' := [(9, .int ((nI k) - 1)), (7, .long (lN (2 ^ 62 % N))), (5, .long (lN (X * 2 ^ 62 % N))), (0, .ref h0), (1, .long (lN X)), (3, .long (lN E))]) hx hb d_Mo_power_23 hl (by decide) rfl (fun ls hl => ?_)
  exact loop k (by omega) locs hS ls (lv_sub hl [3, 4, 5, 2, 1, 0] (by rw [Nat.div_eq_of_lt hE, Nat.pow_zero, Nat.one_mul]; rfl))
