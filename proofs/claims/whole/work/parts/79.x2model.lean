abbrev b_Bm_in : ByteArray := prog_10_method_3_code
abbrev y_Bm_in : MethodName := ⟨"BallotBoardModel", "in", "(III)Z"⟩
abbrev w_Bm_in : List Cond := .code y_Bm_in b_Bm_in 3 (some .boolean) :: gw
theorem d_Bm_in_0 : decode b_Bm_in 0 = .ok (.iload_n 0, 1) := by decide +kernel
theorem d_Bm_in_1 : decode b_Bm_in 1 = .ok (.iload_n 1, 1) := by decide +kernel
theorem d_Bm_in_2 : decode b_Bm_in 2 = .ok (.if_icmp .lt 12, 3) := by decide +kernel
theorem d_Bm_in_5 : decode b_Bm_in 5 = .ok (.iload_n 0, 1) := by decide +kernel
theorem d_Bm_in_6 : decode b_Bm_in 6 = .ok (.iload_n 2, 1) := by decide +kernel
theorem d_Bm_in_7 : decode b_Bm_in 7 = .ok (.if_icmp .gt 7, 3) := by decide +kernel
theorem d_Bm_in_10 : decode b_Bm_in 10 = .ok (.iconst 1, 1) := by decide +kernel
theorem d_Bm_in_11 : decode b_Bm_in 11 = .ok (.goto 4, 3) := by decide +kernel
theorem d_Bm_in_14 : decode b_Bm_in 14 = .ok (.iconst 0, 1) := by decide +kernel
theorem d_Bm_in_15 : decode b_Bm_in 15 = .ok (.ireturn, 1) := by decide +kernel
set_option maxHeartbeats 4000000 in
set_option maxRecDepth 100000 in
theorem c_Bm_in (l : Launch) (H0 : Heap) (x1 x2 x3 : Int32) : Met l y_Bm_in w_Bm_in ({ frames := 0, cells := 0, slots := 0, locals := 0 }) (va_Pc [.int x1, .int x2, .int x3] (fun U => U.heap = H0)) (va_Qi (fun (r : Int32) (_ : Unit) => r = if x2 ≤ x1 ∧ x1 ≤ x3 then 1 else 0) (fun _ t => t.heap = H0) (fun _ => False)) 0 0 (fun _ => False) := by
  refine Met.ofW (cc := b_Bm_in) (maxL := 3) (ret := (some .boolean)) (by decide) rfl ?_
  intro p e s m args below meth c s₁ Bd hml hv
  obtain ⟨rfl, hH⟩ := hv
  subst hH
  have hx := Bd.exec
  have hb := Bd.bytes
  have hr := Bd.returns
  have hts := atoms_spec (ws := w_Bm_in) Bd.pre
  have hown : s.vm.findClass "BallotBoardModel" = some m.cls := findClass_of_methodNamed Bd.named
  have hlocks := Bd.notSynchronized
  have hS : va_S (fun _ => False) s.heap s.heap [] := va_S.rf
  have hl := lv_entry ([.int x1, .int x2, .int x3]) (n := 3) (Nat.le_of_ble_eq_true rfl)
  rw [lg_entry_eq]
  generalize (lg_sl ([.int x1, .int x2, .int x3]) ++ List.replicate (3 - (lg_sl ([.int x1, .int x2, .int x3])).length) Slot.unset).toArray = ls at hl ⊢
  have hl : lv_has ls 3 [(0, .int x1), (1, .int x2), (2, .int x3)] := hl
  refine lv_iload_n hx hb d_Bm_in_0 rfl (lv_at hl 0 rfl) ?_
  refine lv_iload_n hx hb d_Bm_in_1 rfl (lv_at hl 1 rfl) ?_
  refine lv_icmp_lt (tgt := 14) hx hb d_Bm_in_2 (by decide) (fun c_1 => ?_) (fun c_1 => ?_)
  · -- taken
    have hf : ¬ (x2 ≤ x1 ∧ x1 ≤ x3) := fun h => absurd c_1 (Int32.not_lt.mpr h.1)
    refine lv_iconst (v := 0) hx hb d_Bm_in_14 (by decide) ?_
    exact W.zret (v := 0) hx hb hr (by decide) (fun t ht hW => ⟨⟨_, (), rfl, (by rw [if_neg hf]), ht⟩, hS.F ht⟩) hS.2.2 d_Bm_in_15
  · -- not taken
    have h21 : x2 ≤ x1 := Int32.not_lt.mp c_1
    refine lv_iload_n hx hb d_Bm_in_5 rfl (lv_at hl 0 rfl) ?_
    refine lv_iload_n hx hb d_Bm_in_6 rfl (lv_at hl 2 rfl) ?_
    refine lv_icmp_gt (tgt := 14) hx hb d_Bm_in_7 (by decide) (fun c_2 => ?_) (fun c_2 => ?_)
    · -- taken
      have hf : ¬ (x2 ≤ x1 ∧ x1 ≤ x3) := fun h => absurd c_2 (Int32.not_lt.mpr h.2)
      refine lv_iconst (v := 0) hx hb d_Bm_in_14 (by decide) ?_
      exact W.zret (v := 0) hx hb hr (by decide) (fun t ht hW => ⟨⟨_, (), rfl, (by rw [if_neg hf]), ht⟩, hS.F ht⟩) hS.2.2 d_Bm_in_15
    · -- not taken
      have h13 : x1 ≤ x3 := Int32.not_lt.mp c_2
      refine lv_iconst (v := 1) hx hb d_Bm_in_10 (by decide) ?_
      refine lv_goto (tgt := 15) hx hb d_Bm_in_11 (by decide) ?_
      exact W.zret (v := 1) hx hb hr (by decide) (fun t ht hW => ⟨⟨_, (), rfl, (by rw [if_pos ⟨h21, h13⟩]), ht⟩, hS.F ht⟩) hS.2.2 d_Bm_in_15
abbrev b_Bm_turn : ByteArray := prog_10_method_7_code
abbrev y_Bm_turn : MethodName := ⟨"BallotBoardModel", "turn", "(II)I"⟩
abbrev w_Bm_turn : List Cond := .code y_Bm_turn b_Bm_turn 2 (some .int) :: gw
theorem d_Bm_turn_0 : decode b_Bm_turn 0 = .ok (.iload_n 0, 1) := by decide +kernel
theorem d_Bm_turn_1 : decode b_Bm_turn 1 = .ok (.iload_n 1, 1) := by decide +kernel
theorem d_Bm_turn_2 : decode b_Bm_turn 2 = .ok (.iushr, 1) := by decide +kernel
theorem d_Bm_turn_3 : decode b_Bm_turn 3 = .ok (.iload_n 0, 1) := by decide +kernel
theorem d_Bm_turn_4 : decode b_Bm_turn 4 = .ok (.bipush 32, 2) := by decide +kernel
theorem d_Bm_turn_6 : decode b_Bm_turn 6 = .ok (.iload_n 1, 1) := by decide +kernel
theorem d_Bm_turn_7 : decode b_Bm_turn 7 = .ok (.isub, 1) := by decide +kernel
theorem d_Bm_turn_8 : decode b_Bm_turn 8 = .ok (.ishl, 1) := by decide +kernel
theorem d_Bm_turn_9 : decode b_Bm_turn 9 = .ok (.ior, 1) := by decide +kernel
theorem d_Bm_turn_10 : decode b_Bm_turn 10 = .ok (.ireturn, 1) := by decide +kernel
set_option maxHeartbeats 4000000 in
set_option maxRecDepth 100000 in
theorem c_Bm_turn (l : Launch) (H0 : Heap) (x1 x2 : Int32) : Met l y_Bm_turn w_Bm_turn ({ frames := 0, cells := 0, slots := 0, locals := 0 }) (va_Pc [.int x1, .int x2] (fun U => U.heap = H0)) (va_Qi (fun (r : Int32) (_ : Unit) => r = tn x1 x2) (fun _ t => t.heap = H0) (fun _ => False)) 0 0 (fun _ => False) := by
  refine Met.ofW (cc := b_Bm_turn) (maxL := 2) (ret := (some .int)) (by decide) rfl ?_
  intro p e s m args below meth c s₁ Bd hml hv
  obtain ⟨rfl, hH⟩ := hv
  subst hH
  have hx := Bd.exec
  have hb := Bd.bytes
  have hr := Bd.returns
  have hts := atoms_spec (ws := w_Bm_turn) Bd.pre
  have hown : s.vm.findClass "BallotBoardModel" = some m.cls := findClass_of_methodNamed Bd.named
  have hlocks := Bd.notSynchronized
  have hS : va_S (fun _ => False) s.heap s.heap [] := va_S.rf
  have hl := lv_entry ([.int x1, .int x2]) (n := 2) (Nat.le_of_ble_eq_true rfl)
  rw [lg_entry_eq]
  generalize (lg_sl ([.int x1, .int x2]) ++ List.replicate (2 - (lg_sl ([.int x1, .int x2])).length) Slot.unset).toArray = ls at hl ⊢
  have hl : lv_has ls 2 [(0, .int x1), (1, .int x2)] := hl
  refine lv_iload_n hx hb d_Bm_turn_0 rfl (lv_at hl 0 rfl) ?_
  refine lv_iload_n hx hb d_Bm_turn_1 rfl (lv_at hl 1 rfl) ?_
  refine lv_iushr (v := ((x1 : Int32).toUInt32 >>> ((x2 : Int32).toUInt32 &&& Int32.toUInt32 31)).toInt32) hx hb d_Bm_turn_2 rfl ?_
  refine lv_iload_n hx hb d_Bm_turn_3 rfl (lv_at hl 0 rfl) ?_
  refine lv_bipush (v := 32) hx hb d_Bm_turn_4 (by decide) ?_
  refine lv_iload_n hx hb d_Bm_turn_6 rfl (lv_at hl 1 rfl) ?_
  refine lv_isub hx hb d_Bm_turn_7 ?_
  refine lv_ishl hx hb d_Bm_turn_8 ?_
  refine lv_ior hx hb d_Bm_turn_9 ?_
  exact W.iret (v := ((((x1 : Int32).toUInt32 >>> ((x2 : Int32).toUInt32 &&& Int32.toUInt32 31)).toInt32) ||| (x1 <<< ((32 - x2) &&& 31)))) hx hb hr (fun t ht hW => ⟨⟨_, (), rfl, rfl, ht⟩, hS.F ht⟩) hS.2.2 d_Bm_turn_10
abbrev b_Bm_many : ByteArray := prog_10_method_25_code
abbrev y_Bm_many : MethodName := ⟨"BallotBoardModel", "many", "(J)I"⟩
abbrev w_Bm_many : List Cond := .code y_Bm_many b_Bm_many 2 (some .int) :: gw
theorem d_Bm_many_0 : decode b_Bm_many 0 = .ok (.lload_n 0, 1) := by decide +kernel
theorem d_Bm_many_1 : decode b_Bm_many 1 = .ok (.ldc2_w 159, 3) := by decide +kernel
theorem d_Bm_many_4 : decode b_Bm_many 4 = .ok (.lcmp, 1) := by decide +kernel
theorem d_Bm_many_5 : decode b_Bm_many 5 = .ok (.ifCond .ne 8, 3) := by decide +kernel
theorem d_Bm_many_8 : decode b_Bm_many 8 = .ok (.bipush 8, 2) := by decide +kernel
theorem d_Bm_many_10 : decode b_Bm_many 10 = .ok (.goto 4, 3) := by decide +kernel
theorem d_Bm_many_13 : decode b_Bm_many 13 = .ok (.iconst 5, 1) := by decide +kernel
theorem d_Bm_many_14 : decode b_Bm_many 14 = .ok (.ireturn, 1) := by decide +kernel
set_option maxHeartbeats 4000000 in
set_option maxRecDepth 100000 in
theorem c_Bm_many (l : Launch) (H0 : Heap) (x1 : Int64) : Met l y_Bm_many w_Bm_many ({ frames := 0, cells := 0, slots := 0, locals := 0 }) (va_Pc [.long x1] (fun U => U.heap = H0)) (va_Qi (fun (r : Int32) (_ : Unit) => r = if x1 = 2 then 8 else 5) (fun _ t => t.heap = H0) (fun _ => False)) 0 0 (fun _ => False) := by
  refine Met.ofW (cc := b_Bm_many) (maxL := 2) (ret := (some .int)) (by decide) rfl ?_
  intro p e s m args below meth c s₁ Bd hml hv
  obtain ⟨rfl, hH⟩ := hv
  subst hH
  have hx := Bd.exec
  have hb := Bd.bytes
  have hr := Bd.returns
  have hts := atoms_spec (ws := w_Bm_many) Bd.pre
  have hown : s.vm.findClass "BallotBoardModel" = some m.cls := findClass_of_methodNamed Bd.named
  have hlocks := Bd.notSynchronized
  have hS : va_S (fun _ => False) s.heap s.heap [] := va_S.rf
  have hl := lv_entry ([.long x1]) (n := 2) (Nat.le_of_ble_eq_true rfl)
  rw [lg_entry_eq]
  generalize (lg_sl ([.long x1]) ++ List.replicate (2 - (lg_sl ([.long x1])).length) Slot.unset).toArray = ls at hl ⊢
  have hl : lv_has ls 2 [(0, .long x1)] := hl
  refine lv_lload_n hx hb d_Bm_many_0 rfl (lv_at hl 0 rfl) ?_
  refine lv_ldc2 (v := 2) hx hb hown (hts _ (List.mem_cons_of_mem _ gk_1017)) d_Bm_many_1 ?_
  refine W.lcmp hx hb d_Bm_many_4 ?_
  refine lv_if_ne (tgt := 13) hx hb d_Bm_many_5 (by decide) (fun c_1 => ?_) (fun c_1 => ?_)
  · -- taken
    have hf : ¬ x1 = 2 := fun h => c_1 ((lg_cmp_eq _ _).mpr h)
    refine lv_iconst (v := 5) hx hb d_Bm_many_13 (by decide) ?_
    exact W.iret (v := 5) hx hb hr (fun t ht hW => ⟨⟨_, (), rfl, (by rw [if_neg hf]), ht⟩, hS.F ht⟩) hS.2.2 d_Bm_many_14
  · -- not taken
    have ht2 : x1 = 2 := (lg_cmp_eq _ _).mp c_1
    refine lv_bipush (v := 8) hx hb d_Bm_many_8 (by decide) ?_
    refine lv_goto (tgt := 14) hx hb d_Bm_many_10 (by decide) ?_
    exact W.iret (v := 8) hx hb hr (fun t ht hW => ⟨⟨_, (), rfl, (by rw [if_pos ht2]), ht⟩, hS.F ht⟩) hS.2.2 d_Bm_many_14
