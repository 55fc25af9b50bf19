abbrev b_Bm_isIn : ByteArray := prog_10_method_13_code
abbrev y_Bm_isIn : MethodName := ⟨"BallotBoardModel", "isIn", "(J)Z"⟩
abbrev w_Bm_isIn : List Cond := .code y_Bm_isIn b_Bm_isIn 3 (some .boolean) :: gw
theorem d_Bm_isIn_0 : decode b_Bm_isIn 0 = .ok (.lload_n 1, 1) := by decide +kernel
theorem d_Bm_isIn_1 : decode b_Bm_isIn 1 = .ok (.lconst 1, 1) := by decide +kernel
theorem d_Bm_isIn_2 : decode b_Bm_isIn 2 = .ok (.lcmp, 1) := by decide +kernel
theorem d_Bm_isIn_3 : decode b_Bm_isIn 3 = .ok (.ifCond .lt 33, 3) := by decide +kernel
theorem d_Bm_isIn_6 : decode b_Bm_isIn 6 = .ok (.lload_n 1, 1) := by decide +kernel
theorem d_Bm_isIn_7 : decode b_Bm_isIn 7 = .ok (.aload_n 0, 1) := by decide +kernel
theorem d_Bm_isIn_8 : decode b_Bm_isIn 8 = .ok (.getfield 164, 3) := by decide +kernel
theorem d_Bm_isIn_11 : decode b_Bm_isIn 11 = .ok (.lcmp, 1) := by decide +kernel
theorem d_Bm_isIn_12 : decode b_Bm_isIn 12 = .ok (.ifCond .ge 24, 3) := by decide +kernel
theorem d_Bm_isIn_15 : decode b_Bm_isIn 15 = .ok (.lload_n 1, 1) := by decide +kernel
theorem d_Bm_isIn_16 : decode b_Bm_isIn 16 = .ok (.aload_n 0, 1) := by decide +kernel
theorem d_Bm_isIn_17 : decode b_Bm_isIn 17 = .ok (.getfield 168, 3) := by decide +kernel
theorem d_Bm_isIn_20 : decode b_Bm_isIn 20 = .ok (.aload_n 0, 1) := by decide +kernel
theorem d_Bm_isIn_21 : decode b_Bm_isIn 21 = .ok (.getfield 164, 3) := by decide +kernel
theorem d_Bm_isIn_24 : decode b_Bm_isIn 24 = .ok (.invokestatic 161, 3) := by decide +kernel
theorem d_Bm_isIn_27 : decode b_Bm_isIn 27 = .ok (.lconst 1, 1) := by decide +kernel
theorem d_Bm_isIn_28 : decode b_Bm_isIn 28 = .ok (.lcmp, 1) := by decide +kernel
theorem d_Bm_isIn_29 : decode b_Bm_isIn 29 = .ok (.ifCond .ne 7, 3) := by decide +kernel
theorem d_Bm_isIn_32 : decode b_Bm_isIn 32 = .ok (.iconst 1, 1) := by decide +kernel
theorem d_Bm_isIn_33 : decode b_Bm_isIn 33 = .ok (.goto 4, 3) := by decide +kernel
theorem d_Bm_isIn_36 : decode b_Bm_isIn 36 = .ok (.iconst 0, 1) := by decide +kernel
theorem d_Bm_isIn_37 : decode b_Bm_isIn 37 = .ok (.ireturn, 1) := by decide +kernel
set_option maxHeartbeats 8000000 in
set_option maxRecDepth 100000 in
theorem c_Bm_isIn (l : Launch) (H0 : Heap) (dC : Nat → ClassId) (dI : Nat → Nat → Nat) (cJ cI : ClassId) (m0 : Nat) (z0 z1 z2 z3 : Int32) (z7 z8 z9 : Int64) (z10 : Int32) (a0 a1 a2 a3 a4 a5 a6 a7 a8 a9 b0 b1 oc b2 b3 b4 b5 : Nat) (P Q G : Nat) (x1 : Int64) (hP : va_P (dC, dI) classes (mo_ws m0 z0 z1 z2 z3 (lN P) (lN Q) (lN G) z7 z8 z9 z10 a0 a1 a2 a3 a4 a5 a6 a7 a8 a9 b0 b1 oc b2 b3 b4 b5) H0) (hPQ : P = 2 * Q + 1) (h61F : P < 2 ^ 61) (hQ3 : 3 ≤ Q)  : Met l y_Bm_isIn w_Bm_isIn ({ frames := 3, cells := 0, slots := 0, locals := 89 }) (va_Pc [.ref m0, .long x1] (fun U => U.heap = H0 ∧ va_K (dC, dI) classes [(cJ, .long), (cI, .int)] U)) (va_Qi (fun (r : Int32) (_ : Unit) => bz r (in_gp P Q x1)) (fun _ t => t.heap = H0) (fun _ => False)) 0 0 (fun _ => False) := by
  refine Met.ofW (cc := b_Bm_isIn) (maxL := 3) (ret := (some .boolean)) (by decide) rfl ?_
  intro p e s m args below meth c s₁ Bd hml hv
  obtain ⟨rfl, hH, hK⟩ := hv
  subst hH
  have hx := Bd.exec
  have hb := Bd.bytes
  have hr := Bd.returns
  have hts := atoms_spec (ws := w_Bm_isIn) Bd.pre
  have hown : s.vm.findClass "BallotBoardModel" = some m.cls := findClass_of_methodNamed Bd.named
  have hlocks := Bd.notSynchronized
  have hS : va_S (fun _ => False) s.heap s.heap [] := va_S.rf
  have hl := lv_entry ([.ref m0, .long x1]) (n := 3) (Nat.le_of_ble_eq_true rfl)
  rw [lg_entry_eq]
  generalize (lg_sl ([.ref m0, .long x1]) ++ List.replicate (3 - (lg_sl ([.ref m0, .long x1])).length) Slot.unset).toArray = ls at hl ⊢
  have hl : lv_has ls 3 [(0, .ref m0), (1, .long x1)] := hl
  refine lv_lload_n hx hb d_Bm_isIn_0 rfl (lv_at hl 1 rfl) ?_
  refine lv_lconst (v := 1) hx hb d_Bm_isIn_1 (by decide) ?_
  refine W.lcmp hx hb d_Bm_isIn_2 ?_
  refine lv_if_lt (tgt := 36) hx hb d_Bm_isIn_3 (by decide) (fun c_1 => ?_) (fun c_1 => ?_)
  · -- taken
    have hbad : ¬ in_gp P Q x1 := by
      rintro ⟨Y, rfl, h1, h2, _⟩
      have := (ln_lt1 (by omega)).mp c_1
      omega
    refine lv_iconst (v := 0) hx hb d_Bm_isIn_36 (by decide) ?_
    exact W.zret (v := 0) hx hb hr (by decide) (fun t ht hW => ⟨⟨_, (), rfl, (bz_0 hbad), ht⟩, hS.F ht⟩) hS.2.2 d_Bm_isIn_37
  · -- not taken
    obtain ⟨Y, hY63, hY1, rfl⟩ := l_pos c_1
    refine lv_lload_n hx hb d_Bm_isIn_6 rfl (lv_at hl 1 rfl) ?_
    refine lv_aload_n hx hb d_Bm_isIn_7 rfl (lv_at hl 0 rfl) ?_
    refine va_get (D := (dC, dI)) (ci := 8) (v := .long (lN P)) (C := "BallotBoardModel") (T := F_Bm) (N := 28) hx hb hts (fun w9 h9 => List.mem_cons_of_mem _ (i_Bm w9 h9)) hown hK hP 0 rfl rfl 4 (by decide) (hts _ (List.mem_cons_of_mem _ gk_923)) (fun _ h9 => h9) rfl d_Bm_isIn_8 ?_
    refine W.lcmp hx hb d_Bm_isIn_11 ?_
    refine lv_if_ge (tgt := 36) hx hb d_Bm_isIn_12 (by decide) (fun c_2 => ?_) (fun c_2 => ?_)
    · -- taken
      have hbad : ¬ in_gp P Q (lN Y) := by
        rintro ⟨Z, e9, h1, h2, _⟩
        have e8 := ln_inj hY63 (by omega) e9
        have := (cmpge hY63 P (by omega)).mp c_2
        omega
      refine lv_iconst (v := 0) hx hb d_Bm_isIn_36 (by decide) ?_
      exact W.zret (v := 0) hx hb hr (by decide) (fun t ht hW => ⟨⟨_, (), rfl, (bz_0 hbad), ht⟩, hS.F ht⟩) hS.2.2 d_Bm_isIn_37
    · -- not taken
      have hYP : Y < P := Nat.lt_of_not_le (fun h => c_2 ((cmpge hY63 P (by omega)).mpr h))
      refine lv_lload_n hx hb d_Bm_isIn_15 rfl (lv_at hl 1 rfl) ?_
      refine lv_aload_n hx hb d_Bm_isIn_16 rfl (lv_at hl 0 rfl) ?_
      refine va_get (D := (dC, dI)) (ci := 8) (v := .long (lN Q)) (C := "BallotBoardModel") (T := F_Bm) (N := 28) hx hb hts (fun w9 h9 => List.mem_cons_of_mem _ (i_Bm w9 h9)) hown hK hP 0 rfl rfl 5 (by decide) (hts _ (List.mem_cons_of_mem _ gk_924)) (fun _ h9 => h9) rfl d_Bm_isIn_17 ?_
      refine lv_aload_n hx hb d_Bm_isIn_20 rfl (lv_at hl 0 rfl) ?_
      refine va_get (D := (dC, dI)) (ci := 8) (v := .long (lN P)) (C := "BallotBoardModel") (T := F_Bm) (N := 28) hx hb hts (fun w9 h9 => List.mem_cons_of_mem _ (i_Bm w9 h9)) hown hK hP 0 rfl rfl 4 (by decide) (hts _ (List.mem_cons_of_mem _ gk_923)) (fun _ h9 => h9) rfl d_Bm_isIn_21 ?_
      refine va_calll (va_runS (As := [.long (lN Y), .long (lN Q), .long (lN P)]) (rest := []) ⟨hx, hb, hml, hown, hts⟩ (c_Bm_power l s.heap Y Q P (by omega) (by omega) (by omega)) (cwS 3 hts (gw_S gk_1018 gk_1019 gk_7 gk_1020) rfl rfl rfl (by decide +kernel) ⟨Nat.le_of_ble_eq_true rfl, Nat.le_of_ble_eq_true rfl⟩) ⟨fun a U g mk q => q, fun U hU hW => ⟨rfl, hU⟩⟩ rfl rfl hl.1 rfl (lv_room (Nat.le_of_ble_eq_true rfl)) d_Bm_isIn_24 ⟨Nat.le_of_ble_eq_true rfl, Nat.le_of_ble_eq_true rfl⟩) hS (fun q _ h => h.elim) (fun q h => h.elim) (fun r24 u9 t9 H1 locs ht hvm hw hB hz1 hk1 hS => ?_)
      obtain rfl : s.heap = H1 := hB.symm.trans ht
      have hw : r24 = lN (Y ^ Q % P) := hw
      subst hw
      refine lv_lconst (v := 1) hx hb d_Bm_isIn_27 (by decide) ?_
      refine W.lcmp hx hb d_Bm_isIn_28 ?_
      refine lv_if_ne (tgt := 36) hx hb d_Bm_isIn_29 (by decide) (fun c_3 => ?_) (fun c_3 => ?_)
      · -- taken
        have hbad : ¬ in_gp P Q (lN Y) := by
          rintro ⟨Z, e9, h1, h2, h4⟩
          have e8 := ln_inj hY63 (by omega) e9
          subst e8
          exact c_3 ((cmpe (Nat.lt_trans (Nat.mod_lt _ (by omega)) (by omega)) 1 (by omega) rfl).mpr h4)
        refine lv_iconst (v := 0) hx hb d_Bm_isIn_36 (by decide) ?_
        exact W.zret (v := 0) hx hb hr (by decide) (fun t ht hW => ⟨⟨_, (), rfl, (bz_0 hbad), ht⟩, hS.F ht⟩) hS.2.2 d_Bm_isIn_37
      · -- not taken
        have hgood : in_gp P Q (lN Y) := ⟨Y, rfl, hY1, hYP, (cmpe (Nat.lt_trans (Nat.mod_lt _ (by omega)) (by omega)) 1 (by omega) rfl).mp c_3⟩
        refine lv_iconst (v := 1) hx hb d_Bm_isIn_32 (by decide) ?_
        refine lv_goto (tgt := 37) hx hb d_Bm_isIn_33 (by decide) ?_
        exact W.zret (v := 1) hx hb hr (by decide) (fun t ht hW => ⟨⟨_, (), rfl, (bz_1 hgood), ht⟩, hS.F ht⟩) hS.2.2 d_Bm_isIn_37
abbrev b_Bm_isExponent : ByteArray := prog_10_method_14_code
abbrev y_Bm_isExponent : MethodName := ⟨"BallotBoardModel", "isExponent", "(J)Z"⟩
abbrev w_Bm_isExponent : List Cond := .code y_Bm_isExponent b_Bm_isExponent 3 (some .boolean) :: gw
theorem d_Bm_isExponent_0 : decode b_Bm_isExponent 0 = .ok (.lload_n 1, 1) := by decide +kernel
theorem d_Bm_isExponent_1 : decode b_Bm_isExponent 1 = .ok (.lconst 0, 1) := by decide +kernel
theorem d_Bm_isExponent_2 : decode b_Bm_isExponent 2 = .ok (.lcmp, 1) := by decide +kernel
theorem d_Bm_isExponent_3 : decode b_Bm_isExponent 3 = .ok (.ifCond .lt 16, 3) := by decide +kernel
theorem d_Bm_isExponent_6 : decode b_Bm_isExponent 6 = .ok (.lload_n 1, 1) := by decide +kernel
theorem d_Bm_isExponent_7 : decode b_Bm_isExponent 7 = .ok (.aload_n 0, 1) := by decide +kernel
theorem d_Bm_isExponent_8 : decode b_Bm_isExponent 8 = .ok (.getfield 168, 3) := by decide +kernel
theorem d_Bm_isExponent_11 : decode b_Bm_isExponent 11 = .ok (.lcmp, 1) := by decide +kernel
theorem d_Bm_isExponent_12 : decode b_Bm_isExponent 12 = .ok (.ifCond .ge 7, 3) := by decide +kernel
theorem d_Bm_isExponent_15 : decode b_Bm_isExponent 15 = .ok (.iconst 1, 1) := by decide +kernel
theorem d_Bm_isExponent_16 : decode b_Bm_isExponent 16 = .ok (.goto 4, 3) := by decide +kernel
theorem d_Bm_isExponent_19 : decode b_Bm_isExponent 19 = .ok (.iconst 0, 1) := by decide +kernel
theorem d_Bm_isExponent_20 : decode b_Bm_isExponent 20 = .ok (.ireturn, 1) := by decide +kernel
set_option maxHeartbeats 8000000 in
set_option maxRecDepth 100000 in
theorem c_Bm_isExponent (l : Launch) (H0 : Heap) (dC : Nat → ClassId) (dI : Nat → Nat → Nat) (cJ cI : ClassId) (m0 : Nat) (z0 z1 z2 z3 : Int32) (z7 z8 z9 : Int64) (z10 : Int32) (a0 a1 a2 a3 a4 a5 a6 a7 a8 a9 b0 b1 oc b2 b3 b4 b5 : Nat) (P Q G : Nat) (x1 : Int64) (hP : va_P (dC, dI) classes (mo_ws m0 z0 z1 z2 z3 (lN P) (lN Q) (lN G) z7 z8 z9 z10 a0 a1 a2 a3 a4 a5 a6 a7 a8 a9 b0 b1 oc b2 b3 b4 b5) H0) (hPQ : P = 2 * Q + 1) (h61F : P < 2 ^ 61) (hQ3 : 3 ≤ Q)  : Met l y_Bm_isExponent w_Bm_isExponent ({ frames := 0, cells := 0, slots := 0, locals := 0 }) (va_Pc [.ref m0, .long x1] (fun U => U.heap = H0 ∧ va_K (dC, dI) classes [(cJ, .long), (cI, .int)] U)) (va_Qi (fun (r : Int32) (_ : Unit) => bz r (in_ex Q x1)) (fun _ t => t.heap = H0) (fun _ => False)) 0 0 (fun _ => False) := by
  refine Met.ofW (cc := b_Bm_isExponent) (maxL := 3) (ret := (some .boolean)) (by decide) rfl ?_
  intro p e s m args below meth c s₁ Bd hml hv
  obtain ⟨rfl, hH, hK⟩ := hv
  subst hH
  have hx := Bd.exec
  have hb := Bd.bytes
  have hr := Bd.returns
  have hts := atoms_spec (ws := w_Bm_isExponent) Bd.pre
  have hown : s.vm.findClass "BallotBoardModel" = some m.cls := findClass_of_methodNamed Bd.named
  have hlocks := Bd.notSynchronized
  have hS : va_S (fun _ => False) s.heap s.heap [] := va_S.rf
  have hl := lv_entry ([.ref m0, .long x1]) (n := 3) (Nat.le_of_ble_eq_true rfl)
  rw [lg_entry_eq]
  generalize (lg_sl ([.ref m0, .long x1]) ++ List.replicate (3 - (lg_sl ([.ref m0, .long x1])).length) Slot.unset).toArray = ls at hl ⊢
  have hl : lv_has ls 3 [(0, .ref m0), (1, .long x1)] := hl
  refine lv_lload_n hx hb d_Bm_isExponent_0 rfl (lv_at hl 1 rfl) ?_
  refine lv_lconst (v := 0) hx hb d_Bm_isExponent_1 (by decide) ?_
  refine W.lcmp hx hb d_Bm_isExponent_2 ?_
  refine lv_if_lt (tgt := 19) hx hb d_Bm_isExponent_3 (by decide) (fun c_1 => ?_) (fun c_1 => ?_)
  · -- taken
    have hbad : ¬ in_ex Q x1 := by
      rintro ⟨Y, rfl, h1⟩
      exact ln_neg (by omega) c_1
    refine lv_iconst (v := 0) hx hb d_Bm_isExponent_19 (by decide) ?_
    exact W.zret (v := 0) hx hb hr (by decide) (fun t ht hW => ⟨⟨_, (), rfl, (bz_0 hbad), ht⟩, hS.F ht⟩) hS.2.2 d_Bm_isExponent_20
  · -- not taken
    obtain ⟨Y, hY63, rfl⟩ := l_nn c_1
    refine lv_lload_n hx hb d_Bm_isExponent_6 rfl (lv_at hl 1 rfl) ?_
    refine lv_aload_n hx hb d_Bm_isExponent_7 rfl (lv_at hl 0 rfl) ?_
    refine va_get (D := (dC, dI)) (ci := 8) (v := .long (lN Q)) (C := "BallotBoardModel") (T := F_Bm) (N := 28) hx hb hts (fun w9 h9 => List.mem_cons_of_mem _ (i_Bm w9 h9)) hown hK hP 0 rfl rfl 5 (by decide) (hts _ (List.mem_cons_of_mem _ gk_924)) (fun _ h9 => h9) rfl d_Bm_isExponent_8 ?_
    refine W.lcmp hx hb d_Bm_isExponent_11 ?_
    refine lv_if_ge (tgt := 19) hx hb d_Bm_isExponent_12 (by decide) (fun c_2 => ?_) (fun c_2 => ?_)
    · -- taken
      have hbad : ¬ in_ex Q (lN Y) := by
        rintro ⟨Z, e9, h1⟩
        have e8 := ln_inj hY63 (by omega) e9
        have := (cmpge hY63 Q (by omega)).mp c_2
        omega
      refine lv_iconst (v := 0) hx hb d_Bm_isExponent_19 (by decide) ?_
      exact W.zret (v := 0) hx hb hr (by decide) (fun t ht hW => ⟨⟨_, (), rfl, (bz_0 hbad), ht⟩, hS.F ht⟩) hS.2.2 d_Bm_isExponent_20
    · -- not taken
      have hgood : in_ex Q (lN Y) := ⟨Y, rfl, Nat.lt_of_not_le (fun h => c_2 ((cmpge hY63 Q (by omega)).mpr h))⟩
      refine lv_iconst (v := 1) hx hb d_Bm_isExponent_15 (by decide) ?_
      refine lv_goto (tgt := 20) hx hb d_Bm_isExponent_16 (by decide) ?_
      exact W.zret (v := 1) hx hb hr (by decide) (fun t ht hW => ⟨⟨_, (), rfl, (bz_1 hgood), ht⟩, hS.F ht⟩) hS.2.2 d_Bm_isExponent_20
abbrev b_Bm_power2 : ByteArray := prog_10_method_15_code
abbrev y_Bm_power2 : MethodName := ⟨"BallotBoardModel", "power", "(JJ)J"⟩
abbrev w_Bm_power2 : List Cond := .code y_Bm_power2 b_Bm_power2 5 (some .long) :: gw
theorem d_Bm_power2_0 : decode b_Bm_power2 0 = .ok (.lload_n 1, 1) := by decide +kernel
theorem d_Bm_power2_1 : decode b_Bm_power2 1 = .ok (.lload_n 3, 1) := by decide +kernel
theorem d_Bm_power2_2 : decode b_Bm_power2 2 = .ok (.aload_n 0, 1) := by decide +kernel
theorem d_Bm_power2_3 : decode b_Bm_power2 3 = .ok (.getfield 164, 3) := by decide +kernel
theorem d_Bm_power2_6 : decode b_Bm_power2 6 = .ok (.invokestatic 161, 3) := by decide +kernel
theorem d_Bm_power2_9 : decode b_Bm_power2 9 = .ok (.lreturn, 1) := by decide +kernel
set_option maxHeartbeats 8000000 in
set_option maxRecDepth 100000 in
theorem c_Bm_power2 (l : Launch) (H0 : Heap) (dC : Nat → ClassId) (dI : Nat → Nat → Nat) (cJ cI : ClassId) (m0 : Nat) (z0 z1 z2 z3 : Int32) (z7 z8 z9 : Int64) (z10 : Int32) (a0 a1 a2 a3 a4 a5 a6 a7 a8 a9 b0 b1 oc b2 b3 b4 b5 : Nat) (P Q G : Nat) (X1 E1 : Nat) (hP : va_P (dC, dI) classes (mo_ws m0 z0 z1 z2 z3 (lN P) (lN Q) (lN G) z7 z8 z9 z10 a0 a1 a2 a3 a4 a5 a6 a7 a8 a9 b0 b1 oc b2 b3 b4 b5) H0) (hPQ : P = 2 * Q + 1) (h61F : P < 2 ^ 61) (hQ3 : 3 ≤ Q) (hX1 : X1 < P) (hE1 : E1 ≤ P) : Met l y_Bm_power2 w_Bm_power2 ({ frames := 3, cells := 0, slots := 0, locals := 89 }) (va_Pc [.ref m0, .long (lN X1), .long (lN E1)] (fun U => U.heap = H0 ∧ va_K (dC, dI) classes [(cJ, .long), (cI, .int)] U)) (va_Ql (fun (r : Int64) (_ : Unit) => r = lN (X1 ^ E1 % P)) (fun _ t => t.heap = H0) (fun _ => False)) 0 0 (fun _ => False) := by
  refine Met.ofW (cc := b_Bm_power2) (maxL := 5) (ret := (some .long)) (by decide) rfl ?_
  intro p e s m args below meth c s₁ Bd hml hv
  obtain ⟨rfl, hH, hK⟩ := hv
  subst hH
  have hx := Bd.exec
  have hb := Bd.bytes
  have hr := Bd.returns
  have hts := atoms_spec (ws := w_Bm_power2) Bd.pre
  have hown : s.vm.findClass "BallotBoardModel" = some m.cls := findClass_of_methodNamed Bd.named
  have hlocks := Bd.notSynchronized
  have hS : va_S (fun _ => False) s.heap s.heap [] := va_S.rf
  have hl := lv_entry ([.ref m0, .long (lN X1), .long (lN E1)]) (n := 5) (Nat.le_of_ble_eq_true rfl)
  rw [lg_entry_eq]
  generalize (lg_sl ([.ref m0, .long (lN X1), .long (lN E1)]) ++ List.replicate (5 - (lg_sl ([.ref m0, .long (lN X1), .long (lN E1)])).length) Slot.unset).toArray = ls at hl ⊢
  have hl : lv_has ls 5 [(0, .ref m0), (1, .long (lN X1)), (3, .long (lN E1))] := hl
  refine lv_lload_n hx hb d_Bm_power2_0 rfl (lv_at hl 1 rfl) ?_
  refine lv_lload_n hx hb d_Bm_power2_1 rfl (lv_at hl 2 rfl) ?_
  refine lv_aload_n hx hb d_Bm_power2_2 rfl (lv_at hl 0 rfl) ?_
  refine va_get (D := (dC, dI)) (ci := 8) (v := .long (lN P)) (C := "BallotBoardModel") (T := F_Bm) (N := 28) hx hb hts (fun w9 h9 => List.mem_cons_of_mem _ (i_Bm w9 h9)) hown hK hP 0 rfl rfl 4 (by decide) (hts _ (List.mem_cons_of_mem _ gk_923)) (fun _ h9 => h9) rfl d_Bm_power2_3 ?_
  refine va_calll (va_runS (As := [.long (lN X1), .long (lN E1), .long (lN P)]) (rest := []) ⟨hx, hb, hml, hown, hts⟩ (c_Bm_power l s.heap X1 E1 P (by omega) (by omega) (by omega)) (cwS 3 hts (gw_S gk_1018 gk_1019 gk_7 gk_1020) rfl rfl rfl (by decide +kernel) ⟨Nat.le_of_ble_eq_true rfl, Nat.le_of_ble_eq_true rfl⟩) ⟨fun a U g mk q => q, fun U hU hW => ⟨rfl, hU⟩⟩ rfl rfl hl.1 rfl (lv_room (Nat.le_of_ble_eq_true rfl)) d_Bm_power2_6 ⟨Nat.le_of_ble_eq_true rfl, Nat.le_of_ble_eq_true rfl⟩) hS (fun q _ h => h.elim) (fun q h => h.elim) (fun r6 u9 t9 H1 locs ht hvm hw hB hz1 hk1 hS => ?_)
  obtain rfl : s.heap = H1 := hB.symm.trans ht
  have hw : r6 = lN (X1 ^ E1 % P) := hw
  subst hw
  exact W.lret (v := (lN (X1 ^ E1 % P))) hx hb hr (fun t ht hW => ⟨⟨_, (), rfl, rfl, ht⟩, hS.F ht⟩) hS.2.2 d_Bm_power2_9
abbrev b_Bm_times : ByteArray := prog_10_method_16_code
abbrev y_Bm_times : MethodName := ⟨"BallotBoardModel", "times", "(JJ)J"⟩
abbrev w_Bm_times : List Cond := .code y_Bm_times b_Bm_times 5 (some .long) :: gw
theorem d_Bm_times_0 : decode b_Bm_times 0 = .ok (.lload_n 1, 1) := by decide +kernel
theorem d_Bm_times_1 : decode b_Bm_times 1 = .ok (.lload_n 3, 1) := by decide +kernel
theorem d_Bm_times_2 : decode b_Bm_times 2 = .ok (.aload_n 0, 1) := by decide +kernel
theorem d_Bm_times_3 : decode b_Bm_times 3 = .ok (.getfield 164, 3) := by decide +kernel
theorem d_Bm_times_6 : decode b_Bm_times 6 = .ok (.invokestatic 156, 3) := by decide +kernel
theorem d_Bm_times_9 : decode b_Bm_times 9 = .ok (.lreturn, 1) := by decide +kernel
set_option maxHeartbeats 8000000 in
set_option maxRecDepth 100000 in
theorem c_Bm_times (l : Launch) (H0 : Heap) (dC : Nat → ClassId) (dI : Nat → Nat → Nat) (cJ cI : ClassId) (m0 : Nat) (z0 z1 z2 z3 : Int32) (z7 z8 z9 : Int64) (z10 : Int32) (a0 a1 a2 a3 a4 a5 a6 a7 a8 a9 b0 b1 oc b2 b3 b4 b5 : Nat) (P Q G : Nat) (X1 E1 : Nat) (hP : va_P (dC, dI) classes (mo_ws m0 z0 z1 z2 z3 (lN P) (lN Q) (lN G) z7 z8 z9 z10 a0 a1 a2 a3 a4 a5 a6 a7 a8 a9 b0 b1 oc b2 b3 b4 b5) H0) (hPQ : P = 2 * Q + 1) (h61F : P < 2 ^ 61) (hQ3 : 3 ≤ Q) (hX1 : X1 < P) (hE1 : E1 < P) : Met l y_Bm_times w_Bm_times ({ frames := 2, cells := 0, slots := 0, locals := 58 }) (va_Pc [.ref m0, .long (lN X1), .long (lN E1)] (fun U => U.heap = H0 ∧ va_K (dC, dI) classes [(cJ, .long), (cI, .int)] U)) (va_Ql (fun (r : Int64) (_ : Unit) => r = lN (X1 * E1 % P)) (fun _ t => t.heap = H0) (fun _ => False)) 0 0 (fun _ => False) := by
  refine Met.ofW (cc := b_Bm_times) (maxL := 5) (ret := (some .long)) (by decide) rfl ?_
  intro p e s m args below meth c s₁ Bd hml hv
  obtain ⟨rfl, hH, hK⟩ := hv
  subst hH
  have hx := Bd.exec
  have hb := Bd.bytes
  have hr := Bd.returns
  have hts := atoms_spec (ws := w_Bm_times) Bd.pre
  have hown : s.vm.findClass "BallotBoardModel" = some m.cls := findClass_of_methodNamed Bd.named
  have hlocks := Bd.notSynchronized
  have hS : va_S (fun _ => False) s.heap s.heap [] := va_S.rf
  have hl := lv_entry ([.ref m0, .long (lN X1), .long (lN E1)]) (n := 5) (Nat.le_of_ble_eq_true rfl)
  rw [lg_entry_eq]
  generalize (lg_sl ([.ref m0, .long (lN X1), .long (lN E1)]) ++ List.replicate (5 - (lg_sl ([.ref m0, .long (lN X1), .long (lN E1)])).length) Slot.unset).toArray = ls at hl ⊢
  have hl : lv_has ls 5 [(0, .ref m0), (1, .long (lN X1)), (3, .long (lN E1))] := hl
  refine lv_lload_n hx hb d_Bm_times_0 rfl (lv_at hl 1 rfl) ?_
  refine lv_lload_n hx hb d_Bm_times_1 rfl (lv_at hl 2 rfl) ?_
  refine lv_aload_n hx hb d_Bm_times_2 rfl (lv_at hl 0 rfl) ?_
  refine va_get (D := (dC, dI)) (ci := 8) (v := .long (lN P)) (C := "BallotBoardModel") (T := F_Bm) (N := 28) hx hb hts (fun w9 h9 => List.mem_cons_of_mem _ (i_Bm w9 h9)) hown hK hP 0 rfl rfl 4 (by decide) (hts _ (List.mem_cons_of_mem _ gk_923)) (fun _ h9 => h9) rfl d_Bm_times_3 ?_
  refine va_calll (va_runS (As := [.long (lN X1), .long (lN E1), .long (lN P)]) (rest := []) ⟨hx, hb, hml, hown, hts⟩ (c_Bm_product l s.heap X1 E1 P (by omega) (by omega) (by omega)) (cwS 3 hts (gw_S gk_1021 gk_1022 gk_7 gk_1023) rfl rfl rfl (by decide +kernel) ⟨Nat.le_of_ble_eq_true rfl, Nat.le_of_ble_eq_true rfl⟩) ⟨fun a U g mk q => q, fun U hU hW => ⟨rfl, hU⟩⟩ rfl rfl hl.1 rfl (lv_room (Nat.le_of_ble_eq_true rfl)) d_Bm_times_6 ⟨Nat.le_of_ble_eq_true rfl, Nat.le_of_ble_eq_true rfl⟩) hS (fun q _ h => h.elim) (fun q h => h.elim) (fun r6 u9 t9 H1 locs ht hvm hw hB hz1 hk1 hS => ?_)
  obtain rfl : s.heap = H1 := hB.symm.trans ht
  have hw : r6 = lN (X1 * E1 % P) := hw
  subst hw
  exact W.lret (v := (lN (X1 * E1 % P))) hx hb hr (fun t ht hW => ⟨⟨_, (), rfl, rfl, ht⟩, hS.F ht⟩) hS.2.2 d_Bm_times_9
abbrev b_Bm_back : ByteArray := prog_10_method_17_code
abbrev y_Bm_back : MethodName := ⟨"BallotBoardModel", "back", "(JJ)J"⟩
abbrev w_Bm_back : List Cond := .code y_Bm_back b_Bm_back 5 (some .long) :: gw
theorem d_Bm_back_0 : decode b_Bm_back 0 = .ok (.aload_n 0, 1) := by decide +kernel
theorem d_Bm_back_1 : decode b_Bm_back 1 = .ok (.lload_n 1, 1) := by decide +kernel
theorem d_Bm_back_2 : decode b_Bm_back 2 = .ok (.aload_n 0, 1) := by decide +kernel
theorem d_Bm_back_3 : decode b_Bm_back 3 = .ok (.getfield 168, 3) := by decide +kernel
theorem d_Bm_back_6 : decode b_Bm_back 6 = .ok (.lload_n 3, 1) := by decide +kernel
theorem d_Bm_back_7 : decode b_Bm_back 7 = .ok (.lsub, 1) := by decide +kernel
theorem d_Bm_back_8 : decode b_Bm_back 8 = .ok (.invokevirtual 171, 3) := by decide +kernel
theorem d_Bm_back_11 : decode b_Bm_back 11 = .ok (.lreturn, 1) := by decide +kernel
set_option maxHeartbeats 8000000 in
set_option maxRecDepth 100000 in
theorem c_Bm_back (l : Launch) (H0 : Heap) (dC : Nat → ClassId) (dI : Nat → Nat → Nat) (cJ cI : ClassId) (m0 : Nat) (z0 z1 z2 z3 : Int32) (z7 z8 z9 : Int64) (z10 : Int32) (a0 a1 a2 a3 a4 a5 a6 a7 a8 a9 b0 b1 oc b2 b3 b4 b5 : Nat) (P Q G : Nat) (X1 E1 : Nat) (hP : va_P (dC, dI) classes (mo_ws m0 z0 z1 z2 z3 (lN P) (lN Q) (lN G) z7 z8 z9 z10 a0 a1 a2 a3 a4 a5 a6 a7 a8 a9 b0 b1 oc b2 b3 b4 b5) H0) (hPQ : P = 2 * Q + 1) (h61F : P < 2 ^ 61) (hQ3 : 3 ≤ Q) (hX1 : X1 < P) (hE1 : E1 ≤ Q) : Met l y_Bm_back w_Bm_back ({ frames := 4, cells := 0, slots := 0, locals := 113 }) (va_Pc [.ref m0, .long (lN X1), .long (lN E1)] (fun U => U.heap = H0 ∧ va_K (dC, dI) classes [(cJ, .long), (cI, .int)] U)) (va_Ql (fun (r : Int64) (_ : Unit) => r = lN (X1 ^ (Q - E1) % P)) (fun _ t => t.heap = H0) (fun _ => False)) 0 0 (fun _ => False) := by
  refine Met.ofW (cc := b_Bm_back) (maxL := 5) (ret := (some .long)) (by decide) rfl ?_
  intro p e s m args below meth c s₁ Bd hml hv
  obtain ⟨rfl, hH, hK⟩ := hv
  subst hH
  have hx := Bd.exec
  have hb := Bd.bytes
  have hr := Bd.returns
  have hts := atoms_spec (ws := w_Bm_back) Bd.pre
  have hown : s.vm.findClass "BallotBoardModel" = some m.cls := findClass_of_methodNamed Bd.named
  have hlocks := Bd.notSynchronized
  have hS : va_S (fun _ => False) s.heap s.heap [] := va_S.rf
  have hl := lv_entry ([.ref m0, .long (lN X1), .long (lN E1)]) (n := 5) (Nat.le_of_ble_eq_true rfl)
  rw [lg_entry_eq]
  generalize (lg_sl ([.ref m0, .long (lN X1), .long (lN E1)]) ++ List.replicate (5 - (lg_sl ([.ref m0, .long (lN X1), .long (lN E1)])).length) Slot.unset).toArray = ls at hl ⊢
  have hl : lv_has ls 5 [(0, .ref m0), (1, .long (lN X1)), (3, .long (lN E1))] := hl
  refine lv_aload_n hx hb d_Bm_back_0 rfl (lv_at hl 0 rfl) ?_
  refine lv_lload_n hx hb d_Bm_back_1 rfl (lv_at hl 1 rfl) ?_
  refine lv_aload_n hx hb d_Bm_back_2 rfl (lv_at hl 0 rfl) ?_
  refine va_get (D := (dC, dI)) (ci := 8) (v := .long (lN Q)) (C := "BallotBoardModel") (T := F_Bm) (N := 28) hx hb hts (fun w9 h9 => List.mem_cons_of_mem _ (i_Bm w9 h9)) hown hK hP 0 rfl rfl 5 (by decide) (hts _ (List.mem_cons_of_mem _ gk_924)) (fun _ h9 => h9) rfl d_Bm_back_3 ?_
  refine lv_lload_n hx hb d_Bm_back_6 rfl (lv_at hl 2 rfl) ?_
  refine lv_lsub hx hb d_Bm_back_7 ?_
  rw [show ((lN Q) - (lN E1) : Int64) = (lN (Q - E1)) from lN_sub hE1]
  have hPc := hP.sub (ws' := (mo_ws m0 z0 z1 z2 z3 (lN P) (lN Q) (lN G) z7 z8 z9 z10 a0 a1 a2 a3 a4 a5 a6 a7 a8 a9 b0 b1 oc b2 b3 b4 b5)) [0] rfl
  have hKc := hK.sub (tys' := [(cJ, .long), (cI, .int)]) [0, 1] rfl
  refine va_calll (va_runV (As := [.long (lN X1), .long (lN (Q - E1))]) (rest := []) ⟨hx, hb, hml, hown, hts⟩ (c_Bm_power2 l s.heap dC dI cJ cI m0 z0 z1 z2 z3 z7 z8 z9 z10 a0 a1 a2 a3 a4 a5 a6 a7 a8 a9 b0 b1 oc b2 b3 b4 b5 P Q G X1 (Q - E1) hPc hPQ h61F hQ3 (by omega) (by omega)) (cwV 2 hts (gw_V gk_1050 gk_1052 gp_31 gk_7 gk_1053) rfl rfl rfl (by decide +kernel) ⟨Nat.le_of_ble_eq_true rfl, Nat.le_of_ble_eq_true rfl⟩) ⟨fun a U g mk q => ⟨q.1, q.2.1, va_K.moved (u := U) (U := U.calling g mk a) (Vm.Alike.refl U.vm) q.2.2⟩, va_recv hK hP (ci := 8) (q0 := 0) rfl rfl, fun U hU hW => ⟨rfl, hU, va_K.moved hW.alike hKc⟩⟩ rfl rfl hl.1 rfl (lv_room (Nat.le_of_ble_eq_true rfl)) d_Bm_back_8 ⟨Nat.le_of_ble_eq_true rfl, Nat.le_of_ble_eq_true rfl⟩) hS (fun q _ h => h.elim) (fun q h => h.elim) (fun r8 u9 t9 H1 locs ht hvm hw hB hz1 hk1 hS => ?_)
  obtain rfl : s.heap = H1 := hB.symm.trans ht
  have hw : r8 = lN (X1 ^ (Q - E1) % P) := hw
  subst hw
  exact W.lret (v := (lN (X1 ^ (Q - E1) % P))) hx hb hr (fun t ht hW => ⟨⟨_, (), rfl, rfl, ht⟩, hS.F ht⟩) hS.2.2 d_Bm_back_11
abbrev b_Bm_over : ByteArray := prog_10_method_18_code
abbrev y_Bm_over : MethodName := ⟨"BallotBoardModel", "over", "(JJ)J"⟩
abbrev w_Bm_over : List Cond := .code y_Bm_over b_Bm_over 5 (some .long) :: gw
theorem d_Bm_over_0 : decode b_Bm_over 0 = .ok (.aload_n 0, 1) := by decide +kernel
theorem d_Bm_over_1 : decode b_Bm_over 1 = .ok (.lload_n 1, 1) := by decide +kernel
theorem d_Bm_over_2 : decode b_Bm_over 2 = .ok (.aload_n 0, 1) := by decide +kernel
theorem d_Bm_over_3 : decode b_Bm_over 3 = .ok (.lload_n 3, 1) := by decide +kernel
theorem d_Bm_over_4 : decode b_Bm_over 4 = .ok (.lconst 1, 1) := by decide +kernel
theorem d_Bm_over_5 : decode b_Bm_over 5 = .ok (.invokevirtual 174, 3) := by decide +kernel
theorem d_Bm_over_8 : decode b_Bm_over 8 = .ok (.invokevirtual 177, 3) := by decide +kernel
theorem d_Bm_over_11 : decode b_Bm_over 11 = .ok (.lreturn, 1) := by decide +kernel
set_option maxHeartbeats 8000000 in
set_option maxRecDepth 100000 in
theorem c_Bm_over (l : Launch) (H0 : Heap) (dC : Nat → ClassId) (dI : Nat → Nat → Nat) (cJ cI : ClassId) (m0 : Nat) (z0 z1 z2 z3 : Int32) (z7 z8 z9 : Int64) (z10 : Int32) (a0 a1 a2 a3 a4 a5 a6 a7 a8 a9 b0 b1 oc b2 b3 b4 b5 : Nat) (P Q G : Nat) (X1 E1 : Nat) (hP : va_P (dC, dI) classes (mo_ws m0 z0 z1 z2 z3 (lN P) (lN Q) (lN G) z7 z8 z9 z10 a0 a1 a2 a3 a4 a5 a6 a7 a8 a9 b0 b1 oc b2 b3 b4 b5) H0) (hPQ : P = 2 * Q + 1) (h61F : P < 2 ^ 61) (hQ3 : 3 ≤ Q) (hX1 : X1 < P) (hE1 : E1 < P) : Met l y_Bm_over w_Bm_over ({ frames := 5, cells := 0, slots := 0, locals := 137 }) (va_Pc [.ref m0, .long (lN X1), .long (lN E1)] (fun U => U.heap = H0 ∧ va_K (dC, dI) classes [(cJ, .long), (cI, .int)] U)) (va_Ql (fun (r : Int64) (_ : Unit) => r = lN (X1 * (E1 ^ (Q - 1) % P) % P)) (fun _ t => t.heap = H0) (fun _ => False)) 0 0 (fun _ => False) := by
  refine Met.ofW (cc := b_Bm_over) (maxL := 5) (ret := (some .long)) (by decide) rfl ?_
  intro p e s m args below meth c s₁ Bd hml hv
  obtain ⟨rfl, hH, hK⟩ := hv
  subst hH
  have hx := Bd.exec
  have hb := Bd.bytes
  have hr := Bd.returns
  have hts := atoms_spec (ws := w_Bm_over) Bd.pre
  have hown : s.vm.findClass "BallotBoardModel" = some m.cls := findClass_of_methodNamed Bd.named
  have hlocks := Bd.notSynchronized
  have hS : va_S (fun _ => False) s.heap s.heap [] := va_S.rf
  have hl := lv_entry ([.ref m0, .long (lN X1), .long (lN E1)]) (n := 5) (Nat.le_of_ble_eq_true rfl)
  rw [lg_entry_eq]
  generalize (lg_sl ([.ref m0, .long (lN X1), .long (lN E1)]) ++ List.replicate (5 - (lg_sl ([.ref m0, .long (lN X1), .long (lN E1)])).length) Slot.unset).toArray = ls at hl ⊢
  have hl : lv_has ls 5 [(0, .ref m0), (1, .long (lN X1)), (3, .long (lN E1))] := hl
  refine lv_aload_n hx hb d_Bm_over_0 rfl (lv_at hl 0 rfl) ?_
  refine lv_lload_n hx hb d_Bm_over_1 rfl (lv_at hl 1 rfl) ?_
  refine lv_aload_n hx hb d_Bm_over_2 rfl (lv_at hl 0 rfl) ?_
  refine lv_lload_n hx hb d_Bm_over_3 rfl (lv_at hl 2 rfl) ?_
  refine lv_lconst (v := 1) hx hb d_Bm_over_4 (by decide) ?_
  rw [show (1 : Int64) = (lN 1) from rfl]
  have hPc := hP.sub (ws' := (mo_ws m0 z0 z1 z2 z3 (lN P) (lN Q) (lN G) z7 z8 z9 z10 a0 a1 a2 a3 a4 a5 a6 a7 a8 a9 b0 b1 oc b2 b3 b4 b5)) [0] rfl
  have hKc := hK.sub (tys' := [(cJ, .long), (cI, .int)]) [0, 1] rfl
  refine va_calll (va_runV (As := [.long (lN E1), .long (lN 1)]) (rest := [.long (lN X1), .ref m0]) ⟨hx, hb, hml, hown, hts⟩ (c_Bm_back l s.heap dC dI cJ cI m0 z0 z1 z2 z3 z7 z8 z9 z10 a0 a1 a2 a3 a4 a5 a6 a7 a8 a9 b0 b1 oc b2 b3 b4 b5 P Q G E1 1 hPc hPQ h61F hQ3 (by omega) (by omega)) (cwV 2 hts (gw_V gk_1054 gk_1056 gp_32 gk_7 gk_1057) rfl rfl rfl (by decide +kernel) ⟨Nat.le_of_ble_eq_true rfl, Nat.le_of_ble_eq_true rfl⟩) ⟨fun a U g mk q => ⟨q.1, q.2.1, va_K.moved (u := U) (U := U.calling g mk a) (Vm.Alike.refl U.vm) q.2.2⟩, va_recv hK hP (ci := 8) (q0 := 0) rfl rfl, fun U hU hW => ⟨rfl, hU, va_K.moved hW.alike hKc⟩⟩ rfl rfl hl.1 rfl (lv_room (Nat.le_of_ble_eq_true rfl)) d_Bm_over_5 ⟨Nat.le_of_ble_eq_true rfl, Nat.le_of_ble_eq_true rfl⟩) hS (fun q _ h => h.elim) (fun q h => h.elim) (fun r5 u9 t9 H1 locs ht hvm hw hB hz1 hk1 hS => ?_)
  obtain rfl : s.heap = H1 := hB.symm.trans ht
  have hw : r5 = lN (E1 ^ (Q - 1) % P) := hw
  subst hw
  have hPc := hP.sub (ws' := (mo_ws m0 z0 z1 z2 z3 (lN P) (lN Q) (lN G) z7 z8 z9 z10 a0 a1 a2 a3 a4 a5 a6 a7 a8 a9 b0 b1 oc b2 b3 b4 b5)) [0] rfl
  have hKc := hK.sub (tys' := [(cJ, .long), (cI, .int)]) [0, 1] rfl
  refine va_calll (va_runV (As := [.long (lN X1), .long (lN (E1 ^ (Q - 1) % P))]) (rest := []) ⟨hx, hb, hml, hown, hts⟩ (c_Bm_times l s.heap dC dI cJ cI m0 z0 z1 z2 z3 z7 z8 z9 z10 a0 a1 a2 a3 a4 a5 a6 a7 a8 a9 b0 b1 oc b2 b3 b4 b5 P Q G X1 (E1 ^ (Q - 1) % P) hPc hPQ h61F hQ3 hX1 (Nat.mod_lt _ (by omega))) (cwV 2 hts (gw_V gk_1058 gk_1060 gp_33 gk_7 gk_1061) rfl rfl rfl (by decide +kernel) ⟨Nat.le_of_ble_eq_true rfl, Nat.le_of_ble_eq_true rfl⟩) ⟨fun a U g mk q => ⟨q.1, q.2.1, va_K.moved (u := U) (U := U.calling g mk a) (Vm.Alike.refl U.vm) q.2.2⟩, va_recv hK hP (ci := 8) (q0 := 0) rfl rfl, fun U hU hW => ⟨rfl, hU, va_K.moved hW.alike hKc⟩⟩ rfl rfl hl.1 rfl (lv_room (Nat.le_of_ble_eq_true rfl)) d_Bm_over_8 ⟨Nat.le_of_ble_eq_true rfl, Nat.le_of_ble_eq_true rfl⟩) hS (fun q _ h => h.elim) (fun q h => h.elim) (fun r8 u9 t9 H1 locs ht hvm hw hB hz1 hk1 hS => ?_)
  obtain rfl : s.heap = H1 := hB.symm.trans ht
  have hw : r8 = lN (X1 * (E1 ^ (Q - 1) % P) % P) := hw
  subst hw
  exact W.lret (v := (lN (X1 * (E1 ^ (Q - 1) % P) % P))) hx hb hr (fun t ht hW => ⟨⟨_, (), rfl, rfl, ht⟩, hS.F ht⟩) hS.2.2 d_Bm_over_11
