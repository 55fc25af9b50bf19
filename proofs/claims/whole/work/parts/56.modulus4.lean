abbrev b_Mo_leftOf : ByteArray := prog_6_method_8_code
abbrev y_Mo_leftOf : MethodName := ⟨"BallotBoard$Modulus", "leftOf", "(J)J"⟩
abbrev w_Mo_leftOf : List Cond := .code y_Mo_leftOf b_Mo_leftOf 5 (some .long) :: gw
theorem d_Mo_leftOf_0 : decode b_Mo_leftOf 0 = .ok (.lload_n 1, 1) := by decide +kernel
theorem d_Mo_leftOf_1 : decode b_Mo_leftOf 1 = .ok (.iconst 1, 1) := by decide +kernel
theorem d_Mo_leftOf_2 : decode b_Mo_leftOf 2 = .ok (.lushr, 1) := by decide +kernel
theorem d_Mo_leftOf_3 : decode b_Mo_leftOf 3 = .ok (.aload_n 0, 1) := by decide +kernel
theorem d_Mo_leftOf_4 : decode b_Mo_leftOf 4 = .ok (.getfield 9, 3) := by decide +kernel
theorem d_Mo_leftOf_7 : decode b_Mo_leftOf 7 = .ok (.lrem, 1) := by decide +kernel
theorem d_Mo_leftOf_8 : decode b_Mo_leftOf 8 = .ok (.lstore_n 3, 1) := by decide +kernel
theorem d_Mo_leftOf_9 : decode b_Mo_leftOf 9 = .ok (.ldc2_w 50, 3) := by decide +kernel
theorem d_Mo_leftOf_12 : decode b_Mo_leftOf 12 = .ok (.lload_n 3, 1) := by decide +kernel
theorem d_Mo_leftOf_13 : decode b_Mo_leftOf 13 = .ok (.lmul, 1) := by decide +kernel
theorem d_Mo_leftOf_14 : decode b_Mo_leftOf 14 = .ok (.lload_n 1, 1) := by decide +kernel
theorem d_Mo_leftOf_15 : decode b_Mo_leftOf 15 = .ok (.lconst 1, 1) := by decide +kernel
theorem d_Mo_leftOf_16 : decode b_Mo_leftOf 16 = .ok (.land, 1) := by decide +kernel
theorem d_Mo_leftOf_17 : decode b_Mo_leftOf 17 = .ok (.ladd, 1) := by decide +kernel
theorem d_Mo_leftOf_18 : decode b_Mo_leftOf 18 = .ok (.aload_n 0, 1) := by decide +kernel
theorem d_Mo_leftOf_19 : decode b_Mo_leftOf 19 = .ok (.getfield 9, 3) := by decide +kernel
theorem d_Mo_leftOf_22 : decode b_Mo_leftOf 22 = .ok (.lrem, 1) := by decide +kernel
theorem d_Mo_leftOf_23 : decode b_Mo_leftOf 23 = .ok (.lreturn, 1) := by decide +kernel
set_option maxHeartbeats 4000000 in
set_option maxRecDepth 100000 in
theorem c_Mo_leftOf (l : Launch) (H0 : Heap) (dC : Nat → ClassId) (dI : Nat → Nat → Nat) (h0 : Nat) (N f k : Nat) (U : Nat) (hP : va_P (dC, dI) classes [(h0, .inr (0, md_fs N f k))] H0) (hok : md_ok N f k) (hU : U < 2 ^ 64) : Met l y_Mo_leftOf w_Mo_leftOf ({ frames := 0, cells := 0, slots := 0, locals := 0 }) (va_Pc [.ref h0, .long (lN U)] (fun U => U.heap = H0 ∧ va_K (dC, dI) classes [] U)) (va_Ql (fun (r : Int64) (_ : Unit) => r = lN (U % N)) (fun _ t => t.heap = H0) (fun _ => False)) 0 0 (fun _ => False) := by
  refine Met.ofW (cc := b_Mo_leftOf) (maxL := 5) (ret := (some .long)) (by decide) rfl ?_
  intro p e s m args below meth c s₁ Bd hml hv
  obtain ⟨rfl, hH, hK⟩ := hv
  subst hH
  have hx := Bd.exec
  have hb := Bd.bytes
  have hr := Bd.returns
  have hts := atoms_spec (ws := w_Mo_leftOf) Bd.pre
  have hown : s.vm.findClass "BallotBoard$Modulus" = some m.cls := findClass_of_methodNamed Bd.named
  have hlocks := Bd.notSynchronized
  have hS : va_S (fun _ => False) s.heap s.heap [] := va_S.rf
  have hl := lv_entry ([.ref h0, .long (lN U)]) (n := 5) (Nat.le_of_ble_eq_true rfl)
  rw [lg_entry_eq]
  generalize (lg_sl ([.ref h0, .long (lN U)]) ++ List.replicate (5 - (lg_sl ([.ref h0, .long (lN U)])).length) Slot.unset).toArray = ls at hl ⊢
  have hl : lv_has ls 5 [(0, .ref h0), (1, .long (lN U))] := hl
  have hK0 : va_K (dC, dI) classes [] s := hK
  obtain ⟨ho, h3, h61, hf31, hfN, hk61, hNk⟩ := id hok
  refine lv_lload_n hx hb d_Mo_leftOf_0 rfl (lv_at hl 1 rfl) ?_
  refine lv_iconst (v := 1) hx hb d_Mo_leftOf_1 (by decide) ?_
  refine lv_lushr (v := ((lN U).toUInt64 >>> ((1 : Int32).toInt64.toUInt64 &&& Int64.toUInt64 63)).toInt64) hx hb d_Mo_leftOf_2 rfl ?_
  rw [show (((lN U).toUInt64 >>> ((1 : Int32).toInt64.toUInt64 &&& Int64.toUInt64 63)).toInt64 : Int64) = (lN (U / 2)) from sh1 hU]
  refine lv_aload_n hx hb d_Mo_leftOf_3 rfl (lv_at hl 0 rfl) ?_
  refine va_get (D := (dC, dI)) (ci := 0) (v := .long (lN N)) (C := "BallotBoard$Modulus") (T := F_Mo) (N := 7) hx hb hts (fun w9 h9 => List.mem_cons_of_mem _ (i_Mo w9 h9)) hown hK hP 0 rfl rfl 0 (by decide) (hts _ (List.mem_cons_of_mem _ gk_207)) (fun _ h9 => h9) rfl d_Mo_leftOf_4 ?_
  refine lv_lrem hx hb d_Mo_leftOf_7 (ln_ne0 (by omega) (by omega)) ?_
  rw [show ((lN (U / 2)) - (lN (U / 2)) / (lN N) * (lN N) : Int64) = (lN (U / 2 % N)) from pk_lRem (by omega) (by omega) (by omega)]
  refine lv_lstore_n (lv' := [(3, .long (lN (U / 2 % N))), (0, .ref h0), (1, .long (lN U))]) hx hb d_Mo_leftOf_8 rfl hl (by decide) rfl (fun ls hl => ?_)
  refine lv_ldc2 (v := 2) hx hb hown (hts _ (List.mem_cons_of_mem _ gk_200)) d_Mo_leftOf_9 ?_
  refine lv_lload_n hx hb d_Mo_leftOf_12 rfl (lv_at hl 0 rfl) ?_
  refine lv_lmul hx hb d_Mo_leftOf_13 ?_
  rw [show (2 * (lN (U / 2 % N)) : Int64) = (lN (2 * (U / 2 % N))) from ld2 _]
  refine lv_lload_n hx hb d_Mo_leftOf_14 rfl (lv_at hl 2 rfl) ?_
  refine lv_lconst (v := 1) hx hb d_Mo_leftOf_15 (by decide) ?_
  refine lv_land hx hb d_Mo_leftOf_16 ?_
  rw [show ((lN U) &&& 1 : Int64) = (lN (U % 2)) from wb_a1 hU]
  refine lv_ladd hx hb d_Mo_leftOf_17 ?_
  rw [show ((lN (2 * (U / 2 % N))) + (lN (U % 2)) : Int64) = (lN (2 * (U / 2 % N) + U % 2)) from lN_add _ _]
  refine lv_aload_n hx hb d_Mo_leftOf_18 rfl (lv_at hl 1 rfl) ?_
  refine va_get (D := (dC, dI)) (ci := 0) (v := .long (lN N)) (C := "BallotBoard$Modulus") (T := F_Mo) (N := 7) hx hb hts (fun w9 h9 => List.mem_cons_of_mem _ (i_Mo w9 h9)) hown hK hP 0 rfl rfl 0 (by decide) (hts _ (List.mem_cons_of_mem _ gk_207)) (fun _ h9 => h9) rfl d_Mo_leftOf_19 ?_
  refine lv_lrem hx hb d_Mo_leftOf_22 (ln_ne0 (by omega) (by omega)) ?_
  rw [show ((lN (2 * (U / 2 % N) + U % 2)) - (lN (2 * (U / 2 % N) + U % 2)) / (lN N) * (lN N) : Int64) = (lN (U % N)) from by rw [pk_lRem (by
      have := Nat.mod_lt (U / 2) (by omega : 0 < N)
      omega) (by omega) (by omega), left_mod]]
  exact W.lret (v := (lN (U % N))) hx hb hr (fun t ht hW => ⟨⟨_, (), rfl, rfl, ht⟩, hS.F ht⟩) hS.2.2 d_Mo_leftOf_23
abbrev b_Mo_powers : ByteArray := prog_6_method_7_code
abbrev y_Mo_powers : MethodName := ⟨"BallotBoard$Modulus", "powers", "(JJJJ)J"⟩
abbrev w_Mo_powers : List Cond := .code y_Mo_powers b_Mo_powers 20 (some .long) :: gw
theorem d_Mo_powers_0 : decode b_Mo_powers 0 = .ok (.aload_n 0, 1) := by decide +kernel
theorem d_Mo_powers_1 : decode b_Mo_powers 1 = .ok (.lload_n 1, 1) := by decide +kernel
theorem d_Mo_powers_2 : decode b_Mo_powers 2 = .ok (.aload_n 0, 1) := by decide +kernel
theorem d_Mo_powers_3 : decode b_Mo_powers 3 = .ok (.getfield 35, 3) := by decide +kernel
theorem d_Mo_powers_6 : decode b_Mo_powers 6 = .ok (.invokevirtual 46, 3) := by decide +kernel
theorem d_Mo_powers_9 : decode b_Mo_powers 9 = .ok (.lstore 9, 2) := by decide +kernel
theorem d_Mo_powers_11 : decode b_Mo_powers 11 = .ok (.aload_n 0, 1) := by decide +kernel
theorem d_Mo_powers_12 : decode b_Mo_powers 12 = .ok (.lload 5, 2) := by decide +kernel
theorem d_Mo_powers_14 : decode b_Mo_powers 14 = .ok (.aload_n 0, 1) := by decide +kernel
theorem d_Mo_powers_15 : decode b_Mo_powers 15 = .ok (.getfield 35, 3) := by decide +kernel
theorem d_Mo_powers_18 : decode b_Mo_powers 18 = .ok (.invokevirtual 46, 3) := by decide +kernel
theorem d_Mo_powers_21 : decode b_Mo_powers 21 = .ok (.lstore 11, 2) := by decide +kernel
theorem d_Mo_powers_23 : decode b_Mo_powers 23 = .ok (.aload_n 0, 1) := by decide +kernel
theorem d_Mo_powers_24 : decode b_Mo_powers 24 = .ok (.lload 9, 2) := by decide +kernel
theorem d_Mo_powers_26 : decode b_Mo_powers 26 = .ok (.lload 11, 2) := by decide +kernel
theorem d_Mo_powers_28 : decode b_Mo_powers 28 = .ok (.invokevirtual 46, 3) := by decide +kernel
theorem d_Mo_powers_31 : decode b_Mo_powers 31 = .ok (.lstore 13, 2) := by decide +kernel
theorem d_Mo_powers_33 : decode b_Mo_powers 33 = .ok (.aload_n 0, 1) := by decide +kernel
theorem d_Mo_powers_34 : decode b_Mo_powers 34 = .ok (.getfield 32, 3) := by decide +kernel
theorem d_Mo_powers_37 : decode b_Mo_powers 37 = .ok (.lstore 15, 2) := by decide +kernel
theorem d_Mo_powers_39 : decode b_Mo_powers 39 = .ok (.aload_n 0, 1) := by decide +kernel
theorem d_Mo_powers_40 : decode b_Mo_powers 40 = .ok (.getfield 42, 3) := by decide +kernel
theorem d_Mo_powers_43 : decode b_Mo_powers 43 = .ok (.iconst 1, 1) := by decide +kernel
theorem d_Mo_powers_44 : decode b_Mo_powers 44 = .ok (.isub, 1) := by decide +kernel
theorem d_Mo_powers_45 : decode b_Mo_powers 45 = .ok (.istore 17, 2) := by decide +kernel
theorem d_Mo_powers_47 : decode b_Mo_powers 47 = .ok (.iload 17, 2) := by decide +kernel
theorem d_Mo_powers_49 : decode b_Mo_powers 49 = .ok (.ifCond .lt 112, 3) := by decide +kernel
theorem d_Mo_powers_52 : decode b_Mo_powers 52 = .ok (.aload_n 0, 1) := by decide +kernel
theorem d_Mo_powers_53 : decode b_Mo_powers 53 = .ok (.lload 15, 2) := by decide +kernel
theorem d_Mo_powers_55 : decode b_Mo_powers 55 = .ok (.lload 15, 2) := by decide +kernel
theorem d_Mo_powers_57 : decode b_Mo_powers 57 = .ok (.invokevirtual 46, 3) := by decide +kernel
theorem d_Mo_powers_60 : decode b_Mo_powers 60 = .ok (.lstore 15, 2) := by decide +kernel
theorem d_Mo_powers_62 : decode b_Mo_powers 62 = .ok (.lload_n 3, 1) := by decide +kernel
theorem d_Mo_powers_63 : decode b_Mo_powers 63 = .ok (.iload 17, 2) := by decide +kernel
theorem d_Mo_powers_65 : decode b_Mo_powers 65 = .ok (.lushr, 1) := by decide +kernel
theorem d_Mo_powers_66 : decode b_Mo_powers 66 = .ok (.lconst 1, 1) := by decide +kernel
theorem d_Mo_powers_67 : decode b_Mo_powers 67 = .ok (.land, 1) := by decide +kernel
theorem d_Mo_powers_68 : decode b_Mo_powers 68 = .ok (.lconst 1, 1) := by decide +kernel
theorem d_Mo_powers_69 : decode b_Mo_powers 69 = .ok (.lcmp, 1) := by decide +kernel
theorem d_Mo_powers_70 : decode b_Mo_powers 70 = .ok (.ifCond .ne 7, 3) := by decide +kernel
theorem d_Mo_powers_73 : decode b_Mo_powers 73 = .ok (.iconst 1, 1) := by decide +kernel
theorem d_Mo_powers_74 : decode b_Mo_powers 74 = .ok (.goto 4, 3) := by decide +kernel
theorem d_Mo_powers_77 : decode b_Mo_powers 77 = .ok (.iconst 0, 1) := by decide +kernel
theorem d_Mo_powers_78 : decode b_Mo_powers 78 = .ok (.istore 18, 2) := by decide +kernel
theorem d_Mo_powers_80 : decode b_Mo_powers 80 = .ok (.lload 7, 2) := by decide +kernel
theorem d_Mo_powers_82 : decode b_Mo_powers 82 = .ok (.iload 17, 2) := by decide +kernel
theorem d_Mo_powers_84 : decode b_Mo_powers 84 = .ok (.lushr, 1) := by decide +kernel
theorem d_Mo_powers_85 : decode b_Mo_powers 85 = .ok (.lconst 1, 1) := by decide +kernel
theorem d_Mo_powers_86 : decode b_Mo_powers 86 = .ok (.land, 1) := by decide +kernel
theorem d_Mo_powers_87 : decode b_Mo_powers 87 = .ok (.lconst 1, 1) := by decide +kernel
theorem d_Mo_powers_88 : decode b_Mo_powers 88 = .ok (.lcmp, 1) := by decide +kernel
theorem d_Mo_powers_89 : decode b_Mo_powers 89 = .ok (.ifCond .ne 7, 3) := by decide +kernel
theorem d_Mo_powers_92 : decode b_Mo_powers 92 = .ok (.iconst 1, 1) := by decide +kernel
theorem d_Mo_powers_93 : decode b_Mo_powers 93 = .ok (.goto 4, 3) := by decide +kernel
theorem d_Mo_powers_96 : decode b_Mo_powers 96 = .ok (.iconst 0, 1) := by decide +kernel
theorem d_Mo_powers_97 : decode b_Mo_powers 97 = .ok (.istore 19, 2) := by decide +kernel
theorem d_Mo_powers_99 : decode b_Mo_powers 99 = .ok (.iload 18, 2) := by decide +kernel
theorem d_Mo_powers_101 : decode b_Mo_powers 101 = .ok (.ifCond .eq 21, 3) := by decide +kernel
theorem d_Mo_powers_104 : decode b_Mo_powers 104 = .ok (.iload 19, 2) := by decide +kernel
theorem d_Mo_powers_106 : decode b_Mo_powers 106 = .ok (.ifCond .eq 16, 3) := by decide +kernel
theorem d_Mo_powers_109 : decode b_Mo_powers 109 = .ok (.aload_n 0, 1) := by decide +kernel
theorem d_Mo_powers_110 : decode b_Mo_powers 110 = .ok (.lload 15, 2) := by decide +kernel
theorem d_Mo_powers_112 : decode b_Mo_powers 112 = .ok (.lload 13, 2) := by decide +kernel
theorem d_Mo_powers_114 : decode b_Mo_powers 114 = .ok (.invokevirtual 46, 3) := by decide +kernel
theorem d_Mo_powers_117 : decode b_Mo_powers 117 = .ok (.lstore 15, 2) := by decide +kernel
theorem d_Mo_powers_119 : decode b_Mo_powers 119 = .ok (.goto 36, 3) := by decide +kernel
theorem d_Mo_powers_122 : decode b_Mo_powers 122 = .ok (.iload 18, 2) := by decide +kernel
theorem d_Mo_powers_124 : decode b_Mo_powers 124 = .ok (.ifCond .eq 16, 3) := by decide +kernel
theorem d_Mo_powers_127 : decode b_Mo_powers 127 = .ok (.aload_n 0, 1) := by decide +kernel
theorem d_Mo_powers_128 : decode b_Mo_powers 128 = .ok (.lload 15, 2) := by decide +kernel
theorem d_Mo_powers_130 : decode b_Mo_powers 130 = .ok (.lload 9, 2) := by decide +kernel
theorem d_Mo_powers_132 : decode b_Mo_powers 132 = .ok (.invokevirtual 46, 3) := by decide +kernel
theorem d_Mo_powers_135 : decode b_Mo_powers 135 = .ok (.lstore 15, 2) := by decide +kernel
theorem d_Mo_powers_137 : decode b_Mo_powers 137 = .ok (.goto 18, 3) := by decide +kernel
theorem d_Mo_powers_140 : decode b_Mo_powers 140 = .ok (.iload 19, 2) := by decide +kernel
theorem d_Mo_powers_142 : decode b_Mo_powers 142 = .ok (.ifCond .eq 13, 3) := by decide +kernel
theorem d_Mo_powers_145 : decode b_Mo_powers 145 = .ok (.aload_n 0, 1) := by decide +kernel
theorem d_Mo_powers_146 : decode b_Mo_powers 146 = .ok (.lload 15, 2) := by decide +kernel
theorem d_Mo_powers_148 : decode b_Mo_powers 148 = .ok (.lload 11, 2) := by decide +kernel
theorem d_Mo_powers_150 : decode b_Mo_powers 150 = .ok (.invokevirtual 46, 3) := by decide +kernel
theorem d_Mo_powers_153 : decode b_Mo_powers 153 = .ok (.lstore 15, 2) := by decide +kernel
theorem d_Mo_powers_155 : decode b_Mo_powers 155 = .ok (.iinc 17 (-1), 3) := by decide +kernel
theorem d_Mo_powers_158 : decode b_Mo_powers 158 = .ok (.goto (-111), 3) := by decide +kernel
theorem d_Mo_powers_161 : decode b_Mo_powers 161 = .ok (.aload_n 0, 1) := by decide +kernel
theorem d_Mo_powers_162 : decode b_Mo_powers 162 = .ok (.lload 15, 2) := by decide +kernel
theorem d_Mo_powers_164 : decode b_Mo_powers 164 = .ok (.lconst 1, 1) := by decide +kernel
theorem d_Mo_powers_165 : decode b_Mo_powers 165 = .ok (.invokevirtual 46, 3) := by decide +kernel
theorem d_Mo_powers_168 : decode b_Mo_powers 168 = .ok (.lreturn, 1) := by decide +kernel
set_option maxHeartbeats 4000000 in
set_option maxRecDepth 100000 in
theorem c_Mo_powers (l : Launch) (H0 : Heap) (dC : Nat → ClassId) (dI : Nat → Nat → Nat) (h0 : Nat) (N f k : Nat) (X E Y F : Nat) (hP : va_P (dC, dI) classes [(h0, .inr (0, md_fs N f k))] H0) (hok : md_ok N f k) (hX : X < N) (hE : E < 2 ^ k) (hY : Y < N) (hF : F < 2 ^ k) : Met l y_Mo_powers w_Mo_powers ({ frames := 1, cells := 0, slots := 0, locals := 36 }) (va_Pc [.ref h0, .long (lN X), .long (lN E), .long (lN Y), .long (lN F)] (fun U => U.heap = H0 ∧ va_K (dC, dI) classes [] U)) (va_Ql (fun (r : Int64) (_ : Unit) => r = lN (X ^ E * Y ^ F % N)) (fun _ t => t.heap = H0) (fun _ => False)) 0 0 (fun _ => False) := by
  refine Met.ofW (cc := b_Mo_powers) (maxL := 20) (ret := (some .long)) (by decide) rfl ?_
  intro p e s m args below meth c s₁ Bd hml hv
  obtain ⟨rfl, hH, hK⟩ := hv
  subst hH
  have hx := Bd.exec
  have hb := Bd.bytes
  have hr := Bd.returns
  have hts := atoms_spec (ws := w_Mo_powers) Bd.pre
  have hown : s.vm.findClass "BallotBoard$Modulus" = some m.cls := findClass_of_methodNamed Bd.named
  have hlocks := Bd.notSynchronized
  have hS : va_S (fun _ => False) s.heap s.heap [] := va_S.rf
  have hl := lv_entry ([.ref h0, .long (lN X), .long (lN E), .long (lN Y), .long (lN F)]) (n := 20) (Nat.le_of_ble_eq_true rfl)
  rw [lg_entry_eq]
  generalize (lg_sl ([.ref h0, .long (lN X), .long (lN E), .long (lN Y), .long (lN F)]) ++ List.replicate (20 - (lg_sl ([.ref h0, .long (lN X), .long (lN E), .long (lN Y), .long (lN F)])).length) Slot.unset).toArray = ls at hl ⊢
  have hl : lv_has ls 20 [(0, .ref h0), (1, .long (lN X)), (3, .long (lN E)), (5, .long (lN Y)), (7, .long (lN F))] := hl
  have hK0 : va_K (dC, dI) classes [] s := hK
  obtain ⟨ho, h3, h61, hf31, hfN, hk61, hNk⟩ := id hok
  have hE64 : E < 2 ^ 64 := Nat.lt_of_lt_of_le hE (Nat.pow_le_pow_right (by omega) (by omega))
  have hF64 : F < 2 ^ 64 := Nat.lt_of_lt_of_le hF (Nat.pow_le_pow_right (by omega) (by omega))
  have loop : ∀ (j : Nat), j ≤ k → ∀ (locs : List Loc), va_S (fun _ => False) s.heap s.heap locs → ∀ (ls : Array Slot), lv_has ls 20 [(0, .ref h0), (1, .long (lN X)), (3, .long (lN E)), (5, .long (lN Y)), (7, .long (lN F)), (9, .long (lN (X * 2 ^ 62 % N))), (11, .long (lN (Y * 2 ^ 62 % N))), (13, .long (lN (X * Y * 2 ^ 62 % N))), (15, .long (lN (X ^ (E / 2 ^ j) * Y ^ (F / 2 ^ j) * 2 ^ 62 % N))), (17, .int (nI j - 1))] → W p l e ({ frames := 1, cells := 0, slots := 0, locals := 36 } : Room) s m ([.ref h0, .long (lN X), .long (lN E), .long (lN Y), .long (lN F)] : List Value).toArray below meth c s.heap locs 0 0 (MQ below (va_Ql (fun (r : Int64) (_ : Unit) => r = lN (X ^ E * Y ^ F % N)) (fun _ t => t.heap = s.heap) (fun _ => False)) ([.ref h0, .long (lN X), .long (lN E), .long (lN Y), .long (lN F)] : List Value).toArray s 0 0 (fun _ => False)) (F0 m 47 ls []) := by
    intro j
    induction j with
    | zero =>
      intro hjk locs hS ls hl
      refine lv_iload hx hb d_Mo_powers_47 (lv_at hl 9 rfl) ?_
      refine lv_if_lt (tgt := 161) hx hb d_Mo_powers_49 (by decide) (fun c_1 => ?_) (fun c_1 => ?_)
      · -- taken
        refine lv_aload_n hx hb d_Mo_powers_161 rfl (lv_at hl 0 rfl) ?_
        refine lv_lload hx hb d_Mo_powers_162 (lv_at hl 8 rfl) ?_
        refine lv_lconst (v := 1) hx hb d_Mo_powers_164 (by decide) ?_
        refine va_calll (va_runV (As := [.long (lN (X ^ (E / 2 ^ 0) * Y ^ (F / 2 ^ 0) * 2 ^ 62 % N)), .long 1]) (rest := []) ⟨hx, hb, hml, hown, hts⟩ (c_Mo_reduced l s.heap dC dI h0 N f k (X ^ (E / 2 ^ 0) * Y ^ (F / 2 ^ 0) * 2 ^ 62 % N) 1 hP hok (Nat.mod_lt _ (by omega)) (by omega)) (cwV 2 hts (gw_V gk_239 gk_241 gp_0 gk_9 gk_242) rfl rfl rfl (by decide +kernel) ⟨Nat.le_of_ble_eq_true rfl, Nat.le_of_ble_eq_true rfl⟩) ⟨fun a U g mk q => ⟨q.1, q.2.1, va_K.moved (u := U) (U := U.calling g mk a) (Vm.Alike.refl U.vm) q.2.2⟩, va_recv hK hP (ci := 0) (q0 := 0) rfl rfl, fun U hU hW => ⟨rfl, hU, va_K.moved hW.alike hK0⟩⟩ rfl rfl hl.1 rfl (lv_room (Nat.le_of_ble_eq_true rfl)) d_Mo_powers_165 ⟨Nat.zero_le _, Nat.zero_le _⟩) hS (fun q _ h => h.elim) (fun q h => h.elim) (fun r_2 u9 t9 H1 locs ht hvm hw hB hz1 hk1 hS => ?_)
        obtain rfl : s.heap = H1 := hB.symm.trans ht
        obtain ⟨R2, hR2, hRN2, hRm2⟩ := hw
        subst hR2
        obtain rfl : R2 = (X ^ (E / 2 ^ 0) * Y ^ (F / 2 ^ 0)) % N := red_one ho hRN2 hRm2
        exact W.lret (v := (lN ((X ^ (E / 2 ^ 0) * Y ^ (F / 2 ^ 0)) % N))) hx hb hr (fun t ht hW => ⟨⟨_, (), rfl, (by rw [Nat.pow_zero, Nat.div_one, Nat.div_one]), ht⟩, hS.F ht⟩) hS.2.2 d_Mo_powers_168
      · -- not taken
        exact absurd ((nI_neg (by omega)).mpr rfl) c_1
    | succ j ih =>
      intro hjk locs hS ls hl
      refine lv_iload hx hb d_Mo_powers_47 (lv_at hl 9 rfl) ?_
      refine lv_if_lt (tgt := 161) hx hb d_Mo_powers_49 (by decide) (fun c_1 => ?_) (fun c_1 => ?_)
      · -- taken
        exact absurd ((nI_neg (by omega)).mp c_1) (by omega)
      · -- not taken
        refine lv_aload_n hx hb d_Mo_powers_52 rfl (lv_at hl 0 rfl) ?_
        refine lv_lload hx hb d_Mo_powers_53 (lv_at hl 8 rfl) ?_
        refine lv_lload hx hb d_Mo_powers_55 (lv_at hl 8 rfl) ?_
        refine va_calll (va_runV (As := [.long (lN (X ^ (E / 2 ^ (j + 1)) * Y ^ (F / 2 ^ (j + 1)) * 2 ^ 62 % N)), .long (lN (X ^ (E / 2 ^ (j + 1)) * Y ^ (F / 2 ^ (j + 1)) * 2 ^ 62 % N))]) (rest := []) ⟨hx, hb, hml, hown, hts⟩ (c_Mo_reduced l s.heap dC dI h0 N f k (X ^ (E / 2 ^ (j + 1)) * Y ^ (F / 2 ^ (j + 1)) * 2 ^ 62 % N) (X ^ (E / 2 ^ (j + 1)) * Y ^ (F / 2 ^ (j + 1)) * 2 ^ 62 % N) hP hok (Nat.mod_lt _ (by omega)) (Nat.mod_lt _ (by omega))) (cwV 2 hts (gw_V gk_239 gk_241 gp_0 gk_9 gk_242) rfl rfl rfl (by decide +kernel) ⟨Nat.le_of_ble_eq_true rfl, Nat.le_of_ble_eq_true rfl⟩) ⟨fun a U g mk q => ⟨q.1, q.2.1, va_K.moved (u := U) (U := U.calling g mk a) (Vm.Alike.refl U.vm) q.2.2⟩, va_recv hK hP (ci := 0) (q0 := 0) rfl rfl, fun U hU hW => ⟨rfl, hU, va_K.moved hW.alike hK0⟩⟩ rfl rfl hl.1 rfl (lv_room (Nat.le_of_ble_eq_true rfl)) d_Mo_powers_57 ⟨Nat.zero_le _, Nat.zero_le _⟩) hS (fun q _ h => h.elim) (fun q h => h.elim) (fun r_2 u9 t9 H1 locs ht hvm hw hB hz1 hk1 hS => ?_)
        obtain rfl : s.heap = H1 := hB.symm.trans ht
        obtain ⟨R2, hR2, hRN2, hRm2⟩ := hw
        subst hR2
        obtain rfl : R2 = (X ^ (E / 2 ^ (j + 1)) * Y ^ (F / 2 ^ (j + 1)) * (X ^ (E / 2 ^ (j + 1)) * Y ^ (F / 2 ^ (j + 1)))) * 2 ^ 62 % N := red_mul ho hRN2 hRm2
        refine lv_lstore (lv' := [(15, .long (lN ((X ^ (E / 2 ^ (j + 1)) * Y ^ (F / 2 ^ (j + 1)) * (X ^ (E / 2 ^ (j + 1)) * Y ^ (F / 2 ^ (j + 1)))) * 2 ^ 62 % N))), (0, .ref h0), (1, .long (lN X)), (3, .long (lN E)), (5, .long (lN Y)), (7, .long (lN F)), (9, .long (lN (X * 2 ^ 62 % N))), (11, .long (lN (Y * 2 ^ 62 % N))), (13, .long (lN (X * Y * 2 ^ 62 % N))), (17, .int (nI (j + 1) - 1))]) hx hb d_Mo_powers_60 hl (by decide) rfl (fun ls hl => ?_)
        refine lv_lload_n hx hb d_Mo_powers_62 rfl (lv_at hl 3 rfl) ?_
        refine lv_iload hx hb d_Mo_powers_63 (lv_at hl 9 rfl) ?_
        rw [show (nI (j + 1) - 1 : Int32) = nI j from nI_pred j]
        refine lv_lushr (v := ((lN E).toUInt64 >>> ((nI j : Int32).toInt64.toUInt64 &&& Int64.toUInt64 63)).toInt64) hx hb d_Mo_powers_65 rfl ?_
        rw [show (((lN E).toUInt64 >>> ((nI j : Int32).toInt64.toUInt64 &&& Int64.toUInt64 63)).toInt64 : Int64) = (lN (E / 2 ^ j)) from shN hE64 (by omega)]
        refine lv_lconst (v := 1) hx hb d_Mo_powers_66 (by decide) ?_
        refine lv_land hx hb d_Mo_powers_67 ?_
        rw [show ((lN (E / 2 ^ j)) &&& 1 : Int64) = (lN (E / 2 ^ j % 2)) from wb_a1 (Nat.lt_of_le_of_lt (Nat.div_le_self _ _) hE64)]
        refine lv_lconst (v := 1) hx hb d_Mo_powers_68 (by decide) ?_
        refine W.lcmp hx hb d_Mo_powers_69 ?_
        refine lv_if_ne (tgt := 77) hx hb d_Mo_powers_70 (by decide) (fun c_3 => ?_) (fun c_3 => ?_)
        · -- taken
          have hbE : E / 2 ^ j % 2 = 0 := by
            have : ¬ E / 2 ^ j % 2 = 1 := fun h => c_3 ((cmpe (by omega) 1 (by omega) rfl).mpr h)
            omega
          refine lv_iconst (v := 0) hx hb d_Mo_powers_77 (by decide) ?_
          refine lv_istore (lv' := [(18, .int 0), (15, .long (lN ((X ^ (E / 2 ^ (j + 1)) * Y ^ (F / 2 ^ (j + 1)) * (X ^ (E / 2 ^ (j + 1)) * Y ^ (F / 2 ^ (j + 1)))) * 2 ^ 62 % N))), (0, .ref h0), (1, .long (lN X)), (3, .long (lN E)), (5, .long (lN Y)), (7, .long (lN F)), (9, .long (lN (X * 2 ^ 62 % N))), (11, .long (lN (Y * 2 ^ 62 % N))), (13, .long (lN (X * Y * 2 ^ 62 % N))), (17, .int (nI (j + 1) - 1))]) hx hb d_Mo_powers_78 hl (by decide) rfl (fun ls hl => ?_)
          refine lv_lload hx hb d_Mo_powers_80 (lv_at hl 6 rfl) ?_
          refine lv_iload hx hb d_Mo_powers_82 (lv_at hl 10 rfl) ?_
          rw [show (nI (j + 1) - 1 : Int32) = nI j from nI_pred j]
          refine lv_lushr (v := ((lN F).toUInt64 >>> ((nI j : Int32).toInt64.toUInt64 &&& Int64.toUInt64 63)).toInt64) hx hb d_Mo_powers_84 rfl ?_
          rw [show (((lN F).toUInt64 >>> ((nI j : Int32).toInt64.toUInt64 &&& Int64.toUInt64 63)).toInt64 : Int64) = (lN (F / 2 ^ j)) from shN hF64 (by omega)]
          refine lv_lconst (v := 1) hx hb d_Mo_powers_85 (by decide) ?_
          refine lv_land hx hb d_Mo_powers_86 ?_
          rw [show ((lN (F / 2 ^ j)) &&& 1 : Int64) = (lN (F / 2 ^ j % 2)) from wb_a1 (Nat.lt_of_le_of_lt (Nat.div_le_self _ _) hF64)]
          refine lv_lconst (v := 1) hx hb d_Mo_powers_87 (by decide) ?_
          refine W.lcmp hx hb d_Mo_powers_88 ?_
          refine lv_if_ne (tgt := 96) hx hb d_Mo_powers_89 (by decide) (fun c_4 => ?_) (fun c_4 => ?_)
          · -- taken
            have hbF : F / 2 ^ j % 2 = 0 := by
              have : ¬ F / 2 ^ j % 2 = 1 := fun h => c_4 ((cmpe (by omega) 1 (by omega) rfl).mpr h)
              omega
            refine lv_iconst (v := 0) hx hb d_Mo_powers_96 (by decide) ?_
            refine lv_istore (lv' := [(19, .int 0), (18, .int 0), (15, .long (lN ((X ^ (E / 2 ^ (j + 1)) * Y ^ (F / 2 ^ (j + 1)) * (X ^ (E / 2 ^ (j + 1)) * Y ^ (F / 2 ^ (j + 1)))) * 2 ^ 62 % N))), (0, .ref h0), (1, .long (lN X)), (3, .long (lN E)), (5, .long (lN Y)), (7, .long (lN F)), (9, .long (lN (X * 2 ^ 62 % N))), (11, .long (lN (Y * 2 ^ 62 % N))), (13, .long (lN (X * Y * 2 ^ 62 % N))), (17, .int (nI (j + 1) - 1))]) hx hb d_Mo_powers_97 hl (by decide) rfl (fun ls hl => ?_)
            refine lv_iload hx hb d_Mo_powers_99 (lv_at hl 1 rfl) ?_
            refine lv_if_eq (tgt := 122) hx hb d_Mo_powers_101 (by decide) (fun c_5 => ?_) (fun c_5 => ?_)
            · -- taken
              refine lv_iload hx hb d_Mo_powers_122 (lv_at hl 1 rfl) ?_
              refine lv_if_eq (tgt := 140) hx hb d_Mo_powers_124 (by decide) (fun c_6 => ?_) (fun c_6 => ?_)
              · -- taken
                refine lv_iload hx hb d_Mo_powers_140 (lv_at hl 0 rfl) ?_
                refine lv_if_eq (tgt := 155) hx hb d_Mo_powers_142 (by decide) (fun c_7 => ?_) (fun c_7 => ?_)
                · -- taken
                  obtain ⟨i_8, ei_8⟩ : ∃ y : Int32, y = (nI (j + 1) - 1) + (-1) := ⟨_, rfl⟩
                  refine lv_iinc (v := i_8) (lv' := [(17, .int i_8), (19, .int 0), (18, .int 0), (15, .long (lN ((X ^ (E / 2 ^ (j + 1)) * Y ^ (F / 2 ^ (j + 1)) * (X ^ (E / 2 ^ (j + 1)) * Y ^ (F / 2 ^ (j + 1)))) * 2 ^ 62 % N))), (0, .ref h0), (1, .long (lN X)), (3, .long (lN E)), (5, .long (lN Y)), (7, .long (lN F)), (9, .long (lN (X * 2 ^ 62 % N))), (11, .long (lN (Y * 2 ^ 62 % N))), (13, .long (lN (X * Y * 2 ^ 62 % N)))]) hx hb d_Mo_powers_155 hl (k := 11) rfl (by rw [ei_8]; rfl) (by decide) rfl (fun ls hl => ?_)
                  obtain rfl : i_8 = nI j - 1 := by rw [ei_8]; exact by rw [nI_pred, i_add_neg]
                  refine lv_goto (tgt := 47) hx hb d_Mo_powers_158 (by decide) ?_
                  have hbe := bit_div E j
                  have hbf := bit_div F j
                  rw [hbE] at hbe
                  rw [hbF] at hbf
                  have hp : (X ^ (E / 2 ^ (j + 1)) * Y ^ (F / 2 ^ (j + 1)) * (X ^ (E / 2 ^ (j + 1)) * Y ^ (F / 2 ^ (j + 1)))) = X ^ (E / 2 ^ j) * Y ^ (F / 2 ^ j) := by
                    rw [hbe, hbf, pw_both]
                    grind
                  rw [hp] at hl
                  exact ih (by omega) locs hS ls (lv_sub hl [4, 5, 6, 7, 8, 9, 10, 11, 3, 0] rfl)
                · -- not taken
                  exact absurd rfl c_7
              · -- not taken
                exact absurd rfl c_6
            · -- not taken
              exact absurd rfl c_5
          · -- not taken
            have hbF : F / 2 ^ j % 2 = 1 := (cmpe (by omega) 1 (by omega) rfl).mp c_4
            refine lv_iconst (v := 1) hx hb d_Mo_powers_92 (by decide) ?_
            refine lv_goto (tgt := 97) hx hb d_Mo_powers_93 (by decide) ?_
            refine lv_istore (lv' := [(19, .int 1), (18, .int 0), (15, .long (lN ((X ^ (E / 2 ^ (j + 1)) * Y ^ (F / 2 ^ (j + 1)) * (X ^ (E / 2 ^ (j + 1)) * Y ^ (F / 2 ^ (j + 1)))) * 2 ^ 62 % N))), (0, .ref h0), (1, .long (lN X)), (3, .long (lN E)), (5, .long (lN Y)), (7, .long (lN F)), (9, .long (lN (X * 2 ^ 62 % N))), (11, .long (lN (Y * 2 ^ 62 % N))), (13, .long (lN (X * Y * 2 ^ 62 % N))), (17, .int (nI (j + 1) - 1))]) hx hb d_Mo_powers_97 hl (by decide) rfl (fun ls hl => ?_)
            refine lv_iload hx hb d_Mo_powers_99 (lv_at hl 1 rfl) ?_
            refine lv_if_eq (tgt := 122) hx hb d_Mo_powers_101 (by decide) (fun c_9 => ?_) (fun c_9 => ?_)
            · -- taken
              refine lv_iload hx hb d_Mo_powers_122 (lv_at hl 1 rfl) ?_
              refine lv_if_eq (tgt := 140) hx hb d_Mo_powers_124 (by decide) (fun c_10 => ?_) (fun c_10 => ?_)
              · -- taken
                refine lv_iload hx hb d_Mo_powers_140 (lv_at hl 0 rfl) ?_
                refine lv_if_eq (tgt := 155) hx hb d_Mo_powers_142 (by decide) (fun c_11 => ?_) (fun c_11 => ?_)
                · -- taken
                  exact absurd c_11 (by decide)
                · -- not taken
                  refine lv_aload_n hx hb d_Mo_powers_145 rfl (lv_at hl 3 rfl) ?_
                  refine lv_lload hx hb d_Mo_powers_146 (lv_at hl 2 rfl) ?_
                  refine lv_lload hx hb d_Mo_powers_148 (lv_at hl 9 rfl) ?_
                  refine va_calll (va_runV (As := [.long (lN ((X ^ (E / 2 ^ (j + 1)) * Y ^ (F / 2 ^ (j + 1)) * (X ^ (E / 2 ^ (j + 1)) * Y ^ (F / 2 ^ (j + 1)))) * 2 ^ 62 % N)), .long (lN (Y * 2 ^ 62 % N))]) (rest := []) ⟨hx, hb, hml, hown, hts⟩ (c_Mo_reduced l s.heap dC dI h0 N f k ((X ^ (E / 2 ^ (j + 1)) * Y ^ (F / 2 ^ (j + 1)) * (X ^ (E / 2 ^ (j + 1)) * Y ^ (F / 2 ^ (j + 1)))) * 2 ^ 62 % N) (Y * 2 ^ 62 % N) hP hok (Nat.mod_lt _ (by omega)) (Nat.mod_lt _ (by omega))) (cwV 2 hts (gw_V gk_239 gk_241 gp_0 gk_9 gk_242) rfl rfl rfl (by decide +kernel) ⟨Nat.le_of_ble_eq_true rfl, Nat.le_of_ble_eq_true rfl⟩) ⟨fun a U g mk q => ⟨q.1, q.2.1, va_K.moved (u := U) (U := U.calling g mk a) (Vm.Alike.refl U.vm) q.2.2⟩, va_recv hK hP (ci := 0) (q0 := 0) rfl rfl, fun U hU hW => ⟨rfl, hU, va_K.moved hW.alike hK0⟩⟩ rfl rfl hl.1 rfl (lv_room (Nat.le_of_ble_eq_true rfl)) d_Mo_powers_150 ⟨Nat.zero_le _, Nat.zero_le _⟩) hS (fun q _ h => h.elim) (fun q h => h.elim) (fun r_12 u9 t9 H1 locs ht hvm hw hB hz1 hk1 hS => ?_)
                  obtain rfl : s.heap = H1 := hB.symm.trans ht
                  obtain ⟨R12, hR12, hRN12, hRm12⟩ := hw
                  subst hR12
                  obtain rfl : R12 = ((X ^ (E / 2 ^ (j + 1)) * Y ^ (F / 2 ^ (j + 1)) * (X ^ (E / 2 ^ (j + 1)) * Y ^ (F / 2 ^ (j + 1)))) * Y) * 2 ^ 62 % N := red_mul ho hRN12 hRm12
                  refine lv_lstore (lv' := [(15, .long (lN (((X ^ (E / 2 ^ (j + 1)) * Y ^ (F / 2 ^ (j + 1)) * (X ^ (E / 2 ^ (j + 1)) * Y ^ (F / 2 ^ (j + 1)))) * Y) * 2 ^ 62 % N))), (19, .int 1), (18, .int 0), (0, .ref h0), (1, .long (lN X)), (3, .long (lN E)), (5, .long (lN Y)), (7, .long (lN F)), (9, .long (lN (X * 2 ^ 62 % N))), (11, .long (lN (Y * 2 ^ 62 % N))), (13, .long (lN (X * Y * 2 ^ 62 % N))), (17, .int (nI (j + 1) - 1))]) hx hb d_Mo_powers_153 hl (by decide) rfl (fun ls hl => ?_)
                  obtain ⟨i_13, ei_13⟩ : ∃ y : Int32, y = (nI (j + 1) - 1) + (-1) := ⟨_, rfl⟩
                  refine lv_iinc (v := i_13) (lv' := [(17, .int i_13), (15, .long (lN (((X ^ (E / 2 ^ (j + 1)) * Y ^ (F / 2 ^ (j + 1)) * (X ^ (E / 2 ^ (j + 1)) * Y ^ (F / 2 ^ (j + 1)))) * Y) * 2 ^ 62 % N))), (19, .int 1), (18, .int 0), (0, .ref h0), (1, .long (lN X)), (3, .long (lN E)), (5, .long (lN Y)), (7, .long (lN F)), (9, .long (lN (X * 2 ^ 62 % N))), (11, .long (lN (Y * 2 ^ 62 % N))), (13, .long (lN (X * Y * 2 ^ 62 % N)))]) hx hb d_Mo_powers_155 hl (k := 11) rfl (by rw [ei_13]; rfl) (by decide) rfl (fun ls hl => ?_)
                  obtain rfl : i_13 = nI j - 1 := by rw [ei_13]; exact by rw [nI_pred, i_add_neg]
                  refine lv_goto (tgt := 47) hx hb d_Mo_powers_158 (by decide) ?_
                  have hbe := bit_div E j
                  have hbf := bit_div F j
                  rw [hbE] at hbe
                  rw [hbF] at hbf
                  have hp : ((X ^ (E / 2 ^ (j + 1)) * Y ^ (F / 2 ^ (j + 1)) * (X ^ (E / 2 ^ (j + 1)) * Y ^ (F / 2 ^ (j + 1)))) * Y) = X ^ (E / 2 ^ j) * Y ^ (F / 2 ^ j) := by
                    rw [hbe, hbf, pw_both]
                    grind
                  rw [hp] at hl
                  exact ih (by omega) locs hS ls (lv_sub hl [4, 5, 6, 7, 8, 9, 10, 11, 1, 0] rfl)
              · -- not taken
                exact absurd rfl c_10
            · -- not taken
              exact absurd rfl c_9
        · -- not taken
          have hbE : E / 2 ^ j % 2 = 1 := (cmpe (by omega) 1 (by omega) rfl).mp c_3
          refine lv_iconst (v := 1) hx hb d_Mo_powers_73 (by decide) ?_
          refine lv_goto (tgt := 78) hx hb d_Mo_powers_74 (by decide) ?_
          refine lv_istore (lv' := [(18, .int 1), (15, .long (lN ((X ^ (E / 2 ^ (j + 1)) * Y ^ (F / 2 ^ (j + 1)) * (X ^ (E / 2 ^ (j + 1)) * Y ^ (F / 2 ^ (j + 1)))) * 2 ^ 62 % N))), (0, .ref h0), (1, .long (lN X)), (3, .long (lN E)), (5, .long (lN Y)), (7, .long (lN F)), (9, .long (lN (X * 2 ^ 62 % N))), (11, .long (lN (Y * 2 ^ 62 % N))), (13, .long (lN (X * Y * 2 ^ 62 % N))), (17, .int (nI (j + 1) - 1))]) hx hb d_Mo_powers_78 hl (by decide) rfl (fun ls hl => ?_)
          refine lv_lload hx hb d_Mo_powers_80 (lv_at hl 6 rfl) ?_
          refine lv_iload hx hb d_Mo_powers_82 (lv_at hl 10 rfl) ?_
          rw [show (nI (j + 1) - 1 : Int32) = nI j from nI_pred j]
          refine lv_lushr (v := ((lN F).toUInt64 >>> ((nI j : Int32).toInt64.toUInt64 &&& Int64.toUInt64 63)).toInt64) hx hb d_Mo_powers_84 rfl ?_
          rw [show (((lN F).toUInt64 >>> ((nI j : Int32).toInt64.toUInt64 &&& Int64.toUInt64 63)).toInt64 : Int64) = (lN (F / 2 ^ j)) from shN hF64 (by omega)]
          refine lv_lconst (v := 1) hx hb d_Mo_powers_85 (by decide) ?_
          refine lv_land hx hb d_Mo_powers_86 ?_
          rw [show ((lN (F / 2 ^ j)) &&& 1 : Int64) = (lN (F / 2 ^ j % 2)) from wb_a1 (Nat.lt_of_le_of_lt (Nat.div_le_self _ _) hF64)]
          refine lv_lconst (v := 1) hx hb d_Mo_powers_87 (by decide) ?_
          refine W.lcmp hx hb d_Mo_powers_88 ?_
          refine lv_if_ne (tgt := 96) hx hb d_Mo_powers_89 (by decide) (fun c_14 => ?_) (fun c_14 => ?_)
          · -- taken
            have hbF : F / 2 ^ j % 2 = 0 := by
              have : ¬ F / 2 ^ j % 2 = 1 := fun h => c_14 ((cmpe (by omega) 1 (by omega) rfl).mpr h)
              omega
            refine lv_iconst (v := 0) hx hb d_Mo_powers_96 (by decide) ?_
            refine lv_istore (lv' := [(19, .int 0), (18, .int 1), (15, .long (lN ((X ^ (E / 2 ^ (j + 1)) * Y ^ (F / 2 ^ (j + 1)) * (X ^ (E / 2 ^ (j + 1)) * Y ^ (F / 2 ^ (j + 1)))) * 2 ^ 62 % N))), (0, .ref h0), (1, .long (lN X)), (3, .long (lN E)), (5, .long (lN Y)), (7, .long (lN F)), (9, .long (lN (X * 2 ^ 62 % N))), (11, .long (lN (Y * 2 ^ 62 % N))), (13, .long (lN (X * Y * 2 ^ 62 % N))), (17, .int (nI (j + 1) - 1))]) hx hb d_Mo_powers_97 hl (by decide) rfl (fun ls hl => ?_)
            refine lv_iload hx hb d_Mo_powers_99 (lv_at hl 1 rfl) ?_
            refine lv_if_eq (tgt := 122) hx hb d_Mo_powers_101 (by decide) (fun c_15 => ?_) (fun c_15 => ?_)
            · -- taken
              exact absurd c_15 (by decide)
            · -- not taken
              refine lv_iload hx hb d_Mo_powers_104 (lv_at hl 0 rfl) ?_
              refine lv_if_eq (tgt := 122) hx hb d_Mo_powers_106 (by decide) (fun c_16 => ?_) (fun c_16 => ?_)
              · -- taken
                refine lv_iload hx hb d_Mo_powers_122 (lv_at hl 1 rfl) ?_
                refine lv_if_eq (tgt := 140) hx hb d_Mo_powers_124 (by decide) (fun c_17 => ?_) (fun c_17 => ?_)
                · -- taken
                  exact absurd c_17 (by decide)
                · -- not taken
                  refine lv_aload_n hx hb d_Mo_powers_127 rfl (lv_at hl 3 rfl) ?_
                  refine lv_lload hx hb d_Mo_powers_128 (lv_at hl 2 rfl) ?_
                  refine lv_lload hx hb d_Mo_powers_130 (lv_at hl 8 rfl) ?_
                  refine va_calll (va_runV (As := [.long (lN ((X ^ (E / 2 ^ (j + 1)) * Y ^ (F / 2 ^ (j + 1)) * (X ^ (E / 2 ^ (j + 1)) * Y ^ (F / 2 ^ (j + 1)))) * 2 ^ 62 % N)), .long (lN (X * 2 ^ 62 % N))]) (rest := []) ⟨hx, hb, hml, hown, hts⟩ (c_Mo_reduced l s.heap dC dI h0 N f k ((X ^ (E / 2 ^ (j + 1)) * Y ^ (F / 2 ^ (j + 1)) * (X ^ (E / 2 ^ (j + 1)) * Y ^ (F / 2 ^ (j + 1)))) * 2 ^ 62 % N) (X * 2 ^ 62 % N) hP hok (Nat.mod_lt _ (by omega)) (Nat.mod_lt _ (by omega))) (cwV 2 hts (gw_V gk_239 gk_241 gp_0 gk_9 gk_242) rfl rfl rfl (by decide +kernel) ⟨Nat.le_of_ble_eq_true rfl, Nat.le_of_ble_eq_true rfl⟩) ⟨fun a U g mk q => ⟨q.1, q.2.1, va_K.moved (u := U) (U := U.calling g mk a) (Vm.Alike.refl U.vm) q.2.2⟩, va_recv hK hP (ci := 0) (q0 := 0) rfl rfl, fun U hU hW => ⟨rfl, hU, va_K.moved hW.alike hK0⟩⟩ rfl rfl hl.1 rfl (lv_room (Nat.le_of_ble_eq_true rfl)) d_Mo_powers_132 ⟨Nat.zero_le _, Nat.zero_le _⟩) hS (fun q _ h => h.elim) (fun q h => h.elim) (fun r_18 u9 t9 H1 locs ht hvm hw hB hz1 hk1 hS => ?_)
                  obtain rfl : s.heap = H1 := hB.symm.trans ht
                  obtain ⟨R18, hR18, hRN18, hRm18⟩ := hw
                  subst hR18
                  obtain rfl : R18 = ((X ^ (E / 2 ^ (j + 1)) * Y ^ (F / 2 ^ (j + 1)) * (X ^ (E / 2 ^ (j + 1)) * Y ^ (F / 2 ^ (j + 1)))) * X) * 2 ^ 62 % N := red_mul ho hRN18 hRm18
                  refine lv_lstore (lv' := [(15, .long (lN (((X ^ (E / 2 ^ (j + 1)) * Y ^ (F / 2 ^ (j + 1)) * (X ^ (E / 2 ^ (j + 1)) * Y ^ (F / 2 ^ (j + 1)))) * X) * 2 ^ 62 % N))), (19, .int 0), (18, .int 1), (0, .ref h0), (1, .long (lN X)), (3, .long (lN E)), (5, .long (lN Y)), (7, .long (lN F)), (9, .long (lN (X * 2 ^ 62 % N))), (11, .long (lN (Y * 2 ^ 62 % N))), (13, .long (lN (X * Y * 2 ^ 62 % N))), (17, .int (nI (j + 1) - 1))]) hx hb d_Mo_powers_135 hl (by decide) rfl (fun ls hl => ?_)
                  refine lv_goto (tgt := 155) hx hb d_Mo_powers_137 (by decide) ?_
                  obtain ⟨i_19, ei_19⟩ : ∃ y : Int32, y = (nI (j + 1) - 1) + (-1) := ⟨_, rfl⟩
                  refine lv_iinc (v := i_19) (lv' := [(17, .int i_19), (15, .long (lN (((X ^ (E / 2 ^ (j + 1)) * Y ^ (F / 2 ^ (j + 1)) * (X ^ (E / 2 ^ (j + 1)) * Y ^ (F / 2 ^ (j + 1)))) * X) * 2 ^ 62 % N))), (19, .int 0), (18, .int 1), (0, .ref h0), (1, .long (lN X)), (3, .long (lN E)), (5, .long (lN Y)), (7, .long (lN F)), (9, .long (lN (X * 2 ^ 62 % N))), (11, .long (lN (Y * 2 ^ 62 % N))), (13, .long (lN (X * Y * 2 ^ 62 % N)))]) hx hb d_Mo_powers_155 hl (k := 11) rfl (by rw [ei_19]; rfl) (by decide) rfl (fun ls hl => ?_)
                  obtain rfl : i_19 = nI j - 1 := by rw [ei_19]; exact by rw [nI_pred, i_add_neg]
                  refine lv_goto (tgt := 47) hx hb d_Mo_powers_158 (by decide) ?_
                  have hbe := bit_div E j
                  have hbf := bit_div F j
                  rw [hbE] at hbe
                  rw [hbF] at hbf
                  have hp : ((X ^ (E / 2 ^ (j + 1)) * Y ^ (F / 2 ^ (j + 1)) * (X ^ (E / 2 ^ (j + 1)) * Y ^ (F / 2 ^ (j + 1)))) * X) = X ^ (E / 2 ^ j) * Y ^ (F / 2 ^ j) := by
                    rw [hbe, hbf, pw_both]
                    grind
                  rw [hp] at hl
                  exact ih (by omega) locs hS ls (lv_sub hl [4, 5, 6, 7, 8, 9, 10, 11, 1, 0] rfl)
              · -- not taken
                exact absurd rfl c_16
          · -- not taken
            have hbF : F / 2 ^ j % 2 = 1 := (cmpe (by omega) 1 (by omega) rfl).mp c_14
            refine lv_iconst (v := 1) hx hb d_Mo_powers_92 (by decide) ?_
            refine lv_goto (tgt := 97) hx hb d_Mo_powers_93 (by decide) ?_
            refine lv_istore (lv' := [(19, .int 1), (18, .int 1), (15, .long (lN ((X ^ (E / 2 ^ (j + 1)) * Y ^ (F / 2 ^ (j + 1)) * (X ^ (E / 2 ^ (j + 1)) * Y ^ (F / 2 ^ (j + 1)))) * 2 ^ 62 % N))), (0, .ref h0), (1, .long (lN X)), (3, .long (lN E)), (5, .long (lN Y)), (7, .long (lN F)), (9, .long (lN (X * 2 ^ 62 % N))), (11, .long (lN (Y * 2 ^ 62 % N))), (13, .long (lN (X * Y * 2 ^ 62 % N))), (17, .int (nI (j + 1) - 1))]) hx hb d_Mo_powers_97 hl (by decide) rfl (fun ls hl => ?_)
            refine lv_iload hx hb d_Mo_powers_99 (lv_at hl 1 rfl) ?_
            refine lv_if_eq (tgt := 122) hx hb d_Mo_powers_101 (by decide) (fun c_20 => ?_) (fun c_20 => ?_)
            · -- taken
              exact absurd c_20 (by decide)
            · -- not taken
              refine lv_iload hx hb d_Mo_powers_104 (lv_at hl 0 rfl) ?_
              refine lv_if_eq (tgt := 122) hx hb d_Mo_powers_106 (by decide) (fun c_21 => ?_) (fun c_21 => ?_)
              · -- taken
                exact absurd c_21 (by decide)
              · -- not taken
                refine lv_aload_n hx hb d_Mo_powers_109 rfl (lv_at hl 3 rfl) ?_
                refine lv_lload hx hb d_Mo_powers_110 (lv_at hl 2 rfl) ?_
                refine lv_lload hx hb d_Mo_powers_112 (lv_at hl 10 rfl) ?_
                refine va_calll (va_runV (As := [.long (lN ((X ^ (E / 2 ^ (j + 1)) * Y ^ (F / 2 ^ (j + 1)) * (X ^ (E / 2 ^ (j + 1)) * Y ^ (F / 2 ^ (j + 1)))) * 2 ^ 62 % N)), .long (lN (X * Y * 2 ^ 62 % N))]) (rest := []) ⟨hx, hb, hml, hown, hts⟩ (c_Mo_reduced l s.heap dC dI h0 N f k ((X ^ (E / 2 ^ (j + 1)) * Y ^ (F / 2 ^ (j + 1)) * (X ^ (E / 2 ^ (j + 1)) * Y ^ (F / 2 ^ (j + 1)))) * 2 ^ 62 % N) (X * Y * 2 ^ 62 % N) hP hok (Nat.mod_lt _ (by omega)) (Nat.mod_lt _ (by omega))) (cwV 2 hts (gw_V gk_239 gk_241 gp_0 gk_9 gk_242) rfl rfl rfl (by decide +kernel) ⟨Nat.le_of_ble_eq_true rfl, Nat.le_of_ble_eq_true rfl⟩) ⟨fun a U g mk q => ⟨q.1, q.2.1, va_K.moved (u := U) (U := U.calling g mk a) (Vm.Alike.refl U.vm) q.2.2⟩, va_recv hK hP (ci := 0) (q0 := 0) rfl rfl, fun U hU hW => ⟨rfl, hU, va_K.moved hW.alike hK0⟩⟩ rfl rfl hl.1 rfl (lv_room (Nat.le_of_ble_eq_true rfl)) d_Mo_powers_114 ⟨Nat.zero_le _, Nat.zero_le _⟩) hS (fun q _ h => h.elim) (fun q h => h.elim) (fun r_22 u9 t9 H1 locs ht hvm hw hB hz1 hk1 hS => ?_)
                obtain rfl : s.heap = H1 := hB.symm.trans ht
                obtain ⟨R22, hR22, hRN22, hRm22⟩ := hw
                subst hR22
                obtain rfl : R22 = ((X ^ (E / 2 ^ (j + 1)) * Y ^ (F / 2 ^ (j + 1)) * (X ^ (E / 2 ^ (j + 1)) * Y ^ (F / 2 ^ (j + 1)))) * (X * Y)) * 2 ^ 62 % N := red_mul ho hRN22 hRm22
                refine lv_lstore (lv' := [(15, .long (lN (((X ^ (E / 2 ^ (j + 1)) * Y ^ (F / 2 ^ (j + 1)) * (X ^ (E / 2 ^ (j + 1)) * Y ^ (F / 2 ^ (j + 1)))) * (X * Y)) * 2 ^ 62 % N))), (19, .int 1), (18, .int 1), (0, .ref h0), (1, .long (lN X)), (3, .long (lN E)), (5, .long (lN Y)), (7, .long (lN F)), (9, .long (lN (X * 2 ^ 62 % N))), (11, .long (lN (Y * 2 ^ 62 % N))), (13, .long (lN (X * Y * 2 ^ 62 % N))), (17, .int (nI (j + 1) - 1))]) hx hb d_Mo_powers_117 hl (by decide) rfl (fun ls hl => ?_)
                refine lv_goto (tgt := 155) hx hb d_Mo_powers_119 (by decide) ?_
                obtain ⟨i_23, ei_23⟩ : ∃ y : Int32, y = (nI (j + 1) - 1) + (-1) := ⟨_, rfl⟩
                refine lv_iinc (v := i_23) (lv' := [(17, .int i_23), (15, .long (lN (((X ^ (E / 2 ^ (j + 1)) * Y ^ (F / 2 ^ (j + 1)) * (X ^ (E / 2 ^ (j + 1)) * Y ^ (F / 2 ^ (j + 1)))) * (X * Y)) * 2 ^ 62 % N))), (19, .int 1), (18, .int 1), (0, .ref h0), (1, .long (lN X)), (3, .long (lN E)), (5, .long (lN Y)), (7, .long (lN F)), (9, .long (lN (X * 2 ^ 62 % N))), (11, .long (lN (Y * 2 ^ 62 % N))), (13, .long (lN (X * Y * 2 ^ 62 % N)))]) hx hb d_Mo_powers_155 hl (k := 11) rfl (by rw [ei_23]; rfl) (by decide) rfl (fun ls hl => ?_)
                obtain rfl : i_23 = nI j - 1 := by rw [ei_23]; exact by rw [nI_pred, i_add_neg]
                refine lv_goto (tgt := 47) hx hb d_Mo_powers_158 (by decide) ?_
                have hbe := bit_div E j
                have hbf := bit_div F j
                rw [hbE] at hbe
                rw [hbF] at hbf
                have hp : ((X ^ (E / 2 ^ (j + 1)) * Y ^ (F / 2 ^ (j + 1)) * (X ^ (E / 2 ^ (j + 1)) * Y ^ (F / 2 ^ (j + 1)))) * (X * Y)) = X ^ (E / 2 ^ j) * Y ^ (F / 2 ^ j) := by
                  rw [hbe, hbf, pw_both]
                  grind
                rw [hp] at hl
                exact ih (by omega) locs hS ls (lv_sub hl [4, 5, 6, 7, 8, 9, 10, 11, 1, 0] rfl)
  refine lv_aload_n hx hb d_Mo_powers_0 rfl (lv_at hl 0 rfl) ?_
  refine lv_lload_n hx hb d_Mo_powers_1 rfl (lv_at hl 1 rfl) ?_
  refine lv_aload_n hx hb d_Mo_powers_2 rfl (lv_at hl 0 rfl) ?_
  refine va_get (D := (dC, dI)) (ci := 0) (v := .long (lN (2 ^ 124 % N))) (C := "BallotBoard$Modulus") (T := F_Mo) (N := 7) hx hb hts (fun w9 h9 => List.mem_cons_of_mem _ (i_Mo w9 h9)) hown hK hP 0 rfl rfl 5 (by decide) (hts _ (List.mem_cons_of_mem _ gk_212)) (fun _ h9 => h9) rfl d_Mo_powers_3 ?_
  refine va_calll (va_runV (As := [.long (lN X), .long (lN (2 ^ 124 % N))]) (rest := []) ⟨hx, hb, hml, hown, hts⟩ (c_Mo_reduced l s.heap dC dI h0 N f k X (2 ^ 124 % N) hP hok hX (Nat.mod_lt _ (by omega))) (cwV 2 hts (gw_V gk_239 gk_241 gp_0 gk_9 gk_242) rfl rfl rfl (by decide +kernel) ⟨Nat.le_of_ble_eq_true rfl, Nat.le_of_ble_eq_true rfl⟩) ⟨fun a U g mk q => ⟨q.1, q.2.1, va_K.moved (u := U) (U := U.calling g mk a) (Vm.Alike.refl U.vm) q.2.2⟩, va_recv hK hP (ci := 0) (q0 := 0) rfl rfl, fun U hU hW => ⟨rfl, hU, va_K.moved hW.alike hK0⟩⟩ rfl rfl hl.1 rfl (lv_room (Nat.le_of_ble_eq_true rfl)) d_Mo_powers_6 ⟨Nat.zero_le _, Nat.zero_le _⟩) hS (fun q _ h => h.elim) (fun q h => h.elim) (fun r_1 u9 t9 H1 locs ht hvm hw hB hz1 hk1 hS => ?_)
  obtain rfl : s.heap = H1 := hB.symm.trans ht
  obtain ⟨R1, hR1, hRN1, hRm1⟩ := hw
  subst hR1
  obtain rfl : R1 = X * 2 ^ 62 % N := red_sq ho hRN1 hRm1
  refine lv_lstore (lv' := [(9, .long (lN (X * 2 ^ 62 % N))), (0, .ref h0), (1, .long (lN X)), (3, .long (lN E)), (5, .long (lN Y)), (7, .long (lN F))]) hx hb d_Mo_powers_9 hl (by decide) rfl (fun ls hl => ?_)
  refine lv_aload_n hx hb d_Mo_powers_11 rfl (lv_at hl 1 rfl) ?_
  refine lv_lload hx hb d_Mo_powers_12 (lv_at hl 4 rfl) ?_
  refine lv_aload_n hx hb d_Mo_powers_14 rfl (lv_at hl 1 rfl) ?_
  refine va_get (D := (dC, dI)) (ci := 0) (v := .long (lN (2 ^ 124 % N))) (C := "BallotBoard$Modulus") (T := F_Mo) (N := 7) hx hb hts (fun w9 h9 => List.mem_cons_of_mem _ (i_Mo w9 h9)) hown hK hP 0 rfl rfl 5 (by decide) (hts _ (List.mem_cons_of_mem _ gk_212)) (fun _ h9 => h9) rfl d_Mo_powers_15 ?_
  refine va_calll (va_runV (As := [.long (lN Y), .long (lN (2 ^ 124 % N))]) (rest := []) ⟨hx, hb, hml, hown, hts⟩ (c_Mo_reduced l s.heap dC dI h0 N f k Y (2 ^ 124 % N) hP hok hY (Nat.mod_lt _ (by omega))) (cwV 2 hts (gw_V gk_239 gk_241 gp_0 gk_9 gk_242) rfl rfl rfl (by decide +kernel) ⟨Nat.le_of_ble_eq_true rfl, Nat.le_of_ble_eq_true rfl⟩) ⟨fun a U g mk q => ⟨q.1, q.2.1, va_K.moved (u := U) (U := U.calling g mk a) (Vm.Alike.refl U.vm) q.2.2⟩, va_recv hK hP (ci := 0) (q0 := 0) rfl rfl, fun U hU hW => ⟨rfl, hU, va_K.moved hW.alike hK0⟩⟩ rfl rfl hl.1 rfl (lv_room (Nat.le_of_ble_eq_true rfl)) d_Mo_powers_18 ⟨Nat.zero_le _, Nat.zero_le _⟩) hS (fun q _ h => h.elim) (fun q h => h.elim) (fun r_2 u9 t9 H1 locs ht hvm hw hB hz1 hk1 hS => ?_)
  obtain rfl : s.heap = H1 := hB.symm.trans ht
  obtain ⟨R2, hR2, hRN2, hRm2⟩ := hw
  subst hR2
  obtain rfl : R2 = Y * 2 ^ 62 % N := red_sq ho hRN2 hRm2
  refine lv_lstore (lv' := [(11, .long (lN (Y * 2 ^ 62 % N))), (9, .long (lN (X * 2 ^ 62 % N))), (0, .ref h0), (1, .long (lN X)), (3, .long (lN E)), (5, .long (lN Y)), (7, .long (lN F))]) hx hb d_Mo_powers_21 hl (by decide) rfl (fun ls hl => ?_)
  refine lv_aload_n hx hb d_Mo_powers_23 rfl (lv_at hl 2 rfl) ?_
  refine lv_lload hx hb d_Mo_powers_24 (lv_at hl 1 rfl) ?_
  refine lv_lload hx hb d_Mo_powers_26 (lv_at hl 0 rfl) ?_
  refine va_calll (va_runV (As := [.long (lN (X * 2 ^ 62 % N)), .long (lN (Y * 2 ^ 62 % N))]) (rest := []) ⟨hx, hb, hml, hown, hts⟩ (c_Mo_reduced l s.heap dC dI h0 N f k (X * 2 ^ 62 % N) (Y * 2 ^ 62 % N) hP hok (Nat.mod_lt _ (by omega)) (Nat.mod_lt _ (by omega))) (cwV 2 hts (gw_V gk_239 gk_241 gp_0 gk_9 gk_242) rfl rfl rfl (by decide +kernel) ⟨Nat.le_of_ble_eq_true rfl, Nat.le_of_ble_eq_true rfl⟩) ⟨fun a U g mk q => ⟨q.1, q.2.1, va_K.moved (u := U) (U := U.calling g mk a) (Vm.Alike.refl U.vm) q.2.2⟩, va_recv hK hP (ci := 0) (q0 := 0) rfl rfl, fun U hU hW => ⟨rfl, hU, va_K.moved hW.alike hK0⟩⟩ rfl rfl hl.1 rfl (lv_room (Nat.le_of_ble_eq_true rfl)) d_Mo_powers_28 ⟨Nat.zero_le _, Nat.zero_le _⟩) hS (fun q _ h => h.elim) (fun q h => h.elim) (fun r_3 u9 t9 H1 locs ht hvm hw hB hz1 hk1 hS => ?_)
  obtain rfl : s.heap = H1 := hB.symm.trans ht
  obtain ⟨R3, hR3, hRN3, hRm3⟩ := hw
  subst hR3
  obtain rfl : R3 = (X * Y) * 2 ^ 62 % N := red_mul ho hRN3 hRm3
  refine lv_lstore (lv' := [(13, .long (lN ((X * Y) * 2 ^ 62 % N))), (11, .long (lN (Y * 2 ^ 62 % N))), (9, .long (lN (X * 2 ^ 62 % N))), (0, .ref h0), (1, .long (lN X)), (3, .long (lN E)), (5, .long (lN Y)), (7, .long (lN F))]) hx hb d_Mo_powers_31 hl (by decide) rfl (fun ls hl => ?_)
  refine lv_aload_n hx hb d_Mo_powers_33 rfl (lv_at hl 3 rfl) ?_
  refine va_get (D := (dC, dI)) (ci := 0) (v := .long (lN (2 ^ 62 % N))) (C := "BallotBoard$Modulus") (T := F_Mo) (N := 7) hx hb hts (fun w9 h9 => List.mem_cons_of_mem _ (i_Mo w9 h9)) hown hK hP 0 rfl rfl 4 (by decide) (hts _ (List.mem_cons_of_mem _ gk_211)) (fun _ h9 => h9) rfl d_Mo_powers_34 ?_
  refine lv_lstore (lv' := [(15, .long (lN (2 ^ 62 % N))), (13, .long (lN ((X * Y) * 2 ^ 62 % N))), (11, .long (lN (Y * 2 ^ 62 % N))), (9, .long (lN (X * 2 ^ 62 % N))), (0, .ref h0), (1, .long (lN X)), (3, .long (lN E)), (5, .long (lN Y)), (7, .long (lN F))]) hx hb d_Mo_powers_37 hl (by decide) rfl (fun ls hl => ?_)
  refine lv_aload_n hx hb d_Mo_powers_39 rfl (lv_at hl 4 rfl) ?_
  refine va_get (D := (dC, dI)) (ci := 0) (v := .int (nI k)) (C := "BallotBoard$Modulus") (T := F_Mo) (N := 7) hx hb hts (fun w9 h9 => List.mem_cons_of_mem _ (i_Mo w9 h9)) hown hK hP 0 rfl rfl 6 (by decide) (hts _ (List.mem_cons_of_mem _ gk_213)) (fun _ h9 => h9) rfl d_Mo_powers_40 ?_
  refine lv_iconst (v := 1) hx hb d_Mo_powers_43 (by decide) ?_
  refine lv_isub hx hb d_Mo_powers_44 ?_
  refine lv_istore (lv' := [(17, .int ((nI k) - 1)), (15, .long (lN (2 ^ 62 % N))), (13, .long (lN ((X * Y) * 2 ^ 62 % N))), (11, .long (lN (Y * 2 ^ 62 % N))), (9, .long (lN (X * 2 ^ 62 % N))), (0, .ref h0), (1, .long (lN X)), (3, .long (lN E)), (5, .long (lN Y)), (7, .long (lN F))]) hx hb d_Mo_powers_45 hl (by decide) rfl (fun ls hl => ?_)
  exact loop k (by omega) locs hS ls (lv_sub hl [5, 6, 7, 8, 9, 4, 3, 2, 1, 0] (by rw [Nat.div_eq_of_lt hE, Nat.div_eq_of_lt hF, Nat.pow_zero, Nat.pow_zero, Nat.one_mul]; rfl))
abbrev b_Mo_passes : ByteArray := prog_6_method_10_code
abbrev y_Mo_passes : MethodName := ⟨"BallotBoard$Modulus", "passes", "(JI)Z"⟩
abbrev w_Mo_passes : List Cond := .code y_Mo_passes b_Mo_passes 8 (some .boolean) :: gw
theorem d_Mo_passes_0 : decode b_Mo_passes 0 = .ok (.lload_n 1, 1) := by decide +kernel
theorem d_Mo_passes_1 : decode b_Mo_passes 1 = .ok (.lstore 4, 2) := by decide +kernel
theorem d_Mo_passes_3 : decode b_Mo_passes 3 = .ok (.lload 4, 2) := by decide +kernel
theorem d_Mo_passes_5 : decode b_Mo_passes 5 = .ok (.lconst 1, 1) := by decide +kernel
theorem d_Mo_passes_6 : decode b_Mo_passes 6 = .ok (.lcmp, 1) := by decide +kernel
theorem d_Mo_passes_7 : decode b_Mo_passes 7 = .ok (.ifCond .eq 15, 3) := by decide +kernel
theorem d_Mo_passes_10 : decode b_Mo_passes 10 = .ok (.lload 4, 2) := by decide +kernel
theorem d_Mo_passes_12 : decode b_Mo_passes 12 = .ok (.aload_n 0, 1) := by decide +kernel
theorem d_Mo_passes_13 : decode b_Mo_passes 13 = .ok (.getfield 9, 3) := by decide +kernel
theorem d_Mo_passes_16 : decode b_Mo_passes 16 = .ok (.lconst 1, 1) := by decide +kernel
theorem d_Mo_passes_17 : decode b_Mo_passes 17 = .ok (.lsub, 1) := by decide +kernel
theorem d_Mo_passes_18 : decode b_Mo_passes 18 = .ok (.lcmp, 1) := by decide +kernel
theorem d_Mo_passes_19 : decode b_Mo_passes 19 = .ok (.ifCond .ne 7, 3) := by decide +kernel
theorem d_Mo_passes_22 : decode b_Mo_passes 22 = .ok (.iconst 1, 1) := by decide +kernel
theorem d_Mo_passes_23 : decode b_Mo_passes 23 = .ok (.goto 4, 3) := by decide +kernel
theorem d_Mo_passes_26 : decode b_Mo_passes 26 = .ok (.iconst 0, 1) := by decide +kernel
theorem d_Mo_passes_27 : decode b_Mo_passes 27 = .ok (.istore 6, 2) := by decide +kernel
theorem d_Mo_passes_29 : decode b_Mo_passes 29 = .ok (.iconst 1, 1) := by decide +kernel
theorem d_Mo_passes_30 : decode b_Mo_passes 30 = .ok (.istore 7, 2) := by decide +kernel
theorem d_Mo_passes_32 : decode b_Mo_passes 32 = .ok (.iload 7, 2) := by decide +kernel
theorem d_Mo_passes_34 : decode b_Mo_passes 34 = .ok (.iload_n 3, 1) := by decide +kernel
theorem d_Mo_passes_35 : decode b_Mo_passes 35 = .ok (.if_icmp .ge 43, 3) := by decide +kernel
theorem d_Mo_passes_38 : decode b_Mo_passes 38 = .ok (.iload 6, 2) := by decide +kernel
theorem d_Mo_passes_40 : decode b_Mo_passes 40 = .ok (.ifCond .ne 38, 3) := by decide +kernel
theorem d_Mo_passes_43 : decode b_Mo_passes 43 = .ok (.aload_n 0, 1) := by decide +kernel
theorem d_Mo_passes_44 : decode b_Mo_passes 44 = .ok (.lload 4, 2) := by decide +kernel
theorem d_Mo_passes_46 : decode b_Mo_passes 46 = .ok (.lload 4, 2) := by decide +kernel
theorem d_Mo_passes_48 : decode b_Mo_passes 48 = .ok (.invokevirtual 63, 3) := by decide +kernel
theorem d_Mo_passes_51 : decode b_Mo_passes 51 = .ok (.lstore 4, 2) := by decide +kernel
theorem d_Mo_passes_53 : decode b_Mo_passes 53 = .ok (.lload 4, 2) := by decide +kernel
theorem d_Mo_passes_55 : decode b_Mo_passes 55 = .ok (.aload_n 0, 1) := by decide +kernel
theorem d_Mo_passes_56 : decode b_Mo_passes 56 = .ok (.getfield 9, 3) := by decide +kernel
theorem d_Mo_passes_59 : decode b_Mo_passes 59 = .ok (.lconst 1, 1) := by decide +kernel
theorem d_Mo_passes_60 : decode b_Mo_passes 60 = .ok (.lsub, 1) := by decide +kernel
theorem d_Mo_passes_61 : decode b_Mo_passes 61 = .ok (.lcmp, 1) := by decide +kernel
theorem d_Mo_passes_62 : decode b_Mo_passes 62 = .ok (.ifCond .ne 7, 3) := by decide +kernel
theorem d_Mo_passes_65 : decode b_Mo_passes 65 = .ok (.iconst 1, 1) := by decide +kernel
theorem d_Mo_passes_66 : decode b_Mo_passes 66 = .ok (.goto 4, 3) := by decide +kernel
theorem d_Mo_passes_69 : decode b_Mo_passes 69 = .ok (.iconst 0, 1) := by decide +kernel
theorem d_Mo_passes_70 : decode b_Mo_passes 70 = .ok (.istore 6, 2) := by decide +kernel
theorem d_Mo_passes_72 : decode b_Mo_passes 72 = .ok (.iinc 7 1, 3) := by decide +kernel
theorem d_Mo_passes_75 : decode b_Mo_passes 75 = .ok (.goto (-43), 3) := by decide +kernel
theorem d_Mo_passes_78 : decode b_Mo_passes 78 = .ok (.iload 6, 2) := by decide +kernel
theorem d_Mo_passes_80 : decode b_Mo_passes 80 = .ok (.ireturn, 1) := by decide +kernel
set_option maxHeartbeats 4000000 in
set_option maxRecDepth 100000 in
theorem c_Mo_passes (l : Launch) (H0 : Heap) (dC : Nat → ClassId) (dI : Nat → Nat → Nat) (h0 : Nat) (N f k : Nat) (X t : Nat) (hP : va_P (dC, dI) classes [(h0, .inr (0, md_fs N f k))] H0) (hok : md_ok N f k) (hX : X < N) (ht1 : 1 ≤ t) (ht : t < 2 ^ 31) : Met l y_Mo_passes w_Mo_passes ({ frames := 2, cells := 0, slots := 0, locals := 60 }) (va_Pc [.ref h0, .long (lN X), .int (nI t)] (fun U => U.heap = H0 ∧ va_K (dC, dI) classes [] U)) (va_Qi (fun (r : Int32) (_ : Unit) => (r = 1 ∧ (X = 1 ∨ ∃ i, i < t ∧ X ^ 2 ^ i % N = N - 1)) ∨ (r = 0 ∧ ¬ (X = 1 ∨ ∃ i, i < t ∧ X ^ 2 ^ i % N = N - 1))) (fun _ t => t.heap = H0) (fun _ => False)) 0 0 (fun _ => False) := by
  refine Met.ofW (cc := b_Mo_passes) (maxL := 8) (ret := (some .boolean)) (by decide) rfl ?_
  intro p e s m args below meth c s₁ Bd hml hv
  obtain ⟨rfl, hH, hK⟩ := hv
  subst hH
  have hx := Bd.exec
  have hb := Bd.bytes
  have hr := Bd.returns
  have hts := atoms_spec (ws := w_Mo_passes) Bd.pre
  have hown : s.vm.findClass "BallotBoard$Modulus" = some m.cls := findClass_of_methodNamed Bd.named
  have hlocks := Bd.notSynchronized
  have hS : va_S (fun _ => False) s.heap s.heap [] := va_S.rf
  have hl := lv_entry ([.ref h0, .long (lN X), .int (nI t)]) (n := 8) (Nat.le_of_ble_eq_true rfl)
  rw [lg_entry_eq]
  generalize (lg_sl ([.ref h0, .long (lN X), .int (nI t)]) ++ List.replicate (8 - (lg_sl ([.ref h0, .long (lN X), .int (nI t)])).length) Slot.unset).toArray = ls at hl ⊢
  have hl : lv_has ls 8 [(0, .ref h0), (1, .long (lN X)), (3, .int (nI t))] := hl
  have hK0 : va_K (dC, dI) classes [] s := hK
  obtain ⟨ho, h3, h61, hf31, hfN, hk61, hNk⟩ := id hok
  have loop : X ≠ 1 → ∀ (j i : Nat), i + 1 + j = t → (∀ a, a ≤ i → X ^ 2 ^ a % N ≠ N - 1) → ∀ (locs : List Loc), va_S (fun _ => False) s.heap s.heap locs → ∀ (ls : Array Slot), lv_has ls 8 [(0, .ref h0), (1, .long (lN X)), (3, .int (nI t)), (4, .long (lN (X ^ 2 ^ i % N))), (6, .int 0), (7, .int (nI (i + 1)))] → W p l e ({ frames := 2, cells := 0, slots := 0, locals := 60 } : Room) s m ([.ref h0, .long (lN X), .int (nI t)] : List Value).toArray below meth c s.heap locs 0 0 (MQ below (va_Qi (fun (r : Int32) (_ : Unit) => (r = 1 ∧ (X = 1 ∨ ∃ i, i < t ∧ X ^ 2 ^ i % N = N - 1)) ∨ (r = 0 ∧ ¬ (X = 1 ∨ ∃ i, i < t ∧ X ^ 2 ^ i % N = N - 1))) (fun _ t => t.heap = s.heap) (fun _ => False)) ([.ref h0, .long (lN X), .int (nI t)] : List Value).toArray s 0 0 (fun _ => False)) (F0 m 32 ls []) := by
    intro hX1 j
    induction j using Nat.strongRecOn with
    | ind j ih =>
      intro i hij hno locs hS ls hl
      refine lv_iload hx hb d_Mo_passes_32 (lv_at hl 5 rfl) ?_
      refine lv_iload_n hx hb d_Mo_passes_34 rfl (lv_at hl 2 rfl) ?_
      refine lv_icmp_ge (tgt := 78) hx hb d_Mo_passes_35 (by decide) (fun c_1 => ?_) (fun c_1 => ?_)
      · -- taken
        have hit : i + 1 = t := by
          have := (ige t (by omega) (by omega) rfl).mp c_1
          omega
        refine lv_iload hx hb d_Mo_passes_78 (lv_at hl 4 rfl) ?_
        exact W.zret (v := 0) hx hb hr (by decide) (fun t ht hW => ⟨⟨_, (), rfl, (Or.inr ⟨rfl, fun h => h.elim hX1 (fun ⟨a, ha, hh⟩ => hno a (by omega) hh)⟩), ht⟩, hS.F ht⟩) hS.2.2 d_Mo_passes_80
      · -- not taken
        have hit : i + 1 < t := Nat.lt_of_not_le (fun h => c_1 ((ige t (by omega) (by omega) rfl).mpr h))
        refine lv_iload hx hb d_Mo_passes_38 (lv_at hl 4 rfl) ?_
        refine lv_if_ne (tgt := 78) hx hb d_Mo_passes_40 (by decide) (fun c_2 => ?_) (fun c_2 => ?_)
        · -- taken
          exact absurd rfl c_2
        · -- not taken
          refine lv_aload_n hx hb d_Mo_passes_43 rfl (lv_at hl 0 rfl) ?_
          refine lv_lload hx hb d_Mo_passes_44 (lv_at hl 3 rfl) ?_
          refine lv_lload hx hb d_Mo_passes_46 (lv_at hl 3 rfl) ?_
          refine va_calll (va_runV (As := [.long (lN (X ^ 2 ^ i % N)), .long (lN (X ^ 2 ^ i % N))]) (rest := []) ⟨hx, hb, hml, hown, hts⟩ (c_Mo_times l s.heap dC dI h0 N f k (X ^ 2 ^ i % N) (X ^ 2 ^ i % N) hP hok (Nat.mod_lt _ (by omega)) (Nat.mod_lt _ (by omega))) (cwV 2 hts (gw_V gk_247 gk_248 gk_249 gk_9 gk_250) rfl rfl rfl (by decide +kernel) ⟨Nat.le_of_ble_eq_true rfl, Nat.le_of_ble_eq_true rfl⟩) ⟨fun a U g mk q => ⟨q.1, q.2.1, va_K.moved (u := U) (U := U.calling g mk a) (Vm.Alike.refl U.vm) q.2.2⟩, va_recv hK hP (ci := 0) (q0 := 0) rfl rfl, fun U hU hW => ⟨rfl, hU, va_K.moved hW.alike hK0⟩⟩ rfl rfl hl.1 rfl (lv_room (Nat.le_of_ble_eq_true rfl)) d_Mo_passes_48 ⟨Nat.zero_le _, Nat.zero_le _⟩) hS (fun q _ h => h.elim) (fun q h => h.elim) (fun r_3 u9 t9 H1 locs ht hvm hw hB hz1 hk1 hS => ?_)
          obtain rfl : s.heap = H1 := hB.symm.trans ht
          have hw : r_3 = lN ((X ^ 2 ^ i % N) * (X ^ 2 ^ i % N) % N) := hw
          subst hw
          rw [show (lN ((X ^ 2 ^ i % N) * (X ^ 2 ^ i % N) % N) : Int64) = (lN (X ^ 2 ^ (i + 1) % N)) from by rw [sq_one]]
          refine lv_lstore (lv' := [(4, .long (lN (X ^ 2 ^ (i + 1) % N))), (0, .ref h0), (1, .long (lN X)), (3, .int (nI t)), (6, .int 0), (7, .int (nI (i + 1)))]) hx hb d_Mo_passes_51 hl (by decide) rfl (fun ls hl => ?_)
          refine lv_lload hx hb d_Mo_passes_53 (lv_at hl 0 rfl) ?_
          refine lv_aload_n hx hb d_Mo_passes_55 rfl (lv_at hl 1 rfl) ?_
          refine va_get (D := (dC, dI)) (ci := 0) (v := .long (lN N)) (C := "BallotBoard$Modulus") (T := F_Mo) (N := 7) hx hb hts (fun w9 h9 => List.mem_cons_of_mem _ (i_Mo w9 h9)) hown hK hP 0 rfl rfl 0 (by decide) (hts _ (List.mem_cons_of_mem _ gk_207)) (fun _ h9 => h9) rfl d_Mo_passes_56 ?_
          refine lv_lconst (v := 1) hx hb d_Mo_passes_59 (by decide) ?_
          refine lv_lsub hx hb d_Mo_passes_60 ?_
          rw [show ((lN N) - 1 : Int64) = (lN (N - 1)) from lsub1 (by omega)]
          refine W.lcmp hx hb d_Mo_passes_61 ?_
          refine lv_if_ne (tgt := 69) hx hb d_Mo_passes_62 (by decide) (fun c_4 => ?_) (fun c_4 => ?_)
          · -- taken
            have hx1 : X ^ 2 ^ (i + 1) % N ≠ N - 1 := fun h => c_4 ((ln_cmp_eq (Nat.lt_trans (Nat.mod_lt _ (by omega)) (by omega)) (by omega)).mpr h)
            refine lv_iconst (v := 0) hx hb d_Mo_passes_69 (by decide) ?_
            refine lv_istore (lv' := [(6, .int 0), (4, .long (lN (X ^ 2 ^ (i + 1) % N))), (0, .ref h0), (1, .long (lN X)), (3, .int (nI t)), (7, .int (nI (i + 1)))]) hx hb d_Mo_passes_70 hl (by decide) rfl (fun ls hl => ?_)
            obtain ⟨i_5, ei_5⟩ : ∃ y : Int32, y = (nI (i + 1)) + 1 := ⟨_, rfl⟩
            refine lv_iinc (v := i_5) (lv' := [(7, .int i_5), (6, .int 0), (4, .long (lN (X ^ 2 ^ (i + 1) % N))), (0, .ref h0), (1, .long (lN X)), (3, .int (nI t))]) hx hb d_Mo_passes_72 hl (k := 5) rfl (by rw [ei_5]; rfl) (by decide) rfl (fun ls hl => ?_)
            obtain rfl : i_5 = nI (i + 1 + 1) := by rw [ei_5]; exact nI_1 (i + 1)
            refine lv_goto (tgt := 32) hx hb d_Mo_passes_75 (by decide) ?_
            exact ih (j - 1) (by omega) (i + 1) (by omega) (fun a ha => by
              by_cases e : a = i + 1
              · rw [e]
                exact hx1
              · exact hno a (by omega)) locs hS ls (lv_sub hl [3, 4, 5, 2, 1, 0] rfl)
          · -- not taken
            have hx1 : X ^ 2 ^ (i + 1) % N = N - 1 := (ln_cmp_eq (Nat.lt_trans (Nat.mod_lt _ (by omega)) (by omega)) (by omega)).mp c_4
            refine lv_iconst (v := 1) hx hb d_Mo_passes_65 (by decide) ?_
            refine lv_goto (tgt := 70) hx hb d_Mo_passes_66 (by decide) ?_
            refine lv_istore (lv' := [(6, .int 1), (4, .long (lN (X ^ 2 ^ (i + 1) % N))), (0, .ref h0), (1, .long (lN X)), (3, .int (nI t)), (7, .int (nI (i + 1)))]) hx hb d_Mo_passes_70 hl (by decide) rfl (fun ls hl => ?_)
            obtain ⟨i_6, ei_6⟩ : ∃ y : Int32, y = (nI (i + 1)) + 1 := ⟨_, rfl⟩
            refine lv_iinc (v := i_6) (lv' := [(7, .int i_6), (6, .int 1), (4, .long (lN (X ^ 2 ^ (i + 1) % N))), (0, .ref h0), (1, .long (lN X)), (3, .int (nI t))]) hx hb d_Mo_passes_72 hl (k := 5) rfl (by rw [ei_6]; rfl) (by decide) rfl (fun ls hl => ?_)
            obtain rfl : i_6 = nI (i + 1 + 1) := by rw [ei_6]; exact nI_1 (i + 1)
            refine lv_goto (tgt := 32) hx hb d_Mo_passes_75 (by decide) ?_
            refine lv_iload hx hb d_Mo_passes_32 (lv_at hl 0 rfl) ?_
            refine lv_iload_n hx hb d_Mo_passes_34 rfl (lv_at hl 5 rfl) ?_
            refine lv_icmp_ge (tgt := 78) hx hb d_Mo_passes_35 (by decide) (fun c_7 => ?_) (fun c_7 => ?_)
            · -- taken
              have hz := c_7
              refine lv_iload hx hb d_Mo_passes_78 (lv_at hl 1 rfl) ?_
              exact W.zret (v := 1) hx hb hr (by decide) (fun t ht hW => ⟨⟨_, (), rfl, (Or.inl ⟨rfl, Or.inr ⟨i + 1, hit, hx1⟩⟩), ht⟩, hS.F ht⟩) hS.2.2 d_Mo_passes_80
            · -- not taken
              have hz := c_7
              refine lv_iload hx hb d_Mo_passes_38 (lv_at hl 1 rfl) ?_
              refine lv_if_ne (tgt := 78) hx hb d_Mo_passes_40 (by decide) (fun c_8 => ?_) (fun c_8 => ?_)
              · -- taken
                refine lv_iload hx hb d_Mo_passes_78 (lv_at hl 1 rfl) ?_
                exact W.zret (v := 1) hx hb hr (by decide) (fun t ht hW => ⟨⟨_, (), rfl, (Or.inl ⟨rfl, Or.inr ⟨i + 1, hit, hx1⟩⟩), ht⟩, hS.F ht⟩) hS.2.2 d_Mo_passes_80
              · -- not taken
                exact absurd c_8 (by decide)
  refine lv_lload_n hx hb d_Mo_passes_0 rfl (lv_at hl 1 rfl) ?_
  refine lv_lstore (lv' := [(4, .long (lN X)), (0, .ref h0), (1, .long (lN X)), (3, .int (nI t))]) hx hb d_Mo_passes_1 hl (by decide) rfl (fun ls hl => ?_)
  refine lv_lload hx hb d_Mo_passes_3 (lv_at hl 0 rfl) ?_
  refine lv_lconst (v := 1) hx hb d_Mo_passes_5 (by decide) ?_
  refine W.lcmp hx hb d_Mo_passes_6 ?_
  refine lv_if_eq (tgt := 22) hx hb d_Mo_passes_7 (by decide) (fun c_1 => ?_) (fun c_1 => ?_)
  · -- taken
    have hX1 : X = 1 := (cmpe (by omega) 1 (by omega) rfl).mp c_1
    have hgood : X = 1 ∨ ∃ i, i < t ∧ X ^ 2 ^ i % N = N - 1 := Or.inl hX1
    refine lv_iconst (v := 1) hx hb d_Mo_passes_22 (by decide) ?_
    refine lv_goto (tgt := 27) hx hb d_Mo_passes_23 (by decide) ?_
    refine lv_istore (lv' := [(6, .int 1), (4, .long (lN X)), (0, .ref h0), (1, .long (lN X)), (3, .int (nI t))]) hx hb d_Mo_passes_27 hl (by decide) rfl (fun ls hl => ?_)
    refine lv_iconst (v := 1) hx hb d_Mo_passes_29 (by decide) ?_
    refine lv_istore (lv' := [(7, .int 1), (6, .int 1), (4, .long (lN X)), (0, .ref h0), (1, .long (lN X)), (3, .int (nI t))]) hx hb d_Mo_passes_30 hl (by decide) rfl (fun ls hl => ?_)
    refine lv_iload hx hb d_Mo_passes_32 (lv_at hl 0 rfl) ?_
    refine lv_iload_n hx hb d_Mo_passes_34 rfl (lv_at hl 5 rfl) ?_
    refine lv_icmp_ge (tgt := 78) hx hb d_Mo_passes_35 (by decide) (fun c_2 => ?_) (fun c_2 => ?_)
    · -- taken
      have hz := c_2
      refine lv_iload hx hb d_Mo_passes_78 (lv_at hl 1 rfl) ?_
      exact W.zret (v := 1) hx hb hr (by decide) (fun t ht hW => ⟨⟨_, (), rfl, (Or.inl ⟨rfl, hgood⟩), ht⟩, hS.F ht⟩) hS.2.2 d_Mo_passes_80
    · -- not taken
      have hz := c_2
      refine lv_iload hx hb d_Mo_passes_38 (lv_at hl 1 rfl) ?_
      refine lv_if_ne (tgt := 78) hx hb d_Mo_passes_40 (by decide) (fun c_3 => ?_) (fun c_3 => ?_)
      · -- taken
        refine lv_iload hx hb d_Mo_passes_78 (lv_at hl 1 rfl) ?_
        exact W.zret (v := 1) hx hb hr (by decide) (fun t ht hW => ⟨⟨_, (), rfl, (Or.inl ⟨rfl, hgood⟩), ht⟩, hS.F ht⟩) hS.2.2 d_Mo_passes_80
      · -- not taken
        exact absurd c_3 (by decide)
  · -- not taken
    have hX1 : X ≠ 1 := fun h => c_1 ((cmpe (by omega) 1 (by omega) rfl).mpr h)
    refine lv_lload hx hb d_Mo_passes_10 (lv_at hl 0 rfl) ?_
    refine lv_aload_n hx hb d_Mo_passes_12 rfl (lv_at hl 1 rfl) ?_
    refine va_get (D := (dC, dI)) (ci := 0) (v := .long (lN N)) (C := "BallotBoard$Modulus") (T := F_Mo) (N := 7) hx hb hts (fun w9 h9 => List.mem_cons_of_mem _ (i_Mo w9 h9)) hown hK hP 0 rfl rfl 0 (by decide) (hts _ (List.mem_cons_of_mem _ gk_207)) (fun _ h9 => h9) rfl d_Mo_passes_13 ?_
    refine lv_lconst (v := 1) hx hb d_Mo_passes_16 (by decide) ?_
    refine lv_lsub hx hb d_Mo_passes_17 ?_
    rw [show ((lN N) - 1 : Int64) = (lN (N - 1)) from lsub1 (by omega)]
    refine W.lcmp hx hb d_Mo_passes_18 ?_
    refine lv_if_ne (tgt := 26) hx hb d_Mo_passes_19 (by decide) (fun c_4 => ?_) (fun c_4 => ?_)
    · -- taken
      have hXn : X ≠ N - 1 := fun h => c_4 ((ln_cmp_eq (by omega) (by omega)).mpr h)
      refine lv_iconst (v := 0) hx hb d_Mo_passes_26 (by decide) ?_
      refine lv_istore (lv' := [(6, .int 0), (4, .long (lN X)), (0, .ref h0), (1, .long (lN X)), (3, .int (nI t))]) hx hb d_Mo_passes_27 hl (by decide) rfl (fun ls hl => ?_)
      refine lv_iconst (v := 1) hx hb d_Mo_passes_29 (by decide) ?_
      refine lv_istore (lv' := [(7, .int 1), (6, .int 0), (4, .long (lN X)), (0, .ref h0), (1, .long (lN X)), (3, .int (nI t))]) hx hb d_Mo_passes_30 hl (by decide) rfl (fun ls hl => ?_)
      exact loop hX1 (t - 1) 0 (by omega) (fun a ha => by
        have e : a = 0 := by omega
        rw [e, Nat.pow_zero, Nat.pow_one, Nat.mod_eq_of_lt hX]
        exact hXn) [] hS ls (lv_sub hl [3, 4, 5, 2, 1, 0] (by rw [Nat.pow_zero, Nat.pow_one, Nat.mod_eq_of_lt hX]; rfl))
    · -- not taken
      have hXn : X = N - 1 := (ln_cmp_eq (by omega) (by omega)).mp c_4
      have hgood : X = 1 ∨ ∃ i, i < t ∧ X ^ 2 ^ i % N = N - 1 := Or.inr ⟨0, by omega, by rw [Nat.pow_zero, Nat.pow_one, Nat.mod_eq_of_lt hX]; exact hXn⟩
      refine lv_iconst (v := 1) hx hb d_Mo_passes_22 (by decide) ?_
      refine lv_goto (tgt := 27) hx hb d_Mo_passes_23 (by decide) ?_
      refine lv_istore (lv' := [(6, .int 1), (4, .long (lN X)), (0, .ref h0), (1, .long (lN X)), (3, .int (nI t))]) hx hb d_Mo_passes_27 hl (by decide) rfl (fun ls hl => ?_)
      refine lv_iconst (v := 1) hx hb d_Mo_passes_29 (by decide) ?_
      refine lv_istore (lv' := [(7, .int 1), (6, .int 1), (4, .long (lN X)), (0, .ref h0), (1, .long (lN X)), (3, .int (nI t))]) hx hb d_Mo_passes_30 hl (by decide) rfl (fun ls hl => ?_)
      refine lv_iload hx hb d_Mo_passes_32 (lv_at hl 0 rfl) ?_
      refine lv_iload_n hx hb d_Mo_passes_34 rfl (lv_at hl 5 rfl) ?_
      refine lv_icmp_ge (tgt := 78) hx hb d_Mo_passes_35 (by decide) (fun c_5 => ?_) (fun c_5 => ?_)
      · -- taken
        have hz := c_5
        refine lv_iload hx hb d_Mo_passes_78 (lv_at hl 1 rfl) ?_
        exact W.zret (v := 1) hx hb hr (by decide) (fun t ht hW => ⟨⟨_, (), rfl, (Or.inl ⟨rfl, hgood⟩), ht⟩, hS.F ht⟩) hS.2.2 d_Mo_passes_80
      · -- not taken
        have hz := c_5
        refine lv_iload hx hb d_Mo_passes_38 (lv_at hl 1 rfl) ?_
        refine lv_if_ne (tgt := 78) hx hb d_Mo_passes_40 (by decide) (fun c_6 => ?_) (fun c_6 => ?_)
        · -- taken
          refine lv_iload hx hb d_Mo_passes_78 (lv_at hl 1 rfl) ?_
          exact W.zret (v := 1) hx hb hr (by decide) (fun t ht hW => ⟨⟨_, (), rfl, (Or.inl ⟨rfl, hgood⟩), ht⟩, hS.F ht⟩) hS.2.2 d_Mo_passes_80
        · -- not taken
          exact absurd c_6 (by decide)
