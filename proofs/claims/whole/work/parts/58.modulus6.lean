abbrev b_Mo_init : ByteArray := prog_6_method_1_code
abbrev y_Mo_init : MethodName := ⟨"BallotBoard$Modulus", "<init>", "(J)V"⟩
abbrev w_Mo_init : List Cond := .code y_Mo_init b_Mo_init 3 none :: gw
theorem d_Mo_init_0 : decode b_Mo_init 0 = .ok (.aload_n 0, 1) := by decide +kernel
theorem d_Mo_init_1 : decode b_Mo_init 1 = .ok (.invokespecial 3, 3) := by decide +kernel
theorem d_Mo_init_4 : decode b_Mo_init 4 = .ok (.aload_n 0, 1) := by decide +kernel
theorem d_Mo_init_5 : decode b_Mo_init 5 = .ok (.lload_n 1, 1) := by decide +kernel
theorem d_Mo_init_6 : decode b_Mo_init 6 = .ok (.putfield 9, 3) := by decide +kernel
theorem d_Mo_init_9 : decode b_Mo_init 9 = .ok (.aload_n 0, 1) := by decide +kernel
theorem d_Mo_init_10 : decode b_Mo_init 10 = .ok (.lload_n 1, 1) := by decide +kernel
theorem d_Mo_init_11 : decode b_Mo_init 11 = .ok (.ldc2_w 13, 3) := by decide +kernel
theorem d_Mo_init_14 : decode b_Mo_init 14 = .ok (.land, 1) := by decide +kernel
theorem d_Mo_init_15 : decode b_Mo_init 15 = .ok (.putfield 15, 3) := by decide +kernel
theorem d_Mo_init_18 : decode b_Mo_init 18 = .ok (.aload_n 0, 1) := by decide +kernel
theorem d_Mo_init_19 : decode b_Mo_init 19 = .ok (.lload_n 1, 1) := by decide +kernel
theorem d_Mo_init_20 : decode b_Mo_init 20 = .ok (.bipush 31, 2) := by decide +kernel
theorem d_Mo_init_22 : decode b_Mo_init 22 = .ok (.lushr, 1) := by decide +kernel
theorem d_Mo_init_23 : decode b_Mo_init 23 = .ok (.putfield 18, 3) := by decide +kernel
theorem d_Mo_init_26 : decode b_Mo_init 26 = .ok (.aload_n 0, 1) := by decide +kernel
theorem d_Mo_init_27 : decode b_Mo_init 27 = .ok (.lload_n 1, 1) := by decide +kernel
theorem d_Mo_init_28 : decode b_Mo_init 28 = .ok (.invokestatic 21, 3) := by decide +kernel
theorem d_Mo_init_31 : decode b_Mo_init 31 = .ok (.putfield 25, 3) := by decide +kernel
theorem d_Mo_init_34 : decode b_Mo_init 34 = .ok (.aload_n 0, 1) := by decide +kernel
theorem d_Mo_init_35 : decode b_Mo_init 35 = .ok (.lconst 1, 1) := by decide +kernel
theorem d_Mo_init_36 : decode b_Mo_init 36 = .ok (.bipush 62, 2) := by decide +kernel
theorem d_Mo_init_38 : decode b_Mo_init 38 = .ok (.lload_n 1, 1) := by decide +kernel
theorem d_Mo_init_39 : decode b_Mo_init 39 = .ok (.invokestatic 28, 3) := by decide +kernel
theorem d_Mo_init_42 : decode b_Mo_init 42 = .ok (.putfield 32, 3) := by decide +kernel
theorem d_Mo_init_45 : decode b_Mo_init 45 = .ok (.aload_n 0, 1) := by decide +kernel
theorem d_Mo_init_46 : decode b_Mo_init 46 = .ok (.aload_n 0, 1) := by decide +kernel
theorem d_Mo_init_47 : decode b_Mo_init 47 = .ok (.getfield 32, 3) := by decide +kernel
theorem d_Mo_init_50 : decode b_Mo_init 50 = .ok (.bipush 62, 2) := by decide +kernel
theorem d_Mo_init_52 : decode b_Mo_init 52 = .ok (.lload_n 1, 1) := by decide +kernel
theorem d_Mo_init_53 : decode b_Mo_init 53 = .ok (.invokestatic 28, 3) := by decide +kernel
theorem d_Mo_init_56 : decode b_Mo_init 56 = .ok (.putfield 35, 3) := by decide +kernel
theorem d_Mo_init_59 : decode b_Mo_init 59 = .ok (.aload_n 0, 1) := by decide +kernel
theorem d_Mo_init_60 : decode b_Mo_init 60 = .ok (.lload_n 1, 1) := by decide +kernel
theorem d_Mo_init_61 : decode b_Mo_init 61 = .ok (.invokestatic 38, 3) := by decide +kernel
theorem d_Mo_init_64 : decode b_Mo_init 64 = .ok (.putfield 42, 3) := by decide +kernel
theorem d_Mo_init_67 : decode b_Mo_init 67 = .ok (.return_, 1) := by decide +kernel
set_option maxHeartbeats 4000000 in
set_option maxRecDepth 100000 in
theorem c_Mo_init (l : Launch) (dC : Nat → ClassId) (dI : Nat → Nat → Nat) (h0 sz : Nat) (N : Nat) (ho : N % 2 = 1) (h3 : 3 ≤ N) (h61 : N < 2 ^ 61) : Met l y_Mo_init w_Mo_init ({ frames := 1, cells := 0, slots := 0, locals := 27 }) (va_Pc [.ref h0, .long (lN N)] (fun U => U.heap.size = sz ∧ va_P (dC, dI) classes [(h0, .inr (0, [.long 0, .long 0, .long 0, .long 0, .long 0, .long 0, .int 0]))] U.heap ∧ va_K (dC, dI) classes [] U ∧ va_D (fun _ => True) [(h0, .inr (0, [.long 0, .long 0, .long 0, .long 0, .long 0, .long 0, .int 0]))])) (va_Qv (fun u : Nat × Nat => md_ok N u.1 u.2) (fun u t => va_P (dC, dI) classes [(h0, .inr (0, md_fs N u.1 u.2))] t.heap ∧ va_K (dC, dI) classes [] t ∧ va_D (va_A [(h0, .inr (0, [.long 0, .long 0, .long 0, .long 0, .long 0, .long 0, .int 0]))] sz) [(h0, .inr (0, md_fs N u.1 u.2))]) (va_A [(h0, .inr (0, [.long 0, .long 0, .long 0, .long 0, .long 0, .long 0, .int 0]))] sz)) 0 0 (va_A [(h0, .inr (0, [.long 0, .long 0, .long 0, .long 0, .long 0, .long 0, .int 0]))] sz) := by
  refine Met.ofW (cc := b_Mo_init) (maxL := 3) (ret := none) (by decide) rfl ?_
  intro p e s m args below meth c s₁ Bd hml hv
  obtain ⟨rfl, hsz, hP, hK, hD0⟩ := hv
  have hx := Bd.exec
  have hb := Bd.bytes
  have hr := Bd.returns
  have hts := atoms_spec (ws := w_Mo_init) Bd.pre
  have hown : s.vm.findClass "BallotBoard$Modulus" = some m.cls := findClass_of_methodNamed Bd.named
  have hlocks := Bd.notSynchronized
  have hin : meth.name = "<init>" := (name_of_methodNamed Bd.named Bd.method).1
  subst hsz
  have hD := hD0.self (sz := s.heap.size)
  generalize hAe : va_A [(h0, .inr (0, [.long 0, .long 0, .long 0, .long 0, .long 0, .long 0, .int 0]))] s.heap.size = A at hD ⊢
  have hA : ∀ q : Nat, s.heap.size ≤ q → A q := fun q h => by rw [← hAe]; exact Or.inr h
  have hS : va_S A s.heap s.heap [] := va_S.rf
  have hP : va_P (dC, dI) classes [(h0, .inr (0, [.long 0, .long 0, .long 0, .long 0, .long 0, .long 0, .int 0]))] s.heap := hP
  have hl := lv_entry ([.ref h0, .long (lN N)]) (n := 3) (Nat.le_of_ble_eq_true rfl)
  rw [lg_entry_eq]
  generalize (lg_sl ([.ref h0, .long (lN N)]) ++ List.replicate (3 - (lg_sl ([.ref h0, .long (lN N)])).length) Slot.unset).toArray = ls at hl ⊢
  have hl : lv_has ls 3 [(0, .ref h0), (1, .long (lN N))] := hl
  refine lv_aload_n hx hb d_Mo_init_0 rfl (lv_at hl 0 rfl) ?_
  refine W.objInit hx hb hown (hts _ (List.mem_cons_of_mem _ gk_195)) (hts _ (List.mem_cons_of_mem _ gk_25)) (hts _ (List.mem_cons_of_mem _ gk_26)) rfl (by rw [hml]; exact hl.1) rfl d_Mo_init_1 (Nat.le_of_ble_eq_true rfl) (Nat.le_of_ble_eq_true rfl) ?_
  refine W.eq (g2 := F0 m 4 ls []) rfl ?_
  refine lv_aload_n hx hb d_Mo_init_4 rfl (lv_at hl 0 rfl) ?_
  refine lv_lload_n hx hb d_Mo_init_5 rfl (lv_at hl 1 rfl) ?_
  refine va_putF (D := (dC, dI)) (ci := 0) (v := .long (lN N)) (ty := .long) (C := "BallotBoard$Modulus") (T := F_Mo) (N := 7) hx hb hts (fun w9 h9 => List.mem_cons_of_mem _ (i_Mo w9 h9)) t_Mo t_Mo_ok n_Mo hown hK hP hD hS 0 rfl rfl 0 (by decide) (hts _ (List.mem_cons_of_mem _ gk_207)) (fun _ h9 => h9) rfl hin rfl (by decide +kernel) rfl rfl (Nat.le_of_ble_eq_true rfl) d_Mo_init_6 (fun H locs hP hD hS => ?_)
  have hP : va_P (dC, dI) classes [(h0, .inr (0, [.long (lN N), .long 0, .long 0, .long 0, .long 0, .long 0, .int 0]))] H := hP
  have hD : va_D A [(h0, .inr (0, [.long (lN N), .long 0, .long 0, .long 0, .long 0, .long 0, .int 0]))] := hD
  refine lv_aload_n hx hb d_Mo_init_9 rfl (lv_at hl 0 rfl) ?_
  refine lv_lload_n hx hb d_Mo_init_10 rfl (lv_at hl 1 rfl) ?_
  refine lv_ldc2 (v := 2147483647) hx hb hown (hts _ (List.mem_cons_of_mem _ gk_196)) d_Mo_init_11 ?_
  refine lv_land hx hb d_Mo_init_14 ?_
  rw [show ((lN N) &&& 2147483647 : Int64) = (lN (N % 2 ^ 31)) from lw_mask _]
  refine va_putF (D := (dC, dI)) (ci := 0) (v := .long (lN (N % 2 ^ 31))) (ty := .long) (C := "BallotBoard$Modulus") (T := F_Mo) (N := 7) hx hb hts (fun w9 h9 => List.mem_cons_of_mem _ (i_Mo w9 h9)) t_Mo t_Mo_ok n_Mo hown hK hP hD hS 0 rfl rfl 1 (by decide) (hts _ (List.mem_cons_of_mem _ gk_208)) (fun _ h9 => h9) rfl hin rfl (by decide +kernel) rfl rfl (Nat.le_of_ble_eq_true rfl) d_Mo_init_15 (fun H locs hP hD hS => ?_)
  have hP : va_P (dC, dI) classes [(h0, .inr (0, [.long (lN N), .long (lN (N % 2 ^ 31)), .long 0, .long 0, .long 0, .long 0, .int 0]))] H := hP
  have hD : va_D A [(h0, .inr (0, [.long (lN N), .long (lN (N % 2 ^ 31)), .long 0, .long 0, .long 0, .long 0, .int 0]))] := hD
  refine lv_aload_n hx hb d_Mo_init_18 rfl (lv_at hl 0 rfl) ?_
  refine lv_lload_n hx hb d_Mo_init_19 rfl (lv_at hl 1 rfl) ?_
  refine lv_bipush (v := 31) hx hb d_Mo_init_20 (by decide) ?_
  refine lv_lushr (v := ((lN N).toUInt64 >>> ((31 : Int32).toInt64.toUInt64 &&& Int64.toUInt64 63)).toInt64) hx hb d_Mo_init_22 rfl ?_
  rw [show (((lN N).toUInt64 >>> ((31 : Int32).toInt64.toUInt64 &&& Int64.toUInt64 63)).toInt64 : Int64) = (lN (N / 2 ^ 31)) from sh31 (by omega)]
  refine va_putF (D := (dC, dI)) (ci := 0) (v := .long (lN (N / 2 ^ 31))) (ty := .long) (C := "BallotBoard$Modulus") (T := F_Mo) (N := 7) hx hb hts (fun w9 h9 => List.mem_cons_of_mem _ (i_Mo w9 h9)) t_Mo t_Mo_ok n_Mo hown hK hP hD hS 0 rfl rfl 2 (by decide) (hts _ (List.mem_cons_of_mem _ gk_209)) (fun _ h9 => h9) rfl hin rfl (by decide +kernel) rfl rfl (Nat.le_of_ble_eq_true rfl) d_Mo_init_23 (fun H locs hP hD hS => ?_)
  have hP : va_P (dC, dI) classes [(h0, .inr (0, [.long (lN N), .long (lN (N % 2 ^ 31)), .long (lN (N / 2 ^ 31)), .long 0, .long 0, .long 0, .int 0]))] H := hP
  have hD : va_D A [(h0, .inr (0, [.long (lN N), .long (lN (N % 2 ^ 31)), .long (lN (N / 2 ^ 31)), .long 0, .long 0, .long 0, .int 0]))] := hD
  refine lv_aload_n hx hb d_Mo_init_26 rfl (lv_at hl 0 rfl) ?_
  refine lv_lload_n hx hb d_Mo_init_27 rfl (lv_at hl 1 rfl) ?_
  refine va_calll (va_runS (As := [.long (lN N)]) (rest := [.ref h0]) ⟨hx, hb, hml, hown, hts⟩ (c_Mo_ninv l H N ho) (cwS 1 hts (gw_S gk_197 gk_198 gk_9 gk_199) rfl rfl rfl (by decide +kernel) ⟨Nat.le_of_ble_eq_true rfl, Nat.le_of_ble_eq_true rfl⟩) ⟨fun a U g mk q => q, fun U hU hW => ⟨rfl, hU⟩⟩ rfl rfl hl.1 rfl (lv_room (Nat.le_of_ble_eq_true rfl)) d_Mo_init_28 ⟨Nat.zero_le _, Nat.zero_le _⟩) hS (fun q _ h => h.elim) (fun q h => h.elim) (fun r_1 u9 t9 H1 locs ht hvm hw hB hz1 hk1 hS => ?_)
  obtain rfl : H = H1 := hB.symm.trans ht
  obtain ⟨f, hf, hf31, hfN⟩ := hw
  subst hf
  refine va_putF (D := (dC, dI)) (ci := 0) (v := .long (lN f)) (ty := .long) (C := "BallotBoard$Modulus") (T := F_Mo) (N := 7) hx hb hts (fun w9 h9 => List.mem_cons_of_mem _ (i_Mo w9 h9)) t_Mo t_Mo_ok n_Mo hown hK hP hD hS 0 rfl rfl 3 (by decide) (hts _ (List.mem_cons_of_mem _ gk_210)) (fun _ h9 => h9) rfl hin rfl (by decide +kernel) rfl rfl (Nat.le_of_ble_eq_true rfl) d_Mo_init_31 (fun H locs hP hD hS => ?_)
  have hP : va_P (dC, dI) classes [(h0, .inr (0, [.long (lN N), .long (lN (N % 2 ^ 31)), .long (lN (N / 2 ^ 31)), .long (lN f), .long 0, .long 0, .int 0]))] H := hP
  have hD : va_D A [(h0, .inr (0, [.long (lN N), .long (lN (N % 2 ^ 31)), .long (lN (N / 2 ^ 31)), .long (lN f), .long 0, .long 0, .int 0]))] := hD
  refine lv_aload_n hx hb d_Mo_init_34 rfl (lv_at hl 0 rfl) ?_
  refine lv_lconst (v := 1) hx hb d_Mo_init_35 (by decide) ?_
  refine lv_bipush (v := 62) hx hb d_Mo_init_36 (by decide) ?_
  refine lv_lload_n hx hb d_Mo_init_38 rfl (lv_at hl 1 rfl) ?_
  refine va_calll (va_runS (As := [.long 1, .int 62, .long (lN N)]) (rest := [.ref h0]) ⟨hx, hb, hml, hown, hts⟩ (c_Mo_doubled l H 1 62 N (by omega) (by omega) (by omega)) (cwS 3 hts (gw_S gk_201 gk_202 gk_9 gk_203) rfl rfl rfl (by decide +kernel) ⟨Nat.le_of_ble_eq_true rfl, Nat.le_of_ble_eq_true rfl⟩) ⟨fun a U g mk q => q, fun U hU hW => ⟨rfl, hU⟩⟩ rfl rfl hl.1 rfl (lv_room (Nat.le_of_ble_eq_true rfl)) d_Mo_init_39 ⟨Nat.zero_le _, Nat.zero_le _⟩) hS (fun q _ h => h.elim) (fun q h => h.elim) (fun r_2 u9 t9 H1 locs ht hvm hw hB hz1 hk1 hS => ?_)
  obtain rfl : H = H1 := hB.symm.trans ht
  have hw : r_2 = lN (1 * 2 ^ 62 % N) := hw
  subst hw
  rw [show (lN (1 * 2 ^ 62 % N) : Int64) = (lN (2 ^ 62 % N)) from by rw [Nat.one_mul]]
  refine va_putF (D := (dC, dI)) (ci := 0) (v := .long (lN (2 ^ 62 % N))) (ty := .long) (C := "BallotBoard$Modulus") (T := F_Mo) (N := 7) hx hb hts (fun w9 h9 => List.mem_cons_of_mem _ (i_Mo w9 h9)) t_Mo t_Mo_ok n_Mo hown hK hP hD hS 0 rfl rfl 4 (by decide) (hts _ (List.mem_cons_of_mem _ gk_211)) (fun _ h9 => h9) rfl hin rfl (by decide +kernel) rfl rfl (Nat.le_of_ble_eq_true rfl) d_Mo_init_42 (fun H locs hP hD hS => ?_)
  have hP : va_P (dC, dI) classes [(h0, .inr (0, [.long (lN N), .long (lN (N % 2 ^ 31)), .long (lN (N / 2 ^ 31)), .long (lN f), .long (lN (2 ^ 62 % N)), .long 0, .int 0]))] H := hP
  have hD : va_D A [(h0, .inr (0, [.long (lN N), .long (lN (N % 2 ^ 31)), .long (lN (N / 2 ^ 31)), .long (lN f), .long (lN (2 ^ 62 % N)), .long 0, .int 0]))] := hD
  refine lv_aload_n hx hb d_Mo_init_45 rfl (lv_at hl 0 rfl) ?_
  refine lv_aload_n hx hb d_Mo_init_46 rfl (lv_at hl 0 rfl) ?_
  refine va_get (D := (dC, dI)) (ci := 0) (v := .long (lN (2 ^ 62 % N))) (C := "BallotBoard$Modulus") (T := F_Mo) (N := 7) hx hb hts (fun w9 h9 => List.mem_cons_of_mem _ (i_Mo w9 h9)) hown hK hP 0 rfl rfl 4 (by decide) (hts _ (List.mem_cons_of_mem _ gk_211)) (fun _ h9 => h9) rfl d_Mo_init_47 ?_
  refine lv_bipush (v := 62) hx hb d_Mo_init_50 (by decide) ?_
  refine lv_lload_n hx hb d_Mo_init_52 rfl (lv_at hl 1 rfl) ?_
  refine va_calll (va_runS (As := [.long (lN (2 ^ 62 % N)), .int 62, .long (lN N)]) (rest := [.ref h0]) ⟨hx, hb, hml, hown, hts⟩ (c_Mo_doubled l H (2 ^ 62 % N) 62 N (Nat.mod_lt _ (by omega)) (by omega) (by omega)) (cwS 3 hts (gw_S gk_201 gk_202 gk_9 gk_203) rfl rfl rfl (by decide +kernel) ⟨Nat.le_of_ble_eq_true rfl, Nat.le_of_ble_eq_true rfl⟩) ⟨fun a U g mk q => q, fun U hU hW => ⟨rfl, hU⟩⟩ rfl rfl hl.1 rfl (lv_room (Nat.le_of_ble_eq_true rfl)) d_Mo_init_53 ⟨Nat.zero_le _, Nat.zero_le _⟩) hS (fun q _ h => h.elim) (fun q h => h.elim) (fun r_3 u9 t9 H1 locs ht hvm hw hB hz1 hk1 hS => ?_)
  obtain rfl : H = H1 := hB.symm.trans ht
  have hw : r_3 = lN ((2 ^ 62 % N) * 2 ^ 62 % N) := hw
  subst hw
  rw [show (lN ((2 ^ 62 % N) * 2 ^ 62 % N) : Int64) = (lN (2 ^ 124 % N)) from by rw [dbl_124]]
  refine va_putF (D := (dC, dI)) (ci := 0) (v := .long (lN (2 ^ 124 % N))) (ty := .long) (C := "BallotBoard$Modulus") (T := F_Mo) (N := 7) hx hb hts (fun w9 h9 => List.mem_cons_of_mem _ (i_Mo w9 h9)) t_Mo t_Mo_ok n_Mo hown hK hP hD hS 0 rfl rfl 5 (by decide) (hts _ (List.mem_cons_of_mem _ gk_212)) (fun _ h9 => h9) rfl hin rfl (by decide +kernel) rfl rfl (Nat.le_of_ble_eq_true rfl) d_Mo_init_56 (fun H locs hP hD hS => ?_)
  have hP : va_P (dC, dI) classes [(h0, .inr (0, [.long (lN N), .long (lN (N % 2 ^ 31)), .long (lN (N / 2 ^ 31)), .long (lN f), .long (lN (2 ^ 62 % N)), .long (lN (2 ^ 124 % N)), .int 0]))] H := hP
  have hD : va_D A [(h0, .inr (0, [.long (lN N), .long (lN (N % 2 ^ 31)), .long (lN (N / 2 ^ 31)), .long (lN f), .long (lN (2 ^ 62 % N)), .long (lN (2 ^ 124 % N)), .int 0]))] := hD
  refine lv_aload_n hx hb d_Mo_init_59 rfl (lv_at hl 0 rfl) ?_
  refine lv_lload_n hx hb d_Mo_init_60 rfl (lv_at hl 1 rfl) ?_
  refine va_calli (va_runS (As := [.long (lN N)]) (rest := [.ref h0]) ⟨hx, hb, hml, hown, hts⟩ (c_Mo_bitsOf l H N h61) (cwS 1 hts (gw_S gk_204 gk_205 gk_9 gk_206) rfl rfl rfl (by decide +kernel) ⟨Nat.le_of_ble_eq_true rfl, Nat.le_of_ble_eq_true rfl⟩) ⟨fun a U g mk q => q, fun U hU hW => ⟨rfl, hU⟩⟩ rfl rfl hl.1 rfl (lv_room (Nat.le_of_ble_eq_true rfl)) d_Mo_init_61 ⟨Nat.zero_le _, Nat.zero_le _⟩) hS (fun q _ h => h.elim) (fun q h => h.elim) (fun r_4 u9 t9 H1 locs ht hvm hw hB hz1 hk1 hS => ?_)
  obtain rfl : H = H1 := hB.symm.trans ht
  obtain ⟨k, hk, hk61, hNk⟩ := hw
  subst hk
  refine va_putF (D := (dC, dI)) (ci := 0) (v := .int (nI k)) (ty := .int) (C := "BallotBoard$Modulus") (T := F_Mo) (N := 7) hx hb hts (fun w9 h9 => List.mem_cons_of_mem _ (i_Mo w9 h9)) t_Mo t_Mo_ok n_Mo hown hK hP hD hS 0 rfl rfl 6 (by decide) (hts _ (List.mem_cons_of_mem _ gk_213)) (fun _ h9 => h9) rfl hin rfl (by decide +kernel) rfl rfl (Nat.le_of_ble_eq_true rfl) d_Mo_init_64 (fun H locs hP hD hS => ?_)
  have hP : va_P (dC, dI) classes [(h0, .inr (0, [.long (lN N), .long (lN (N % 2 ^ 31)), .long (lN (N / 2 ^ 31)), .long (lN f), .long (lN (2 ^ 62 % N)), .long (lN (2 ^ 124 % N)), .int (nI k)]))] H := hP
  have hD : va_D A [(h0, .inr (0, [.long (lN N), .long (lN (N % 2 ^ 31)), .long (lN (N / 2 ^ 31)), .long (lN f), .long (lN (2 ^ 62 % N)), .long (lN (2 ^ 124 % N)), .int (nI k)]))] := hD
  have hP9 : va_P (dC, dI) classes [(h0, .inr (0, md_fs N f k))] H := hP
  have hD9 : va_D A [(h0, .inr (0, md_fs N f k))] := hD
  exact W.vret hx hb hr (fun t ht hW => ⟨⟨(f, k), rfl, ⟨ho, h3, h61, hf31, hfN, hk61, hNk⟩, by rw [ht]; exact hP9, va_K.moved hW.alike hK, hD9⟩, hS.F ht⟩) hS.2.2 d_Mo_init_67
