abbrev b_Gr_init : ByteArray := prog_4_method_1_code
abbrev y_Gr_init : MethodName := ⟨"BallotBoard$Group", "<init>", "(LBallotBoard$Modulus;LBallotBoard$Modulus;J)V"⟩
abbrev w_Gr_init : List Cond := .code y_Gr_init b_Gr_init 5 none :: gw
theorem d_Gr_init_0 : decode b_Gr_init 0 = .ok (.aload_n 0, 1) := by decide +kernel
theorem d_Gr_init_1 : decode b_Gr_init 1 = .ok (.invokespecial 1, 3) := by decide +kernel
theorem d_Gr_init_4 : decode b_Gr_init 4 = .ok (.aload_n 0, 1) := by decide +kernel
theorem d_Gr_init_5 : decode b_Gr_init 5 = .ok (.aload_n 1, 1) := by decide +kernel
theorem d_Gr_init_6 : decode b_Gr_init 6 = .ok (.putfield 7, 3) := by decide +kernel
theorem d_Gr_init_9 : decode b_Gr_init 9 = .ok (.aload_n 0, 1) := by decide +kernel
theorem d_Gr_init_10 : decode b_Gr_init 10 = .ok (.aload_n 2, 1) := by decide +kernel
theorem d_Gr_init_11 : decode b_Gr_init 11 = .ok (.putfield 13, 3) := by decide +kernel
theorem d_Gr_init_14 : decode b_Gr_init 14 = .ok (.aload_n 0, 1) := by decide +kernel
theorem d_Gr_init_15 : decode b_Gr_init 15 = .ok (.lload_n 3, 1) := by decide +kernel
theorem d_Gr_init_16 : decode b_Gr_init 16 = .ok (.putfield 16, 3) := by decide +kernel
theorem d_Gr_init_19 : decode b_Gr_init 19 = .ok (.aload_n 0, 1) := by decide +kernel
theorem d_Gr_init_20 : decode b_Gr_init 20 = .ok (.aload_n 1, 1) := by decide +kernel
theorem d_Gr_init_21 : decode b_Gr_init 21 = .ok (.lload_n 3, 1) := by decide +kernel
theorem d_Gr_init_22 : decode b_Gr_init 22 = .ok (.aload_n 2, 1) := by decide +kernel
theorem d_Gr_init_23 : decode b_Gr_init 23 = .ok (.invokevirtual 20, 3) := by decide +kernel
theorem d_Gr_init_26 : decode b_Gr_init 26 = .ok (.lconst 1, 1) := by decide +kernel
theorem d_Gr_init_27 : decode b_Gr_init 27 = .ok (.lsub, 1) := by decide +kernel
theorem d_Gr_init_28 : decode b_Gr_init 28 = .ok (.invokevirtual 26, 3) := by decide +kernel
theorem d_Gr_init_31 : decode b_Gr_init 31 = .ok (.putfield 30, 3) := by decide +kernel
theorem d_Gr_init_34 : decode b_Gr_init 34 = .ok (.return_, 1) := by decide +kernel
set_option maxHeartbeats 4000000 in
set_option maxRecDepth 100000 in
theorem c_Gr_init (l : Launch) (dC : Nat → ClassId) (dI : Nat → Nat → Nat) (h0 sz : Nat) (mF mE P f1 k1 Q f2 k2 G : Nat) (hokF : md_ok P f1 k1) (hokE : md_ok Q f2 k2) (hQP : Q ≤ P) (hGP : G < P) : Met l y_Gr_init w_Gr_init ({ frames := 2, cells := 0, slots := 0, locals := 65 }) (va_Pc [.ref h0, .ref mF, .ref mE, .long (lN G)] (fun U => U.heap.size = sz ∧ va_P (dC, dI) classes [(h0, .inr (1, [.null, .null, .long 0, .long 0])), (mF, .inr (0, md_fs P f1 k1)), (mE, .inr (0, md_fs Q f2 k2))] U.heap ∧ va_K (dC, dI) classes [] U ∧ va_D (fun _ => True) [(h0, .inr (1, [.null, .null, .long 0, .long 0])), (mF, .inr (0, md_fs P f1 k1)), (mE, .inr (0, md_fs Q f2 k2))])) (va_Qv (fun _ : Unit => True) (fun _ t => va_P (dC, dI) classes (gp_ws h0 mF mE P f1 k1 Q f2 k2 G) t.heap ∧ va_K (dC, dI) classes [] t ∧ va_D (va_A [(h0, .inr (1, [.null, .null, .long 0, .long 0])), (mF, .inr (0, md_fs P f1 k1)), (mE, .inr (0, md_fs Q f2 k2))] sz) (gp_ws h0 mF mE P f1 k1 Q f2 k2 G)) (va_A [(h0, .inr (1, [.null, .null, .long 0, .long 0])), (mF, .inr (0, md_fs P f1 k1)), (mE, .inr (0, md_fs Q f2 k2))] sz)) 0 0 (va_A [(h0, .inr (1, [.null, .null, .long 0, .long 0])), (mF, .inr (0, md_fs P f1 k1)), (mE, .inr (0, md_fs Q f2 k2))] sz) := by
  refine Met.ofW (cc := b_Gr_init) (maxL := 5) (ret := none) (by decide) rfl ?_
  intro p e s m args below meth c s₁ Bd hml hv
  obtain ⟨rfl, hsz, hP, hK, hD0⟩ := hv
  have hx := Bd.exec
  have hb := Bd.bytes
  have hr := Bd.returns
  have hts := atoms_spec (ws := w_Gr_init) Bd.pre
  have hown : s.vm.findClass "BallotBoard$Group" = some m.cls := findClass_of_methodNamed Bd.named
  have hlocks := Bd.notSynchronized
  have hin : meth.name = "<init>" := (name_of_methodNamed Bd.named Bd.method).1
  subst hsz
  have hD := hD0.self (sz := s.heap.size)
  generalize hAe : va_A [(h0, .inr (1, [.null, .null, .long 0, .long 0])), (mF, .inr (0, md_fs P f1 k1)), (mE, .inr (0, md_fs Q f2 k2))] s.heap.size = A at hD ⊢
  have hA : ∀ q : Nat, s.heap.size ≤ q → A q := fun q h => by rw [← hAe]; exact Or.inr h
  have hS : va_S A s.heap s.heap [] := va_S.rf
  have hK0 : va_K (dC, dI) classes [] s := hK
  have hP : va_P (dC, dI) classes [(h0, .inr (1, [.null, .null, .long 0, .long 0])), (mF, .inr (0, [.long (lN P), .long (lN (P % 2 ^ 31)), .long (lN (P / 2 ^ 31)), .long (lN f1), .long (lN (2 ^ 62 % P)), .long (lN (2 ^ 124 % P)), .int (nI k1)])), (mE, .inr (0, [.long (lN Q), .long (lN (Q % 2 ^ 31)), .long (lN (Q / 2 ^ 31)), .long (lN f2), .long (lN (2 ^ 62 % Q)), .long (lN (2 ^ 124 % Q)), .int (nI k2)]))] s.heap := hP
  have hl := lv_entry ([.ref h0, .ref mF, .ref mE, .long (lN G)]) (n := 5) (Nat.le_of_ble_eq_true rfl)
  rw [lg_entry_eq]
  generalize (lg_sl ([.ref h0, .ref mF, .ref mE, .long (lN G)]) ++ List.replicate (5 - (lg_sl ([.ref h0, .ref mF, .ref mE, .long (lN G)])).length) Slot.unset).toArray = ls at hl ⊢
  have hl : lv_has ls 5 [(0, .ref h0), (1, .ref mF), (2, .ref mE), (3, .long (lN G))] := hl
  obtain ⟨hoF, h3F, h61F, _, _, hk61F, hNkF⟩ := id hokF
  obtain ⟨hoE, h3E, h61E, _, _, hk61E, hNkE⟩ := id hokE
  refine lv_aload_n hx hb d_Gr_init_0 rfl (lv_at hl 0 rfl) ?_
  refine W.objInit hx hb hown (hts _ (List.mem_cons_of_mem _ gk_256)) (hts _ (List.mem_cons_of_mem _ gk_25)) (hts _ (List.mem_cons_of_mem _ gk_26)) rfl (by rw [hml]; exact hl.1) rfl d_Gr_init_1 (Nat.le_of_ble_eq_true rfl) (Nat.le_of_ble_eq_true rfl) ?_
  refine W.eq (g2 := F0 m 4 ls []) rfl ?_
  refine lv_aload_n hx hb d_Gr_init_4 rfl (lv_at hl 0 rfl) ?_
  refine lv_aload_n hx hb d_Gr_init_5 rfl (lv_at hl 1 rfl) ?_
  refine va_putF (D := (dC, dI)) (ci := 1) (v := .ref mF) (ty := .object "BallotBoard$Modulus") (C := "BallotBoard$Group") (T := F_Gr) (N := 4) hx hb hts (fun w9 h9 => List.mem_cons_of_mem _ (i_Gr w9 h9)) t_Gr t_Gr_ok n_Gr hown hK hP hD hS 0 rfl rfl 0 (by decide) (hts _ (List.mem_cons_of_mem _ gk_262)) (fun _ h9 => h9) rfl hin rfl (by decide +kernel) rfl rfl (Nat.le_of_ble_eq_true rfl) d_Gr_init_6 (fun H locs hP hD hS => ?_)
  have hP : va_P (dC, dI) classes [(h0, .inr (1, [.ref mF, .null, .long 0, .long 0])), (mF, .inr (0, [.long (lN P), .long (lN (P % 2 ^ 31)), .long (lN (P / 2 ^ 31)), .long (lN f1), .long (lN (2 ^ 62 % P)), .long (lN (2 ^ 124 % P)), .int (nI k1)])), (mE, .inr (0, [.long (lN Q), .long (lN (Q % 2 ^ 31)), .long (lN (Q / 2 ^ 31)), .long (lN f2), .long (lN (2 ^ 62 % Q)), .long (lN (2 ^ 124 % Q)), .int (nI k2)]))] H := hP
  have hD : va_D A [(h0, .inr (1, [.ref mF, .null, .long 0, .long 0])), (mF, .inr (0, [.long (lN P), .long (lN (P % 2 ^ 31)), .long (lN (P / 2 ^ 31)), .long (lN f1), .long (lN (2 ^ 62 % P)), .long (lN (2 ^ 124 % P)), .int (nI k1)])), (mE, .inr (0, [.long (lN Q), .long (lN (Q % 2 ^ 31)), .long (lN (Q / 2 ^ 31)), .long (lN f2), .long (lN (2 ^ 62 % Q)), .long (lN (2 ^ 124 % Q)), .int (nI k2)]))] := hD
  refine lv_aload_n hx hb d_Gr_init_9 rfl (lv_at hl 0 rfl) ?_
  refine lv_aload_n hx hb d_Gr_init_10 rfl (lv_at hl 2 rfl) ?_
  refine va_putF (D := (dC, dI)) (ci := 1) (v := .ref mE) (ty := .object "BallotBoard$Modulus") (C := "BallotBoard$Group") (T := F_Gr) (N := 4) hx hb hts (fun w9 h9 => List.mem_cons_of_mem _ (i_Gr w9 h9)) t_Gr t_Gr_ok n_Gr hown hK hP hD hS 0 rfl rfl 1 (by decide) (hts _ (List.mem_cons_of_mem _ gk_263)) (fun _ h9 => h9) rfl hin rfl (by decide +kernel) rfl rfl (Nat.le_of_ble_eq_true rfl) d_Gr_init_11 (fun H locs hP hD hS => ?_)
  have hP : va_P (dC, dI) classes [(h0, .inr (1, [.ref mF, .ref mE, .long 0, .long 0])), (mF, .inr (0, [.long (lN P), .long (lN (P % 2 ^ 31)), .long (lN (P / 2 ^ 31)), .long (lN f1), .long (lN (2 ^ 62 % P)), .long (lN (2 ^ 124 % P)), .int (nI k1)])), (mE, .inr (0, [.long (lN Q), .long (lN (Q % 2 ^ 31)), .long (lN (Q / 2 ^ 31)), .long (lN f2), .long (lN (2 ^ 62 % Q)), .long (lN (2 ^ 124 % Q)), .int (nI k2)]))] H := hP
  have hD : va_D A [(h0, .inr (1, [.ref mF, .ref mE, .long 0, .long 0])), (mF, .inr (0, [.long (lN P), .long (lN (P % 2 ^ 31)), .long (lN (P / 2 ^ 31)), .long (lN f1), .long (lN (2 ^ 62 % P)), .long (lN (2 ^ 124 % P)), .int (nI k1)])), (mE, .inr (0, [.long (lN Q), .long (lN (Q % 2 ^ 31)), .long (lN (Q / 2 ^ 31)), .long (lN f2), .long (lN (2 ^ 62 % Q)), .long (lN (2 ^ 124 % Q)), .int (nI k2)]))] := hD
  refine lv_aload_n hx hb d_Gr_init_14 rfl (lv_at hl 0 rfl) ?_
  refine lv_lload_n hx hb d_Gr_init_15 rfl (lv_at hl 3 rfl) ?_
  refine va_putF (D := (dC, dI)) (ci := 1) (v := .long (lN G)) (ty := .long) (C := "BallotBoard$Group") (T := F_Gr) (N := 4) hx hb hts (fun w9 h9 => List.mem_cons_of_mem _ (i_Gr w9 h9)) t_Gr t_Gr_ok n_Gr hown hK hP hD hS 0 rfl rfl 2 (by decide) (hts _ (List.mem_cons_of_mem _ gk_264)) (fun _ h9 => h9) rfl hin rfl (by decide +kernel) rfl rfl (Nat.le_of_ble_eq_true rfl) d_Gr_init_16 (fun H locs hP hD hS => ?_)
  have hP : va_P (dC, dI) classes [(h0, .inr (1, [.ref mF, .ref mE, .long (lN G), .long 0])), (mF, .inr (0, [.long (lN P), .long (lN (P % 2 ^ 31)), .long (lN (P / 2 ^ 31)), .long (lN f1), .long (lN (2 ^ 62 % P)), .long (lN (2 ^ 124 % P)), .int (nI k1)])), (mE, .inr (0, [.long (lN Q), .long (lN (Q % 2 ^ 31)), .long (lN (Q / 2 ^ 31)), .long (lN f2), .long (lN (2 ^ 62 % Q)), .long (lN (2 ^ 124 % Q)), .int (nI k2)]))] H := hP
  have hD : va_D A [(h0, .inr (1, [.ref mF, .ref mE, .long (lN G), .long 0])), (mF, .inr (0, [.long (lN P), .long (lN (P % 2 ^ 31)), .long (lN (P / 2 ^ 31)), .long (lN f1), .long (lN (2 ^ 62 % P)), .long (lN (2 ^ 124 % P)), .int (nI k1)])), (mE, .inr (0, [.long (lN Q), .long (lN (Q % 2 ^ 31)), .long (lN (Q / 2 ^ 31)), .long (lN f2), .long (lN (2 ^ 62 % Q)), .long (lN (2 ^ 124 % Q)), .int (nI k2)]))] := hD
  refine lv_aload_n hx hb d_Gr_init_19 rfl (lv_at hl 0 rfl) ?_
  refine lv_aload_n hx hb d_Gr_init_20 rfl (lv_at hl 1 rfl) ?_
  refine lv_lload_n hx hb d_Gr_init_21 rfl (lv_at hl 3 rfl) ?_
  refine lv_aload_n hx hb d_Gr_init_22 rfl (lv_at hl 2 rfl) ?_
  refine va_calll (va_runV (As := []) (rest := [.long (lN G), .ref mF, .ref h0]) ⟨hx, hb, hml, hown, hts⟩ (c_Mo_size l H dC dI mE Q f2 k2  (hP.sub (ws' := [(mE, .inr (0, md_fs Q f2 k2))]) [2] rfl) hokE ) (cwV 0 hts (gw_V gk_257 gk_258 gk_259 gk_9 gk_260) rfl rfl rfl (by decide +kernel) ⟨Nat.le_of_ble_eq_true rfl, Nat.le_of_ble_eq_true rfl⟩) ⟨fun a U g mk q => ⟨q.1, q.2.1, va_K.moved (u := U) (U := U.calling g mk a) (Vm.Alike.refl U.vm) q.2.2⟩, va_recv hK hP (ci := 0) (q0 := 2) rfl rfl, fun U hU hW => ⟨rfl, hU, va_K.moved hW.alike hK0⟩⟩ rfl rfl hl.1 rfl (lv_room (Nat.le_of_ble_eq_true rfl)) d_Gr_init_23 ⟨Nat.zero_le _, Nat.zero_le _⟩) hS (fun q _ h => h.elim) (fun q h => h.elim) (fun r_1 u9 t9 H1 locs ht hvm hw hB hz1 hk1 hS => ?_)
  obtain rfl : H = H1 := hB.symm.trans ht
  have hw : r_1 = lN Q := hw
  subst hw
  refine lv_lconst (v := 1) hx hb d_Gr_init_26 (by decide) ?_
  refine lv_lsub hx hb d_Gr_init_27 ?_
  rw [show ((lN Q) - 1 : Int64) = (lN (Q - 1)) from lsub1 (by omega)]
  refine va_calll (va_runV (As := [.long (lN G), .long (lN (Q - 1))]) (rest := [.ref h0]) ⟨hx, hb, hml, hown, hts⟩ (c_Mo_power l H dC dI mF P f1 k1 G (Q - 1) (hP.sub (ws' := [(mF, .inr (0, md_fs P f1 k1))]) [1] rfl) hokF hGP (by omega)) (cwV 2 hts (gw_V gk_261 gk_236 gk_237 gk_9 gk_238) rfl rfl rfl (by decide +kernel) ⟨Nat.le_of_ble_eq_true rfl, Nat.le_of_ble_eq_true rfl⟩) ⟨fun a U g mk q => ⟨q.1, q.2.1, va_K.moved (u := U) (U := U.calling g mk a) (Vm.Alike.refl U.vm) q.2.2⟩, va_recv hK hP (ci := 0) (q0 := 1) rfl rfl, fun U hU hW => ⟨rfl, hU, va_K.moved hW.alike hK0⟩⟩ rfl rfl hl.1 rfl (lv_room (Nat.le_of_ble_eq_true rfl)) d_Gr_init_28 ⟨Nat.zero_le _, Nat.zero_le _⟩) hS (fun q _ h => h.elim) (fun q h => h.elim) (fun r_2 u9 t9 H1 locs ht hvm hw hB hz1 hk1 hS => ?_)
  obtain rfl : H = H1 := hB.symm.trans ht
  have hw : r_2 = lN (G ^ (Q - 1) % P) := hw
  subst hw
  refine va_putF (D := (dC, dI)) (ci := 1) (v := .long (lN (G ^ (Q - 1) % P))) (ty := .long) (C := "BallotBoard$Group") (T := F_Gr) (N := 4) hx hb hts (fun w9 h9 => List.mem_cons_of_mem _ (i_Gr w9 h9)) t_Gr t_Gr_ok n_Gr hown hK hP hD hS 0 rfl rfl 3 (by decide) (hts _ (List.mem_cons_of_mem _ gk_265)) (fun _ h9 => h9) rfl hin rfl (by decide +kernel) rfl rfl (Nat.le_of_ble_eq_true rfl) d_Gr_init_31 (fun H locs hP hD hS => ?_)
  have hP : va_P (dC, dI) classes [(h0, .inr (1, [.ref mF, .ref mE, .long (lN G), .long (lN (G ^ (Q - 1) % P))])), (mF, .inr (0, [.long (lN P), .long (lN (P % 2 ^ 31)), .long (lN (P / 2 ^ 31)), .long (lN f1), .long (lN (2 ^ 62 % P)), .long (lN (2 ^ 124 % P)), .int (nI k1)])), (mE, .inr (0, [.long (lN Q), .long (lN (Q % 2 ^ 31)), .long (lN (Q / 2 ^ 31)), .long (lN f2), .long (lN (2 ^ 62 % Q)), .long (lN (2 ^ 124 % Q)), .int (nI k2)]))] H := hP
  have hD : va_D A [(h0, .inr (1, [.ref mF, .ref mE, .long (lN G), .long (lN (G ^ (Q - 1) % P))])), (mF, .inr (0, [.long (lN P), .long (lN (P % 2 ^ 31)), .long (lN (P / 2 ^ 31)), .long (lN f1), .long (lN (2 ^ 62 % P)), .long (lN (2 ^ 124 % P)), .int (nI k1)])), (mE, .inr (0, [.long (lN Q), .long (lN (Q % 2 ^ 31)), .long (lN (Q / 2 ^ 31)), .long (lN f2), .long (lN (2 ^ 62 % Q)), .long (lN (2 ^ 124 % Q)), .int (nI k2)]))] := hD
  exact W.vret hx hb hr (fun t ht hW => ⟨⟨(), rfl, trivial, by rw [ht]; exact hP, va_K.moved hW.alike hK, hD⟩, hS.F ht⟩) hS.2.2 d_Gr_init_34
