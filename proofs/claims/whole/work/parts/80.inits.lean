abbrev b_Ta_init : ByteArray := prog_8_method_1_code
abbrev y_Ta_init : MethodName := ⟨"BallotBoard$Tally", "<init>", "()V"⟩
abbrev w_Ta_init : List Cond := .code y_Ta_init b_Ta_init 1 none :: gw
theorem d_Ta_init_0 : decode b_Ta_init 0 = .ok (.aload_n 0, 1) := by decide +kernel
theorem d_Ta_init_1 : decode b_Ta_init 1 = .ok (.invokespecial 3, 3) := by decide +kernel
theorem d_Ta_init_4 : decode b_Ta_init 4 = .ok (.aload_n 0, 1) := by decide +kernel
theorem d_Ta_init_5 : decode b_Ta_init 5 = .ok (.iconst 4, 1) := by decide +kernel
theorem d_Ta_init_6 : decode b_Ta_init 6 = .ok (.newarray .long, 2) := by decide +kernel
theorem d_Ta_init_8 : decode b_Ta_init 8 = .ok (.putfield 9, 3) := by decide +kernel
theorem d_Ta_init_11 : decode b_Ta_init 11 = .ok (.aload_n 0, 1) := by decide +kernel
theorem d_Ta_init_12 : decode b_Ta_init 12 = .ok (.iconst 4, 1) := by decide +kernel
theorem d_Ta_init_13 : decode b_Ta_init 13 = .ok (.newarray .long, 2) := by decide +kernel
theorem d_Ta_init_15 : decode b_Ta_init 15 = .ok (.putfield 15, 3) := by decide +kernel
theorem d_Ta_init_18 : decode b_Ta_init 18 = .ok (.aload_n 0, 1) := by decide +kernel
theorem d_Ta_init_19 : decode b_Ta_init 19 = .ok (.bipush 64, 2) := by decide +kernel
theorem d_Ta_init_21 : decode b_Ta_init 21 = .ok (.newarray .long, 2) := by decide +kernel
theorem d_Ta_init_23 : decode b_Ta_init 23 = .ok (.putfield 18, 3) := by decide +kernel
theorem d_Ta_init_26 : decode b_Ta_init 26 = .ok (.aload_n 0, 1) := by decide +kernel
theorem d_Ta_init_27 : decode b_Ta_init 27 = .ok (.bipush 64, 2) := by decide +kernel
theorem d_Ta_init_29 : decode b_Ta_init 29 = .ok (.newarray .long, 2) := by decide +kernel
theorem d_Ta_init_31 : decode b_Ta_init 31 = .ok (.putfield 21, 3) := by decide +kernel
theorem d_Ta_init_34 : decode b_Ta_init 34 = .ok (.return_, 1) := by decide +kernel
set_option maxHeartbeats 8000000 in
set_option maxRecDepth 100000 in
theorem c_Ta_init (l : Launch) (dC : Nat → ClassId) (dI : Nat → Nat → Nat) (cJ cI : ClassId) (sz : Nat) (t0 : Nat)  : Met l y_Ta_init w_Ta_init ({ frames := 1, cells := 4, slots := 136, locals := 20 }) (va_Pc [.ref t0] (fun U => U.heap.size = sz ∧ va_P (dC, dI) classes [(t0, .inr (4, [.null, .null, .null, .null, .null, .int 0, .int 0, .int 0, .int 0, .long 0, .long 0, .long 0, .long 0, .int 0]))] U.heap ∧ va_K (dC, dI) classes [(cJ, .long), (cI, .int)] U ∧ va_D (fun _ => True) [(t0, .inr (4, [.null, .null, .null, .null, .null, .int 0, .int 0, .int 0, .int 0, .long 0, .long 0, .long 0, .long 0, .int 0]))])) (va_Qv (fun u9 : Nat × Nat × Nat × Nat => True) (fun u9 t => va_P (dC, dI) classes (tl_ws t0 u9.1 u9.2.1 u9.2.2.1 u9.2.2.2 .null cJ (fun _ => 0) (fun _ => 0) (fun _ => 0) (fun _ => 0) 0 0 0 0 0 0 0 0 0) t.heap ∧ va_K (dC, dI) classes [(cJ, .long), (cI, .int)] t ∧ va_D (va_A [(t0, .inr (4, [.null, .null, .null, .null, .null, .int 0, .int 0, .int 0, .int 0, .long 0, .long 0, .long 0, .long 0, .int 0]))] sz) (tl_ws t0 u9.1 u9.2.1 u9.2.2.1 u9.2.2.2 .null cJ (fun _ => 0) (fun _ => 0) (fun _ => 0) (fun _ => 0) 0 0 0 0 0 0 0 0 0)) (va_A [(t0, .inr (4, [.null, .null, .null, .null, .null, .int 0, .int 0, .int 0, .int 0, .long 0, .long 0, .long 0, .long 0, .int 0]))] sz)) 4 136 (va_A [(t0, .inr (4, [.null, .null, .null, .null, .null, .int 0, .int 0, .int 0, .int 0, .long 0, .long 0, .long 0, .long 0, .int 0]))] sz) := by
  refine Met.ofW (cc := b_Ta_init) (maxL := 1) (ret := none) (by decide) rfl ?_
  intro p e s m args below meth c s₁ Bd hml hv
  obtain ⟨rfl, hsz, hP, hK, hD0⟩ := hv
  have hx := Bd.exec
  have hb := Bd.bytes
  have hr := Bd.returns
  have hts := atoms_spec (ws := w_Ta_init) Bd.pre
  have hown : s.vm.findClass "BallotBoard$Tally" = some m.cls := findClass_of_methodNamed Bd.named
  have hlocks := Bd.notSynchronized
  have hin : meth.name = "<init>" := (name_of_methodNamed Bd.named Bd.method).1
  subst hsz
  have hD := hD0.self (sz := s.heap.size)
  generalize hAe : va_A [(t0, .inr (4, [.null, .null, .null, .null, .null, .int 0, .int 0, .int 0, .int 0, .long 0, .long 0, .long 0, .long 0, .int 0]))] s.heap.size = A at hD ⊢
  have hA : ∀ q : Nat, s.heap.size ≤ q → A q := fun q h => by rw [← hAe]; exact Or.inr h
  have hS : va_S A s.heap s.heap [] := va_S.rf
  have hl := lv_entry ([.ref t0]) (n := 1) (Nat.le_of_ble_eq_true rfl)
  rw [lg_entry_eq]
  generalize (lg_sl ([.ref t0]) ++ List.replicate (1 - (lg_sl ([.ref t0])).length) Slot.unset).toArray = ls at hl ⊢
  have hl : lv_has ls 1 [(0, .ref t0)] := hl
  refine lv_aload_n hx hb d_Ta_init_0 rfl (lv_at hl 0 rfl) ?_
  refine W.objInit hx hb hown (hts _ (List.mem_cons_of_mem _ gk_91)) (hts _ (List.mem_cons_of_mem _ gk_25)) (hts _ (List.mem_cons_of_mem _ gk_26)) rfl (by rw [hml]; exact hl.1) rfl d_Ta_init_1 (Nat.le_of_ble_eq_true rfl) (Nat.le_of_ble_eq_true rfl) ?_
  refine W.eq (g2 := F0 m 4 ls []) rfl ?_
  refine lv_aload_n hx hb d_Ta_init_4 rfl (lv_at hl 0 rfl) ?_
  refine lv_iconst (v := 4) hx hb d_Ta_init_5 (by decide) ?_
  refine va_newa (atype := .long) (ty := .long) (N' := 4) (a0 := (4, .inr (.inl (lF (fun _ => 0))))) hx hb (hts _ (List.mem_cons_of_mem _ gk_50)) rfl hK hP hD hS hA (fun _ => rfl) (by decide) (by decide) (by decide) (Nat.le_of_ble_eq_true rfl) (Nat.le_of_ble_eq_true rfl) d_Ta_init_6 (fun q6 cA9 H hK9 hP hD hS => ?_)
  have ec9 : cJ = cA9 := Option.some.inj ((hK.2 0 _ rfl).2.symm.trans (hK9.2 2 _ rfl).2)
  subst ec9
  clear hK9
  have hP : va_P (dC, dI) classes [(t0, .inr (4, [.null, .null, .null, .null, .null, .int 0, .int 0, .int 0, .int 0, .long 0, .long 0, .long 0, .long 0, .int 0])), (q6, .inl (cJ, 4, .inr (.inl (lF (fun _ => 0)))))] H := hP
  have hD : va_D A [(t0, .inr (4, [.null, .null, .null, .null, .null, .int 0, .int 0, .int 0, .int 0, .long 0, .long 0, .long 0, .long 0, .int 0])), (q6, .inl (cJ, 4, .inr (.inl (lF (fun _ => 0)))))] := hD
  refine W.widen (k := 1) (n := 4) (by decide) (by decide) ?_
  refine va_putF (D := (dC, dI)) (ci := 4) (v := .ref q6) (ty := .array .long) (C := "BallotBoard$Tally") (T := F_Ta) (N := 14) hx hb hts (fun w9 h9 => List.mem_cons_of_mem _ (i_Ta w9 h9)) t_Ta t_Ta_ok n_Ta hown hK hP hD hS 0 rfl rfl 0 (by decide) (hts _ (List.mem_cons_of_mem _ gk_92)) (fun _ h9 => h9) rfl hin rfl (by decide +kernel) rfl rfl (Nat.le_of_ble_eq_true rfl) d_Ta_init_8 (fun H locs hP hD hS => ?_)
  have hP : va_P (dC, dI) classes [(t0, .inr (4, [.ref q6, .null, .null, .null, .null, .int 0, .int 0, .int 0, .int 0, .long 0, .long 0, .long 0, .long 0, .int 0])), (q6, .inl (cJ, 4, .inr (.inl (lF (fun _ => 0)))))] H := hP
  have hD : va_D A [(t0, .inr (4, [.ref q6, .null, .null, .null, .null, .int 0, .int 0, .int 0, .int 0, .long 0, .long 0, .long 0, .long 0, .int 0])), (q6, .inl (cJ, 4, .inr (.inl (lF (fun _ => 0)))))] := hD
  refine lv_aload_n hx hb d_Ta_init_11 rfl (lv_at hl 0 rfl) ?_
  refine lv_iconst (v := 4) hx hb d_Ta_init_12 (by decide) ?_
  refine va_newa (atype := .long) (ty := .long) (N' := 4) (a0 := (4, .inr (.inl (lF (fun _ => 0))))) hx hb (hts _ (List.mem_cons_of_mem _ gk_50)) rfl hK hP hD hS hA (fun _ => rfl) (by decide) (by decide) (by decide) (Nat.le_of_ble_eq_true rfl) (Nat.le_of_ble_eq_true rfl) d_Ta_init_13 (fun q13 cA9 H hK9 hP hD hS => ?_)
  have ec9 : cJ = cA9 := Option.some.inj ((hK.2 0 _ rfl).2.symm.trans (hK9.2 2 _ rfl).2)
  subst ec9
  clear hK9
  have hP : va_P (dC, dI) classes [(t0, .inr (4, [.ref q6, .null, .null, .null, .null, .int 0, .int 0, .int 0, .int 0, .long 0, .long 0, .long 0, .long 0, .int 0])), (q6, .inl (cJ, 4, .inr (.inl (lF (fun _ => 0))))), (q13, .inl (cJ, 4, .inr (.inl (lF (fun _ => 0)))))] H := hP
  have hD : va_D A [(t0, .inr (4, [.ref q6, .null, .null, .null, .null, .int 0, .int 0, .int 0, .int 0, .long 0, .long 0, .long 0, .long 0, .int 0])), (q6, .inl (cJ, 4, .inr (.inl (lF (fun _ => 0))))), (q13, .inl (cJ, 4, .inr (.inl (lF (fun _ => 0)))))] := hD
  refine W.widen (k := 2) (n := 8) (by decide) (by decide) ?_
  refine va_putF (D := (dC, dI)) (ci := 4) (v := .ref q13) (ty := .array .long) (C := "BallotBoard$Tally") (T := F_Ta) (N := 14) hx hb hts (fun w9 h9 => List.mem_cons_of_mem _ (i_Ta w9 h9)) t_Ta t_Ta_ok n_Ta hown hK hP hD hS 0 rfl rfl 3 (by decide) (hts _ (List.mem_cons_of_mem _ gk_95)) (fun _ h9 => h9) rfl hin rfl (by decide +kernel) rfl rfl (Nat.le_of_ble_eq_true rfl) d_Ta_init_15 (fun H locs hP hD hS => ?_)
  have hP : va_P (dC, dI) classes [(t0, .inr (4, [.ref q6, .null, .null, .ref q13, .null, .int 0, .int 0, .int 0, .int 0, .long 0, .long 0, .long 0, .long 0, .int 0])), (q6, .inl (cJ, 4, .inr (.inl (lF (fun _ => 0))))), (q13, .inl (cJ, 4, .inr (.inl (lF (fun _ => 0)))))] H := hP
  have hD : va_D A [(t0, .inr (4, [.ref q6, .null, .null, .ref q13, .null, .int 0, .int 0, .int 0, .int 0, .long 0, .long 0, .long 0, .long 0, .int 0])), (q6, .inl (cJ, 4, .inr (.inl (lF (fun _ => 0))))), (q13, .inl (cJ, 4, .inr (.inl (lF (fun _ => 0)))))] := hD
  refine lv_aload_n hx hb d_Ta_init_18 rfl (lv_at hl 0 rfl) ?_
  refine lv_bipush (v := 64) hx hb d_Ta_init_19 (by decide) ?_
  refine va_newa (atype := .long) (ty := .long) (N' := 64) (a0 := (64, .inr (.inl (lF (fun _ => 0))))) hx hb (hts _ (List.mem_cons_of_mem _ gk_50)) rfl hK hP hD hS hA (fun _ => rfl) (by decide) (by decide) (by decide) (Nat.le_of_ble_eq_true rfl) (Nat.le_of_ble_eq_true rfl) d_Ta_init_21 (fun q21 cA9 H hK9 hP hD hS => ?_)
  have ec9 : cJ = cA9 := Option.some.inj ((hK.2 0 _ rfl).2.symm.trans (hK9.2 2 _ rfl).2)
  subst ec9
  clear hK9
  have hP : va_P (dC, dI) classes [(t0, .inr (4, [.ref q6, .null, .null, .ref q13, .null, .int 0, .int 0, .int 0, .int 0, .long 0, .long 0, .long 0, .long 0, .int 0])), (q6, .inl (cJ, 4, .inr (.inl (lF (fun _ => 0))))), (q13, .inl (cJ, 4, .inr (.inl (lF (fun _ => 0))))), (q21, .inl (cJ, 64, .inr (.inl (lF (fun _ => 0)))))] H := hP
  have hD : va_D A [(t0, .inr (4, [.ref q6, .null, .null, .ref q13, .null, .int 0, .int 0, .int 0, .int 0, .long 0, .long 0, .long 0, .long 0, .int 0])), (q6, .inl (cJ, 4, .inr (.inl (lF (fun _ => 0))))), (q13, .inl (cJ, 4, .inr (.inl (lF (fun _ => 0))))), (q21, .inl (cJ, 64, .inr (.inl (lF (fun _ => 0)))))] := hD
  refine W.widen (k := 3) (n := 72) (by decide) (by decide) ?_
  refine va_putF (D := (dC, dI)) (ci := 4) (v := .ref q21) (ty := .array .long) (C := "BallotBoard$Tally") (T := F_Ta) (N := 14) hx hb hts (fun w9 h9 => List.mem_cons_of_mem _ (i_Ta w9 h9)) t_Ta t_Ta_ok n_Ta hown hK hP hD hS 0 rfl rfl 1 (by decide) (hts _ (List.mem_cons_of_mem _ gk_93)) (fun _ h9 => h9) rfl hin rfl (by decide +kernel) rfl rfl (Nat.le_of_ble_eq_true rfl) d_Ta_init_23 (fun H locs hP hD hS => ?_)
  have hP : va_P (dC, dI) classes [(t0, .inr (4, [.ref q6, .ref q21, .null, .ref q13, .null, .int 0, .int 0, .int 0, .int 0, .long 0, .long 0, .long 0, .long 0, .int 0])), (q6, .inl (cJ, 4, .inr (.inl (lF (fun _ => 0))))), (q13, .inl (cJ, 4, .inr (.inl (lF (fun _ => 0))))), (q21, .inl (cJ, 64, .inr (.inl (lF (fun _ => 0)))))] H := hP
  have hD : va_D A [(t0, .inr (4, [.ref q6, .ref q21, .null, .ref q13, .null, .int 0, .int 0, .int 0, .int 0, .long 0, .long 0, .long 0, .long 0, .int 0])), (q6, .inl (cJ, 4, .inr (.inl (lF (fun _ => 0))))), (q13, .inl (cJ, 4, .inr (.inl (lF (fun _ => 0))))), (q21, .inl (cJ, 64, .inr (.inl (lF (fun _ => 0)))))] := hD
  refine lv_aload_n hx hb d_Ta_init_26 rfl (lv_at hl 0 rfl) ?_
  refine lv_bipush (v := 64) hx hb d_Ta_init_27 (by decide) ?_
  refine va_newa (atype := .long) (ty := .long) (N' := 64) (a0 := (64, .inr (.inl (lF (fun _ => 0))))) hx hb (hts _ (List.mem_cons_of_mem _ gk_50)) rfl hK hP hD hS hA (fun _ => rfl) (by decide) (by decide) (by decide) (Nat.le_of_ble_eq_true rfl) (Nat.le_of_ble_eq_true rfl) d_Ta_init_29 (fun q29 cA9 H hK9 hP hD hS => ?_)
  have ec9 : cJ = cA9 := Option.some.inj ((hK.2 0 _ rfl).2.symm.trans (hK9.2 2 _ rfl).2)
  subst ec9
  clear hK9
  have hP : va_P (dC, dI) classes [(t0, .inr (4, [.ref q6, .ref q21, .null, .ref q13, .null, .int 0, .int 0, .int 0, .int 0, .long 0, .long 0, .long 0, .long 0, .int 0])), (q6, .inl (cJ, 4, .inr (.inl (lF (fun _ => 0))))), (q13, .inl (cJ, 4, .inr (.inl (lF (fun _ => 0))))), (q21, .inl (cJ, 64, .inr (.inl (lF (fun _ => 0))))), (q29, .inl (cJ, 64, .inr (.inl (lF (fun _ => 0)))))] H := hP
  have hD : va_D A [(t0, .inr (4, [.ref q6, .ref q21, .null, .ref q13, .null, .int 0, .int 0, .int 0, .int 0, .long 0, .long 0, .long 0, .long 0, .int 0])), (q6, .inl (cJ, 4, .inr (.inl (lF (fun _ => 0))))), (q13, .inl (cJ, 4, .inr (.inl (lF (fun _ => 0))))), (q21, .inl (cJ, 64, .inr (.inl (lF (fun _ => 0))))), (q29, .inl (cJ, 64, .inr (.inl (lF (fun _ => 0)))))] := hD
  refine W.widen (k := 4) (n := 136) (by decide) (by decide) ?_
  refine va_putF (D := (dC, dI)) (ci := 4) (v := .ref q29) (ty := .array .long) (C := "BallotBoard$Tally") (T := F_Ta) (N := 14) hx hb hts (fun w9 h9 => List.mem_cons_of_mem _ (i_Ta w9 h9)) t_Ta t_Ta_ok n_Ta hown hK hP hD hS 0 rfl rfl 2 (by decide) (hts _ (List.mem_cons_of_mem _ gk_94)) (fun _ h9 => h9) rfl hin rfl (by decide +kernel) rfl rfl (Nat.le_of_ble_eq_true rfl) d_Ta_init_31 (fun H locs hP hD hS => ?_)
  have hP : va_P (dC, dI) classes [(t0, .inr (4, [.ref q6, .ref q21, .ref q29, .ref q13, .null, .int 0, .int 0, .int 0, .int 0, .long 0, .long 0, .long 0, .long 0, .int 0])), (q6, .inl (cJ, 4, .inr (.inl (lF (fun _ => 0))))), (q13, .inl (cJ, 4, .inr (.inl (lF (fun _ => 0))))), (q21, .inl (cJ, 64, .inr (.inl (lF (fun _ => 0))))), (q29, .inl (cJ, 64, .inr (.inl (lF (fun _ => 0)))))] H := hP
  have hD : va_D A [(t0, .inr (4, [.ref q6, .ref q21, .ref q29, .ref q13, .null, .int 0, .int 0, .int 0, .int 0, .long 0, .long 0, .long 0, .long 0, .int 0])), (q6, .inl (cJ, 4, .inr (.inl (lF (fun _ => 0))))), (q13, .inl (cJ, 4, .inr (.inl (lF (fun _ => 0))))), (q21, .inl (cJ, 64, .inr (.inl (lF (fun _ => 0))))), (q29, .inl (cJ, 64, .inr (.inl (lF (fun _ => 0)))))] := hD
  have hP := hP.sub (ws' := [(t0, .inr (4, [.ref q6, .ref q21, .ref q29, .ref q13, .null, .int 0, .int 0, .int 0, .int 0, .long 0, .long 0, .long 0, .long 0, .int 0])), (q6, .inl (cJ, 4, .inr (.inl (lF (fun _ => 0))))), (q21, .inl (cJ, 64, .inr (.inl (lF (fun _ => 0))))), (q29, .inl (cJ, 64, .inr (.inl (lF (fun _ => 0))))), (q13, .inl (cJ, 4, .inr (.inl (lF (fun _ => 0)))))]) [0, 1, 3, 4, 2] rfl
  have hD := hD.sub (ws' := [(t0, .inr (4, [.ref q6, .ref q21, .ref q29, .ref q13, .null, .int 0, .int 0, .int 0, .int 0, .long 0, .long 0, .long 0, .long 0, .int 0])), (q6, .inl (cJ, 4, .inr (.inl (lF (fun _ => 0))))), (q21, .inl (cJ, 64, .inr (.inl (lF (fun _ => 0))))), (q29, .inl (cJ, 64, .inr (.inl (lF (fun _ => 0))))), (q13, .inl (cJ, 4, .inr (.inl (lF (fun _ => 0)))))]) [0, 1, 3, 4, 2] (by decide) rfl
  refine W.widen (k := 4) (n := 136) (by decide) (by decide) ?_
  exact W.vret hx hb hr (fun t ht9 hW => ⟨⟨(q6, q21, q29, q13), rfl, trivial, by rw [ht9]; exact hP, va_K.moved hW.alike hK, hD⟩, hS.F ht9⟩) hS.2.2 d_Ta_init_34
abbrev b_Ha_init : ByteArray := prog_5_method_1_code
abbrev y_Ha_init : MethodName := ⟨"BallotBoard$Hash", "<init>", "()V"⟩
abbrev w_Ha_init : List Cond := .code y_Ha_init b_Ha_init 1 none :: gw
theorem d_Ha_init_0 : decode b_Ha_init 0 = .ok (.aload_n 0, 1) := by decide +kernel
theorem d_Ha_init_1 : decode b_Ha_init 1 = .ok (.invokespecial 3, 3) := by decide +kernel
theorem d_Ha_init_4 : decode b_Ha_init 4 = .ok (.aload_n 0, 1) := by decide +kernel
theorem d_Ha_init_5 : decode b_Ha_init 5 = .ok (.bipush 16, 2) := by decide +kernel
theorem d_Ha_init_7 : decode b_Ha_init 7 = .ok (.newarray .long, 2) := by decide +kernel
theorem d_Ha_init_9 : decode b_Ha_init 9 = .ok (.putfield 9, 3) := by decide +kernel
theorem d_Ha_init_12 : decode b_Ha_init 12 = .ok (.aload_n 0, 1) := by decide +kernel
theorem d_Ha_init_13 : decode b_Ha_init 13 = .ok (.getstatic 13, 3) := by decide +kernel
theorem d_Ha_init_16 : decode b_Ha_init 16 = .ok (.arraylength, 1) := by decide +kernel
theorem d_Ha_init_17 : decode b_Ha_init 17 = .ok (.newarray .int, 2) := by decide +kernel
theorem d_Ha_init_19 : decode b_Ha_init 19 = .ok (.putfield 17, 3) := by decide +kernel
theorem d_Ha_init_22 : decode b_Ha_init 22 = .ok (.aload_n 0, 1) := by decide +kernel
theorem d_Ha_init_23 : decode b_Ha_init 23 = .ok (.getstatic 20, 3) := by decide +kernel
theorem d_Ha_init_26 : decode b_Ha_init 26 = .ok (.arraylength, 1) := by decide +kernel
theorem d_Ha_init_27 : decode b_Ha_init 27 = .ok (.newarray .int, 2) := by decide +kernel
theorem d_Ha_init_29 : decode b_Ha_init 29 = .ok (.putfield 23, 3) := by decide +kernel
theorem d_Ha_init_32 : decode b_Ha_init 32 = .ok (.aload_n 0, 1) := by decide +kernel
theorem d_Ha_init_33 : decode b_Ha_init 33 = .ok (.iconst 0, 1) := by decide +kernel
theorem d_Ha_init_34 : decode b_Ha_init 34 = .ok (.putfield 26, 3) := by decide +kernel
theorem d_Ha_init_37 : decode b_Ha_init 37 = .ok (.return_, 1) := by decide +kernel
set_option maxHeartbeats 8000000 in
set_option maxRecDepth 100000 in
theorem c_Ha_init (l : Launch) (dC : Nat → ClassId) (dI : Nat → Nat → Nat) (cJ cI : ClassId) (sz : Nat) (h0 rA sA : Nat)  : Met l y_Ha_init w_Ha_init ({ frames := 1, cells := 3, slots := 88, locals := 20 }) (va_Pc [.ref h0] (fun U => U.heap.size = sz ∧ va_P (dC, dI) classes [(h0, .inr (2, [.null, .null, .null, .int 0]))] U.heap ∧ va_K (dC, dI) classes [(cJ, .long), (cI, .int)] U ∧ va_D (fun _ => True) [(h0, .inr (2, [.null, .null, .null, .int 0]))] ∧ ha_Z rA sA (va_A [(h0, .inr (2, [.null, .null, .null, .int 0]))] sz) U U.heap)) (va_Qv (fun u9 : Nat × Nat × Nat => True) (fun u9 t => va_P (dC, dI) classes (ha_ws h0 u9.1 u9.2.1 u9.2.2 cJ cI (lF (fun _ => 0)) (fun _ => 0) (fun _ => 0) 0) t.heap ∧ va_K (dC, dI) classes [(cJ, .long), (cI, .int)] t ∧ va_D (va_A [(h0, .inr (2, [.null, .null, .null, .int 0]))] sz) (ha_ws h0 u9.1 u9.2.1 u9.2.2 cJ cI (lF (fun _ => 0)) (fun _ => 0) (fun _ => 0) 0)) (va_A [(h0, .inr (2, [.null, .null, .null, .int 0]))] sz)) 3 88 (va_A [(h0, .inr (2, [.null, .null, .null, .int 0]))] sz) := by
  refine Met.ofW (cc := b_Ha_init) (maxL := 1) (ret := none) (by decide) rfl ?_
  intro p e s m args below meth c s₁ Bd hml hv
  obtain ⟨rfl, hsz, hP, hK, hD0, hZha⟩ := hv
  have hx := Bd.exec
  have hb := Bd.bytes
  have hr := Bd.returns
  have hts := atoms_spec (ws := w_Ha_init) Bd.pre
  have hown : s.vm.findClass "BallotBoard$Hash" = some m.cls := findClass_of_methodNamed Bd.named
  have hlocks := Bd.notSynchronized
  have hin : meth.name = "<init>" := (name_of_methodNamed Bd.named Bd.method).1
  subst hsz
  have hD := hD0.self (sz := s.heap.size)
  generalize hAe : va_A [(h0, .inr (2, [.null, .null, .null, .int 0]))] s.heap.size = A at hD hZha ⊢
  have hA : ∀ q : Nat, s.heap.size ≤ q → A q := fun q h => by rw [← hAe]; exact Or.inr h
  have hS : va_S A s.heap s.heap [] := va_S.rf
  have hl := lv_entry ([.ref h0]) (n := 1) (Nat.le_of_ble_eq_true rfl)
  rw [lg_entry_eq]
  generalize (lg_sl ([.ref h0]) ++ List.replicate (1 - (lg_sl ([.ref h0])).length) Slot.unset).toArray = ls at hl ⊢
  have hl : lv_has ls 1 [(0, .ref h0)] := hl
  refine lv_aload_n hx hb d_Ha_init_0 rfl (lv_at hl 0 rfl) ?_
  refine W.objInit hx hb hown (hts _ (List.mem_cons_of_mem _ gk_32)) (hts _ (List.mem_cons_of_mem _ gk_25)) (hts _ (List.mem_cons_of_mem _ gk_26)) rfl (by rw [hml]; exact hl.1) rfl d_Ha_init_1 (Nat.le_of_ble_eq_true rfl) (Nat.le_of_ble_eq_true rfl) ?_
  refine W.eq (g2 := F0 m 4 ls []) rfl ?_
  refine lv_aload_n hx hb d_Ha_init_4 rfl (lv_at hl 0 rfl) ?_
  refine lv_bipush (v := 16) hx hb d_Ha_init_5 (by decide) ?_
  refine va_newa (atype := .long) (ty := .long) (N' := 16) (a0 := (16, .inr (.inl (lF (fun _ => 0))))) hx hb (hts _ (List.mem_cons_of_mem _ gk_50)) rfl hK hP hD hS hA (fun _ => rfl) (by decide) (by decide) (by decide) (Nat.le_of_ble_eq_true rfl) (Nat.le_of_ble_eq_true rfl) d_Ha_init_7 (fun q7 cA9 H hK9 hP hD hS => ?_)
  have ec9 : cJ = cA9 := Option.some.inj ((hK.2 0 _ rfl).2.symm.trans (hK9.2 2 _ rfl).2)
  subst ec9
  clear hK9
  have hP : va_P (dC, dI) classes [(h0, .inr (2, [.null, .null, .null, .int 0])), (q7, .inl (cJ, 16, .inr (.inl (lF (fun _ => 0)))))] H := hP
  have hD : va_D A [(h0, .inr (2, [.null, .null, .null, .int 0])), (q7, .inl (cJ, 16, .inr (.inl (lF (fun _ => 0)))))] := hD
  refine W.widen (k := 1) (n := 16) (by decide) (by decide) ?_
  refine va_putF (D := (dC, dI)) (ci := 2) (v := .ref q7) (ty := .array .long) (C := "BallotBoard$Hash") (T := F_Ha) (N := 4) hx hb hts (fun w9 h9 => List.mem_cons_of_mem _ (i_Ha w9 h9)) t_Ha t_Ha_ok n_Ha hown hK hP hD hS 0 rfl rfl 0 (by decide) (hts _ (List.mem_cons_of_mem _ gk_37)) (fun _ h9 => h9) rfl hin rfl (by decide +kernel) rfl rfl (Nat.le_of_ble_eq_true rfl) d_Ha_init_9 (fun H locs hP hD hS => ?_)
  have hP : va_P (dC, dI) classes [(h0, .inr (2, [.ref q7, .null, .null, .int 0])), (q7, .inl (cJ, 16, .inr (.inl (lF (fun _ => 0)))))] H := hP
  have hD : va_D A [(h0, .inr (2, [.ref q7, .null, .null, .int 0])), (q7, .inl (cJ, 16, .inr (.inl (lF (fun _ => 0)))))] := hD
  refine lv_aload_n hx hb d_Ha_init_12 rfl (lv_at hl 0 rfl) ?_
  refine va_gets (v := .ref rA) hx hb hZha.1 hS hown (hts _ (List.mem_cons_of_mem _ gk_33)) (fun _ h9 => h9) d_Ha_init_13 ?_
  refine va_tlen (v := 64) hx hb hZha.2.1 hS rfl d_Ha_init_16 ?_
  refine va_newa (atype := .int) (ty := .int) (N' := 64) (a0 := (64, .inl (fun _ => 0))) hx hb (hts _ (List.mem_cons_of_mem _ gk_51)) rfl hK hP hD hS hA (fun _ => rfl) (by decide) (by decide) (by decide) (Nat.le_of_ble_eq_true rfl) (Nat.le_of_ble_eq_true rfl) d_Ha_init_17 (fun q17 cA9 H hK9 hP hD hS => ?_)
  have ec9 : cI = cA9 := Option.some.inj ((hK.2 1 _ rfl).2.symm.trans (hK9.2 2 _ rfl).2)
  subst ec9
  clear hK9
  have hP : va_P (dC, dI) classes [(h0, .inr (2, [.ref q7, .null, .null, .int 0])), (q7, .inl (cJ, 16, .inr (.inl (lF (fun _ => 0))))), (q17, .inl (cI, 64, .inl (fun _ => 0)))] H := hP
  have hD : va_D A [(h0, .inr (2, [.ref q7, .null, .null, .int 0])), (q7, .inl (cJ, 16, .inr (.inl (lF (fun _ => 0))))), (q17, .inl (cI, 64, .inl (fun _ => 0)))] := hD
  refine W.widen (k := 2) (n := 80) (by decide) (by decide) ?_
  refine va_putF (D := (dC, dI)) (ci := 2) (v := .ref q17) (ty := .array .int) (C := "BallotBoard$Hash") (T := F_Ha) (N := 4) hx hb hts (fun w9 h9 => List.mem_cons_of_mem _ (i_Ha w9 h9)) t_Ha t_Ha_ok n_Ha hown hK hP hD hS 0 rfl rfl 1 (by decide) (hts _ (List.mem_cons_of_mem _ gk_38)) (fun _ h9 => h9) rfl hin rfl (by decide +kernel) rfl rfl (Nat.le_of_ble_eq_true rfl) d_Ha_init_19 (fun H locs hP hD hS => ?_)
  have hP : va_P (dC, dI) classes [(h0, .inr (2, [.ref q7, .ref q17, .null, .int 0])), (q7, .inl (cJ, 16, .inr (.inl (lF (fun _ => 0))))), (q17, .inl (cI, 64, .inl (fun _ => 0)))] H := hP
  have hD : va_D A [(h0, .inr (2, [.ref q7, .ref q17, .null, .int 0])), (q7, .inl (cJ, 16, .inr (.inl (lF (fun _ => 0))))), (q17, .inl (cI, 64, .inl (fun _ => 0)))] := hD
  refine lv_aload_n hx hb d_Ha_init_22 rfl (lv_at hl 0 rfl) ?_
  refine va_gets (v := .ref sA) hx hb hZha.2.2.1 hS hown (hts _ (List.mem_cons_of_mem _ gk_35)) (fun _ h9 => h9) d_Ha_init_23 ?_
  refine va_tlen (v := 8) hx hb hZha.2.2.2 hS rfl d_Ha_init_26 ?_
  refine va_newa (atype := .int) (ty := .int) (N' := 8) (a0 := (8, .inl (fun _ => 0))) hx hb (hts _ (List.mem_cons_of_mem _ gk_51)) rfl hK hP hD hS hA (fun _ => rfl) (by decide) (by decide) (by decide) (Nat.le_of_ble_eq_true rfl) (Nat.le_of_ble_eq_true rfl) d_Ha_init_27 (fun q27 cA9 H hK9 hP hD hS => ?_)
  have ec9 : cI = cA9 := Option.some.inj ((hK.2 1 _ rfl).2.symm.trans (hK9.2 2 _ rfl).2)
  subst ec9
  clear hK9
  have hP : va_P (dC, dI) classes [(h0, .inr (2, [.ref q7, .ref q17, .null, .int 0])), (q7, .inl (cJ, 16, .inr (.inl (lF (fun _ => 0))))), (q17, .inl (cI, 64, .inl (fun _ => 0))), (q27, .inl (cI, 8, .inl (fun _ => 0)))] H := hP
  have hD : va_D A [(h0, .inr (2, [.ref q7, .ref q17, .null, .int 0])), (q7, .inl (cJ, 16, .inr (.inl (lF (fun _ => 0))))), (q17, .inl (cI, 64, .inl (fun _ => 0))), (q27, .inl (cI, 8, .inl (fun _ => 0)))] := hD
  refine W.widen (k := 3) (n := 88) (by decide) (by decide) ?_
  refine va_putF (D := (dC, dI)) (ci := 2) (v := .ref q27) (ty := .array .int) (C := "BallotBoard$Hash") (T := F_Ha) (N := 4) hx hb hts (fun w9 h9 => List.mem_cons_of_mem _ (i_Ha w9 h9)) t_Ha t_Ha_ok n_Ha hown hK hP hD hS 0 rfl rfl 2 (by decide) (hts _ (List.mem_cons_of_mem _ gk_39)) (fun _ h9 => h9) rfl hin rfl (by decide +kernel) rfl rfl (Nat.le_of_ble_eq_true rfl) d_Ha_init_29 (fun H locs hP hD hS => ?_)
  have hP : va_P (dC, dI) classes [(h0, .inr (2, [.ref q7, .ref q17, .ref q27, .int 0])), (q7, .inl (cJ, 16, .inr (.inl (lF (fun _ => 0))))), (q17, .inl (cI, 64, .inl (fun _ => 0))), (q27, .inl (cI, 8, .inl (fun _ => 0)))] H := hP
  have hD : va_D A [(h0, .inr (2, [.ref q7, .ref q17, .ref q27, .int 0])), (q7, .inl (cJ, 16, .inr (.inl (lF (fun _ => 0))))), (q17, .inl (cI, 64, .inl (fun _ => 0))), (q27, .inl (cI, 8, .inl (fun _ => 0)))] := hD
  refine lv_aload_n hx hb d_Ha_init_32 rfl (lv_at hl 0 rfl) ?_
  refine lv_iconst (v := 0) hx hb d_Ha_init_33 (by decide) ?_
  refine va_put (D := (dC, dI)) (ci := 2) (v := .int 0) (ty := .int) (C := "BallotBoard$Hash") (T := F_Ha) (N := 4) hx hb hts (fun w9 h9 => List.mem_cons_of_mem _ (i_Ha w9 h9)) t_Ha t_Ha_ok n_Ha hown hK hP hD hS 0 rfl rfl 3 (by decide) (hts _ (List.mem_cons_of_mem _ gk_40)) (fun _ h9 => h9) rfl (by decide +kernel) rfl rfl (Nat.le_of_ble_eq_true rfl) d_Ha_init_34 (fun H locs hP hD hS => ?_)
  have hP : va_P (dC, dI) classes [(h0, .inr (2, [.ref q7, .ref q17, .ref q27, .int 0])), (q7, .inl (cJ, 16, .inr (.inl (lF (fun _ => 0))))), (q17, .inl (cI, 64, .inl (fun _ => 0))), (q27, .inl (cI, 8, .inl (fun _ => 0)))] H := hP
  have hD : va_D A [(h0, .inr (2, [.ref q7, .ref q17, .ref q27, .int 0])), (q7, .inl (cJ, 16, .inr (.inl (lF (fun _ => 0))))), (q17, .inl (cI, 64, .inl (fun _ => 0))), (q27, .inl (cI, 8, .inl (fun _ => 0)))] := hD
  have hP := hP.sub (ws' := [(h0, .inr (2, [.ref q7, .ref q17, .ref q27, .int 0])), (q7, .inl (cJ, 16, .inr (.inl (lF (fun _ => 0))))), (q17, .inl (cI, 64, .inl (fun _ => 0))), (q27, .inl (cI, 8, .inl (fun _ => 0)))]) [0, 1, 2, 3] rfl
  have hD := hD.sub (ws' := [(h0, .inr (2, [.ref q7, .ref q17, .ref q27, .int 0])), (q7, .inl (cJ, 16, .inr (.inl (lF (fun _ => 0))))), (q17, .inl (cI, 64, .inl (fun _ => 0))), (q27, .inl (cI, 8, .inl (fun _ => 0)))]) [0, 1, 2, 3] (by decide) rfl
  refine W.widen (k := 3) (n := 88) (by decide) (by decide) ?_
  exact W.vret hx hb hr (fun t ht9 hW => ⟨⟨(q7, q17, q27), rfl, trivial, by rw [ht9]; exact hP, va_K.moved hW.alike hK, hD⟩, hS.F ht9⟩) hS.2.2 d_Ha_init_37
abbrev b_Pr_init : ByteArray := prog_7_method_1_code
abbrev y_Pr_init : MethodName := ⟨"BallotBoard$Proofs", "<init>", "(LBallotBoard$Hash;)V"⟩
abbrev w_Pr_init : List Cond := .code y_Pr_init b_Pr_init 2 none :: gw
theorem d_Pr_init_0 : decode b_Pr_init 0 = .ok (.aload_n 0, 1) := by decide +kernel
theorem d_Pr_init_1 : decode b_Pr_init 1 = .ok (.invokespecial 3, 3) := by decide +kernel
theorem d_Pr_init_4 : decode b_Pr_init 4 = .ok (.aload_n 0, 1) := by decide +kernel
theorem d_Pr_init_5 : decode b_Pr_init 5 = .ok (.aload_n 1, 1) := by decide +kernel
theorem d_Pr_init_6 : decode b_Pr_init 6 = .ok (.putfield 9, 3) := by decide +kernel
theorem d_Pr_init_9 : decode b_Pr_init 9 = .ok (.aload_n 0, 1) := by decide +kernel
theorem d_Pr_init_10 : decode b_Pr_init 10 = .ok (.iconst 4, 1) := by decide +kernel
theorem d_Pr_init_11 : decode b_Pr_init 11 = .ok (.newarray .long, 2) := by decide +kernel
theorem d_Pr_init_13 : decode b_Pr_init 13 = .ok (.putfield 15, 3) := by decide +kernel
theorem d_Pr_init_16 : decode b_Pr_init 16 = .ok (.return_, 1) := by decide +kernel
set_option maxHeartbeats 8000000 in
set_option maxRecDepth 100000 in
theorem c_Pr_init (l : Launch) (dC : Nat → ClassId) (dI : Nat → Nat → Nat) (cJ cI : ClassId) (sz : Nat) (pr0 h0 : Nat)  : Met l y_Pr_init w_Pr_init ({ frames := 1, cells := 1, slots := 4, locals := 20 }) (va_Pc [.ref pr0, .ref h0] (fun U => U.heap.size = sz ∧ va_P (dC, dI) classes [(pr0, .inr (5, [.null, .null]))] U.heap ∧ va_K (dC, dI) classes [(cJ, .long), (cI, .int)] U ∧ va_D (fun _ => True) [(pr0, .inr (5, [.null, .null]))])) (va_Qv (fun u9 : Nat => True) (fun u9 t => va_P (dC, dI) classes (pr_ws pr0 h0 u9 cJ (fun _ => 0)) t.heap ∧ va_K (dC, dI) classes [(cJ, .long), (cI, .int)] t ∧ va_D (va_A [(pr0, .inr (5, [.null, .null]))] sz) (pr_ws pr0 h0 u9 cJ (fun _ => 0))) (va_A [(pr0, .inr (5, [.null, .null]))] sz)) 1 4 (va_A [(pr0, .inr (5, [.null, .null]))] sz) := by
  refine Met.ofW (cc := b_Pr_init) (maxL := 2) (ret := none) (by decide) rfl ?_
  intro p e s m args below meth c s₁ Bd hml hv
  obtain ⟨rfl, hsz, hP, hK, hD0⟩ := hv
  have hx := Bd.exec
  have hb := Bd.bytes
  have hr := Bd.returns
  have hts := atoms_spec (ws := w_Pr_init) Bd.pre
  have hown : s.vm.findClass "BallotBoard$Proofs" = some m.cls := findClass_of_methodNamed Bd.named
  have hlocks := Bd.notSynchronized
  have hin : meth.name = "<init>" := (name_of_methodNamed Bd.named Bd.method).1
  subst hsz
  have hD := hD0.self (sz := s.heap.size)
  generalize hAe : va_A [(pr0, .inr (5, [.null, .null]))] s.heap.size = A at hD ⊢
  have hA : ∀ q : Nat, s.heap.size ≤ q → A q := fun q h => by rw [← hAe]; exact Or.inr h
  have hS : va_S A s.heap s.heap [] := va_S.rf
  have hl := lv_entry ([.ref pr0, .ref h0]) (n := 2) (Nat.le_of_ble_eq_true rfl)
  rw [lg_entry_eq]
  generalize (lg_sl ([.ref pr0, .ref h0]) ++ List.replicate (2 - (lg_sl ([.ref pr0, .ref h0])).length) Slot.unset).toArray = ls at hl ⊢
  have hl : lv_has ls 2 [(0, .ref pr0), (1, .ref h0)] := hl
  refine lv_aload_n hx hb d_Pr_init_0 rfl (lv_at hl 0 rfl) ?_
  refine W.objInit hx hb hown (hts _ (List.mem_cons_of_mem _ gk_78)) (hts _ (List.mem_cons_of_mem _ gk_25)) (hts _ (List.mem_cons_of_mem _ gk_26)) rfl (by rw [hml]; exact hl.1) rfl d_Pr_init_1 (Nat.le_of_ble_eq_true rfl) (Nat.le_of_ble_eq_true rfl) ?_
  refine W.eq (g2 := F0 m 4 ls []) rfl ?_
  refine lv_aload_n hx hb d_Pr_init_4 rfl (lv_at hl 0 rfl) ?_
  refine lv_aload_n hx hb d_Pr_init_5 rfl (lv_at hl 1 rfl) ?_
  refine va_putF (D := (dC, dI)) (ci := 5) (v := .ref h0) (ty := .object "BallotBoard$Hash") (C := "BallotBoard$Proofs") (T := F_Pr) (N := 2) hx hb hts (fun w9 h9 => List.mem_cons_of_mem _ (i_Pr w9 h9)) t_Pr t_Pr_ok n_Pr hown hK hP hD hS 0 rfl rfl 0 (by decide) (hts _ (List.mem_cons_of_mem _ gk_79)) (fun _ h9 => h9) rfl hin rfl (by decide +kernel) rfl rfl (Nat.le_of_ble_eq_true rfl) d_Pr_init_6 (fun H locs hP hD hS => ?_)
  have hP : va_P (dC, dI) classes [(pr0, .inr (5, [.ref h0, .null]))] H := hP
  have hD : va_D A [(pr0, .inr (5, [.ref h0, .null]))] := hD
  refine lv_aload_n hx hb d_Pr_init_9 rfl (lv_at hl 0 rfl) ?_
  refine lv_iconst (v := 4) hx hb d_Pr_init_10 (by decide) ?_
  refine va_newa (atype := .long) (ty := .long) (N' := 4) (a0 := (4, .inr (.inl (lF (fun _ => 0))))) hx hb (hts _ (List.mem_cons_of_mem _ gk_50)) rfl hK hP hD hS hA (fun _ => rfl) (by decide) (by decide) (by decide) (Nat.le_of_ble_eq_true rfl) (Nat.le_of_ble_eq_true rfl) d_Pr_init_11 (fun q11 cA9 H hK9 hP hD hS => ?_)
  have ec9 : cJ = cA9 := Option.some.inj ((hK.2 0 _ rfl).2.symm.trans (hK9.2 2 _ rfl).2)
  subst ec9
  clear hK9
  have hP : va_P (dC, dI) classes [(pr0, .inr (5, [.ref h0, .null])), (q11, .inl (cJ, 4, .inr (.inl (lF (fun _ => 0)))))] H := hP
  have hD : va_D A [(pr0, .inr (5, [.ref h0, .null])), (q11, .inl (cJ, 4, .inr (.inl (lF (fun _ => 0)))))] := hD
  refine W.widen (k := 1) (n := 4) (by decide) (by decide) ?_
  refine va_putF (D := (dC, dI)) (ci := 5) (v := .ref q11) (ty := .array .long) (C := "BallotBoard$Proofs") (T := F_Pr) (N := 2) hx hb hts (fun w9 h9 => List.mem_cons_of_mem _ (i_Pr w9 h9)) t_Pr t_Pr_ok n_Pr hown hK hP hD hS 0 rfl rfl 1 (by decide) (hts _ (List.mem_cons_of_mem _ gk_80)) (fun _ h9 => h9) rfl hin rfl (by decide +kernel) rfl rfl (Nat.le_of_ble_eq_true rfl) d_Pr_init_13 (fun H locs hP hD hS => ?_)
  have hP : va_P (dC, dI) classes [(pr0, .inr (5, [.ref h0, .ref q11])), (q11, .inl (cJ, 4, .inr (.inl (lF (fun _ => 0)))))] H := hP
  have hD : va_D A [(pr0, .inr (5, [.ref h0, .ref q11])), (q11, .inl (cJ, 4, .inr (.inl (lF (fun _ => 0)))))] := hD
  have hP := hP.sub (ws' := [(pr0, .inr (5, [.ref h0, .ref q11])), (q11, .inl (cJ, 4, .inr (.inl (lF (fun _ => 0)))))]) [0, 1] rfl
  have hD := hD.sub (ws' := [(pr0, .inr (5, [.ref h0, .ref q11])), (q11, .inl (cJ, 4, .inr (.inl (lF (fun _ => 0)))))]) [0, 1] (by decide) rfl
  refine W.widen (k := 1) (n := 4) (by decide) (by decide) ?_
  exact W.vret hx hb hr (fun t ht9 hW => ⟨⟨q11, rfl, trivial, by rw [ht9]; exact hP, va_K.moved hW.alike hK, hD⟩, hS.F ht9⟩) hS.2.2 d_Pr_init_16
abbrev b_Au_init : ByteArray := prog_2_method_1_code
abbrev y_Au_init : MethodName := ⟨"BallotBoard$Auditor", "<init>", "(LBallotBoard$Board;LBallotBoard$Proofs;)V"⟩
abbrev w_Au_init : List Cond := .code y_Au_init b_Au_init 3 none :: gw
theorem d_Au_init_0 : decode b_Au_init 0 = .ok (.aload_n 0, 1) := by decide +kernel
theorem d_Au_init_1 : decode b_Au_init 1 = .ok (.invokespecial 3, 3) := by decide +kernel
theorem d_Au_init_4 : decode b_Au_init 4 = .ok (.aload_n 0, 1) := by decide +kernel
theorem d_Au_init_5 : decode b_Au_init 5 = .ok (.aload_n 1, 1) := by decide +kernel
theorem d_Au_init_6 : decode b_Au_init 6 = .ok (.putfield 9, 3) := by decide +kernel
theorem d_Au_init_9 : decode b_Au_init 9 = .ok (.aload_n 0, 1) := by decide +kernel
theorem d_Au_init_10 : decode b_Au_init 10 = .ok (.aload_n 2, 1) := by decide +kernel
theorem d_Au_init_11 : decode b_Au_init 11 = .ok (.putfield 15, 3) := by decide +kernel
theorem d_Au_init_14 : decode b_Au_init 14 = .ok (.aload_n 0, 1) := by decide +kernel
theorem d_Au_init_15 : decode b_Au_init 15 = .ok (.new 19, 3) := by decide +kernel
theorem d_Au_init_18 : decode b_Au_init 18 = .ok (.dup, 1) := by decide +kernel
theorem d_Au_init_19 : decode b_Au_init 19 = .ok (.invokespecial 21, 3) := by decide +kernel
theorem d_Au_init_22 : decode b_Au_init 22 = .ok (.putfield 22, 3) := by decide +kernel
theorem d_Au_init_25 : decode b_Au_init 25 = .ok (.aload_n 0, 1) := by decide +kernel
theorem d_Au_init_26 : decode b_Au_init 26 = .ok (.iconst 0, 1) := by decide +kernel
theorem d_Au_init_27 : decode b_Au_init 27 = .ok (.putfield 26, 3) := by decide +kernel
theorem d_Au_init_30 : decode b_Au_init 30 = .ok (.return_, 1) := by decide +kernel
set_option maxHeartbeats 8000000 in
set_option maxRecDepth 100000 in
theorem c_Au_init (l : Launch) (dC : Nat → ClassId) (dI : Nat → Nat → Nat) (cJ cI : ClassId) (sz : Nat) (au0 bd0 pr0 : Nat)  : Met l y_Au_init w_Au_init ({ frames := 2, cells := 5, slots := 150, locals := 40 }) (va_Pc [.ref au0, .ref bd0, .ref pr0] (fun U => U.heap.size = sz ∧ va_P (dC, dI) classes [(au0, .inr (6, [.null, .null, .null, .int 0]))] U.heap ∧ va_K (dC, dI) classes [(cJ, .long), (cI, .int)] U ∧ va_D (fun _ => True) [(au0, .inr (6, [.null, .null, .null, .int 0]))])) (va_Qv (fun u9 : Nat × Nat × Nat × Nat × Nat => True) (fun u9 t => va_P (dC, dI) classes (au_ws au0 bd0 pr0 u9.1 0 ++ tl_ws u9.1 u9.2.1 u9.2.2.1 u9.2.2.2.1 u9.2.2.2.2 .null cJ (fun _ => 0) (fun _ => 0) (fun _ => 0) (fun _ => 0) 0 0 0 0 0 0 0 0 0) t.heap ∧ va_K (dC, dI) classes [(cJ, .long), (cI, .int)] t ∧ va_D (va_A [(au0, .inr (6, [.null, .null, .null, .int 0]))] sz) (au_ws au0 bd0 pr0 u9.1 0 ++ tl_ws u9.1 u9.2.1 u9.2.2.1 u9.2.2.2.1 u9.2.2.2.2 .null cJ (fun _ => 0) (fun _ => 0) (fun _ => 0) (fun _ => 0) 0 0 0 0 0 0 0 0 0)) (va_A [(au0, .inr (6, [.null, .null, .null, .int 0]))] sz)) 5 150 (va_A [(au0, .inr (6, [.null, .null, .null, .int 0]))] sz) := by
  refine Met.ofW (cc := b_Au_init) (maxL := 3) (ret := none) (by decide) rfl ?_
  intro p e s m args below meth c s₁ Bd hml hv
  obtain ⟨rfl, hsz, hP, hK, hD0⟩ := hv
  have hx := Bd.exec
  have hb := Bd.bytes
  have hr := Bd.returns
  have hts := atoms_spec (ws := w_Au_init) Bd.pre
  have hown : s.vm.findClass "BallotBoard$Auditor" = some m.cls := findClass_of_methodNamed Bd.named
  have hlocks := Bd.notSynchronized
  have hin : meth.name = "<init>" := (name_of_methodNamed Bd.named Bd.method).1
  subst hsz
  have hD := hD0.self (sz := s.heap.size)
  generalize hAe : va_A [(au0, .inr (6, [.null, .null, .null, .int 0]))] s.heap.size = A at hD ⊢
  have hA : ∀ q : Nat, s.heap.size ≤ q → A q := fun q h => by rw [← hAe]; exact Or.inr h
  have hS : va_S A s.heap s.heap [] := va_S.rf
  have hl := lv_entry ([.ref au0, .ref bd0, .ref pr0]) (n := 3) (Nat.le_of_ble_eq_true rfl)
  rw [lg_entry_eq]
  generalize (lg_sl ([.ref au0, .ref bd0, .ref pr0]) ++ List.replicate (3 - (lg_sl ([.ref au0, .ref bd0, .ref pr0])).length) Slot.unset).toArray = ls at hl ⊢
  have hl : lv_has ls 3 [(0, .ref au0), (1, .ref bd0), (2, .ref pr0)] := hl
  refine lv_aload_n hx hb d_Au_init_0 rfl (lv_at hl 0 rfl) ?_
  refine W.objInit hx hb hown (hts _ (List.mem_cons_of_mem _ gk_140)) (hts _ (List.mem_cons_of_mem _ gk_25)) (hts _ (List.mem_cons_of_mem _ gk_26)) rfl (by rw [hml]; exact hl.1) rfl d_Au_init_1 (Nat.le_of_ble_eq_true rfl) (Nat.le_of_ble_eq_true rfl) ?_
  refine W.eq (g2 := F0 m 4 ls []) rfl ?_
  refine lv_aload_n hx hb d_Au_init_4 rfl (lv_at hl 0 rfl) ?_
  refine lv_aload_n hx hb d_Au_init_5 rfl (lv_at hl 1 rfl) ?_
  refine va_putF (D := (dC, dI)) (ci := 6) (v := .ref bd0) (ty := .object "BallotBoard$Board") (C := "BallotBoard$Auditor") (T := F_Au) (N := 4) hx hb hts (fun w9 h9 => List.mem_cons_of_mem _ (i_Au w9 h9)) t_Au t_Au_ok n_Au hown hK hP hD hS 0 rfl rfl 0 (by decide) (hts _ (List.mem_cons_of_mem _ gk_143)) (fun _ h9 => h9) rfl hin rfl (by decide +kernel) rfl rfl (Nat.le_of_ble_eq_true rfl) d_Au_init_6 (fun H locs hP hD hS => ?_)
  have hP : va_P (dC, dI) classes [(au0, .inr (6, [.ref bd0, .null, .null, .int 0]))] H := hP
  have hD : va_D A [(au0, .inr (6, [.ref bd0, .null, .null, .int 0]))] := hD
  refine lv_aload_n hx hb d_Au_init_9 rfl (lv_at hl 0 rfl) ?_
  refine lv_aload_n hx hb d_Au_init_10 rfl (lv_at hl 2 rfl) ?_
  refine va_putF (D := (dC, dI)) (ci := 6) (v := .ref pr0) (ty := .object "BallotBoard$Proofs") (C := "BallotBoard$Auditor") (T := F_Au) (N := 4) hx hb hts (fun w9 h9 => List.mem_cons_of_mem _ (i_Au w9 h9)) t_Au t_Au_ok n_Au hown hK hP hD hS 0 rfl rfl 1 (by decide) (hts _ (List.mem_cons_of_mem _ gk_144)) (fun _ h9 => h9) rfl hin rfl (by decide +kernel) rfl rfl (Nat.le_of_ble_eq_true rfl) d_Au_init_11 (fun H locs hP hD hS => ?_)
  have hP : va_P (dC, dI) classes [(au0, .inr (6, [.ref bd0, .ref pr0, .null, .int 0]))] H := hP
  have hD : va_D A [(au0, .inr (6, [.ref bd0, .ref pr0, .null, .int 0]))] := hD
  refine lv_aload_n hx hb d_Au_init_14 rfl (lv_at hl 0 rfl) ?_
  refine va_new (ci := 4) (fs := [.null, .null, .null, .null, .null, .int 0, .int 0, .int 0, .int 0, .long 0, .long 0, .long 0, .long 0, .int 0]) (C := "BallotBoard$Tally") (T := F_Ta) (N := 14) hx hb hts (fun w9 h9 => List.mem_cons_of_mem _ (i_Ta w9 h9)) t_Ta t_Ta_ok hown (hts _ (List.mem_cons_of_mem _ gk_141)) (hts _ (List.mem_cons_of_mem _ gk_87)) (hts _ (List.mem_cons_of_mem _ gk_5)) hK hP hD hS hA rfl (fun j hj => by
    match j, hj with
    | 0, _ => rfl
    | 1, _ => rfl
    | 2, _ => rfl
    | 3, _ => rfl
    | 4, _ => rfl
    | 5, _ => rfl
    | 6, _ => rfl
    | 7, _ => rfl
    | 8, _ => rfl
    | 9, _ => rfl
    | 10, _ => rfl
    | 11, _ => rfl
    | 12, _ => rfl
    | 13, _ => rfl
    | j + 14, hj => exact absurd hj (by omega)) (Nat.le_of_ble_eq_true rfl) (Nat.le_of_ble_eq_true rfl) d_Au_init_15 (fun q15 H hP hD hS => ?_)
  have hP : va_P (dC, dI) classes [(au0, .inr (6, [.ref bd0, .ref pr0, .null, .int 0])), (q15, .inr (4, [.null, .null, .null, .null, .null, .int 0, .int 0, .int 0, .int 0, .long 0, .long 0, .long 0, .long 0, .int 0]))] H := hP
  have hD : va_D A [(au0, .inr (6, [.ref bd0, .ref pr0, .null, .int 0])), (q15, .inr (4, [.null, .null, .null, .null, .null, .int 0, .int 0, .int 0, .int 0, .long 0, .long 0, .long 0, .long 0, .int 0]))] := hD
  refine W.widen (k := 1) (n := 14) (by decide) (by decide) ?_
  refine lv_dup hx hb d_Au_init_18 rfl ?_
  have hPc := hP.sub (ws' := [(q15, .inr (4, [.null, .null, .null, .null, .null, .int 0, .int 0, .int 0, .int 0, .long 0, .long 0, .long 0, .long 0, .int 0]))]) [1] rfl
  have hDc := hD.sub (ws' := [(q15, .inr (4, [.null, .null, .null, .null, .null, .int 0, .int 0, .int 0, .int 0, .long 0, .long 0, .long 0, .long 0, .int 0]))]) [1] (by decide) rfl
  have hKc := hK.sub (tys' := [(cJ, .long), (cI, .int)]) [0, 1] rfl
  have hFc := va_free (wc := [(q15, .inr (4, [.null, .null, .null, .null, .null, .int 0, .int 0, .int 0, .int 0, .long 0, .long 0, .long 0, .long 0, .int 0]))]) hD hS hA [1] rfl
  refine va_callv (va_runI (As := []) (rest := [.ref q15, .ref au0]) ⟨hx, hb, hml, hown, hts⟩ (c_Ta_init l dC dI cJ cI H.size q15) (cwI 0 hts (gw_good gk_90) rfl rfl rfl (hts _ (List.mem_cons_of_mem _ gk_5)) (hts _ (List.mem_cons_of_mem _ gk_142)) (hts _ (List.mem_cons_of_mem _ gk_89)) rfl (by decide +kernel) ⟨Nat.le_of_ble_eq_true rfl, Nat.le_of_ble_eq_true rfl⟩) ⟨fun a U g mk q => by obtain ⟨q0, q1, qP, qK, qD⟩ := q; exact ⟨q0, q1, qP, va_K.moved (u := U) (U := U.calling g mk a) (Vm.Alike.refl U.vm) qK, qD⟩, fun U hU hW => ⟨rfl, by rw [hU], by rw [hU]; exact hPc, va_K.moved hW.alike hKc, hDc.weaken (fun _ _ _ _ => trivial)⟩⟩ rfl rfl hl.1 rfl (lv_room (Nat.le_of_ble_eq_true rfl)) d_Au_init_19 ⟨Nat.le_of_ble_eq_true rfl, Nat.le_of_ble_eq_true rfl⟩) hS (fun q _ h => hFc q h) hFc (fun u9 t9 H1 locs ht hvm hw hB hz1 hk1 hS => ?_)
  obtain ⟨ka9, aa9, ba9, sa9⟩ := u9
  obtain ⟨hP1, hK1, hD1⟩ := hB
  rw [ht] at hP1
  obtain ⟨hP, hD⟩ := va_join (wr := [(au0, .inr (6, [.ref bd0, .ref pr0, .null, .int 0]))]) (w1 := [(q15, .inr (4, [.ref ka9, .ref aa9, .ref ba9, .ref sa9, .null, .int (nI 0), .int (nI 0), .int (nI 0), .int (nI 0), .long (lN 0), .long (lN 0), .long (lN 0), .long (lN 0), .int 0])), (ka9, .inl (cJ, 4, .inr (.inl (lF (fun _ => 0))))), (aa9, .inl (cJ, 64, .inr (.inl (lF (fun _ => 0))))), (ba9, .inl (cJ, 64, .inr (.inl (lF (fun _ => 0))))), (sa9, .inl (cJ, 4, .inr (.inl (lF (fun _ => 0)))))]) hP hD [1] [0] rfl rfl (by decide) (by decide) hk1 hFc hP1 hD1
  generalize H1 = H at hP hS ⊢
  have hP : va_P (dC, dI) classes [(au0, .inr (6, [.ref bd0, .ref pr0, .null, .int 0])), (q15, .inr (4, [.ref ka9, .ref aa9, .ref ba9, .ref sa9, .null, .int (nI 0), .int (nI 0), .int (nI 0), .int (nI 0), .long (lN 0), .long (lN 0), .long (lN 0), .long (lN 0), .int 0])), (ka9, .inl (cJ, 4, .inr (.inl (lF (fun _ => 0))))), (aa9, .inl (cJ, 64, .inr (.inl (lF (fun _ => 0))))), (ba9, .inl (cJ, 64, .inr (.inl (lF (fun _ => 0))))), (sa9, .inl (cJ, 4, .inr (.inl (lF (fun _ => 0)))))] H := hP
  have hD : va_D A [(au0, .inr (6, [.ref bd0, .ref pr0, .null, .int 0])), (q15, .inr (4, [.ref ka9, .ref aa9, .ref ba9, .ref sa9, .null, .int (nI 0), .int (nI 0), .int (nI 0), .int (nI 0), .long (lN 0), .long (lN 0), .long (lN 0), .long (lN 0), .int 0])), (ka9, .inl (cJ, 4, .inr (.inl (lF (fun _ => 0))))), (aa9, .inl (cJ, 64, .inr (.inl (lF (fun _ => 0))))), (ba9, .inl (cJ, 64, .inr (.inl (lF (fun _ => 0))))), (sa9, .inl (cJ, 4, .inr (.inl (lF (fun _ => 0)))))] := hD
  refine va_putF (D := (dC, dI)) (ci := 6) (v := .ref q15) (ty := .object "BallotBoard$Tally") (C := "BallotBoard$Auditor") (T := F_Au) (N := 4) hx hb hts (fun w9 h9 => List.mem_cons_of_mem _ (i_Au w9 h9)) t_Au t_Au_ok n_Au hown hK hP hD hS 0 rfl rfl 2 (by decide) (hts _ (List.mem_cons_of_mem _ gk_145)) (fun _ h9 => h9) rfl hin rfl (by decide +kernel) rfl rfl (Nat.le_of_ble_eq_true rfl) d_Au_init_22 (fun H locs hP hD hS => ?_)
  have hP : va_P (dC, dI) classes [(au0, .inr (6, [.ref bd0, .ref pr0, .ref q15, .int 0])), (q15, .inr (4, [.ref ka9, .ref aa9, .ref ba9, .ref sa9, .null, .int (nI 0), .int (nI 0), .int (nI 0), .int (nI 0), .long (lN 0), .long (lN 0), .long (lN 0), .long (lN 0), .int 0])), (ka9, .inl (cJ, 4, .inr (.inl (lF (fun _ => 0))))), (aa9, .inl (cJ, 64, .inr (.inl (lF (fun _ => 0))))), (ba9, .inl (cJ, 64, .inr (.inl (lF (fun _ => 0))))), (sa9, .inl (cJ, 4, .inr (.inl (lF (fun _ => 0)))))] H := hP
  have hD : va_D A [(au0, .inr (6, [.ref bd0, .ref pr0, .ref q15, .int 0])), (q15, .inr (4, [.ref ka9, .ref aa9, .ref ba9, .ref sa9, .null, .int (nI 0), .int (nI 0), .int (nI 0), .int (nI 0), .long (lN 0), .long (lN 0), .long (lN 0), .long (lN 0), .int 0])), (ka9, .inl (cJ, 4, .inr (.inl (lF (fun _ => 0))))), (aa9, .inl (cJ, 64, .inr (.inl (lF (fun _ => 0))))), (ba9, .inl (cJ, 64, .inr (.inl (lF (fun _ => 0))))), (sa9, .inl (cJ, 4, .inr (.inl (lF (fun _ => 0)))))] := hD
  refine lv_aload_n hx hb d_Au_init_25 rfl (lv_at hl 0 rfl) ?_
  refine lv_iconst (v := 0) hx hb d_Au_init_26 (by decide) ?_
  refine va_put (D := (dC, dI)) (ci := 6) (v := .int 0) (ty := .int) (C := "BallotBoard$Auditor") (T := F_Au) (N := 4) hx hb hts (fun w9 h9 => List.mem_cons_of_mem _ (i_Au w9 h9)) t_Au t_Au_ok n_Au hown hK hP hD hS 0 rfl rfl 3 (by decide) (hts _ (List.mem_cons_of_mem _ gk_146)) (fun _ h9 => h9) rfl (by decide +kernel) rfl rfl (Nat.le_of_ble_eq_true rfl) d_Au_init_27 (fun H locs hP hD hS => ?_)
  have hP : va_P (dC, dI) classes [(au0, .inr (6, [.ref bd0, .ref pr0, .ref q15, .int 0])), (q15, .inr (4, [.ref ka9, .ref aa9, .ref ba9, .ref sa9, .null, .int (nI 0), .int (nI 0), .int (nI 0), .int (nI 0), .long (lN 0), .long (lN 0), .long (lN 0), .long (lN 0), .int 0])), (ka9, .inl (cJ, 4, .inr (.inl (lF (fun _ => 0))))), (aa9, .inl (cJ, 64, .inr (.inl (lF (fun _ => 0))))), (ba9, .inl (cJ, 64, .inr (.inl (lF (fun _ => 0))))), (sa9, .inl (cJ, 4, .inr (.inl (lF (fun _ => 0)))))] H := hP
  have hD : va_D A [(au0, .inr (6, [.ref bd0, .ref pr0, .ref q15, .int 0])), (q15, .inr (4, [.ref ka9, .ref aa9, .ref ba9, .ref sa9, .null, .int (nI 0), .int (nI 0), .int (nI 0), .int (nI 0), .long (lN 0), .long (lN 0), .long (lN 0), .long (lN 0), .int 0])), (ka9, .inl (cJ, 4, .inr (.inl (lF (fun _ => 0))))), (aa9, .inl (cJ, 64, .inr (.inl (lF (fun _ => 0))))), (ba9, .inl (cJ, 64, .inr (.inl (lF (fun _ => 0))))), (sa9, .inl (cJ, 4, .inr (.inl (lF (fun _ => 0)))))] := hD
  have hP := hP.sub (ws' := [(au0, .inr (6, [.ref bd0, .ref pr0, .ref q15, .int 0])), (q15, .inr (4, [.ref ka9, .ref aa9, .ref ba9, .ref sa9, .null, .int (nI 0), .int (nI 0), .int (nI 0), .int (nI 0), .long (lN 0), .long (lN 0), .long (lN 0), .long (lN 0), .int 0])), (ka9, .inl (cJ, 4, .inr (.inl (lF (fun _ => 0))))), (aa9, .inl (cJ, 64, .inr (.inl (lF (fun _ => 0))))), (ba9, .inl (cJ, 64, .inr (.inl (lF (fun _ => 0))))), (sa9, .inl (cJ, 4, .inr (.inl (lF (fun _ => 0)))))]) [0, 1, 2, 3, 4, 5] rfl
  have hD := hD.sub (ws' := [(au0, .inr (6, [.ref bd0, .ref pr0, .ref q15, .int 0])), (q15, .inr (4, [.ref ka9, .ref aa9, .ref ba9, .ref sa9, .null, .int (nI 0), .int (nI 0), .int (nI 0), .int (nI 0), .long (lN 0), .long (lN 0), .long (lN 0), .long (lN 0), .int 0])), (ka9, .inl (cJ, 4, .inr (.inl (lF (fun _ => 0))))), (aa9, .inl (cJ, 64, .inr (.inl (lF (fun _ => 0))))), (ba9, .inl (cJ, 64, .inr (.inl (lF (fun _ => 0))))), (sa9, .inl (cJ, 4, .inr (.inl (lF (fun _ => 0)))))]) [0, 1, 2, 3, 4, 5] (by decide) rfl
  refine W.widen (k := 5) (n := 150) (by decide) (by decide) ?_
  exact W.vret hx hb hr (fun t ht9 hW => ⟨⟨(q15, ka9, aa9, ba9, sa9), rfl, trivial, by rw [ht9]; exact hP, va_K.moved hW.alike hK, hD⟩, hS.F ht9⟩) hS.2.2 d_Au_init_30
