/-! SHA-256's holder: its world -/
abbrev ha_ws (h0 aw ax ay : Nat) (cJ cI : ClassId) (w : Nat → Int64) (sc st : Nat → Int32) (L : Nat) : va_W := [(h0, .inr (2, [.ref aw, .ref ax, .ref ay, .int (nI L)])), (aw, .inl (cJ, 16, .inr (.inl w))), (ax, .inl (cI, 64, .inl sc)), (ay, .inl (cI, 8, .inl st))]
/-- two words of 32 bits as one of 64 -/
def wd (a b : Int32) : Int64 := (a.toInt64 <<< ((32 : Int32).toInt64 &&& 63)) ||| (b.toInt64 &&& 4294967295)
abbrev b_Ha_turned : ByteArray := prog_5_method_8_code
abbrev y_Ha_turned : MethodName := ⟨"BallotBoard$Hash", "turned", "(II)I"⟩
abbrev w_Ha_turned : List Cond := .code y_Ha_turned b_Ha_turned 2 (some .int) :: gw
theorem d_Ha_turned_0 : decode b_Ha_turned 0 = .ok (.iload_n 0, 1) := by decide +kernel
theorem d_Ha_turned_1 : decode b_Ha_turned 1 = .ok (.iload_n 1, 1) := by decide +kernel
theorem d_Ha_turned_2 : decode b_Ha_turned 2 = .ok (.iushr, 1) := by decide +kernel
theorem d_Ha_turned_3 : decode b_Ha_turned 3 = .ok (.iload_n 0, 1) := by decide +kernel
theorem d_Ha_turned_4 : decode b_Ha_turned 4 = .ok (.bipush 32, 2) := by decide +kernel
theorem d_Ha_turned_6 : decode b_Ha_turned 6 = .ok (.iload_n 1, 1) := by decide +kernel
theorem d_Ha_turned_7 : decode b_Ha_turned 7 = .ok (.isub, 1) := by decide +kernel
theorem d_Ha_turned_8 : decode b_Ha_turned 8 = .ok (.ishl, 1) := by decide +kernel
theorem d_Ha_turned_9 : decode b_Ha_turned 9 = .ok (.ior, 1) := by decide +kernel
theorem d_Ha_turned_10 : decode b_Ha_turned 10 = .ok (.ireturn, 1) := by decide +kernel
set_option maxHeartbeats 4000000 in
set_option maxRecDepth 100000 in
theorem c_Ha_turned (l : Launch) (H0 : Heap) (x1 x2 : Int32) : Met l y_Ha_turned w_Ha_turned ({ frames := 0, cells := 0, slots := 0, locals := 0 }) (va_Pc [.int x1, .int x2] (fun U => U.heap = H0)) (va_Qi (fun (r : Int32) (_ : Unit) => r = tn x1 x2) (fun _ t => t.heap = H0) (fun _ => False)) 0 0 (fun _ => False) := by
  refine Met.ofW (cc := b_Ha_turned) (maxL := 2) (ret := (some .int)) (by decide) rfl ?_
  intro p e s m args below meth c s₁ Bd hml hv
  obtain ⟨rfl, hH⟩ := hv
  subst hH
  have hx := Bd.exec
  have hb := Bd.bytes
  have hr := Bd.returns
  have hts := atoms_spec (ws := w_Ha_turned) Bd.pre
  have hown : s.vm.findClass "BallotBoard$Hash" = some m.cls := findClass_of_methodNamed Bd.named
  have hlocks := Bd.notSynchronized
  have hS : va_S (fun _ => False) s.heap s.heap [] := va_S.rf
  have hl := lv_entry ([.int x1, .int x2]) (n := 2) (Nat.le_of_ble_eq_true rfl)
  rw [lg_entry_eq]
  generalize (lg_sl ([.int x1, .int x2]) ++ List.replicate (2 - (lg_sl ([.int x1, .int x2])).length) Slot.unset).toArray = ls at hl ⊢
  have hl : lv_has ls 2 [(0, .int x1), (1, .int x2)] := hl
  refine lv_iload_n hx hb d_Ha_turned_0 rfl (lv_at hl 0 rfl) ?_
  refine lv_iload_n hx hb d_Ha_turned_1 rfl (lv_at hl 1 rfl) ?_
  refine lv_iushr (v := ((x1 : Int32).toUInt32 >>> ((x2 : Int32).toUInt32 &&& Int32.toUInt32 31)).toInt32) hx hb d_Ha_turned_2 rfl ?_
  refine lv_iload_n hx hb d_Ha_turned_3 rfl (lv_at hl 0 rfl) ?_
  refine lv_bipush (v := 32) hx hb d_Ha_turned_4 (by decide) ?_
  refine lv_iload_n hx hb d_Ha_turned_6 rfl (lv_at hl 1 rfl) ?_
  refine lv_isub hx hb d_Ha_turned_7 ?_
  refine lv_ishl hx hb d_Ha_turned_8 ?_
  refine lv_ior hx hb d_Ha_turned_9 ?_
  exact W.iret (v := ((((x1 : Int32).toUInt32 >>> ((x2 : Int32).toUInt32 &&& Int32.toUInt32 31)).toInt32) ||| (x1 <<< ((32 - x2) &&& 31)))) hx hb hr (fun t ht hW => ⟨⟨_, (), rfl, rfl, ht⟩, hS.F ht⟩) hS.2.2 d_Ha_turned_10
abbrev b_Ha_start : ByteArray := prog_5_method_2_code
abbrev y_Ha_start : MethodName := ⟨"BallotBoard$Hash", "start", "()V"⟩
abbrev w_Ha_start : List Cond := .code y_Ha_start b_Ha_start 1 none :: gw
theorem d_Ha_start_0 : decode b_Ha_start 0 = .ok (.aload_n 0, 1) := by decide +kernel
theorem d_Ha_start_1 : decode b_Ha_start 1 = .ok (.iconst 0, 1) := by decide +kernel
theorem d_Ha_start_2 : decode b_Ha_start 2 = .ok (.putfield 26, 3) := by decide +kernel
theorem d_Ha_start_5 : decode b_Ha_start 5 = .ok (.return_, 1) := by decide +kernel
set_option maxHeartbeats 4000000 in
set_option maxRecDepth 100000 in
theorem c_Ha_start (l : Launch) (dC : Nat → ClassId) (dI : Nat → Nat → Nat) (h0 sz : Nat) (aw ax ay : Nat) (cJ cI : ClassId) (w : Nat → Int64) (sc st : Nat → Int32) (L : Nat)   : Met l y_Ha_start w_Ha_start ({ frames := 0, cells := 0, slots := 0, locals := 0 }) (va_Pc [.ref h0] (fun U => U.heap.size = sz ∧ va_P (dC, dI) classes (ha_ws h0 aw ax ay cJ cI w sc st L) U.heap ∧ va_K (dC, dI) classes [(cJ, .long), (cI, .int)] U ∧ va_D (fun _ => True) (ha_ws h0 aw ax ay cJ cI w sc st L))) (va_Qv (fun _ : Unit => True) (fun _ t => va_P (dC, dI) classes (ha_ws h0 aw ax ay cJ cI w sc st 0) t.heap ∧ va_K (dC, dI) classes [(cJ, .long), (cI, .int)] t ∧ va_D (va_A (ha_ws h0 aw ax ay cJ cI w sc st L) sz) (ha_ws h0 aw ax ay cJ cI w sc st 0)) (va_A (ha_ws h0 aw ax ay cJ cI w sc st L) sz)) 0 0 (va_A (ha_ws h0 aw ax ay cJ cI w sc st L) sz) := by
  refine Met.ofW (cc := b_Ha_start) (maxL := 1) (ret := none) (by decide) rfl ?_
  intro p e s m args below meth c s₁ Bd hml hv
  obtain ⟨rfl, hsz, hP, hK, hD0⟩ := hv
  have hx := Bd.exec
  have hb := Bd.bytes
  have hr := Bd.returns
  have hts := atoms_spec (ws := w_Ha_start) Bd.pre
  have hown : s.vm.findClass "BallotBoard$Hash" = some m.cls := findClass_of_methodNamed Bd.named
  have hlocks := Bd.notSynchronized
  subst hsz
  have hD := hD0.self (sz := s.heap.size)
  generalize hAe : va_A (ha_ws h0 aw ax ay cJ cI w sc st L) s.heap.size = A at hD ⊢
  have hA : ∀ q : Nat, s.heap.size ≤ q → A q := fun q h => by rw [← hAe]; exact Or.inr h
  have hS : va_S A s.heap s.heap [] := va_S.rf
  have hl := lv_entry ([.ref h0]) (n := 1) (Nat.le_of_ble_eq_true rfl)
  rw [lg_entry_eq]
  generalize (lg_sl ([.ref h0]) ++ List.replicate (1 - (lg_sl ([.ref h0])).length) Slot.unset).toArray = ls at hl ⊢
  have hl : lv_has ls 1 [(0, .ref h0)] := hl
  refine lv_aload_n hx hb d_Ha_start_0 rfl (lv_at hl 0 rfl) ?_
  refine lv_iconst (v := 0) hx hb d_Ha_start_1 (by decide) ?_
  refine va_put (D := (dC, dI)) (ci := 2) (v := .int 0) (ty := .int) (C := "BallotBoard$Hash") (T := F_Ha) (N := 4) hx hb hts (fun w9 h9 => List.mem_cons_of_mem _ (i_Ha w9 h9)) t_Ha t_Ha_ok n_Ha hown hK hP hD hS 0 rfl rfl 3 (by decide) (hts _ (List.mem_cons_of_mem _ gk_40)) (fun _ h9 => h9) rfl (by decide +kernel) rfl rfl (Nat.le_of_ble_eq_true rfl) d_Ha_start_2 (fun H locs hP hD hS => ?_)
  have hP : va_P (dC, dI) classes [(h0, .inr (2, [.ref aw, .ref ax, .ref ay, .int 0])), (aw, .inl (cJ, 16, .inr (.inl w))), (ax, .inl (cI, 64, .inl sc)), (ay, .inl (cI, 8, .inl st))] H := hP
  have hD : va_D A [(h0, .inr (2, [.ref aw, .ref ax, .ref ay, .int 0])), (aw, .inl (cJ, 16, .inr (.inl w))), (ax, .inl (cI, 64, .inl sc)), (ay, .inl (cI, 8, .inl st))] := hD
  exact W.vret hx hb hr (fun t ht9 hW => ⟨⟨(), rfl, trivial, by rw [ht9]; exact hP, va_K.moved hW.alike hK, hD⟩, hS.F ht9⟩) hS.2.2 d_Ha_start_5
abbrev b_Ha_add : ByteArray := prog_5_method_3_code
abbrev y_Ha_add : MethodName := ⟨"BallotBoard$Hash", "add", "(J)V"⟩
abbrev w_Ha_add : List Cond := .code y_Ha_add b_Ha_add 3 none :: gw
theorem d_Ha_add_0 : decode b_Ha_add 0 = .ok (.aload_n 0, 1) := by decide +kernel
theorem d_Ha_add_1 : decode b_Ha_add 1 = .ok (.getfield 26, 3) := by decide +kernel
theorem d_Ha_add_4 : decode b_Ha_add 4 = .ok (.bipush 14, 2) := by decide +kernel
theorem d_Ha_add_6 : decode b_Ha_add 6 = .ok (.if_icmp .ge 23, 3) := by decide +kernel
theorem d_Ha_add_9 : decode b_Ha_add 9 = .ok (.aload_n 0, 1) := by decide +kernel
theorem d_Ha_add_10 : decode b_Ha_add 10 = .ok (.getfield 9, 3) := by decide +kernel
theorem d_Ha_add_13 : decode b_Ha_add 13 = .ok (.aload_n 0, 1) := by decide +kernel
theorem d_Ha_add_14 : decode b_Ha_add 14 = .ok (.getfield 26, 3) := by decide +kernel
theorem d_Ha_add_17 : decode b_Ha_add 17 = .ok (.lload_n 1, 1) := by decide +kernel
theorem d_Ha_add_18 : decode b_Ha_add 18 = .ok (.lastore, 1) := by decide +kernel
theorem d_Ha_add_19 : decode b_Ha_add 19 = .ok (.aload_n 0, 1) := by decide +kernel
theorem d_Ha_add_20 : decode b_Ha_add 20 = .ok (.dup, 1) := by decide +kernel
theorem d_Ha_add_21 : decode b_Ha_add 21 = .ok (.getfield 26, 3) := by decide +kernel
theorem d_Ha_add_24 : decode b_Ha_add 24 = .ok (.iconst 1, 1) := by decide +kernel
theorem d_Ha_add_25 : decode b_Ha_add 25 = .ok (.iadd, 1) := by decide +kernel
theorem d_Ha_add_26 : decode b_Ha_add 26 = .ok (.putfield 26, 3) := by decide +kernel
theorem d_Ha_add_29 : decode b_Ha_add 29 = .ok (.return_, 1) := by decide +kernel
set_option maxHeartbeats 4000000 in
set_option maxRecDepth 100000 in
theorem c_Ha_add (l : Launch) (dC : Nat → ClassId) (dI : Nat → Nat → Nat) (h0 sz : Nat) (aw ax ay : Nat) (cJ cI : ClassId) (w : Nat → Int64) (sc st : Nat → Int32) (L : Nat) (x1 : Int64) (hL : L < 14) : Met l y_Ha_add w_Ha_add ({ frames := 0, cells := 0, slots := 0, locals := 0 }) (va_Pc [.ref h0, .long x1] (fun U => U.heap.size = sz ∧ va_P (dC, dI) classes (ha_ws h0 aw ax ay cJ cI w sc st L) U.heap ∧ va_K (dC, dI) classes [(cJ, .long), (cI, .int)] U ∧ va_D (fun _ => True) (ha_ws h0 aw ax ay cJ cI w sc st L))) (va_Qv (fun _ : Unit => True) (fun _ t => va_P (dC, dI) classes (ha_ws h0 aw ax ay cJ cI (vp_updL w L x1) sc st (L + 1)) t.heap ∧ va_K (dC, dI) classes [(cJ, .long), (cI, .int)] t ∧ va_D (va_A (ha_ws h0 aw ax ay cJ cI w sc st L) sz) (ha_ws h0 aw ax ay cJ cI (vp_updL w L x1) sc st (L + 1))) (va_A (ha_ws h0 aw ax ay cJ cI w sc st L) sz)) 0 0 (va_A (ha_ws h0 aw ax ay cJ cI w sc st L) sz) := by
  refine Met.ofW (cc := b_Ha_add) (maxL := 3) (ret := none) (by decide) rfl ?_
  intro p e s m args below meth c s₁ Bd hml hv
  obtain ⟨rfl, hsz, hP, hK, hD0⟩ := hv
  have hx := Bd.exec
  have hb := Bd.bytes
  have hr := Bd.returns
  have hts := atoms_spec (ws := w_Ha_add) Bd.pre
  have hown : s.vm.findClass "BallotBoard$Hash" = some m.cls := findClass_of_methodNamed Bd.named
  have hlocks := Bd.notSynchronized
  subst hsz
  have hD := hD0.self (sz := s.heap.size)
  generalize hAe : va_A (ha_ws h0 aw ax ay cJ cI w sc st L) s.heap.size = A at hD ⊢
  have hA : ∀ q : Nat, s.heap.size ≤ q → A q := fun q h => by rw [← hAe]; exact Or.inr h
  have hS : va_S A s.heap s.heap [] := va_S.rf
  have hl := lv_entry ([.ref h0, .long x1]) (n := 3) (Nat.le_of_ble_eq_true rfl)
  rw [lg_entry_eq]
  generalize (lg_sl ([.ref h0, .long x1]) ++ List.replicate (3 - (lg_sl ([.ref h0, .long x1])).length) Slot.unset).toArray = ls at hl ⊢
  have hl : lv_has ls 3 [(0, .ref h0), (1, .long x1)] := hl
  refine lv_aload_n hx hb d_Ha_add_0 rfl (lv_at hl 0 rfl) ?_
  refine va_get (D := (dC, dI)) (ci := 2) (v := .int (nI L)) (C := "BallotBoard$Hash") (T := F_Ha) (N := 4) hx hb hts (fun w9 h9 => List.mem_cons_of_mem _ (i_Ha w9 h9)) hown hK hP 0 rfl rfl 3 (by decide) (hts _ (List.mem_cons_of_mem _ gk_40)) (fun _ h9 => h9) rfl d_Ha_add_1 ?_
  refine lv_bipush (v := 14) hx hb d_Ha_add_4 (by decide) ?_
  refine lv_icmp_ge (tgt := 29) hx hb d_Ha_add_6 (by decide) (fun c_1 => ?_) (fun c_1 => ?_)
  · -- taken
    exact absurd ((ige 14 (by omega) (by omega) rfl).mp c_1) (by omega)
  · -- not taken
    refine lv_aload_n hx hb d_Ha_add_9 rfl (lv_at hl 0 rfl) ?_
    refine va_get (D := (dC, dI)) (ci := 2) (v := .ref aw) (C := "BallotBoard$Hash") (T := F_Ha) (N := 4) hx hb hts (fun w9 h9 => List.mem_cons_of_mem _ (i_Ha w9 h9)) hown hK hP 0 rfl rfl 0 (by decide) (hts _ (List.mem_cons_of_mem _ gk_37)) (fun _ h9 => h9) rfl d_Ha_add_10 ?_
    refine lv_aload_n hx hb d_Ha_add_13 rfl (lv_at hl 0 rfl) ?_
    refine va_get (D := (dC, dI)) (ci := 2) (v := .int (nI L)) (C := "BallotBoard$Hash") (T := F_Ha) (N := 4) hx hb hts (fun w9 h9 => List.mem_cons_of_mem _ (i_Ha w9 h9)) hown hK hP 0 rfl rfl 3 (by decide) (hts _ (List.mem_cons_of_mem _ gk_40)) (fun _ h9 => h9) rfl d_Ha_add_14 ?_
    refine lv_lload_n hx hb d_Ha_add_17 rfl (lv_at hl 1 rfl) ?_
    refine va_last hx hb hK hP hD hS 1 0 rfl rfl (vp_in_nI (by omega) (by omega)) d_Ha_add_18 (fun H locs hP hD hS => ?_)
    have hfe : vp_updL w (nI L : Int32).toNatClampNeg x1 = vp_updL w L x1 := by rw [nI_clamp (by omega)]
    have hP : va_P (dC, dI) classes [(h0, .inr (2, [.ref aw, .ref ax, .ref ay, .int (nI L)])), (aw, .inl (cJ, 16, .inr (.inl (vp_updL w (nI L : Int32).toNatClampNeg x1)))), (ax, .inl (cI, 64, .inl sc)), (ay, .inl (cI, 8, .inl st))] H := hP
    have hD : va_D A [(h0, .inr (2, [.ref aw, .ref ax, .ref ay, .int (nI L)])), (aw, .inl (cJ, 16, .inr (.inl (vp_updL w (nI L : Int32).toNatClampNeg x1)))), (ax, .inl (cI, 64, .inl sc)), (ay, .inl (cI, 8, .inl st))] := hD
    rw [hfe] at hP hD
    refine lv_aload_n hx hb d_Ha_add_19 rfl (lv_at hl 0 rfl) ?_
    refine lv_dup hx hb d_Ha_add_20 rfl ?_
    refine va_get (D := (dC, dI)) (ci := 2) (v := .int (nI L)) (C := "BallotBoard$Hash") (T := F_Ha) (N := 4) hx hb hts (fun w9 h9 => List.mem_cons_of_mem _ (i_Ha w9 h9)) hown hK hP 0 rfl rfl 3 (by decide) (hts _ (List.mem_cons_of_mem _ gk_40)) (fun _ h9 => h9) rfl d_Ha_add_21 ?_
    refine lv_iconst (v := 1) hx hb d_Ha_add_24 (by decide) ?_
    refine lv_iadd hx hb d_Ha_add_25 ?_
    rw [show ((nI L) + 1 : Int32) = (nI (L + 1)) from nI_1 L]
    refine va_put (D := (dC, dI)) (ci := 2) (v := .int (nI (L + 1))) (ty := .int) (C := "BallotBoard$Hash") (T := F_Ha) (N := 4) hx hb hts (fun w9 h9 => List.mem_cons_of_mem _ (i_Ha w9 h9)) t_Ha t_Ha_ok n_Ha hown hK hP hD hS 0 rfl rfl 3 (by decide) (hts _ (List.mem_cons_of_mem _ gk_40)) (fun _ h9 => h9) rfl (by decide +kernel) rfl rfl (Nat.le_of_ble_eq_true rfl) d_Ha_add_26 (fun H locs hP hD hS => ?_)
    have hP : va_P (dC, dI) classes [(h0, .inr (2, [.ref aw, .ref ax, .ref ay, .int (nI (L + 1))])), (aw, .inl (cJ, 16, .inr (.inl (vp_updL w L x1)))), (ax, .inl (cI, 64, .inl sc)), (ay, .inl (cI, 8, .inl st))] H := hP
    have hD : va_D A [(h0, .inr (2, [.ref aw, .ref ax, .ref ay, .int (nI (L + 1))])), (aw, .inl (cJ, 16, .inr (.inl (vp_updL w L x1)))), (ax, .inl (cI, 64, .inl sc)), (ay, .inl (cI, 8, .inl st))] := hD
    exact W.vret hx hb hr (fun t ht9 hW => ⟨⟨(), rfl, trivial, by rw [ht9]; exact hP, va_K.moved hW.alike hK, hD⟩, hS.F ht9⟩) hS.2.2 d_Ha_add_29
abbrev b_Ha_word : ByteArray := prog_5_method_5_code
abbrev y_Ha_word : MethodName := ⟨"BallotBoard$Hash", "word", "(I)J"⟩
abbrev w_Ha_word : List Cond := .code y_Ha_word b_Ha_word 2 (some .long) :: gw
theorem d_Ha_word_0 : decode b_Ha_word 0 = .ok (.aload_n 0, 1) := by decide +kernel
theorem d_Ha_word_1 : decode b_Ha_word 1 = .ok (.getfield 23, 3) := by decide +kernel
theorem d_Ha_word_4 : decode b_Ha_word 4 = .ok (.iconst 2, 1) := by decide +kernel
theorem d_Ha_word_5 : decode b_Ha_word 5 = .ok (.iload_n 1, 1) := by decide +kernel
theorem d_Ha_word_6 : decode b_Ha_word 6 = .ok (.imul, 1) := by decide +kernel
theorem d_Ha_word_7 : decode b_Ha_word 7 = .ok (.iaload, 1) := by decide +kernel
theorem d_Ha_word_8 : decode b_Ha_word 8 = .ok (.i2l, 1) := by decide +kernel
theorem d_Ha_word_9 : decode b_Ha_word 9 = .ok (.bipush 32, 2) := by decide +kernel
theorem d_Ha_word_11 : decode b_Ha_word 11 = .ok (.lshl, 1) := by decide +kernel
theorem d_Ha_word_12 : decode b_Ha_word 12 = .ok (.aload_n 0, 1) := by decide +kernel
theorem d_Ha_word_13 : decode b_Ha_word 13 = .ok (.getfield 23, 3) := by decide +kernel
theorem d_Ha_word_16 : decode b_Ha_word 16 = .ok (.iconst 2, 1) := by decide +kernel
theorem d_Ha_word_17 : decode b_Ha_word 17 = .ok (.iload_n 1, 1) := by decide +kernel
theorem d_Ha_word_18 : decode b_Ha_word 18 = .ok (.imul, 1) := by decide +kernel
theorem d_Ha_word_19 : decode b_Ha_word 19 = .ok (.iconst 1, 1) := by decide +kernel
theorem d_Ha_word_20 : decode b_Ha_word 20 = .ok (.iadd, 1) := by decide +kernel
theorem d_Ha_word_21 : decode b_Ha_word 21 = .ok (.iaload, 1) := by decide +kernel
theorem d_Ha_word_22 : decode b_Ha_word 22 = .ok (.i2l, 1) := by decide +kernel
theorem d_Ha_word_23 : decode b_Ha_word 23 = .ok (.ldc2_w 47, 3) := by decide +kernel
theorem d_Ha_word_26 : decode b_Ha_word 26 = .ok (.land, 1) := by decide +kernel
theorem d_Ha_word_27 : decode b_Ha_word 27 = .ok (.lor, 1) := by decide +kernel
theorem d_Ha_word_28 : decode b_Ha_word 28 = .ok (.lreturn, 1) := by decide +kernel
set_option maxHeartbeats 4000000 in
set_option maxRecDepth 100000 in
theorem c_Ha_word (l : Launch) (H0 : Heap) (dC : Nat → ClassId) (dI : Nat → Nat → Nat) (h0 : Nat) (aw ax ay : Nat) (cJ cI : ClassId) (w : Nat → Int64) (sc st : Nat → Int32) (L : Nat) (i : Nat) (hP : va_P (dC, dI) classes (ha_ws h0 aw ax ay cJ cI w sc st L) H0) (hi : i < 4) : Met l y_Ha_word w_Ha_word ({ frames := 0, cells := 0, slots := 0, locals := 0 }) (va_Pc [.ref h0, .int (nI i)] (fun U => U.heap = H0 ∧ va_K (dC, dI) classes [(cJ, .long), (cI, .int)] U)) (va_Ql (fun (r : Int64) (_ : Unit) => r = wd (st (2 * i)) (st (2 * i + 1))) (fun _ t => t.heap = H0) (fun _ => False)) 0 0 (fun _ => False) := by
  refine Met.ofW (cc := b_Ha_word) (maxL := 2) (ret := (some .long)) (by decide) rfl ?_
  intro p e s m args below meth c s₁ Bd hml hv
  obtain ⟨rfl, hH, hK⟩ := hv
  subst hH
  have hx := Bd.exec
  have hb := Bd.bytes
  have hr := Bd.returns
  have hts := atoms_spec (ws := w_Ha_word) Bd.pre
  have hown : s.vm.findClass "BallotBoard$Hash" = some m.cls := findClass_of_methodNamed Bd.named
  have hlocks := Bd.notSynchronized
  have hS : va_S (fun _ => False) s.heap s.heap [] := va_S.rf
  have hl := lv_entry ([.ref h0, .int (nI i)]) (n := 2) (Nat.le_of_ble_eq_true rfl)
  rw [lg_entry_eq]
  generalize (lg_sl ([.ref h0, .int (nI i)]) ++ List.replicate (2 - (lg_sl ([.ref h0, .int (nI i)])).length) Slot.unset).toArray = ls at hl ⊢
  have hl : lv_has ls 2 [(0, .ref h0), (1, .int (nI i))] := hl
  refine lv_aload_n hx hb d_Ha_word_0 rfl (lv_at hl 0 rfl) ?_
  refine va_get (D := (dC, dI)) (ci := 2) (v := .ref ay) (C := "BallotBoard$Hash") (T := F_Ha) (N := 4) hx hb hts (fun w9 h9 => List.mem_cons_of_mem _ (i_Ha w9 h9)) hown hK hP 0 rfl rfl 2 (by decide) (hts _ (List.mem_cons_of_mem _ gk_39)) (fun _ h9 => h9) rfl d_Ha_word_1 ?_
  refine lv_iconst (v := 2) hx hb d_Ha_word_4 (by decide) ?_
  refine lv_iload_n hx hb d_Ha_word_5 rfl (lv_at hl 1 rfl) ?_
  refine lv_imul hx hb d_Ha_word_6 ?_
  rw [show (2 * (nI i) : Int32) = (nI (2 * i)) from pk_mul 2 i]
  refine va_iald hx hb hK hP 3 1 rfl rfl (vp_in_nI (by omega) (by omega)) d_Ha_word_7 ?_
  rw [show (st (nI (2 * i) : Int32).toNatClampNeg : Int32) = st (2 * i) from by rw [nI_clamp (by omega)]]
  refine lv_i2l (v := (st (2 * i) : Int32).toInt64) hx hb d_Ha_word_8 rfl ?_
  refine lv_bipush (v := 32) hx hb d_Ha_word_9 (by decide) ?_
  refine lv_lshl (v := ((st (2 * i) : Int32).toInt64 : Int64) <<< ((32 : Int32).toInt64 &&& 63)) hx hb d_Ha_word_11 rfl ?_
  refine lv_aload_n hx hb d_Ha_word_12 rfl (lv_at hl 0 rfl) ?_
  refine va_get (D := (dC, dI)) (ci := 2) (v := .ref ay) (C := "BallotBoard$Hash") (T := F_Ha) (N := 4) hx hb hts (fun w9 h9 => List.mem_cons_of_mem _ (i_Ha w9 h9)) hown hK hP 0 rfl rfl 2 (by decide) (hts _ (List.mem_cons_of_mem _ gk_39)) (fun _ h9 => h9) rfl d_Ha_word_13 ?_
  refine lv_iconst (v := 2) hx hb d_Ha_word_16 (by decide) ?_
  refine lv_iload_n hx hb d_Ha_word_17 rfl (lv_at hl 1 rfl) ?_
  refine lv_imul hx hb d_Ha_word_18 ?_
  rw [show (2 * (nI i) : Int32) = (nI (2 * i)) from pk_mul 2 i]
  refine lv_iconst (v := 1) hx hb d_Ha_word_19 (by decide) ?_
  refine lv_iadd hx hb d_Ha_word_20 ?_
  rw [show ((nI (2 * i)) + 1 : Int32) = (nI (2 * i + 1)) from nI_1 _]
  refine va_iald hx hb hK hP 3 1 rfl rfl (vp_in_nI (by omega) (by omega)) d_Ha_word_21 ?_
  rw [show (st (nI (2 * i + 1) : Int32).toNatClampNeg : Int32) = st (2 * i + 1) from by rw [nI_clamp (by omega)]]
  refine lv_i2l (v := (st (2 * i + 1) : Int32).toInt64) hx hb d_Ha_word_22 rfl ?_
  refine lv_ldc2 (v := 4294967295) hx hb hown (hts _ (List.mem_cons_of_mem _ gk_539)) d_Ha_word_23 ?_
  refine lv_land hx hb d_Ha_word_26 ?_
  refine lv_lor hx hb d_Ha_word_27 ?_
  exact W.lret (v := ((((st (2 * i) : Int32).toInt64 : Int64) <<< ((32 : Int32).toInt64 &&& 63)) ||| (((st (2 * i + 1) : Int32).toInt64) &&& 4294967295))) hx hb hr (fun t ht hW => ⟨⟨_, (), rfl, rfl, ht⟩, hS.F ht⟩) hS.2.2 d_Ha_word_28
