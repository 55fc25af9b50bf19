abbrev b_Bd_add : ByteArray := prog_3_method_7_code
abbrev y_Bd_add : MethodName := ⟨"BallotBoard$Board", "add", "([J)I"⟩
abbrev w_Bd_add : List Cond := .code y_Bd_add b_Bd_add 4 (some .int) :: gw
theorem d_Bd_add_0 : decode b_Bd_add 0 = .ok (.aload_n 0, 1) := by decide +kernel
theorem d_Bd_add_1 : decode b_Bd_add 1 = .ok (.getfield 23, 3) := by decide +kernel
theorem d_Bd_add_4 : decode b_Bd_add 4 = .ok (.istore_n 2, 1) := by decide +kernel
theorem d_Bd_add_5 : decode b_Bd_add 5 = .ok (.aload_n 1, 1) := by decide +kernel
theorem d_Bd_add_6 : decode b_Bd_add 6 = .ok (.iconst 0, 1) := by decide +kernel
theorem d_Bd_add_7 : decode b_Bd_add 7 = .ok (.aload_n 0, 1) := by decide +kernel
theorem d_Bd_add_8 : decode b_Bd_add 8 = .ok (.getfield 17, 3) := by decide +kernel
theorem d_Bd_add_11 : decode b_Bd_add 11 = .ok (.iload_n 2, 1) := by decide +kernel
theorem d_Bd_add_12 : decode b_Bd_add 12 = .ok (.aaload, 1) := by decide +kernel
theorem d_Bd_add_13 : decode b_Bd_add 13 = .ok (.iconst 0, 1) := by decide +kernel
theorem d_Bd_add_14 : decode b_Bd_add 14 = .ok (.bipush 8, 2) := by decide +kernel
theorem d_Bd_add_16 : decode b_Bd_add 16 = .ok (.invokestatic 31, 3) := by decide +kernel
theorem d_Bd_add_19 : decode b_Bd_add 19 = .ok (.aload_n 0, 1) := by decide +kernel
theorem d_Bd_add_20 : decode b_Bd_add 20 = .ok (.iload_n 2, 1) := by decide +kernel
theorem d_Bd_add_21 : decode b_Bd_add 21 = .ok (.invokevirtual 37, 3) := by decide +kernel
theorem d_Bd_add_24 : decode b_Bd_add 24 = .ok (.iconst 0, 1) := by decide +kernel
theorem d_Bd_add_25 : decode b_Bd_add 25 = .ok (.istore_n 3, 1) := by decide +kernel
theorem d_Bd_add_26 : decode b_Bd_add 26 = .ok (.iload_n 3, 1) := by decide +kernel
theorem d_Bd_add_27 : decode b_Bd_add 27 = .ok (.iconst 4, 1) := by decide +kernel
theorem d_Bd_add_28 : decode b_Bd_add 28 = .ok (.if_icmp .ge 25, 3) := by decide +kernel
theorem d_Bd_add_31 : decode b_Bd_add 31 = .ok (.aload_n 0, 1) := by decide +kernel
theorem d_Bd_add_32 : decode b_Bd_add 32 = .ok (.getfield 20, 3) := by decide +kernel
theorem d_Bd_add_35 : decode b_Bd_add 35 = .ok (.iload_n 2, 1) := by decide +kernel
theorem d_Bd_add_36 : decode b_Bd_add 36 = .ok (.aaload, 1) := by decide +kernel
theorem d_Bd_add_37 : decode b_Bd_add 37 = .ok (.iload_n 3, 1) := by decide +kernel
theorem d_Bd_add_38 : decode b_Bd_add 38 = .ok (.aload_n 0, 1) := by decide +kernel
theorem d_Bd_add_39 : decode b_Bd_add 39 = .ok (.getfield 9, 3) := by decide +kernel
theorem d_Bd_add_42 : decode b_Bd_add 42 = .ok (.iload_n 3, 1) := by decide +kernel
theorem d_Bd_add_43 : decode b_Bd_add 43 = .ok (.invokevirtual 41, 3) := by decide +kernel
theorem d_Bd_add_46 : decode b_Bd_add 46 = .ok (.lastore, 1) := by decide +kernel
theorem d_Bd_add_47 : decode b_Bd_add 47 = .ok (.iinc 3 1, 3) := by decide +kernel
theorem d_Bd_add_50 : decode b_Bd_add 50 = .ok (.goto (-24), 3) := by decide +kernel
theorem d_Bd_add_53 : decode b_Bd_add 53 = .ok (.aload_n 0, 1) := by decide +kernel
theorem d_Bd_add_54 : decode b_Bd_add 54 = .ok (.dup, 1) := by decide +kernel
theorem d_Bd_add_55 : decode b_Bd_add 55 = .ok (.getfield 23, 3) := by decide +kernel
theorem d_Bd_add_58 : decode b_Bd_add 58 = .ok (.iconst 1, 1) := by decide +kernel
theorem d_Bd_add_59 : decode b_Bd_add 59 = .ok (.iadd, 1) := by decide +kernel
theorem d_Bd_add_60 : decode b_Bd_add 60 = .ok (.putfield 23, 3) := by decide +kernel
theorem d_Bd_add_63 : decode b_Bd_add 63 = .ok (.iload_n 2, 1) := by decide +kernel
theorem d_Bd_add_64 : decode b_Bd_add 64 = .ok (.ireturn, 1) := by decide +kernel
set_option maxHeartbeats 8000000 in
set_option maxRecDepth 100000 in
theorem c_Bd_add_0 (l : Launch) (dC : Nat → ClassId) (dI : Nat → Nat → Nat) (cJ cI cR : ClassId) (sz : Nat) (bd0 h0 ro lo k : Nat) (rr lr : Nat → Option Nat) (aw ax ay : Nat) (w : Nat → Int64) (sc st : Nat → Int32) (L : Nat) (rA sA : Nat) (rk : Nat) (rw : Nat → Int64) (K : Nat) (lk : Nat) (lv : Nat → Int64) (ra : Nat) (ru : Nat → Int64) (hk : k < 154) (hrk : rr k = some rk) (hr0 : rw 0 = lN K) (hK4 : K < 4) (hK2 : ¬ K = 2) (hk0 : k = 0) (hlk : lr k = some lk) : Met l y_Bd_add w_Bd_add ({ frames := 4, cells := 0, slots := 0, locals := 105 }) (va_Pc [.ref bd0, .ref ra] (fun U => U.heap.size = sz ∧ va_P (dC, dI) classes (bd_ws bd0 h0 ro lo k cR rr lr ++ (rw_ws rk cJ ru ++ (lk_ws lk cJ lv ++ (rw_ws ra cJ rw ++ (ha_ws h0 aw ax ay cJ cI w sc st L))))) U.heap ∧ va_K (dC, dI) classes [(cJ, .long), (cI, .int), (cR, .array .long)] U ∧ va_D (fun _ => True) (bd_ws bd0 h0 ro lo k cR rr lr ++ (rw_ws rk cJ ru ++ (lk_ws lk cJ lv ++ (rw_ws ra cJ rw ++ (ha_ws h0 aw ax ay cJ cI w sc st L))))) ∧ ha_Z rA sA (va_A (bd_ws bd0 h0 ro lo k cR rr lr ++ (rw_ws rk cJ ru ++ (lk_ws lk cJ lv ++ (rw_ws ra cJ rw ++ (ha_ws h0 aw ax ay cJ cI w sc st L))))) sz) U U.heap)) (va_Qi (fun (r : Int32) (u9 : HU) => r = nI k) (fun u9 t => va_P (dC, dI) classes (bd_ws bd0 h0 ro lo (k + 1) cR rr lr ++ (rw_ws rk cJ rw ++ (lk_ws lk cJ (lkw [0, 0, 0, 0, rw 0, rw 1, rw 2, rw 3, rw 4]) ++ (rw_ws ra cJ rw ++ (hu_ws h0 aw ax ay cJ cI u9))))) t.heap ∧ va_K (dC, dI) classes [(cJ, .long), (cI, .int), (cR, .array .long)] t ∧ va_D (va_A (bd_ws bd0 h0 ro lo k cR rr lr ++ (rw_ws rk cJ ru ++ (lk_ws lk cJ lv ++ (rw_ws ra cJ rw ++ (ha_ws h0 aw ax ay cJ cI w sc st L))))) sz) (bd_ws bd0 h0 ro lo (k + 1) cR rr lr ++ (rw_ws rk cJ rw ++ (lk_ws lk cJ (lkw [0, 0, 0, 0, rw 0, rw 1, rw 2, rw 3, rw 4]) ++ (rw_ws ra cJ rw ++ (hu_ws h0 aw ax ay cJ cI u9)))))) (va_A (bd_ws bd0 h0 ro lo k cR rr lr ++ (rw_ws rk cJ ru ++ (lk_ws lk cJ lv ++ (rw_ws ra cJ rw ++ (ha_ws h0 aw ax ay cJ cI w sc st L))))) sz)) 0 0 (va_A (bd_ws bd0 h0 ro lo k cR rr lr ++ (rw_ws rk cJ ru ++ (lk_ws lk cJ lv ++ (rw_ws ra cJ rw ++ (ha_ws h0 aw ax ay cJ cI w sc st L))))) sz) := by
  refine Met.ofW (cc := b_Bd_add) (maxL := 4) (ret := (some .int)) (by decide) rfl ?_
  intro p e s m args below meth c s₁ Bd hml hv
  obtain ⟨rfl, hsz, hP, hK, hD0, hZha⟩ := hv
  have hx := Bd.exec
  have hb := Bd.bytes
  have hr := Bd.returns
  have hts := atoms_spec (ws := w_Bd_add) Bd.pre
  have hown : s.vm.findClass "BallotBoard$Board" = some m.cls := findClass_of_methodNamed Bd.named
  have hlocks := Bd.notSynchronized
  subst hsz
  have hD := hD0.self (sz := s.heap.size)
  generalize hAe : va_A (bd_ws bd0 h0 ro lo k cR rr lr ++ (rw_ws rk cJ ru ++ (lk_ws lk cJ lv ++ (rw_ws ra cJ rw ++ (ha_ws h0 aw ax ay cJ cI w sc st L))))) s.heap.size = A at hD hZha ⊢
  have hA : ∀ q : Nat, s.heap.size ≤ q → A q := fun q h => by rw [← hAe]; exact Or.inr h
  have hS : va_S A s.heap s.heap [] := va_S.rf
  have hl := lv_entry ([.ref bd0, .ref ra]) (n := 4) (Nat.le_of_ble_eq_true rfl)
  rw [lg_entry_eq]
  generalize (lg_sl ([.ref bd0, .ref ra]) ++ List.replicate (4 - (lg_sl ([.ref bd0, .ref ra])).length) Slot.unset).toArray = ls at hl ⊢
  have hl : lv_has ls 4 [(0, .ref bd0), (1, .ref ra)] := hl
  refine lv_aload_n hx hb d_Bd_add_0 rfl (lv_at hl 0 rfl) ?_
  refine va_get (D := (dC, dI)) (ci := 3) (v := .int (nI k)) (C := "BallotBoard$Board") (T := F_Bo) (N := 4) hx hb hts (fun w9 h9 => List.mem_cons_of_mem _ (i_Bo w9 h9)) hown hK hP 0 rfl rfl 3 (by decide) (hts _ (List.mem_cons_of_mem _ gk_63)) (fun _ h9 => h9) rfl d_Bd_add_1 ?_
  refine lv_istore_n (lv' := [(2, .int (nI k)), (0, .ref bd0), (1, .ref ra)]) hx hb d_Bd_add_4 rfl hl (by decide) rfl (fun ls hl => ?_)
  refine lv_aload_n hx hb d_Bd_add_5 rfl (lv_at hl 2 rfl) ?_
  refine lv_iconst (v := 0) hx hb d_Bd_add_6 (by decide) ?_
  refine lv_aload_n hx hb d_Bd_add_7 rfl (lv_at hl 1 rfl) ?_
  refine va_get (D := (dC, dI)) (ci := 3) (v := .ref ro) (C := "BallotBoard$Board") (T := F_Bo) (N := 4) hx hb hts (fun w9 h9 => List.mem_cons_of_mem _ (i_Bo w9 h9)) hown hK hP 0 rfl rfl 1 (by decide) (hts _ (List.mem_cons_of_mem _ gk_61)) (fun _ h9 => h9) rfl d_Bd_add_8 ?_
  refine lv_iload_n hx hb d_Bd_add_11 rfl (lv_at hl 0 rfl) ?_
  refine va_aldA hx hb hK hP 1 2 rfl rfl (vp_in_nI (by omega) (by omega)) d_Bd_add_12 (b := rk) (by rw [nI_clamp (by omega)]; exact hrk) ?_
  refine lv_iconst (v := 0) hx hb d_Bd_add_13 (by decide) ?_
  refine lv_bipush (v := 8) hx hb d_Bd_add_14 (by decide) ?_
  refine va_copyl hx hb (hml.trans hl.1.symm) hown (hts _ (List.mem_cons_of_mem _ gk_586)) (hts _ (List.mem_cons_of_mem _ gk_523)) (hts _ (List.mem_cons_of_mem _ gk_522)) (hts _ (List.mem_cons_of_mem _ gk_16)) hK hP hD hS 5 3 0 0 rfl rfl rfl rfl rfl (by decide) (by decide) (by decide) (by decide) (by decide) (fun _ _ => rfl) (Nat.le_of_ble_eq_true rfl) (Nat.le_of_ble_eq_true rfl) d_Bd_add_16 (fun H locs hP hD hS => ?_)
  have hP : va_P (dC, dI) classes [(bd0, .inr (3, [.ref h0, .ref ro, .ref lo, .int (nI k)])), (ro, .inl (cR, 154, .inr (.inr (.inr (.inr rr))))), (lo, .inl (cR, 154, .inr (.inr (.inr (.inr lr))))), (rk, .inl (cJ, 8, .inr (.inl (va_cpy rw ru 0 0 8)))), (lk, .inl (cJ, 4, .inr (.inl lv))), (ra, .inl (cJ, 8, .inr (.inl rw))), (h0, .inr (2, [.ref aw, .ref ax, .ref ay, .int (nI L)])), (aw, .inl (cJ, 16, .inr (.inl w))), (ax, .inl (cI, 64, .inl sc)), (ay, .inl (cI, 8, .inl st))] H := hP
  have hD : va_D A [(bd0, .inr (3, [.ref h0, .ref ro, .ref lo, .int (nI k)])), (ro, .inl (cR, 154, .inr (.inr (.inr (.inr rr))))), (lo, .inl (cR, 154, .inr (.inr (.inr (.inr lr))))), (rk, .inl (cJ, 8, .inr (.inl (va_cpy rw ru 0 0 8)))), (lk, .inl (cJ, 4, .inr (.inl lv))), (ra, .inl (cJ, 8, .inr (.inl rw))), (h0, .inr (2, [.ref aw, .ref ax, .ref ay, .int (nI L)])), (aw, .inl (cJ, 16, .inr (.inl w))), (ax, .inl (cI, 64, .inl sc)), (ay, .inl (cI, 8, .inl st))] := hD
  have hP : va_P (dC, dI) classes [(bd0, .inr (3, [.ref h0, .ref ro, .ref lo, .int (nI k)])), (ro, .inl (cR, 154, .inr (.inr (.inr (.inr rr))))), (lo, .inl (cR, 154, .inr (.inr (.inr (.inr lr))))), (rk, .inl (cJ, 8, .inr (.inl rw))), (lk, .inl (cJ, 4, .inr (.inl lv))), (ra, .inl (cJ, 8, .inr (.inl rw))), (h0, .inr (2, [.ref aw, .ref ax, .ref ay, .int (nI L)])), (aw, .inl (cJ, 16, .inr (.inl w))), (ax, .inl (cI, 64, .inl sc)), (ay, .inl (cI, 8, .inl st))] H := hP.row 3 rfl cpy8
  have hD : va_D A [(bd0, .inr (3, [.ref h0, .ref ro, .ref lo, .int (nI k)])), (ro, .inl (cR, 154, .inr (.inr (.inr (.inr rr))))), (lo, .inl (cR, 154, .inr (.inr (.inr (.inr lr))))), (rk, .inl (cJ, 8, .inr (.inl rw))), (lk, .inl (cJ, 4, .inr (.inl lv))), (ra, .inl (cJ, 8, .inr (.inl rw))), (h0, .inr (2, [.ref aw, .ref ax, .ref ay, .int (nI L)])), (aw, .inl (cJ, 16, .inr (.inl w))), (ax, .inl (cI, 64, .inl sc)), (ay, .inl (cI, 8, .inl st))] := hD.set (p := 3) rfl
  refine lv_aload_n hx hb d_Bd_add_19 rfl (lv_at hl 1 rfl) ?_
  refine lv_iload_n hx hb d_Bd_add_20 rfl (lv_at hl 0 rfl) ?_
  have hPc := hP.sub (ws' := (bd_ws bd0 h0 ro lo k cR rr lr ++ (rw_ws rk cJ rw ++ (ha_ws h0 aw ax ay cJ cI w sc st L)))) [0, 1, 2, 3, 6, 7, 8, 9] rfl
  have hDc := hD.sub (ws' := (bd_ws bd0 h0 ro lo k cR rr lr ++ (rw_ws rk cJ rw ++ (ha_ws h0 aw ax ay cJ cI w sc st L)))) [0, 1, 2, 3, 6, 7, 8, 9] (by decide) rfl
  have hKc := hK.sub (tys' := [(cJ, .long), (cI, .int), (cR, .array .long)]) [0, 1, 2] rfl
  have hFc := va_free (wc := (bd_ws bd0 h0 ro lo k cR rr lr ++ (rw_ws rk cJ rw ++ (ha_ws h0 aw ax ay cJ cI w sc st L)))) hD hS hA [0, 1, 2, 3, 6, 7, 8, 9] rfl
  have hZc0 : ha_Z rA sA (va_A (bd_ws bd0 h0 ro lo k cR rr lr ++ (rw_ws rk cJ rw ++ (ha_ws h0 aw ax ay cJ cI w sc st L))) H.size) s H := (hZha.kept hS.2.1).narrow hFc
  refine va_callv (va_runV (As := [.int (nI k)]) (rest := []) ⟨hx, hb, hml, hown, hts⟩ (c_Bd_hashEntry_0 l dC dI cJ cI cR H.size bd0 h0 ro lo k rr lr aw ax ay w sc st L rA sA k rk rw K  hk hrk hr0 hK4 hK2 hk0) (cwV 1 hts (gw_V gk_587 gk_589 gp_20 gk_3 gk_590) rfl rfl rfl (by decide +kernel) ⟨Nat.le_of_ble_eq_true rfl, Nat.le_of_ble_eq_true rfl⟩) ⟨fun a U g mk q => by obtain ⟨q0, q1, qP, qK, qD, qZ0⟩ := q; exact ⟨q0, q1, qP, va_K.moved (u := U) (U := U.calling g mk a) (Vm.Alike.refl U.vm) qK, qD, ha_Z.moved (u := U) (U := U.calling g mk a) (Vm.Alike.refl U.vm) qZ0⟩, va_recv hK hP (ci := 3) (q0 := 0) rfl rfl, fun U hU hW => ⟨rfl, by rw [hU], by rw [hU]; exact hPc, va_K.moved hW.alike hKc, hDc.weaken (fun _ _ _ _ => trivial), by rw [hU]; exact ha_Z.moved hW.alike hZc0⟩⟩ rfl rfl hl.1 rfl (lv_room (Nat.le_of_ble_eq_true rfl)) d_Bd_add_21 ⟨Nat.le_of_ble_eq_true rfl, Nat.le_of_ble_eq_true rfl⟩) hS (fun q _ h => hFc q h) hFc (fun u9 t9 H1 locs ht hvm hw hB hz1 hk1 hS => ?_)
  obtain ⟨gwk_1, gsk_1, gtk_1, glk_1⟩ := u9
  have hdg : dgo gtk_1 [0, 0, 0, 0, rw 0, rw 1, rw 2, rw 3, rw 4] := hw
  obtain ⟨hP1, hK1, hD1⟩ := hB
  rw [ht] at hP1
  obtain ⟨hP, hD⟩ := va_join (wr := [(lk, .inl (cJ, 4, .inr (.inl lv))), (ra, .inl (cJ, 8, .inr (.inl rw)))]) (w1 := [(bd0, .inr (3, [.ref h0, .ref ro, .ref lo, .int (nI k)])), (ro, .inl (cR, 154, .inr (.inr (.inr (.inr rr))))), (lo, .inl (cR, 154, .inr (.inr (.inr (.inr lr))))), (rk, .inl (cJ, 8, .inr (.inl rw))), (h0, .inr (2, [.ref aw, .ref ax, .ref ay, .int (nI glk_1)])), (aw, .inl (cJ, 16, .inr (.inl gwk_1))), (ax, .inl (cI, 64, .inl gsk_1)), (ay, .inl (cI, 8, .inl gtk_1))]) hP hD [0, 1, 2, 3, 6, 7, 8, 9] [4, 5] rfl rfl (by decide) (by decide) hk1 hFc hP1 hD1
  have hP := hP.sub (ws' := [(bd0, .inr (3, [.ref h0, .ref ro, .ref lo, .int (nI k)])), (ro, .inl (cR, 154, .inr (.inr (.inr (.inr rr))))), (lo, .inl (cR, 154, .inr (.inr (.inr (.inr lr))))), (rk, .inl (cJ, 8, .inr (.inl rw))), (lk, .inl (cJ, 4, .inr (.inl lv))), (ra, .inl (cJ, 8, .inr (.inl rw))), (h0, .inr (2, [.ref aw, .ref ax, .ref ay, .int (nI glk_1)])), (aw, .inl (cJ, 16, .inr (.inl gwk_1))), (ax, .inl (cI, 64, .inl gsk_1)), (ay, .inl (cI, 8, .inl gtk_1))]) [2, 3, 4, 5, 0, 1, 6, 7, 8, 9] rfl
  have hD := hD.sub (ws' := [(bd0, .inr (3, [.ref h0, .ref ro, .ref lo, .int (nI k)])), (ro, .inl (cR, 154, .inr (.inr (.inr (.inr rr))))), (lo, .inl (cR, 154, .inr (.inr (.inr (.inr lr))))), (rk, .inl (cJ, 8, .inr (.inl rw))), (lk, .inl (cJ, 4, .inr (.inl lv))), (ra, .inl (cJ, 8, .inr (.inl rw))), (h0, .inr (2, [.ref aw, .ref ax, .ref ay, .int (nI glk_1)])), (aw, .inl (cJ, 16, .inr (.inl gwk_1))), (ax, .inl (cI, 64, .inl gsk_1)), (ay, .inl (cI, 8, .inl gtk_1))]) [2, 3, 4, 5, 0, 1, 6, 7, 8, 9] (by decide) rfl
  generalize H1 = H at hP hS ⊢
  refine lv_iconst (v := 0) hx hb d_Bd_add_24 (by decide) ?_
  refine lv_istore_n (lv' := [(3, .int 0), (2, .int (nI k)), (0, .ref bd0), (1, .ref ra)]) hx hb d_Bd_add_25 rfl hl (by decide) rfl (fun ls hl => ?_)
  refine lv_iload_n hx hb d_Bd_add_26 rfl (lv_at hl 0 rfl) ?_
  refine lv_iconst (v := 4) hx hb d_Bd_add_27 (by decide) ?_
  refine lv_icmp_ge (tgt := 53) hx hb d_Bd_add_28 (by decide) (fun c_3 => ?_) (fun c_3 => ?_)
  · -- taken
    exact absurd c_3 (by decide)
  · -- not taken
    refine lv_aload_n hx hb d_Bd_add_31 rfl (lv_at hl 2 rfl) ?_
    refine va_get (D := (dC, dI)) (ci := 3) (v := .ref lo) (C := "BallotBoard$Board") (T := F_Bo) (N := 4) hx hb hts (fun w9 h9 => List.mem_cons_of_mem _ (i_Bo w9 h9)) hown hK hP 0 rfl rfl 2 (by decide) (hts _ (List.mem_cons_of_mem _ gk_62)) (fun _ h9 => h9) rfl d_Bd_add_32 ?_
    refine lv_iload_n hx hb d_Bd_add_35 rfl (lv_at hl 1 rfl) ?_
    refine va_aldA hx hb hK hP 2 2 rfl rfl (vp_in_nI (by omega) (by omega)) d_Bd_add_36 (b := lk) (by rw [nI_clamp (by omega)]; exact hlk) ?_
    refine lv_iload_n hx hb d_Bd_add_37 rfl (lv_at hl 0 rfl) ?_
    refine lv_aload_n hx hb d_Bd_add_38 rfl (lv_at hl 2 rfl) ?_
    refine va_get (D := (dC, dI)) (ci := 3) (v := .ref h0) (C := "BallotBoard$Board") (T := F_Bo) (N := 4) hx hb hts (fun w9 h9 => List.mem_cons_of_mem _ (i_Bo w9 h9)) hown hK hP 0 rfl rfl 0 (by decide) (hts _ (List.mem_cons_of_mem _ gk_60)) (fun _ h9 => h9) rfl d_Bd_add_39 ?_
    refine lv_iload_n hx hb d_Bd_add_42 rfl (lv_at hl 0 rfl) ?_
    have hPc := hP.sub (ws' := (ha_ws h0 aw ax ay cJ cI gwk_1 gsk_1 gtk_1 glk_1)) [6, 7, 8, 9] rfl
    have hKc := hK.sub (tys' := [(cJ, .long), (cI, .int)]) [0, 1] rfl
    refine va_calll (va_runV (As := [.int 0]) (rest := [.int 0, .ref lk]) ⟨hx, hb, hml, hown, hts⟩ (c_Ha_word l H dC dI h0 aw ax ay cJ cI gwk_1 gsk_1 gtk_1 glk_1 0 hPc (by decide)) (cwV 1 hts (gw_V gk_598 gk_536 gk_537 gk_2 gk_538) rfl rfl rfl (by decide +kernel) ⟨Nat.le_of_ble_eq_true rfl, Nat.le_of_ble_eq_true rfl⟩) ⟨fun a U g mk q => ⟨q.1, q.2.1, va_K.moved (u := U) (U := U.calling g mk a) (Vm.Alike.refl U.vm) q.2.2⟩, va_recv hK hP (ci := 2) (q0 := 6) rfl rfl, fun U hU hW => ⟨rfl, hU, va_K.moved hW.alike hKc⟩⟩ rfl rfl hl.1 rfl (lv_room (Nat.le_of_ble_eq_true rfl)) d_Bd_add_43 ⟨Nat.le_of_ble_eq_true rfl, Nat.le_of_ble_eq_true rfl⟩) hS (fun q _ h => h.elim) (fun q h => h.elim) (fun r43 u9 t9 H1 locs ht hvm hw hB hz1 hk1 hS => ?_)
    obtain rfl : H = H1 := hB.symm.trans ht
    have hw : r43 = wd (gtk_1 0) (gtk_1 1) := hw
    subst hw
    rw [show (wd (gtk_1 0) (gtk_1 1) : Int64) = (lkw [0, 0, 0, 0, rw 0, rw 1, rw 2, rw 3, rw 4] 0) from lkw_0 hdg]
    refine va_last hx hb hK hP hD hS 4 0 rfl rfl (vp_lit rfl) d_Bd_add_46 (fun H locs hP hD hS => ?_)
    have hfe : vp_updL lv (0 : Int32).toNatClampNeg (lkw [0, 0, 0, 0, rw 0, rw 1, rw 2, rw 3, rw 4] 0) = vp_updL lv 0 (lkw [0, 0, 0, 0, rw 0, rw 1, rw 2, rw 3, rw 4] 0) := rfl
    have hP : va_P (dC, dI) classes [(bd0, .inr (3, [.ref h0, .ref ro, .ref lo, .int (nI k)])), (ro, .inl (cR, 154, .inr (.inr (.inr (.inr rr))))), (lo, .inl (cR, 154, .inr (.inr (.inr (.inr lr))))), (rk, .inl (cJ, 8, .inr (.inl rw))), (lk, .inl (cJ, 4, .inr (.inl (vp_updL lv (0 : Int32).toNatClampNeg (lkw [0, 0, 0, 0, rw 0, rw 1, rw 2, rw 3, rw 4] 0))))), (ra, .inl (cJ, 8, .inr (.inl rw))), (h0, .inr (2, [.ref aw, .ref ax, .ref ay, .int (nI glk_1)])), (aw, .inl (cJ, 16, .inr (.inl gwk_1))), (ax, .inl (cI, 64, .inl gsk_1)), (ay, .inl (cI, 8, .inl gtk_1))] H := hP
    have hD : va_D A [(bd0, .inr (3, [.ref h0, .ref ro, .ref lo, .int (nI k)])), (ro, .inl (cR, 154, .inr (.inr (.inr (.inr rr))))), (lo, .inl (cR, 154, .inr (.inr (.inr (.inr lr))))), (rk, .inl (cJ, 8, .inr (.inl rw))), (lk, .inl (cJ, 4, .inr (.inl (vp_updL lv (0 : Int32).toNatClampNeg (lkw [0, 0, 0, 0, rw 0, rw 1, rw 2, rw 3, rw 4] 0))))), (ra, .inl (cJ, 8, .inr (.inl rw))), (h0, .inr (2, [.ref aw, .ref ax, .ref ay, .int (nI glk_1)])), (aw, .inl (cJ, 16, .inr (.inl gwk_1))), (ax, .inl (cI, 64, .inl gsk_1)), (ay, .inl (cI, 8, .inl gtk_1))] := hD
    rw [hfe] at hP hD
    obtain ⟨i_4, ei_4⟩ : ∃ y : Int32, y = 0 + 1 := ⟨_, rfl⟩
    refine lv_iinc (v := i_4) (lv' := [(3, .int i_4), (2, .int (nI k)), (0, .ref bd0), (1, .ref ra)]) hx hb d_Bd_add_47 hl (k := 0) rfl (by rw [ei_4]; rfl) (by decide) rfl (fun ls hl => ?_)
    obtain rfl : i_4 = 1 := by rw [ei_4]; exact by decide
    refine lv_goto (tgt := 26) hx hb d_Bd_add_50 (by decide) ?_
    refine lv_iload_n hx hb d_Bd_add_26 rfl (lv_at hl 0 rfl) ?_
    refine lv_iconst (v := 4) hx hb d_Bd_add_27 (by decide) ?_
    refine lv_icmp_ge (tgt := 53) hx hb d_Bd_add_28 (by decide) (fun c_5 => ?_) (fun c_5 => ?_)
    · -- taken
      exact absurd c_5 (by decide)
    · -- not taken
      refine lv_aload_n hx hb d_Bd_add_31 rfl (lv_at hl 2 rfl) ?_
      refine va_get (D := (dC, dI)) (ci := 3) (v := .ref lo) (C := "BallotBoard$Board") (T := F_Bo) (N := 4) hx hb hts (fun w9 h9 => List.mem_cons_of_mem _ (i_Bo w9 h9)) hown hK hP 0 rfl rfl 2 (by decide) (hts _ (List.mem_cons_of_mem _ gk_62)) (fun _ h9 => h9) rfl d_Bd_add_32 ?_
      refine lv_iload_n hx hb d_Bd_add_35 rfl (lv_at hl 1 rfl) ?_
      refine va_aldA hx hb hK hP 2 2 rfl rfl (vp_in_nI (by omega) (by omega)) d_Bd_add_36 (b := lk) (by rw [nI_clamp (by omega)]; exact hlk) ?_
      refine lv_iload_n hx hb d_Bd_add_37 rfl (lv_at hl 0 rfl) ?_
      refine lv_aload_n hx hb d_Bd_add_38 rfl (lv_at hl 2 rfl) ?_
      refine va_get (D := (dC, dI)) (ci := 3) (v := .ref h0) (C := "BallotBoard$Board") (T := F_Bo) (N := 4) hx hb hts (fun w9 h9 => List.mem_cons_of_mem _ (i_Bo w9 h9)) hown hK hP 0 rfl rfl 0 (by decide) (hts _ (List.mem_cons_of_mem _ gk_60)) (fun _ h9 => h9) rfl d_Bd_add_39 ?_
      refine lv_iload_n hx hb d_Bd_add_42 rfl (lv_at hl 0 rfl) ?_
      have hPc := hP.sub (ws' := (ha_ws h0 aw ax ay cJ cI gwk_1 gsk_1 gtk_1 glk_1)) [6, 7, 8, 9] rfl
      have hKc := hK.sub (tys' := [(cJ, .long), (cI, .int)]) [0, 1] rfl
      refine va_calll (va_runV (As := [.int 1]) (rest := [.int 1, .ref lk]) ⟨hx, hb, hml, hown, hts⟩ (c_Ha_word l H dC dI h0 aw ax ay cJ cI gwk_1 gsk_1 gtk_1 glk_1 1 hPc (by decide)) (cwV 1 hts (gw_V gk_598 gk_536 gk_537 gk_2 gk_538) rfl rfl rfl (by decide +kernel) ⟨Nat.le_of_ble_eq_true rfl, Nat.le_of_ble_eq_true rfl⟩) ⟨fun a U g mk q => ⟨q.1, q.2.1, va_K.moved (u := U) (U := U.calling g mk a) (Vm.Alike.refl U.vm) q.2.2⟩, va_recv hK hP (ci := 2) (q0 := 6) rfl rfl, fun U hU hW => ⟨rfl, hU, va_K.moved hW.alike hKc⟩⟩ rfl rfl hl.1 rfl (lv_room (Nat.le_of_ble_eq_true rfl)) d_Bd_add_43 ⟨Nat.le_of_ble_eq_true rfl, Nat.le_of_ble_eq_true rfl⟩) hS (fun q _ h => h.elim) (fun q h => h.elim) (fun r43 u9 t9 H1 locs ht hvm hw hB hz1 hk1 hS => ?_)
      obtain rfl : H = H1 := hB.symm.trans ht
      have hw : r43 = wd (gtk_1 2) (gtk_1 3) := hw
      subst hw
      rw [show (wd (gtk_1 2) (gtk_1 3) : Int64) = (lkw [0, 0, 0, 0, rw 0, rw 1, rw 2, rw 3, rw 4] 1) from lkw_1 hdg]
      refine va_last hx hb hK hP hD hS 4 0 rfl rfl (vp_lit rfl) d_Bd_add_46 (fun H locs hP hD hS => ?_)
      have hfe : vp_updL (vp_updL lv 0 (lkw [0, 0, 0, 0, rw 0, rw 1, rw 2, rw 3, rw 4] 0)) (1 : Int32).toNatClampNeg (lkw [0, 0, 0, 0, rw 0, rw 1, rw 2, rw 3, rw 4] 1) = vp_updL (vp_updL lv 0 (lkw [0, 0, 0, 0, rw 0, rw 1, rw 2, rw 3, rw 4] 0)) 1 (lkw [0, 0, 0, 0, rw 0, rw 1, rw 2, rw 3, rw 4] 1) := rfl
      have hP : va_P (dC, dI) classes [(bd0, .inr (3, [.ref h0, .ref ro, .ref lo, .int (nI k)])), (ro, .inl (cR, 154, .inr (.inr (.inr (.inr rr))))), (lo, .inl (cR, 154, .inr (.inr (.inr (.inr lr))))), (rk, .inl (cJ, 8, .inr (.inl rw))), (lk, .inl (cJ, 4, .inr (.inl (vp_updL (vp_updL lv 0 (lkw [0, 0, 0, 0, rw 0, rw 1, rw 2, rw 3, rw 4] 0)) (1 : Int32).toNatClampNeg (lkw [0, 0, 0, 0, rw 0, rw 1, rw 2, rw 3, rw 4] 1))))), (ra, .inl (cJ, 8, .inr (.inl rw))), (h0, .inr (2, [.ref aw, .ref ax, .ref ay, .int (nI glk_1)])), (aw, .inl (cJ, 16, .inr (.inl gwk_1))), (ax, .inl (cI, 64, .inl gsk_1)), (ay, .inl (cI, 8, .inl gtk_1))] H := hP
      have hD : va_D A [(bd0, .inr (3, [.ref h0, .ref ro, .ref lo, .int (nI k)])), (ro, .inl (cR, 154, .inr (.inr (.inr (.inr rr))))), (lo, .inl (cR, 154, .inr (.inr (.inr (.inr lr))))), (rk, .inl (cJ, 8, .inr (.inl rw))), (lk, .inl (cJ, 4, .inr (.inl (vp_updL (vp_updL lv 0 (lkw [0, 0, 0, 0, rw 0, rw 1, rw 2, rw 3, rw 4] 0)) (1 : Int32).toNatClampNeg (lkw [0, 0, 0, 0, rw 0, rw 1, rw 2, rw 3, rw 4] 1))))), (ra, .inl (cJ, 8, .inr (.inl rw))), (h0, .inr (2, [.ref aw, .ref ax, .ref ay, .int (nI glk_1)])), (aw, .inl (cJ, 16, .inr (.inl gwk_1))), (ax, .inl (cI, 64, .inl gsk_1)), (ay, .inl (cI, 8, .inl gtk_1))] := hD
      rw [hfe] at hP hD
      obtain ⟨i_6, ei_6⟩ : ∃ y : Int32, y = 1 + 1 := ⟨_, rfl⟩
      refine lv_iinc (v := i_6) (lv' := [(3, .int i_6), (2, .int (nI k)), (0, .ref bd0), (1, .ref ra)]) hx hb d_Bd_add_47 hl (k := 0) rfl (by rw [ei_6]; rfl) (by decide) rfl (fun ls hl => ?_)
      obtain rfl : i_6 = 2 := by rw [ei_6]; exact by decide
      refine lv_goto (tgt := 26) hx hb d_Bd_add_50 (by decide) ?_
      refine lv_iload_n hx hb d_Bd_add_26 rfl (lv_at hl 0 rfl) ?_
      refine lv_iconst (v := 4) hx hb d_Bd_add_27 (by decide) ?_
      refine lv_icmp_ge (tgt := 53) hx hb d_Bd_add_28 (by decide) (fun c_7 => ?_) (fun c_7 => ?_)
      · -- taken
        exact absurd c_7 (by decide)
      · -- not taken
        refine lv_aload_n hx hb d_Bd_add_31 rfl (lv_at hl 2 rfl) ?_
        refine va_get (D := (dC, dI)) (ci := 3) (v := .ref lo) (C := "BallotBoard$Board") (T := F_Bo) (N := 4) hx hb hts (fun w9 h9 => List.mem_cons_of_mem _ (i_Bo w9 h9)) hown hK hP 0 rfl rfl 2 (by decide) (hts _ (List.mem_cons_of_mem _ gk_62)) (fun _ h9 => h9) rfl d_Bd_add_32 ?_
        refine lv_iload_n hx hb d_Bd_add_35 rfl (lv_at hl 1 rfl) ?_
        refine va_aldA hx hb hK hP 2 2 rfl rfl (vp_in_nI (by omega) (by omega)) d_Bd_add_36 (b := lk) (by rw [nI_clamp (by omega)]; exact hlk) ?_
        refine lv_iload_n hx hb d_Bd_add_37 rfl (lv_at hl 0 rfl) ?_
        refine lv_aload_n hx hb d_Bd_add_38 rfl (lv_at hl 2 rfl) ?_
        refine va_get (D := (dC, dI)) (ci := 3) (v := .ref h0) (C := "BallotBoard$Board") (T := F_Bo) (N := 4) hx hb hts (fun w9 h9 => List.mem_cons_of_mem _ (i_Bo w9 h9)) hown hK hP 0 rfl rfl 0 (by decide) (hts _ (List.mem_cons_of_mem _ gk_60)) (fun _ h9 => h9) rfl d_Bd_add_39 ?_
        refine lv_iload_n hx hb d_Bd_add_42 rfl (lv_at hl 0 rfl) ?_
        have hPc := hP.sub (ws' := (ha_ws h0 aw ax ay cJ cI gwk_1 gsk_1 gtk_1 glk_1)) [6, 7, 8, 9] rfl
        have hKc := hK.sub (tys' := [(cJ, .long), (cI, .int)]) [0, 1] rfl
        refine va_calll (va_runV (As := [.int 2]) (rest := [.int 2, .ref lk]) ⟨hx, hb, hml, hown, hts⟩ (c_Ha_word l H dC dI h0 aw ax ay cJ cI gwk_1 gsk_1 gtk_1 glk_1 2 hPc (by decide)) (cwV 1 hts (gw_V gk_598 gk_536 gk_537 gk_2 gk_538) rfl rfl rfl (by decide +kernel) ⟨Nat.le_of_ble_eq_true rfl, Nat.le_of_ble_eq_true rfl⟩) ⟨fun a U g mk q => ⟨q.1, q.2.1, va_K.moved (u := U) (U := U.calling g mk a) (Vm.Alike.refl U.vm) q.2.2⟩, va_recv hK hP (ci := 2) (q0 := 6) rfl rfl, fun U hU hW => ⟨rfl, hU, va_K.moved hW.alike hKc⟩⟩ rfl rfl hl.1 rfl (lv_room (Nat.le_of_ble_eq_true rfl)) d_Bd_add_43 ⟨Nat.le_of_ble_eq_true rfl, Nat.le_of_ble_eq_true rfl⟩) hS (fun q _ h => h.elim) (fun q h => h.elim) (fun r43 u9 t9 H1 locs ht hvm hw hB hz1 hk1 hS => ?_)
        obtain rfl : H = H1 := hB.symm.trans ht
        have hw : r43 = wd (gtk_1 4) (gtk_1 5) := hw
        subst hw
        rw [show (wd (gtk_1 4) (gtk_1 5) : Int64) = (lkw [0, 0, 0, 0, rw 0, rw 1, rw 2, rw 3, rw 4] 2) from lkw_2 hdg]
        refine va_last hx hb hK hP hD hS 4 0 rfl rfl (vp_lit rfl) d_Bd_add_46 (fun H locs hP hD hS => ?_)
        have hfe : vp_updL (vp_updL (vp_updL lv 0 (lkw [0, 0, 0, 0, rw 0, rw 1, rw 2, rw 3, rw 4] 0)) 1 (lkw [0, 0, 0, 0, rw 0, rw 1, rw 2, rw 3, rw 4] 1)) (2 : Int32).toNatClampNeg (lkw [0, 0, 0, 0, rw 0, rw 1, rw 2, rw 3, rw 4] 2) = vp_updL (vp_updL (vp_updL lv 0 (lkw [0, 0, 0, 0, rw 0, rw 1, rw 2, rw 3, rw 4] 0)) 1 (lkw [0, 0, 0, 0, rw 0, rw 1, rw 2, rw 3, rw 4] 1)) 2 (lkw [0, 0, 0, 0, rw 0, rw 1, rw 2, rw 3, rw 4] 2) := rfl
        have hP : va_P (dC, dI) classes [(bd0, .inr (3, [.ref h0, .ref ro, .ref lo, .int (nI k)])), (ro, .inl (cR, 154, .inr (.inr (.inr (.inr rr))))), (lo, .inl (cR, 154, .inr (.inr (.inr (.inr lr))))), (rk, .inl (cJ, 8, .inr (.inl rw))), (lk, .inl (cJ, 4, .inr (.inl (vp_updL (vp_updL (vp_updL lv 0 (lkw [0, 0, 0, 0, rw 0, rw 1, rw 2, rw 3, rw 4] 0)) 1 (lkw [0, 0, 0, 0, rw 0, rw 1, rw 2, rw 3, rw 4] 1)) (2 : Int32).toNatClampNeg (lkw [0, 0, 0, 0, rw 0, rw 1, rw 2, rw 3, rw 4] 2))))), (ra, .inl (cJ, 8, .inr (.inl rw))), (h0, .inr (2, [.ref aw, .ref ax, .ref ay, .int (nI glk_1)])), (aw, .inl (cJ, 16, .inr (.inl gwk_1))), (ax, .inl (cI, 64, .inl gsk_1)), (ay, .inl (cI, 8, .inl gtk_1))] H := hP
        have hD : va_D A [(bd0, .inr (3, [.ref h0, .ref ro, .ref lo, .int (nI k)])), (ro, .inl (cR, 154, .inr (.inr (.inr (.inr rr))))), (lo, .inl (cR, 154, .inr (.inr (.inr (.inr lr))))), (rk, .inl (cJ, 8, .inr (.inl rw))), (lk, .inl (cJ, 4, .inr (.inl (vp_updL (vp_updL (vp_updL lv 0 (lkw [0, 0, 0, 0, rw 0, rw 1, rw 2, rw 3, rw 4] 0)) 1 (lkw [0, 0, 0, 0, rw 0, rw 1, rw 2, rw 3, rw 4] 1)) (2 : Int32).toNatClampNeg (lkw [0, 0, 0, 0, rw 0, rw 1, rw 2, rw 3, rw 4] 2))))), (ra, .inl (cJ, 8, .inr (.inl rw))), (h0, .inr (2, [.ref aw, .ref ax, .ref ay, .int (nI glk_1)])), (aw, .inl (cJ, 16, .inr (.inl gwk_1))), (ax, .inl (cI, 64, .inl gsk_1)), (ay, .inl (cI, 8, .inl gtk_1))] := hD
        rw [hfe] at hP hD
        obtain ⟨i_8, ei_8⟩ : ∃ y : Int32, y = 2 + 1 := ⟨_, rfl⟩
        refine lv_iinc (v := i_8) (lv' := [(3, .int i_8), (2, .int (nI k)), (0, .ref bd0), (1, .ref ra)]) hx hb d_Bd_add_47 hl (k := 0) rfl (by rw [ei_8]; rfl) (by decide) rfl (fun ls hl => ?_)
        obtain rfl : i_8 = 3 := by rw [ei_8]; exact by decide
        refine lv_goto (tgt := 26) hx hb d_Bd_add_50 (by decide) ?_
        refine lv_iload_n hx hb d_Bd_add_26 rfl (lv_at hl 0 rfl) ?_
        refine lv_iconst (v := 4) hx hb d_Bd_add_27 (by decide) ?_
        refine lv_icmp_ge (tgt := 53) hx hb d_Bd_add_28 (by decide) (fun c_9 => ?_) (fun c_9 => ?_)
        · -- taken
          exact absurd c_9 (by decide)
        · -- not taken
          refine lv_aload_n hx hb d_Bd_add_31 rfl (lv_at hl 2 rfl) ?_
          refine va_get (D := (dC, dI)) (ci := 3) (v := .ref lo) (C := "BallotBoard$Board") (T := F_Bo) (N := 4) hx hb hts (fun w9 h9 => List.mem_cons_of_mem _ (i_Bo w9 h9)) hown hK hP 0 rfl rfl 2 (by decide) (hts _ (List.mem_cons_of_mem _ gk_62)) (fun _ h9 => h9) rfl d_Bd_add_32 ?_
          refine lv_iload_n hx hb d_Bd_add_35 rfl (lv_at hl 1 rfl) ?_
          refine va_aldA hx hb hK hP 2 2 rfl rfl (vp_in_nI (by omega) (by omega)) d_Bd_add_36 (b := lk) (by rw [nI_clamp (by omega)]; exact hlk) ?_
          refine lv_iload_n hx hb d_Bd_add_37 rfl (lv_at hl 0 rfl) ?_
          refine lv_aload_n hx hb d_Bd_add_38 rfl (lv_at hl 2 rfl) ?_
          refine va_get (D := (dC, dI)) (ci := 3) (v := .ref h0) (C := "BallotBoard$Board") (T := F_Bo) (N := 4) hx hb hts (fun w9 h9 => List.mem_cons_of_mem _ (i_Bo w9 h9)) hown hK hP 0 rfl rfl 0 (by decide) (hts _ (List.mem_cons_of_mem _ gk_60)) (fun _ h9 => h9) rfl d_Bd_add_39 ?_
          refine lv_iload_n hx hb d_Bd_add_42 rfl (lv_at hl 0 rfl) ?_
          have hPc := hP.sub (ws' := (ha_ws h0 aw ax ay cJ cI gwk_1 gsk_1 gtk_1 glk_1)) [6, 7, 8, 9] rfl
          have hKc := hK.sub (tys' := [(cJ, .long), (cI, .int)]) [0, 1] rfl
          refine va_calll (va_runV (As := [.int 3]) (rest := [.int 3, .ref lk]) ⟨hx, hb, hml, hown, hts⟩ (c_Ha_word l H dC dI h0 aw ax ay cJ cI gwk_1 gsk_1 gtk_1 glk_1 3 hPc (by decide)) (cwV 1 hts (gw_V gk_598 gk_536 gk_537 gk_2 gk_538) rfl rfl rfl (by decide +kernel) ⟨Nat.le_of_ble_eq_true rfl, Nat.le_of_ble_eq_true rfl⟩) ⟨fun a U g mk q => ⟨q.1, q.2.1, va_K.moved (u := U) (U := U.calling g mk a) (Vm.Alike.refl U.vm) q.2.2⟩, va_recv hK hP (ci := 2) (q0 := 6) rfl rfl, fun U hU hW => ⟨rfl, hU, va_K.moved hW.alike hKc⟩⟩ rfl rfl hl.1 rfl (lv_room (Nat.le_of_ble_eq_true rfl)) d_Bd_add_43 ⟨Nat.le_of_ble_eq_true rfl, Nat.le_of_ble_eq_true rfl⟩) hS (fun q _ h => h.elim) (fun q h => h.elim) (fun r43 u9 t9 H1 locs ht hvm hw hB hz1 hk1 hS => ?_)
          obtain rfl : H = H1 := hB.symm.trans ht
          have hw : r43 = wd (gtk_1 6) (gtk_1 7) := hw
          subst hw
          rw [show (wd (gtk_1 6) (gtk_1 7) : Int64) = (lkw [0, 0, 0, 0, rw 0, rw 1, rw 2, rw 3, rw 4] 3) from lkw_3 hdg]
          refine va_last hx hb hK hP hD hS 4 0 rfl rfl (vp_lit rfl) d_Bd_add_46 (fun H locs hP hD hS => ?_)
          have hfe : vp_updL (vp_updL (vp_updL (vp_updL lv 0 (lkw [0, 0, 0, 0, rw 0, rw 1, rw 2, rw 3, rw 4] 0)) 1 (lkw [0, 0, 0, 0, rw 0, rw 1, rw 2, rw 3, rw 4] 1)) 2 (lkw [0, 0, 0, 0, rw 0, rw 1, rw 2, rw 3, rw 4] 2)) (3 : Int32).toNatClampNeg (lkw [0, 0, 0, 0, rw 0, rw 1, rw 2, rw 3, rw 4] 3) = vp_updL (vp_updL (vp_updL (vp_updL lv 0 (lkw [0, 0, 0, 0, rw 0, rw 1, rw 2, rw 3, rw 4] 0)) 1 (lkw [0, 0, 0, 0, rw 0, rw 1, rw 2, rw 3, rw 4] 1)) 2 (lkw [0, 0, 0, 0, rw 0, rw 1, rw 2, rw 3, rw 4] 2)) 3 (lkw [0, 0, 0, 0, rw 0, rw 1, rw 2, rw 3, rw 4] 3) := rfl
          have hP : va_P (dC, dI) classes [(bd0, .inr (3, [.ref h0, .ref ro, .ref lo, .int (nI k)])), (ro, .inl (cR, 154, .inr (.inr (.inr (.inr rr))))), (lo, .inl (cR, 154, .inr (.inr (.inr (.inr lr))))), (rk, .inl (cJ, 8, .inr (.inl rw))), (lk, .inl (cJ, 4, .inr (.inl (vp_updL (vp_updL (vp_updL (vp_updL lv 0 (lkw [0, 0, 0, 0, rw 0, rw 1, rw 2, rw 3, rw 4] 0)) 1 (lkw [0, 0, 0, 0, rw 0, rw 1, rw 2, rw 3, rw 4] 1)) 2 (lkw [0, 0, 0, 0, rw 0, rw 1, rw 2, rw 3, rw 4] 2)) (3 : Int32).toNatClampNeg (lkw [0, 0, 0, 0, rw 0, rw 1, rw 2, rw 3, rw 4] 3))))), (ra, .inl (cJ, 8, .inr (.inl rw))), (h0, .inr (2, [.ref aw, .ref ax, .ref ay, .int (nI glk_1)])), (aw, .inl (cJ, 16, .inr (.inl gwk_1))), (ax, .inl (cI, 64, .inl gsk_1)), (ay, .inl (cI, 8, .inl gtk_1))] H := hP
          have hD : va_D A [(bd0, .inr (3, [.ref h0, .ref ro, .ref lo, .int (nI k)])), (ro, .inl (cR, 154, .inr (.inr (.inr (.inr rr))))), (lo, .inl (cR, 154, .inr (.inr (.inr (.inr lr))))), (rk, .inl (cJ, 8, .inr (.inl rw))), (lk, .inl (cJ, 4, .inr (.inl (vp_updL (vp_updL (vp_updL (vp_updL lv 0 (lkw [0, 0, 0, 0, rw 0, rw 1, rw 2, rw 3, rw 4] 0)) 1 (lkw [0, 0, 0, 0, rw 0, rw 1, rw 2, rw 3, rw 4] 1)) 2 (lkw [0, 0, 0, 0, rw 0, rw 1, rw 2, rw 3, rw 4] 2)) (3 : Int32).toNatClampNeg (lkw [0, 0, 0, 0, rw 0, rw 1, rw 2, rw 3, rw 4] 3))))), (ra, .inl (cJ, 8, .inr (.inl rw))), (h0, .inr (2, [.ref aw, .ref ax, .ref ay, .int (nI glk_1)])), (aw, .inl (cJ, 16, .inr (.inl gwk_1))), (ax, .inl (cI, 64, .inl gsk_1)), (ay, .inl (cI, 8, .inl gtk_1))] := hD
          rw [hfe] at hP hD
          obtain ⟨i_10, ei_10⟩ : ∃ y : Int32, y = 3 + 1 := ⟨_, rfl⟩
          refine lv_iinc (v := i_10) (lv' := [(3, .int i_10), (2, .int (nI k)), (0, .ref bd0), (1, .ref ra)]) hx hb d_Bd_add_47 hl (k := 0) rfl (by rw [ei_10]; rfl) (by decide) rfl (fun ls hl => ?_)
          obtain rfl : i_10 = 4 := by rw [ei_10]; exact by decide
          refine lv_goto (tgt := 26) hx hb d_Bd_add_50 (by decide) ?_
          refine lv_iload_n hx hb d_Bd_add_26 rfl (lv_at hl 0 rfl) ?_
          refine lv_iconst (v := 4) hx hb d_Bd_add_27 (by decide) ?_
          refine lv_icmp_ge (tgt := 53) hx hb d_Bd_add_28 (by decide) (fun c_11 => ?_) (fun c_11 => ?_)
          · -- taken
            have hP : va_P (dC, dI) classes [(bd0, .inr (3, [.ref h0, .ref ro, .ref lo, .int (nI k)])), (ro, .inl (cR, 154, .inr (.inr (.inr (.inr rr))))), (lo, .inl (cR, 154, .inr (.inr (.inr (.inr lr))))), (rk, .inl (cJ, 8, .inr (.inl rw))), (lk, .inl (cJ, 4, .inr (.inl (lkw [0, 0, 0, 0, rw 0, rw 1, rw 2, rw 3, rw 4])))), (ra, .inl (cJ, 8, .inr (.inl rw))), (h0, .inr (2, [.ref aw, .ref ax, .ref ay, .int (nI glk_1)])), (aw, .inl (cJ, 16, .inr (.inl gwk_1))), (ax, .inl (cI, 64, .inl gsk_1)), (ay, .inl (cI, 8, .inl gtk_1))] H := hP.row 4 rfl lk_4
            have hD : va_D A [(bd0, .inr (3, [.ref h0, .ref ro, .ref lo, .int (nI k)])), (ro, .inl (cR, 154, .inr (.inr (.inr (.inr rr))))), (lo, .inl (cR, 154, .inr (.inr (.inr (.inr lr))))), (rk, .inl (cJ, 8, .inr (.inl rw))), (lk, .inl (cJ, 4, .inr (.inl (lkw [0, 0, 0, 0, rw 0, rw 1, rw 2, rw 3, rw 4])))), (ra, .inl (cJ, 8, .inr (.inl rw))), (h0, .inr (2, [.ref aw, .ref ax, .ref ay, .int (nI glk_1)])), (aw, .inl (cJ, 16, .inr (.inl gwk_1))), (ax, .inl (cI, 64, .inl gsk_1)), (ay, .inl (cI, 8, .inl gtk_1))] := hD.set (p := 4) rfl
            refine lv_aload_n hx hb d_Bd_add_53 rfl (lv_at hl 2 rfl) ?_
            refine lv_dup hx hb d_Bd_add_54 rfl ?_
            refine va_get (D := (dC, dI)) (ci := 3) (v := .int (nI k)) (C := "BallotBoard$Board") (T := F_Bo) (N := 4) hx hb hts (fun w9 h9 => List.mem_cons_of_mem _ (i_Bo w9 h9)) hown hK hP 0 rfl rfl 3 (by decide) (hts _ (List.mem_cons_of_mem _ gk_63)) (fun _ h9 => h9) rfl d_Bd_add_55 ?_
            refine lv_iconst (v := 1) hx hb d_Bd_add_58 (by decide) ?_
            refine lv_iadd hx hb d_Bd_add_59 ?_
            rw [show ((nI k) + 1 : Int32) = (nI (k + 1)) from nI_1 k]
            refine va_put (D := (dC, dI)) (ci := 3) (v := .int (nI (k + 1))) (ty := .int) (C := "BallotBoard$Board") (T := F_Bo) (N := 4) hx hb hts (fun w9 h9 => List.mem_cons_of_mem _ (i_Bo w9 h9)) t_Bo t_Bo_ok n_Bo hown hK hP hD hS 0 rfl rfl 3 (by decide) (hts _ (List.mem_cons_of_mem _ gk_63)) (fun _ h9 => h9) rfl (by decide +kernel) rfl rfl (Nat.le_of_ble_eq_true rfl) d_Bd_add_60 (fun H locs hP hD hS => ?_)
            have hP : va_P (dC, dI) classes [(bd0, .inr (3, [.ref h0, .ref ro, .ref lo, .int (nI (k + 1))])), (ro, .inl (cR, 154, .inr (.inr (.inr (.inr rr))))), (lo, .inl (cR, 154, .inr (.inr (.inr (.inr lr))))), (rk, .inl (cJ, 8, .inr (.inl rw))), (lk, .inl (cJ, 4, .inr (.inl (lkw [0, 0, 0, 0, rw 0, rw 1, rw 2, rw 3, rw 4])))), (ra, .inl (cJ, 8, .inr (.inl rw))), (h0, .inr (2, [.ref aw, .ref ax, .ref ay, .int (nI glk_1)])), (aw, .inl (cJ, 16, .inr (.inl gwk_1))), (ax, .inl (cI, 64, .inl gsk_1)), (ay, .inl (cI, 8, .inl gtk_1))] H := hP
            have hD : va_D A [(bd0, .inr (3, [.ref h0, .ref ro, .ref lo, .int (nI (k + 1))])), (ro, .inl (cR, 154, .inr (.inr (.inr (.inr rr))))), (lo, .inl (cR, 154, .inr (.inr (.inr (.inr lr))))), (rk, .inl (cJ, 8, .inr (.inl rw))), (lk, .inl (cJ, 4, .inr (.inl (lkw [0, 0, 0, 0, rw 0, rw 1, rw 2, rw 3, rw 4])))), (ra, .inl (cJ, 8, .inr (.inl rw))), (h0, .inr (2, [.ref aw, .ref ax, .ref ay, .int (nI glk_1)])), (aw, .inl (cJ, 16, .inr (.inl gwk_1))), (ax, .inl (cI, 64, .inl gsk_1)), (ay, .inl (cI, 8, .inl gtk_1))] := hD
            refine lv_iload_n hx hb d_Bd_add_63 rfl (lv_at hl 1 rfl) ?_
            exact W.iret (v := (nI k)) hx hb hr (fun t ht9 hW => ⟨⟨_, (gwk_1, gsk_1, gtk_1, glk_1), rfl, rfl, by rw [ht9]; exact hP, va_K.moved hW.alike hK, hD⟩, hS.F ht9⟩) hS.2.2 d_Bd_add_64
          · -- not taken
            exact absurd c_11 (by decide)
set_option maxHeartbeats 8000000 in
set_option maxRecDepth 100000 in
theorem c_Bd_add_5 (l : Launch) (dC : Nat → ClassId) (dI : Nat → Nat → Nat) (cJ cI cR : ClassId) (sz : Nat) (bd0 h0 ro lo k : Nat) (rr lr : Nat → Option Nat) (aw ax ay : Nat) (w : Nat → Int64) (sc st : Nat → Int32) (L : Nat) (rA sA : Nat) (rk : Nat) (rw : Nat → Int64) (K : Nat) (lp : Nat) (lw : Nat → Int64) (lk : Nat) (lv : Nat → Int64) (ra : Nat) (ru : Nat → Int64) (hk : k < 154) (hrk : rr k = some rk) (hr0 : rw 0 = lN K) (hK4 : K < 4) (hK2 : ¬ K = 2) (hk0 : 0 < k) (hlp : lr (k - 1) = some lp) (hlk : lr k = some lk) : Met l y_Bd_add w_Bd_add ({ frames := 4, cells := 0, slots := 0, locals := 105 }) (va_Pc [.ref bd0, .ref ra] (fun U => U.heap.size = sz ∧ va_P (dC, dI) classes (bd_ws bd0 h0 ro lo k cR rr lr ++ (rw_ws rk cJ ru ++ (lk_ws lp cJ lw ++ (lk_ws lk cJ lv ++ (rw_ws ra cJ rw ++ (ha_ws h0 aw ax ay cJ cI w sc st L)))))) U.heap ∧ va_K (dC, dI) classes [(cJ, .long), (cI, .int), (cR, .array .long)] U ∧ va_D (fun _ => True) (bd_ws bd0 h0 ro lo k cR rr lr ++ (rw_ws rk cJ ru ++ (lk_ws lp cJ lw ++ (lk_ws lk cJ lv ++ (rw_ws ra cJ rw ++ (ha_ws h0 aw ax ay cJ cI w sc st L)))))) ∧ ha_Z rA sA (va_A (bd_ws bd0 h0 ro lo k cR rr lr ++ (rw_ws rk cJ ru ++ (lk_ws lp cJ lw ++ (lk_ws lk cJ lv ++ (rw_ws ra cJ rw ++ (ha_ws h0 aw ax ay cJ cI w sc st L)))))) sz) U U.heap)) (va_Qi (fun (r : Int32) (u9 : HU) => r = nI k) (fun u9 t => va_P (dC, dI) classes (bd_ws bd0 h0 ro lo (k + 1) cR rr lr ++ (rw_ws rk cJ rw ++ (lk_ws lp cJ lw ++ (lk_ws lk cJ (lkw [lw 0, lw 1, lw 2, lw 3, rw 0, rw 1, rw 2, rw 3, rw 4]) ++ (rw_ws ra cJ rw ++ (hu_ws h0 aw ax ay cJ cI u9)))))) t.heap ∧ va_K (dC, dI) classes [(cJ, .long), (cI, .int), (cR, .array .long)] t ∧ va_D (va_A (bd_ws bd0 h0 ro lo k cR rr lr ++ (rw_ws rk cJ ru ++ (lk_ws lp cJ lw ++ (lk_ws lk cJ lv ++ (rw_ws ra cJ rw ++ (ha_ws h0 aw ax ay cJ cI w sc st L)))))) sz) (bd_ws bd0 h0 ro lo (k + 1) cR rr lr ++ (rw_ws rk cJ rw ++ (lk_ws lp cJ lw ++ (lk_ws lk cJ (lkw [lw 0, lw 1, lw 2, lw 3, rw 0, rw 1, rw 2, rw 3, rw 4]) ++ (rw_ws ra cJ rw ++ (hu_ws h0 aw ax ay cJ cI u9))))))) (va_A (bd_ws bd0 h0 ro lo k cR rr lr ++ (rw_ws rk cJ ru ++ (lk_ws lp cJ lw ++ (lk_ws lk cJ lv ++ (rw_ws ra cJ rw ++ (ha_ws h0 aw ax ay cJ cI w sc st L)))))) sz)) 0 0 (va_A (bd_ws bd0 h0 ro lo k cR rr lr ++ (rw_ws rk cJ ru ++ (lk_ws lp cJ lw ++ (lk_ws lk cJ lv ++ (rw_ws ra cJ rw ++ (ha_ws h0 aw ax ay cJ cI w sc st L)))))) sz) := by
  refine Met.ofW (cc := b_Bd_add) (maxL := 4) (ret := (some .int)) (by decide) rfl ?_
  intro p e s m args below meth c s₁ Bd hml hv
  obtain ⟨rfl, hsz, hP, hK, hD0, hZha⟩ := hv
  have hx := Bd.exec
  have hb := Bd.bytes
  have hr := Bd.returns
  have hts := atoms_spec (ws := w_Bd_add) Bd.pre
  have hown : s.vm.findClass "BallotBoard$Board" = some m.cls := findClass_of_methodNamed Bd.named
  have hlocks := Bd.notSynchronized
  subst hsz
  have hD := hD0.self (sz := s.heap.size)
  generalize hAe : va_A (bd_ws bd0 h0 ro lo k cR rr lr ++ (rw_ws rk cJ ru ++ (lk_ws lp cJ lw ++ (lk_ws lk cJ lv ++ (rw_ws ra cJ rw ++ (ha_ws h0 aw ax ay cJ cI w sc st L)))))) s.heap.size = A at hD hZha ⊢
  have hA : ∀ q : Nat, s.heap.size ≤ q → A q := fun q h => by rw [← hAe]; exact Or.inr h
  have hS : va_S A s.heap s.heap [] := va_S.rf
  have hl := lv_entry ([.ref bd0, .ref ra]) (n := 4) (Nat.le_of_ble_eq_true rfl)
  rw [lg_entry_eq]
  generalize (lg_sl ([.ref bd0, .ref ra]) ++ List.replicate (4 - (lg_sl ([.ref bd0, .ref ra])).length) Slot.unset).toArray = ls at hl ⊢
  have hl : lv_has ls 4 [(0, .ref bd0), (1, .ref ra)] := hl
  refine lv_aload_n hx hb d_Bd_add_0 rfl (lv_at hl 0 rfl) ?_
  refine va_get (D := (dC, dI)) (ci := 3) (v := .int (nI k)) (C := "BallotBoard$Board") (T := F_Bo) (N := 4) hx hb hts (fun w9 h9 => List.mem_cons_of_mem _ (i_Bo w9 h9)) hown hK hP 0 rfl rfl 3 (by decide) (hts _ (List.mem_cons_of_mem _ gk_63)) (fun _ h9 => h9) rfl d_Bd_add_1 ?_
  refine lv_istore_n (lv' := [(2, .int (nI k)), (0, .ref bd0), (1, .ref ra)]) hx hb d_Bd_add_4 rfl hl (by decide) rfl (fun ls hl => ?_)
  refine lv_aload_n hx hb d_Bd_add_5 rfl (lv_at hl 2 rfl) ?_
  refine lv_iconst (v := 0) hx hb d_Bd_add_6 (by decide) ?_
  refine lv_aload_n hx hb d_Bd_add_7 rfl (lv_at hl 1 rfl) ?_
  refine va_get (D := (dC, dI)) (ci := 3) (v := .ref ro) (C := "BallotBoard$Board") (T := F_Bo) (N := 4) hx hb hts (fun w9 h9 => List.mem_cons_of_mem _ (i_Bo w9 h9)) hown hK hP 0 rfl rfl 1 (by decide) (hts _ (List.mem_cons_of_mem _ gk_61)) (fun _ h9 => h9) rfl d_Bd_add_8 ?_
  refine lv_iload_n hx hb d_Bd_add_11 rfl (lv_at hl 0 rfl) ?_
  refine va_aldA hx hb hK hP 1 2 rfl rfl (vp_in_nI (by omega) (by omega)) d_Bd_add_12 (b := rk) (by rw [nI_clamp (by omega)]; exact hrk) ?_
  refine lv_iconst (v := 0) hx hb d_Bd_add_13 (by decide) ?_
  refine lv_bipush (v := 8) hx hb d_Bd_add_14 (by decide) ?_
  refine va_copyl hx hb (hml.trans hl.1.symm) hown (hts _ (List.mem_cons_of_mem _ gk_586)) (hts _ (List.mem_cons_of_mem _ gk_523)) (hts _ (List.mem_cons_of_mem _ gk_522)) (hts _ (List.mem_cons_of_mem _ gk_16)) hK hP hD hS 6 3 0 0 rfl rfl rfl rfl rfl (by decide) (by decide) (by decide) (by decide) (by decide) (fun _ _ => rfl) (Nat.le_of_ble_eq_true rfl) (Nat.le_of_ble_eq_true rfl) d_Bd_add_16 (fun H locs hP hD hS => ?_)
  have hP : va_P (dC, dI) classes [(bd0, .inr (3, [.ref h0, .ref ro, .ref lo, .int (nI k)])), (ro, .inl (cR, 154, .inr (.inr (.inr (.inr rr))))), (lo, .inl (cR, 154, .inr (.inr (.inr (.inr lr))))), (rk, .inl (cJ, 8, .inr (.inl (va_cpy rw ru 0 0 8)))), (lp, .inl (cJ, 4, .inr (.inl lw))), (lk, .inl (cJ, 4, .inr (.inl lv))), (ra, .inl (cJ, 8, .inr (.inl rw))), (h0, .inr (2, [.ref aw, .ref ax, .ref ay, .int (nI L)])), (aw, .inl (cJ, 16, .inr (.inl w))), (ax, .inl (cI, 64, .inl sc)), (ay, .inl (cI, 8, .inl st))] H := hP
  have hD : va_D A [(bd0, .inr (3, [.ref h0, .ref ro, .ref lo, .int (nI k)])), (ro, .inl (cR, 154, .inr (.inr (.inr (.inr rr))))), (lo, .inl (cR, 154, .inr (.inr (.inr (.inr lr))))), (rk, .inl (cJ, 8, .inr (.inl (va_cpy rw ru 0 0 8)))), (lp, .inl (cJ, 4, .inr (.inl lw))), (lk, .inl (cJ, 4, .inr (.inl lv))), (ra, .inl (cJ, 8, .inr (.inl rw))), (h0, .inr (2, [.ref aw, .ref ax, .ref ay, .int (nI L)])), (aw, .inl (cJ, 16, .inr (.inl w))), (ax, .inl (cI, 64, .inl sc)), (ay, .inl (cI, 8, .inl st))] := hD
  have hP : va_P (dC, dI) classes [(bd0, .inr (3, [.ref h0, .ref ro, .ref lo, .int (nI k)])), (ro, .inl (cR, 154, .inr (.inr (.inr (.inr rr))))), (lo, .inl (cR, 154, .inr (.inr (.inr (.inr lr))))), (rk, .inl (cJ, 8, .inr (.inl rw))), (lp, .inl (cJ, 4, .inr (.inl lw))), (lk, .inl (cJ, 4, .inr (.inl lv))), (ra, .inl (cJ, 8, .inr (.inl rw))), (h0, .inr (2, [.ref aw, .ref ax, .ref ay, .int (nI L)])), (aw, .inl (cJ, 16, .inr (.inl w))), (ax, .inl (cI, 64, .inl sc)), (ay, .inl (cI, 8, .inl st))] H := hP.row 3 rfl cpy8
  have hD : va_D A [(bd0, .inr (3, [.ref h0, .ref ro, .ref lo, .int (nI k)])), (ro, .inl (cR, 154, .inr (.inr (.inr (.inr rr))))), (lo, .inl (cR, 154, .inr (.inr (.inr (.inr lr))))), (rk, .inl (cJ, 8, .inr (.inl rw))), (lp, .inl (cJ, 4, .inr (.inl lw))), (lk, .inl (cJ, 4, .inr (.inl lv))), (ra, .inl (cJ, 8, .inr (.inl rw))), (h0, .inr (2, [.ref aw, .ref ax, .ref ay, .int (nI L)])), (aw, .inl (cJ, 16, .inr (.inl w))), (ax, .inl (cI, 64, .inl sc)), (ay, .inl (cI, 8, .inl st))] := hD.set (p := 3) rfl
  refine lv_aload_n hx hb d_Bd_add_19 rfl (lv_at hl 1 rfl) ?_
  refine lv_iload_n hx hb d_Bd_add_20 rfl (lv_at hl 0 rfl) ?_
  have hPc := hP.sub (ws' := (bd_ws bd0 h0 ro lo k cR rr lr ++ (rw_ws rk cJ rw ++ (lk_ws lp cJ lw ++ (ha_ws h0 aw ax ay cJ cI w sc st L))))) [0, 1, 2, 3, 4, 7, 8, 9, 10] rfl
  have hDc := hD.sub (ws' := (bd_ws bd0 h0 ro lo k cR rr lr ++ (rw_ws rk cJ rw ++ (lk_ws lp cJ lw ++ (ha_ws h0 aw ax ay cJ cI w sc st L))))) [0, 1, 2, 3, 4, 7, 8, 9, 10] (by decide) rfl
  have hKc := hK.sub (tys' := [(cJ, .long), (cI, .int), (cR, .array .long)]) [0, 1, 2] rfl
  have hFc := va_free (wc := (bd_ws bd0 h0 ro lo k cR rr lr ++ (rw_ws rk cJ rw ++ (lk_ws lp cJ lw ++ (ha_ws h0 aw ax ay cJ cI w sc st L))))) hD hS hA [0, 1, 2, 3, 4, 7, 8, 9, 10] rfl
  have hZc0 : ha_Z rA sA (va_A (bd_ws bd0 h0 ro lo k cR rr lr ++ (rw_ws rk cJ rw ++ (lk_ws lp cJ lw ++ (ha_ws h0 aw ax ay cJ cI w sc st L)))) H.size) s H := (hZha.kept hS.2.1).narrow hFc
  refine va_callv (va_runV (As := [.int (nI k)]) (rest := []) ⟨hx, hb, hml, hown, hts⟩ (c_Bd_hashEntry_5 l dC dI cJ cI cR H.size bd0 h0 ro lo k rr lr aw ax ay w sc st L rA sA k rk rw K lp lw hk hrk hr0 hK4 hK2 hk0 hlp) (cwV 1 hts (gw_V gk_587 gk_589 gp_20 gk_3 gk_590) rfl rfl rfl (by decide +kernel) ⟨Nat.le_of_ble_eq_true rfl, Nat.le_of_ble_eq_true rfl⟩) ⟨fun a U g mk q => by obtain ⟨q0, q1, qP, qK, qD, qZ0⟩ := q; exact ⟨q0, q1, qP, va_K.moved (u := U) (U := U.calling g mk a) (Vm.Alike.refl U.vm) qK, qD, ha_Z.moved (u := U) (U := U.calling g mk a) (Vm.Alike.refl U.vm) qZ0⟩, va_recv hK hP (ci := 3) (q0 := 0) rfl rfl, fun U hU hW => ⟨rfl, by rw [hU], by rw [hU]; exact hPc, va_K.moved hW.alike hKc, hDc.weaken (fun _ _ _ _ => trivial), by rw [hU]; exact ha_Z.moved hW.alike hZc0⟩⟩ rfl rfl hl.1 rfl (lv_room (Nat.le_of_ble_eq_true rfl)) d_Bd_add_21 ⟨Nat.le_of_ble_eq_true rfl, Nat.le_of_ble_eq_true rfl⟩) hS (fun q _ h => hFc q h) hFc (fun u9 t9 H1 locs ht hvm hw hB hz1 hk1 hS => ?_)
  obtain ⟨gwk_1, gsk_1, gtk_1, glk_1⟩ := u9
  have hdg : dgo gtk_1 [lw 0, lw 1, lw 2, lw 3, rw 0, rw 1, rw 2, rw 3, rw 4] := hw
  obtain ⟨hP1, hK1, hD1⟩ := hB
  rw [ht] at hP1
  obtain ⟨hP, hD⟩ := va_join (wr := [(lk, .inl (cJ, 4, .inr (.inl lv))), (ra, .inl (cJ, 8, .inr (.inl rw)))]) (w1 := [(bd0, .inr (3, [.ref h0, .ref ro, .ref lo, .int (nI k)])), (ro, .inl (cR, 154, .inr (.inr (.inr (.inr rr))))), (lo, .inl (cR, 154, .inr (.inr (.inr (.inr lr))))), (rk, .inl (cJ, 8, .inr (.inl rw))), (lp, .inl (cJ, 4, .inr (.inl lw))), (h0, .inr (2, [.ref aw, .ref ax, .ref ay, .int (nI glk_1)])), (aw, .inl (cJ, 16, .inr (.inl gwk_1))), (ax, .inl (cI, 64, .inl gsk_1)), (ay, .inl (cI, 8, .inl gtk_1))]) hP hD [0, 1, 2, 3, 4, 7, 8, 9, 10] [5, 6] rfl rfl (by decide) (by decide) hk1 hFc hP1 hD1
  have hP := hP.sub (ws' := [(bd0, .inr (3, [.ref h0, .ref ro, .ref lo, .int (nI k)])), (ro, .inl (cR, 154, .inr (.inr (.inr (.inr rr))))), (lo, .inl (cR, 154, .inr (.inr (.inr (.inr lr))))), (rk, .inl (cJ, 8, .inr (.inl rw))), (lp, .inl (cJ, 4, .inr (.inl lw))), (lk, .inl (cJ, 4, .inr (.inl lv))), (ra, .inl (cJ, 8, .inr (.inl rw))), (h0, .inr (2, [.ref aw, .ref ax, .ref ay, .int (nI glk_1)])), (aw, .inl (cJ, 16, .inr (.inl gwk_1))), (ax, .inl (cI, 64, .inl gsk_1)), (ay, .inl (cI, 8, .inl gtk_1))]) [2, 3, 4, 5, 6, 0, 1, 7, 8, 9, 10] rfl
  have hD := hD.sub (ws' := [(bd0, .inr (3, [.ref h0, .ref ro, .ref lo, .int (nI k)])), (ro, .inl (cR, 154, .inr (.inr (.inr (.inr rr))))), (lo, .inl (cR, 154, .inr (.inr (.inr (.inr lr))))), (rk, .inl (cJ, 8, .inr (.inl rw))), (lp, .inl (cJ, 4, .inr (.inl lw))), (lk, .inl (cJ, 4, .inr (.inl lv))), (ra, .inl (cJ, 8, .inr (.inl rw))), (h0, .inr (2, [.ref aw, .ref ax, .ref ay, .int (nI glk_1)])), (aw, .inl (cJ, 16, .inr (.inl gwk_1))), (ax, .inl (cI, 64, .inl gsk_1)), (ay, .inl (cI, 8, .inl gtk_1))]) [2, 3, 4, 5, 6, 0, 1, 7, 8, 9, 10] (by decide) rfl
  generalize H1 = H at hP hS ⊢
  refine lv_iconst (v := 0) hx hb d_Bd_add_24 (by decide) ?_
  refine lv_istore_n (lv' := [(3, .int 0), (2, .int (nI k)), (0, .ref bd0), (1, .ref ra)]) hx hb d_Bd_add_25 rfl hl (by decide) rfl (fun ls hl => ?_)
  refine lv_iload_n hx hb d_Bd_add_26 rfl (lv_at hl 0 rfl) ?_
  refine lv_iconst (v := 4) hx hb d_Bd_add_27 (by decide) ?_
  refine lv_icmp_ge (tgt := 53) hx hb d_Bd_add_28 (by decide) (fun c_3 => ?_) (fun c_3 => ?_)
  · -- taken
    exact absurd c_3 (by decide)
  · -- not taken
    refine lv_aload_n hx hb d_Bd_add_31 rfl (lv_at hl 2 rfl) ?_
    refine va_get (D := (dC, dI)) (ci := 3) (v := .ref lo) (C := "BallotBoard$Board") (T := F_Bo) (N := 4) hx hb hts (fun w9 h9 => List.mem_cons_of_mem _ (i_Bo w9 h9)) hown hK hP 0 rfl rfl 2 (by decide) (hts _ (List.mem_cons_of_mem _ gk_62)) (fun _ h9 => h9) rfl d_Bd_add_32 ?_
    refine lv_iload_n hx hb d_Bd_add_35 rfl (lv_at hl 1 rfl) ?_
    refine va_aldA hx hb hK hP 2 2 rfl rfl (vp_in_nI (by omega) (by omega)) d_Bd_add_36 (b := lk) (by rw [nI_clamp (by omega)]; exact hlk) ?_
    refine lv_iload_n hx hb d_Bd_add_37 rfl (lv_at hl 0 rfl) ?_
    refine lv_aload_n hx hb d_Bd_add_38 rfl (lv_at hl 2 rfl) ?_
    refine va_get (D := (dC, dI)) (ci := 3) (v := .ref h0) (C := "BallotBoard$Board") (T := F_Bo) (N := 4) hx hb hts (fun w9 h9 => List.mem_cons_of_mem _ (i_Bo w9 h9)) hown hK hP 0 rfl rfl 0 (by decide) (hts _ (List.mem_cons_of_mem _ gk_60)) (fun _ h9 => h9) rfl d_Bd_add_39 ?_
    refine lv_iload_n hx hb d_Bd_add_42 rfl (lv_at hl 0 rfl) ?_
    have hPc := hP.sub (ws' := (ha_ws h0 aw ax ay cJ cI gwk_1 gsk_1 gtk_1 glk_1)) [7, 8, 9, 10] rfl
    have hKc := hK.sub (tys' := [(cJ, .long), (cI, .int)]) [0, 1] rfl
    refine va_calll (va_runV (As := [.int 0]) (rest := [.int 0, .ref lk]) ⟨hx, hb, hml, hown, hts⟩ (c_Ha_word l H dC dI h0 aw ax ay cJ cI gwk_1 gsk_1 gtk_1 glk_1 0 hPc (by decide)) (cwV 1 hts (gw_V gk_598 gk_536 gk_537 gk_2 gk_538) rfl rfl rfl (by decide +kernel) ⟨Nat.le_of_ble_eq_true rfl, Nat.le_of_ble_eq_true rfl⟩) ⟨fun a U g mk q => ⟨q.1, q.2.1, va_K.moved (u := U) (U := U.calling g mk a) (Vm.Alike.refl U.vm) q.2.2⟩, va_recv hK hP (ci := 2) (q0 := 7) rfl rfl, fun U hU hW => ⟨rfl, hU, va_K.moved hW.alike hKc⟩⟩ rfl rfl hl.1 rfl (lv_room (Nat.le_of_ble_eq_true rfl)) d_Bd_add_43 ⟨Nat.le_of_ble_eq_true rfl, Nat.le_of_ble_eq_true rfl⟩) hS (fun q _ h => h.elim) (fun q h => h.elim) (fun r43 u9 t9 H1 locs ht hvm hw hB hz1 hk1 hS => ?_)
    obtain rfl : H = H1 := hB.symm.trans ht
    have hw : r43 = wd (gtk_1 0) (gtk_1 1) := hw
    subst hw
    rw [show (wd (gtk_1 0) (gtk_1 1) : Int64) = (lkw [lw 0, lw 1, lw 2, lw 3, rw 0, rw 1, rw 2, rw 3, rw 4] 0) from lkw_0 hdg]
    refine va_last hx hb hK hP hD hS 5 0 rfl rfl (vp_lit rfl) d_Bd_add_46 (fun H locs hP hD hS => ?_)
    have hfe : vp_updL lv (0 : Int32).toNatClampNeg (lkw [lw 0, lw 1, lw 2, lw 3, rw 0, rw 1, rw 2, rw 3, rw 4] 0) = vp_updL lv 0 (lkw [lw 0, lw 1, lw 2, lw 3, rw 0, rw 1, rw 2, rw 3, rw 4] 0) := rfl
    have hP : va_P (dC, dI) classes [(bd0, .inr (3, [.ref h0, .ref ro, .ref lo, .int (nI k)])), (ro, .inl (cR, 154, .inr (.inr (.inr (.inr rr))))), (lo, .inl (cR, 154, .inr (.inr (.inr (.inr lr))))), (rk, .inl (cJ, 8, .inr (.inl rw))), (lp, .inl (cJ, 4, .inr (.inl lw))), (lk, .inl (cJ, 4, .inr (.inl (vp_updL lv (0 : Int32).toNatClampNeg (lkw [lw 0, lw 1, lw 2, lw 3, rw 0, rw 1, rw 2, rw 3, rw 4] 0))))), (ra, .inl (cJ, 8, .inr (.inl rw))), (h0, .inr (2, [.ref aw, .ref ax, .ref ay, .int (nI glk_1)])), (aw, .inl (cJ, 16, .inr (.inl gwk_1))), (ax, .inl (cI, 64, .inl gsk_1)), (ay, .inl (cI, 8, .inl gtk_1))] H := hP
    have hD : va_D A [(bd0, .inr (3, [.ref h0, .ref ro, .ref lo, .int (nI k)])), (ro, .inl (cR, 154, .inr (.inr (.inr (.inr rr))))), (lo, .inl (cR, 154, .inr (.inr (.inr (.inr lr))))), (rk, .inl (cJ, 8, .inr (.inl rw))), (lp, .inl (cJ, 4, .inr (.inl lw))), (lk, .inl (cJ, 4, .inr (.inl (vp_updL lv (0 : Int32).toNatClampNeg (lkw [lw 0, lw 1, lw 2, lw 3, rw 0, rw 1, rw 2, rw 3, rw 4] 0))))), (ra, .inl (cJ, 8, .inr (.inl rw))), (h0, .inr (2, [.ref aw, .ref ax, .ref ay, .int (nI glk_1)])), (aw, .inl (cJ, 16, .inr (.inl gwk_1))), (ax, .inl (cI, 64, .inl gsk_1)), (ay, .inl (cI, 8, .inl gtk_1))] := hD
    rw [hfe] at hP hD
    obtain ⟨i_4, ei_4⟩ : ∃ y : Int32, y = 0 + 1 := ⟨_, rfl⟩
    refine lv_iinc (v := i_4) (lv' := [(3, .int i_4), (2, .int (nI k)), (0, .ref bd0), (1, .ref ra)]) hx hb d_Bd_add_47 hl (k := 0) rfl (by rw [ei_4]; rfl) (by decide) rfl (fun ls hl => ?_)
    obtain rfl : i_4 = 1 := by rw [ei_4]; exact by decide
    refine lv_goto (tgt := 26) hx hb d_Bd_add_50 (by decide) ?_
    refine lv_iload_n hx hb d_Bd_add_26 rfl (lv_at hl 0 rfl) ?_
    refine lv_iconst (v := 4) hx hb d_Bd_add_27 (by decide) ?_
    refine lv_icmp_ge (tgt := 53) hx hb d_Bd_add_28 (by decide) (fun c_5 => ?_) (fun c_5 => ?_)
    · -- taken
      exact absurd c_5 (by decide)
    · -- not taken
      refine lv_aload_n hx hb d_Bd_add_31 rfl (lv_at hl 2 rfl) ?_
      refine va_get (D := (dC, dI)) (ci := 3) (v := .ref lo) (C := "BallotBoard$Board") (T := F_Bo) (N := 4) hx hb hts (fun w9 h9 => List.mem_cons_of_mem _ (i_Bo w9 h9)) hown hK hP 0 rfl rfl 2 (by decide) (hts _ (List.mem_cons_of_mem _ gk_62)) (fun _ h9 => h9) rfl d_Bd_add_32 ?_
      refine lv_iload_n hx hb d_Bd_add_35 rfl (lv_at hl 1 rfl) ?_
      refine va_aldA hx hb hK hP 2 2 rfl rfl (vp_in_nI (by omega) (by omega)) d_Bd_add_36 (b := lk) (by rw [nI_clamp (by omega)]; exact hlk) ?_
      refine lv_iload_n hx hb d_Bd_add_37 rfl (lv_at hl 0 rfl) ?_
      refine lv_aload_n hx hb d_Bd_add_38 rfl (lv_at hl 2 rfl) ?_
      refine va_get (D := (dC, dI)) (ci := 3) (v := .ref h0) (C := "BallotBoard$Board") (T := F_Bo) (N := 4) hx hb hts (fun w9 h9 => List.mem_cons_of_mem _ (i_Bo w9 h9)) hown hK hP 0 rfl rfl 0 (by decide) (hts _ (List.mem_cons_of_mem _ gk_60)) (fun _ h9 => h9) rfl d_Bd_add_39 ?_
      refine lv_iload_n hx hb d_Bd_add_42 rfl (lv_at hl 0 rfl) ?_
      have hPc := hP.sub (ws' := (ha_ws h0 aw ax ay cJ cI gwk_1 gsk_1 gtk_1 glk_1)) [7, 8, 9, 10] rfl
      have hKc := hK.sub (tys' := [(cJ, .long), (cI, .int)]) [0, 1] rfl
      refine va_calll (va_runV (As := [.int 1]) (rest := [.int 1, .ref lk]) ⟨hx, hb, hml, hown, hts⟩ (c_Ha_word l H dC dI h0 aw ax ay cJ cI gwk_1 gsk_1 gtk_1 glk_1 1 hPc (by decide)) (cwV 1 hts (gw_V gk_598 gk_536 gk_537 gk_2 gk_538) rfl rfl rfl (by decide +kernel) ⟨Nat.le_of_ble_eq_true rfl, Nat.le_of_ble_eq_true rfl⟩) ⟨fun a U g mk q => ⟨q.1, q.2.1, va_K.moved (u := U) (U := U.calling g mk a) (Vm.Alike.refl U.vm) q.2.2⟩, va_recv hK hP (ci := 2) (q0 := 7) rfl rfl, fun U hU hW => ⟨rfl, hU, va_K.moved hW.alike hKc⟩⟩ rfl rfl hl.1 rfl (lv_room (Nat.le_of_ble_eq_true rfl)) d_Bd_add_43 ⟨Nat.le_of_ble_eq_true rfl, Nat.le_of_ble_eq_true rfl⟩) hS (fun q _ h => h.elim) (fun q h => h.elim) (fun r43 u9 t9 H1 locs ht hvm hw hB hz1 hk1 hS => ?_)
      obtain rfl : H = H1 := hB.symm.trans ht
      have hw : r43 = wd (gtk_1 2) (gtk_1 3) := hw
      subst hw
      rw [show (wd (gtk_1 2) (gtk_1 3) : Int64) = (lkw [lw 0, lw 1, lw 2, lw 3, rw 0, rw 1, rw 2, rw 3, rw 4] 1) from lkw_1 hdg]
      refine va_last hx hb hK hP hD hS 5 0 rfl rfl (vp_lit rfl) d_Bd_add_46 (fun H locs hP hD hS => ?_)
      have hfe : vp_updL (vp_updL lv 0 (lkw [lw 0, lw 1, lw 2, lw 3, rw 0, rw 1, rw 2, rw 3, rw 4] 0)) (1 : Int32).toNatClampNeg (lkw [lw 0, lw 1, lw 2, lw 3, rw 0, rw 1, rw 2, rw 3, rw 4] 1) = vp_updL (vp_updL lv 0 (lkw [lw 0, lw 1, lw 2, lw 3, rw 0, rw 1, rw 2, rw 3, rw 4] 0)) 1 (lkw [lw 0, lw 1, lw 2, lw 3, rw 0, rw 1, rw 2, rw 3, rw 4] 1) := rfl
      have hP : va_P (dC, dI) classes [(bd0, .inr (3, [.ref h0, .ref ro, .ref lo, .int (nI k)])), (ro, .inl (cR, 154, .inr (.inr (.inr (.inr rr))))), (lo, .inl (cR, 154, .inr (.inr (.inr (.inr lr))))), (rk, .inl (cJ, 8, .inr (.inl rw))), (lp, .inl (cJ, 4, .inr (.inl lw))), (lk, .inl (cJ, 4, .inr (.inl (vp_updL (vp_updL lv 0 (lkw [lw 0, lw 1, lw 2, lw 3, rw 0, rw 1, rw 2, rw 3, rw 4] 0)) (1 : Int32).toNatClampNeg (lkw [lw 0, lw 1, lw 2, lw 3, rw 0, rw 1, rw 2, rw 3, rw 4] 1))))), (ra, .inl (cJ, 8, .inr (.inl rw))), (h0, .inr (2, [.ref aw, .ref ax, .ref ay, .int (nI glk_1)])), (aw, .inl (cJ, 16, .inr (.inl gwk_1))), (ax, .inl (cI, 64, .inl gsk_1)), (ay, .inl (cI, 8, .inl gtk_1))] H := hP
      have hD : va_D A [(bd0, .inr (3, [.ref h0, .ref ro, .ref lo, .int (nI k)])), (ro, .inl (cR, 154, .inr (.inr (.inr (.inr rr))))), (lo, .inl (cR, 154, .inr (.inr (.inr (.inr lr))))), (rk, .inl (cJ, 8, .inr (.inl rw))), (lp, .inl (cJ, 4, .inr (.inl lw))), (lk, .inl (cJ, 4, .inr (.inl (vp_updL (vp_updL lv 0 (lkw [lw 0, lw 1, lw 2, lw 3, rw 0, rw 1, rw 2, rw 3, rw 4] 0)) (1 : Int32).toNatClampNeg (lkw [lw 0, lw 1, lw 2, lw 3, rw 0, rw 1, rw 2, rw 3, rw 4] 1))))), (ra, .inl (cJ, 8, .inr (.inl rw))), (h0, .inr (2, [.ref aw, .ref ax, .ref ay, .int (nI glk_1)])), (aw, .inl (cJ, 16, .inr (.inl gwk_1))), (ax, .inl (cI, 64, .inl gsk_1)), (ay, .inl (cI, 8, .inl gtk_1))] := hD
      rw [hfe] at hP hD
      obtain ⟨i_6, ei_6⟩ : ∃ y : Int32, y = 1 + 1 := ⟨_, rfl⟩
      refine lv_iinc (v := i_6) (lv' := [(3, .int i_6), (2, .int (nI k)), (0, .ref bd0), (1, .ref ra)]) hx hb d_Bd_add_47 hl (k := 0) rfl (by rw [ei_6]; rfl) (by decide) rfl (fun ls hl => ?_)
      obtain rfl : i_6 = 2 := by rw [ei_6]; exact by decide
      refine lv_goto (tgt := 26) hx hb d_Bd_add_50 (by decide) ?_
      refine lv_iload_n hx hb d_Bd_add_26 rfl (lv_at hl 0 rfl) ?_
      refine lv_iconst (v := 4) hx hb d_Bd_add_27 (by decide) ?_
      refine lv_icmp_ge (tgt := 53) hx hb d_Bd_add_28 (by decide) (fun c_7 => ?_) (fun c_7 => ?_)
      · -- taken
        exact absurd c_7 (by decide)
      · -- not taken
        refine lv_aload_n hx hb d_Bd_add_31 rfl (lv_at hl 2 rfl) ?_
        refine va_get (D := (dC, dI)) (ci := 3) (v := .ref lo) (C := "BallotBoard$Board") (T := F_Bo) (N := 4) hx hb hts (fun w9 h9 => List.mem_cons_of_mem _ (i_Bo w9 h9)) hown hK hP 0 rfl rfl 2 (by decide) (hts _ (List.mem_cons_of_mem _ gk_62)) (fun _ h9 => h9) rfl d_Bd_add_32 ?_
        refine lv_iload_n hx hb d_Bd_add_35 rfl (lv_at hl 1 rfl) ?_
        refine va_aldA hx hb hK hP 2 2 rfl rfl (vp_in_nI (by omega) (by omega)) d_Bd_add_36 (b := lk) (by rw [nI_clamp (by omega)]; exact hlk) ?_
        refine lv_iload_n hx hb d_Bd_add_37 rfl (lv_at hl 0 rfl) ?_
        refine lv_aload_n hx hb d_Bd_add_38 rfl (lv_at hl 2 rfl) ?_
        refine va_get (D := (dC, dI)) (ci := 3) (v := .ref h0) (C := "BallotBoard$Board") (T := F_Bo) (N := 4) hx hb hts (fun w9 h9 => List.mem_cons_of_mem _ (i_Bo w9 h9)) hown hK hP 0 rfl rfl 0 (by decide) (hts _ (List.mem_cons_of_mem _ gk_60)) (fun _ h9 => h9) rfl d_Bd_add_39 ?_
        refine lv_iload_n hx hb d_Bd_add_42 rfl (lv_at hl 0 rfl) ?_
        have hPc := hP.sub (ws' := (ha_ws h0 aw ax ay cJ cI gwk_1 gsk_1 gtk_1 glk_1)) [7, 8, 9, 10] rfl
        have hKc := hK.sub (tys' := [(cJ, .long), (cI, .int)]) [0, 1] rfl
        refine va_calll (va_runV (As := [.int 2]) (rest := [.int 2, .ref lk]) ⟨hx, hb, hml, hown, hts⟩ (c_Ha_word l H dC dI h0 aw ax ay cJ cI gwk_1 gsk_1 gtk_1 glk_1 2 hPc (by decide)) (cwV 1 hts (gw_V gk_598 gk_536 gk_537 gk_2 gk_538) rfl rfl rfl (by decide +kernel) ⟨Nat.le_of_ble_eq_true rfl, Nat.le_of_ble_eq_true rfl⟩) ⟨fun a U g mk q => ⟨q.1, q.2.1, va_K.moved (u := U) (U := U.calling g mk a) (Vm.Alike.refl U.vm) q.2.2⟩, va_recv hK hP (ci := 2) (q0 := 7) rfl rfl, fun U hU hW => ⟨rfl, hU, va_K.moved hW.alike hKc⟩⟩ rfl rfl hl.1 rfl (lv_room (Nat.le_of_ble_eq_true rfl)) d_Bd_add_43 ⟨Nat.le_of_ble_eq_true rfl, Nat.le_of_ble_eq_true rfl⟩) hS (fun q _ h => h.elim) (fun q h => h.elim) (fun r43 u9 t9 H1 locs ht hvm hw hB hz1 hk1 hS => ?_)
        obtain rfl : H = H1 := hB.symm.trans ht
        have hw : r43 = wd (gtk_1 4) (gtk_1 5) := hw
        subst hw
        rw [show (wd (gtk_1 4) (gtk_1 5) : Int64) = (lkw [lw 0, lw 1, lw 2, lw 3, rw 0, rw 1, rw 2, rw 3, rw 4] 2) from lkw_2 hdg]
        refine va_last hx hb hK hP hD hS 5 0 rfl rfl (vp_lit rfl) d_Bd_add_46 (fun H locs hP hD hS => ?_)
        have hfe : vp_updL (vp_updL (vp_updL lv 0 (lkw [lw 0, lw 1, lw 2, lw 3, rw 0, rw 1, rw 2, rw 3, rw 4] 0)) 1 (lkw [lw 0, lw 1, lw 2, lw 3, rw 0, rw 1, rw 2, rw 3, rw 4] 1)) (2 : Int32).toNatClampNeg (lkw [lw 0, lw 1, lw 2, lw 3, rw 0, rw 1, rw 2, rw 3, rw 4] 2) = vp_updL (vp_updL (vp_updL lv 0 (lkw [lw 0, lw 1, lw 2, lw 3, rw 0, rw 1, rw 2, rw 3, rw 4] 0)) 1 (lkw [lw 0, lw 1, lw 2, lw 3, rw 0, rw 1, rw 2, rw 3, rw 4] 1)) 2 (lkw [lw 0, lw 1, lw 2, lw 3, rw 0, rw 1, rw 2, rw 3, rw 4] 2) := rfl
        have hP : va_P (dC, dI) classes [(bd0, .inr (3, [.ref h0, .ref ro, .ref lo, .int (nI k)])), (ro, .inl (cR, 154, .inr (.inr (.inr (.inr rr))))), (lo, .inl (cR, 154, .inr (.inr (.inr (.inr lr))))), (rk, .inl (cJ, 8, .inr (.inl rw))), (lp, .inl (cJ, 4, .inr (.inl lw))), (lk, .inl (cJ, 4, .inr (.inl (vp_updL (vp_updL (vp_updL lv 0 (lkw [lw 0, lw 1, lw 2, lw 3, rw 0, rw 1, rw 2, rw 3, rw 4] 0)) 1 (lkw [lw 0, lw 1, lw 2, lw 3, rw 0, rw 1, rw 2, rw 3, rw 4] 1)) (2 : Int32).toNatClampNeg (lkw [lw 0, lw 1, lw 2, lw 3, rw 0, rw 1, rw 2, rw 3, rw 4] 2))))), (ra, .inl (cJ, 8, .inr (.inl rw))), (h0, .inr (2, [.ref aw, .ref ax, .ref ay, .int (nI glk_1)])), (aw, .inl (cJ, 16, .inr (.inl gwk_1))), (ax, .inl (cI, 64, .inl gsk_1)), (ay, .inl (cI, 8, .inl gtk_1))] H := hP
        have hD : va_D A [(bd0, .inr (3, [.ref h0, .ref ro, .ref lo, .int (nI k)])), (ro, .inl (cR, 154, .inr (.inr (.inr (.inr rr))))), (lo, .inl (cR, 154, .inr (.inr (.inr (.inr lr))))), (rk, .inl (cJ, 8, .inr (.inl rw))), (lp, .inl (cJ, 4, .inr (.inl lw))), (lk, .inl (cJ, 4, .inr (.inl (vp_updL (vp_updL (vp_updL lv 0 (lkw [lw 0, lw 1, lw 2, lw 3, rw 0, rw 1, rw 2, rw 3, rw 4] 0)) 1 (lkw [lw 0, lw 1, lw 2, lw 3, rw 0, rw 1, rw 2, rw 3, rw 4] 1)) (2 : Int32).toNatClampNeg (lkw [lw 0, lw 1, lw 2, lw 3, rw 0, rw 1, rw 2, rw 3, rw 4] 2))))), (ra, .inl (cJ, 8, .inr (.inl rw))), (h0, .inr (2, [.ref aw, .ref ax, .ref ay, .int (nI glk_1)])), (aw, .inl (cJ, 16, .inr (.inl gwk_1))), (ax, .inl (cI, 64, .inl gsk_1)), (ay, .inl (cI, 8, .inl gtk_1))] := hD
        rw [hfe] at hP hD
        obtain ⟨i_8, ei_8⟩ : ∃ y : Int32, y = 2 + 1 := ⟨_, rfl⟩
        refine lv_iinc (v := i_8) (lv' := [(3, .int i_8), (2, .int (nI k)), (0, .ref bd0), (1, .ref ra)]) hx hb d_Bd_add_47 hl (k := 0) rfl (by rw [ei_8]; rfl) (by decide) rfl (fun ls hl => ?_)
        obtain rfl : i_8 = 3 := by rw [ei_8]; exact by decide
        refine lv_goto (tgt := 26) hx hb d_Bd_add_50 (by decide) ?_
        refine lv_iload_n hx hb d_Bd_add_26 rfl (lv_at hl 0 rfl) ?_
        refine lv_iconst (v := 4) hx hb d_Bd_add_27 (by decide) ?_
        refine lv_icmp_ge (tgt := 53) hx hb d_Bd_add_28 (by decide) (fun c_9 => ?_) (fun c_9 => ?_)
        · -- taken
          exact absurd c_9 (by decide)
        · -- not taken
          refine lv_aload_n hx hb d_Bd_add_31 rfl (lv_at hl 2 rfl) ?_
          refine va_get (D := (dC, dI)) (ci := 3) (v := .ref lo) (C := "BallotBoard$Board") (T := F_Bo) (N := 4) hx hb hts (fun w9 h9 => List.mem_cons_of_mem _ (i_Bo w9 h9)) hown hK hP 0 rfl rfl 2 (by decide) (hts _ (List.mem_cons_of_mem _ gk_62)) (fun _ h9 => h9) rfl d_Bd_add_32 ?_
          refine lv_iload_n hx hb d_Bd_add_35 rfl (lv_at hl 1 rfl) ?_
          refine va_aldA hx hb hK hP 2 2 rfl rfl (vp_in_nI (by omega) (by omega)) d_Bd_add_36 (b := lk) (by rw [nI_clamp (by omega)]; exact hlk) ?_
          refine lv_iload_n hx hb d_Bd_add_37 rfl (lv_at hl 0 rfl) ?_
          refine lv_aload_n hx hb d_Bd_add_38 rfl (lv_at hl 2 rfl) ?_
          refine va_get (D := (dC, dI)) (ci := 3) (v := .ref h0) (C := "BallotBoard$Board") (T := F_Bo) (N := 4) hx hb hts (fun w9 h9 => List.mem_cons_of_mem _ (i_Bo w9 h9)) hown hK hP 0 rfl rfl 0 (by decide) (hts _ (List.mem_cons_of_mem _ gk_60)) (fun _ h9 => h9) rfl d_Bd_add_39 ?_
          refine lv_iload_n hx hb d_Bd_add_42 rfl (lv_at hl 0 rfl) ?_
          have hPc := hP.sub (ws' := (ha_ws h0 aw ax ay cJ cI gwk_1 gsk_1 gtk_1 glk_1)) [7, 8, 9, 10] rfl
          have hKc := hK.sub (tys' := [(cJ, .long), (cI, .int)]) [0, 1] rfl
          refine va_calll (va_runV (As := [.int 3]) (rest := [.int 3, .ref lk]) ⟨hx, hb, hml, hown, hts⟩ (c_Ha_word l H dC dI h0 aw ax ay cJ cI gwk_1 gsk_1 gtk_1 glk_1 3 hPc (by decide)) (cwV 1 hts (gw_V gk_598 gk_536 gk_537 gk_2 gk_538) rfl rfl rfl (by decide +kernel) ⟨Nat.le_of_ble_eq_true rfl, Nat.le_of_ble_eq_true rfl⟩) ⟨fun a U g mk q => ⟨q.1, q.2.1, va_K.moved (u := U) (U := U.calling g mk a) (Vm.Alike.refl U.vm) q.2.2⟩, va_recv hK hP (ci := 2) (q0 := 7) rfl rfl, fun U hU hW => ⟨rfl, hU, va_K.moved hW.alike hKc⟩⟩ rfl rfl hl.1 rfl (lv_room (Nat.le_of_ble_eq_true rfl)) d_Bd_add_43 ⟨Nat.le_of_ble_eq_true rfl, Nat.le_of_ble_eq_true rfl⟩) hS (fun q _ h => h.elim) (fun q h => h.elim) (fun r43 u9 t9 H1 locs ht hvm hw hB hz1 hk1 hS => ?_)
          obtain rfl : H = H1 := hB.symm.trans ht
          have hw : r43 = wd (gtk_1 6) (gtk_1 7) := hw
          subst hw
          rw [show (wd (gtk_1 6) (gtk_1 7) : Int64) = (lkw [lw 0, lw 1, lw 2, lw 3, rw 0, rw 1, rw 2, rw 3, rw 4] 3) from lkw_3 hdg]
          refine va_last hx hb hK hP hD hS 5 0 rfl rfl (vp_lit rfl) d_Bd_add_46 (fun H locs hP hD hS => ?_)
          have hfe : vp_updL (vp_updL (vp_updL (vp_updL lv 0 (lkw [lw 0, lw 1, lw 2, lw 3, rw 0, rw 1, rw 2, rw 3, rw 4] 0)) 1 (lkw [lw 0, lw 1, lw 2, lw 3, rw 0, rw 1, rw 2, rw 3, rw 4] 1)) 2 (lkw [lw 0, lw 1, lw 2, lw 3, rw 0, rw 1, rw 2, rw 3, rw 4] 2)) (3 : Int32).toNatClampNeg (lkw [lw 0, lw 1, lw 2, lw 3, rw 0, rw 1, rw 2, rw 3, rw 4] 3) = vp_updL (vp_updL (vp_updL (vp_updL lv 0 (lkw [lw 0, lw 1, lw 2, lw 3, rw 0, rw 1, rw 2, rw 3, rw 4] 0)) 1 (lkw [lw 0, lw 1, lw 2, lw 3, rw 0, rw 1, rw 2, rw 3, rw 4] 1)) 2 (lkw [lw 0, lw 1, lw 2, lw 3, rw 0, rw 1, rw 2, rw 3, rw 4] 2)) 3 (lkw [lw 0, lw 1, lw 2, lw 3, rw 0, rw 1, rw 2, rw 3, rw 4] 3) := rfl
          have hP : va_P (dC, dI) classes [(bd0, .inr (3, [.ref h0, .ref ro, .ref lo, .int (nI k)])), (ro, .inl (cR, 154, .inr (.inr (.inr (.inr rr))))), (lo, .inl (cR, 154, .inr (.inr (.inr (.inr lr))))), (rk, .inl (cJ, 8, .inr (.inl rw))), (lp, .inl (cJ, 4, .inr (.inl lw))), (lk, .inl (cJ, 4, .inr (.inl (vp_updL (vp_updL (vp_updL (vp_updL lv 0 (lkw [lw 0, lw 1, lw 2, lw 3, rw 0, rw 1, rw 2, rw 3, rw 4] 0)) 1 (lkw [lw 0, lw 1, lw 2, lw 3, rw 0, rw 1, rw 2, rw 3, rw 4] 1)) 2 (lkw [lw 0, lw 1, lw 2, lw 3, rw 0, rw 1, rw 2, rw 3, rw 4] 2)) (3 : Int32).toNatClampNeg (lkw [lw 0, lw 1, lw 2, lw 3, rw 0, rw 1, rw 2, rw 3, rw 4] 3))))), (ra, .inl (cJ, 8, .inr (.inl rw))), (h0, .inr (2, [.ref aw, .ref ax, .ref ay, .int (nI glk_1)])), (aw, .inl (cJ, 16, .inr (.inl gwk_1))), (ax, .inl (cI, 64, .inl gsk_1)), (ay, .inl (cI, 8, .inl gtk_1))] H := hP
          have hD : va_D A [(bd0, .inr (3, [.ref h0, .ref ro, .ref lo, .int (nI k)])), (ro, .inl (cR, 154, .inr (.inr (.inr (.inr rr))))), (lo, .inl (cR, 154, .inr (.inr (.inr (.inr lr))))), (rk, .inl (cJ, 8, .inr (.inl rw))), (lp, .inl (cJ, 4, .inr (.inl lw))), (lk, .inl (cJ, 4, .inr (.inl (vp_updL (vp_updL (vp_updL (vp_updL lv 0 (lkw [lw 0, lw 1, lw 2, lw 3, rw 0, rw 1, rw 2, rw 3, rw 4] 0)) 1 (lkw [lw 0, lw 1, lw 2, lw 3, rw 0, rw 1, rw 2, rw 3, rw 4] 1)) 2 (lkw [lw 0, lw 1, lw 2, lw 3, rw 0, rw 1, rw 2, rw 3, rw 4] 2)) (3 : Int32).toNatClampNeg (lkw [lw 0, lw 1, lw 2, lw 3, rw 0, rw 1, rw 2, rw 3, rw 4] 3))))), (ra, .inl (cJ, 8, .inr (.inl rw))), (h0, .inr (2, [.ref aw, .ref ax, .ref ay, .int (nI glk_1)])), (aw, .inl (cJ, 16, .inr (.inl gwk_1))), (ax, .inl (cI, 64, .inl gsk_1)), (ay, .inl (cI, 8, .inl gtk_1))] := hD
          rw [hfe] at hP hD
          obtain ⟨i_10, ei_10⟩ : ∃ y : Int32, y = 3 + 1 := ⟨_, rfl⟩
          refine lv_iinc (v := i_10) (lv' := [(3, .int i_10), (2, .int (nI k)), (0, .ref bd0), (1, .ref ra)]) hx hb d_Bd_add_47 hl (k := 0) rfl (by rw [ei_10]; rfl) (by decide) rfl (fun ls hl => ?_)
          obtain rfl : i_10 = 4 := by rw [ei_10]; exact by decide
          refine lv_goto (tgt := 26) hx hb d_Bd_add_50 (by decide) ?_
          refine lv_iload_n hx hb d_Bd_add_26 rfl (lv_at hl 0 rfl) ?_
          refine lv_iconst (v := 4) hx hb d_Bd_add_27 (by decide) ?_
          refine lv_icmp_ge (tgt := 53) hx hb d_Bd_add_28 (by decide) (fun c_11 => ?_) (fun c_11 => ?_)
          · -- taken
            have hP : va_P (dC, dI) classes [(bd0, .inr (3, [.ref h0, .ref ro, .ref lo, .int (nI k)])), (ro, .inl (cR, 154, .inr (.inr (.inr (.inr rr))))), (lo, .inl (cR, 154, .inr (.inr (.inr (.inr lr))))), (rk, .inl (cJ, 8, .inr (.inl rw))), (lp, .inl (cJ, 4, .inr (.inl lw))), (lk, .inl (cJ, 4, .inr (.inl (lkw [lw 0, lw 1, lw 2, lw 3, rw 0, rw 1, rw 2, rw 3, rw 4])))), (ra, .inl (cJ, 8, .inr (.inl rw))), (h0, .inr (2, [.ref aw, .ref ax, .ref ay, .int (nI glk_1)])), (aw, .inl (cJ, 16, .inr (.inl gwk_1))), (ax, .inl (cI, 64, .inl gsk_1)), (ay, .inl (cI, 8, .inl gtk_1))] H := hP.row 5 rfl lk_4
            have hD : va_D A [(bd0, .inr (3, [.ref h0, .ref ro, .ref lo, .int (nI k)])), (ro, .inl (cR, 154, .inr (.inr (.inr (.inr rr))))), (lo, .inl (cR, 154, .inr (.inr (.inr (.inr lr))))), (rk, .inl (cJ, 8, .inr (.inl rw))), (lp, .inl (cJ, 4, .inr (.inl lw))), (lk, .inl (cJ, 4, .inr (.inl (lkw [lw 0, lw 1, lw 2, lw 3, rw 0, rw 1, rw 2, rw 3, rw 4])))), (ra, .inl (cJ, 8, .inr (.inl rw))), (h0, .inr (2, [.ref aw, .ref ax, .ref ay, .int (nI glk_1)])), (aw, .inl (cJ, 16, .inr (.inl gwk_1))), (ax, .inl (cI, 64, .inl gsk_1)), (ay, .inl (cI, 8, .inl gtk_1))] := hD.set (p := 5) rfl
            refine lv_aload_n hx hb d_Bd_add_53 rfl (lv_at hl 2 rfl) ?_
            refine lv_dup hx hb d_Bd_add_54 rfl ?_
            refine va_get (D := (dC, dI)) (ci := 3) (v := .int (nI k)) (C := "BallotBoard$Board") (T := F_Bo) (N := 4) hx hb hts (fun w9 h9 => List.mem_cons_of_mem _ (i_Bo w9 h9)) hown hK hP 0 rfl rfl 3 (by decide) (hts _ (List.mem_cons_of_mem _ gk_63)) (fun _ h9 => h9) rfl d_Bd_add_55 ?_
            refine lv_iconst (v := 1) hx hb d_Bd_add_58 (by decide) ?_
            refine lv_iadd hx hb d_Bd_add_59 ?_
            rw [show ((nI k) + 1 : Int32) = (nI (k + 1)) from nI_1 k]
            refine va_put (D := (dC, dI)) (ci := 3) (v := .int (nI (k + 1))) (ty := .int) (C := "BallotBoard$Board") (T := F_Bo) (N := 4) hx hb hts (fun w9 h9 => List.mem_cons_of_mem _ (i_Bo w9 h9)) t_Bo t_Bo_ok n_Bo hown hK hP hD hS 0 rfl rfl 3 (by decide) (hts _ (List.mem_cons_of_mem _ gk_63)) (fun _ h9 => h9) rfl (by decide +kernel) rfl rfl (Nat.le_of_ble_eq_true rfl) d_Bd_add_60 (fun H locs hP hD hS => ?_)
            have hP : va_P (dC, dI) classes [(bd0, .inr (3, [.ref h0, .ref ro, .ref lo, .int (nI (k + 1))])), (ro, .inl (cR, 154, .inr (.inr (.inr (.inr rr))))), (lo, .inl (cR, 154, .inr (.inr (.inr (.inr lr))))), (rk, .inl (cJ, 8, .inr (.inl rw))), (lp, .inl (cJ, 4, .inr (.inl lw))), (lk, .inl (cJ, 4, .inr (.inl (lkw [lw 0, lw 1, lw 2, lw 3, rw 0, rw 1, rw 2, rw 3, rw 4])))), (ra, .inl (cJ, 8, .inr (.inl rw))), (h0, .inr (2, [.ref aw, .ref ax, .ref ay, .int (nI glk_1)])), (aw, .inl (cJ, 16, .inr (.inl gwk_1))), (ax, .inl (cI, 64, .inl gsk_1)), (ay, .inl (cI, 8, .inl gtk_1))] H := hP
            have hD : va_D A [(bd0, .inr (3, [.ref h0, .ref ro, .ref lo, .int (nI (k + 1))])), (ro, .inl (cR, 154, .inr (.inr (.inr (.inr rr))))), (lo, .inl (cR, 154, .inr (.inr (.inr (.inr lr))))), (rk, .inl (cJ, 8, .inr (.inl rw))), (lp, .inl (cJ, 4, .inr (.inl lw))), (lk, .inl (cJ, 4, .inr (.inl (lkw [lw 0, lw 1, lw 2, lw 3, rw 0, rw 1, rw 2, rw 3, rw 4])))), (ra, .inl (cJ, 8, .inr (.inl rw))), (h0, .inr (2, [.ref aw, .ref ax, .ref ay, .int (nI glk_1)])), (aw, .inl (cJ, 16, .inr (.inl gwk_1))), (ax, .inl (cI, 64, .inl gsk_1)), (ay, .inl (cI, 8, .inl gtk_1))] := hD
            refine lv_iload_n hx hb d_Bd_add_63 rfl (lv_at hl 1 rfl) ?_
            exact W.iret (v := (nI k)) hx hb hr (fun t ht9 hW => ⟨⟨_, (gwk_1, gsk_1, gtk_1, glk_1), rfl, rfl, by rw [ht9]; exact hP, va_K.moved hW.alike hK, hD⟩, hS.F ht9⟩) hS.2.2 d_Bd_add_64
          · -- not taken
            exact absurd c_11 (by decide)
set_option maxHeartbeats 8000000 in
set_option maxRecDepth 100000 in
theorem c_Bd_add_8 (l : Launch) (dC : Nat → ClassId) (dI : Nat → Nat → Nat) (cJ cI cR : ClassId) (sz : Nat) (bd0 h0 ro lo k : Nat) (rr lr : Nat → Option Nat) (aw ax ay : Nat) (w : Nat → Int64) (sc st : Nat → Int32) (L : Nat) (rA sA : Nat) (rk : Nat) (rw : Nat → Int64) (K : Nat) (lp : Nat) (lw : Nat → Int64) (lk : Nat) (lv : Nat → Int64) (ra : Nat) (ru : Nat → Int64) (hk : k < 154) (hrk : rr k = some rk) (hr0 : rw 0 = lN K) (hK4 : K < 4) (hK2 : K = 2) (hk0 : 0 < k) (hlp : lr (k - 1) = some lp) (hlk : lr k = some lk) : Met l y_Bd_add w_Bd_add ({ frames := 4, cells := 0, slots := 0, locals := 105 }) (va_Pc [.ref bd0, .ref ra] (fun U => U.heap.size = sz ∧ va_P (dC, dI) classes (bd_ws bd0 h0 ro lo k cR rr lr ++ (rw_ws rk cJ ru ++ (lk_ws lp cJ lw ++ (lk_ws lk cJ lv ++ (rw_ws ra cJ rw ++ (ha_ws h0 aw ax ay cJ cI w sc st L)))))) U.heap ∧ va_K (dC, dI) classes [(cJ, .long), (cI, .int), (cR, .array .long)] U ∧ va_D (fun _ => True) (bd_ws bd0 h0 ro lo k cR rr lr ++ (rw_ws rk cJ ru ++ (lk_ws lp cJ lw ++ (lk_ws lk cJ lv ++ (rw_ws ra cJ rw ++ (ha_ws h0 aw ax ay cJ cI w sc st L)))))) ∧ ha_Z rA sA (va_A (bd_ws bd0 h0 ro lo k cR rr lr ++ (rw_ws rk cJ ru ++ (lk_ws lp cJ lw ++ (lk_ws lk cJ lv ++ (rw_ws ra cJ rw ++ (ha_ws h0 aw ax ay cJ cI w sc st L)))))) sz) U U.heap)) (va_Qi (fun (r : Int32) (u9 : HU) => r = nI k) (fun u9 t => va_P (dC, dI) classes (bd_ws bd0 h0 ro lo (k + 1) cR rr lr ++ (rw_ws rk cJ rw ++ (lk_ws lp cJ lw ++ (lk_ws lk cJ (lkw [lw 0, lw 1, lw 2, lw 3, rw 0, rw 1, rw 2, rw 3, rw 4, rw 5, rw 6, rw 7]) ++ (rw_ws ra cJ rw ++ (hu_ws h0 aw ax ay cJ cI u9)))))) t.heap ∧ va_K (dC, dI) classes [(cJ, .long), (cI, .int), (cR, .array .long)] t ∧ va_D (va_A (bd_ws bd0 h0 ro lo k cR rr lr ++ (rw_ws rk cJ ru ++ (lk_ws lp cJ lw ++ (lk_ws lk cJ lv ++ (rw_ws ra cJ rw ++ (ha_ws h0 aw ax ay cJ cI w sc st L)))))) sz) (bd_ws bd0 h0 ro lo (k + 1) cR rr lr ++ (rw_ws rk cJ rw ++ (lk_ws lp cJ lw ++ (lk_ws lk cJ (lkw [lw 0, lw 1, lw 2, lw 3, rw 0, rw 1, rw 2, rw 3, rw 4, rw 5, rw 6, rw 7]) ++ (rw_ws ra cJ rw ++ (hu_ws h0 aw ax ay cJ cI u9))))))) (va_A (bd_ws bd0 h0 ro lo k cR rr lr ++ (rw_ws rk cJ ru ++ (lk_ws lp cJ lw ++ (lk_ws lk cJ lv ++ (rw_ws ra cJ rw ++ (ha_ws h0 aw ax ay cJ cI w sc st L)))))) sz)) 0 0 (va_A (bd_ws bd0 h0 ro lo k cR rr lr ++ (rw_ws rk cJ ru ++ (lk_ws lp cJ lw ++ (lk_ws lk cJ lv ++ (rw_ws ra cJ rw ++ (ha_ws h0 aw ax ay cJ cI w sc st L)))))) sz) := by
  refine Met.ofW (cc := b_Bd_add) (maxL := 4) (ret := (some .int)) (by decide) rfl ?_
  intro p e s m args below meth c s₁ Bd hml hv
  obtain ⟨rfl, hsz, hP, hK, hD0, hZha⟩ := hv
  have hx := Bd.exec
  have hb := Bd.bytes
  have hr := Bd.returns
  have hts := atoms_spec (ws := w_Bd_add) Bd.pre
  have hown : s.vm.findClass "BallotBoard$Board" = some m.cls := findClass_of_methodNamed Bd.named
  have hlocks := Bd.notSynchronized
  subst hsz
  have hD := hD0.self (sz := s.heap.size)
  generalize hAe : va_A (bd_ws bd0 h0 ro lo k cR rr lr ++ (rw_ws rk cJ ru ++ (lk_ws lp cJ lw ++ (lk_ws lk cJ lv ++ (rw_ws ra cJ rw ++ (ha_ws h0 aw ax ay cJ cI w sc st L)))))) s.heap.size = A at hD hZha ⊢
  have hA : ∀ q : Nat, s.heap.size ≤ q → A q := fun q h => by rw [← hAe]; exact Or.inr h
  have hS : va_S A s.heap s.heap [] := va_S.rf
  have hl := lv_entry ([.ref bd0, .ref ra]) (n := 4) (Nat.le_of_ble_eq_true rfl)
  rw [lg_entry_eq]
  generalize (lg_sl ([.ref bd0, .ref ra]) ++ List.replicate (4 - (lg_sl ([.ref bd0, .ref ra])).length) Slot.unset).toArray = ls at hl ⊢
  have hl : lv_has ls 4 [(0, .ref bd0), (1, .ref ra)] := hl
  refine lv_aload_n hx hb d_Bd_add_0 rfl (lv_at hl 0 rfl) ?_
  refine va_get (D := (dC, dI)) (ci := 3) (v := .int (nI k)) (C := "BallotBoard$Board") (T := F_Bo) (N := 4) hx hb hts (fun w9 h9 => List.mem_cons_of_mem _ (i_Bo w9 h9)) hown hK hP 0 rfl rfl 3 (by decide) (hts _ (List.mem_cons_of_mem _ gk_63)) (fun _ h9 => h9) rfl d_Bd_add_1 ?_
  refine lv_istore_n (lv' := [(2, .int (nI k)), (0, .ref bd0), (1, .ref ra)]) hx hb d_Bd_add_4 rfl hl (by decide) rfl (fun ls hl => ?_)
  refine lv_aload_n hx hb d_Bd_add_5 rfl (lv_at hl 2 rfl) ?_
  refine lv_iconst (v := 0) hx hb d_Bd_add_6 (by decide) ?_
  refine lv_aload_n hx hb d_Bd_add_7 rfl (lv_at hl 1 rfl) ?_
  refine va_get (D := (dC, dI)) (ci := 3) (v := .ref ro) (C := "BallotBoard$Board") (T := F_Bo) (N := 4) hx hb hts (fun w9 h9 => List.mem_cons_of_mem _ (i_Bo w9 h9)) hown hK hP 0 rfl rfl 1 (by decide) (hts _ (List.mem_cons_of_mem _ gk_61)) (fun _ h9 => h9) rfl d_Bd_add_8 ?_
  refine lv_iload_n hx hb d_Bd_add_11 rfl (lv_at hl 0 rfl) ?_
  refine va_aldA hx hb hK hP 1 2 rfl rfl (vp_in_nI (by omega) (by omega)) d_Bd_add_12 (b := rk) (by rw [nI_clamp (by omega)]; exact hrk) ?_
  refine lv_iconst (v := 0) hx hb d_Bd_add_13 (by decide) ?_
  refine lv_bipush (v := 8) hx hb d_Bd_add_14 (by decide) ?_
  refine va_copyl hx hb (hml.trans hl.1.symm) hown (hts _ (List.mem_cons_of_mem _ gk_586)) (hts _ (List.mem_cons_of_mem _ gk_523)) (hts _ (List.mem_cons_of_mem _ gk_522)) (hts _ (List.mem_cons_of_mem _ gk_16)) hK hP hD hS 6 3 0 0 rfl rfl rfl rfl rfl (by decide) (by decide) (by decide) (by decide) (by decide) (fun _ _ => rfl) (Nat.le_of_ble_eq_true rfl) (Nat.le_of_ble_eq_true rfl) d_Bd_add_16 (fun H locs hP hD hS => ?_)
  have hP : va_P (dC, dI) classes [(bd0, .inr (3, [.ref h0, .ref ro, .ref lo, .int (nI k)])), (ro, .inl (cR, 154, .inr (.inr (.inr (.inr rr))))), (lo, .inl (cR, 154, .inr (.inr (.inr (.inr lr))))), (rk, .inl (cJ, 8, .inr (.inl (va_cpy rw ru 0 0 8)))), (lp, .inl (cJ, 4, .inr (.inl lw))), (lk, .inl (cJ, 4, .inr (.inl lv))), (ra, .inl (cJ, 8, .inr (.inl rw))), (h0, .inr (2, [.ref aw, .ref ax, .ref ay, .int (nI L)])), (aw, .inl (cJ, 16, .inr (.inl w))), (ax, .inl (cI, 64, .inl sc)), (ay, .inl (cI, 8, .inl st))] H := hP
  have hD : va_D A [(bd0, .inr (3, [.ref h0, .ref ro, .ref lo, .int (nI k)])), (ro, .inl (cR, 154, .inr (.inr (.inr (.inr rr))))), (lo, .inl (cR, 154, .inr (.inr (.inr (.inr lr))))), (rk, .inl (cJ, 8, .inr (.inl (va_cpy rw ru 0 0 8)))), (lp, .inl (cJ, 4, .inr (.inl lw))), (lk, .inl (cJ, 4, .inr (.inl lv))), (ra, .inl (cJ, 8, .inr (.inl rw))), (h0, .inr (2, [.ref aw, .ref ax, .ref ay, .int (nI L)])), (aw, .inl (cJ, 16, .inr (.inl w))), (ax, .inl (cI, 64, .inl sc)), (ay, .inl (cI, 8, .inl st))] := hD
  have hP : va_P (dC, dI) classes [(bd0, .inr (3, [.ref h0, .ref ro, .ref lo, .int (nI k)])), (ro, .inl (cR, 154, .inr (.inr (.inr (.inr rr))))), (lo, .inl (cR, 154, .inr (.inr (.inr (.inr lr))))), (rk, .inl (cJ, 8, .inr (.inl rw))), (lp, .inl (cJ, 4, .inr (.inl lw))), (lk, .inl (cJ, 4, .inr (.inl lv))), (ra, .inl (cJ, 8, .inr (.inl rw))), (h0, .inr (2, [.ref aw, .ref ax, .ref ay, .int (nI L)])), (aw, .inl (cJ, 16, .inr (.inl w))), (ax, .inl (cI, 64, .inl sc)), (ay, .inl (cI, 8, .inl st))] H := hP.row 3 rfl cpy8
  have hD : va_D A [(bd0, .inr (3, [.ref h0, .ref ro, .ref lo, .int (nI k)])), (ro, .inl (cR, 154, .inr (.inr (.inr (.inr rr))))), (lo, .inl (cR, 154, .inr (.inr (.inr (.inr lr))))), (rk, .inl (cJ, 8, .inr (.inl rw))), (lp, .inl (cJ, 4, .inr (.inl lw))), (lk, .inl (cJ, 4, .inr (.inl lv))), (ra, .inl (cJ, 8, .inr (.inl rw))), (h0, .inr (2, [.ref aw, .ref ax, .ref ay, .int (nI L)])), (aw, .inl (cJ, 16, .inr (.inl w))), (ax, .inl (cI, 64, .inl sc)), (ay, .inl (cI, 8, .inl st))] := hD.set (p := 3) rfl
  refine lv_aload_n hx hb d_Bd_add_19 rfl (lv_at hl 1 rfl) ?_
  refine lv_iload_n hx hb d_Bd_add_20 rfl (lv_at hl 0 rfl) ?_
  have hPc := hP.sub (ws' := (bd_ws bd0 h0 ro lo k cR rr lr ++ (rw_ws rk cJ rw ++ (lk_ws lp cJ lw ++ (ha_ws h0 aw ax ay cJ cI w sc st L))))) [0, 1, 2, 3, 4, 7, 8, 9, 10] rfl
  have hDc := hD.sub (ws' := (bd_ws bd0 h0 ro lo k cR rr lr ++ (rw_ws rk cJ rw ++ (lk_ws lp cJ lw ++ (ha_ws h0 aw ax ay cJ cI w sc st L))))) [0, 1, 2, 3, 4, 7, 8, 9, 10] (by decide) rfl
  have hKc := hK.sub (tys' := [(cJ, .long), (cI, .int), (cR, .array .long)]) [0, 1, 2] rfl
  have hFc := va_free (wc := (bd_ws bd0 h0 ro lo k cR rr lr ++ (rw_ws rk cJ rw ++ (lk_ws lp cJ lw ++ (ha_ws h0 aw ax ay cJ cI w sc st L))))) hD hS hA [0, 1, 2, 3, 4, 7, 8, 9, 10] rfl
  have hZc0 : ha_Z rA sA (va_A (bd_ws bd0 h0 ro lo k cR rr lr ++ (rw_ws rk cJ rw ++ (lk_ws lp cJ lw ++ (ha_ws h0 aw ax ay cJ cI w sc st L)))) H.size) s H := (hZha.kept hS.2.1).narrow hFc
  refine va_callv (va_runV (As := [.int (nI k)]) (rest := []) ⟨hx, hb, hml, hown, hts⟩ (c_Bd_hashEntry_8 l dC dI cJ cI cR H.size bd0 h0 ro lo k rr lr aw ax ay w sc st L rA sA k rk rw K lp lw hk hrk hr0 hK4 hK2 hk0 hlp) (cwV 1 hts (gw_V gk_587 gk_589 gp_20 gk_3 gk_590) rfl rfl rfl (by decide +kernel) ⟨Nat.le_of_ble_eq_true rfl, Nat.le_of_ble_eq_true rfl⟩) ⟨fun a U g mk q => by obtain ⟨q0, q1, qP, qK, qD, qZ0⟩ := q; exact ⟨q0, q1, qP, va_K.moved (u := U) (U := U.calling g mk a) (Vm.Alike.refl U.vm) qK, qD, ha_Z.moved (u := U) (U := U.calling g mk a) (Vm.Alike.refl U.vm) qZ0⟩, va_recv hK hP (ci := 3) (q0 := 0) rfl rfl, fun U hU hW => ⟨rfl, by rw [hU], by rw [hU]; exact hPc, va_K.moved hW.alike hKc, hDc.weaken (fun _ _ _ _ => trivial), by rw [hU]; exact ha_Z.moved hW.alike hZc0⟩⟩ rfl rfl hl.1 rfl (lv_room (Nat.le_of_ble_eq_true rfl)) d_Bd_add_21 ⟨Nat.le_of_ble_eq_true rfl, Nat.le_of_ble_eq_true rfl⟩) hS (fun q _ h => hFc q h) hFc (fun u9 t9 H1 locs ht hvm hw hB hz1 hk1 hS => ?_)
  obtain ⟨gwk_1, gsk_1, gtk_1, glk_1⟩ := u9
  have hdg : dgo gtk_1 [lw 0, lw 1, lw 2, lw 3, rw 0, rw 1, rw 2, rw 3, rw 4, rw 5, rw 6, rw 7] := hw
  obtain ⟨hP1, hK1, hD1⟩ := hB
  rw [ht] at hP1
  obtain ⟨hP, hD⟩ := va_join (wr := [(lk, .inl (cJ, 4, .inr (.inl lv))), (ra, .inl (cJ, 8, .inr (.inl rw)))]) (w1 := [(bd0, .inr (3, [.ref h0, .ref ro, .ref lo, .int (nI k)])), (ro, .inl (cR, 154, .inr (.inr (.inr (.inr rr))))), (lo, .inl (cR, 154, .inr (.inr (.inr (.inr lr))))), (rk, .inl (cJ, 8, .inr (.inl rw))), (lp, .inl (cJ, 4, .inr (.inl lw))), (h0, .inr (2, [.ref aw, .ref ax, .ref ay, .int (nI glk_1)])), (aw, .inl (cJ, 16, .inr (.inl gwk_1))), (ax, .inl (cI, 64, .inl gsk_1)), (ay, .inl (cI, 8, .inl gtk_1))]) hP hD [0, 1, 2, 3, 4, 7, 8, 9, 10] [5, 6] rfl rfl (by decide) (by decide) hk1 hFc hP1 hD1
  have hP := hP.sub (ws' := [(bd0, .inr (3, [.ref h0, .ref ro, .ref lo, .int (nI k)])), (ro, .inl (cR, 154, .inr (.inr (.inr (.inr rr))))), (lo, .inl (cR, 154, .inr (.inr (.inr (.inr lr))))), (rk, .inl (cJ, 8, .inr (.inl rw))), (lp, .inl (cJ, 4, .inr (.inl lw))), (lk, .inl (cJ, 4, .inr (.inl lv))), (ra, .inl (cJ, 8, .inr (.inl rw))), (h0, .inr (2, [.ref aw, .ref ax, .ref ay, .int (nI glk_1)])), (aw, .inl (cJ, 16, .inr (.inl gwk_1))), (ax, .inl (cI, 64, .inl gsk_1)), (ay, .inl (cI, 8, .inl gtk_1))]) [2, 3, 4, 5, 6, 0, 1, 7, 8, 9, 10] rfl
  have hD := hD.sub (ws' := [(bd0, .inr (3, [.ref h0, .ref ro, .ref lo, .int (nI k)])), (ro, .inl (cR, 154, .inr (.inr (.inr (.inr rr))))), (lo, .inl (cR, 154, .inr (.inr (.inr (.inr lr))))), (rk, .inl (cJ, 8, .inr (.inl rw))), (lp, .inl (cJ, 4, .inr (.inl lw))), (lk, .inl (cJ, 4, .inr (.inl lv))), (ra, .inl (cJ, 8, .inr (.inl rw))), (h0, .inr (2, [.ref aw, .ref ax, .ref ay, .int (nI glk_1)])), (aw, .inl (cJ, 16, .inr (.inl gwk_1))), (ax, .inl (cI, 64, .inl gsk_1)), (ay, .inl (cI, 8, .inl gtk_1))]) [2, 3, 4, 5, 6, 0, 1, 7, 8, 9, 10] (by decide) rfl
  generalize H1 = H at hP hS ⊢
  refine lv_iconst (v := 0) hx hb d_Bd_add_24 (by decide) ?_
  refine lv_istore_n (lv' := [(3, .int 0), (2, .int (nI k)), (0, .ref bd0), (1, .ref ra)]) hx hb d_Bd_add_25 rfl hl (by decide) rfl (fun ls hl => ?_)
  refine lv_iload_n hx hb d_Bd_add_26 rfl (lv_at hl 0 rfl) ?_
  refine lv_iconst (v := 4) hx hb d_Bd_add_27 (by decide) ?_
  refine lv_icmp_ge (tgt := 53) hx hb d_Bd_add_28 (by decide) (fun c_3 => ?_) (fun c_3 => ?_)
  · -- taken
    exact absurd c_3 (by decide)
  · -- not taken
    refine lv_aload_n hx hb d_Bd_add_31 rfl (lv_at hl 2 rfl) ?_
    refine va_get (D := (dC, dI)) (ci := 3) (v := .ref lo) (C := "BallotBoard$Board") (T := F_Bo) (N := 4) hx hb hts (fun w9 h9 => List.mem_cons_of_mem _ (i_Bo w9 h9)) hown hK hP 0 rfl rfl 2 (by decide) (hts _ (List.mem_cons_of_mem _ gk_62)) (fun _ h9 => h9) rfl d_Bd_add_32 ?_
    refine lv_iload_n hx hb d_Bd_add_35 rfl (lv_at hl 1 rfl) ?_
    refine va_aldA hx hb hK hP 2 2 rfl rfl (vp_in_nI (by omega) (by omega)) d_Bd_add_36 (b := lk) (by rw [nI_clamp (by omega)]; exact hlk) ?_
    refine lv_iload_n hx hb d_Bd_add_37 rfl (lv_at hl 0 rfl) ?_
    refine lv_aload_n hx hb d_Bd_add_38 rfl (lv_at hl 2 rfl) ?_
    refine va_get (D := (dC, dI)) (ci := 3) (v := .ref h0) (C := "BallotBoard$Board") (T := F_Bo) (N := 4) hx hb hts (fun w9 h9 => List.mem_cons_of_mem _ (i_Bo w9 h9)) hown hK hP 0 rfl rfl 0 (by decide) (hts _ (List.mem_cons_of_mem _ gk_60)) (fun _ h9 => h9) rfl d_Bd_add_39 ?_
    refine lv_iload_n hx hb d_Bd_add_42 rfl (lv_at hl 0 rfl) ?_
    have hPc := hP.sub (ws' := (ha_ws h0 aw ax ay cJ cI gwk_1 gsk_1 gtk_1 glk_1)) [7, 8, 9, 10] rfl
    have hKc := hK.sub (tys' := [(cJ, .long), (cI, .int)]) [0, 1] rfl
    refine va_calll (va_runV (As := [.int 0]) (rest := [.int 0, .ref lk]) ⟨hx, hb, hml, hown, hts⟩ (c_Ha_word l H dC dI h0 aw ax ay cJ cI gwk_1 gsk_1 gtk_1 glk_1 0 hPc (by decide)) (cwV 1 hts (gw_V gk_598 gk_536 gk_537 gk_2 gk_538) rfl rfl rfl (by decide +kernel) ⟨Nat.le_of_ble_eq_true rfl, Nat.le_of_ble_eq_true rfl⟩) ⟨fun a U g mk q => ⟨q.1, q.2.1, va_K.moved (u := U) (U := U.calling g mk a) (Vm.Alike.refl U.vm) q.2.2⟩, va_recv hK hP (ci := 2) (q0 := 7) rfl rfl, fun U hU hW => ⟨rfl, hU, va_K.moved hW.alike hKc⟩⟩ rfl rfl hl.1 rfl (lv_room (Nat.le_of_ble_eq_true rfl)) d_Bd_add_43 ⟨Nat.le_of_ble_eq_true rfl, Nat.le_of_ble_eq_true rfl⟩) hS (fun q _ h => h.elim) (fun q h => h.elim) (fun r43 u9 t9 H1 locs ht hvm hw hB hz1 hk1 hS => ?_)
    obtain rfl : H = H1 := hB.symm.trans ht
    have hw : r43 = wd (gtk_1 0) (gtk_1 1) := hw
    subst hw
    rw [show (wd (gtk_1 0) (gtk_1 1) : Int64) = (lkw [lw 0, lw 1, lw 2, lw 3, rw 0, rw 1, rw 2, rw 3, rw 4, rw 5, rw 6, rw 7] 0) from lkw_0 hdg]
    refine va_last hx hb hK hP hD hS 5 0 rfl rfl (vp_lit rfl) d_Bd_add_46 (fun H locs hP hD hS => ?_)
    have hfe : vp_updL lv (0 : Int32).toNatClampNeg (lkw [lw 0, lw 1, lw 2, lw 3, rw 0, rw 1, rw 2, rw 3, rw 4, rw 5, rw 6, rw 7] 0) = vp_updL lv 0 (lkw [lw 0, lw 1, lw 2, lw 3, rw 0, rw 1, rw 2, rw 3, rw 4, rw 5, rw 6, rw 7] 0) := rfl
    have hP : va_P (dC, dI) classes [(bd0, .inr (3, [.ref h0, .ref ro, .ref lo, .int (nI k)])), (ro, .inl (cR, 154, .inr (.inr (.inr (.inr rr))))), (lo, .inl (cR, 154, .inr (.inr (.inr (.inr lr))))), (rk, .inl (cJ, 8, .inr (.inl rw))), (lp, .inl (cJ, 4, .inr (.inl lw))), (lk, .inl (cJ, 4, .inr (.inl (vp_updL lv (0 : Int32).toNatClampNeg (lkw [lw 0, lw 1, lw 2, lw 3, rw 0, rw 1, rw 2, rw 3, rw 4, rw 5, rw 6, rw 7] 0))))), (ra, .inl (cJ, 8, .inr (.inl rw))), (h0, .inr (2, [.ref aw, .ref ax, .ref ay, .int (nI glk_1)])), (aw, .inl (cJ, 16, .inr (.inl gwk_1))), (ax, .inl (cI, 64, .inl gsk_1)), (ay, .inl (cI, 8, .inl gtk_1))] H := hP
    have hD : va_D A [(bd0, .inr (3, [.ref h0, .ref ro, .ref lo, .int (nI k)])), (ro, .inl (cR, 154, .inr (.inr (.inr (.inr rr))))), (lo, .inl (cR, 154, .inr (.inr (.inr (.inr lr))))), (rk, .inl (cJ, 8, .inr (.inl rw))), (lp, .inl (cJ, 4, .inr (.inl lw))), (lk, .inl (cJ, 4, .inr (.inl (vp_updL lv (0 : Int32).toNatClampNeg (lkw [lw 0, lw 1, lw 2, lw 3, rw 0, rw 1, rw 2, rw 3, rw 4, rw 5, rw 6, rw 7] 0))))), (ra, .inl (cJ, 8, .inr (.inl rw))), (h0, .inr (2, [.ref aw, .ref ax, .ref ay, .int (nI glk_1)])), (aw, .inl (cJ, 16, .inr (.inl gwk_1))), (ax, .inl (cI, 64, .inl gsk_1)), (ay, .inl (cI, 8, .inl gtk_1))] := hD
    rw [hfe] at hP hD
    obtain ⟨i_4, ei_4⟩ : ∃ y : Int32, y = 0 + 1 := ⟨_, rfl⟩
    refine lv_iinc (v := i_4) (lv' := [(3, .int i_4), (2, .int (nI k)), (0, .ref bd0), (1, .ref ra)]) hx hb d_Bd_add_47 hl (k := 0) rfl (by rw [ei_4]; rfl) (by decide) rfl (fun ls hl => ?_)
    obtain rfl : i_4 = 1 := by rw [ei_4]; exact by decide
    refine lv_goto (tgt := 26) hx hb d_Bd_add_50 (by decide) ?_
    refine lv_iload_n hx hb d_Bd_add_26 rfl (lv_at hl 0 rfl) ?_
    refine lv_iconst (v := 4) hx hb d_Bd_add_27 (by decide) ?_
    refine lv_icmp_ge (tgt := 53) hx hb d_Bd_add_28 (by decide) (fun c_5 => ?_) (fun c_5 => ?_)
    · -- taken
      exact absurd c_5 (by decide)
    · -- not taken
      refine lv_aload_n hx hb d_Bd_add_31 rfl (lv_at hl 2 rfl) ?_
      refine va_get (D := (dC, dI)) (ci := 3) (v := .ref lo) (C := "BallotBoard$Board") (T := F_Bo) (N := 4) hx hb hts (fun w9 h9 => List.mem_cons_of_mem _ (i_Bo w9 h9)) hown hK hP 0 rfl rfl 2 (by decide) (hts _ (List.mem_cons_of_mem _ gk_62)) (fun _ h9 => h9) rfl d_Bd_add_32 ?_
      refine lv_iload_n hx hb d_Bd_add_35 rfl (lv_at hl 1 rfl) ?_
      refine va_aldA hx hb hK hP 2 2 rfl rfl (vp_in_nI (by omega) (by omega)) d_Bd_add_36 (b := lk) (by rw [nI_clamp (by omega)]; exact hlk) ?_
      refine lv_iload_n hx hb d_Bd_add_37 rfl (lv_at hl 0 rfl) ?_
      refine lv_aload_n hx hb d_Bd_add_38 rfl (lv_at hl 2 rfl) ?_
      refine va_get (D := (dC, dI)) (ci := 3) (v := .ref h0) (C := "BallotBoard$Board") (T := F_Bo) (N := 4) hx hb hts (fun w9 h9 => List.mem_cons_of_mem _ (i_Bo w9 h9)) hown hK hP 0 rfl rfl 0 (by decide) (hts _ (List.mem_cons_of_mem _ gk_60)) (fun _ h9 => h9) rfl d_Bd_add_39 ?_
      refine lv_iload_n hx hb d_Bd_add_42 rfl (lv_at hl 0 rfl) ?_
      have hPc := hP.sub (ws' := (ha_ws h0 aw ax ay cJ cI gwk_1 gsk_1 gtk_1 glk_1)) [7, 8, 9, 10] rfl
      have hKc := hK.sub (tys' := [(cJ, .long), (cI, .int)]) [0, 1] rfl
      refine va_calll (va_runV (As := [.int 1]) (rest := [.int 1, .ref lk]) ⟨hx, hb, hml, hown, hts⟩ (c_Ha_word l H dC dI h0 aw ax ay cJ cI gwk_1 gsk_1 gtk_1 glk_1 1 hPc (by decide)) (cwV 1 hts (gw_V gk_598 gk_536 gk_537 gk_2 gk_538) rfl rfl rfl (by decide +kernel) ⟨Nat.le_of_ble_eq_true rfl, Nat.le_of_ble_eq_true rfl⟩) ⟨fun a U g mk q => ⟨q.1, q.2.1, va_K.moved (u := U) (U := U.calling g mk a) (Vm.Alike.refl U.vm) q.2.2⟩, va_recv hK hP (ci := 2) (q0 := 7) rfl rfl, fun U hU hW => ⟨rfl, hU, va_K.moved hW.alike hKc⟩⟩ rfl rfl hl.1 rfl (lv_room (Nat.le_of_ble_eq_true rfl)) d_Bd_add_43 ⟨Nat.le_of_ble_eq_true rfl, Nat.le_of_ble_eq_true rfl⟩) hS (fun q _ h => h.elim) (fun q h => h.elim) (fun r43 u9 t9 H1 locs ht hvm hw hB hz1 hk1 hS => ?_)
      obtain rfl : H = H1 := hB.symm.trans ht
      have hw : r43 = wd (gtk_1 2) (gtk_1 3) := hw
      subst hw
      rw [show (wd (gtk_1 2) (gtk_1 3) : Int64) = (lkw [lw 0, lw 1, lw 2, lw 3, rw 0, rw 1, rw 2, rw 3, rw 4, rw 5, rw 6, rw 7] 1) from lkw_1 hdg]
      refine va_last hx hb hK hP hD hS 5 0 rfl rfl (vp_lit rfl) d_Bd_add_46 (fun H locs hP hD hS => ?_)
      have hfe : vp_updL (vp_updL lv 0 (lkw [lw 0, lw 1, lw 2, lw 3, rw 0, rw 1, rw 2, rw 3, rw 4, rw 5, rw 6, rw 7] 0)) (1 : Int32).toNatClampNeg (lkw [lw 0, lw 1, lw 2, lw 3, rw 0, rw 1, rw 2, rw 3, rw 4, rw 5, rw 6, rw 7] 1) = vp_updL (vp_updL lv 0 (lkw [lw 0, lw 1, lw 2, lw 3, rw 0, rw 1, rw 2, rw 3, rw 4, rw 5, rw 6, rw 7] 0)) 1 (lkw [lw 0, lw 1, lw 2, lw 3, rw 0, rw 1, rw 2, rw 3, rw 4, rw 5, rw 6, rw 7] 1) := rfl
      have hP : va_P (dC, dI) classes [(bd0, .inr (3, [.ref h0, .ref ro, .ref lo, .int (nI k)])), (ro, .inl (cR, 154, .inr (.inr (.inr (.inr rr))))), (lo, .inl (cR, 154, .inr (.inr (.inr (.inr lr))))), (rk, .inl (cJ, 8, .inr (.inl rw))), (lp, .inl (cJ, 4, .inr (.inl lw))), (lk, .inl (cJ, 4, .inr (.inl (vp_updL (vp_updL lv 0 (lkw [lw 0, lw 1, lw 2, lw 3, rw 0, rw 1, rw 2, rw 3, rw 4, rw 5, rw 6, rw 7] 0)) (1 : Int32).toNatClampNeg (lkw [lw 0, lw 1, lw 2, lw 3, rw 0, rw 1, rw 2, rw 3, rw 4, rw 5, rw 6, rw 7] 1))))), (ra, .inl (cJ, 8, .inr (.inl rw))), (h0, .inr (2, [.ref aw, .ref ax, .ref ay, .int (nI glk_1)])), (aw, .inl (cJ, 16, .inr (.inl gwk_1))), (ax, .inl (cI, 64, .inl gsk_1)), (ay, .inl (cI, 8, .inl gtk_1))] H := hP
      have hD : va_D A [(bd0, .inr (3, [.ref h0, .ref ro, .ref lo, .int (nI k)])), (ro, .inl (cR, 154, .inr (.inr (.inr (.inr rr))))), (lo, .inl (cR, 154, .inr (.inr (.inr (.inr lr))))), (rk, .inl (cJ, 8, .inr (.inl rw))), (lp, .inl (cJ, 4, .inr (.inl lw))), (lk, .inl (cJ, 4, .inr (.inl (vp_updL (vp_updL lv 0 (lkw [lw 0, lw 1, lw 2, lw 3, rw 0, rw 1, rw 2, rw 3, rw 4, rw 5, rw 6, rw 7] 0)) (1 : Int32).toNatClampNeg (lkw [lw 0, lw 1, lw 2, lw 3, rw 0, rw 1, rw 2, rw 3, rw 4, rw 5, rw 6, rw 7] 1))))), (ra, .inl (cJ, 8, .inr (.inl rw))), (h0, .inr (2, [.ref aw, .ref ax, .ref ay, .int (nI glk_1)])), (aw, .inl (cJ, 16, .inr (.inl gwk_1))), (ax, .inl (cI, 64, .inl gsk_1)), (ay, .inl (cI, 8, .inl gtk_1))] := hD
      rw [hfe] at hP hD
      obtain ⟨i_6, ei_6⟩ : ∃ y : Int32, y = 1 + 1 := ⟨_, rfl⟩
      refine lv_iinc (v := i_6) (lv' := [(3, .int i_6), (2, .int (nI k)), (0, .ref bd0), (1, .ref ra)]) hx hb d_Bd_add_47 hl (k := 0) rfl (by rw [ei_6]; rfl) (by decide) rfl (fun ls hl => ?_)
      obtain rfl : i_6 = 2 := by rw [ei_6]; exact by decide
      refine lv_goto (tgt := 26) hx hb d_Bd_add_50 (by decide) ?_
      refine lv_iload_n hx hb d_Bd_add_26 rfl (lv_at hl 0 rfl) ?_
      refine lv_iconst (v := 4) hx hb d_Bd_add_27 (by decide) ?_
      refine lv_icmp_ge (tgt := 53) hx hb d_Bd_add_28 (by decide) (fun c_7 => ?_) (fun c_7 => ?_)
      · -- taken
        exact absurd c_7 (by decide)
      · -- not taken
        refine lv_aload_n hx hb d_Bd_add_31 rfl (lv_at hl 2 rfl) ?_
        refine va_get (D := (dC, dI)) (ci := 3) (v := .ref lo) (C := "BallotBoard$Board") (T := F_Bo) (N := 4) hx hb hts (fun w9 h9 => List.mem_cons_of_mem _ (i_Bo w9 h9)) hown hK hP 0 rfl rfl 2 (by decide) (hts _ (List.mem_cons_of_mem _ gk_62)) (fun _ h9 => h9) rfl d_Bd_add_32 ?_
        refine lv_iload_n hx hb d_Bd_add_35 rfl (lv_at hl 1 rfl) ?_
        refine va_aldA hx hb hK hP 2 2 rfl rfl (vp_in_nI (by omega) (by omega)) d_Bd_add_36 (b := lk) (by rw [nI_clamp (by omega)]; exact hlk) ?_
        refine lv_iload_n hx hb d_Bd_add_37 rfl (lv_at hl 0 rfl) ?_
        refine lv_aload_n hx hb d_Bd_add_38 rfl (lv_at hl 2 rfl) ?_
        refine va_get (D := (dC, dI)) (ci := 3) (v := .ref h0) (C := "BallotBoard$Board") (T := F_Bo) (N := 4) hx hb hts (fun w9 h9 => List.mem_cons_of_mem _ (i_Bo w9 h9)) hown hK hP 0 rfl rfl 0 (by decide) (hts _ (List.mem_cons_of_mem _ gk_60)) (fun _ h9 => h9) rfl d_Bd_add_39 ?_
        refine lv_iload_n hx hb d_Bd_add_42 rfl (lv_at hl 0 rfl) ?_
        have hPc := hP.sub (ws' := (ha_ws h0 aw ax ay cJ cI gwk_1 gsk_1 gtk_1 glk_1)) [7, 8, 9, 10] rfl
        have hKc := hK.sub (tys' := [(cJ, .long), (cI, .int)]) [0, 1] rfl
        refine va_calll (va_runV (As := [.int 2]) (rest := [.int 2, .ref lk]) ⟨hx, hb, hml, hown, hts⟩ (c_Ha_word l H dC dI h0 aw ax ay cJ cI gwk_1 gsk_1 gtk_1 glk_1 2 hPc (by decide)) (cwV 1 hts (gw_V gk_598 gk_536 gk_537 gk_2 gk_538) rfl rfl rfl (by decide +kernel) ⟨Nat.le_of_ble_eq_true rfl, Nat.le_of_ble_eq_true rfl⟩) ⟨fun a U g mk q => ⟨q.1, q.2.1, va_K.moved (u := U) (U := U.calling g mk a) (Vm.Alike.refl U.vm) q.2.2⟩, va_recv hK hP (ci := 2) (q0 := 7) rfl rfl, fun U hU hW => ⟨rfl, hU, va_K.moved hW.alike hKc⟩⟩ rfl rfl hl.1 rfl (lv_room (Nat.le_of_ble_eq_true rfl)) d_Bd_add_43 ⟨Nat.le_of_ble_eq_true rfl, Nat.le_of_ble_eq_true rfl⟩) hS (fun q _ h => h.elim) (fun q h => h.elim) (fun r43 u9 t9 H1 locs ht hvm hw hB hz1 hk1 hS => ?_)
        obtain rfl : H = H1 := hB.symm.trans ht
        have hw : r43 = wd (gtk_1 4) (gtk_1 5) := hw
        subst hw
        rw [show (wd (gtk_1 4) (gtk_1 5) : Int64) = (lkw [lw 0, lw 1, lw 2, lw 3, rw 0, rw 1, rw 2, rw 3, rw 4, rw 5, rw 6, rw 7] 2) from lkw_2 hdg]
        refine va_last hx hb hK hP hD hS 5 0 rfl rfl (vp_lit rfl) d_Bd_add_46 (fun H locs hP hD hS => ?_)
        have hfe : vp_updL (vp_updL (vp_updL lv 0 (lkw [lw 0, lw 1, lw 2, lw 3, rw 0, rw 1, rw 2, rw 3, rw 4, rw 5, rw 6, rw 7] 0)) 1 (lkw [lw 0, lw 1, lw 2, lw 3, rw 0, rw 1, rw 2, rw 3, rw 4, rw 5, rw 6, rw 7] 1)) (2 : Int32).toNatClampNeg (lkw [lw 0, lw 1, lw 2, lw 3, rw 0, rw 1, rw 2, rw 3, rw 4, rw 5, rw 6, rw 7] 2) = vp_updL (vp_updL (vp_updL lv 0 (lkw [lw 0, lw 1, lw 2, lw 3, rw 0, rw 1, rw 2, rw 3, rw 4, rw 5, rw 6, rw 7] 0)) 1 (lkw [lw 0, lw 1, lw 2, lw 3, rw 0, rw 1, rw 2, rw 3, rw 4, rw 5, rw 6, rw 7] 1)) 2 (lkw [lw 0, lw 1, lw 2, lw 3, rw 0, rw 1, rw 2, rw 3, rw 4, rw 5, rw 6, rw 7] 2) := rfl
        have hP : va_P (dC, dI) classes [(bd0, .inr (3, [.ref h0, .ref ro, .ref lo, .int (nI k)])), (ro, .inl (cR, 154, .inr (.inr (.inr (.inr rr))))), (lo, .inl (cR, 154, .inr (.inr (.inr (.inr lr))))), (rk, .inl (cJ, 8, .inr (.inl rw))), (lp, .inl (cJ, 4, .inr (.inl lw))), (lk, .inl (cJ, 4, .inr (.inl (vp_updL (vp_updL (vp_updL lv 0 (lkw [lw 0, lw 1, lw 2, lw 3, rw 0, rw 1, rw 2, rw 3, rw 4, rw 5, rw 6, rw 7] 0)) 1 (lkw [lw 0, lw 1, lw 2, lw 3, rw 0, rw 1, rw 2, rw 3, rw 4, rw 5, rw 6, rw 7] 1)) (2 : Int32).toNatClampNeg (lkw [lw 0, lw 1, lw 2, lw 3, rw 0, rw 1, rw 2, rw 3, rw 4, rw 5, rw 6, rw 7] 2))))), (ra, .inl (cJ, 8, .inr (.inl rw))), (h0, .inr (2, [.ref aw, .ref ax, .ref ay, .int (nI glk_1)])), (aw, .inl (cJ, 16, .inr (.inl gwk_1))), (ax, .inl (cI, 64, .inl gsk_1)), (ay, .inl (cI, 8, .inl gtk_1))] H := hP
        have hD : va_D A [(bd0, .inr (3, [.ref h0, .ref ro, .ref lo, .int (nI k)])), (ro, .inl (cR, 154, .inr (.inr (.inr (.inr rr))))), (lo, .inl (cR, 154, .inr (.inr (.inr (.inr lr))))), (rk, .inl (cJ, 8, .inr (.inl rw))), (lp, .inl (cJ, 4, .inr (.inl lw))), (lk, .inl (cJ, 4, .inr (.inl (vp_updL (vp_updL (vp_updL lv 0 (lkw [lw 0, lw 1, lw 2, lw 3, rw 0, rw 1, rw 2, rw 3, rw 4, rw 5, rw 6, rw 7] 0)) 1 (lkw [lw 0, lw 1, lw 2, lw 3, rw 0, rw 1, rw 2, rw 3, rw 4, rw 5, rw 6, rw 7] 1)) (2 : Int32).toNatClampNeg (lkw [lw 0, lw 1, lw 2, lw 3, rw 0, rw 1, rw 2, rw 3, rw 4, rw 5, rw 6, rw 7] 2))))), (ra, .inl (cJ, 8, .inr (.inl rw))), (h0, .inr (2, [.ref aw, .ref ax, .ref ay, .int (nI glk_1)])), (aw, .inl (cJ, 16, .inr (.inl gwk_1))), (ax, .inl (cI, 64, .inl gsk_1)), (ay, .inl (cI, 8, .inl gtk_1))] := hD
        rw [hfe] at hP hD
        obtain ⟨i_8, ei_8⟩ : ∃ y : Int32, y = 2 + 1 := ⟨_, rfl⟩
        refine lv_iinc (v := i_8) (lv' := [(3, .int i_8), (2, .int (nI k)), (0, .ref bd0), (1, .ref ra)]) hx hb d_Bd_add_47 hl (k := 0) rfl (by rw [ei_8]; rfl) (by decide) rfl (fun ls hl => ?_)
        obtain rfl : i_8 = 3 := by rw [ei_8]; exact by decide
        refine lv_goto (tgt := 26) hx hb d_Bd_add_50 (by decide) ?_
        refine lv_iload_n hx hb d_Bd_add_26 rfl (lv_at hl 0 rfl) ?_
        refine lv_iconst (v := 4) hx hb d_Bd_add_27 (by decide) ?_
        refine lv_icmp_ge (tgt := 53) hx hb d_Bd_add_28 (by decide) (fun c_9 => ?_) (fun c_9 => ?_)
        · -- taken
          exact absurd c_9 (by decide)
        · -- not taken
          refine lv_aload_n hx hb d_Bd_add_31 rfl (lv_at hl 2 rfl) ?_
          refine va_get (D := (dC, dI)) (ci := 3) (v := .ref lo) (C := "BallotBoard$Board") (T := F_Bo) (N := 4) hx hb hts (fun w9 h9 => List.mem_cons_of_mem _ (i_Bo w9 h9)) hown hK hP 0 rfl rfl 2 (by decide) (hts _ (List.mem_cons_of_mem _ gk_62)) (fun _ h9 => h9) rfl d_Bd_add_32 ?_
          refine lv_iload_n hx hb d_Bd_add_35 rfl (lv_at hl 1 rfl) ?_
          refine va_aldA hx hb hK hP 2 2 rfl rfl (vp_in_nI (by omega) (by omega)) d_Bd_add_36 (b := lk) (by rw [nI_clamp (by omega)]; exact hlk) ?_
          refine lv_iload_n hx hb d_Bd_add_37 rfl (lv_at hl 0 rfl) ?_
          refine lv_aload_n hx hb d_Bd_add_38 rfl (lv_at hl 2 rfl) ?_
          refine va_get (D := (dC, dI)) (ci := 3) (v := .ref h0) (C := "BallotBoard$Board") (T := F_Bo) (N := 4) hx hb hts (fun w9 h9 => List.mem_cons_of_mem _ (i_Bo w9 h9)) hown hK hP 0 rfl rfl 0 (by decide) (hts _ (List.mem_cons_of_mem _ gk_60)) (fun _ h9 => h9) rfl d_Bd_add_39 ?_
          refine lv_iload_n hx hb d_Bd_add_42 rfl (lv_at hl 0 rfl) ?_
          have hPc := hP.sub (ws' := (ha_ws h0 aw ax ay cJ cI gwk_1 gsk_1 gtk_1 glk_1)) [7, 8, 9, 10] rfl
          have hKc := hK.sub (tys' := [(cJ, .long), (cI, .int)]) [0, 1] rfl
          refine va_calll (va_runV (As := [.int 3]) (rest := [.int 3, .ref lk]) ⟨hx, hb, hml, hown, hts⟩ (c_Ha_word l H dC dI h0 aw ax ay cJ cI gwk_1 gsk_1 gtk_1 glk_1 3 hPc (by decide)) (cwV 1 hts (gw_V gk_598 gk_536 gk_537 gk_2 gk_538) rfl rfl rfl (by decide +kernel) ⟨Nat.le_of_ble_eq_true rfl, Nat.le_of_ble_eq_true rfl⟩) ⟨fun a U g mk q => ⟨q.1, q.2.1, va_K.moved (u := U) (U := U.calling g mk a) (Vm.Alike.refl U.vm) q.2.2⟩, va_recv hK hP (ci := 2) (q0 := 7) rfl rfl, fun U hU hW => ⟨rfl, hU, va_K.moved hW.alike hKc⟩⟩ rfl rfl hl.1 rfl (lv_room (Nat.le_of_ble_eq_true rfl)) d_Bd_add_43 ⟨Nat.le_of_ble_eq_true rfl, Nat.le_of_ble_eq_true rfl⟩) hS (fun q _ h => h.elim) (fun q h => h.elim) (fun r43 u9 t9 H1 locs ht hvm hw hB hz1 hk1 hS => ?_)
          obtain rfl : H = H1 := hB.symm.trans ht
          have hw : r43 = wd (gtk_1 6) (gtk_1 7) := hw
          subst hw
          rw [show (wd (gtk_1 6) (gtk_1 7) : Int64) = (lkw [lw 0, lw 1, lw 2, lw 3, rw 0, rw 1, rw 2, rw 3, rw 4, rw 5, rw 6, rw 7] 3) from lkw_3 hdg]
          refine va_last hx hb hK hP hD hS 5 0 rfl rfl (vp_lit rfl) d_Bd_add_46 (fun H locs hP hD hS => ?_)
          have hfe : vp_updL (vp_updL (vp_updL (vp_updL lv 0 (lkw [lw 0, lw 1, lw 2, lw 3, rw 0, rw 1, rw 2, rw 3, rw 4, rw 5, rw 6, rw 7] 0)) 1 (lkw [lw 0, lw 1, lw 2, lw 3, rw 0, rw 1, rw 2, rw 3, rw 4, rw 5, rw 6, rw 7] 1)) 2 (lkw [lw 0, lw 1, lw 2, lw 3, rw 0, rw 1, rw 2, rw 3, rw 4, rw 5, rw 6, rw 7] 2)) (3 : Int32).toNatClampNeg (lkw [lw 0, lw 1, lw 2, lw 3, rw 0, rw 1, rw 2, rw 3, rw 4, rw 5, rw 6, rw 7] 3) = vp_updL (vp_updL (vp_updL (vp_updL lv 0 (lkw [lw 0, lw 1, lw 2, lw 3, rw 0, rw 1, rw 2, rw 3, rw 4, rw 5, rw 6, rw 7] 0)) 1 (lkw [lw 0, lw 1, lw 2, lw 3, rw 0, rw 1, rw 2, rw 3, rw 4, rw 5, rw 6, rw 7] 1)) 2 (lkw [lw 0, lw 1, lw 2, lw 3, rw 0, rw 1, rw 2, rw 3, rw 4, rw 5, rw 6, rw 7] 2)) 3 (lkw [lw 0, lw 1, lw 2, lw 3, rw 0, rw 1, rw 2, rw 3, rw 4, rw 5, rw 6, rw 7] 3) := rfl
          have hP : va_P (dC, dI) classes [(bd0, .inr (3, [.ref h0, .ref ro, .ref lo, .int (nI k)])), (ro, .inl (cR, 154, .inr (.inr (.inr (.inr rr))))), (lo, .inl (cR, 154, .inr (.inr (.inr (.inr lr))))), (rk, .inl (cJ, 8, .inr (.inl rw))), (lp, .inl (cJ, 4, .inr (.inl lw))), (lk, .inl (cJ, 4, .inr (.inl (vp_updL (vp_updL (vp_updL (vp_updL lv 0 (lkw [lw 0, lw 1, lw 2, lw 3, rw 0, rw 1, rw 2, rw 3, rw 4, rw 5, rw 6, rw 7] 0)) 1 (lkw [lw 0, lw 1, lw 2, lw 3, rw 0, rw 1, rw 2, rw 3, rw 4, rw 5, rw 6, rw 7] 1)) 2 (lkw [lw 0, lw 1, lw 2, lw 3, rw 0, rw 1, rw 2, rw 3, rw 4, rw 5, rw 6, rw 7] 2)) (3 : Int32).toNatClampNeg (lkw [lw 0, lw 1, lw 2, lw 3, rw 0, rw 1, rw 2, rw 3, rw 4, rw 5, rw 6, rw 7] 3))))), (ra, .inl (cJ, 8, .inr (.inl rw))), (h0, .inr (2, [.ref aw, .ref ax, .ref ay, .int (nI glk_1)])), (aw, .inl (cJ, 16, .inr (.inl gwk_1))), (ax, .inl (cI, 64, .inl gsk_1)), (ay, .inl (cI, 8, .inl gtk_1))] H := hP
          have hD : va_D A [(bd0, .inr (3, [.ref h0, .ref ro, .ref lo, .int (nI k)])), (ro, .inl (cR, 154, .inr (.inr (.inr (.inr rr))))), (lo, .inl (cR, 154, .inr (.inr (.inr (.inr lr))))), (rk, .inl (cJ, 8, .inr (.inl rw))), (lp, .inl (cJ, 4, .inr (.inl lw))), (lk, .inl (cJ, 4, .inr (.inl (vp_updL (vp_updL (vp_updL (vp_updL lv 0 (lkw [lw 0, lw 1, lw 2, lw 3, rw 0, rw 1, rw 2, rw 3, rw 4, rw 5, rw 6, rw 7] 0)) 1 (lkw [lw 0, lw 1, lw 2, lw 3, rw 0, rw 1, rw 2, rw 3, rw 4, rw 5, rw 6, rw 7] 1)) 2 (lkw [lw 0, lw 1, lw 2, lw 3, rw 0, rw 1, rw 2, rw 3, rw 4, rw 5, rw 6, rw 7] 2)) (3 : Int32).toNatClampNeg (lkw [lw 0, lw 1, lw 2, lw 3, rw 0, rw 1, rw 2, rw 3, rw 4, rw 5, rw 6, rw 7] 3))))), (ra, .inl (cJ, 8, .inr (.inl rw))), (h0, .inr (2, [.ref aw, .ref ax, .ref ay, .int (nI glk_1)])), (aw, .inl (cJ, 16, .inr (.inl gwk_1))), (ax, .inl (cI, 64, .inl gsk_1)), (ay, .inl (cI, 8, .inl gtk_1))] := hD
          rw [hfe] at hP hD
          obtain ⟨i_10, ei_10⟩ : ∃ y : Int32, y = 3 + 1 := ⟨_, rfl⟩
          refine lv_iinc (v := i_10) (lv' := [(3, .int i_10), (2, .int (nI k)), (0, .ref bd0), (1, .ref ra)]) hx hb d_Bd_add_47 hl (k := 0) rfl (by rw [ei_10]; rfl) (by decide) rfl (fun ls hl => ?_)
          obtain rfl : i_10 = 4 := by rw [ei_10]; exact by decide
          refine lv_goto (tgt := 26) hx hb d_Bd_add_50 (by decide) ?_
          refine lv_iload_n hx hb d_Bd_add_26 rfl (lv_at hl 0 rfl) ?_
          refine lv_iconst (v := 4) hx hb d_Bd_add_27 (by decide) ?_
          refine lv_icmp_ge (tgt := 53) hx hb d_Bd_add_28 (by decide) (fun c_11 => ?_) (fun c_11 => ?_)
          · -- taken
            have hP : va_P (dC, dI) classes [(bd0, .inr (3, [.ref h0, .ref ro, .ref lo, .int (nI k)])), (ro, .inl (cR, 154, .inr (.inr (.inr (.inr rr))))), (lo, .inl (cR, 154, .inr (.inr (.inr (.inr lr))))), (rk, .inl (cJ, 8, .inr (.inl rw))), (lp, .inl (cJ, 4, .inr (.inl lw))), (lk, .inl (cJ, 4, .inr (.inl (lkw [lw 0, lw 1, lw 2, lw 3, rw 0, rw 1, rw 2, rw 3, rw 4, rw 5, rw 6, rw 7])))), (ra, .inl (cJ, 8, .inr (.inl rw))), (h0, .inr (2, [.ref aw, .ref ax, .ref ay, .int (nI glk_1)])), (aw, .inl (cJ, 16, .inr (.inl gwk_1))), (ax, .inl (cI, 64, .inl gsk_1)), (ay, .inl (cI, 8, .inl gtk_1))] H := hP.row 5 rfl lk_4
            have hD : va_D A [(bd0, .inr (3, [.ref h0, .ref ro, .ref lo, .int (nI k)])), (ro, .inl (cR, 154, .inr (.inr (.inr (.inr rr))))), (lo, .inl (cR, 154, .inr (.inr (.inr (.inr lr))))), (rk, .inl (cJ, 8, .inr (.inl rw))), (lp, .inl (cJ, 4, .inr (.inl lw))), (lk, .inl (cJ, 4, .inr (.inl (lkw [lw 0, lw 1, lw 2, lw 3, rw 0, rw 1, rw 2, rw 3, rw 4, rw 5, rw 6, rw 7])))), (ra, .inl (cJ, 8, .inr (.inl rw))), (h0, .inr (2, [.ref aw, .ref ax, .ref ay, .int (nI glk_1)])), (aw, .inl (cJ, 16, .inr (.inl gwk_1))), (ax, .inl (cI, 64, .inl gsk_1)), (ay, .inl (cI, 8, .inl gtk_1))] := hD.set (p := 5) rfl
            refine lv_aload_n hx hb d_Bd_add_53 rfl (lv_at hl 2 rfl) ?_
            refine lv_dup hx hb d_Bd_add_54 rfl ?_
            refine va_get (D := (dC, dI)) (ci := 3) (v := .int (nI k)) (C := "BallotBoard$Board") (T := F_Bo) (N := 4) hx hb hts (fun w9 h9 => List.mem_cons_of_mem _ (i_Bo w9 h9)) hown hK hP 0 rfl rfl 3 (by decide) (hts _ (List.mem_cons_of_mem _ gk_63)) (fun _ h9 => h9) rfl d_Bd_add_55 ?_
            refine lv_iconst (v := 1) hx hb d_Bd_add_58 (by decide) ?_
            refine lv_iadd hx hb d_Bd_add_59 ?_
            rw [show ((nI k) + 1 : Int32) = (nI (k + 1)) from nI_1 k]
            refine va_put (D := (dC, dI)) (ci := 3) (v := .int (nI (k + 1))) (ty := .int) (C := "BallotBoard$Board") (T := F_Bo) (N := 4) hx hb hts (fun w9 h9 => List.mem_cons_of_mem _ (i_Bo w9 h9)) t_Bo t_Bo_ok n_Bo hown hK hP hD hS 0 rfl rfl 3 (by decide) (hts _ (List.mem_cons_of_mem _ gk_63)) (fun _ h9 => h9) rfl (by decide +kernel) rfl rfl (Nat.le_of_ble_eq_true rfl) d_Bd_add_60 (fun H locs hP hD hS => ?_)
            have hP : va_P (dC, dI) classes [(bd0, .inr (3, [.ref h0, .ref ro, .ref lo, .int (nI (k + 1))])), (ro, .inl (cR, 154, .inr (.inr (.inr (.inr rr))))), (lo, .inl (cR, 154, .inr (.inr (.inr (.inr lr))))), (rk, .inl (cJ, 8, .inr (.inl rw))), (lp, .inl (cJ, 4, .inr (.inl lw))), (lk, .inl (cJ, 4, .inr (.inl (lkw [lw 0, lw 1, lw 2, lw 3, rw 0, rw 1, rw 2, rw 3, rw 4, rw 5, rw 6, rw 7])))), (ra, .inl (cJ, 8, .inr (.inl rw))), (h0, .inr (2, [.ref aw, .ref ax, .ref ay, .int (nI glk_1)])), (aw, .inl (cJ, 16, .inr (.inl gwk_1))), (ax, .inl (cI, 64, .inl gsk_1)), (ay, .inl (cI, 8, .inl gtk_1))] H := hP
            have hD : va_D A [(bd0, .inr (3, [.ref h0, .ref ro, .ref lo, .int (nI (k + 1))])), (ro, .inl (cR, 154, .inr (.inr (.inr (.inr rr))))), (lo, .inl (cR, 154, .inr (.inr (.inr (.inr lr))))), (rk, .inl (cJ, 8, .inr (.inl rw))), (lp, .inl (cJ, 4, .inr (.inl lw))), (lk, .inl (cJ, 4, .inr (.inl (lkw [lw 0, lw 1, lw 2, lw 3, rw 0, rw 1, rw 2, rw 3, rw 4, rw 5, rw 6, rw 7])))), (ra, .inl (cJ, 8, .inr (.inl rw))), (h0, .inr (2, [.ref aw, .ref ax, .ref ay, .int (nI glk_1)])), (aw, .inl (cJ, 16, .inr (.inl gwk_1))), (ax, .inl (cI, 64, .inl gsk_1)), (ay, .inl (cI, 8, .inl gtk_1))] := hD
            refine lv_iload_n hx hb d_Bd_add_63 rfl (lv_at hl 1 rfl) ?_
            exact W.iret (v := (nI k)) hx hb hr (fun t ht9 hW => ⟨⟨_, (gwk_1, gsk_1, gtk_1, glk_1), rfl, rfl, by rw [ht9]; exact hP, va_K.moved hW.alike hK, hD⟩, hS.F ht9⟩) hS.2.2 d_Bd_add_64
          · -- not taken
            exact absurd c_11 (by decide)
