abbrev b_Bd_isLinked : ByteArray := prog_3_method_8_code
abbrev y_Bd_isLinked : MethodName := ⟨"BallotBoard$Board", "isLinked", "(I)Z"⟩
abbrev w_Bd_isLinked : List Cond := .code y_Bd_isLinked b_Bd_isLinked 4 (some .boolean) :: gw
theorem d_Bd_isLinked_0 : decode b_Bd_isLinked 0 = .ok (.aload_n 0, 1) := by decide +kernel
theorem d_Bd_isLinked_1 : decode b_Bd_isLinked 1 = .ok (.iload_n 1, 1) := by decide +kernel
theorem d_Bd_isLinked_2 : decode b_Bd_isLinked 2 = .ok (.invokevirtual 37, 3) := by decide +kernel
theorem d_Bd_isLinked_5 : decode b_Bd_isLinked 5 = .ok (.iconst 1, 1) := by decide +kernel
theorem d_Bd_isLinked_6 : decode b_Bd_isLinked 6 = .ok (.istore_n 2, 1) := by decide +kernel
theorem d_Bd_isLinked_7 : decode b_Bd_isLinked 7 = .ok (.iconst 0, 1) := by decide +kernel
theorem d_Bd_isLinked_8 : decode b_Bd_isLinked 8 = .ok (.istore_n 3, 1) := by decide +kernel
theorem d_Bd_isLinked_9 : decode b_Bd_isLinked 9 = .ok (.iload_n 3, 1) := by decide +kernel
theorem d_Bd_isLinked_10 : decode b_Bd_isLinked 10 = .ok (.iconst 4, 1) := by decide +kernel
theorem d_Bd_isLinked_11 : decode b_Bd_isLinked 11 = .ok (.if_icmp .ge 39, 3) := by decide +kernel
theorem d_Bd_isLinked_14 : decode b_Bd_isLinked 14 = .ok (.iload_n 2, 1) := by decide +kernel
theorem d_Bd_isLinked_15 : decode b_Bd_isLinked 15 = .ok (.ifCond .eq 27, 3) := by decide +kernel
theorem d_Bd_isLinked_18 : decode b_Bd_isLinked 18 = .ok (.aload_n 0, 1) := by decide +kernel
theorem d_Bd_isLinked_19 : decode b_Bd_isLinked 19 = .ok (.getfield 20, 3) := by decide +kernel
theorem d_Bd_isLinked_22 : decode b_Bd_isLinked 22 = .ok (.iload_n 1, 1) := by decide +kernel
theorem d_Bd_isLinked_23 : decode b_Bd_isLinked 23 = .ok (.aaload, 1) := by decide +kernel
theorem d_Bd_isLinked_24 : decode b_Bd_isLinked 24 = .ok (.iload_n 3, 1) := by decide +kernel
theorem d_Bd_isLinked_25 : decode b_Bd_isLinked 25 = .ok (.laload, 1) := by decide +kernel
theorem d_Bd_isLinked_26 : decode b_Bd_isLinked 26 = .ok (.aload_n 0, 1) := by decide +kernel
theorem d_Bd_isLinked_27 : decode b_Bd_isLinked 27 = .ok (.getfield 9, 3) := by decide +kernel
theorem d_Bd_isLinked_30 : decode b_Bd_isLinked 30 = .ok (.iload_n 3, 1) := by decide +kernel
theorem d_Bd_isLinked_31 : decode b_Bd_isLinked 31 = .ok (.invokevirtual 41, 3) := by decide +kernel
theorem d_Bd_isLinked_34 : decode b_Bd_isLinked 34 = .ok (.lcmp, 1) := by decide +kernel
theorem d_Bd_isLinked_35 : decode b_Bd_isLinked 35 = .ok (.ifCond .ne 7, 3) := by decide +kernel
theorem d_Bd_isLinked_38 : decode b_Bd_isLinked 38 = .ok (.iconst 1, 1) := by decide +kernel
theorem d_Bd_isLinked_39 : decode b_Bd_isLinked 39 = .ok (.goto 4, 3) := by decide +kernel
theorem d_Bd_isLinked_42 : decode b_Bd_isLinked 42 = .ok (.iconst 0, 1) := by decide +kernel
theorem d_Bd_isLinked_43 : decode b_Bd_isLinked 43 = .ok (.istore_n 2, 1) := by decide +kernel
theorem d_Bd_isLinked_44 : decode b_Bd_isLinked 44 = .ok (.iinc 3 1, 3) := by decide +kernel
theorem d_Bd_isLinked_47 : decode b_Bd_isLinked 47 = .ok (.goto (-38), 3) := by decide +kernel
theorem d_Bd_isLinked_50 : decode b_Bd_isLinked 50 = .ok (.iload_n 2, 1) := by decide +kernel
theorem d_Bd_isLinked_51 : decode b_Bd_isLinked 51 = .ok (.ireturn, 1) := by decide +kernel
set_option maxHeartbeats 8000000 in
set_option maxRecDepth 100000 in
theorem c_Bd_isLinked_0 (l : Launch) (dC : Nat → ClassId) (dI : Nat → Nat → Nat) (cJ cI cR : ClassId) (sz : Nat) (bd0 h0 ro lo n : Nat) (rr lr : Nat → Option Nat) (aw ax ay : Nat) (w : Nat → Int64) (sc st : Nat → Int32) (L : Nat) (rA sA : Nat) (k rk : Nat) (rw : Nat → Int64) (K : Nat) (lk : Nat) (lv : Nat → Int64) (hk : k < 154) (hrk : rr k = some rk) (hr0 : rw 0 = lN K) (hK4 : K < 4) (hK2 : ¬ K = 2) (hk0 : k = 0) (hlk : lr k = some lk) : Met l y_Bd_isLinked w_Bd_isLinked ({ frames := 4, cells := 0, slots := 0, locals := 105 }) (va_Pc [.ref bd0, .int (nI k)] (fun U => U.heap.size = sz ∧ va_P (dC, dI) classes (bd_ws bd0 h0 ro lo n cR rr lr ++ (rw_ws rk cJ rw ++ (lk_ws lk cJ lv ++ (ha_ws h0 aw ax ay cJ cI w sc st L)))) U.heap ∧ va_K (dC, dI) classes [(cJ, .long), (cI, .int), (cR, .array .long)] U ∧ va_D (fun _ => True) (bd_ws bd0 h0 ro lo n cR rr lr ++ (rw_ws rk cJ rw ++ (lk_ws lk cJ lv ++ (ha_ws h0 aw ax ay cJ cI w sc st L)))) ∧ ha_Z rA sA (va_A (bd_ws bd0 h0 ro lo n cR rr lr ++ (rw_ws rk cJ rw ++ (lk_ws lk cJ lv ++ (ha_ws h0 aw ax ay cJ cI w sc st L)))) sz) U U.heap)) (va_Qi (fun (r : Int32) (u9 : HU) => bz r (lnk4 lv [0, 0, 0, 0, rw 0, rw 1, rw 2, rw 3, rw 4])) (fun u9 t => va_P (dC, dI) classes (bd_ws bd0 h0 ro lo n cR rr lr ++ (rw_ws rk cJ rw ++ (lk_ws lk cJ lv ++ (hu_ws h0 aw ax ay cJ cI u9)))) t.heap ∧ va_K (dC, dI) classes [(cJ, .long), (cI, .int), (cR, .array .long)] t ∧ va_D (va_A (bd_ws bd0 h0 ro lo n cR rr lr ++ (rw_ws rk cJ rw ++ (lk_ws lk cJ lv ++ (ha_ws h0 aw ax ay cJ cI w sc st L)))) sz) (bd_ws bd0 h0 ro lo n cR rr lr ++ (rw_ws rk cJ rw ++ (lk_ws lk cJ lv ++ (hu_ws h0 aw ax ay cJ cI u9))))) (va_A (bd_ws bd0 h0 ro lo n cR rr lr ++ (rw_ws rk cJ rw ++ (lk_ws lk cJ lv ++ (ha_ws h0 aw ax ay cJ cI w sc st L)))) sz)) 0 0 (va_A (bd_ws bd0 h0 ro lo n cR rr lr ++ (rw_ws rk cJ rw ++ (lk_ws lk cJ lv ++ (ha_ws h0 aw ax ay cJ cI w sc st L)))) sz) := by
  refine Met.ofW (cc := b_Bd_isLinked) (maxL := 4) (ret := (some .boolean)) (by decide) rfl ?_
  intro p e s m args below meth c s₁ Bd hml hv
  obtain ⟨rfl, hsz, hP, hK, hD0, hZha⟩ := hv
  have hx := Bd.exec
  have hb := Bd.bytes
  have hr := Bd.returns
  have hts := atoms_spec (ws := w_Bd_isLinked) Bd.pre
  have hown : s.vm.findClass "BallotBoard$Board" = some m.cls := findClass_of_methodNamed Bd.named
  have hlocks := Bd.notSynchronized
  subst hsz
  have hD := hD0.self (sz := s.heap.size)
  generalize hAe : va_A (bd_ws bd0 h0 ro lo n cR rr lr ++ (rw_ws rk cJ rw ++ (lk_ws lk cJ lv ++ (ha_ws h0 aw ax ay cJ cI w sc st L)))) s.heap.size = A at hD hZha ⊢
  have hA : ∀ q : Nat, s.heap.size ≤ q → A q := fun q h => by rw [← hAe]; exact Or.inr h
  have hS : va_S A s.heap s.heap [] := va_S.rf
  have hl := lv_entry ([.ref bd0, .int (nI k)]) (n := 4) (Nat.le_of_ble_eq_true rfl)
  rw [lg_entry_eq]
  generalize (lg_sl ([.ref bd0, .int (nI k)]) ++ List.replicate (4 - (lg_sl ([.ref bd0, .int (nI k)])).length) Slot.unset).toArray = ls at hl ⊢
  have hl : lv_has ls 4 [(0, .ref bd0), (1, .int (nI k))] := hl
  refine lv_aload_n hx hb d_Bd_isLinked_0 rfl (lv_at hl 0 rfl) ?_
  refine lv_iload_n hx hb d_Bd_isLinked_1 rfl (lv_at hl 1 rfl) ?_
  have hPc := hP.sub (ws' := (bd_ws bd0 h0 ro lo n cR rr lr ++ (rw_ws rk cJ rw ++ (ha_ws h0 aw ax ay cJ cI w sc st L)))) [0, 1, 2, 3, 5, 6, 7, 8] rfl
  have hDc := hD.sub (ws' := (bd_ws bd0 h0 ro lo n cR rr lr ++ (rw_ws rk cJ rw ++ (ha_ws h0 aw ax ay cJ cI w sc st L)))) [0, 1, 2, 3, 5, 6, 7, 8] (by decide) rfl
  have hKc := hK.sub (tys' := [(cJ, .long), (cI, .int), (cR, .array .long)]) [0, 1, 2] rfl
  have hFc := va_free (wc := (bd_ws bd0 h0 ro lo n cR rr lr ++ (rw_ws rk cJ rw ++ (ha_ws h0 aw ax ay cJ cI w sc st L)))) hD hS hA [0, 1, 2, 3, 5, 6, 7, 8] rfl
  have hZc0 : ha_Z rA sA (va_A (bd_ws bd0 h0 ro lo n cR rr lr ++ (rw_ws rk cJ rw ++ (ha_ws h0 aw ax ay cJ cI w sc st L))) s.heap.size) s s.heap := (hZha.kept hS.2.1).narrow hFc
  refine va_callv (va_runV (As := [.int (nI k)]) (rest := []) ⟨hx, hb, hml, hown, hts⟩ (c_Bd_hashEntry_0 l dC dI cJ cI cR s.heap.size bd0 h0 ro lo n rr lr aw ax ay w sc st L rA sA k rk rw K  hk hrk hr0 hK4 hK2 hk0) (cwV 1 hts (gw_V gk_587 gk_589 gp_20 gk_3 gk_590) rfl rfl rfl (by decide +kernel) ⟨Nat.le_of_ble_eq_true rfl, Nat.le_of_ble_eq_true rfl⟩) ⟨fun a U g mk q => by obtain ⟨q0, q1, qP, qK, qD, qZ0⟩ := q; exact ⟨q0, q1, qP, va_K.moved (u := U) (U := U.calling g mk a) (Vm.Alike.refl U.vm) qK, qD, ha_Z.moved (u := U) (U := U.calling g mk a) (Vm.Alike.refl U.vm) qZ0⟩, va_recv hK hP (ci := 3) (q0 := 0) rfl rfl, fun U hU hW => ⟨rfl, by rw [hU], by rw [hU]; exact hPc, va_K.moved hW.alike hKc, hDc.weaken (fun _ _ _ _ => trivial), by rw [hU]; exact ha_Z.moved hW.alike hZc0⟩⟩ rfl rfl hl.1 rfl (lv_room (Nat.le_of_ble_eq_true rfl)) d_Bd_isLinked_2 ⟨Nat.le_of_ble_eq_true rfl, Nat.le_of_ble_eq_true rfl⟩) hS (fun q _ h => hFc q h) hFc (fun u9 t9 H1 locs ht hvm hw hB hz1 hk1 hS => ?_)
  obtain ⟨gwk_1, gsk_1, gtk_1, glk_1⟩ := u9
  have hdg : dgo gtk_1 [0, 0, 0, 0, rw 0, rw 1, rw 2, rw 3, rw 4] := hw
  obtain ⟨hP1, hK1, hD1⟩ := hB
  rw [ht] at hP1
  obtain ⟨hP, hD⟩ := va_join (wr := [(lk, .inl (cJ, 4, .inr (.inl lv)))]) (w1 := [(bd0, .inr (3, [.ref h0, .ref ro, .ref lo, .int (nI n)])), (ro, .inl (cR, 154, .inr (.inr (.inr (.inr rr))))), (lo, .inl (cR, 154, .inr (.inr (.inr (.inr lr))))), (rk, .inl (cJ, 8, .inr (.inl rw))), (h0, .inr (2, [.ref aw, .ref ax, .ref ay, .int (nI glk_1)])), (aw, .inl (cJ, 16, .inr (.inl gwk_1))), (ax, .inl (cI, 64, .inl gsk_1)), (ay, .inl (cI, 8, .inl gtk_1))]) hP hD [0, 1, 2, 3, 5, 6, 7, 8] [4] rfl rfl (by decide) (by decide) hk1 hFc hP1 hD1
  have hP := hP.sub (ws' := [(bd0, .inr (3, [.ref h0, .ref ro, .ref lo, .int (nI n)])), (ro, .inl (cR, 154, .inr (.inr (.inr (.inr rr))))), (lo, .inl (cR, 154, .inr (.inr (.inr (.inr lr))))), (rk, .inl (cJ, 8, .inr (.inl rw))), (lk, .inl (cJ, 4, .inr (.inl lv))), (h0, .inr (2, [.ref aw, .ref ax, .ref ay, .int (nI glk_1)])), (aw, .inl (cJ, 16, .inr (.inl gwk_1))), (ax, .inl (cI, 64, .inl gsk_1)), (ay, .inl (cI, 8, .inl gtk_1))]) [1, 2, 3, 4, 0, 5, 6, 7, 8] rfl
  have hD := hD.sub (ws' := [(bd0, .inr (3, [.ref h0, .ref ro, .ref lo, .int (nI n)])), (ro, .inl (cR, 154, .inr (.inr (.inr (.inr rr))))), (lo, .inl (cR, 154, .inr (.inr (.inr (.inr lr))))), (rk, .inl (cJ, 8, .inr (.inl rw))), (lk, .inl (cJ, 4, .inr (.inl lv))), (h0, .inr (2, [.ref aw, .ref ax, .ref ay, .int (nI glk_1)])), (aw, .inl (cJ, 16, .inr (.inl gwk_1))), (ax, .inl (cI, 64, .inl gsk_1)), (ay, .inl (cI, 8, .inl gtk_1))]) [1, 2, 3, 4, 0, 5, 6, 7, 8] (by decide) rfl
  generalize H1 = H at hP hS ⊢
  refine lv_iconst (v := 1) hx hb d_Bd_isLinked_5 (by decide) ?_
  refine lv_istore_n (lv' := [(2, .int 1), (0, .ref bd0), (1, .int (nI k))]) hx hb d_Bd_isLinked_6 rfl hl (by decide) rfl (fun ls hl => ?_)
  refine lv_iconst (v := 0) hx hb d_Bd_isLinked_7 (by decide) ?_
  refine lv_istore_n (lv' := [(3, .int 0), (2, .int 1), (0, .ref bd0), (1, .int (nI k))]) hx hb d_Bd_isLinked_8 rfl hl (by decide) rfl (fun ls hl => ?_)
  refine lv_iload_n hx hb d_Bd_isLinked_9 rfl (lv_at hl 0 rfl) ?_
  refine lv_iconst (v := 4) hx hb d_Bd_isLinked_10 (by decide) ?_
  refine lv_icmp_ge (tgt := 50) hx hb d_Bd_isLinked_11 (by decide) (fun c_3 => ?_) (fun c_3 => ?_)
  · -- taken
    exact absurd c_3 (by decide)
  · -- not taken
    refine lv_iload_n hx hb d_Bd_isLinked_14 rfl (lv_at hl 1 rfl) ?_
    refine lv_if_eq (tgt := 42) hx hb d_Bd_isLinked_15 (by decide) (fun c_4 => ?_) (fun c_4 => ?_)
    · -- taken
      exact absurd c_4 (by decide)
    · -- not taken
      refine lv_aload_n hx hb d_Bd_isLinked_18 rfl (lv_at hl 2 rfl) ?_
      refine va_get (D := (dC, dI)) (ci := 3) (v := .ref lo) (C := "BallotBoard$Board") (T := F_Bo) (N := 4) hx hb hts (fun w9 h9 => List.mem_cons_of_mem _ (i_Bo w9 h9)) hown hK hP 0 rfl rfl 2 (by decide) (hts _ (List.mem_cons_of_mem _ gk_62)) (fun _ h9 => h9) rfl d_Bd_isLinked_19 ?_
      refine lv_iload_n hx hb d_Bd_isLinked_22 rfl (lv_at hl 3 rfl) ?_
      refine va_aldA hx hb hK hP 2 2 rfl rfl (vp_in_nI (by omega) (by omega)) d_Bd_isLinked_23 (b := lk) (by rw [nI_clamp (by omega)]; exact hlk) ?_
      refine lv_iload_n hx hb d_Bd_isLinked_24 rfl (lv_at hl 0 rfl) ?_
      refine va_lald hx hb hK hP 4 0 rfl rfl (vp_lit rfl) d_Bd_isLinked_25 ?_
      rw [show (lv (0 : Int32).toNatClampNeg : Int64) = lv 0 from rfl]
      refine lv_aload_n hx hb d_Bd_isLinked_26 rfl (lv_at hl 2 rfl) ?_
      refine va_get (D := (dC, dI)) (ci := 3) (v := .ref h0) (C := "BallotBoard$Board") (T := F_Bo) (N := 4) hx hb hts (fun w9 h9 => List.mem_cons_of_mem _ (i_Bo w9 h9)) hown hK hP 0 rfl rfl 0 (by decide) (hts _ (List.mem_cons_of_mem _ gk_60)) (fun _ h9 => h9) rfl d_Bd_isLinked_27 ?_
      refine lv_iload_n hx hb d_Bd_isLinked_30 rfl (lv_at hl 0 rfl) ?_
      have hPc := hP.sub (ws' := (ha_ws h0 aw ax ay cJ cI gwk_1 gsk_1 gtk_1 glk_1)) [5, 6, 7, 8] rfl
      have hKc := hK.sub (tys' := [(cJ, .long), (cI, .int)]) [0, 1] rfl
      refine va_calll (va_runV (As := [.int 0]) (rest := [.long (lv 0)]) ⟨hx, hb, hml, hown, hts⟩ (c_Ha_word l H dC dI h0 aw ax ay cJ cI gwk_1 gsk_1 gtk_1 glk_1 0 hPc (by decide)) (cwV 1 hts (gw_V gk_598 gk_536 gk_537 gk_2 gk_538) rfl rfl rfl (by decide +kernel) ⟨Nat.le_of_ble_eq_true rfl, Nat.le_of_ble_eq_true rfl⟩) ⟨fun a U g mk q => ⟨q.1, q.2.1, va_K.moved (u := U) (U := U.calling g mk a) (Vm.Alike.refl U.vm) q.2.2⟩, va_recv hK hP (ci := 2) (q0 := 5) rfl rfl, fun U hU hW => ⟨rfl, hU, va_K.moved hW.alike hKc⟩⟩ rfl rfl hl.1 rfl (lv_room (Nat.le_of_ble_eq_true rfl)) d_Bd_isLinked_31 ⟨Nat.le_of_ble_eq_true rfl, Nat.le_of_ble_eq_true rfl⟩) hS (fun q _ h => h.elim) (fun q h => h.elim) (fun r31 u9 t9 H1 locs ht hvm hw hB hz1 hk1 hS => ?_)
      obtain rfl : H = H1 := hB.symm.trans ht
      have hw : r31 = wd (gtk_1 0) (gtk_1 1) := hw
      subst hw
      rw [show (wd (gtk_1 0) (gtk_1 1) : Int64) = (lkw [0, 0, 0, 0, rw 0, rw 1, rw 2, rw 3, rw 4] 0) from lkw_0 hdg]
      refine W.lcmp hx hb d_Bd_isLinked_34 ?_
      refine lv_if_ne (tgt := 42) hx hb d_Bd_isLinked_35 (by decide) (fun c_5 => ?_) (fun c_5 => ?_)
      · -- taken
        have hbad : ¬ lnk4 lv [0, 0, 0, 0, rw 0, rw 1, rw 2, rw 3, rw 4] := fun h => c_5 ((lg_cmp_eq _ _).mpr h.1)
        refine lv_iconst (v := 0) hx hb d_Bd_isLinked_42 (by decide) ?_
        refine lv_istore_n (lv' := [(2, .int 0), (3, .int 0), (0, .ref bd0), (1, .int (nI k))]) hx hb d_Bd_isLinked_43 rfl hl (by decide) rfl (fun ls hl => ?_)
        obtain ⟨i_6, ei_6⟩ : ∃ y : Int32, y = 0 + 1 := ⟨_, rfl⟩
        refine lv_iinc (v := i_6) (lv' := [(3, .int i_6), (2, .int 0), (0, .ref bd0), (1, .int (nI k))]) hx hb d_Bd_isLinked_44 hl (k := 1) rfl (by rw [ei_6]; rfl) (by decide) rfl (fun ls hl => ?_)
        obtain rfl : i_6 = 1 := by rw [ei_6]; exact by decide
        refine lv_goto (tgt := 9) hx hb d_Bd_isLinked_47 (by decide) ?_
        refine lv_iload_n hx hb d_Bd_isLinked_9 rfl (lv_at hl 0 rfl) ?_
        refine lv_iconst (v := 4) hx hb d_Bd_isLinked_10 (by decide) ?_
        refine lv_icmp_ge (tgt := 50) hx hb d_Bd_isLinked_11 (by decide) (fun c_7 => ?_) (fun c_7 => ?_)
        · -- taken
          exact absurd c_7 (by decide)
        · -- not taken
          refine lv_iload_n hx hb d_Bd_isLinked_14 rfl (lv_at hl 1 rfl) ?_
          refine lv_if_eq (tgt := 42) hx hb d_Bd_isLinked_15 (by decide) (fun c_8 => ?_) (fun c_8 => ?_)
          · -- taken
            refine lv_iconst (v := 0) hx hb d_Bd_isLinked_42 (by decide) ?_
            refine lv_istore_n (lv' := [(2, .int 0), (3, .int 1), (0, .ref bd0), (1, .int (nI k))]) hx hb d_Bd_isLinked_43 rfl hl (by decide) rfl (fun ls hl => ?_)
            obtain ⟨i_9, ei_9⟩ : ∃ y : Int32, y = 1 + 1 := ⟨_, rfl⟩
            refine lv_iinc (v := i_9) (lv' := [(3, .int i_9), (2, .int 0), (0, .ref bd0), (1, .int (nI k))]) hx hb d_Bd_isLinked_44 hl (k := 1) rfl (by rw [ei_9]; rfl) (by decide) rfl (fun ls hl => ?_)
            obtain rfl : i_9 = 2 := by rw [ei_9]; exact by decide
            refine lv_goto (tgt := 9) hx hb d_Bd_isLinked_47 (by decide) ?_
            refine lv_iload_n hx hb d_Bd_isLinked_9 rfl (lv_at hl 0 rfl) ?_
            refine lv_iconst (v := 4) hx hb d_Bd_isLinked_10 (by decide) ?_
            refine lv_icmp_ge (tgt := 50) hx hb d_Bd_isLinked_11 (by decide) (fun c_10 => ?_) (fun c_10 => ?_)
            · -- taken
              exact absurd c_10 (by decide)
            · -- not taken
              refine lv_iload_n hx hb d_Bd_isLinked_14 rfl (lv_at hl 1 rfl) ?_
              refine lv_if_eq (tgt := 42) hx hb d_Bd_isLinked_15 (by decide) (fun c_11 => ?_) (fun c_11 => ?_)
              · -- taken
                refine lv_iconst (v := 0) hx hb d_Bd_isLinked_42 (by decide) ?_
                refine lv_istore_n (lv' := [(2, .int 0), (3, .int 2), (0, .ref bd0), (1, .int (nI k))]) hx hb d_Bd_isLinked_43 rfl hl (by decide) rfl (fun ls hl => ?_)
                obtain ⟨i_12, ei_12⟩ : ∃ y : Int32, y = 2 + 1 := ⟨_, rfl⟩
                refine lv_iinc (v := i_12) (lv' := [(3, .int i_12), (2, .int 0), (0, .ref bd0), (1, .int (nI k))]) hx hb d_Bd_isLinked_44 hl (k := 1) rfl (by rw [ei_12]; rfl) (by decide) rfl (fun ls hl => ?_)
                obtain rfl : i_12 = 3 := by rw [ei_12]; exact by decide
                refine lv_goto (tgt := 9) hx hb d_Bd_isLinked_47 (by decide) ?_
                refine lv_iload_n hx hb d_Bd_isLinked_9 rfl (lv_at hl 0 rfl) ?_
                refine lv_iconst (v := 4) hx hb d_Bd_isLinked_10 (by decide) ?_
                refine lv_icmp_ge (tgt := 50) hx hb d_Bd_isLinked_11 (by decide) (fun c_13 => ?_) (fun c_13 => ?_)
                · -- taken
                  exact absurd c_13 (by decide)
                · -- not taken
                  refine lv_iload_n hx hb d_Bd_isLinked_14 rfl (lv_at hl 1 rfl) ?_
                  refine lv_if_eq (tgt := 42) hx hb d_Bd_isLinked_15 (by decide) (fun c_14 => ?_) (fun c_14 => ?_)
                  · -- taken
                    refine lv_iconst (v := 0) hx hb d_Bd_isLinked_42 (by decide) ?_
                    refine lv_istore_n (lv' := [(2, .int 0), (3, .int 3), (0, .ref bd0), (1, .int (nI k))]) hx hb d_Bd_isLinked_43 rfl hl (by decide) rfl (fun ls hl => ?_)
                    obtain ⟨i_15, ei_15⟩ : ∃ y : Int32, y = 3 + 1 := ⟨_, rfl⟩
                    refine lv_iinc (v := i_15) (lv' := [(3, .int i_15), (2, .int 0), (0, .ref bd0), (1, .int (nI k))]) hx hb d_Bd_isLinked_44 hl (k := 1) rfl (by rw [ei_15]; rfl) (by decide) rfl (fun ls hl => ?_)
                    obtain rfl : i_15 = 4 := by rw [ei_15]; exact by decide
                    refine lv_goto (tgt := 9) hx hb d_Bd_isLinked_47 (by decide) ?_
                    refine lv_iload_n hx hb d_Bd_isLinked_9 rfl (lv_at hl 0 rfl) ?_
                    refine lv_iconst (v := 4) hx hb d_Bd_isLinked_10 (by decide) ?_
                    refine lv_icmp_ge (tgt := 50) hx hb d_Bd_isLinked_11 (by decide) (fun c_16 => ?_) (fun c_16 => ?_)
                    · -- taken
                      refine lv_iload_n hx hb d_Bd_isLinked_50 rfl (lv_at hl 1 rfl) ?_
                      exact W.zret (v := 0) hx hb hr (by decide) (fun t ht9 hW => ⟨⟨_, (gwk_1, gsk_1, gtk_1, glk_1), rfl, (bz_0 hbad), by rw [ht9]; exact hP, va_K.moved hW.alike hK, hD⟩, hS.F ht9⟩) hS.2.2 d_Bd_isLinked_51
                    · -- not taken
                      exact absurd c_16 (by decide)
                  · -- not taken
                    exact absurd rfl c_14
              · -- not taken
                exact absurd rfl c_11
          · -- not taken
            exact absurd rfl c_8
      · -- not taken
        have q0 := (lg_cmp_eq _ _).mp c_5
        refine lv_iconst (v := 1) hx hb d_Bd_isLinked_38 (by decide) ?_
        refine lv_goto (tgt := 43) hx hb d_Bd_isLinked_39 (by decide) ?_
        refine lv_istore_n (lv' := [(2, .int 1), (3, .int 0), (0, .ref bd0), (1, .int (nI k))]) hx hb d_Bd_isLinked_43 rfl hl (by decide) rfl (fun ls hl => ?_)
        obtain ⟨i_17, ei_17⟩ : ∃ y : Int32, y = 0 + 1 := ⟨_, rfl⟩
        refine lv_iinc (v := i_17) (lv' := [(3, .int i_17), (2, .int 1), (0, .ref bd0), (1, .int (nI k))]) hx hb d_Bd_isLinked_44 hl (k := 1) rfl (by rw [ei_17]; rfl) (by decide) rfl (fun ls hl => ?_)
        obtain rfl : i_17 = 1 := by rw [ei_17]; exact by decide
        refine lv_goto (tgt := 9) hx hb d_Bd_isLinked_47 (by decide) ?_
        refine lv_iload_n hx hb d_Bd_isLinked_9 rfl (lv_at hl 0 rfl) ?_
        refine lv_iconst (v := 4) hx hb d_Bd_isLinked_10 (by decide) ?_
        refine lv_icmp_ge (tgt := 50) hx hb d_Bd_isLinked_11 (by decide) (fun c_18 => ?_) (fun c_18 => ?_)
        · -- taken
          exact absurd c_18 (by decide)
        · -- not taken
          refine lv_iload_n hx hb d_Bd_isLinked_14 rfl (lv_at hl 1 rfl) ?_
          refine lv_if_eq (tgt := 42) hx hb d_Bd_isLinked_15 (by decide) (fun c_19 => ?_) (fun c_19 => ?_)
          · -- taken
            exact absurd c_19 (by decide)
          · -- not taken
            refine lv_aload_n hx hb d_Bd_isLinked_18 rfl (lv_at hl 2 rfl) ?_
            refine va_get (D := (dC, dI)) (ci := 3) (v := .ref lo) (C := "BallotBoard$Board") (T := F_Bo) (N := 4) hx hb hts (fun w9 h9 => List.mem_cons_of_mem _ (i_Bo w9 h9)) hown hK hP 0 rfl rfl 2 (by decide) (hts _ (List.mem_cons_of_mem _ gk_62)) (fun _ h9 => h9) rfl d_Bd_isLinked_19 ?_
            refine lv_iload_n hx hb d_Bd_isLinked_22 rfl (lv_at hl 3 rfl) ?_
            refine va_aldA hx hb hK hP 2 2 rfl rfl (vp_in_nI (by omega) (by omega)) d_Bd_isLinked_23 (b := lk) (by rw [nI_clamp (by omega)]; exact hlk) ?_
            refine lv_iload_n hx hb d_Bd_isLinked_24 rfl (lv_at hl 0 rfl) ?_
            refine va_lald hx hb hK hP 4 0 rfl rfl (vp_lit rfl) d_Bd_isLinked_25 ?_
            rw [show (lv (1 : Int32).toNatClampNeg : Int64) = lv 1 from rfl]
            refine lv_aload_n hx hb d_Bd_isLinked_26 rfl (lv_at hl 2 rfl) ?_
            refine va_get (D := (dC, dI)) (ci := 3) (v := .ref h0) (C := "BallotBoard$Board") (T := F_Bo) (N := 4) hx hb hts (fun w9 h9 => List.mem_cons_of_mem _ (i_Bo w9 h9)) hown hK hP 0 rfl rfl 0 (by decide) (hts _ (List.mem_cons_of_mem _ gk_60)) (fun _ h9 => h9) rfl d_Bd_isLinked_27 ?_
            refine lv_iload_n hx hb d_Bd_isLinked_30 rfl (lv_at hl 0 rfl) ?_
            have hPc := hP.sub (ws' := (ha_ws h0 aw ax ay cJ cI gwk_1 gsk_1 gtk_1 glk_1)) [5, 6, 7, 8] rfl
            have hKc := hK.sub (tys' := [(cJ, .long), (cI, .int)]) [0, 1] rfl
            refine va_calll (va_runV (As := [.int 1]) (rest := [.long (lv 1)]) ⟨hx, hb, hml, hown, hts⟩ (c_Ha_word l H dC dI h0 aw ax ay cJ cI gwk_1 gsk_1 gtk_1 glk_1 1 hPc (by decide)) (cwV 1 hts (gw_V gk_598 gk_536 gk_537 gk_2 gk_538) rfl rfl rfl (by decide +kernel) ⟨Nat.le_of_ble_eq_true rfl, Nat.le_of_ble_eq_true rfl⟩) ⟨fun a U g mk q => ⟨q.1, q.2.1, va_K.moved (u := U) (U := U.calling g mk a) (Vm.Alike.refl U.vm) q.2.2⟩, va_recv hK hP (ci := 2) (q0 := 5) rfl rfl, fun U hU hW => ⟨rfl, hU, va_K.moved hW.alike hKc⟩⟩ rfl rfl hl.1 rfl (lv_room (Nat.le_of_ble_eq_true rfl)) d_Bd_isLinked_31 ⟨Nat.le_of_ble_eq_true rfl, Nat.le_of_ble_eq_true rfl⟩) hS (fun q _ h => h.elim) (fun q h => h.elim) (fun r31 u9 t9 H1 locs ht hvm hw hB hz1 hk1 hS => ?_)
            obtain rfl : H = H1 := hB.symm.trans ht
            have hw : r31 = wd (gtk_1 2) (gtk_1 3) := hw
            subst hw
            rw [show (wd (gtk_1 2) (gtk_1 3) : Int64) = (lkw [0, 0, 0, 0, rw 0, rw 1, rw 2, rw 3, rw 4] 1) from lkw_1 hdg]
            refine W.lcmp hx hb d_Bd_isLinked_34 ?_
            refine lv_if_ne (tgt := 42) hx hb d_Bd_isLinked_35 (by decide) (fun c_20 => ?_) (fun c_20 => ?_)
            · -- taken
              have hbad : ¬ lnk4 lv [0, 0, 0, 0, rw 0, rw 1, rw 2, rw 3, rw 4] := fun h => c_20 ((lg_cmp_eq _ _).mpr h.2.1)
              refine lv_iconst (v := 0) hx hb d_Bd_isLinked_42 (by decide) ?_
              refine lv_istore_n (lv' := [(2, .int 0), (3, .int 1), (0, .ref bd0), (1, .int (nI k))]) hx hb d_Bd_isLinked_43 rfl hl (by decide) rfl (fun ls hl => ?_)
              obtain ⟨i_21, ei_21⟩ : ∃ y : Int32, y = 1 + 1 := ⟨_, rfl⟩
              refine lv_iinc (v := i_21) (lv' := [(3, .int i_21), (2, .int 0), (0, .ref bd0), (1, .int (nI k))]) hx hb d_Bd_isLinked_44 hl (k := 1) rfl (by rw [ei_21]; rfl) (by decide) rfl (fun ls hl => ?_)
              obtain rfl : i_21 = 2 := by rw [ei_21]; exact by decide
              refine lv_goto (tgt := 9) hx hb d_Bd_isLinked_47 (by decide) ?_
              refine lv_iload_n hx hb d_Bd_isLinked_9 rfl (lv_at hl 0 rfl) ?_
              refine lv_iconst (v := 4) hx hb d_Bd_isLinked_10 (by decide) ?_
              refine lv_icmp_ge (tgt := 50) hx hb d_Bd_isLinked_11 (by decide) (fun c_22 => ?_) (fun c_22 => ?_)
              · -- taken
                exact absurd c_22 (by decide)
              · -- not taken
                refine lv_iload_n hx hb d_Bd_isLinked_14 rfl (lv_at hl 1 rfl) ?_
                refine lv_if_eq (tgt := 42) hx hb d_Bd_isLinked_15 (by decide) (fun c_23 => ?_) (fun c_23 => ?_)
                · -- taken
                  refine lv_iconst (v := 0) hx hb d_Bd_isLinked_42 (by decide) ?_
                  refine lv_istore_n (lv' := [(2, .int 0), (3, .int 2), (0, .ref bd0), (1, .int (nI k))]) hx hb d_Bd_isLinked_43 rfl hl (by decide) rfl (fun ls hl => ?_)
                  obtain ⟨i_24, ei_24⟩ : ∃ y : Int32, y = 2 + 1 := ⟨_, rfl⟩
                  refine lv_iinc (v := i_24) (lv' := [(3, .int i_24), (2, .int 0), (0, .ref bd0), (1, .int (nI k))]) hx hb d_Bd_isLinked_44 hl (k := 1) rfl (by rw [ei_24]; rfl) (by decide) rfl (fun ls hl => ?_)
                  obtain rfl : i_24 = 3 := by rw [ei_24]; exact by decide
                  refine lv_goto (tgt := 9) hx hb d_Bd_isLinked_47 (by decide) ?_
                  refine lv_iload_n hx hb d_Bd_isLinked_9 rfl (lv_at hl 0 rfl) ?_
                  refine lv_iconst (v := 4) hx hb d_Bd_isLinked_10 (by decide) ?_
                  refine lv_icmp_ge (tgt := 50) hx hb d_Bd_isLinked_11 (by decide) (fun c_25 => ?_) (fun c_25 => ?_)
                  · -- taken
                    exact absurd c_25 (by decide)
                  · -- not taken
                    refine lv_iload_n hx hb d_Bd_isLinked_14 rfl (lv_at hl 1 rfl) ?_
                    refine lv_if_eq (tgt := 42) hx hb d_Bd_isLinked_15 (by decide) (fun c_26 => ?_) (fun c_26 => ?_)
                    · -- taken
                      refine lv_iconst (v := 0) hx hb d_Bd_isLinked_42 (by decide) ?_
                      refine lv_istore_n (lv' := [(2, .int 0), (3, .int 3), (0, .ref bd0), (1, .int (nI k))]) hx hb d_Bd_isLinked_43 rfl hl (by decide) rfl (fun ls hl => ?_)
                      obtain ⟨i_27, ei_27⟩ : ∃ y : Int32, y = 3 + 1 := ⟨_, rfl⟩
                      refine lv_iinc (v := i_27) (lv' := [(3, .int i_27), (2, .int 0), (0, .ref bd0), (1, .int (nI k))]) hx hb d_Bd_isLinked_44 hl (k := 1) rfl (by rw [ei_27]; rfl) (by decide) rfl (fun ls hl => ?_)
                      obtain rfl : i_27 = 4 := by rw [ei_27]; exact by decide
                      refine lv_goto (tgt := 9) hx hb d_Bd_isLinked_47 (by decide) ?_
                      refine lv_iload_n hx hb d_Bd_isLinked_9 rfl (lv_at hl 0 rfl) ?_
                      refine lv_iconst (v := 4) hx hb d_Bd_isLinked_10 (by decide) ?_
                      refine lv_icmp_ge (tgt := 50) hx hb d_Bd_isLinked_11 (by decide) (fun c_28 => ?_) (fun c_28 => ?_)
                      · -- taken
                        refine lv_iload_n hx hb d_Bd_isLinked_50 rfl (lv_at hl 1 rfl) ?_
                        exact W.zret (v := 0) hx hb hr (by decide) (fun t ht9 hW => ⟨⟨_, (gwk_1, gsk_1, gtk_1, glk_1), rfl, (bz_0 hbad), by rw [ht9]; exact hP, va_K.moved hW.alike hK, hD⟩, hS.F ht9⟩) hS.2.2 d_Bd_isLinked_51
                      · -- not taken
                        exact absurd c_28 (by decide)
                    · -- not taken
                      exact absurd rfl c_26
                · -- not taken
                  exact absurd rfl c_23
            · -- not taken
              have q1 := (lg_cmp_eq _ _).mp c_20
              refine lv_iconst (v := 1) hx hb d_Bd_isLinked_38 (by decide) ?_
              refine lv_goto (tgt := 43) hx hb d_Bd_isLinked_39 (by decide) ?_
              refine lv_istore_n (lv' := [(2, .int 1), (3, .int 1), (0, .ref bd0), (1, .int (nI k))]) hx hb d_Bd_isLinked_43 rfl hl (by decide) rfl (fun ls hl => ?_)
              obtain ⟨i_29, ei_29⟩ : ∃ y : Int32, y = 1 + 1 := ⟨_, rfl⟩
              refine lv_iinc (v := i_29) (lv' := [(3, .int i_29), (2, .int 1), (0, .ref bd0), (1, .int (nI k))]) hx hb d_Bd_isLinked_44 hl (k := 1) rfl (by rw [ei_29]; rfl) (by decide) rfl (fun ls hl => ?_)
              obtain rfl : i_29 = 2 := by rw [ei_29]; exact by decide
              refine lv_goto (tgt := 9) hx hb d_Bd_isLinked_47 (by decide) ?_
              refine lv_iload_n hx hb d_Bd_isLinked_9 rfl (lv_at hl 0 rfl) ?_
              refine lv_iconst (v := 4) hx hb d_Bd_isLinked_10 (by decide) ?_
              refine lv_icmp_ge (tgt := 50) hx hb d_Bd_isLinked_11 (by decide) (fun c_30 => ?_) (fun c_30 => ?_)
              · -- taken
                exact absurd c_30 (by decide)
              · -- not taken
                refine lv_iload_n hx hb d_Bd_isLinked_14 rfl (lv_at hl 1 rfl) ?_
                refine lv_if_eq (tgt := 42) hx hb d_Bd_isLinked_15 (by decide) (fun c_31 => ?_) (fun c_31 => ?_)
                · -- taken
                  exact absurd c_31 (by decide)
                · -- not taken
                  refine lv_aload_n hx hb d_Bd_isLinked_18 rfl (lv_at hl 2 rfl) ?_
                  refine va_get (D := (dC, dI)) (ci := 3) (v := .ref lo) (C := "BallotBoard$Board") (T := F_Bo) (N := 4) hx hb hts (fun w9 h9 => List.mem_cons_of_mem _ (i_Bo w9 h9)) hown hK hP 0 rfl rfl 2 (by decide) (hts _ (List.mem_cons_of_mem _ gk_62)) (fun _ h9 => h9) rfl d_Bd_isLinked_19 ?_
                  refine lv_iload_n hx hb d_Bd_isLinked_22 rfl (lv_at hl 3 rfl) ?_
                  refine va_aldA hx hb hK hP 2 2 rfl rfl (vp_in_nI (by omega) (by omega)) d_Bd_isLinked_23 (b := lk) (by rw [nI_clamp (by omega)]; exact hlk) ?_
                  refine lv_iload_n hx hb d_Bd_isLinked_24 rfl (lv_at hl 0 rfl) ?_
                  refine va_lald hx hb hK hP 4 0 rfl rfl (vp_lit rfl) d_Bd_isLinked_25 ?_
                  rw [show (lv (2 : Int32).toNatClampNeg : Int64) = lv 2 from rfl]
                  refine lv_aload_n hx hb d_Bd_isLinked_26 rfl (lv_at hl 2 rfl) ?_
                  refine va_get (D := (dC, dI)) (ci := 3) (v := .ref h0) (C := "BallotBoard$Board") (T := F_Bo) (N := 4) hx hb hts (fun w9 h9 => List.mem_cons_of_mem _ (i_Bo w9 h9)) hown hK hP 0 rfl rfl 0 (by decide) (hts _ (List.mem_cons_of_mem _ gk_60)) (fun _ h9 => h9) rfl d_Bd_isLinked_27 ?_
                  refine lv_iload_n hx hb d_Bd_isLinked_30 rfl (lv_at hl 0 rfl) ?_
                  have hPc := hP.sub (ws' := (ha_ws h0 aw ax ay cJ cI gwk_1 gsk_1 gtk_1 glk_1)) [5, 6, 7, 8] rfl
                  have hKc := hK.sub (tys' := [(cJ, .long), (cI, .int)]) [0, 1] rfl
                  refine va_calll (va_runV (As := [.int 2]) (rest := [.long (lv 2)]) ⟨hx, hb, hml, hown, hts⟩ (c_Ha_word l H dC dI h0 aw ax ay cJ cI gwk_1 gsk_1 gtk_1 glk_1 2 hPc (by decide)) (cwV 1 hts (gw_V gk_598 gk_536 gk_537 gk_2 gk_538) rfl rfl rfl (by decide +kernel) ⟨Nat.le_of_ble_eq_true rfl, Nat.le_of_ble_eq_true rfl⟩) ⟨fun a U g mk q => ⟨q.1, q.2.1, va_K.moved (u := U) (U := U.calling g mk a) (Vm.Alike.refl U.vm) q.2.2⟩, va_recv hK hP (ci := 2) (q0 := 5) rfl rfl, fun U hU hW => ⟨rfl, hU, va_K.moved hW.alike hKc⟩⟩ rfl rfl hl.1 rfl (lv_room (Nat.le_of_ble_eq_true rfl)) d_Bd_isLinked_31 ⟨Nat.le_of_ble_eq_true rfl, Nat.le_of_ble_eq_true rfl⟩) hS (fun q _ h => h.elim) (fun q h => h.elim) (fun r31 u9 t9 H1 locs ht hvm hw hB hz1 hk1 hS => ?_)
                  obtain rfl : H = H1 := hB.symm.trans ht
                  have hw : r31 = wd (gtk_1 4) (gtk_1 5) := hw
                  subst hw
                  rw [show (wd (gtk_1 4) (gtk_1 5) : Int64) = (lkw [0, 0, 0, 0, rw 0, rw 1, rw 2, rw 3, rw 4] 2) from lkw_2 hdg]
                  refine W.lcmp hx hb d_Bd_isLinked_34 ?_
                  refine lv_if_ne (tgt := 42) hx hb d_Bd_isLinked_35 (by decide) (fun c_32 => ?_) (fun c_32 => ?_)
                  · -- taken
                    have hbad : ¬ lnk4 lv [0, 0, 0, 0, rw 0, rw 1, rw 2, rw 3, rw 4] := fun h => c_32 ((lg_cmp_eq _ _).mpr h.2.2.1)
                    refine lv_iconst (v := 0) hx hb d_Bd_isLinked_42 (by decide) ?_
                    refine lv_istore_n (lv' := [(2, .int 0), (3, .int 2), (0, .ref bd0), (1, .int (nI k))]) hx hb d_Bd_isLinked_43 rfl hl (by decide) rfl (fun ls hl => ?_)
                    obtain ⟨i_33, ei_33⟩ : ∃ y : Int32, y = 2 + 1 := ⟨_, rfl⟩
                    refine lv_iinc (v := i_33) (lv' := [(3, .int i_33), (2, .int 0), (0, .ref bd0), (1, .int (nI k))]) hx hb d_Bd_isLinked_44 hl (k := 1) rfl (by rw [ei_33]; rfl) (by decide) rfl (fun ls hl => ?_)
                    obtain rfl : i_33 = 3 := by rw [ei_33]; exact by decide
                    refine lv_goto (tgt := 9) hx hb d_Bd_isLinked_47 (by decide) ?_
                    refine lv_iload_n hx hb d_Bd_isLinked_9 rfl (lv_at hl 0 rfl) ?_
                    refine lv_iconst (v := 4) hx hb d_Bd_isLinked_10 (by decide) ?_
                    refine lv_icmp_ge (tgt := 50) hx hb d_Bd_isLinked_11 (by decide) (fun c_34 => ?_) (fun c_34 => ?_)
                    · -- taken
                      exact absurd c_34 (by decide)
                    · -- not taken
                      refine lv_iload_n hx hb d_Bd_isLinked_14 rfl (lv_at hl 1 rfl) ?_
                      refine lv_if_eq (tgt := 42) hx hb d_Bd_isLinked_15 (by decide) (fun c_35 => ?_) (fun c_35 => ?_)
                      · -- taken
                        refine lv_iconst (v := 0) hx hb d_Bd_isLinked_42 (by decide) ?_
                        refine lv_istore_n (lv' := [(2, .int 0), (3, .int 3), (0, .ref bd0), (1, .int (nI k))]) hx hb d_Bd_isLinked_43 rfl hl (by decide) rfl (fun ls hl => ?_)
                        obtain ⟨i_36, ei_36⟩ : ∃ y : Int32, y = 3 + 1 := ⟨_, rfl⟩
                        refine lv_iinc (v := i_36) (lv' := [(3, .int i_36), (2, .int 0), (0, .ref bd0), (1, .int (nI k))]) hx hb d_Bd_isLinked_44 hl (k := 1) rfl (by rw [ei_36]; rfl) (by decide) rfl (fun ls hl => ?_)
                        obtain rfl : i_36 = 4 := by rw [ei_36]; exact by decide
                        refine lv_goto (tgt := 9) hx hb d_Bd_isLinked_47 (by decide) ?_
                        refine lv_iload_n hx hb d_Bd_isLinked_9 rfl (lv_at hl 0 rfl) ?_
                        refine lv_iconst (v := 4) hx hb d_Bd_isLinked_10 (by decide) ?_
                        refine lv_icmp_ge (tgt := 50) hx hb d_Bd_isLinked_11 (by decide) (fun c_37 => ?_) (fun c_37 => ?_)
                        · -- taken
                          refine lv_iload_n hx hb d_Bd_isLinked_50 rfl (lv_at hl 1 rfl) ?_
                          exact W.zret (v := 0) hx hb hr (by decide) (fun t ht9 hW => ⟨⟨_, (gwk_1, gsk_1, gtk_1, glk_1), rfl, (bz_0 hbad), by rw [ht9]; exact hP, va_K.moved hW.alike hK, hD⟩, hS.F ht9⟩) hS.2.2 d_Bd_isLinked_51
                        · -- not taken
                          exact absurd c_37 (by decide)
                      · -- not taken
                        exact absurd rfl c_35
                  · -- not taken
                    have q2 := (lg_cmp_eq _ _).mp c_32
                    refine lv_iconst (v := 1) hx hb d_Bd_isLinked_38 (by decide) ?_
                    refine lv_goto (tgt := 43) hx hb d_Bd_isLinked_39 (by decide) ?_
                    refine lv_istore_n (lv' := [(2, .int 1), (3, .int 2), (0, .ref bd0), (1, .int (nI k))]) hx hb d_Bd_isLinked_43 rfl hl (by decide) rfl (fun ls hl => ?_)
                    obtain ⟨i_38, ei_38⟩ : ∃ y : Int32, y = 2 + 1 := ⟨_, rfl⟩
                    refine lv_iinc (v := i_38) (lv' := [(3, .int i_38), (2, .int 1), (0, .ref bd0), (1, .int (nI k))]) hx hb d_Bd_isLinked_44 hl (k := 1) rfl (by rw [ei_38]; rfl) (by decide) rfl (fun ls hl => ?_)
                    obtain rfl : i_38 = 3 := by rw [ei_38]; exact by decide
                    refine lv_goto (tgt := 9) hx hb d_Bd_isLinked_47 (by decide) ?_
                    refine lv_iload_n hx hb d_Bd_isLinked_9 rfl (lv_at hl 0 rfl) ?_
                    refine lv_iconst (v := 4) hx hb d_Bd_isLinked_10 (by decide) ?_
                    refine lv_icmp_ge (tgt := 50) hx hb d_Bd_isLinked_11 (by decide) (fun c_39 => ?_) (fun c_39 => ?_)
                    · -- taken
                      exact absurd c_39 (by decide)
                    · -- not taken
                      refine lv_iload_n hx hb d_Bd_isLinked_14 rfl (lv_at hl 1 rfl) ?_
                      refine lv_if_eq (tgt := 42) hx hb d_Bd_isLinked_15 (by decide) (fun c_40 => ?_) (fun c_40 => ?_)
                      · -- taken
                        exact absurd c_40 (by decide)
                      · -- not taken
                        refine lv_aload_n hx hb d_Bd_isLinked_18 rfl (lv_at hl 2 rfl) ?_
                        refine va_get (D := (dC, dI)) (ci := 3) (v := .ref lo) (C := "BallotBoard$Board") (T := F_Bo) (N := 4) hx hb hts (fun w9 h9 => List.mem_cons_of_mem _ (i_Bo w9 h9)) hown hK hP 0 rfl rfl 2 (by decide) (hts _ (List.mem_cons_of_mem _ gk_62)) (fun _ h9 => h9) rfl d_Bd_isLinked_19 ?_
                        refine lv_iload_n hx hb d_Bd_isLinked_22 rfl (lv_at hl 3 rfl) ?_
                        refine va_aldA hx hb hK hP 2 2 rfl rfl (vp_in_nI (by omega) (by omega)) d_Bd_isLinked_23 (b := lk) (by rw [nI_clamp (by omega)]; exact hlk) ?_
                        refine lv_iload_n hx hb d_Bd_isLinked_24 rfl (lv_at hl 0 rfl) ?_
                        refine va_lald hx hb hK hP 4 0 rfl rfl (vp_lit rfl) d_Bd_isLinked_25 ?_
                        rw [show (lv (3 : Int32).toNatClampNeg : Int64) = lv 3 from rfl]
                        refine lv_aload_n hx hb d_Bd_isLinked_26 rfl (lv_at hl 2 rfl) ?_
                        refine va_get (D := (dC, dI)) (ci := 3) (v := .ref h0) (C := "BallotBoard$Board") (T := F_Bo) (N := 4) hx hb hts (fun w9 h9 => List.mem_cons_of_mem _ (i_Bo w9 h9)) hown hK hP 0 rfl rfl 0 (by decide) (hts _ (List.mem_cons_of_mem _ gk_60)) (fun _ h9 => h9) rfl d_Bd_isLinked_27 ?_
                        refine lv_iload_n hx hb d_Bd_isLinked_30 rfl (lv_at hl 0 rfl) ?_
                        have hPc := hP.sub (ws' := (ha_ws h0 aw ax ay cJ cI gwk_1 gsk_1 gtk_1 glk_1)) [5, 6, 7, 8] rfl
                        have hKc := hK.sub (tys' := [(cJ, .long), (cI, .int)]) [0, 1] rfl
                        refine va_calll (va_runV (As := [.int 3]) (rest := [.long (lv 3)]) ⟨hx, hb, hml, hown, hts⟩ (c_Ha_word l H dC dI h0 aw ax ay cJ cI gwk_1 gsk_1 gtk_1 glk_1 3 hPc (by decide)) (cwV 1 hts (gw_V gk_598 gk_536 gk_537 gk_2 gk_538) rfl rfl rfl (by decide +kernel) ⟨Nat.le_of_ble_eq_true rfl, Nat.le_of_ble_eq_true rfl⟩) ⟨fun a U g mk q => ⟨q.1, q.2.1, va_K.moved (u := U) (U := U.calling g mk a) (Vm.Alike.refl U.vm) q.2.2⟩, va_recv hK hP (ci := 2) (q0 := 5) rfl rfl, fun U hU hW => ⟨rfl, hU, va_K.moved hW.alike hKc⟩⟩ rfl rfl hl.1 rfl (lv_room (Nat.le_of_ble_eq_true rfl)) d_Bd_isLinked_31 ⟨Nat.le_of_ble_eq_true rfl, Nat.le_of_ble_eq_true rfl⟩) hS (fun q _ h => h.elim) (fun q h => h.elim) (fun r31 u9 t9 H1 locs ht hvm hw hB hz1 hk1 hS => ?_)
                        obtain rfl : H = H1 := hB.symm.trans ht
                        have hw : r31 = wd (gtk_1 6) (gtk_1 7) := hw
                        subst hw
                        rw [show (wd (gtk_1 6) (gtk_1 7) : Int64) = (lkw [0, 0, 0, 0, rw 0, rw 1, rw 2, rw 3, rw 4] 3) from lkw_3 hdg]
                        refine W.lcmp hx hb d_Bd_isLinked_34 ?_
                        refine lv_if_ne (tgt := 42) hx hb d_Bd_isLinked_35 (by decide) (fun c_41 => ?_) (fun c_41 => ?_)
                        · -- taken
                          have hbad : ¬ lnk4 lv [0, 0, 0, 0, rw 0, rw 1, rw 2, rw 3, rw 4] := fun h => c_41 ((lg_cmp_eq _ _).mpr h.2.2.2)
                          refine lv_iconst (v := 0) hx hb d_Bd_isLinked_42 (by decide) ?_
                          refine lv_istore_n (lv' := [(2, .int 0), (3, .int 3), (0, .ref bd0), (1, .int (nI k))]) hx hb d_Bd_isLinked_43 rfl hl (by decide) rfl (fun ls hl => ?_)
                          obtain ⟨i_42, ei_42⟩ : ∃ y : Int32, y = 3 + 1 := ⟨_, rfl⟩
                          refine lv_iinc (v := i_42) (lv' := [(3, .int i_42), (2, .int 0), (0, .ref bd0), (1, .int (nI k))]) hx hb d_Bd_isLinked_44 hl (k := 1) rfl (by rw [ei_42]; rfl) (by decide) rfl (fun ls hl => ?_)
                          obtain rfl : i_42 = 4 := by rw [ei_42]; exact by decide
                          refine lv_goto (tgt := 9) hx hb d_Bd_isLinked_47 (by decide) ?_
                          refine lv_iload_n hx hb d_Bd_isLinked_9 rfl (lv_at hl 0 rfl) ?_
                          refine lv_iconst (v := 4) hx hb d_Bd_isLinked_10 (by decide) ?_
                          refine lv_icmp_ge (tgt := 50) hx hb d_Bd_isLinked_11 (by decide) (fun c_43 => ?_) (fun c_43 => ?_)
                          · -- taken
                            refine lv_iload_n hx hb d_Bd_isLinked_50 rfl (lv_at hl 1 rfl) ?_
                            exact W.zret (v := 0) hx hb hr (by decide) (fun t ht9 hW => ⟨⟨_, (gwk_1, gsk_1, gtk_1, glk_1), rfl, (bz_0 hbad), by rw [ht9]; exact hP, va_K.moved hW.alike hK, hD⟩, hS.F ht9⟩) hS.2.2 d_Bd_isLinked_51
                          · -- not taken
                            exact absurd c_43 (by decide)
                        · -- not taken
                          have q3 := (lg_cmp_eq _ _).mp c_41
                          refine lv_iconst (v := 1) hx hb d_Bd_isLinked_38 (by decide) ?_
                          refine lv_goto (tgt := 43) hx hb d_Bd_isLinked_39 (by decide) ?_
                          refine lv_istore_n (lv' := [(2, .int 1), (3, .int 3), (0, .ref bd0), (1, .int (nI k))]) hx hb d_Bd_isLinked_43 rfl hl (by decide) rfl (fun ls hl => ?_)
                          obtain ⟨i_44, ei_44⟩ : ∃ y : Int32, y = 3 + 1 := ⟨_, rfl⟩
                          refine lv_iinc (v := i_44) (lv' := [(3, .int i_44), (2, .int 1), (0, .ref bd0), (1, .int (nI k))]) hx hb d_Bd_isLinked_44 hl (k := 1) rfl (by rw [ei_44]; rfl) (by decide) rfl (fun ls hl => ?_)
                          obtain rfl : i_44 = 4 := by rw [ei_44]; exact by decide
                          refine lv_goto (tgt := 9) hx hb d_Bd_isLinked_47 (by decide) ?_
                          refine lv_iload_n hx hb d_Bd_isLinked_9 rfl (lv_at hl 0 rfl) ?_
                          refine lv_iconst (v := 4) hx hb d_Bd_isLinked_10 (by decide) ?_
                          refine lv_icmp_ge (tgt := 50) hx hb d_Bd_isLinked_11 (by decide) (fun c_45 => ?_) (fun c_45 => ?_)
                          · -- taken
                            refine lv_iload_n hx hb d_Bd_isLinked_50 rfl (lv_at hl 1 rfl) ?_
                            exact W.zret (v := 1) hx hb hr (by decide) (fun t ht9 hW => ⟨⟨_, (gwk_1, gsk_1, gtk_1, glk_1), rfl, (bz_1 ⟨q0, q1, q2, q3⟩), by rw [ht9]; exact hP, va_K.moved hW.alike hK, hD⟩, hS.F ht9⟩) hS.2.2 d_Bd_isLinked_51
                          · -- not taken
                            exact absurd c_45 (by decide)
set_option maxHeartbeats 8000000 in
set_option maxRecDepth 100000 in
theorem c_Bd_isLinked_5 (l : Launch) (dC : Nat → ClassId) (dI : Nat → Nat → Nat) (cJ cI cR : ClassId) (sz : Nat) (bd0 h0 ro lo n : Nat) (rr lr : Nat → Option Nat) (aw ax ay : Nat) (w : Nat → Int64) (sc st : Nat → Int32) (L : Nat) (rA sA : Nat) (k rk : Nat) (rw : Nat → Int64) (K : Nat) (lp : Nat) (lw : Nat → Int64) (lk : Nat) (lv : Nat → Int64) (hk : k < 154) (hrk : rr k = some rk) (hr0 : rw 0 = lN K) (hK4 : K < 4) (hK2 : ¬ K = 2) (hk0 : 0 < k) (hlp : lr (k - 1) = some lp) (hlk : lr k = some lk) : Met l y_Bd_isLinked w_Bd_isLinked ({ frames := 4, cells := 0, slots := 0, locals := 105 }) (va_Pc [.ref bd0, .int (nI k)] (fun U => U.heap.size = sz ∧ va_P (dC, dI) classes (bd_ws bd0 h0 ro lo n cR rr lr ++ (rw_ws rk cJ rw ++ (lk_ws lp cJ lw ++ (lk_ws lk cJ lv ++ (ha_ws h0 aw ax ay cJ cI w sc st L))))) U.heap ∧ va_K (dC, dI) classes [(cJ, .long), (cI, .int), (cR, .array .long)] U ∧ va_D (fun _ => True) (bd_ws bd0 h0 ro lo n cR rr lr ++ (rw_ws rk cJ rw ++ (lk_ws lp cJ lw ++ (lk_ws lk cJ lv ++ (ha_ws h0 aw ax ay cJ cI w sc st L))))) ∧ ha_Z rA sA (va_A (bd_ws bd0 h0 ro lo n cR rr lr ++ (rw_ws rk cJ rw ++ (lk_ws lp cJ lw ++ (lk_ws lk cJ lv ++ (ha_ws h0 aw ax ay cJ cI w sc st L))))) sz) U U.heap)) (va_Qi (fun (r : Int32) (u9 : HU) => bz r (lnk4 lv [lw 0, lw 1, lw 2, lw 3, rw 0, rw 1, rw 2, rw 3, rw 4])) (fun u9 t => va_P (dC, dI) classes (bd_ws bd0 h0 ro lo n cR rr lr ++ (rw_ws rk cJ rw ++ (lk_ws lp cJ lw ++ (lk_ws lk cJ lv ++ (hu_ws h0 aw ax ay cJ cI u9))))) t.heap ∧ va_K (dC, dI) classes [(cJ, .long), (cI, .int), (cR, .array .long)] t ∧ va_D (va_A (bd_ws bd0 h0 ro lo n cR rr lr ++ (rw_ws rk cJ rw ++ (lk_ws lp cJ lw ++ (lk_ws lk cJ lv ++ (ha_ws h0 aw ax ay cJ cI w sc st L))))) sz) (bd_ws bd0 h0 ro lo n cR rr lr ++ (rw_ws rk cJ rw ++ (lk_ws lp cJ lw ++ (lk_ws lk cJ lv ++ (hu_ws h0 aw ax ay cJ cI u9)))))) (va_A (bd_ws bd0 h0 ro lo n cR rr lr ++ (rw_ws rk cJ rw ++ (lk_ws lp cJ lw ++ (lk_ws lk cJ lv ++ (ha_ws h0 aw ax ay cJ cI w sc st L))))) sz)) 0 0 (va_A (bd_ws bd0 h0 ro lo n cR rr lr ++ (rw_ws rk cJ rw ++ (lk_ws lp cJ lw ++ (lk_ws lk cJ lv ++ (ha_ws h0 aw ax ay cJ cI w sc st L))))) sz) := by
  refine Met.ofW (cc := b_Bd_isLinked) (maxL := 4) (ret := (some .boolean)) (by decide) rfl ?_
  intro p e s m args below meth c s₁ Bd hml hv
  obtain ⟨rfl, hsz, hP, hK, hD0, hZha⟩ := hv
  have hx := Bd.exec
  have hb := Bd.bytes
  have hr := Bd.returns
  have hts := atoms_spec (ws := w_Bd_isLinked) Bd.pre
  have hown : s.vm.findClass "BallotBoard$Board" = some m.cls := findClass_of_methodNamed Bd.named
  have hlocks := Bd.notSynchronized
  subst hsz
  have hD := hD0.self (sz := s.heap.size)
  generalize hAe : va_A (bd_ws bd0 h0 ro lo n cR rr lr ++ (rw_ws rk cJ rw ++ (lk_ws lp cJ lw ++ (lk_ws lk cJ lv ++ (ha_ws h0 aw ax ay cJ cI w sc st L))))) s.heap.size = A at hD hZha ⊢
  have hA : ∀ q : Nat, s.heap.size ≤ q → A q := fun q h => by rw [← hAe]; exact Or.inr h
  have hS : va_S A s.heap s.heap [] := va_S.rf
  have hl := lv_entry ([.ref bd0, .int (nI k)]) (n := 4) (Nat.le_of_ble_eq_true rfl)
  rw [lg_entry_eq]
  generalize (lg_sl ([.ref bd0, .int (nI k)]) ++ List.replicate (4 - (lg_sl ([.ref bd0, .int (nI k)])).length) Slot.unset).toArray = ls at hl ⊢
  have hl : lv_has ls 4 [(0, .ref bd0), (1, .int (nI k))] := hl
  refine lv_aload_n hx hb d_Bd_isLinked_0 rfl (lv_at hl 0 rfl) ?_
  refine lv_iload_n hx hb d_Bd_isLinked_1 rfl (lv_at hl 1 rfl) ?_
  have hPc := hP.sub (ws' := (bd_ws bd0 h0 ro lo n cR rr lr ++ (rw_ws rk cJ rw ++ (lk_ws lp cJ lw ++ (ha_ws h0 aw ax ay cJ cI w sc st L))))) [0, 1, 2, 3, 4, 6, 7, 8, 9] rfl
  have hDc := hD.sub (ws' := (bd_ws bd0 h0 ro lo n cR rr lr ++ (rw_ws rk cJ rw ++ (lk_ws lp cJ lw ++ (ha_ws h0 aw ax ay cJ cI w sc st L))))) [0, 1, 2, 3, 4, 6, 7, 8, 9] (by decide) rfl
  have hKc := hK.sub (tys' := [(cJ, .long), (cI, .int), (cR, .array .long)]) [0, 1, 2] rfl
  have hFc := va_free (wc := (bd_ws bd0 h0 ro lo n cR rr lr ++ (rw_ws rk cJ rw ++ (lk_ws lp cJ lw ++ (ha_ws h0 aw ax ay cJ cI w sc st L))))) hD hS hA [0, 1, 2, 3, 4, 6, 7, 8, 9] rfl
  have hZc0 : ha_Z rA sA (va_A (bd_ws bd0 h0 ro lo n cR rr lr ++ (rw_ws rk cJ rw ++ (lk_ws lp cJ lw ++ (ha_ws h0 aw ax ay cJ cI w sc st L)))) s.heap.size) s s.heap := (hZha.kept hS.2.1).narrow hFc
  refine va_callv (va_runV (As := [.int (nI k)]) (rest := []) ⟨hx, hb, hml, hown, hts⟩ (c_Bd_hashEntry_5 l dC dI cJ cI cR s.heap.size bd0 h0 ro lo n rr lr aw ax ay w sc st L rA sA k rk rw K lp lw hk hrk hr0 hK4 hK2 hk0 hlp) (cwV 1 hts (gw_V gk_587 gk_589 gp_20 gk_3 gk_590) rfl rfl rfl (by decide +kernel) ⟨Nat.le_of_ble_eq_true rfl, Nat.le_of_ble_eq_true rfl⟩) ⟨fun a U g mk q => by obtain ⟨q0, q1, qP, qK, qD, qZ0⟩ := q; exact ⟨q0, q1, qP, va_K.moved (u := U) (U := U.calling g mk a) (Vm.Alike.refl U.vm) qK, qD, ha_Z.moved (u := U) (U := U.calling g mk a) (Vm.Alike.refl U.vm) qZ0⟩, va_recv hK hP (ci := 3) (q0 := 0) rfl rfl, fun U hU hW => ⟨rfl, by rw [hU], by rw [hU]; exact hPc, va_K.moved hW.alike hKc, hDc.weaken (fun _ _ _ _ => trivial), by rw [hU]; exact ha_Z.moved hW.alike hZc0⟩⟩ rfl rfl hl.1 rfl (lv_room (Nat.le_of_ble_eq_true rfl)) d_Bd_isLinked_2 ⟨Nat.le_of_ble_eq_true rfl, Nat.le_of_ble_eq_true rfl⟩) hS (fun q _ h => hFc q h) hFc (fun u9 t9 H1 locs ht hvm hw hB hz1 hk1 hS => ?_)
  obtain ⟨gwk_1, gsk_1, gtk_1, glk_1⟩ := u9
  have hdg : dgo gtk_1 [lw 0, lw 1, lw 2, lw 3, rw 0, rw 1, rw 2, rw 3, rw 4] := hw
  obtain ⟨hP1, hK1, hD1⟩ := hB
  rw [ht] at hP1
  obtain ⟨hP, hD⟩ := va_join (wr := [(lk, .inl (cJ, 4, .inr (.inl lv)))]) (w1 := [(bd0, .inr (3, [.ref h0, .ref ro, .ref lo, .int (nI n)])), (ro, .inl (cR, 154, .inr (.inr (.inr (.inr rr))))), (lo, .inl (cR, 154, .inr (.inr (.inr (.inr lr))))), (rk, .inl (cJ, 8, .inr (.inl rw))), (lp, .inl (cJ, 4, .inr (.inl lw))), (h0, .inr (2, [.ref aw, .ref ax, .ref ay, .int (nI glk_1)])), (aw, .inl (cJ, 16, .inr (.inl gwk_1))), (ax, .inl (cI, 64, .inl gsk_1)), (ay, .inl (cI, 8, .inl gtk_1))]) hP hD [0, 1, 2, 3, 4, 6, 7, 8, 9] [5] rfl rfl (by decide) (by decide) hk1 hFc hP1 hD1
  have hP := hP.sub (ws' := [(bd0, .inr (3, [.ref h0, .ref ro, .ref lo, .int (nI n)])), (ro, .inl (cR, 154, .inr (.inr (.inr (.inr rr))))), (lo, .inl (cR, 154, .inr (.inr (.inr (.inr lr))))), (rk, .inl (cJ, 8, .inr (.inl rw))), (lp, .inl (cJ, 4, .inr (.inl lw))), (lk, .inl (cJ, 4, .inr (.inl lv))), (h0, .inr (2, [.ref aw, .ref ax, .ref ay, .int (nI glk_1)])), (aw, .inl (cJ, 16, .inr (.inl gwk_1))), (ax, .inl (cI, 64, .inl gsk_1)), (ay, .inl (cI, 8, .inl gtk_1))]) [1, 2, 3, 4, 5, 0, 6, 7, 8, 9] rfl
  have hD := hD.sub (ws' := [(bd0, .inr (3, [.ref h0, .ref ro, .ref lo, .int (nI n)])), (ro, .inl (cR, 154, .inr (.inr (.inr (.inr rr))))), (lo, .inl (cR, 154, .inr (.inr (.inr (.inr lr))))), (rk, .inl (cJ, 8, .inr (.inl rw))), (lp, .inl (cJ, 4, .inr (.inl lw))), (lk, .inl (cJ, 4, .inr (.inl lv))), (h0, .inr (2, [.ref aw, .ref ax, .ref ay, .int (nI glk_1)])), (aw, .inl (cJ, 16, .inr (.inl gwk_1))), (ax, .inl (cI, 64, .inl gsk_1)), (ay, .inl (cI, 8, .inl gtk_1))]) [1, 2, 3, 4, 5, 0, 6, 7, 8, 9] (by decide) rfl
  generalize H1 = H at hP hS ⊢
  refine lv_iconst (v := 1) hx hb d_Bd_isLinked_5 (by decide) ?_
  refine lv_istore_n (lv' := [(2, .int 1), (0, .ref bd0), (1, .int (nI k))]) hx hb d_Bd_isLinked_6 rfl hl (by decide) rfl (fun ls hl => ?_)
  refine lv_iconst (v := 0) hx hb d_Bd_isLinked_7 (by decide) ?_
  refine lv_istore_n (lv' := [(3, .int 0), (2, .int 1), (0, .ref bd0), (1, .int (nI k))]) hx hb d_Bd_isLinked_8 rfl hl (by decide) rfl (fun ls hl => ?_)
  refine lv_iload_n hx hb d_Bd_isLinked_9 rfl (lv_at hl 0 rfl) ?_
  refine lv_iconst (v := 4) hx hb d_Bd_isLinked_10 (by decide) ?_
  refine lv_icmp_ge (tgt := 50) hx hb d_Bd_isLinked_11 (by decide) (fun c_3 => ?_) (fun c_3 => ?_)
  · -- taken
    exact absurd c_3 (by decide)
  · -- not taken
    refine lv_iload_n hx hb d_Bd_isLinked_14 rfl (lv_at hl 1 rfl) ?_
    refine lv_if_eq (tgt := 42) hx hb d_Bd_isLinked_15 (by decide) (fun c_4 => ?_) (fun c_4 => ?_)
    · -- taken
      exact absurd c_4 (by decide)
    · -- not taken
      refine lv_aload_n hx hb d_Bd_isLinked_18 rfl (lv_at hl 2 rfl) ?_
      refine va_get (D := (dC, dI)) (ci := 3) (v := .ref lo) (C := "BallotBoard$Board") (T := F_Bo) (N := 4) hx hb hts (fun w9 h9 => List.mem_cons_of_mem _ (i_Bo w9 h9)) hown hK hP 0 rfl rfl 2 (by decide) (hts _ (List.mem_cons_of_mem _ gk_62)) (fun _ h9 => h9) rfl d_Bd_isLinked_19 ?_
      refine lv_iload_n hx hb d_Bd_isLinked_22 rfl (lv_at hl 3 rfl) ?_
      refine va_aldA hx hb hK hP 2 2 rfl rfl (vp_in_nI (by omega) (by omega)) d_Bd_isLinked_23 (b := lk) (by rw [nI_clamp (by omega)]; exact hlk) ?_
      refine lv_iload_n hx hb d_Bd_isLinked_24 rfl (lv_at hl 0 rfl) ?_
      refine va_lald hx hb hK hP 5 0 rfl rfl (vp_lit rfl) d_Bd_isLinked_25 ?_
      rw [show (lv (0 : Int32).toNatClampNeg : Int64) = lv 0 from rfl]
      refine lv_aload_n hx hb d_Bd_isLinked_26 rfl (lv_at hl 2 rfl) ?_
      refine va_get (D := (dC, dI)) (ci := 3) (v := .ref h0) (C := "BallotBoard$Board") (T := F_Bo) (N := 4) hx hb hts (fun w9 h9 => List.mem_cons_of_mem _ (i_Bo w9 h9)) hown hK hP 0 rfl rfl 0 (by decide) (hts _ (List.mem_cons_of_mem _ gk_60)) (fun _ h9 => h9) rfl d_Bd_isLinked_27 ?_
      refine lv_iload_n hx hb d_Bd_isLinked_30 rfl (lv_at hl 0 rfl) ?_
      have hPc := hP.sub (ws' := (ha_ws h0 aw ax ay cJ cI gwk_1 gsk_1 gtk_1 glk_1)) [6, 7, 8, 9] rfl
      have hKc := hK.sub (tys' := [(cJ, .long), (cI, .int)]) [0, 1] rfl
      refine va_calll (va_runV (As := [.int 0]) (rest := [.long (lv 0)]) ⟨hx, hb, hml, hown, hts⟩ (c_Ha_word l H dC dI h0 aw ax ay cJ cI gwk_1 gsk_1 gtk_1 glk_1 0 hPc (by decide)) (cwV 1 hts (gw_V gk_598 gk_536 gk_537 gk_2 gk_538) rfl rfl rfl (by decide +kernel) ⟨Nat.le_of_ble_eq_true rfl, Nat.le_of_ble_eq_true rfl⟩) ⟨fun a U g mk q => ⟨q.1, q.2.1, va_K.moved (u := U) (U := U.calling g mk a) (Vm.Alike.refl U.vm) q.2.2⟩, va_recv hK hP (ci := 2) (q0 := 6) rfl rfl, fun U hU hW => ⟨rfl, hU, va_K.moved hW.alike hKc⟩⟩ rfl rfl hl.1 rfl (lv_room (Nat.le_of_ble_eq_true rfl)) d_Bd_isLinked_31 ⟨Nat.le_of_ble_eq_true rfl, Nat.le_of_ble_eq_true rfl⟩) hS (fun q _ h => h.elim) (fun q h => h.elim) (fun r31 u9 t9 H1 locs ht hvm hw hB hz1 hk1 hS => ?_)
      obtain rfl : H = H1 := hB.symm.trans ht
      have hw : r31 = wd (gtk_1 0) (gtk_1 1) := hw
      subst hw
      rw [show (wd (gtk_1 0) (gtk_1 1) : Int64) = (lkw [lw 0, lw 1, lw 2, lw 3, rw 0, rw 1, rw 2, rw 3, rw 4] 0) from lkw_0 hdg]
      refine W.lcmp hx hb d_Bd_isLinked_34 ?_
      refine lv_if_ne (tgt := 42) hx hb d_Bd_isLinked_35 (by decide) (fun c_5 => ?_) (fun c_5 => ?_)
      · -- taken
        have hbad : ¬ lnk4 lv [lw 0, lw 1, lw 2, lw 3, rw 0, rw 1, rw 2, rw 3, rw 4] := fun h => c_5 ((lg_cmp_eq _ _).mpr h.1)
        refine lv_iconst (v := 0) hx hb d_Bd_isLinked_42 (by decide) ?_
        refine lv_istore_n (lv' := [(2, .int 0), (3, .int 0), (0, .ref bd0), (1, .int (nI k))]) hx hb d_Bd_isLinked_43 rfl hl (by decide) rfl (fun ls hl => ?_)
        obtain ⟨i_6, ei_6⟩ : ∃ y : Int32, y = 0 + 1 := ⟨_, rfl⟩
        refine lv_iinc (v := i_6) (lv' := [(3, .int i_6), (2, .int 0), (0, .ref bd0), (1, .int (nI k))]) hx hb d_Bd_isLinked_44 hl (k := 1) rfl (by rw [ei_6]; rfl) (by decide) rfl (fun ls hl => ?_)
        obtain rfl : i_6 = 1 := by rw [ei_6]; exact by decide
        refine lv_goto (tgt := 9) hx hb d_Bd_isLinked_47 (by decide) ?_
        refine lv_iload_n hx hb d_Bd_isLinked_9 rfl (lv_at hl 0 rfl) ?_
        refine lv_iconst (v := 4) hx hb d_Bd_isLinked_10 (by decide) ?_
        refine lv_icmp_ge (tgt := 50) hx hb d_Bd_isLinked_11 (by decide) (fun c_7 => ?_) (fun c_7 => ?_)
        · -- taken
          exact absurd c_7 (by decide)
        · -- not taken
          refine lv_iload_n hx hb d_Bd_isLinked_14 rfl (lv_at hl 1 rfl) ?_
          refine lv_if_eq (tgt := 42) hx hb d_Bd_isLinked_15 (by decide) (fun c_8 => ?_) (fun c_8 => ?_)
          · -- taken
            refine lv_iconst (v := 0) hx hb d_Bd_isLinked_42 (by decide) ?_
            refine lv_istore_n (lv' := [(2, .int 0), (3, .int 1), (0, .ref bd0), (1, .int (nI k))]) hx hb d_Bd_isLinked_43 rfl hl (by decide) rfl (fun ls hl => ?_)
            obtain ⟨i_9, ei_9⟩ : ∃ y : Int32, y = 1 + 1 := ⟨_, rfl⟩
            refine lv_iinc (v := i_9) (lv' := [(3, .int i_9), (2, .int 0), (0, .ref bd0), (1, .int (nI k))]) hx hb d_Bd_isLinked_44 hl (k := 1) rfl (by rw [ei_9]; rfl) (by decide) rfl (fun ls hl => ?_)
            obtain rfl : i_9 = 2 := by rw [ei_9]; exact by decide
            refine lv_goto (tgt := 9) hx hb d_Bd_isLinked_47 (by decide) ?_
            refine lv_iload_n hx hb d_Bd_isLinked_9 rfl (lv_at hl 0 rfl) ?_
            refine lv_iconst (v := 4) hx hb d_Bd_isLinked_10 (by decide) ?_
            refine lv_icmp_ge (tgt := 50) hx hb d_Bd_isLinked_11 (by decide) (fun c_10 => ?_) (fun c_10 => ?_)
            · -- taken
              exact absurd c_10 (by decide)
            · -- not taken
              refine lv_iload_n hx hb d_Bd_isLinked_14 rfl (lv_at hl 1 rfl) ?_
              refine lv_if_eq (tgt := 42) hx hb d_Bd_isLinked_15 (by decide) (fun c_11 => ?_) (fun c_11 => ?_)
              · -- taken
                refine lv_iconst (v := 0) hx hb d_Bd_isLinked_42 (by decide) ?_
                refine lv_istore_n (lv' := [(2, .int 0), (3, .int 2), (0, .ref bd0), (1, .int (nI k))]) hx hb d_Bd_isLinked_43 rfl hl (by decide) rfl (fun ls hl => ?_)
                obtain ⟨i_12, ei_12⟩ : ∃ y : Int32, y = 2 + 1 := ⟨_, rfl⟩
                refine lv_iinc (v := i_12) (lv' := [(3, .int i_12), (2, .int 0), (0, .ref bd0), (1, .int (nI k))]) hx hb d_Bd_isLinked_44 hl (k := 1) rfl (by rw [ei_12]; rfl) (by decide) rfl (fun ls hl => ?_)
                obtain rfl : i_12 = 3 := by rw [ei_12]; exact by decide
                refine lv_goto (tgt := 9) hx hb d_Bd_isLinked_47 (by decide) ?_
                refine lv_iload_n hx hb d_Bd_isLinked_9 rfl (lv_at hl 0 rfl) ?_
                refine lv_iconst (v := 4) hx hb d_Bd_isLinked_10 (by decide) ?_
                refine lv_icmp_ge (tgt := 50) hx hb d_Bd_isLinked_11 (by decide) (fun c_13 => ?_) (fun c_13 => ?_)
                · -- taken
                  exact absurd c_13 (by decide)
                · -- not taken
                  refine lv_iload_n hx hb d_Bd_isLinked_14 rfl (lv_at hl 1 rfl) ?_
                  refine lv_if_eq (tgt := 42) hx hb d_Bd_isLinked_15 (by decide) (fun c_14 => ?_) (fun c_14 => ?_)
                  · -- taken
                    refine lv_iconst (v := 0) hx hb d_Bd_isLinked_42 (by decide) ?_
                    refine lv_istore_n (lv' := [(2, .int 0), (3, .int 3), (0, .ref bd0), (1, .int (nI k))]) hx hb d_Bd_isLinked_43 rfl hl (by decide) rfl (fun ls hl => ?_)
                    obtain ⟨i_15, ei_15⟩ : ∃ y : Int32, y = 3 + 1 := ⟨_, rfl⟩
                    refine lv_iinc (v := i_15) (lv' := [(3, .int i_15), (2, .int 0), (0, .ref bd0), (1, .int (nI k))]) hx hb d_Bd_isLinked_44 hl (k := 1) rfl (by rw [ei_15]; rfl) (by decide) rfl (fun ls hl => ?_)
                    obtain rfl : i_15 = 4 := by rw [ei_15]; exact by decide
                    refine lv_goto (tgt := 9) hx hb d_Bd_isLinked_47 (by decide) ?_
                    refine lv_iload_n hx hb d_Bd_isLinked_9 rfl (lv_at hl 0 rfl) ?_
                    refine lv_iconst (v := 4) hx hb d_Bd_isLinked_10 (by decide) ?_
                    refine lv_icmp_ge (tgt := 50) hx hb d_Bd_isLinked_11 (by decide) (fun c_16 => ?_) (fun c_16 => ?_)
                    · -- taken
                      refine lv_iload_n hx hb d_Bd_isLinked_50 rfl (lv_at hl 1 rfl) ?_
                      exact W.zret (v := 0) hx hb hr (by decide) (fun t ht9 hW => ⟨⟨_, (gwk_1, gsk_1, gtk_1, glk_1), rfl, (bz_0 hbad), by rw [ht9]; exact hP, va_K.moved hW.alike hK, hD⟩, hS.F ht9⟩) hS.2.2 d_Bd_isLinked_51
                    · -- not taken
                      exact absurd c_16 (by decide)
                  · -- not taken
                    exact absurd rfl c_14
              · -- not taken
                exact absurd rfl c_11
          · -- not taken
            exact absurd rfl c_8
      · -- not taken
        have q0 := (lg_cmp_eq _ _).mp c_5
        refine lv_iconst (v := 1) hx hb d_Bd_isLinked_38 (by decide) ?_
        refine lv_goto (tgt := 43) hx hb d_Bd_isLinked_39 (by decide) ?_
        refine lv_istore_n (lv' := [(2, .int 1), (3, .int 0), (0, .ref bd0), (1, .int (nI k))]) hx hb d_Bd_isLinked_43 rfl hl (by decide) rfl (fun ls hl => ?_)
        obtain ⟨i_17, ei_17⟩ : ∃ y : Int32, y = 0 + 1 := ⟨_, rfl⟩
        refine lv_iinc (v := i_17) (lv' := [(3, .int i_17), (2, .int 1), (0, .ref bd0), (1, .int (nI k))]) hx hb d_Bd_isLinked_44 hl (k := 1) rfl (by rw [ei_17]; rfl) (by decide) rfl (fun ls hl => ?_)
        obtain rfl : i_17 = 1 := by rw [ei_17]; exact by decide
        refine lv_goto (tgt := 9) hx hb d_Bd_isLinked_47 (by decide) ?_
        refine lv_iload_n hx hb d_Bd_isLinked_9 rfl (lv_at hl 0 rfl) ?_
        refine lv_iconst (v := 4) hx hb d_Bd_isLinked_10 (by decide) ?_
        refine lv_icmp_ge (tgt := 50) hx hb d_Bd_isLinked_11 (by decide) (fun c_18 => ?_) (fun c_18 => ?_)
        · -- taken
          exact absurd c_18 (by decide)
        · -- not taken
          refine lv_iload_n hx hb d_Bd_isLinked_14 rfl (lv_at hl 1 rfl) ?_
          refine lv_if_eq (tgt := 42) hx hb d_Bd_isLinked_15 (by decide) (fun c_19 => ?_) (fun c_19 => ?_)
          · -- taken
            exact absurd c_19 (by decide)
          · -- not taken
            refine lv_aload_n hx hb d_Bd_isLinked_18 rfl (lv_at hl 2 rfl) ?_
            refine va_get (D := (dC, dI)) (ci := 3) (v := .ref lo) (C := "BallotBoard$Board") (T := F_Bo) (N := 4) hx hb hts (fun w9 h9 => List.mem_cons_of_mem _ (i_Bo w9 h9)) hown hK hP 0 rfl rfl 2 (by decide) (hts _ (List.mem_cons_of_mem _ gk_62)) (fun _ h9 => h9) rfl d_Bd_isLinked_19 ?_
            refine lv_iload_n hx hb d_Bd_isLinked_22 rfl (lv_at hl 3 rfl) ?_
            refine va_aldA hx hb hK hP 2 2 rfl rfl (vp_in_nI (by omega) (by omega)) d_Bd_isLinked_23 (b := lk) (by rw [nI_clamp (by omega)]; exact hlk) ?_
            refine lv_iload_n hx hb d_Bd_isLinked_24 rfl (lv_at hl 0 rfl) ?_
            refine va_lald hx hb hK hP 5 0 rfl rfl (vp_lit rfl) d_Bd_isLinked_25 ?_
            rw [show (lv (1 : Int32).toNatClampNeg : Int64) = lv 1 from rfl]
            refine lv_aload_n hx hb d_Bd_isLinked_26 rfl (lv_at hl 2 rfl) ?_
            refine va_get (D := (dC, dI)) (ci := 3) (v := .ref h0) (C := "BallotBoard$Board") (T := F_Bo) (N := 4) hx hb hts (fun w9 h9 => List.mem_cons_of_mem _ (i_Bo w9 h9)) hown hK hP 0 rfl rfl 0 (by decide) (hts _ (List.mem_cons_of_mem _ gk_60)) (fun _ h9 => h9) rfl d_Bd_isLinked_27 ?_
            refine lv_iload_n hx hb d_Bd_isLinked_30 rfl (lv_at hl 0 rfl) ?_
            have hPc := hP.sub (ws' := (ha_ws h0 aw ax ay cJ cI gwk_1 gsk_1 gtk_1 glk_1)) [6, 7, 8, 9] rfl
            have hKc := hK.sub (tys' := [(cJ, .long), (cI, .int)]) [0, 1] rfl
            refine va_calll (va_runV (As := [.int 1]) (rest := [.long (lv 1)]) ⟨hx, hb, hml, hown, hts⟩ (c_Ha_word l H dC dI h0 aw ax ay cJ cI gwk_1 gsk_1 gtk_1 glk_1 1 hPc (by decide)) (cwV 1 hts (gw_V gk_598 gk_536 gk_537 gk_2 gk_538) rfl rfl rfl (by decide +kernel) ⟨Nat.le_of_ble_eq_true rfl, Nat.le_of_ble_eq_true rfl⟩) ⟨fun a U g mk q => ⟨q.1, q.2.1, va_K.moved (u := U) (U := U.calling g mk a) (Vm.Alike.refl U.vm) q.2.2⟩, va_recv hK hP (ci := 2) (q0 := 6) rfl rfl, fun U hU hW => ⟨rfl, hU, va_K.moved hW.alike hKc⟩⟩ rfl rfl hl.1 rfl (lv_room (Nat.le_of_ble_eq_true rfl)) d_Bd_isLinked_31 ⟨Nat.le_of_ble_eq_true rfl, Nat.le_of_ble_eq_true rfl⟩) hS (fun q _ h => h.elim) (fun q h => h.elim) (fun r31 u9 t9 H1 locs ht hvm hw hB hz1 hk1 hS => ?_)
            obtain rfl : H = H1 := hB.symm.trans ht
            have hw : r31 = wd (gtk_1 2) (gtk_1 3) := hw
            subst hw
            rw [show (wd (gtk_1 2) (gtk_1 3) : Int64) = (lkw [lw 0, lw 1, lw 2, lw 3, rw 0, rw 1, rw 2, rw 3, rw 4] 1) from lkw_1 hdg]
            refine W.lcmp hx hb d_Bd_isLinked_34 ?_
            refine lv_if_ne (tgt := 42) hx hb d_Bd_isLinked_35 (by decide) (fun c_20 => ?_) (fun c_20 => ?_)
            · -- taken
              have hbad : ¬ lnk4 lv [lw 0, lw 1, lw 2, lw 3, rw 0, rw 1, rw 2, rw 3, rw 4] := fun h => c_20 ((lg_cmp_eq _ _).mpr h.2.1)
              refine lv_iconst (v := 0) hx hb d_Bd_isLinked_42 (by decide) ?_
              refine lv_istore_n (lv' := [(2, .int 0), (3, .int 1), (0, .ref bd0), (1, .int (nI k))]) hx hb d_Bd_isLinked_43 rfl hl (by decide) rfl (fun ls hl => ?_)
              obtain ⟨i_21, ei_21⟩ : ∃ y : Int32, y = 1 + 1 := ⟨_, rfl⟩
              refine lv_iinc (v := i_21) (lv' := [(3, .int i_21), (2, .int 0), (0, .ref bd0), (1, .int (nI k))]) hx hb d_Bd_isLinked_44 hl (k := 1) rfl (by rw [ei_21]; rfl) (by decide) rfl (fun ls hl => ?_)
              obtain rfl : i_21 = 2 := by rw [ei_21]; exact by decide
              refine lv_goto (tgt := 9) hx hb d_Bd_isLinked_47 (by decide) ?_
              refine lv_iload_n hx hb d_Bd_isLinked_9 rfl (lv_at hl 0 rfl) ?_
              refine lv_iconst (v := 4) hx hb d_Bd_isLinked_10 (by decide) ?_
              refine lv_icmp_ge (tgt := 50) hx hb d_Bd_isLinked_11 (by decide) (fun c_22 => ?_) (fun c_22 => ?_)
              · -- taken
                exact absurd c_22 (by decide)
              · -- not taken
                refine lv_iload_n hx hb d_Bd_isLinked_14 rfl (lv_at hl 1 rfl) ?_
                refine lv_if_eq (tgt := 42) hx hb d_Bd_isLinked_15 (by decide) (fun c_23 => ?_) (fun c_23 => ?_)
                · -- taken
                  refine lv_iconst (v := 0) hx hb d_Bd_isLinked_42 (by decide) ?_
                  refine lv_istore_n (lv' := [(2, .int 0), (3, .int 2), (0, .ref bd0), (1, .int (nI k))]) hx hb d_Bd_isLinked_43 rfl hl (by decide) rfl (fun ls hl => ?_)
                  obtain ⟨i_24, ei_24⟩ : ∃ y : Int32, y = 2 + 1 := ⟨_, rfl⟩
                  refine lv_iinc (v := i_24) (lv' := [(3, .int i_24), (2, .int 0), (0, .ref bd0), (1, .int (nI k))]) hx hb d_Bd_isLinked_44 hl (k := 1) rfl (by rw [ei_24]; rfl) (by decide) rfl (fun ls hl => ?_)
                  obtain rfl : i_24 = 3 := by rw [ei_24]; exact by decide
                  refine lv_goto (tgt := 9) hx hb d_Bd_isLinked_47 (by decide) ?_
                  refine lv_iload_n hx hb d_Bd_isLinked_9 rfl (lv_at hl 0 rfl) ?_
                  refine lv_iconst (v := 4) hx hb d_Bd_isLinked_10 (by decide) ?_
                  refine lv_icmp_ge (tgt := 50) hx hb d_Bd_isLinked_11 (by decide) (fun c_25 => ?_) (fun c_25 => ?_)
                  · -- taken
                    exact absurd c_25 (by decide)
                  · -- not taken
                    refine lv_iload_n hx hb d_Bd_isLinked_14 rfl (lv_at hl 1 rfl) ?_
                    refine lv_if_eq (tgt := 42) hx hb d_Bd_isLinked_15 (by decide) (fun c_26 => ?_) (fun c_26 => ?_)
                    · -- taken
                      refine lv_iconst (v := 0) hx hb d_Bd_isLinked_42 (by decide) ?_
                      refine lv_istore_n (lv' := [(2, .int 0), (3, .int 3), (0, .ref bd0), (1, .int (nI k))]) hx hb d_Bd_isLinked_43 rfl hl (by decide) rfl (fun ls hl => ?_)
                      obtain ⟨i_27, ei_27⟩ : ∃ y : Int32, y = 3 + 1 := ⟨_, rfl⟩
                      refine lv_iinc (v := i_27) (lv' := [(3, .int i_27), (2, .int 0), (0, .ref bd0), (1, .int (nI k))]) hx hb d_Bd_isLinked_44 hl (k := 1) rfl (by rw [ei_27]; rfl) (by decide) rfl (fun ls hl => ?_)
                      obtain rfl : i_27 = 4 := by rw [ei_27]; exact by decide
                      refine lv_goto (tgt := 9) hx hb d_Bd_isLinked_47 (by decide) ?_
                      refine lv_iload_n hx hb d_Bd_isLinked_9 rfl (lv_at hl 0 rfl) ?_
                      refine lv_iconst (v := 4) hx hb d_Bd_isLinked_10 (by decide) ?_
                      refine lv_icmp_ge (tgt := 50) hx hb d_Bd_isLinked_11 (by decide) (fun c_28 => ?_) (fun c_28 => ?_)
                      · -- taken
                        refine lv_iload_n hx hb d_Bd_isLinked_50 rfl (lv_at hl 1 rfl) ?_
                        exact W.zret (v := 0) hx hb hr (by decide) (fun t ht9 hW => ⟨⟨_, (gwk_1, gsk_1, gtk_1, glk_1), rfl, (bz_0 hbad), by rw [ht9]; exact hP, va_K.moved hW.alike hK, hD⟩, hS.F ht9⟩) hS.2.2 d_Bd_isLinked_51
                      · -- not taken
                        exact absurd c_28 (by decide)
                    · -- not taken
                      exact absurd rfl c_26
                · -- not taken
                  exact absurd rfl c_23
            · -- not taken
              have q1 := (lg_cmp_eq _ _).mp c_20
              refine lv_iconst (v := 1) hx hb d_Bd_isLinked_38 (by decide) ?_
              refine lv_goto (tgt := 43) hx hb d_Bd_isLinked_39 (by decide) ?_
              refine lv_istore_n (lv' := [(2, .int 1), (3, .int 1), (0, .ref bd0), (1, .int (nI k))]) hx hb d_Bd_isLinked_43 rfl hl (by decide) rfl (fun ls hl => ?_)
              obtain ⟨i_29, ei_29⟩ : ∃ y : Int32, y = 1 + 1 := ⟨_, rfl⟩
              refine lv_iinc (v := i_29) (lv' := [(3, .int i_29), (2, .int 1), (0, .ref bd0), (1, .int (nI k))]) hx hb d_Bd_isLinked_44 hl (k := 1) rfl (by rw [ei_29]; rfl) (by decide) rfl (fun ls hl => ?_)
              obtain rfl : i_29 = 2 := by rw [ei_29]; exact by decide
              refine lv_goto (tgt := 9) hx hb d_Bd_isLinked_47 (by decide) ?_
              refine lv_iload_n hx hb d_Bd_isLinked_9 rfl (lv_at hl 0 rfl) ?_
              refine lv_iconst (v := 4) hx hb d_Bd_isLinked_10 (by decide) ?_
              refine lv_icmp_ge (tgt := 50) hx hb d_Bd_isLinked_11 (by decide) (fun c_30 => ?_) (fun c_30 => ?_)
              · -- taken
                exact absurd c_30 (by decide)
              · -- not taken
                refine lv_iload_n hx hb d_Bd_isLinked_14 rfl (lv_at hl 1 rfl) ?_
                refine lv_if_eq (tgt := 42) hx hb d_Bd_isLinked_15 (by decide) (fun c_31 => ?_) (fun c_31 => ?_)
                · -- taken
                  exact absurd c_31 (by decide)
                · -- not taken
                  refine lv_aload_n hx hb d_Bd_isLinked_18 rfl (lv_at hl 2 rfl) ?_
                  refine va_get (D := (dC, dI)) (ci := 3) (v := .ref lo) (C := "BallotBoard$Board") (T := F_Bo) (N := 4) hx hb hts (fun w9 h9 => List.mem_cons_of_mem _ (i_Bo w9 h9)) hown hK hP 0 rfl rfl 2 (by decide) (hts _ (List.mem_cons_of_mem _ gk_62)) (fun _ h9 => h9) rfl d_Bd_isLinked_19 ?_
                  refine lv_iload_n hx hb d_Bd_isLinked_22 rfl (lv_at hl 3 rfl) ?_
                  refine va_aldA hx hb hK hP 2 2 rfl rfl (vp_in_nI (by omega) (by omega)) d_Bd_isLinked_23 (b := lk) (by rw [nI_clamp (by omega)]; exact hlk) ?_
                  refine lv_iload_n hx hb d_Bd_isLinked_24 rfl (lv_at hl 0 rfl) ?_
                  refine va_lald hx hb hK hP 5 0 rfl rfl (vp_lit rfl) d_Bd_isLinked_25 ?_
                  rw [show (lv (2 : Int32).toNatClampNeg : Int64) = lv 2 from rfl]
                  refine lv_aload_n hx hb d_Bd_isLinked_26 rfl (lv_at hl 2 rfl) ?_
                  refine va_get (D := (dC, dI)) (ci := 3) (v := .ref h0) (C := "BallotBoard$Board") (T := F_Bo) (N := 4) hx hb hts (fun w9 h9 => List.mem_cons_of_mem _ (i_Bo w9 h9)) hown hK hP 0 rfl rfl 0 (by decide) (hts _ (List.mem_cons_of_mem _ gk_60)) (fun _ h9 => h9) rfl d_Bd_isLinked_27 ?_
                  refine lv_iload_n hx hb d_Bd_isLinked_30 rfl (lv_at hl 0 rfl) ?_
                  have hPc := hP.sub (ws' := (ha_ws h0 aw ax ay cJ cI gwk_1 gsk_1 gtk_1 glk_1)) [6, 7, 8, 9] rfl
                  have hKc := hK.sub (tys' := [(cJ, .long), (cI, .int)]) [0, 1] rfl
                  refine va_calll (va_runV (As := [.int 2]) (rest := [.long (lv 2)]) ⟨hx, hb, hml, hown, hts⟩ (c_Ha_word l H dC dI h0 aw ax ay cJ cI gwk_1 gsk_1 gtk_1 glk_1 2 hPc (by decide)) (cwV 1 hts (gw_V gk_598 gk_536 gk_537 gk_2 gk_538) rfl rfl rfl (by decide +kernel) ⟨Nat.le_of_ble_eq_true rfl, Nat.le_of_ble_eq_true rfl⟩) ⟨fun a U g mk q => ⟨q.1, q.2.1, va_K.moved (u := U) (U := U.calling g mk a) (Vm.Alike.refl U.vm) q.2.2⟩, va_recv hK hP (ci := 2) (q0 := 6) rfl rfl, fun U hU hW => ⟨rfl, hU, va_K.moved hW.alike hKc⟩⟩ rfl rfl hl.1 rfl (lv_room (Nat.le_of_ble_eq_true rfl)) d_Bd_isLinked_31 ⟨Nat.le_of_ble_eq_true rfl, Nat.le_of_ble_eq_true rfl⟩) hS (fun q _ h => h.elim) (fun q h => h.elim) (fun r31 u9 t9 H1 locs ht hvm hw hB hz1 hk1 hS => ?_)
                  obtain rfl : H = H1 := hB.symm.trans ht
                  have hw : r31 = wd (gtk_1 4) (gtk_1 5) := hw
                  subst hw
                  rw [show (wd (gtk_1 4) (gtk_1 5) : Int64) = (lkw [lw 0, lw 1, lw 2, lw 3, rw 0, rw 1, rw 2, rw 3, rw 4] 2) from lkw_2 hdg]
                  refine W.lcmp hx hb d_Bd_isLinked_34 ?_
                  refine lv_if_ne (tgt := 42) hx hb d_Bd_isLinked_35 (by decide) (fun c_32 => ?_) (fun c_32 => ?_)
                  · -- taken
                    have hbad : ¬ lnk4 lv [lw 0, lw 1, lw 2, lw 3, rw 0, rw 1, rw 2, rw 3, rw 4] := fun h => c_32 ((lg_cmp_eq _ _).mpr h.2.2.1)
                    refine lv_iconst (v := 0) hx hb d_Bd_isLinked_42 (by decide) ?_
                    refine lv_istore_n (lv' := [(2, .int 0), (3, .int 2), (0, .ref bd0), (1, .int (nI k))]) hx hb d_Bd_isLinked_43 rfl hl (by decide) rfl (fun ls hl => ?_)
                    obtain ⟨i_33, ei_33⟩ : ∃ y : Int32, y = 2 + 1 := ⟨_, rfl⟩
                    refine lv_iinc (v := i_33) (lv' := [(3, .int i_33), (2, .int 0), (0, .ref bd0), (1, .int (nI k))]) hx hb d_Bd_isLinked_44 hl (k := 1) rfl (by rw [ei_33]; rfl) (by decide) rfl (fun ls hl => ?_)
                    obtain rfl : i_33 = 3 := by rw [ei_33]; exact by decide
                    refine lv_goto (tgt := 9) hx hb d_Bd_isLinked_47 (by decide) ?_
                    refine lv_iload_n hx hb d_Bd_isLinked_9 rfl (lv_at hl 0 rfl) ?_
                    refine lv_iconst (v := 4) hx hb d_Bd_isLinked_10 (by decide) ?_
                    refine lv_icmp_ge (tgt := 50) hx hb d_Bd_isLinked_11 (by decide) (fun c_34 => ?_) (fun c_34 => ?_)
                    · -- taken
                      exact absurd c_34 (by decide)
                    · -- not taken
                      refine lv_iload_n hx hb d_Bd_isLinked_14 rfl (lv_at hl 1 rfl) ?_
                      refine lv_if_eq (tgt := 42) hx hb d_Bd_isLinked_15 (by decide) (fun c_35 => ?_) (fun c_35 => ?_)
                      · -- taken
                        refine lv_iconst (v := 0) hx hb d_Bd_isLinked_42 (by decide) ?_
                        refine lv_istore_n (lv' := [(2, .int 0), (3, .int 3), (0, .ref bd0), (1, .int (nI k))]) hx hb d_Bd_isLinked_43 rfl hl (by decide) rfl (fun ls hl => ?_)
                        obtain ⟨i_36, ei_36⟩ : ∃ y : Int32, y = 3 + 1 := ⟨_, rfl⟩
                        refine lv_iinc (v := i_36) (lv' := [(3, .int i_36), (2, .int 0), (0, .ref bd0), (1, .int (nI k))]) hx hb d_Bd_isLinked_44 hl (k := 1) rfl (by rw [ei_36]; rfl) (by decide) rfl (fun ls hl => ?_)
                        obtain rfl : i_36 = 4 := by rw [ei_36]; exact by decide
                        refine lv_goto (tgt := 9) hx hb d_Bd_isLinked_47 (by decide) ?_
                        refine lv_iload_n hx hb d_Bd_isLinked_9 rfl (lv_at hl 0 rfl) ?_
                        refine lv_iconst (v := 4) hx hb d_Bd_isLinked_10 (by decide) ?_
                        refine lv_icmp_ge (tgt := 50) hx hb d_Bd_isLinked_11 (by decide) (fun c_37 => ?_) (fun c_37 => ?_)
                        · -- taken
                          refine lv_iload_n hx hb d_Bd_isLinked_50 rfl (lv_at hl 1 rfl) ?_
                          exact W.zret (v := 0) hx hb hr (by decide) (fun t ht9 hW => ⟨⟨_, (gwk_1, gsk_1, gtk_1, glk_1), rfl, (bz_0 hbad), by rw [ht9]; exact hP, va_K.moved hW.alike hK, hD⟩, hS.F ht9⟩) hS.2.2 d_Bd_isLinked_51
                        · -- not taken
                          exact absurd c_37 (by decide)
                      · -- not taken
                        exact absurd rfl c_35
                  · -- not taken
                    have q2 := (lg_cmp_eq _ _).mp c_32
                    refine lv_iconst (v := 1) hx hb d_Bd_isLinked_38 (by decide) ?_
                    refine lv_goto (tgt := 43) hx hb d_Bd_isLinked_39 (by decide) ?_
                    refine lv_istore_n (lv' := [(2, .int 1), (3, .int 2), (0, .ref bd0), (1, .int (nI k))]) hx hb d_Bd_isLinked_43 rfl hl (by decide) rfl (fun ls hl => ?_)
                    obtain ⟨i_38, ei_38⟩ : ∃ y : Int32, y = 2 + 1 := ⟨_, rfl⟩
                    refine lv_iinc (v := i_38) (lv' := [(3, .int i_38), (2, .int 1), (0, .ref bd0), (1, .int (nI k))]) hx hb d_Bd_isLinked_44 hl (k := 1) rfl (by rw [ei_38]; rfl) (by decide) rfl (fun ls hl => ?_)
                    obtain rfl : i_38 = 3 := by rw [ei_38]; exact by decide
                    refine lv_goto (tgt := 9) hx hb d_Bd_isLinked_47 (by decide) ?_
                    refine lv_iload_n hx hb d_Bd_isLinked_9 rfl (lv_at hl 0 rfl) ?_
                    refine lv_iconst (v := 4) hx hb d_Bd_isLinked_10 (by decide) ?_
                    refine lv_icmp_ge (tgt := 50) hx hb d_Bd_isLinked_11 (by decide) (fun c_39 => ?_) (fun c_39 => ?_)
                    · -- taken
                      exact absurd c_39 (by decide)
                    · -- not taken
                      refine lv_iload_n hx hb d_Bd_isLinked_14 rfl (lv_at hl 1 rfl) ?_
                      refine lv_if_eq (tgt := 42) hx hb d_Bd_isLinked_15 (by decide) (fun c_40 => ?_) (fun c_40 => ?_)
                      · -- taken
                        exact absurd c_40 (by decide)
                      · -- not taken
                        refine lv_aload_n hx hb d_Bd_isLinked_18 rfl (lv_at hl 2 rfl) ?_
                        refine va_get (D := (dC, dI)) (ci := 3) (v := .ref lo) (C := "BallotBoard$Board") (T := F_Bo) (N := 4) hx hb hts (fun w9 h9 => List.mem_cons_of_mem _ (i_Bo w9 h9)) hown hK hP 0 rfl rfl 2 (by decide) (hts _ (List.mem_cons_of_mem _ gk_62)) (fun _ h9 => h9) rfl d_Bd_isLinked_19 ?_
                        refine lv_iload_n hx hb d_Bd_isLinked_22 rfl (lv_at hl 3 rfl) ?_
                        refine va_aldA hx hb hK hP 2 2 rfl rfl (vp_in_nI (by omega) (by omega)) d_Bd_isLinked_23 (b := lk) (by rw [nI_clamp (by omega)]; exact hlk) ?_
                        refine lv_iload_n hx hb d_Bd_isLinked_24 rfl (lv_at hl 0 rfl) ?_
                        refine va_lald hx hb hK hP 5 0 rfl rfl (vp_lit rfl) d_Bd_isLinked_25 ?_
                        rw [show (lv (3 : Int32).toNatClampNeg : Int64) = lv 3 from rfl]
                        refine lv_aload_n hx hb d_Bd_isLinked_26 rfl (lv_at hl 2 rfl) ?_
                        refine va_get (D := (dC, dI)) (ci := 3) (v := .ref h0) (C := "BallotBoard$Board") (T := F_Bo) (N := 4) hx hb hts (fun w9 h9 => List.mem_cons_of_mem _ (i_Bo w9 h9)) hown hK hP 0 rfl rfl 0 (by decide) (hts _ (List.mem_cons_of_mem _ gk_60)) (fun _ h9 => h9) rfl d_Bd_isLinked_27 ?_
                        refine lv_iload_n hx hb d_Bd_isLinked_30 rfl (lv_at hl 0 rfl) ?_
                        have hPc := hP.sub (ws' := (ha_ws h0 aw ax ay cJ cI gwk_1 gsk_1 gtk_1 glk_1)) [6, 7, 8, 9] rfl
                        have hKc := hK.sub (tys' := [(cJ, .long), (cI, .int)]) [0, 1] rfl
                        refine va_calll (va_runV (As := [.int 3]) (rest := [.long (lv 3)]) ⟨hx, hb, hml, hown, hts⟩ (c_Ha_word l H dC dI h0 aw ax ay cJ cI gwk_1 gsk_1 gtk_1 glk_1 3 hPc (by decide)) (cwV 1 hts (gw_V gk_598 gk_536 gk_537 gk_2 gk_538) rfl rfl rfl (by decide +kernel) ⟨Nat.le_of_ble_eq_true rfl, Nat.le_of_ble_eq_true rfl⟩) ⟨fun a U g mk q => ⟨q.1, q.2.1, va_K.moved (u := U) (U := U.calling g mk a) (Vm.Alike.refl U.vm) q.2.2⟩, va_recv hK hP (ci := 2) (q0 := 6) rfl rfl, fun U hU hW => ⟨rfl, hU, va_K.moved hW.alike hKc⟩⟩ rfl rfl hl.1 rfl (lv_room (Nat.le_of_ble_eq_true rfl)) d_Bd_isLinked_31 ⟨Nat.le_of_ble_eq_true rfl, Nat.le_of_ble_eq_true rfl⟩) hS (fun q _ h => h.elim) (fun q h => h.elim) (fun r31 u9 t9 H1 locs ht hvm hw hB hz1 hk1 hS => ?_)
                        obtain rfl : H = H1 := hB.symm.trans ht
                        have hw : r31 = wd (gtk_1 6) (gtk_1 7) := hw
                        subst hw
                        rw [show (wd (gtk_1 6) (gtk_1 7) : Int64) = (lkw [lw 0, lw 1, lw 2, lw 3, rw 0, rw 1, rw 2, rw 3, rw 4] 3) from lkw_3 hdg]
                        refine W.lcmp hx hb d_Bd_isLinked_34 ?_
                        refine lv_if_ne (tgt := 42) hx hb d_Bd_isLinked_35 (by decide) (fun c_41 => ?_) (fun c_41 => ?_)
                        · -- taken
                          have hbad : ¬ lnk4 lv [lw 0, lw 1, lw 2, lw 3, rw 0, rw 1, rw 2, rw 3, rw 4] := fun h => c_41 ((lg_cmp_eq _ _).mpr h.2.2.2)
                          refine lv_iconst (v := 0) hx hb d_Bd_isLinked_42 (by decide) ?_
                          refine lv_istore_n (lv' := [(2, .int 0), (3, .int 3), (0, .ref bd0), (1, .int (nI k))]) hx hb d_Bd_isLinked_43 rfl hl (by decide) rfl (fun ls hl => ?_)
                          obtain ⟨i_42, ei_42⟩ : ∃ y : Int32, y = 3 + 1 := ⟨_, rfl⟩
                          refine lv_iinc (v := i_42) (lv' := [(3, .int i_42), (2, .int 0), (0, .ref bd0), (1, .int (nI k))]) hx hb d_Bd_isLinked_44 hl (k := 1) rfl (by rw [ei_42]; rfl) (by decide) rfl (fun ls hl => ?_)
                          obtain rfl : i_42 = 4 := by rw [ei_42]; exact by decide
                          refine lv_goto (tgt := 9) hx hb d_Bd_isLinked_47 (by decide) ?_
                          refine lv_iload_n hx hb d_Bd_isLinked_9 rfl (lv_at hl 0 rfl) ?_
                          refine lv_iconst (v := 4) hx hb d_Bd_isLinked_10 (by decide) ?_
                          refine lv_icmp_ge (tgt := 50) hx hb d_Bd_isLinked_11 (by decide) (fun c_43 => ?_) (fun c_43 => ?_)
                          · -- taken
                            refine lv_iload_n hx hb d_Bd_isLinked_50 rfl (lv_at hl 1 rfl) ?_
                            exact W.zret (v := 0) hx hb hr (by decide) (fun t ht9 hW => ⟨⟨_, (gwk_1, gsk_1, gtk_1, glk_1), rfl, (bz_0 hbad), by rw [ht9]; exact hP, va_K.moved hW.alike hK, hD⟩, hS.F ht9⟩) hS.2.2 d_Bd_isLinked_51
                          · -- not taken
                            exact absurd c_43 (by decide)
                        · -- not taken
                          have q3 := (lg_cmp_eq _ _).mp c_41
                          refine lv_iconst (v := 1) hx hb d_Bd_isLinked_38 (by decide) ?_
                          refine lv_goto (tgt := 43) hx hb d_Bd_isLinked_39 (by decide) ?_
                          refine lv_istore_n (lv' := [(2, .int 1), (3, .int 3), (0, .ref bd0), (1, .int (nI k))]) hx hb d_Bd_isLinked_43 rfl hl (by decide) rfl (fun ls hl => ?_)
                          obtain ⟨i_44, ei_44⟩ : ∃ y : Int32, y = 3 + 1 := ⟨_, rfl⟩
                          refine lv_iinc (v := i_44) (lv' := [(3, .int i_44), (2, .int 1), (0, .ref bd0), (1, .int (nI k))]) hx hb d_Bd_isLinked_44 hl (k := 1) rfl (by rw [ei_44]; rfl) (by decide) rfl (fun ls hl => ?_)
                          obtain rfl : i_44 = 4 := by rw [ei_44]; exact by decide
                          refine lv_goto (tgt := 9) hx hb d_Bd_isLinked_47 (by decide) ?_
                          refine lv_iload_n hx hb d_Bd_isLinked_9 rfl (lv_at hl 0 rfl) ?_
                          refine lv_iconst (v := 4) hx hb d_Bd_isLinked_10 (by decide) ?_
                          refine lv_icmp_ge (tgt := 50) hx hb d_Bd_isLinked_11 (by decide) (fun c_45 => ?_) (fun c_45 => ?_)
                          · -- taken
                            refine lv_iload_n hx hb d_Bd_isLinked_50 rfl (lv_at hl 1 rfl) ?_
                            exact W.zret (v := 1) hx hb hr (by decide) (fun t ht9 hW => ⟨⟨_, (gwk_1, gsk_1, gtk_1, glk_1), rfl, (bz_1 ⟨q0, q1, q2, q3⟩), by rw [ht9]; exact hP, va_K.moved hW.alike hK, hD⟩, hS.F ht9⟩) hS.2.2 d_Bd_isLinked_51
                          · -- not taken
                            exact absurd c_45 (by decide)
set_option maxHeartbeats 8000000 in
set_option maxRecDepth 100000 in
theorem c_Bd_isLinked_8 (l : Launch) (dC : Nat → ClassId) (dI : Nat → Nat → Nat) (cJ cI cR : ClassId) (sz : Nat) (bd0 h0 ro lo n : Nat) (rr lr : Nat → Option Nat) (aw ax ay : Nat) (w : Nat → Int64) (sc st : Nat → Int32) (L : Nat) (rA sA : Nat) (k rk : Nat) (rw : Nat → Int64) (K : Nat) (lp : Nat) (lw : Nat → Int64) (lk : Nat) (lv : Nat → Int64) (hk : k < 154) (hrk : rr k = some rk) (hr0 : rw 0 = lN K) (hK4 : K < 4) (hK2 : K = 2) (hk0 : 0 < k) (hlp : lr (k - 1) = some lp) (hlk : lr k = some lk) : Met l y_Bd_isLinked w_Bd_isLinked ({ frames := 4, cells := 0, slots := 0, locals := 105 }) (va_Pc [.ref bd0, .int (nI k)] (fun U => U.heap.size = sz ∧ va_P (dC, dI) classes (bd_ws bd0 h0 ro lo n cR rr lr ++ (rw_ws rk cJ rw ++ (lk_ws lp cJ lw ++ (lk_ws lk cJ lv ++ (ha_ws h0 aw ax ay cJ cI w sc st L))))) U.heap ∧ va_K (dC, dI) classes [(cJ, .long), (cI, .int), (cR, .array .long)] U ∧ va_D (fun _ => True) (bd_ws bd0 h0 ro lo n cR rr lr ++ (rw_ws rk cJ rw ++ (lk_ws lp cJ lw ++ (lk_ws lk cJ lv ++ (ha_ws h0 aw ax ay cJ cI w sc st L))))) ∧ ha_Z rA sA (va_A (bd_ws bd0 h0 ro lo n cR rr lr ++ (rw_ws rk cJ rw ++ (lk_ws lp cJ lw ++ (lk_ws lk cJ lv ++ (ha_ws h0 aw ax ay cJ cI w sc st L))))) sz) U U.heap)) (va_Qi (fun (r : Int32) (u9 : HU) => bz r (lnk4 lv [lw 0, lw 1, lw 2, lw 3, rw 0, rw 1, rw 2, rw 3, rw 4, rw 5, rw 6, rw 7])) (fun u9 t => va_P (dC, dI) classes (bd_ws bd0 h0 ro lo n cR rr lr ++ (rw_ws rk cJ rw ++ (lk_ws lp cJ lw ++ (lk_ws lk cJ lv ++ (hu_ws h0 aw ax ay cJ cI u9))))) t.heap ∧ va_K (dC, dI) classes [(cJ, .long), (cI, .int), (cR, .array .long)] t ∧ va_D (va_A (bd_ws bd0 h0 ro lo n cR rr lr ++ (rw_ws rk cJ rw ++ (lk_ws lp cJ lw ++ (lk_ws lk cJ lv ++ (ha_ws h0 aw ax ay cJ cI w sc st L))))) sz) (bd_ws bd0 h0 ro lo n cR rr lr ++ (rw_ws rk cJ rw ++ (lk_ws lp cJ lw ++ (lk_ws lk cJ lv ++ (hu_ws h0 aw ax ay cJ cI u9)))))) (va_A (bd_ws bd0 h0 ro lo n cR rr lr ++ (rw_ws rk cJ rw ++ (lk_ws lp cJ lw ++ (lk_ws lk cJ lv ++ (ha_ws h0 aw ax ay cJ cI w sc st L))))) sz)) 0 0 (va_A (bd_ws bd0 h0 ro lo n cR rr lr ++ (rw_ws rk cJ rw ++ (lk_ws lp cJ lw ++ (lk_ws lk cJ lv ++ (ha_ws h0 aw ax ay cJ cI w sc st L))))) sz) := by
  refine Met.ofW (cc := b_Bd_isLinked) (maxL := 4) (ret := (some .boolean)) (by decide) rfl ?_
  intro p e s m args below meth c s₁ Bd hml hv
  obtain ⟨rfl, hsz, hP, hK, hD0, hZha⟩ := hv
  have hx := Bd.exec
  have hb := Bd.bytes
  have hr := Bd.returns
  have hts := atoms_spec (ws := w_Bd_isLinked) Bd.pre
  have hown : s.vm.findClass "BallotBoard$Board" = some m.cls := findClass_of_methodNamed Bd.named
  have hlocks := Bd.notSynchronized
  subst hsz
  have hD := hD0.self (sz := s.heap.size)
  generalize hAe : va_A (bd_ws bd0 h0 ro lo n cR rr lr ++ (rw_ws rk cJ rw ++ (lk_ws lp cJ lw ++ (lk_ws lk cJ lv ++ (ha_ws h0 aw ax ay cJ cI w sc st L))))) s.heap.size = A at hD hZha ⊢
  have hA : ∀ q : Nat, s.heap.size ≤ q → A q := fun q h => by rw [← hAe]; exact Or.inr h
  have hS : va_S A s.heap s.heap [] := va_S.rf
  have hl := lv_entry ([.ref bd0, .int (nI k)]) (n := 4) (Nat.le_of_ble_eq_true rfl)
  rw [lg_entry_eq]
  generalize (lg_sl ([.ref bd0, .int (nI k)]) ++ List.replicate (4 - (lg_sl ([.ref bd0, .int (nI k)])).length) Slot.unset).toArray = ls at hl ⊢
  have hl : lv_has ls 4 [(0, .ref bd0), (1, .int (nI k))] := hl
  refine lv_aload_n hx hb d_Bd_isLinked_0 rfl (lv_at hl 0 rfl) ?_
  refine lv_iload_n hx hb d_Bd_isLinked_1 rfl (lv_at hl 1 rfl) ?_
  have hPc := hP.sub (ws' := (bd_ws bd0 h0 ro lo n cR rr lr ++ (rw_ws rk cJ rw ++ (lk_ws lp cJ lw ++ (ha_ws h0 aw ax ay cJ cI w sc st L))))) [0, 1, 2, 3, 4, 6, 7, 8, 9] rfl
  have hDc := hD.sub (ws' := (bd_ws bd0 h0 ro lo n cR rr lr ++ (rw_ws rk cJ rw ++ (lk_ws lp cJ lw ++ (ha_ws h0 aw ax ay cJ cI w sc st L))))) [0, 1, 2, 3, 4, 6, 7, 8, 9] (by decide) rfl
  have hKc := hK.sub (tys' := [(cJ, .long), (cI, .int), (cR, .array .long)]) [0, 1, 2] rfl
  have hFc := va_free (wc := (bd_ws bd0 h0 ro lo n cR rr lr ++ (rw_ws rk cJ rw ++ (lk_ws lp cJ lw ++ (ha_ws h0 aw ax ay cJ cI w sc st L))))) hD hS hA [0, 1, 2, 3, 4, 6, 7, 8, 9] rfl
  have hZc0 : ha_Z rA sA (va_A (bd_ws bd0 h0 ro lo n cR rr lr ++ (rw_ws rk cJ rw ++ (lk_ws lp cJ lw ++ (ha_ws h0 aw ax ay cJ cI w sc st L)))) s.heap.size) s s.heap := (hZha.kept hS.2.1).narrow hFc
  refine va_callv (va_runV (As := [.int (nI k)]) (rest := []) ⟨hx, hb, hml, hown, hts⟩ (c_Bd_hashEntry_8 l dC dI cJ cI cR s.heap.size bd0 h0 ro lo n rr lr aw ax ay w sc st L rA sA k rk rw K lp lw hk hrk hr0 hK4 hK2 hk0 hlp) (cwV 1 hts (gw_V gk_587 gk_589 gp_20 gk_3 gk_590) rfl rfl rfl (by decide +kernel) ⟨Nat.le_of_ble_eq_true rfl, Nat.le_of_ble_eq_true rfl⟩) ⟨fun a U g mk q => by obtain ⟨q0, q1, qP, qK, qD, qZ0⟩ := q; exact ⟨q0, q1, qP, va_K.moved (u := U) (U := U.calling g mk a) (Vm.Alike.refl U.vm) qK, qD, ha_Z.moved (u := U) (U := U.calling g mk a) (Vm.Alike.refl U.vm) qZ0⟩, va_recv hK hP (ci := 3) (q0 := 0) rfl rfl, fun U hU hW => ⟨rfl, by rw [hU], by rw [hU]; exact hPc, va_K.moved hW.alike hKc, hDc.weaken (fun _ _ _ _ => trivial), by rw [hU]; exact ha_Z.moved hW.alike hZc0⟩⟩ rfl rfl hl.1 rfl (lv_room (Nat.le_of_ble_eq_true rfl)) d_Bd_isLinked_2 ⟨Nat.le_of_ble_eq_true rfl, Nat.le_of_ble_eq_true rfl⟩) hS (fun q _ h => hFc q h) hFc (fun u9 t9 H1 locs ht hvm hw hB hz1 hk1 hS => ?_)
  obtain ⟨gwk_1, gsk_1, gtk_1, glk_1⟩ := u9
  have hdg : dgo gtk_1 [lw 0, lw 1, lw 2, lw 3, rw 0, rw 1, rw 2, rw 3, rw 4, rw 5, rw 6, rw 7] := hw
  obtain ⟨hP1, hK1, hD1⟩ := hB
  rw [ht] at hP1
  obtain ⟨hP, hD⟩ := va_join (wr := [(lk, .inl (cJ, 4, .inr (.inl lv)))]) (w1 := [(bd0, .inr (3, [.ref h0, .ref ro, .ref lo, .int (nI n)])), (ro, .inl (cR, 154, .inr (.inr (.inr (.inr rr))))), (lo, .inl (cR, 154, .inr (.inr (.inr (.inr lr))))), (rk, .inl (cJ, 8, .inr (.inl rw))), (lp, .inl (cJ, 4, .inr (.inl lw))), (h0, .inr (2, [.ref aw, .ref ax, .ref ay, .int (nI glk_1)])), (aw, .inl (cJ, 16, .inr (.inl gwk_1))), (ax, .inl (cI, 64, .inl gsk_1)), (ay, .inl (cI, 8, .inl gtk_1))]) hP hD [0, 1, 2, 3, 4, 6, 7, 8, 9] [5] rfl rfl (by decide) (by decide) hk1 hFc hP1 hD1
  have hP := hP.sub (ws' := [(bd0, .inr (3, [.ref h0, .ref ro, .ref lo, .int (nI n)])), (ro, .inl (cR, 154, .inr (.inr (.inr (.inr rr))))), (lo, .inl (cR, 154, .inr (.inr (.inr (.inr lr))))), (rk, .inl (cJ, 8, .inr (.inl rw))), (lp, .inl (cJ, 4, .inr (.inl lw))), (lk, .inl (cJ, 4, .inr (.inl lv))), (h0, .inr (2, [.ref aw, .ref ax, .ref ay, .int (nI glk_1)])), (aw, .inl (cJ, 16, .inr (.inl gwk_1))), (ax, .inl (cI, 64, .inl gsk_1)), (ay, .inl (cI, 8, .inl gtk_1))]) [1, 2, 3, 4, 5, 0, 6, 7, 8, 9] rfl
  have hD := hD.sub (ws' := [(bd0, .inr (3, [.ref h0, .ref ro, .ref lo, .int (nI n)])), (ro, .inl (cR, 154, .inr (.inr (.inr (.inr rr))))), (lo, .inl (cR, 154, .inr (.inr (.inr (.inr lr))))), (rk, .inl (cJ, 8, .inr (.inl rw))), (lp, .inl (cJ, 4, .inr (.inl lw))), (lk, .inl (cJ, 4, .inr (.inl lv))), (h0, .inr (2, [.ref aw, .ref ax, .ref ay, .int (nI glk_1)])), (aw, .inl (cJ, 16, .inr (.inl gwk_1))), (ax, .inl (cI, 64, .inl gsk_1)), (ay, .inl (cI, 8, .inl gtk_1))]) [1, 2, 3, 4, 5, 0, 6, 7, 8, 9] (by decide) rfl
  generalize H1 = H at hP hS ⊢
  refine lv_iconst (v := 1) hx hb d_Bd_isLinked_5 (by decide) ?_
  refine lv_istore_n (lv' := [(2, .int 1), (0, .ref bd0), (1, .int (nI k))]) hx hb d_Bd_isLinked_6 rfl hl (by decide) rfl (fun ls hl => ?_)
  refine lv_iconst (v := 0) hx hb d_Bd_isLinked_7 (by decide) ?_
  refine lv_istore_n (lv' := [(3, .int 0), (2, .int 1), (0, .ref bd0), (1, .int (nI k))]) hx hb d_Bd_isLinked_8 rfl hl (by decide) rfl (fun ls hl => ?_)
  refine lv_iload_n hx hb d_Bd_isLinked_9 rfl (lv_at hl 0 rfl) ?_
  refine lv_iconst (v := 4) hx hb d_Bd_isLinked_10 (by decide) ?_
  refine lv_icmp_ge (tgt := 50) hx hb d_Bd_isLinked_11 (by decide) (fun c_3 => ?_) (fun c_3 => ?_)
  · -- taken
    exact absurd c_3 (by decide)
  · -- not taken
    refine lv_iload_n hx hb d_Bd_isLinked_14 rfl (lv_at hl 1 rfl) ?_
    refine lv_if_eq (tgt := 42) hx hb d_Bd_isLinked_15 (by decide) (fun c_4 => ?_) (fun c_4 => ?_)
    · -- taken
      exact absurd c_4 (by decide)
    · -- not taken
      refine lv_aload_n hx hb d_Bd_isLinked_18 rfl (lv_at hl 2 rfl) ?_
      refine va_get (D := (dC, dI)) (ci := 3) (v := .ref lo) (C := "BallotBoard$Board") (T := F_Bo) (N := 4) hx hb hts (fun w9 h9 => List.mem_cons_of_mem _ (i_Bo w9 h9)) hown hK hP 0 rfl rfl 2 (by decide) (hts _ (List.mem_cons_of_mem _ gk_62)) (fun _ h9 => h9) rfl d_Bd_isLinked_19 ?_
      refine lv_iload_n hx hb d_Bd_isLinked_22 rfl (lv_at hl 3 rfl) ?_
      refine va_aldA hx hb hK hP 2 2 rfl rfl (vp_in_nI (by omega) (by omega)) d_Bd_isLinked_23 (b := lk) (by rw [nI_clamp (by omega)]; exact hlk) ?_
      refine lv_iload_n hx hb d_Bd_isLinked_24 rfl (lv_at hl 0 rfl) ?_
      refine va_lald hx hb hK hP 5 0 rfl rfl (vp_lit rfl) d_Bd_isLinked_25 ?_
      rw [show (lv (0 : Int32).toNatClampNeg : Int64) = lv 0 from rfl]
      refine lv_aload_n hx hb d_Bd_isLinked_26 rfl (lv_at hl 2 rfl) ?_
      refine va_get (D := (dC, dI)) (ci := 3) (v := .ref h0) (C := "BallotBoard$Board") (T := F_Bo) (N := 4) hx hb hts (fun w9 h9 => List.mem_cons_of_mem _ (i_Bo w9 h9)) hown hK hP 0 rfl rfl 0 (by decide) (hts _ (List.mem_cons_of_mem _ gk_60)) (fun _ h9 => h9) rfl d_Bd_isLinked_27 ?_
      refine lv_iload_n hx hb d_Bd_isLinked_30 rfl (lv_at hl 0 rfl) ?_
      have hPc := hP.sub (ws' := (ha_ws h0 aw ax ay cJ cI gwk_1 gsk_1 gtk_1 glk_1)) [6, 7, 8, 9] rfl
      have hKc := hK.sub (tys' := [(cJ, .long), (cI, .int)]) [0, 1] rfl
      refine va_calll (va_runV (As := [.int 0]) (rest := [.long (lv 0)]) ⟨hx, hb, hml, hown, hts⟩ (c_Ha_word l H dC dI h0 aw ax ay cJ cI gwk_1 gsk_1 gtk_1 glk_1 0 hPc (by decide)) (cwV 1 hts (gw_V gk_598 gk_536 gk_537 gk_2 gk_538) rfl rfl rfl (by decide +kernel) ⟨Nat.le_of_ble_eq_true rfl, Nat.le_of_ble_eq_true rfl⟩) ⟨fun a U g mk q => ⟨q.1, q.2.1, va_K.moved (u := U) (U := U.calling g mk a) (Vm.Alike.refl U.vm) q.2.2⟩, va_recv hK hP (ci := 2) (q0 := 6) rfl rfl, fun U hU hW => ⟨rfl, hU, va_K.moved hW.alike hKc⟩⟩ rfl rfl hl.1 rfl (lv_room (Nat.le_of_ble_eq_true rfl)) d_Bd_isLinked_31 ⟨Nat.le_of_ble_eq_true rfl, Nat.le_of_ble_eq_true rfl⟩) hS (fun q _ h => h.elim) (fun q h => h.elim) (fun r31 u9 t9 H1 locs ht hvm hw hB hz1 hk1 hS => ?_)
      obtain rfl : H = H1 := hB.symm.trans ht
      have hw : r31 = wd (gtk_1 0) (gtk_1 1) := hw
      subst hw
      rw [show (wd (gtk_1 0) (gtk_1 1) : Int64) = (lkw [lw 0, lw 1, lw 2, lw 3, rw 0, rw 1, rw 2, rw 3, rw 4, rw 5, rw 6, rw 7] 0) from lkw_0 hdg]
      refine W.lcmp hx hb d_Bd_isLinked_34 ?_
      refine lv_if_ne (tgt := 42) hx hb d_Bd_isLinked_35 (by decide) (fun c_5 => ?_) (fun c_5 => ?_)
      · -- taken
        have hbad : ¬ lnk4 lv [lw 0, lw 1, lw 2, lw 3, rw 0, rw 1, rw 2, rw 3, rw 4, rw 5, rw 6, rw 7] := fun h => c_5 ((lg_cmp_eq _ _).mpr h.1)
        refine lv_iconst (v := 0) hx hb d_Bd_isLinked_42 (by decide) ?_
        refine lv_istore_n (lv' := [(2, .int 0), (3, .int 0), (0, .ref bd0), (1, .int (nI k))]) hx hb d_Bd_isLinked_43 rfl hl (by decide) rfl (fun ls hl => ?_)
        obtain ⟨i_6, ei_6⟩ : ∃ y : Int32, y = 0 + 1 := ⟨_, rfl⟩
        refine lv_iinc (v := i_6) (lv' := [(3, .int i_6), (2, .int 0), (0, .ref bd0), (1, .int (nI k))]) hx hb d_Bd_isLinked_44 hl (k := 1) rfl (by rw [ei_6]; rfl) (by decide) rfl (fun ls hl => ?_)
        obtain rfl : i_6 = 1 := by rw [ei_6]; exact by decide
        refine lv_goto (tgt := 9) hx hb d_Bd_isLinked_47 (by decide) ?_
        refine lv_iload_n hx hb d_Bd_isLinked_9 rfl (lv_at hl 0 rfl) ?_
        refine lv_iconst (v := 4) hx hb d_Bd_isLinked_10 (by decide) ?_
        refine lv_icmp_ge (tgt := 50) hx hb d_Bd_isLinked_11 (by decide) (fun c_7 => ?_) (fun c_7 => ?_)
        · -- taken
          exact absurd c_7 (by decide)
        · -- not taken
          refine lv_iload_n hx hb d_Bd_isLinked_14 rfl (lv_at hl 1 rfl) ?_
          refine lv_if_eq (tgt := 42) hx hb d_Bd_isLinked_15 (by decide) (fun c_8 => ?_) (fun c_8 => ?_)
          · -- taken
            refine lv_iconst (v := 0) hx hb d_Bd_isLinked_42 (by decide) ?_
            refine lv_istore_n (lv' := [(2, .int 0), (3, .int 1), (0, .ref bd0), (1, .int (nI k))]) hx hb d_Bd_isLinked_43 rfl hl (by decide) rfl (fun ls hl => ?_)
            obtain ⟨i_9, ei_9⟩ : ∃ y : Int32, y = 1 + 1 := ⟨_, rfl⟩
            refine lv_iinc (v := i_9) (lv' := [(3, .int i_9), (2, .int 0), (0, .ref bd0), (1, .int (nI k))]) hx hb d_Bd_isLinked_44 hl (k := 1) rfl (by rw [ei_9]; rfl) (by decide) rfl (fun ls hl => ?_)
            obtain rfl : i_9 = 2 := by rw [ei_9]; exact by decide
            refine lv_goto (tgt := 9) hx hb d_Bd_isLinked_47 (by decide) ?_
            refine lv_iload_n hx hb d_Bd_isLinked_9 rfl (lv_at hl 0 rfl) ?_
            refine lv_iconst (v := 4) hx hb d_Bd_isLinked_10 (by decide) ?_
            refine lv_icmp_ge (tgt := 50) hx hb d_Bd_isLinked_11 (by decide) (fun c_10 => ?_) (fun c_10 => ?_)
            · -- taken
              exact absurd c_10 (by decide)
            · -- not taken
              refine lv_iload_n hx hb d_Bd_isLinked_14 rfl (lv_at hl 1 rfl) ?_
              refine lv_if_eq (tgt := 42) hx hb d_Bd_isLinked_15 (by decide) (fun c_11 => ?_) (fun c_11 => ?_)
              · -- taken
                refine lv_iconst (v := 0) hx hb d_Bd_isLinked_42 (by decide) ?_
                refine lv_istore_n (lv' := [(2, .int 0), (3, .int 2), (0, .ref bd0), (1, .int (nI k))]) hx hb d_Bd_isLinked_43 rfl hl (by decide) rfl (fun ls hl => ?_)
                obtain ⟨i_12, ei_12⟩ : ∃ y : Int32, y = 2 + 1 := ⟨_, rfl⟩
                refine lv_iinc (v := i_12) (lv' := [(3, .int i_12), (2, .int 0), (0, .ref bd0), (1, .int (nI k))]) hx hb d_Bd_isLinked_44 hl (k := 1) rfl (by rw [ei_12]; rfl) (by decide) rfl (fun ls hl => ?_)
                obtain rfl : i_12 = 3 := by rw [ei_12]; exact by decide
                refine lv_goto (tgt := 9) hx hb d_Bd_isLinked_47 (by decide) ?_
                refine lv_iload_n hx hb d_Bd_isLinked_9 rfl (lv_at hl 0 rfl) ?_
                refine lv_iconst (v := 4) hx hb d_Bd_isLinked_10 (by decide) ?_
                refine lv_icmp_ge (tgt := 50) hx hb d_Bd_isLinked_11 (by decide) (fun c_13 => ?_) (fun c_13 => ?_)
                · -- taken
                  exact absurd c_13 (by decide)
                · -- not taken
                  refine lv_iload_n hx hb d_Bd_isLinked_14 rfl (lv_at hl 1 rfl) ?_
                  refine lv_if_eq (tgt := 42) hx hb d_Bd_isLinked_15 (by decide) (fun c_14 => ?_) (fun c_14 => ?_)
                  · -- taken
                    refine lv_iconst (v := 0) hx hb d_Bd_isLinked_42 (by decide) ?_
                    refine lv_istore_n (lv' := [(2, .int 0), (3, .int 3), (0, .ref bd0), (1, .int (nI k))]) hx hb d_Bd_isLinked_43 rfl hl (by decide) rfl (fun ls hl => ?_)
                    obtain ⟨i_15, ei_15⟩ : ∃ y : Int32, y = 3 + 1 := ⟨_, rfl⟩
                    refine lv_iinc (v := i_15) (lv' := [(3, .int i_15), (2, .int 0), (0, .ref bd0), (1, .int (nI k))]) hx hb d_Bd_isLinked_44 hl (k := 1) rfl (by rw [ei_15]; rfl) (by decide) rfl (fun ls hl => ?_)
                    obtain rfl : i_15 = 4 := by rw [ei_15]; exact by decide
                    refine lv_goto (tgt := 9) hx hb d_Bd_isLinked_47 (by decide) ?_
                    refine lv_iload_n hx hb d_Bd_isLinked_9 rfl (lv_at hl 0 rfl) ?_
                    refine lv_iconst (v := 4) hx hb d_Bd_isLinked_10 (by decide) ?_
                    refine lv_icmp_ge (tgt := 50) hx hb d_Bd_isLinked_11 (by decide) (fun c_16 => ?_) (fun c_16 => ?_)
                    · -- taken
                      refine lv_iload_n hx hb d_Bd_isLinked_50 rfl (lv_at hl 1 rfl) ?_
                      exact W.zret (v := 0) hx hb hr (by decide) (fun t ht9 hW => ⟨⟨_, (gwk_1, gsk_1, gtk_1, glk_1), rfl, (bz_0 hbad), by rw [ht9]; exact hP, va_K.moved hW.alike hK, hD⟩, hS.F ht9⟩) hS.2.2 d_Bd_isLinked_51
                    · -- not taken
                      exact absurd c_16 (by decide)
                  · -- not taken
                    exact absurd rfl c_14
              · -- not taken
                exact absurd rfl c_11
          · -- not taken
            exact absurd rfl c_8
      · -- not taken
        have q0 := (lg_cmp_eq _ _).mp c_5
        refine lv_iconst (v := 1) hx hb d_Bd_isLinked_38 (by decide) ?_
        refine lv_goto (tgt := 43) hx hb d_Bd_isLinked_39 (by decide) ?_
        refine lv_istore_n (lv' := [(2, .int 1), (3, .int 0), (0, .ref bd0), (1, .int (nI k))]) hx hb d_Bd_isLinked_43 rfl hl (by decide) rfl (fun ls hl => ?_)
        obtain ⟨i_17, ei_17⟩ : ∃ y : Int32, y = 0 + 1 := ⟨_, rfl⟩
        refine lv_iinc (v := i_17) (lv' := [(3, .int i_17), (2, .int 1), (0, .ref bd0), (1, .int (nI k))]) hx hb d_Bd_isLinked_44 hl (k := 1) rfl (by rw [ei_17]; rfl) (by decide) rfl (fun ls hl => ?_)
        obtain rfl : i_17 = 1 := by rw [ei_17]; exact by decide
        refine lv_goto (tgt := 9) hx hb d_Bd_isLinked_47 (by decide) ?_
        refine lv_iload_n hx hb d_Bd_isLinked_9 rfl (lv_at hl 0 rfl) ?_
        refine lv_iconst (v := 4) hx hb d_Bd_isLinked_10 (by decide) ?_
        refine lv_icmp_ge (tgt := 50) hx hb d_Bd_isLinked_11 (by decide) (fun c_18 => ?_) (fun c_18 => ?_)
        · -- taken
          exact absurd c_18 (by decide)
        · -- not taken
          refine lv_iload_n hx hb d_Bd_isLinked_14 rfl (lv_at hl 1 rfl) ?_
          refine lv_if_eq (tgt := 42) hx hb d_Bd_isLinked_15 (by decide) (fun c_19 => ?_) (fun c_19 => ?_)
          · -- taken
            exact absurd c_19 (by decide)
          · -- not taken
            refine lv_aload_n hx hb d_Bd_isLinked_18 rfl (lv_at hl 2 rfl) ?_
            refine va_get (D := (dC, dI)) (ci := 3) (v := .ref lo) (C := "BallotBoard$Board") (T := F_Bo) (N := 4) hx hb hts (fun w9 h9 => List.mem_cons_of_mem _ (i_Bo w9 h9)) hown hK hP 0 rfl rfl 2 (by decide) (hts _ (List.mem_cons_of_mem _ gk_62)) (fun _ h9 => h9) rfl d_Bd_isLinked_19 ?_
            refine lv_iload_n hx hb d_Bd_isLinked_22 rfl (lv_at hl 3 rfl) ?_
            refine va_aldA hx hb hK hP 2 2 rfl rfl (vp_in_nI (by omega) (by omega)) d_Bd_isLinked_23 (b := lk) (by rw [nI_clamp (by omega)]; exact hlk) ?_
            refine lv_iload_n hx hb d_Bd_isLinked_24 rfl (lv_at hl 0 rfl) ?_
            refine va_lald hx hb hK hP 5 0 rfl rfl (vp_lit rfl) d_Bd_isLinked_25 ?_
            rw [show (lv (1 : Int32).toNatClampNeg : Int64) = lv 1 from rfl]
            refine lv_aload_n hx hb d_Bd_isLinked_26 rfl (lv_at hl 2 rfl) ?_
            refine va_get (D := (dC, dI)) (ci := 3) (v := .ref h0) (C := "BallotBoard$Board") (T := F_Bo) (N := 4) hx hb hts (fun w9 h9 => List.mem_cons_of_mem _ (i_Bo w9 h9)) hown hK hP 0 rfl rfl 0 (by decide) (hts _ (List.mem_cons_of_mem _ gk_60)) (fun _ h9 => h9) rfl d_Bd_isLinked_27 ?_
            refine lv_iload_n hx hb d_Bd_isLinked_30 rfl (lv_at hl 0 rfl) ?_
            have hPc := hP.sub (ws' := (ha_ws h0 aw ax ay cJ cI gwk_1 gsk_1 gtk_1 glk_1)) [6, 7, 8, 9] rfl
            have hKc := hK.sub (tys' := [(cJ, .long), (cI, .int)]) [0, 1] rfl
            refine va_calll (va_runV (As := [.int 1]) (rest := [.long (lv 1)]) ⟨hx, hb, hml, hown, hts⟩ (c_Ha_word l H dC dI h0 aw ax ay cJ cI gwk_1 gsk_1 gtk_1 glk_1 1 hPc (by decide)) (cwV 1 hts (gw_V gk_598 gk_536 gk_537 gk_2 gk_538) rfl rfl rfl (by decide +kernel) ⟨Nat.le_of_ble_eq_true rfl, Nat.le_of_ble_eq_true rfl⟩) ⟨fun a U g mk q => ⟨q.1, q.2.1, va_K.moved (u := U) (U := U.calling g mk a) (Vm.Alike.refl U.vm) q.2.2⟩, va_recv hK hP (ci := 2) (q0 := 6) rfl rfl, fun U hU hW => ⟨rfl, hU, va_K.moved hW.alike hKc⟩⟩ rfl rfl hl.1 rfl (lv_room (Nat.le_of_ble_eq_true rfl)) d_Bd_isLinked_31 ⟨Nat.le_of_ble_eq_true rfl, Nat.le_of_ble_eq_true rfl⟩) hS (fun q _ h => h.elim) (fun q h => h.elim) (fun r31 u9 t9 H1 locs ht hvm hw hB hz1 hk1 hS => ?_)
            obtain rfl : H = H1 := hB.symm.trans ht
            have hw : r31 = wd (gtk_1 2) (gtk_1 3) := hw
            subst hw
            rw [show (wd (gtk_1 2) (gtk_1 3) : Int64) = (lkw [lw 0, lw 1, lw 2, lw 3, rw 0, rw 1, rw 2, rw 3, rw 4, rw 5, rw 6, rw 7] 1) from lkw_1 hdg]
            refine W.lcmp hx hb d_Bd_isLinked_34 ?_
            refine lv_if_ne (tgt := 42) hx hb d_Bd_isLinked_35 (by decide) (fun c_20 => ?_) (fun c_20 => ?_)
            · -- taken
              have hbad : ¬ lnk4 lv [lw 0, lw 1, lw 2, lw 3, rw 0, rw 1, rw 2, rw 3, rw 4, rw 5, rw 6, rw 7] := fun h => c_20 ((lg_cmp_eq _ _).mpr h.2.1)
              refine lv_iconst (v := 0) hx hb d_Bd_isLinked_42 (by decide) ?_
              refine lv_istore_n (lv' := [(2, .int 0), (3, .int 1), (0, .ref bd0), (1, .int (nI k))]) hx hb d_Bd_isLinked_43 rfl hl (by decide) rfl (fun ls hl => ?_)
              obtain ⟨i_21, ei_21⟩ : ∃ y : Int32, y = 1 + 1 := ⟨_, rfl⟩
              refine lv_iinc (v := i_21) (lv' := [(3, .int i_21), (2, .int 0), (0, .ref bd0), (1, .int (nI k))]) hx hb d_Bd_isLinked_44 hl (k := 1) rfl (by rw [ei_21]; rfl) (by decide) rfl (fun ls hl => ?_)
              obtain rfl : i_21 = 2 := by rw [ei_21]; exact by decide
              refine lv_goto (tgt := 9) hx hb d_Bd_isLinked_47 (by decide) ?_
              refine lv_iload_n hx hb d_Bd_isLinked_9 rfl (lv_at hl 0 rfl) ?_
              refine lv_iconst (v := 4) hx hb d_Bd_isLinked_10 (by decide) ?_
              refine lv_icmp_ge (tgt := 50) hx hb d_Bd_isLinked_11 (by decide) (fun c_22 => ?_) (fun c_22 => ?_)
              · -- taken
                exact absurd c_22 (by decide)
              · -- not taken
                refine lv_iload_n hx hb d_Bd_isLinked_14 rfl (lv_at hl 1 rfl) ?_
                refine lv_if_eq (tgt := 42) hx hb d_Bd_isLinked_15 (by decide) (fun c_23 => ?_) (fun c_23 => ?_)
                · -- taken
                  refine lv_iconst (v := 0) hx hb d_Bd_isLinked_42 (by decide) ?_
                  refine lv_istore_n (lv' := [(2, .int 0), (3, .int 2), (0, .ref bd0), (1, .int (nI k))]) hx hb d_Bd_isLinked_43 rfl hl (by decide) rfl (fun ls hl => ?_)
                  obtain ⟨i_24, ei_24⟩ : ∃ y : Int32, y = 2 + 1 := ⟨_, rfl⟩
                  refine lv_iinc (v := i_24) (lv' := [(3, .int i_24), (2, .int 0), (0, .ref bd0), (1, .int (nI k))]) hx hb d_Bd_isLinked_44 hl (k := 1) rfl (by rw [ei_24]; rfl) (by decide) rfl (fun ls hl => ?_)
                  obtain rfl : i_24 = 3 := by rw [ei_24]; exact by decide
                  refine lv_goto (tgt := 9) hx hb d_Bd_isLinked_47 (by decide) ?_
                  refine lv_iload_n hx hb d_Bd_isLinked_9 rfl (lv_at hl 0 rfl) ?_
                  refine lv_iconst (v := 4) hx hb d_Bd_isLinked_10 (by decide) ?_
                  refine lv_icmp_ge (tgt := 50) hx hb d_Bd_isLinked_11 (by decide) (fun c_25 => ?_) (fun c_25 => ?_)
                  · -- taken
                    exact absurd c_25 (by decide)
                  · -- not taken
                    refine lv_iload_n hx hb d_Bd_isLinked_14 rfl (lv_at hl 1 rfl) ?_
                    refine lv_if_eq (tgt := 42) hx hb d_Bd_isLinked_15 (by decide) (fun c_26 => ?_) (fun c_26 => ?_)
                    · -- taken
                      refine lv_iconst (v := 0) hx hb d_Bd_isLinked_42 (by decide) ?_
                      refine lv_istore_n (lv' := [(2, .int 0), (3, .int 3), (0, .ref bd0), (1, .int (nI k))]) hx hb d_Bd_isLinked_43 rfl hl (by decide) rfl (fun ls hl => ?_)
                      obtain ⟨i_27, ei_27⟩ : ∃ y : Int32, y = 3 + 1 := ⟨_, rfl⟩
                      refine lv_iinc (v := i_27) (lv' := [(3, .int i_27), (2, .int 0), (0, .ref bd0), (1, .int (nI k))]) hx hb d_Bd_isLinked_44 hl (k := 1) rfl (by rw [ei_27]; rfl) (by decide) rfl (fun ls hl => ?_)
                      obtain rfl : i_27 = 4 := by rw [ei_27]; exact by decide
                      refine lv_goto (tgt := 9) hx hb d_Bd_isLinked_47 (by decide) ?_
                      refine lv_iload_n hx hb d_Bd_isLinked_9 rfl (lv_at hl 0 rfl) ?_
                      refine lv_iconst (v := 4) hx hb d_Bd_isLinked_10 (by decide) ?_
                      refine lv_icmp_ge (tgt := 50) hx hb d_Bd_isLinked_11 (by decide) (fun c_28 => ?_) (fun c_28 => ?_)
                      · -- taken
                        refine lv_iload_n hx hb d_Bd_isLinked_50 rfl (lv_at hl 1 rfl) ?_
                        exact W.zret (v := 0) hx hb hr (by decide) (fun t ht9 hW => ⟨⟨_, (gwk_1, gsk_1, gtk_1, glk_1), rfl, (bz_0 hbad), by rw [ht9]; exact hP, va_K.moved hW.alike hK, hD⟩, hS.F ht9⟩) hS.2.2 d_Bd_isLinked_51
                      · -- not taken
                        exact absurd c_28 (by decide)
                    · -- not taken
                      exact absurd rfl c_26
                · -- not taken
                  exact absurd rfl c_23
            · -- not taken
              have q1 := (lg_cmp_eq _ _).mp c_20
              refine lv_iconst (v := 1) hx hb d_Bd_isLinked_38 (by decide) ?_
              refine lv_goto (tgt := 43) hx hb d_Bd_isLinked_39 (by decide) ?_
              refine lv_istore_n (lv' := [(2, .int 1), (3, .int 1), (0, .ref bd0), (1, .int (nI k))]) hx hb d_Bd_isLinked_43 rfl hl (by decide) rfl (fun ls hl => ?_)
              obtain ⟨i_29, ei_29⟩ : ∃ y : Int32, y = 1 + 1 := ⟨_, rfl⟩
              refine lv_iinc (v := i_29) (lv' := [(3, .int i_29), (2, .int 1), (0, .ref bd0), (1, .int (nI k))]) hx hb d_Bd_isLinked_44 hl (k := 1) rfl (by rw [ei_29]; rfl) (by decide) rfl (fun ls hl => ?_)
              obtain rfl : i_29 = 2 := by rw [ei_29]; exact by decide
              refine lv_goto (tgt := 9) hx hb d_Bd_isLinked_47 (by decide) ?_
              refine lv_iload_n hx hb d_Bd_isLinked_9 rfl (lv_at hl 0 rfl) ?_
              refine lv_iconst (v := 4) hx hb d_Bd_isLinked_10 (by decide) ?_
              refine lv_icmp_ge (tgt := 50) hx hb d_Bd_isLinked_11 (by decide) (fun c_30 => ?_) (fun c_30 => ?_)
              · -- taken
                exact absurd c_30 (by decide)
              · -- not taken
                refine lv_iload_n hx hb d_Bd_isLinked_14 rfl (lv_at hl 1 rfl) ?_
                refine lv_if_eq (tgt := 42) hx hb d_Bd_isLinked_15 (by decide) (fun c_31 => ?_) (fun c_31 => ?_)
                · -- taken
                  exact absurd c_31 (by decide)
                · -- not taken
                  refine lv_aload_n hx hb d_Bd_isLinked_18 rfl (lv_at hl 2 rfl) ?_
                  refine va_get (D := (dC, dI)) (ci := 3) (v := .ref lo) (C := "BallotBoard$Board") (T := F_Bo) (N := 4) hx hb hts (fun w9 h9 => List.mem_cons_of_mem _ (i_Bo w9 h9)) hown hK hP 0 rfl rfl 2 (by decide) (hts _ (List.mem_cons_of_mem _ gk_62)) (fun _ h9 => h9) rfl d_Bd_isLinked_19 ?_
                  refine lv_iload_n hx hb d_Bd_isLinked_22 rfl (lv_at hl 3 rfl) ?_
                  refine va_aldA hx hb hK hP 2 2 rfl rfl (vp_in_nI (by omega) (by omega)) d_Bd_isLinked_23 (b := lk) (by rw [nI_clamp (by omega)]; exact hlk) ?_
                  refine lv_iload_n hx hb d_Bd_isLinked_24 rfl (lv_at hl 0 rfl) ?_
                  refine va_lald hx hb hK hP 5 0 rfl rfl (vp_lit rfl) d_Bd_isLinked_25 ?_
                  rw [show (lv (2 : Int32).toNatClampNeg : Int64) = lv 2 from rfl]
                  refine lv_aload_n hx hb d_Bd_isLinked_26 rfl (lv_at hl 2 rfl) ?_
                  refine va_get (D := (dC, dI)) (ci := 3) (v := .ref h0) (C := "BallotBoard$Board") (T := F_Bo) (N := 4) hx hb hts (fun w9 h9 => List.mem_cons_of_mem _ (i_Bo w9 h9)) hown hK hP 0 rfl rfl 0 (by decide) (hts _ (List.mem_cons_of_mem _ gk_60)) (fun _ h9 => h9) rfl d_Bd_isLinked_27 ?_
                  refine lv_iload_n hx hb d_Bd_isLinked_30 rfl (lv_at hl 0 rfl) ?_
                  have hPc := hP.sub (ws' := (ha_ws h0 aw ax ay cJ cI gwk_1 gsk_1 gtk_1 glk_1)) [6, 7, 8, 9] rfl
                  have hKc := hK.sub (tys' := [(cJ, .long), (cI, .int)]) [0, 1] rfl
                  refine va_calll (va_runV (As := [.int 2]) (rest := [.long (lv 2)]) ⟨hx, hb, hml, hown, hts⟩ (c_Ha_word l H dC dI h0 aw ax ay cJ cI gwk_1 gsk_1 gtk_1 glk_1 2 hPc (by decide)) (cwV 1 hts (gw_V gk_598 gk_536 gk_537 gk_2 gk_538) rfl rfl rfl (by decide +kernel) ⟨Nat.le_of_ble_eq_true rfl, Nat.le_of_ble_eq_true rfl⟩) ⟨fun a U g mk q => ⟨q.1, q.2.1, va_K.moved (u := U) (U := U.calling g mk a) (Vm.Alike.refl U.vm) q.2.2⟩, va_recv hK hP (ci := 2) (q0 := 6) rfl rfl, fun U hU hW => ⟨rfl, hU, va_K.moved hW.alike hKc⟩⟩ rfl rfl hl.1 rfl (lv_room (Nat.le_of_ble_eq_true rfl)) d_Bd_isLinked_31 ⟨Nat.le_of_ble_eq_true rfl, Nat.le_of_ble_eq_true rfl⟩) hS (fun q _ h => h.elim) (fun q h => h.elim) (fun r31 u9 t9 H1 locs ht hvm hw hB hz1 hk1 hS => ?_)
                  obtain rfl : H = H1 := hB.symm.trans ht
                  have hw : r31 = wd (gtk_1 4) (gtk_1 5) := hw
                  subst hw
                  rw [show (wd (gtk_1 4) (gtk_1 5) : Int64) = (lkw [lw 0, lw 1, lw 2, lw 3, rw 0, rw 1, rw 2, rw 3, rw 4, rw 5, rw 6, rw 7] 2) from lkw_2 hdg]
                  refine W.lcmp hx hb d_Bd_isLinked_34 ?_
                  refine lv_if_ne (tgt := 42) hx hb d_Bd_isLinked_35 (by decide) (fun c_32 => ?_) (fun c_32 => ?_)
                  · -- taken
                    have hbad : ¬ lnk4 lv [lw 0, lw 1, lw 2, lw 3, rw 0, rw 1, rw 2, rw 3, rw 4, rw 5, rw 6, rw 7] := fun h => c_32 ((lg_cmp_eq _ _).mpr h.2.2.1)
                    refine lv_iconst (v := 0) hx hb d_Bd_isLinked_42 (by decide) ?_
                    refine lv_istore_n (lv' := [(2, .int 0), (3, .int 2), (0, .ref bd0), (1, .int (nI k))]) hx hb d_Bd_isLinked_43 rfl hl (by decide) rfl (fun ls hl => ?_)
                    obtain ⟨i_33, ei_33⟩ : ∃ y : Int32, y = 2 + 1 := ⟨_, rfl⟩
                    refine lv_iinc (v := i_33) (lv' := [(3, .int i_33), (2, .int 0), (0, .ref bd0), (1, .int (nI k))]) hx hb d_Bd_isLinked_44 hl (k := 1) rfl (by rw [ei_33]; rfl) (by decide) rfl (fun ls hl => ?_)
                    obtain rfl : i_33 = 3 := by rw [ei_33]; exact by decide
                    refine lv_goto (tgt := 9) hx hb d_Bd_isLinked_47 (by decide) ?_
                    refine lv_iload_n hx hb d_Bd_isLinked_9 rfl (lv_at hl 0 rfl) ?_
                    refine lv_iconst (v := 4) hx hb d_Bd_isLinked_10 (by decide) ?_
                    refine lv_icmp_ge (tgt := 50) hx hb d_Bd_isLinked_11 (by decide) (fun c_34 => ?_) (fun c_34 => ?_)
                    · -- taken
                      exact absurd c_34 (by decide)
                    · -- not taken
                      refine lv_iload_n hx hb d_Bd_isLinked_14 rfl (lv_at hl 1 rfl) ?_
                      refine lv_if_eq (tgt := 42) hx hb d_Bd_isLinked_15 (by decide) (fun c_35 => ?_) (fun c_35 => ?_)
                      · -- taken
                        refine lv_iconst (v := 0) hx hb d_Bd_isLinked_42 (by decide) ?_
                        refine lv_istore_n (lv' := [(2, .int 0), (3, .int 3), (0, .ref bd0), (1, .int (nI k))]) hx hb d_Bd_isLinked_43 rfl hl (by decide) rfl (fun ls hl => ?_)
                        obtain ⟨i_36, ei_36⟩ : ∃ y : Int32, y = 3 + 1 := ⟨_, rfl⟩
                        refine lv_iinc (v := i_36) (lv' := [(3, .int i_36), (2, .int 0), (0, .ref bd0), (1, .int (nI k))]) hx hb d_Bd_isLinked_44 hl (k := 1) rfl (by rw [ei_36]; rfl) (by decide) rfl (fun ls hl => ?_)
                        obtain rfl : i_36 = 4 := by rw [ei_36]; exact by decide
                        refine lv_goto (tgt := 9) hx hb d_Bd_isLinked_47 (by decide) ?_
                        refine lv_iload_n hx hb d_Bd_isLinked_9 rfl (lv_at hl 0 rfl) ?_
                        refine lv_iconst (v := 4) hx hb d_Bd_isLinked_10 (by decide) ?_
                        refine lv_icmp_ge (tgt := 50) hx hb d_Bd_isLinked_11 (by decide) (fun c_37 => ?_) (fun c_37 => ?_)
                        · -- taken
                          refine lv_iload_n hx hb d_Bd_isLinked_50 rfl (lv_at hl 1 rfl) ?_
                          exact W.zret (v := 0) hx hb hr (by decide) (fun t ht9 hW => ⟨⟨_, (gwk_1, gsk_1, gtk_1, glk_1), rfl, (bz_0 hbad), by rw [ht9]; exact hP, va_K.moved hW.alike hK, hD⟩, hS.F ht9⟩) hS.2.2 d_Bd_isLinked_51
                        · -- not taken
                          exact absurd c_37 (by decide)
                      · -- not taken
                        exact absurd rfl c_35
                  · -- not taken
                    have q2 := (lg_cmp_eq _ _).mp c_32
                    refine lv_iconst (v := 1) hx hb d_Bd_isLinked_38 (by decide) ?_
                    refine lv_goto (tgt := 43) hx hb d_Bd_isLinked_39 (by decide) ?_
                    refine lv_istore_n (lv' := [(2, .int 1), (3, .int 2), (0, .ref bd0), (1, .int (nI k))]) hx hb d_Bd_isLinked_43 rfl hl (by decide) rfl (fun ls hl => ?_)
                    obtain ⟨i_38, ei_38⟩ : ∃ y : Int32, y = 2 + 1 := ⟨_, rfl⟩
                    refine lv_iinc (v := i_38) (lv' := [(3, .int i_38), (2, .int 1), (0, .ref bd0), (1, .int (nI k))]) hx hb d_Bd_isLinked_44 hl (k := 1) rfl (by rw [ei_38]; rfl) (by decide) rfl (fun ls hl => ?_)
                    obtain rfl : i_38 = 3 := by rw [ei_38]; exact by decide
                    refine lv_goto (tgt := 9) hx hb d_Bd_isLinked_47 (by decide) ?_
                    refine lv_iload_n hx hb d_Bd_isLinked_9 rfl (lv_at hl 0 rfl) ?_
                    refine lv_iconst (v := 4) hx hb d_Bd_isLinked_10 (by decide) ?_
                    refine lv_icmp_ge (tgt := 50) hx hb d_Bd_isLinked_11 (by decide) (fun c_39 => ?_) (fun c_39 => ?_)
                    · -- taken
                      exact absurd c_39 (by decide)
                    · -- not taken
                      refine lv_iload_n hx hb d_Bd_isLinked_14 rfl (lv_at hl 1 rfl) ?_
                      refine lv_if_eq (tgt := 42) hx hb d_Bd_isLinked_15 (by decide) (fun c_40 => ?_) (fun c_40 => ?_)
                      · -- taken
                        exact absurd c_40 (by decide)
                      · -- not taken
                        refine lv_aload_n hx hb d_Bd_isLinked_18 rfl (lv_at hl 2 rfl) ?_
                        refine va_get (D := (dC, dI)) (ci := 3) (v := .ref lo) (C := "BallotBoard$Board") (T := F_Bo) (N := 4) hx hb hts (fun w9 h9 => List.mem_cons_of_mem _ (i_Bo w9 h9)) hown hK hP 0 rfl rfl 2 (by decide) (hts _ (List.mem_cons_of_mem _ gk_62)) (fun _ h9 => h9) rfl d_Bd_isLinked_19 ?_
                        refine lv_iload_n hx hb d_Bd_isLinked_22 rfl (lv_at hl 3 rfl) ?_
                        refine va_aldA hx hb hK hP 2 2 rfl rfl (vp_in_nI (by omega) (by omega)) d_Bd_isLinked_23 (b := lk) (by rw [nI_clamp (by omega)]; exact hlk) ?_
                        refine lv_iload_n hx hb d_Bd_isLinked_24 rfl (lv_at hl 0 rfl) ?_
                        refine va_lald hx hb hK hP 5 0 rfl rfl (vp_lit rfl) d_Bd_isLinked_25 ?_
                        rw [show (lv (3 : Int32).toNatClampNeg : Int64) = lv 3 from rfl]
                        refine lv_aload_n hx hb d_Bd_isLinked_26 rfl (lv_at hl 2 rfl) ?_
                        refine va_get (D := (dC, dI)) (ci := 3) (v := .ref h0) (C := "BallotBoard$Board") (T := F_Bo) (N := 4) hx hb hts (fun w9 h9 => List.mem_cons_of_mem _ (i_Bo w9 h9)) hown hK hP 0 rfl rfl 0 (by decide) (hts _ (List.mem_cons_of_mem _ gk_60)) (fun _ h9 => h9) rfl d_Bd_isLinked_27 ?_
                        refine lv_iload_n hx hb d_Bd_isLinked_30 rfl (lv_at hl 0 rfl) ?_
                        have hPc := hP.sub (ws' := (ha_ws h0 aw ax ay cJ cI gwk_1 gsk_1 gtk_1 glk_1)) [6, 7, 8, 9] rfl
                        have hKc := hK.sub (tys' := [(cJ, .long), (cI, .int)]) [0, 1] rfl
                        refine va_calll (va_runV (As := [.int 3]) (rest := [.long (lv 3)]) ⟨hx, hb, hml, hown, hts⟩ (c_Ha_word l H dC dI h0 aw ax ay cJ cI gwk_1 gsk_1 gtk_1 glk_1 3 hPc (by decide)) (cwV 1 hts (gw_V gk_598 gk_536 gk_537 gk_2 gk_538) rfl rfl rfl (by decide +kernel) ⟨Nat.le_of_ble_eq_true rfl, Nat.le_of_ble_eq_true rfl⟩) ⟨fun a U g mk q => ⟨q.1, q.2.1, va_K.moved (u := U) (U := U.calling g mk a) (Vm.Alike.refl U.vm) q.2.2⟩, va_recv hK hP (ci := 2) (q0 := 6) rfl rfl, fun U hU hW => ⟨rfl, hU, va_K.moved hW.alike hKc⟩⟩ rfl rfl hl.1 rfl (lv_room (Nat.le_of_ble_eq_true rfl)) d_Bd_isLinked_31 ⟨Nat.le_of_ble_eq_true rfl, Nat.le_of_ble_eq_true rfl⟩) hS (fun q _ h => h.elim) (fun q h => h.elim) (fun r31 u9 t9 H1 locs ht hvm hw hB hz1 hk1 hS => ?_)
                        obtain rfl : H = H1 := hB.symm.trans ht
                        have hw : r31 = wd (gtk_1 6) (gtk_1 7) := hw
                        subst hw
                        rw [show (wd (gtk_1 6) (gtk_1 7) : Int64) = (lkw [lw 0, lw 1, lw 2, lw 3, rw 0, rw 1, rw 2, rw 3, rw 4, rw 5, rw 6, rw 7] 3) from lkw_3 hdg]
                        refine W.lcmp hx hb d_Bd_isLinked_34 ?_
                        refine lv_if_ne (tgt := 42) hx hb d_Bd_isLinked_35 (by decide) (fun c_41 => ?_) (fun c_41 => ?_)
                        · -- taken
                          have hbad : ¬ lnk4 lv [lw 0, lw 1, lw 2, lw 3, rw 0, rw 1, rw 2, rw 3, rw 4, rw 5, rw 6, rw 7] := fun h => c_41 ((lg_cmp_eq _ _).mpr h.2.2.2)
                          refine lv_iconst (v := 0) hx hb d_Bd_isLinked_42 (by decide) ?_
                          refine lv_istore_n (lv' := [(2, .int 0), (3, .int 3), (0, .ref bd0), (1, .int (nI k))]) hx hb d_Bd_isLinked_43 rfl hl (by decide) rfl (fun ls hl => ?_)
                          obtain ⟨i_42, ei_42⟩ : ∃ y : Int32, y = 3 + 1 := ⟨_, rfl⟩
                          refine lv_iinc (v := i_42) (lv' := [(3, .int i_42), (2, .int 0), (0, .ref bd0), (1, .int (nI k))]) hx hb d_Bd_isLinked_44 hl (k := 1) rfl (by rw [ei_42]; rfl) (by decide) rfl (fun ls hl => ?_)
                          obtain rfl : i_42 = 4 := by rw [ei_42]; exact by decide
                          refine lv_goto (tgt := 9) hx hb d_Bd_isLinked_47 (by decide) ?_
                          refine lv_iload_n hx hb d_Bd_isLinked_9 rfl (lv_at hl 0 rfl) ?_
                          refine lv_iconst (v := 4) hx hb d_Bd_isLinked_10 (by decide) ?_
                          refine lv_icmp_ge (tgt := 50) hx hb d_Bd_isLinked_11 (by decide) (fun c_43 => ?_) (fun c_43 => ?_)
                          · -- taken
                            refine lv_iload_n hx hb d_Bd_isLinked_50 rfl (lv_at hl 1 rfl) ?_
                            exact W.zret (v := 0) hx hb hr (by decide) (fun t ht9 hW => ⟨⟨_, (gwk_1, gsk_1, gtk_1, glk_1), rfl, (bz_0 hbad), by rw [ht9]; exact hP, va_K.moved hW.alike hK, hD⟩, hS.F ht9⟩) hS.2.2 d_Bd_isLinked_51
                          · -- not taken
                            exact absurd c_43 (by decide)
                        · -- not taken
                          have q3 := (lg_cmp_eq _ _).mp c_41
                          refine lv_iconst (v := 1) hx hb d_Bd_isLinked_38 (by decide) ?_
                          refine lv_goto (tgt := 43) hx hb d_Bd_isLinked_39 (by decide) ?_
                          refine lv_istore_n (lv' := [(2, .int 1), (3, .int 3), (0, .ref bd0), (1, .int (nI k))]) hx hb d_Bd_isLinked_43 rfl hl (by decide) rfl (fun ls hl => ?_)
                          obtain ⟨i_44, ei_44⟩ : ∃ y : Int32, y = 3 + 1 := ⟨_, rfl⟩
                          refine lv_iinc (v := i_44) (lv' := [(3, .int i_44), (2, .int 1), (0, .ref bd0), (1, .int (nI k))]) hx hb d_Bd_isLinked_44 hl (k := 1) rfl (by rw [ei_44]; rfl) (by decide) rfl (fun ls hl => ?_)
                          obtain rfl : i_44 = 4 := by rw [ei_44]; exact by decide
                          refine lv_goto (tgt := 9) hx hb d_Bd_isLinked_47 (by decide) ?_
                          refine lv_iload_n hx hb d_Bd_isLinked_9 rfl (lv_at hl 0 rfl) ?_
                          refine lv_iconst (v := 4) hx hb d_Bd_isLinked_10 (by decide) ?_
                          refine lv_icmp_ge (tgt := 50) hx hb d_Bd_isLinked_11 (by decide) (fun c_45 => ?_) (fun c_45 => ?_)
                          · -- taken
                            refine lv_iload_n hx hb d_Bd_isLinked_50 rfl (lv_at hl 1 rfl) ?_
                            exact W.zret (v := 1) hx hb hr (by decide) (fun t ht9 hW => ⟨⟨_, (gwk_1, gsk_1, gtk_1, glk_1), rfl, (bz_1 ⟨q0, q1, q2, q3⟩), by rw [ht9]; exact hP, va_K.moved hW.alike hK, hD⟩, hS.F ht9⟩) hS.2.2 d_Bd_isLinked_51
                          · -- not taken
                            exact absurd c_45 (by decide)
