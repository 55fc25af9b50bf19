abbrev b_Ha_finish : ByteArray := prog_5_method_4_code
abbrev y_Ha_finish : MethodName := ⟨"BallotBoard$Hash", "finish", "()V"⟩
abbrev w_Ha_finish : List Cond := .code y_Ha_finish b_Ha_finish 3 none :: gw
theorem d_Ha_finish_0 : decode b_Ha_finish 0 = .ok (.aload_n 0, 1) := by decide +kernel
theorem d_Ha_finish_1 : decode b_Ha_finish 1 = .ok (.getfield 26, 3) := by decide +kernel
theorem d_Ha_finish_4 : decode b_Ha_finish 4 = .ok (.iconst 2, 1) := by decide +kernel
theorem d_Ha_finish_5 : decode b_Ha_finish 5 = .ok (.iadd, 1) := by decide +kernel
theorem d_Ha_finish_6 : decode b_Ha_finish 6 = .ok (.bipush 8, 2) := by decide +kernel
theorem d_Ha_finish_8 : decode b_Ha_finish 8 = .ok (.if_icmp .gt 8, 3) := by decide +kernel
theorem d_Ha_finish_11 : decode b_Ha_finish 11 = .ok (.bipush 8, 2) := by decide +kernel
theorem d_Ha_finish_13 : decode b_Ha_finish 13 = .ok (.goto 5, 3) := by decide +kernel
theorem d_Ha_finish_16 : decode b_Ha_finish 16 = .ok (.bipush 16, 2) := by decide +kernel
theorem d_Ha_finish_18 : decode b_Ha_finish 18 = .ok (.istore_n 1, 1) := by decide +kernel
theorem d_Ha_finish_19 : decode b_Ha_finish 19 = .ok (.aload_n 0, 1) := by decide +kernel
theorem d_Ha_finish_20 : decode b_Ha_finish 20 = .ok (.getfield 9, 3) := by decide +kernel
theorem d_Ha_finish_23 : decode b_Ha_finish 23 = .ok (.aload_n 0, 1) := by decide +kernel
theorem d_Ha_finish_24 : decode b_Ha_finish 24 = .ok (.getfield 26, 3) := by decide +kernel
theorem d_Ha_finish_27 : decode b_Ha_finish 27 = .ok (.ldc2_w 30, 3) := by decide +kernel
theorem d_Ha_finish_30 : decode b_Ha_finish 30 = .ok (.lastore, 1) := by decide +kernel
theorem d_Ha_finish_31 : decode b_Ha_finish 31 = .ok (.aload_n 0, 1) := by decide +kernel
theorem d_Ha_finish_32 : decode b_Ha_finish 32 = .ok (.getfield 26, 3) := by decide +kernel
theorem d_Ha_finish_35 : decode b_Ha_finish 35 = .ok (.iconst 1, 1) := by decide +kernel
theorem d_Ha_finish_36 : decode b_Ha_finish 36 = .ok (.iadd, 1) := by decide +kernel
theorem d_Ha_finish_37 : decode b_Ha_finish 37 = .ok (.istore_n 2, 1) := by decide +kernel
theorem d_Ha_finish_38 : decode b_Ha_finish 38 = .ok (.iload_n 2, 1) := by decide +kernel
theorem d_Ha_finish_39 : decode b_Ha_finish 39 = .ok (.iload_n 1, 1) := by decide +kernel
theorem d_Ha_finish_40 : decode b_Ha_finish 40 = .ok (.iconst 1, 1) := by decide +kernel
theorem d_Ha_finish_41 : decode b_Ha_finish 41 = .ok (.isub, 1) := by decide +kernel
theorem d_Ha_finish_42 : decode b_Ha_finish 42 = .ok (.if_icmp .ge 16, 3) := by decide +kernel
theorem d_Ha_finish_45 : decode b_Ha_finish 45 = .ok (.aload_n 0, 1) := by decide +kernel
theorem d_Ha_finish_46 : decode b_Ha_finish 46 = .ok (.getfield 9, 3) := by decide +kernel
theorem d_Ha_finish_49 : decode b_Ha_finish 49 = .ok (.iload_n 2, 1) := by decide +kernel
theorem d_Ha_finish_50 : decode b_Ha_finish 50 = .ok (.lconst 0, 1) := by decide +kernel
theorem d_Ha_finish_51 : decode b_Ha_finish 51 = .ok (.lastore, 1) := by decide +kernel
theorem d_Ha_finish_52 : decode b_Ha_finish 52 = .ok (.iinc 2 1, 3) := by decide +kernel
theorem d_Ha_finish_55 : decode b_Ha_finish 55 = .ok (.goto (-17), 3) := by decide +kernel
theorem d_Ha_finish_58 : decode b_Ha_finish 58 = .ok (.aload_n 0, 1) := by decide +kernel
theorem d_Ha_finish_59 : decode b_Ha_finish 59 = .ok (.getfield 9, 3) := by decide +kernel
theorem d_Ha_finish_62 : decode b_Ha_finish 62 = .ok (.iload_n 1, 1) := by decide +kernel
theorem d_Ha_finish_63 : decode b_Ha_finish 63 = .ok (.iconst 1, 1) := by decide +kernel
theorem d_Ha_finish_64 : decode b_Ha_finish 64 = .ok (.isub, 1) := by decide +kernel
theorem d_Ha_finish_65 : decode b_Ha_finish 65 = .ok (.aload_n 0, 1) := by decide +kernel
theorem d_Ha_finish_66 : decode b_Ha_finish 66 = .ok (.getfield 26, 3) := by decide +kernel
theorem d_Ha_finish_69 : decode b_Ha_finish 69 = .ok (.i2l, 1) := by decide +kernel
theorem d_Ha_finish_70 : decode b_Ha_finish 70 = .ok (.ldc2_w 32, 3) := by decide +kernel
theorem d_Ha_finish_73 : decode b_Ha_finish 73 = .ok (.lmul, 1) := by decide +kernel
theorem d_Ha_finish_74 : decode b_Ha_finish 74 = .ok (.lastore, 1) := by decide +kernel
theorem d_Ha_finish_75 : decode b_Ha_finish 75 = .ok (.getstatic 20, 3) := by decide +kernel
theorem d_Ha_finish_78 : decode b_Ha_finish 78 = .ok (.iconst 0, 1) := by decide +kernel
theorem d_Ha_finish_79 : decode b_Ha_finish 79 = .ok (.aload_n 0, 1) := by decide +kernel
theorem d_Ha_finish_80 : decode b_Ha_finish 80 = .ok (.getfield 23, 3) := by decide +kernel
theorem d_Ha_finish_83 : decode b_Ha_finish 83 = .ok (.iconst 0, 1) := by decide +kernel
theorem d_Ha_finish_84 : decode b_Ha_finish 84 = .ok (.getstatic 20, 3) := by decide +kernel
theorem d_Ha_finish_87 : decode b_Ha_finish 87 = .ok (.arraylength, 1) := by decide +kernel
theorem d_Ha_finish_88 : decode b_Ha_finish 88 = .ok (.invokestatic 34, 3) := by decide +kernel
theorem d_Ha_finish_91 : decode b_Ha_finish 91 = .ok (.iconst 0, 1) := by decide +kernel
theorem d_Ha_finish_92 : decode b_Ha_finish 92 = .ok (.istore_n 2, 1) := by decide +kernel
theorem d_Ha_finish_93 : decode b_Ha_finish 93 = .ok (.iload_n 2, 1) := by decide +kernel
theorem d_Ha_finish_94 : decode b_Ha_finish 94 = .ok (.iload_n 1, 1) := by decide +kernel
theorem d_Ha_finish_95 : decode b_Ha_finish 95 = .ok (.if_icmp .ge 18, 3) := by decide +kernel
theorem d_Ha_finish_98 : decode b_Ha_finish 98 = .ok (.aload_n 0, 1) := by decide +kernel
theorem d_Ha_finish_99 : decode b_Ha_finish 99 = .ok (.iload_n 2, 1) := by decide +kernel
theorem d_Ha_finish_100 : decode b_Ha_finish 100 = .ok (.invokevirtual 40, 3) := by decide +kernel
theorem d_Ha_finish_103 : decode b_Ha_finish 103 = .ok (.aload_n 0, 1) := by decide +kernel
theorem d_Ha_finish_104 : decode b_Ha_finish 104 = .ok (.invokevirtual 44, 3) := by decide +kernel
theorem d_Ha_finish_107 : decode b_Ha_finish 107 = .ok (.iinc 2 8, 3) := by decide +kernel
theorem d_Ha_finish_110 : decode b_Ha_finish 110 = .ok (.goto (-17), 3) := by decide +kernel
theorem d_Ha_finish_113 : decode b_Ha_finish 113 = .ok (.return_, 1) := by decide +kernel
set_option maxHeartbeats 4000000 in
set_option maxRecDepth 100000 in
theorem c_Ha_finish (l : Launch) (dC : Nat → ClassId) (dI : Nat → Nat → Nat) (h0 sz : Nat) (aw ax ay : Nat) (cJ cI : ClassId) (w : Nat → Int64) (sc st : Nat → Int32) (L : Nat) (rA sA : Nat) (hL : L ≤ 14) : Met l y_Ha_finish w_Ha_finish ({ frames := 2, cells := 0, slots := 0, locals := 60 }) (va_Pc [.ref h0] (fun U => U.heap.size = sz ∧ va_P (dC, dI) classes (ha_ws h0 aw ax ay cJ cI w sc st L) U.heap ∧ va_K (dC, dI) classes [(cJ, .long), (cI, .int)] U ∧ va_D (fun _ => True) (ha_ws h0 aw ax ay cJ cI w sc st L) ∧ ha_Z rA sA (va_A (ha_ws h0 aw ax ay cJ cI w sc st L) sz) U U.heap)) (va_Qv (fun _ : Unit => True) (fun _ t => va_P (dC, dI) classes (ha_ws h0 aw ax ay cJ cI (pw w L) ((hbk (pw w L) sc (va_cpy kS st 0 0 8) (pdl L / 8)).1) ((hbk (pw w L) sc (va_cpy kS st 0 0 8) (pdl L / 8)).2) L) t.heap ∧ va_K (dC, dI) classes [(cJ, .long), (cI, .int)] t ∧ va_D (va_A (ha_ws h0 aw ax ay cJ cI w sc st L) sz) (ha_ws h0 aw ax ay cJ cI (pw w L) ((hbk (pw w L) sc (va_cpy kS st 0 0 8) (pdl L / 8)).1) ((hbk (pw w L) sc (va_cpy kS st 0 0 8) (pdl L / 8)).2) L)) (va_A (ha_ws h0 aw ax ay cJ cI w sc st L) sz)) 0 0 (va_A (ha_ws h0 aw ax ay cJ cI w sc st L) sz) := by
  refine Met.ofW (cc := b_Ha_finish) (maxL := 3) (ret := none) (by decide) rfl ?_
  intro p e s m args below meth c s₁ Bd hml hv
  obtain ⟨rfl, hsz, hP, hK, hD0, hZ⟩ := hv
  have hx := Bd.exec
  have hb := Bd.bytes
  have hr := Bd.returns
  have hts := atoms_spec (ws := w_Ha_finish) Bd.pre
  have hown : s.vm.findClass "BallotBoard$Hash" = some m.cls := findClass_of_methodNamed Bd.named
  have hlocks := Bd.notSynchronized
  subst hsz
  have hD := hD0.self (sz := s.heap.size)
  generalize hAe : va_A (ha_ws h0 aw ax ay cJ cI w sc st L) s.heap.size = A at hD hZ ⊢
  have hA : ∀ q : Nat, s.heap.size ≤ q → A q := fun q h => by rw [← hAe]; exact Or.inr h
  have hS : va_S A s.heap s.heap [] := va_S.rf
  have hl := lv_entry ([.ref h0]) (n := 3) (Nat.le_of_ble_eq_true rfl)
  rw [lg_entry_eq]
  generalize (lg_sl ([.ref h0]) ++ List.replicate (3 - (lg_sl ([.ref h0])).length) Slot.unset).toArray = ls at hl ⊢
  have hl : lv_has ls 3 [(0, .ref h0)] := hl
  have hpd := pdl_cases L
  have loop2 : ∀ (j b : Nat), b + j = pdl L / 8 → ∀ (H : Heap) (locs : List Loc), va_S A s.heap H locs → va_P (dC, dI) classes (ha_ws h0 aw ax ay cJ cI (pw w L) ((hbk (pw w L) sc (va_cpy kS st 0 0 8) b).1) ((hbk (pw w L) sc (va_cpy kS st 0 0 8) b).2) L) H → va_D A (ha_ws h0 aw ax ay cJ cI (pw w L) ((hbk (pw w L) sc (va_cpy kS st 0 0 8) b).1) ((hbk (pw w L) sc (va_cpy kS st 0 0 8) b).2) L) → ∀ (ls : Array Slot), lv_has ls 3 [(0, .ref h0), (1, .int (nI (pdl L))), (2, .int (nI (8 * b)))] → W p l e ({ frames := 2, cells := 0, slots := 0, locals := 60 } : Room) s m ([.ref h0] : List Value).toArray below meth c H locs 0 0 (MQ below (va_Qv (fun _ : Unit => True) (fun _ t => va_P (dC, dI) classes (ha_ws h0 aw ax ay cJ cI (pw w L) ((hbk (pw w L) sc (va_cpy kS st 0 0 8) (pdl L / 8)).1) ((hbk (pw w L) sc (va_cpy kS st 0 0 8) (pdl L / 8)).2) L) t.heap ∧ va_K (dC, dI) classes [(cJ, .long), (cI, .int)] t ∧ va_D A (ha_ws h0 aw ax ay cJ cI (pw w L) ((hbk (pw w L) sc (va_cpy kS st 0 0 8) (pdl L / 8)).1) ((hbk (pw w L) sc (va_cpy kS st 0 0 8) (pdl L / 8)).2) L)) A) ([.ref h0] : List Value).toArray s 0 0 A) (F0 m 93 ls []) := by
    intro j
    induction j using Nat.strongRecOn with
    | ind j ih =>
      intro b hbj H locs hS hP hD ls hl
      refine lv_iload_n hx hb d_Ha_finish_93 rfl (lv_at hl 2 rfl) ?_
      refine lv_iload_n hx hb d_Ha_finish_94 rfl (lv_at hl 1 rfl) ?_
      refine lv_icmp_ge (tgt := 113) hx hb d_Ha_finish_95 (by decide) (fun c_1 => ?_) (fun c_1 => ?_)
      · -- taken
        have hb8 : b = pdl L / 8 := by
          have := (nI_leI (by omega) (by omega)).mp c_1
          omega
        subst hb8
        exact W.vret hx hb hr (fun t ht9 hW => ⟨⟨(), rfl, trivial, by rw [ht9]; exact hP, va_K.moved hW.alike hK, hD⟩, hS.F ht9⟩) hS.2.2 d_Ha_finish_113
      · -- not taken
        have hb8 : b < pdl L / 8 := by
          have : ¬ pdl L ≤ 8 * b := fun h => c_1 ((nI_leI (by omega) (by omega)).mpr h)
          omega
        refine lv_aload_n hx hb d_Ha_finish_98 rfl (lv_at hl 0 rfl) ?_
        refine lv_iload_n hx hb d_Ha_finish_99 rfl (lv_at hl 2 rfl) ?_
        have hPc := hP.sub (ws' := [(h0, .inr (2, [.ref aw, .ref ax, .ref ay, .int (nI L)])), (aw, .inl (cJ, 16, .inr (.inl (pw w L)))), (ax, .inl (cI, 64, .inl ((hbk (pw w L) sc (va_cpy kS st 0 0 8) b).1))), (ay, .inl (cI, 8, .inl ((hbk (pw w L) sc (va_cpy kS st 0 0 8) b).2)))]) [0, 1, 2, 3] rfl
        have hDc := hD.sub (ws' := [(h0, .inr (2, [.ref aw, .ref ax, .ref ay, .int (nI L)])), (aw, .inl (cJ, 16, .inr (.inl (pw w L)))), (ax, .inl (cI, 64, .inl ((hbk (pw w L) sc (va_cpy kS st 0 0 8) b).1))), (ay, .inl (cI, 8, .inl ((hbk (pw w L) sc (va_cpy kS st 0 0 8) b).2)))]) [0, 1, 2, 3] (by decide) rfl
        have hKc := hK.sub (tys' := [(cJ, .long), (cI, .int)]) [0, 1] rfl
        have hFc := va_free (wc := [(h0, .inr (2, [.ref aw, .ref ax, .ref ay, .int (nI L)])), (aw, .inl (cJ, 16, .inr (.inl (pw w L)))), (ax, .inl (cI, 64, .inl ((hbk (pw w L) sc (va_cpy kS st 0 0 8) b).1))), (ay, .inl (cI, 8, .inl ((hbk (pw w L) sc (va_cpy kS st 0 0 8) b).2)))]) hD hS hA [0, 1, 2, 3] rfl
        refine va_callv (va_runV (As := [.int (nI (8 * b))]) (rest := []) ⟨hx, hb, hml, hown, hts⟩ (c_Ha_spread l dC dI h0 H.size aw ax ay cJ cI (pw w L) ((hbk (pw w L) sc (va_cpy kS st 0 0 8) b).1) ((hbk (pw w L) sc (va_cpy kS st 0 0 8) b).2) L (8 * b) (by omega)) (cwV 1 hts (gw_V gk_524 gk_526 gp_13 gk_2 gk_527) rfl rfl rfl (by decide +kernel) ⟨Nat.le_of_ble_eq_true rfl, Nat.le_of_ble_eq_true rfl⟩) ⟨fun a U g mk q => by obtain ⟨q0, q1, qP, qK, qD⟩ := q; exact ⟨q0, q1, qP, va_K.moved (u := U) (U := U.calling g mk a) (Vm.Alike.refl U.vm) qK, qD⟩, va_recv hK hP (ci := 2) (q0 := 0) rfl rfl, fun U hU hW => ⟨rfl, by rw [hU], by rw [hU]; exact hPc, va_K.moved hW.alike hKc, hDc.weaken (fun _ _ _ _ => trivial)⟩⟩ rfl rfl hl.1 rfl (lv_room (Nat.le_of_ble_eq_true rfl)) d_Ha_finish_100 ⟨Nat.le_of_ble_eq_true rfl, Nat.le_of_ble_eq_true rfl⟩) hS (fun q _ h => hFc q h) hFc (fun u9 t9 H1 locs ht hvm hw hB hz1 hk1 hS => ?_)
        obtain ⟨hP1, hK1, hD1⟩ := hB
        rw [ht] at hP1
        obtain ⟨hP, hD⟩ := va_join (wr := []) (w1 := [(h0, .inr (2, [.ref aw, .ref ax, .ref ay, .int (nI L)])), (aw, .inl (cJ, 16, .inr (.inl (pw w L)))), (ax, .inl (cI, 64, .inl (swn (sp1 ((hbk (pw w L) sc (va_cpy kS st 0 0 8) b).1) (pw w L) (8 * b) 8) 48))), (ay, .inl (cI, 8, .inl ((hbk (pw w L) sc (va_cpy kS st 0 0 8) b).2)))]) hP hD [0, 1, 2, 3] [] rfl rfl (by decide) (by decide) hk1 hFc hP1 hD1
        have hP := hP.sub (ws' := [(h0, .inr (2, [.ref aw, .ref ax, .ref ay, .int (nI L)])), (aw, .inl (cJ, 16, .inr (.inl (pw w L)))), (ax, .inl (cI, 64, .inl (swn (sp1 ((hbk (pw w L) sc (va_cpy kS st 0 0 8) b).1) (pw w L) (8 * b) 8) 48))), (ay, .inl (cI, 8, .inl ((hbk (pw w L) sc (va_cpy kS st 0 0 8) b).2)))]) [0, 1, 2, 3] rfl
        have hD := hD.sub (ws' := [(h0, .inr (2, [.ref aw, .ref ax, .ref ay, .int (nI L)])), (aw, .inl (cJ, 16, .inr (.inl (pw w L)))), (ax, .inl (cI, 64, .inl (swn (sp1 ((hbk (pw w L) sc (va_cpy kS st 0 0 8) b).1) (pw w L) (8 * b) 8) 48))), (ay, .inl (cI, 8, .inl ((hbk (pw w L) sc (va_cpy kS st 0 0 8) b).2)))]) [0, 1, 2, 3] (by decide) rfl
        generalize H1 = H at hP hS ⊢
        refine lv_aload_n hx hb d_Ha_finish_103 rfl (lv_at hl 0 rfl) ?_
        have hPc := hP.sub (ws' := [(h0, .inr (2, [.ref aw, .ref ax, .ref ay, .int (nI L)])), (aw, .inl (cJ, 16, .inr (.inl (pw w L)))), (ax, .inl (cI, 64, .inl (swn (sp1 ((hbk (pw w L) sc (va_cpy kS st 0 0 8) b).1) (pw w L) (8 * b) 8) 48))), (ay, .inl (cI, 8, .inl ((hbk (pw w L) sc (va_cpy kS st 0 0 8) b).2)))]) [0, 1, 2, 3] rfl
        have hDc := hD.sub (ws' := [(h0, .inr (2, [.ref aw, .ref ax, .ref ay, .int (nI L)])), (aw, .inl (cJ, 16, .inr (.inl (pw w L)))), (ax, .inl (cI, 64, .inl (swn (sp1 ((hbk (pw w L) sc (va_cpy kS st 0 0 8) b).1) (pw w L) (8 * b) 8) 48))), (ay, .inl (cI, 8, .inl ((hbk (pw w L) sc (va_cpy kS st 0 0 8) b).2)))]) [0, 1, 2, 3] (by decide) rfl
        have hKc := hK.sub (tys' := [(cJ, .long), (cI, .int)]) [0, 1] rfl
        have hFc := va_free (wc := [(h0, .inr (2, [.ref aw, .ref ax, .ref ay, .int (nI L)])), (aw, .inl (cJ, 16, .inr (.inl (pw w L)))), (ax, .inl (cI, 64, .inl (swn (sp1 ((hbk (pw w L) sc (va_cpy kS st 0 0 8) b).1) (pw w L) (8 * b) 8) 48))), (ay, .inl (cI, 8, .inl ((hbk (pw w L) sc (va_cpy kS st 0 0 8) b).2)))]) hD hS hA [0, 1, 2, 3] rfl
        have hZc0 : ha_Z rA sA (va_A [(h0, .inr (2, [.ref aw, .ref ax, .ref ay, .int (nI L)])), (aw, .inl (cJ, 16, .inr (.inl (pw w L)))), (ax, .inl (cI, 64, .inl (swn (sp1 ((hbk (pw w L) sc (va_cpy kS st 0 0 8) b).1) (pw w L) (8 * b) 8) 48))), (ay, .inl (cI, 8, .inl ((hbk (pw w L) sc (va_cpy kS st 0 0 8) b).2)))] H.size) s H := (hZ.kept hS.2.1).narrow hFc
        refine va_callv (va_runV (As := []) (rest := []) ⟨hx, hb, hml, hown, hts⟩ (c_Ha_mix l dC dI h0 H.size aw ax ay cJ cI (pw w L) (swn (sp1 ((hbk (pw w L) sc (va_cpy kS st 0 0 8) b).1) (pw w L) (8 * b) 8) 48) ((hbk (pw w L) sc (va_cpy kS st 0 0 8) b).2) L rA sA) (cwV 0 hts (gw_V gk_531 gk_533 gp_14 gk_2 gk_534) rfl rfl rfl (by decide +kernel) ⟨Nat.le_of_ble_eq_true rfl, Nat.le_of_ble_eq_true rfl⟩) ⟨fun a U g mk q => by obtain ⟨q0, q1, qP, qK, qD, qZ0⟩ := q; exact ⟨q0, q1, qP, va_K.moved (u := U) (U := U.calling g mk a) (Vm.Alike.refl U.vm) qK, qD, ha_Z.moved (u := U) (U := U.calling g mk a) (Vm.Alike.refl U.vm) qZ0⟩, va_recv hK hP (ci := 2) (q0 := 0) rfl rfl, fun U hU hW => ⟨rfl, by rw [hU], by rw [hU]; exact hPc, va_K.moved hW.alike hKc, hDc.weaken (fun _ _ _ _ => trivial), by rw [hU]; exact ha_Z.moved hW.alike hZc0⟩⟩ rfl rfl hl.1 rfl (lv_room (Nat.le_of_ble_eq_true rfl)) d_Ha_finish_104 ⟨Nat.le_of_ble_eq_true rfl, Nat.le_of_ble_eq_true rfl⟩) hS (fun q _ h => hFc q h) hFc (fun u9 t9 H1 locs ht hvm hw hB hz1 hk1 hS => ?_)
        obtain ⟨hP1, hK1, hD1⟩ := hB
        rw [ht] at hP1
        obtain ⟨hP, hD⟩ := va_join (wr := []) (w1 := [(h0, .inr (2, [.ref aw, .ref ax, .ref ay, .int (nI L)])), (aw, .inl (cJ, 16, .inr (.inl (pw w L)))), (ax, .inl (cI, 64, .inl (swn (sp1 ((hbk (pw w L) sc (va_cpy kS st 0 0 8) b).1) (pw w L) (8 * b) 8) 48))), (ay, .inl (cI, 8, .inl (mxa (swn (sp1 ((hbk (pw w L) sc (va_cpy kS st 0 0 8) b).1) (pw w L) (8 * b) 8) 48) ((hbk (pw w L) sc (va_cpy kS st 0 0 8) b).2) 8)))]) hP hD [0, 1, 2, 3] [] rfl rfl (by decide) (by decide) hk1 hFc hP1 hD1
        have hP := hP.sub (ws' := [(h0, .inr (2, [.ref aw, .ref ax, .ref ay, .int (nI L)])), (aw, .inl (cJ, 16, .inr (.inl (pw w L)))), (ax, .inl (cI, 64, .inl (swn (sp1 ((hbk (pw w L) sc (va_cpy kS st 0 0 8) b).1) (pw w L) (8 * b) 8) 48))), (ay, .inl (cI, 8, .inl (mxa (swn (sp1 ((hbk (pw w L) sc (va_cpy kS st 0 0 8) b).1) (pw w L) (8 * b) 8) 48) ((hbk (pw w L) sc (va_cpy kS st 0 0 8) b).2) 8)))]) [0, 1, 2, 3] rfl
        have hD := hD.sub (ws' := [(h0, .inr (2, [.ref aw, .ref ax, .ref ay, .int (nI L)])), (aw, .inl (cJ, 16, .inr (.inl (pw w L)))), (ax, .inl (cI, 64, .inl (swn (sp1 ((hbk (pw w L) sc (va_cpy kS st 0 0 8) b).1) (pw w L) (8 * b) 8) 48))), (ay, .inl (cI, 8, .inl (mxa (swn (sp1 ((hbk (pw w L) sc (va_cpy kS st 0 0 8) b).1) (pw w L) (8 * b) 8) 48) ((hbk (pw w L) sc (va_cpy kS st 0 0 8) b).2) 8)))]) [0, 1, 2, 3] (by decide) rfl
        generalize H1 = H at hP hS ⊢
        obtain ⟨i_4, ei_4⟩ : ∃ y : Int32, y = (nI (8 * b)) + 8 := ⟨_, rfl⟩
        refine lv_iinc (v := i_4) (lv' := [(2, .int i_4), (0, .ref h0), (1, .int (nI (pdl L)))]) hx hb d_Ha_finish_107 hl (k := 2) rfl (by rw [ei_4]; rfl) (by decide) rfl (fun ls hl => ?_)
        obtain rfl : i_4 = nI (8 * (b + 1)) := by rw [ei_4]; exact nI_8 (8 * b)
        refine lv_goto (tgt := 93) hx hb d_Ha_finish_110 (by decide) ?_
        exact ih (j - 1) (by omega) (b + 1) (by omega) H locs hS hP hD ls (lv_sub hl [1, 2, 0] rfl)
  have loop1 : ∀ (j k : Nat), k + j = pdl L - 2 - L → ∀ (H : Heap) (locs : List Loc), va_S A s.heap H locs → va_P (dC, dI) classes (ha_ws h0 aw ax ay cJ cI (pz w L k) sc st L) H → va_D A (ha_ws h0 aw ax ay cJ cI (pz w L k) sc st L) → ∀ (ls : Array Slot), lv_has ls 3 [(0, .ref h0), (1, .int (nI (pdl L))), (2, .int (nI (L + 1 + k)))] → W p l e ({ frames := 2, cells := 0, slots := 0, locals := 60 } : Room) s m ([.ref h0] : List Value).toArray below meth c H locs 0 0 (MQ below (va_Qv (fun _ : Unit => True) (fun _ t => va_P (dC, dI) classes (ha_ws h0 aw ax ay cJ cI (pw w L) ((hbk (pw w L) sc (va_cpy kS st 0 0 8) (pdl L / 8)).1) ((hbk (pw w L) sc (va_cpy kS st 0 0 8) (pdl L / 8)).2) L) t.heap ∧ va_K (dC, dI) classes [(cJ, .long), (cI, .int)] t ∧ va_D A (ha_ws h0 aw ax ay cJ cI (pw w L) ((hbk (pw w L) sc (va_cpy kS st 0 0 8) (pdl L / 8)).1) ((hbk (pw w L) sc (va_cpy kS st 0 0 8) (pdl L / 8)).2) L)) A) ([.ref h0] : List Value).toArray s 0 0 A) (F0 m 38 ls []) := by
    intro j
    induction j using Nat.strongRecOn with
    | ind j ih =>
      intro k hkj H locs hS hP hD ls hl
      refine lv_iload_n hx hb d_Ha_finish_38 rfl (lv_at hl 2 rfl) ?_
      refine lv_iload_n hx hb d_Ha_finish_39 rfl (lv_at hl 1 rfl) ?_
      refine lv_iconst (v := 1) hx hb d_Ha_finish_40 (by decide) ?_
      refine lv_isub hx hb d_Ha_finish_41 ?_
      rw [show ((nI (pdl L)) - 1 : Int32) = (nI (pdl L - 1)) from nI_subI (b := 1) (by omega) rfl]
      refine lv_icmp_ge (tgt := 58) hx hb d_Ha_finish_42 (by decide) (fun c_1 => ?_) (fun c_1 => ?_)
      · -- taken
        have hk9 : k = pdl L - 2 - L := by
          have := (nI_leI (by omega) (by omega)).mp c_1
          omega
        rw [hk9] at hP hD
        refine lv_aload_n hx hb d_Ha_finish_58 rfl (lv_at hl 0 rfl) ?_
        refine va_get (D := (dC, dI)) (ci := 2) (v := .ref aw) (C := "BallotBoard$Hash") (T := F_Ha) (N := 4) hx hb hts (fun w9 h9 => List.mem_cons_of_mem _ (i_Ha w9 h9)) hown hK hP 0 rfl rfl 0 (by decide) (hts _ (List.mem_cons_of_mem _ gk_37)) (fun _ h9 => h9) rfl d_Ha_finish_59 ?_
        refine lv_iload_n hx hb d_Ha_finish_62 rfl (lv_at hl 1 rfl) ?_
        refine lv_iconst (v := 1) hx hb d_Ha_finish_63 (by decide) ?_
        refine lv_isub hx hb d_Ha_finish_64 ?_
        rw [show ((nI (pdl L)) - 1 : Int32) = (nI (pdl L - 1)) from nI_subI (b := 1) (by omega) rfl]
        refine lv_aload_n hx hb d_Ha_finish_65 rfl (lv_at hl 0 rfl) ?_
        refine va_get (D := (dC, dI)) (ci := 2) (v := .int (nI L)) (C := "BallotBoard$Hash") (T := F_Ha) (N := 4) hx hb hts (fun w9 h9 => List.mem_cons_of_mem _ (i_Ha w9 h9)) hown hK hP 0 rfl rfl 3 (by decide) (hts _ (List.mem_cons_of_mem _ gk_40)) (fun _ h9 => h9) rfl d_Ha_finish_66 ?_
        refine lv_i2l (v := (nI L : Int32).toInt64) hx hb d_Ha_finish_69 rfl ?_
        refine lv_ldc2 (v := 64) hx hb hown (hts _ (List.mem_cons_of_mem _ gk_520)) d_Ha_finish_70 ?_
        refine lv_lmul hx hb d_Ha_finish_73 ?_
        refine va_last hx hb hK hP hD hS 1 0 rfl rfl (vp_in_nI (by omega) (by omega)) d_Ha_finish_74 (fun H locs hP hD hS => ?_)
        have hfe : vp_updL (pz w L (pdl L - 2 - L)) (nI (pdl L - 1) : Int32).toNatClampNeg (((nI L : Int32).toInt64) * 64) = pw w L := by rw [nI_clamp (by omega)]; rfl
        have hP : va_P (dC, dI) classes [(h0, .inr (2, [.ref aw, .ref ax, .ref ay, .int (nI L)])), (aw, .inl (cJ, 16, .inr (.inl (vp_updL (pz w L (pdl L - 2 - L)) (nI (pdl L - 1) : Int32).toNatClampNeg (((nI L : Int32).toInt64) * 64))))), (ax, .inl (cI, 64, .inl sc)), (ay, .inl (cI, 8, .inl st))] H := hP
        have hD : va_D A [(h0, .inr (2, [.ref aw, .ref ax, .ref ay, .int (nI L)])), (aw, .inl (cJ, 16, .inr (.inl (vp_updL (pz w L (pdl L - 2 - L)) (nI (pdl L - 1) : Int32).toNatClampNeg (((nI L : Int32).toInt64) * 64))))), (ax, .inl (cI, 64, .inl sc)), (ay, .inl (cI, 8, .inl st))] := hD
        rw [hfe] at hP hD
        refine va_gets (v := .ref sA) hx hb hZ.2.2.1 hS hown (hts _ (List.mem_cons_of_mem _ gk_35)) (fun _ h9 => h9) d_Ha_finish_75 ?_
        refine lv_iconst (v := 0) hx hb d_Ha_finish_78 (by decide) ?_
        refine lv_aload_n hx hb d_Ha_finish_79 rfl (lv_at hl 0 rfl) ?_
        refine va_get (D := (dC, dI)) (ci := 2) (v := .ref ay) (C := "BallotBoard$Hash") (T := F_Ha) (N := 4) hx hb hts (fun w9 h9 => List.mem_cons_of_mem _ (i_Ha w9 h9)) hown hK hP 0 rfl rfl 2 (by decide) (hts _ (List.mem_cons_of_mem _ gk_39)) (fun _ h9 => h9) rfl d_Ha_finish_80 ?_
        refine lv_iconst (v := 0) hx hb d_Ha_finish_83 (by decide) ?_
        refine va_gets (v := .ref sA) hx hb hZ.2.2.1 hS hown (hts _ (List.mem_cons_of_mem _ gk_35)) (fun _ h9 => h9) d_Ha_finish_84 ?_
        refine va_tlen (v := 8) hx hb hZ.2.2.2 hS rfl d_Ha_finish_87 ?_
        refine sh_copy hx hb (hml.trans hl.1.symm) hown (hts _ (List.mem_cons_of_mem _ gk_521)) (hts _ (List.mem_cons_of_mem _ gk_523)) (hts _ (List.mem_cons_of_mem _ gk_522)) (hts _ (List.mem_cons_of_mem _ gk_16)) hK hP hD hS hZ.2.2.2 3 1 rfl rfl (by decide) (by decide) (Nat.le_of_ble_eq_true rfl) (Nat.le_of_ble_eq_true rfl) d_Ha_finish_88 (fun H locs hP hD hS => ?_)
        have hP : va_P (dC, dI) classes [(h0, .inr (2, [.ref aw, .ref ax, .ref ay, .int (nI L)])), (aw, .inl (cJ, 16, .inr (.inl (pw w L)))), (ax, .inl (cI, 64, .inl sc)), (ay, .inl (cI, 8, .inl (va_cpy kS st 0 0 8)))] H := hP
        have hD : va_D A [(h0, .inr (2, [.ref aw, .ref ax, .ref ay, .int (nI L)])), (aw, .inl (cJ, 16, .inr (.inl (pw w L)))), (ax, .inl (cI, 64, .inl sc)), (ay, .inl (cI, 8, .inl (va_cpy kS st 0 0 8)))] := hD
        refine lv_iconst (v := 0) hx hb d_Ha_finish_91 (by decide) ?_
        refine lv_istore_n (lv' := [(2, .int 0), (0, .ref h0), (1, .int (nI (pdl L)))]) hx hb d_Ha_finish_92 rfl hl (by decide) rfl (fun ls hl => ?_)
        exact loop2 (pdl L / 8) 0 (by omega) H locs hS hP hD ls (lv_sub hl [1, 2, 0] rfl)
      · -- not taken
        have hk9 : ¬ pdl L - 1 ≤ L + 1 + k := fun h => c_1 ((nI_leI (by omega) (by omega)).mpr h)
        refine lv_aload_n hx hb d_Ha_finish_45 rfl (lv_at hl 0 rfl) ?_
        refine va_get (D := (dC, dI)) (ci := 2) (v := .ref aw) (C := "BallotBoard$Hash") (T := F_Ha) (N := 4) hx hb hts (fun w9 h9 => List.mem_cons_of_mem _ (i_Ha w9 h9)) hown hK hP 0 rfl rfl 0 (by decide) (hts _ (List.mem_cons_of_mem _ gk_37)) (fun _ h9 => h9) rfl d_Ha_finish_46 ?_
        refine lv_iload_n hx hb d_Ha_finish_49 rfl (lv_at hl 2 rfl) ?_
        refine lv_lconst (v := 0) hx hb d_Ha_finish_50 (by decide) ?_
        refine va_last hx hb hK hP hD hS 1 0 rfl rfl (vp_in_nI (by omega) (by omega)) d_Ha_finish_51 (fun H locs hP hD hS => ?_)
        have hfe : vp_updL (pz w L k) (nI (L + 1 + k) : Int32).toNatClampNeg 0 = pz w L (k + 1) := by rw [nI_clamp (by omega)]; rfl
        have hP : va_P (dC, dI) classes [(h0, .inr (2, [.ref aw, .ref ax, .ref ay, .int (nI L)])), (aw, .inl (cJ, 16, .inr (.inl (vp_updL (pz w L k) (nI (L + 1 + k) : Int32).toNatClampNeg 0)))), (ax, .inl (cI, 64, .inl sc)), (ay, .inl (cI, 8, .inl st))] H := hP
        have hD : va_D A [(h0, .inr (2, [.ref aw, .ref ax, .ref ay, .int (nI L)])), (aw, .inl (cJ, 16, .inr (.inl (vp_updL (pz w L k) (nI (L + 1 + k) : Int32).toNatClampNeg 0)))), (ax, .inl (cI, 64, .inl sc)), (ay, .inl (cI, 8, .inl st))] := hD
        rw [hfe] at hP hD
        obtain ⟨i_2, ei_2⟩ : ∃ y : Int32, y = (nI (L + 1 + k)) + 1 := ⟨_, rfl⟩
        refine lv_iinc (v := i_2) (lv' := [(2, .int i_2), (0, .ref h0), (1, .int (nI (pdl L)))]) hx hb d_Ha_finish_52 hl (k := 2) rfl (by rw [ei_2]; rfl) (by decide) rfl (fun ls hl => ?_)
        obtain rfl : i_2 = nI (L + 1 + (k + 1)) := by rw [ei_2]; exact nI_1 (L + 1 + k)
        refine lv_goto (tgt := 38) hx hb d_Ha_finish_55 (by decide) ?_
        exact ih (j - 1) (by omega) (k + 1) (by omega) H locs hS hP hD ls (lv_sub hl [1, 2, 0] rfl)
  have tail : ∀ (H : Heap) (locs : List Loc), va_S A s.heap H locs → va_P (dC, dI) classes (ha_ws h0 aw ax ay cJ cI w sc st L) H → va_D A (ha_ws h0 aw ax ay cJ cI w sc st L) → ∀ (ls : Array Slot), lv_has ls 3 [(0, .ref h0)] → W p l e ({ frames := 2, cells := 0, slots := 0, locals := 60 } : Room) s m ([.ref h0] : List Value).toArray below meth c H locs 0 0 (MQ below (va_Qv (fun _ : Unit => True) (fun _ t => va_P (dC, dI) classes (ha_ws h0 aw ax ay cJ cI (pw w L) ((hbk (pw w L) sc (va_cpy kS st 0 0 8) (pdl L / 8)).1) ((hbk (pw w L) sc (va_cpy kS st 0 0 8) (pdl L / 8)).2) L) t.heap ∧ va_K (dC, dI) classes [(cJ, .long), (cI, .int)] t ∧ va_D A (ha_ws h0 aw ax ay cJ cI (pw w L) ((hbk (pw w L) sc (va_cpy kS st 0 0 8) (pdl L / 8)).1) ((hbk (pw w L) sc (va_cpy kS st 0 0 8) (pdl L / 8)).2) L)) A) ([.ref h0] : List Value).toArray s 0 0 A) (F0 m 18 ls [.int (nI (pdl L))]) := by
    intro H locs hS hP hD ls hl
    refine lv_istore_n (lv' := [(1, .int (nI (pdl L))), (0, .ref h0)]) hx hb d_Ha_finish_18 rfl hl (by decide) rfl (fun ls hl => ?_)
    refine lv_aload_n hx hb d_Ha_finish_19 rfl (lv_at hl 1 rfl) ?_
    refine va_get (D := (dC, dI)) (ci := 2) (v := .ref aw) (C := "BallotBoard$Hash") (T := F_Ha) (N := 4) hx hb hts (fun w9 h9 => List.mem_cons_of_mem _ (i_Ha w9 h9)) hown hK hP 0 rfl rfl 0 (by decide) (hts _ (List.mem_cons_of_mem _ gk_37)) (fun _ h9 => h9) rfl d_Ha_finish_20 ?_
    refine lv_aload_n hx hb d_Ha_finish_23 rfl (lv_at hl 1 rfl) ?_
    refine va_get (D := (dC, dI)) (ci := 2) (v := .int (nI L)) (C := "BallotBoard$Hash") (T := F_Ha) (N := 4) hx hb hts (fun w9 h9 => List.mem_cons_of_mem _ (i_Ha w9 h9)) hown hK hP 0 rfl rfl 3 (by decide) (hts _ (List.mem_cons_of_mem _ gk_40)) (fun _ h9 => h9) rfl d_Ha_finish_24 ?_
    refine lv_ldc2 (v := (-9223372036854775808)) hx hb hown (hts _ (List.mem_cons_of_mem _ gk_519)) d_Ha_finish_27 ?_
    refine va_last hx hb hK hP hD hS 1 0 rfl rfl (vp_in_nI (by omega) (by omega)) d_Ha_finish_30 (fun H locs hP hD hS => ?_)
    have hfe : vp_updL w (nI L : Int32).toNatClampNeg (-9223372036854775808) = pz w L 0 := by rw [nI_clamp (by omega)]; rfl
    have hP : va_P (dC, dI) classes [(h0, .inr (2, [.ref aw, .ref ax, .ref ay, .int (nI L)])), (aw, .inl (cJ, 16, .inr (.inl (vp_updL w (nI L : Int32).toNatClampNeg (-9223372036854775808))))), (ax, .inl (cI, 64, .inl sc)), (ay, .inl (cI, 8, .inl st))] H := hP
    have hD : va_D A [(h0, .inr (2, [.ref aw, .ref ax, .ref ay, .int (nI L)])), (aw, .inl (cJ, 16, .inr (.inl (vp_updL w (nI L : Int32).toNatClampNeg (-9223372036854775808))))), (ax, .inl (cI, 64, .inl sc)), (ay, .inl (cI, 8, .inl st))] := hD
    rw [hfe] at hP hD
    refine lv_aload_n hx hb d_Ha_finish_31 rfl (lv_at hl 1 rfl) ?_
    refine va_get (D := (dC, dI)) (ci := 2) (v := .int (nI L)) (C := "BallotBoard$Hash") (T := F_Ha) (N := 4) hx hb hts (fun w9 h9 => List.mem_cons_of_mem _ (i_Ha w9 h9)) hown hK hP 0 rfl rfl 3 (by decide) (hts _ (List.mem_cons_of_mem _ gk_40)) (fun _ h9 => h9) rfl d_Ha_finish_32 ?_
    refine lv_iconst (v := 1) hx hb d_Ha_finish_35 (by decide) ?_
    refine lv_iadd hx hb d_Ha_finish_36 ?_
    rw [show ((nI L) + 1 : Int32) = (nI (L + 1 + 0)) from nI_1 L]
    refine lv_istore_n (lv' := [(2, .int (nI (L + 1 + 0))), (1, .int (nI (pdl L))), (0, .ref h0)]) hx hb d_Ha_finish_37 rfl hl (by decide) rfl (fun ls hl => ?_)
    exact loop1 (pdl L - 2 - L) 0 (by omega) H locs hS hP hD ls (lv_sub hl [2, 1, 0] rfl)
  refine lv_aload_n hx hb d_Ha_finish_0 rfl (lv_at hl 0 rfl) ?_
  refine va_get (D := (dC, dI)) (ci := 2) (v := .int (nI L)) (C := "BallotBoard$Hash") (T := F_Ha) (N := 4) hx hb hts (fun w9 h9 => List.mem_cons_of_mem _ (i_Ha w9 h9)) hown hK hP 0 rfl rfl 3 (by decide) (hts _ (List.mem_cons_of_mem _ gk_40)) (fun _ h9 => h9) rfl d_Ha_finish_1 ?_
  refine lv_iconst (v := 2) hx hb d_Ha_finish_4 (by decide) ?_
  refine lv_iadd hx hb d_Ha_finish_5 ?_
  rw [show ((nI L) + 2 : Int32) = (nI (L + 2)) from nI_add L 2]
  refine lv_bipush (v := 8) hx hb d_Ha_finish_6 (by decide) ?_
  refine lv_icmp_gt (tgt := 16) hx hb d_Ha_finish_8 (by decide) (fun c_1 => ?_) (fun c_1 => ?_)
  · -- taken
    have hc8 : 8 < L + 2 := (nI_ltI (by omega) (by omega)).mp c_1
    refine lv_bipush (v := 16) hx hb d_Ha_finish_16 (by decide) ?_
    rw [show (16 : Int32) = nI (pdl L) from by rw [show pdl L = 16 from by omega]; rfl]
    exact tail _ [] hS hP hD ls (lv_sub hl [0] rfl)
  · -- not taken
    have hc8 : ¬ 8 < L + 2 := fun h => c_1 ((nI_ltI (a := 8) (by omega) (by omega)).mpr h)
    refine lv_bipush (v := 8) hx hb d_Ha_finish_11 (by decide) ?_
    refine lv_goto (tgt := 18) hx hb d_Ha_finish_13 (by decide) ?_
    rw [show (8 : Int32) = nI (pdl L) from by rw [show pdl L = 8 from by omega]; rfl]
    exact tail _ [] hS hP hD ls (lv_sub hl [0] rfl)
