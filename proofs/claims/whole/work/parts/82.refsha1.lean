abbrev b_Bm_eight : ByteArray := prog_10_method_5_code
abbrev y_Bm_eight : MethodName := ⟨"BallotBoardModel", "eight", "(J)V"⟩
abbrev w_Bm_eight : List Cond := .code y_Bm_eight b_Bm_eight 4 none :: gw
theorem d_Bm_eight_0 : decode b_Bm_eight 0 = .ok (.bipush 56, 2) := by decide +kernel
theorem d_Bm_eight_2 : decode b_Bm_eight 2 = .ok (.istore_n 3, 1) := by decide +kernel
theorem d_Bm_eight_3 : decode b_Bm_eight 3 = .ok (.iload_n 3, 1) := by decide +kernel
theorem d_Bm_eight_4 : decode b_Bm_eight 4 = .ok (.ifCond .lt 33, 3) := by decide +kernel
theorem d_Bm_eight_7 : decode b_Bm_eight 7 = .ok (.aload_n 0, 1) := by decide +kernel
theorem d_Bm_eight_8 : decode b_Bm_eight 8 = .ok (.getfield 32, 3) := by decide +kernel
theorem d_Bm_eight_11 : decode b_Bm_eight 11 = .ok (.aload_n 0, 1) := by decide +kernel
theorem d_Bm_eight_12 : decode b_Bm_eight 12 = .ok (.dup, 1) := by decide +kernel
theorem d_Bm_eight_13 : decode b_Bm_eight 13 = .ok (.getfield 135, 3) := by decide +kernel
theorem d_Bm_eight_16 : decode b_Bm_eight 16 = .ok (.dup_x1, 1) := by decide +kernel
theorem d_Bm_eight_17 : decode b_Bm_eight 17 = .ok (.iconst 1, 1) := by decide +kernel
theorem d_Bm_eight_18 : decode b_Bm_eight 18 = .ok (.iadd, 1) := by decide +kernel
theorem d_Bm_eight_19 : decode b_Bm_eight 19 = .ok (.putfield 135, 3) := by decide +kernel
theorem d_Bm_eight_22 : decode b_Bm_eight 22 = .ok (.lload_n 1, 1) := by decide +kernel
theorem d_Bm_eight_23 : decode b_Bm_eight 23 = .ok (.iload_n 3, 1) := by decide +kernel
theorem d_Bm_eight_24 : decode b_Bm_eight 24 = .ok (.lshr, 1) := by decide +kernel
theorem d_Bm_eight_25 : decode b_Bm_eight 25 = .ok (.l2i, 1) := by decide +kernel
theorem d_Bm_eight_26 : decode b_Bm_eight 26 = .ok (.sipush 255, 3) := by decide +kernel
theorem d_Bm_eight_29 : decode b_Bm_eight 29 = .ok (.iand, 1) := by decide +kernel
theorem d_Bm_eight_30 : decode b_Bm_eight 30 = .ok (.iastore, 1) := by decide +kernel
theorem d_Bm_eight_31 : decode b_Bm_eight 31 = .ok (.iinc 3 (-8), 3) := by decide +kernel
theorem d_Bm_eight_34 : decode b_Bm_eight 34 = .ok (.goto (-31), 3) := by decide +kernel
theorem d_Bm_eight_37 : decode b_Bm_eight 37 = .ok (.return_, 1) := by decide +kernel
set_option maxHeartbeats 8000000 in
set_option maxRecDepth 100000 in
theorem c_Bm_eight (l : Launch) (dC : Nat → ClassId) (dI : Nat → Nat → Nat) (cJ cI : ClassId) (sz : Nat) (m0 : Nat) (z0 z1 z2 z3 : Int32) (z4 z5 z6 z7 z8 z9 : Int64) (z10 : Int32) (a0 a1 a2 a3 a4 a5 a6 a7 a8 a9 b0 b1 oc b2 b3 b4 b5 : Nat) (bf : Nat → Int32) (v1 : Int64) (hoc : oc + 8 ≤ 256) : Met l y_Bm_eight w_Bm_eight ({ frames := 0, cells := 0, slots := 0, locals := 0 }) (va_Pc [.ref m0, .long v1] (fun U => U.heap.size = sz ∧ va_P (dC, dI) classes (mo_ws m0 z0 z1 z2 z3 z4 z5 z6 z7 z8 z9 z10 a0 a1 a2 a3 a4 a5 a6 a7 a8 a9 b0 b1 oc b2 b3 b4 b5 ++ (iw_ws a7 cI 256 bf)) U.heap ∧ va_K (dC, dI) classes [(cJ, .long), (cI, .int)] U ∧ va_D (fun _ => True) (mo_ws m0 z0 z1 z2 z3 z4 z5 z6 z7 z8 z9 z10 a0 a1 a2 a3 a4 a5 a6 a7 a8 a9 b0 b1 oc b2 b3 b4 b5 ++ (iw_ws a7 cI 256 bf)))) (va_Qv (fun _ : Unit => True) (fun _ t => va_P (dC, dI) classes (mo_ws m0 z0 z1 z2 z3 z4 z5 z6 z7 z8 z9 z10 a0 a1 a2 a3 a4 a5 a6 a7 a8 a9 b0 b1 (oc + 8) b2 b3 b4 b5 ++ (iw_ws a7 cI 256 (o8 bf oc v1))) t.heap ∧ va_K (dC, dI) classes [(cJ, .long), (cI, .int)] t ∧ va_D (va_A (mo_ws m0 z0 z1 z2 z3 z4 z5 z6 z7 z8 z9 z10 a0 a1 a2 a3 a4 a5 a6 a7 a8 a9 b0 b1 oc b2 b3 b4 b5 ++ (iw_ws a7 cI 256 bf)) sz) (mo_ws m0 z0 z1 z2 z3 z4 z5 z6 z7 z8 z9 z10 a0 a1 a2 a3 a4 a5 a6 a7 a8 a9 b0 b1 (oc + 8) b2 b3 b4 b5 ++ (iw_ws a7 cI 256 (o8 bf oc v1)))) (va_A (mo_ws m0 z0 z1 z2 z3 z4 z5 z6 z7 z8 z9 z10 a0 a1 a2 a3 a4 a5 a6 a7 a8 a9 b0 b1 oc b2 b3 b4 b5 ++ (iw_ws a7 cI 256 bf)) sz)) 0 0 (va_A (mo_ws m0 z0 z1 z2 z3 z4 z5 z6 z7 z8 z9 z10 a0 a1 a2 a3 a4 a5 a6 a7 a8 a9 b0 b1 oc b2 b3 b4 b5 ++ (iw_ws a7 cI 256 bf)) sz) := by
  refine Met.ofW (cc := b_Bm_eight) (maxL := 4) (ret := none) (by decide) rfl ?_
  intro p e s m args below meth c s₁ Bd hml hv
  obtain ⟨rfl, hsz, hP, hK, hD0⟩ := hv
  have hx := Bd.exec
  have hb := Bd.bytes
  have hr := Bd.returns
  have hts := atoms_spec (ws := w_Bm_eight) Bd.pre
  have hown : s.vm.findClass "BallotBoardModel" = some m.cls := findClass_of_methodNamed Bd.named
  have hlocks := Bd.notSynchronized
  subst hsz
  have hD := hD0.self (sz := s.heap.size)
  generalize hAe : va_A (mo_ws m0 z0 z1 z2 z3 z4 z5 z6 z7 z8 z9 z10 a0 a1 a2 a3 a4 a5 a6 a7 a8 a9 b0 b1 oc b2 b3 b4 b5 ++ (iw_ws a7 cI 256 bf)) s.heap.size = A at hD ⊢
  have hA : ∀ q : Nat, s.heap.size ≤ q → A q := fun q h => by rw [← hAe]; exact Or.inr h
  have hS : va_S A s.heap s.heap [] := va_S.rf
  have hl := lv_entry ([.ref m0, .long v1]) (n := 4) (Nat.le_of_ble_eq_true rfl)
  rw [lg_entry_eq]
  generalize (lg_sl ([.ref m0, .long v1]) ++ List.replicate (4 - (lg_sl ([.ref m0, .long v1])).length) Slot.unset).toArray = ls at hl ⊢
  have hl : lv_has ls 4 [(0, .ref m0), (1, .long v1)] := hl
  refine lv_bipush (v := 56) hx hb d_Bm_eight_0 (by decide) ?_
  refine lv_istore_n (lv' := [(3, .int 56), (0, .ref m0), (1, .long v1)]) hx hb d_Bm_eight_2 rfl hl (by decide) rfl (fun ls hl => ?_)
  refine lv_iload_n hx hb d_Bm_eight_3 rfl (lv_at hl 0 rfl) ?_
  refine lv_if_lt (tgt := 37) hx hb d_Bm_eight_4 (by decide) (fun c_1 => ?_) (fun c_1 => ?_)
  · -- taken
    exact absurd c_1 (by decide)
  · -- not taken
    refine lv_aload_n hx hb d_Bm_eight_7 rfl (lv_at hl 1 rfl) ?_
    refine va_get (D := (dC, dI)) (ci := 8) (v := .ref a7) (C := "BallotBoardModel") (T := F_Bm) (N := 28) hx hb hts (fun w9 h9 => List.mem_cons_of_mem _ (i_Bm w9 h9)) hown hK hP 0 rfl rfl 18 (by decide) (hts _ (List.mem_cons_of_mem _ gk_937)) (fun _ h9 => h9) rfl d_Bm_eight_8 ?_
    refine lv_aload_n hx hb d_Bm_eight_11 rfl (lv_at hl 1 rfl) ?_
    refine lv_dup hx hb d_Bm_eight_12 rfl ?_
    refine va_get (D := (dC, dI)) (ci := 8) (v := .int (nI oc)) (C := "BallotBoardModel") (T := F_Bm) (N := 28) hx hb hts (fun w9 h9 => List.mem_cons_of_mem _ (i_Bm w9 h9)) hown hK hP 0 rfl rfl 23 (by decide) (hts _ (List.mem_cons_of_mem _ gk_942)) (fun _ h9 => h9) rfl d_Bm_eight_13 ?_
    refine lv_dup_x1 hx hb d_Bm_eight_16 rfl rfl ?_
    refine lv_iconst (v := 1) hx hb d_Bm_eight_17 (by decide) ?_
    refine lv_iadd hx hb d_Bm_eight_18 ?_
    rw [show ((nI oc) + 1 : Int32) = (nI (oc + 1)) from nI_1 _]
    refine va_put (D := (dC, dI)) (ci := 8) (v := .int (nI (oc + 1))) (ty := .int) (C := "BallotBoardModel") (T := F_Bm) (N := 28) hx hb hts (fun w9 h9 => List.mem_cons_of_mem _ (i_Bm w9 h9)) t_Bm t_Bm_ok n_Bm hown hK hP hD hS 0 rfl rfl 23 (by decide) (hts _ (List.mem_cons_of_mem _ gk_942)) (fun _ h9 => h9) rfl (by decide +kernel) rfl rfl (Nat.le_of_ble_eq_true rfl) d_Bm_eight_19 (fun H locs hP hD hS => ?_)
    have hP : va_P (dC, dI) classes [(m0, .inr (8, [.int z0, .int z1, .int z2, .int z3, .long z4, .long z5, .long z6, .long z7, .long z8, .long z9, .int z10, .ref a0, .ref a1, .ref a2, .ref a3, .ref a4, .ref a5, .ref a6, .ref a7, .ref a8, .ref a9, .ref b0, .ref b1, .int (nI (oc + 1)), .ref b2, .ref b3, .ref b4, .ref b5])), (a7, .inl (cI, 256, .inl bf))] H := hP
    have hD : va_D A [(m0, .inr (8, [.int z0, .int z1, .int z2, .int z3, .long z4, .long z5, .long z6, .long z7, .long z8, .long z9, .int z10, .ref a0, .ref a1, .ref a2, .ref a3, .ref a4, .ref a5, .ref a6, .ref a7, .ref a8, .ref a9, .ref b0, .ref b1, .int (nI (oc + 1)), .ref b2, .ref b3, .ref b4, .ref b5])), (a7, .inl (cI, 256, .inl bf))] := hD
    refine lv_lload_n hx hb d_Bm_eight_22 rfl (lv_at hl 2 rfl) ?_
    refine lv_iload_n hx hb d_Bm_eight_23 rfl (lv_at hl 0 rfl) ?_
    refine lv_lshr (v := v1 >>> ((56 : Int32).toInt64 &&& 63)) hx hb d_Bm_eight_24 rfl ?_
    refine lv_l2i (v := (v1 >>> ((56 : Int32).toInt64 &&& 63) : Int64).toInt32) hx hb d_Bm_eight_25 rfl ?_
    refine lv_sipush (v := 255) hx hb d_Bm_eight_26 (by decide) ?_
    refine lv_iand hx hb d_Bm_eight_29 ?_
    rw [show (((v1 >>> ((56 : Int32).toInt64 &&& 63) : Int64).toInt32) &&& 255 : Int32) = (ob v1 0) from rfl]
    refine va_iast hx hb hK hP hD hS 1 1 rfl rfl (vp_in_nI (by omega) (by omega)) d_Bm_eight_30 (fun H locs hP hD hS => ?_)
    have hfe : upd bf (nI oc : Int32).toNatClampNeg (ob v1 0) = upd bf oc (ob v1 0) := by rw [nI_clamp (by omega)]
    have hP : va_P (dC, dI) classes [(m0, .inr (8, [.int z0, .int z1, .int z2, .int z3, .long z4, .long z5, .long z6, .long z7, .long z8, .long z9, .int z10, .ref a0, .ref a1, .ref a2, .ref a3, .ref a4, .ref a5, .ref a6, .ref a7, .ref a8, .ref a9, .ref b0, .ref b1, .int (nI (oc + 1)), .ref b2, .ref b3, .ref b4, .ref b5])), (a7, .inl (cI, 256, .inl (upd bf (nI oc : Int32).toNatClampNeg (ob v1 0))))] H := hP
    have hD : va_D A [(m0, .inr (8, [.int z0, .int z1, .int z2, .int z3, .long z4, .long z5, .long z6, .long z7, .long z8, .long z9, .int z10, .ref a0, .ref a1, .ref a2, .ref a3, .ref a4, .ref a5, .ref a6, .ref a7, .ref a8, .ref a9, .ref b0, .ref b1, .int (nI (oc + 1)), .ref b2, .ref b3, .ref b4, .ref b5])), (a7, .inl (cI, 256, .inl (upd bf (nI oc : Int32).toNatClampNeg (ob v1 0))))] := hD
    rw [hfe] at hP hD
    obtain ⟨i_2, ei_2⟩ : ∃ y : Int32, y = 56 + (-8) := ⟨_, rfl⟩
    refine lv_iinc (v := i_2) (lv' := [(3, .int i_2), (0, .ref m0), (1, .long v1)]) hx hb d_Bm_eight_31 hl (k := 0) rfl (by rw [ei_2]; rfl) (by decide) rfl (fun ls hl => ?_)
    obtain rfl : i_2 = 48 := by rw [ei_2]; exact by decide
    refine lv_goto (tgt := 3) hx hb d_Bm_eight_34 (by decide) ?_
    refine lv_iload_n hx hb d_Bm_eight_3 rfl (lv_at hl 0 rfl) ?_
    refine lv_if_lt (tgt := 37) hx hb d_Bm_eight_4 (by decide) (fun c_3 => ?_) (fun c_3 => ?_)
    · -- taken
      exact absurd c_3 (by decide)
    · -- not taken
      refine lv_aload_n hx hb d_Bm_eight_7 rfl (lv_at hl 1 rfl) ?_
      refine va_get (D := (dC, dI)) (ci := 8) (v := .ref a7) (C := "BallotBoardModel") (T := F_Bm) (N := 28) hx hb hts (fun w9 h9 => List.mem_cons_of_mem _ (i_Bm w9 h9)) hown hK hP 0 rfl rfl 18 (by decide) (hts _ (List.mem_cons_of_mem _ gk_937)) (fun _ h9 => h9) rfl d_Bm_eight_8 ?_
      refine lv_aload_n hx hb d_Bm_eight_11 rfl (lv_at hl 1 rfl) ?_
      refine lv_dup hx hb d_Bm_eight_12 rfl ?_
      refine va_get (D := (dC, dI)) (ci := 8) (v := .int (nI (oc + 1))) (C := "BallotBoardModel") (T := F_Bm) (N := 28) hx hb hts (fun w9 h9 => List.mem_cons_of_mem _ (i_Bm w9 h9)) hown hK hP 0 rfl rfl 23 (by decide) (hts _ (List.mem_cons_of_mem _ gk_942)) (fun _ h9 => h9) rfl d_Bm_eight_13 ?_
      refine lv_dup_x1 hx hb d_Bm_eight_16 rfl rfl ?_
      refine lv_iconst (v := 1) hx hb d_Bm_eight_17 (by decide) ?_
      refine lv_iadd hx hb d_Bm_eight_18 ?_
      rw [show ((nI (oc + 1)) + 1 : Int32) = (nI (oc + 2)) from nI_1 _]
      refine va_put (D := (dC, dI)) (ci := 8) (v := .int (nI (oc + 2))) (ty := .int) (C := "BallotBoardModel") (T := F_Bm) (N := 28) hx hb hts (fun w9 h9 => List.mem_cons_of_mem _ (i_Bm w9 h9)) t_Bm t_Bm_ok n_Bm hown hK hP hD hS 0 rfl rfl 23 (by decide) (hts _ (List.mem_cons_of_mem _ gk_942)) (fun _ h9 => h9) rfl (by decide +kernel) rfl rfl (Nat.le_of_ble_eq_true rfl) d_Bm_eight_19 (fun H locs hP hD hS => ?_)
      have hP : va_P (dC, dI) classes [(m0, .inr (8, [.int z0, .int z1, .int z2, .int z3, .long z4, .long z5, .long z6, .long z7, .long z8, .long z9, .int z10, .ref a0, .ref a1, .ref a2, .ref a3, .ref a4, .ref a5, .ref a6, .ref a7, .ref a8, .ref a9, .ref b0, .ref b1, .int (nI (oc + 2)), .ref b2, .ref b3, .ref b4, .ref b5])), (a7, .inl (cI, 256, .inl (upd bf oc (ob v1 0))))] H := hP
      have hD : va_D A [(m0, .inr (8, [.int z0, .int z1, .int z2, .int z3, .long z4, .long z5, .long z6, .long z7, .long z8, .long z9, .int z10, .ref a0, .ref a1, .ref a2, .ref a3, .ref a4, .ref a5, .ref a6, .ref a7, .ref a8, .ref a9, .ref b0, .ref b1, .int (nI (oc + 2)), .ref b2, .ref b3, .ref b4, .ref b5])), (a7, .inl (cI, 256, .inl (upd bf oc (ob v1 0))))] := hD
      refine lv_lload_n hx hb d_Bm_eight_22 rfl (lv_at hl 2 rfl) ?_
      refine lv_iload_n hx hb d_Bm_eight_23 rfl (lv_at hl 0 rfl) ?_
      refine lv_lshr (v := v1 >>> ((48 : Int32).toInt64 &&& 63)) hx hb d_Bm_eight_24 rfl ?_
      refine lv_l2i (v := (v1 >>> ((48 : Int32).toInt64 &&& 63) : Int64).toInt32) hx hb d_Bm_eight_25 rfl ?_
      refine lv_sipush (v := 255) hx hb d_Bm_eight_26 (by decide) ?_
      refine lv_iand hx hb d_Bm_eight_29 ?_
      rw [show (((v1 >>> ((48 : Int32).toInt64 &&& 63) : Int64).toInt32) &&& 255 : Int32) = (ob v1 1) from rfl]
      refine va_iast hx hb hK hP hD hS 1 1 rfl rfl (vp_in_nI (by omega) (by omega)) d_Bm_eight_30 (fun H locs hP hD hS => ?_)
      have hfe : upd (upd bf oc (ob v1 0)) (nI (oc + 1) : Int32).toNatClampNeg (ob v1 1) = upd (upd bf oc (ob v1 0)) (oc + 1) (ob v1 1) := by rw [nI_clamp (by omega)]
      have hP : va_P (dC, dI) classes [(m0, .inr (8, [.int z0, .int z1, .int z2, .int z3, .long z4, .long z5, .long z6, .long z7, .long z8, .long z9, .int z10, .ref a0, .ref a1, .ref a2, .ref a3, .ref a4, .ref a5, .ref a6, .ref a7, .ref a8, .ref a9, .ref b0, .ref b1, .int (nI (oc + 2)), .ref b2, .ref b3, .ref b4, .ref b5])), (a7, .inl (cI, 256, .inl (upd (upd bf oc (ob v1 0)) (nI (oc + 1) : Int32).toNatClampNeg (ob v1 1))))] H := hP
      have hD : va_D A [(m0, .inr (8, [.int z0, .int z1, .int z2, .int z3, .long z4, .long z5, .long z6, .long z7, .long z8, .long z9, .int z10, .ref a0, .ref a1, .ref a2, .ref a3, .ref a4, .ref a5, .ref a6, .ref a7, .ref a8, .ref a9, .ref b0, .ref b1, .int (nI (oc + 2)), .ref b2, .ref b3, .ref b4, .ref b5])), (a7, .inl (cI, 256, .inl (upd (upd bf oc (ob v1 0)) (nI (oc + 1) : Int32).toNatClampNeg (ob v1 1))))] := hD
      rw [hfe] at hP hD
      obtain ⟨i_4, ei_4⟩ : ∃ y : Int32, y = 48 + (-8) := ⟨_, rfl⟩
      refine lv_iinc (v := i_4) (lv' := [(3, .int i_4), (0, .ref m0), (1, .long v1)]) hx hb d_Bm_eight_31 hl (k := 0) rfl (by rw [ei_4]; rfl) (by decide) rfl (fun ls hl => ?_)
      obtain rfl : i_4 = 40 := by rw [ei_4]; exact by decide
      refine lv_goto (tgt := 3) hx hb d_Bm_eight_34 (by decide) ?_
      refine lv_iload_n hx hb d_Bm_eight_3 rfl (lv_at hl 0 rfl) ?_
      refine lv_if_lt (tgt := 37) hx hb d_Bm_eight_4 (by decide) (fun c_5 => ?_) (fun c_5 => ?_)
      · -- taken
        exact absurd c_5 (by decide)
      · -- not taken
        refine lv_aload_n hx hb d_Bm_eight_7 rfl (lv_at hl 1 rfl) ?_
        refine va_get (D := (dC, dI)) (ci := 8) (v := .ref a7) (C := "BallotBoardModel") (T := F_Bm) (N := 28) hx hb hts (fun w9 h9 => List.mem_cons_of_mem _ (i_Bm w9 h9)) hown hK hP 0 rfl rfl 18 (by decide) (hts _ (List.mem_cons_of_mem _ gk_937)) (fun _ h9 => h9) rfl d_Bm_eight_8 ?_
        refine lv_aload_n hx hb d_Bm_eight_11 rfl (lv_at hl 1 rfl) ?_
        refine lv_dup hx hb d_Bm_eight_12 rfl ?_
        refine va_get (D := (dC, dI)) (ci := 8) (v := .int (nI (oc + 2))) (C := "BallotBoardModel") (T := F_Bm) (N := 28) hx hb hts (fun w9 h9 => List.mem_cons_of_mem _ (i_Bm w9 h9)) hown hK hP 0 rfl rfl 23 (by decide) (hts _ (List.mem_cons_of_mem _ gk_942)) (fun _ h9 => h9) rfl d_Bm_eight_13 ?_
        refine lv_dup_x1 hx hb d_Bm_eight_16 rfl rfl ?_
        refine lv_iconst (v := 1) hx hb d_Bm_eight_17 (by decide) ?_
        refine lv_iadd hx hb d_Bm_eight_18 ?_
        rw [show ((nI (oc + 2)) + 1 : Int32) = (nI (oc + 3)) from nI_1 _]
        refine va_put (D := (dC, dI)) (ci := 8) (v := .int (nI (oc + 3))) (ty := .int) (C := "BallotBoardModel") (T := F_Bm) (N := 28) hx hb hts (fun w9 h9 => List.mem_cons_of_mem _ (i_Bm w9 h9)) t_Bm t_Bm_ok n_Bm hown hK hP hD hS 0 rfl rfl 23 (by decide) (hts _ (List.mem_cons_of_mem _ gk_942)) (fun _ h9 => h9) rfl (by decide +kernel) rfl rfl (Nat.le_of_ble_eq_true rfl) d_Bm_eight_19 (fun H locs hP hD hS => ?_)
        have hP : va_P (dC, dI) classes [(m0, .inr (8, [.int z0, .int z1, .int z2, .int z3, .long z4, .long z5, .long z6, .long z7, .long z8, .long z9, .int z10, .ref a0, .ref a1, .ref a2, .ref a3, .ref a4, .ref a5, .ref a6, .ref a7, .ref a8, .ref a9, .ref b0, .ref b1, .int (nI (oc + 3)), .ref b2, .ref b3, .ref b4, .ref b5])), (a7, .inl (cI, 256, .inl (upd (upd bf oc (ob v1 0)) (oc + 1) (ob v1 1))))] H := hP
        have hD : va_D A [(m0, .inr (8, [.int z0, .int z1, .int z2, .int z3, .long z4, .long z5, .long z6, .long z7, .long z8, .long z9, .int z10, .ref a0, .ref a1, .ref a2, .ref a3, .ref a4, .ref a5, .ref a6, .ref a7, .ref a8, .ref a9, .ref b0, .ref b1, .int (nI (oc + 3)), .ref b2, .ref b3, .ref b4, .ref b5])), (a7, .inl (cI, 256, .inl (upd (upd bf oc (ob v1 0)) (oc + 1) (ob v1 1))))] := hD
        refine lv_lload_n hx hb d_Bm_eight_22 rfl (lv_at hl 2 rfl) ?_
        refine lv_iload_n hx hb d_Bm_eight_23 rfl (lv_at hl 0 rfl) ?_
        refine lv_lshr (v := v1 >>> ((40 : Int32).toInt64 &&& 63)) hx hb d_Bm_eight_24 rfl ?_
        refine lv_l2i (v := (v1 >>> ((40 : Int32).toInt64 &&& 63) : Int64).toInt32) hx hb d_Bm_eight_25 rfl ?_
        refine lv_sipush (v := 255) hx hb d_Bm_eight_26 (by decide) ?_
        refine lv_iand hx hb d_Bm_eight_29 ?_
        rw [show (((v1 >>> ((40 : Int32).toInt64 &&& 63) : Int64).toInt32) &&& 255 : Int32) = (ob v1 2) from rfl]
        refine va_iast hx hb hK hP hD hS 1 1 rfl rfl (vp_in_nI (by omega) (by omega)) d_Bm_eight_30 (fun H locs hP hD hS => ?_)
        have hfe : upd (upd (upd bf oc (ob v1 0)) (oc + 1) (ob v1 1)) (nI (oc + 2) : Int32).toNatClampNeg (ob v1 2) = upd (upd (upd bf oc (ob v1 0)) (oc + 1) (ob v1 1)) (oc + 2) (ob v1 2) := by rw [nI_clamp (by omega)]
        have hP : va_P (dC, dI) classes [(m0, .inr (8, [.int z0, .int z1, .int z2, .int z3, .long z4, .long z5, .long z6, .long z7, .long z8, .long z9, .int z10, .ref a0, .ref a1, .ref a2, .ref a3, .ref a4, .ref a5, .ref a6, .ref a7, .ref a8, .ref a9, .ref b0, .ref b1, .int (nI (oc + 3)), .ref b2, .ref b3, .ref b4, .ref b5])), (a7, .inl (cI, 256, .inl (upd (upd (upd bf oc (ob v1 0)) (oc + 1) (ob v1 1)) (nI (oc + 2) : Int32).toNatClampNeg (ob v1 2))))] H := hP
        have hD : va_D A [(m0, .inr (8, [.int z0, .int z1, .int z2, .int z3, .long z4, .long z5, .long z6, .long z7, .long z8, .long z9, .int z10, .ref a0, .ref a1, .ref a2, .ref a3, .ref a4, .ref a5, .ref a6, .ref a7, .ref a8, .ref a9, .ref b0, .ref b1, .int (nI (oc + 3)), .ref b2, .ref b3, .ref b4, .ref b5])), (a7, .inl (cI, 256, .inl (upd (upd (upd bf oc (ob v1 0)) (oc + 1) (ob v1 1)) (nI (oc + 2) : Int32).toNatClampNeg (ob v1 2))))] := hD
        rw [hfe] at hP hD
        obtain ⟨i_6, ei_6⟩ : ∃ y : Int32, y = 40 + (-8) := ⟨_, rfl⟩
        refine lv_iinc (v := i_6) (lv' := [(3, .int i_6), (0, .ref m0), (1, .long v1)]) hx hb d_Bm_eight_31 hl (k := 0) rfl (by rw [ei_6]; rfl) (by decide) rfl (fun ls hl => ?_)
        obtain rfl : i_6 = 32 := by rw [ei_6]; exact by decide
        refine lv_goto (tgt := 3) hx hb d_Bm_eight_34 (by decide) ?_
        refine lv_iload_n hx hb d_Bm_eight_3 rfl (lv_at hl 0 rfl) ?_
        refine lv_if_lt (tgt := 37) hx hb d_Bm_eight_4 (by decide) (fun c_7 => ?_) (fun c_7 => ?_)
        · -- taken
          exact absurd c_7 (by decide)
        · -- not taken
          refine lv_aload_n hx hb d_Bm_eight_7 rfl (lv_at hl 1 rfl) ?_
          refine va_get (D := (dC, dI)) (ci := 8) (v := .ref a7) (C := "BallotBoardModel") (T := F_Bm) (N := 28) hx hb hts (fun w9 h9 => List.mem_cons_of_mem _ (i_Bm w9 h9)) hown hK hP 0 rfl rfl 18 (by decide) (hts _ (List.mem_cons_of_mem _ gk_937)) (fun _ h9 => h9) rfl d_Bm_eight_8 ?_
          refine lv_aload_n hx hb d_Bm_eight_11 rfl (lv_at hl 1 rfl) ?_
          refine lv_dup hx hb d_Bm_eight_12 rfl ?_
          refine va_get (D := (dC, dI)) (ci := 8) (v := .int (nI (oc + 3))) (C := "BallotBoardModel") (T := F_Bm) (N := 28) hx hb hts (fun w9 h9 => List.mem_cons_of_mem _ (i_Bm w9 h9)) hown hK hP 0 rfl rfl 23 (by decide) (hts _ (List.mem_cons_of_mem _ gk_942)) (fun _ h9 => h9) rfl d_Bm_eight_13 ?_
          refine lv_dup_x1 hx hb d_Bm_eight_16 rfl rfl ?_
          refine lv_iconst (v := 1) hx hb d_Bm_eight_17 (by decide) ?_
          refine lv_iadd hx hb d_Bm_eight_18 ?_
          rw [show ((nI (oc + 3)) + 1 : Int32) = (nI (oc + 4)) from nI_1 _]
          refine va_put (D := (dC, dI)) (ci := 8) (v := .int (nI (oc + 4))) (ty := .int) (C := "BallotBoardModel") (T := F_Bm) (N := 28) hx hb hts (fun w9 h9 => List.mem_cons_of_mem _ (i_Bm w9 h9)) t_Bm t_Bm_ok n_Bm hown hK hP hD hS 0 rfl rfl 23 (by decide) (hts _ (List.mem_cons_of_mem _ gk_942)) (fun _ h9 => h9) rfl (by decide +kernel) rfl rfl (Nat.le_of_ble_eq_true rfl) d_Bm_eight_19 (fun H locs hP hD hS => ?_)
          have hP : va_P (dC, dI) classes [(m0, .inr (8, [.int z0, .int z1, .int z2, .int z3, .long z4, .long z5, .long z6, .long z7, .long z8, .long z9, .int z10, .ref a0, .ref a1, .ref a2, .ref a3, .ref a4, .ref a5, .ref a6, .ref a7, .ref a8, .ref a9, .ref b0, .ref b1, .int (nI (oc + 4)), .ref b2, .ref b3, .ref b4, .ref b5])), (a7, .inl (cI, 256, .inl (upd (upd (upd bf oc (ob v1 0)) (oc + 1) (ob v1 1)) (oc + 2) (ob v1 2))))] H := hP
          have hD : va_D A [(m0, .inr (8, [.int z0, .int z1, .int z2, .int z3, .long z4, .long z5, .long z6, .long z7, .long z8, .long z9, .int z10, .ref a0, .ref a1, .ref a2, .ref a3, .ref a4, .ref a5, .ref a6, .ref a7, .ref a8, .ref a9, .ref b0, .ref b1, .int (nI (oc + 4)), .ref b2, .ref b3, .ref b4, .ref b5])), (a7, .inl (cI, 256, .inl (upd (upd (upd bf oc (ob v1 0)) (oc + 1) (ob v1 1)) (oc + 2) (ob v1 2))))] := hD
          refine lv_lload_n hx hb d_Bm_eight_22 rfl (lv_at hl 2 rfl) ?_
          refine lv_iload_n hx hb d_Bm_eight_23 rfl (lv_at hl 0 rfl) ?_
          refine lv_lshr (v := v1 >>> ((32 : Int32).toInt64 &&& 63)) hx hb d_Bm_eight_24 rfl ?_
          refine lv_l2i (v := (v1 >>> ((32 : Int32).toInt64 &&& 63) : Int64).toInt32) hx hb d_Bm_eight_25 rfl ?_
          refine lv_sipush (v := 255) hx hb d_Bm_eight_26 (by decide) ?_
          refine lv_iand hx hb d_Bm_eight_29 ?_
          rw [show (((v1 >>> ((32 : Int32).toInt64 &&& 63) : Int64).toInt32) &&& 255 : Int32) = (ob v1 3) from rfl]
          refine va_iast hx hb hK hP hD hS 1 1 rfl rfl (vp_in_nI (by omega) (by omega)) d_Bm_eight_30 (fun H locs hP hD hS => ?_)
          have hfe : upd (upd (upd (upd bf oc (ob v1 0)) (oc + 1) (ob v1 1)) (oc + 2) (ob v1 2)) (nI (oc + 3) : Int32).toNatClampNeg (ob v1 3) = upd (upd (upd (upd bf oc (ob v1 0)) (oc + 1) (ob v1 1)) (oc + 2) (ob v1 2)) (oc + 3) (ob v1 3) := by rw [nI_clamp (by omega)]
          have hP : va_P (dC, dI) classes [(m0, .inr (8, [.int z0, .int z1, .int z2, .int z3, .long z4, .long z5, .long z6, .long z7, .long z8, .long z9, .int z10, .ref a0, .ref a1, .ref a2, .ref a3, .ref a4, .ref a5, .ref a6, .ref a7, .ref a8, .ref a9, .ref b0, .ref b1, .int (nI (oc + 4)), .ref b2, .ref b3, .ref b4, .ref b5])), (a7, .inl (cI, 256, .inl (upd (upd (upd (upd bf oc (ob v1 0)) (oc + 1) (ob v1 1)) (oc + 2) (ob v1 2)) (nI (oc + 3) : Int32).toNatClampNeg (ob v1 3))))] H := hP
          have hD : va_D A [(m0, .inr (8, [.int z0, .int z1, .int z2, .int z3, .long z4, .long z5, .long z6, .long z7, .long z8, .long z9, .int z10, .ref a0, .ref a1, .ref a2, .ref a3, .ref a4, .ref a5, .ref a6, .ref a7, .ref a8, .ref a9, .ref b0, .ref b1, .int (nI (oc + 4)), .ref b2, .ref b3, .ref b4, .ref b5])), (a7, .inl (cI, 256, .inl (upd (upd (upd (upd bf oc (ob v1 0)) (oc + 1) (ob v1 1)) (oc + 2) (ob v1 2)) (nI (oc + 3) : Int32).toNatClampNeg (ob v1 3))))] := hD
          rw [hfe] at hP hD
          obtain ⟨i_8, ei_8⟩ : ∃ y : Int32, y = 32 + (-8) := ⟨_, rfl⟩
          refine lv_iinc (v := i_8) (lv' := [(3, .int i_8), (0, .ref m0), (1, .long v1)]) hx hb d_Bm_eight_31 hl (k := 0) rfl (by rw [ei_8]; rfl) (by decide) rfl (fun ls hl => ?_)
          obtain rfl : i_8 = 24 := by rw [ei_8]; exact by decide
          refine lv_goto (tgt := 3) hx hb d_Bm_eight_34 (by decide) ?_
          refine lv_iload_n hx hb d_Bm_eight_3 rfl (lv_at hl 0 rfl) ?_
          refine lv_if_lt (tgt := 37) hx hb d_Bm_eight_4 (by decide) (fun c_9 => ?_) (fun c_9 => ?_)
          · -- taken
            exact absurd c_9 (by decide)
          · -- not taken
            refine lv_aload_n hx hb d_Bm_eight_7 rfl (lv_at hl 1 rfl) ?_
            refine va_get (D := (dC, dI)) (ci := 8) (v := .ref a7) (C := "BallotBoardModel") (T := F_Bm) (N := 28) hx hb hts (fun w9 h9 => List.mem_cons_of_mem _ (i_Bm w9 h9)) hown hK hP 0 rfl rfl 18 (by decide) (hts _ (List.mem_cons_of_mem _ gk_937)) (fun _ h9 => h9) rfl d_Bm_eight_8 ?_
            refine lv_aload_n hx hb d_Bm_eight_11 rfl (lv_at hl 1 rfl) ?_
            refine lv_dup hx hb d_Bm_eight_12 rfl ?_
            refine va_get (D := (dC, dI)) (ci := 8) (v := .int (nI (oc + 4))) (C := "BallotBoardModel") (T := F_Bm) (N := 28) hx hb hts (fun w9 h9 => List.mem_cons_of_mem _ (i_Bm w9 h9)) hown hK hP 0 rfl rfl 23 (by decide) (hts _ (List.mem_cons_of_mem _ gk_942)) (fun _ h9 => h9) rfl d_Bm_eight_13 ?_
            refine lv_dup_x1 hx hb d_Bm_eight_16 rfl rfl ?_
            refine lv_iconst (v := 1) hx hb d_Bm_eight_17 (by decide) ?_
            refine lv_iadd hx hb d_Bm_eight_18 ?_
            rw [show ((nI (oc + 4)) + 1 : Int32) = (nI (oc + 5)) from nI_1 _]
            refine va_put (D := (dC, dI)) (ci := 8) (v := .int (nI (oc + 5))) (ty := .int) (C := "BallotBoardModel") (T := F_Bm) (N := 28) hx hb hts (fun w9 h9 => List.mem_cons_of_mem _ (i_Bm w9 h9)) t_Bm t_Bm_ok n_Bm hown hK hP hD hS 0 rfl rfl 23 (by decide) (hts _ (List.mem_cons_of_mem _ gk_942)) (fun _ h9 => h9) rfl (by decide +kernel) rfl rfl (Nat.le_of_ble_eq_true rfl) d_Bm_eight_19 (fun H locs hP hD hS => ?_)
            have hP : va_P (dC, dI) classes [(m0, .inr (8, [.int z0, .int z1, .int z2, .int z3, .long z4, .long z5, .long z6, .long z7, .long z8, .long z9, .int z10, .ref a0, .ref a1, .ref a2, .ref a3, .ref a4, .ref a5, .ref a6, .ref a7, .ref a8, .ref a9, .ref b0, .ref b1, .int (nI (oc + 5)), .ref b2, .ref b3, .ref b4, .ref b5])), (a7, .inl (cI, 256, .inl (upd (upd (upd (upd bf oc (ob v1 0)) (oc + 1) (ob v1 1)) (oc + 2) (ob v1 2)) (oc + 3) (ob v1 3))))] H := hP
            have hD : va_D A [(m0, .inr (8, [.int z0, .int z1, .int z2, .int z3, .long z4, .long z5, .long z6, .long z7, .long z8, .long z9, .int z10, .ref a0, .ref a1, .ref a2, .ref a3, .ref a4, .ref a5, .ref a6, .ref a7, .ref a8, .ref a9, .ref b0, .ref b1, .int (nI (oc + 5)), .ref b2, .ref b3, .ref b4, .ref b5])), (a7, .inl (cI, 256, .inl (upd (upd (upd (upd bf oc (ob v1 0)) (oc + 1) (ob v1 1)) (oc + 2) (ob v1 2)) (oc + 3) (ob v1 3))))] := hD
            refine lv_lload_n hx hb d_Bm_eight_22 rfl (lv_at hl 2 rfl) ?_
            refine lv_iload_n hx hb d_Bm_eight_23 rfl (lv_at hl 0 rfl) ?_
            refine lv_lshr (v := v1 >>> ((24 : Int32).toInt64 &&& 63)) hx hb d_Bm_eight_24 rfl ?_
            refine lv_l2i (v := (v1 >>> ((24 : Int32).toInt64 &&& 63) : Int64).toInt32) hx hb d_Bm_eight_25 rfl ?_
            refine lv_sipush (v := 255) hx hb d_Bm_eight_26 (by decide) ?_
            refine lv_iand hx hb d_Bm_eight_29 ?_
            rw [show (((v1 >>> ((24 : Int32).toInt64 &&& 63) : Int64).toInt32) &&& 255 : Int32) = (ob v1 4) from rfl]
            refine va_iast hx hb hK hP hD hS 1 1 rfl rfl (vp_in_nI (by omega) (by omega)) d_Bm_eight_30 (fun H locs hP hD hS => ?_)
            have hfe : upd (upd (upd (upd (upd bf oc (ob v1 0)) (oc + 1) (ob v1 1)) (oc + 2) (ob v1 2)) (oc + 3) (ob v1 3)) (nI (oc + 4) : Int32).toNatClampNeg (ob v1 4) = upd (upd (upd (upd (upd bf oc (ob v1 0)) (oc + 1) (ob v1 1)) (oc + 2) (ob v1 2)) (oc + 3) (ob v1 3)) (oc + 4) (ob v1 4) := by rw [nI_clamp (by omega)]
            have hP : va_P (dC, dI) classes [(m0, .inr (8, [.int z0, .int z1, .int z2, .int z3, .long z4, .long z5, .long z6, .long z7, .long z8, .long z9, .int z10, .ref a0, .ref a1, .ref a2, .ref a3, .ref a4, .ref a5, .ref a6, .ref a7, .ref a8, .ref a9, .ref b0, .ref b1, .int (nI (oc + 5)), .ref b2, .ref b3, .ref b4, .ref b5])), (a7, .inl (cI, 256, .inl (upd (upd (upd (upd (upd bf oc (ob v1 0)) (oc + 1) (ob v1 1)) (oc + 2) (ob v1 2)) (oc + 3) (ob v1 3)) (nI (oc + 4) : Int32).toNatClampNeg (ob v1 4))))] H := hP
            have hD : va_D A [(m0, .inr (8, [.int z0, .int z1, .int z2, .int z3, .long z4, .long z5, .long z6, .long z7, .long z8, .long z9, .int z10, .ref a0, .ref a1, .ref a2, .ref a3, .ref a4, .ref a5, .ref a6, .ref a7, .ref a8, .ref a9, .ref b0, .ref b1, .int (nI (oc + 5)), .ref b2, .ref b3, .ref b4, .ref b5])), (a7, .inl (cI, 256, .inl (upd (upd (upd (upd (upd bf oc (ob v1 0)) (oc + 1) (ob v1 1)) (oc + 2) (ob v1 2)) (oc + 3) (ob v1 3)) (nI (oc + 4) : Int32).toNatClampNeg (ob v1 4))))] := hD
            rw [hfe] at hP hD
            obtain ⟨i_10, ei_10⟩ : ∃ y : Int32, y = 24 + (-8) := ⟨_, rfl⟩
            refine lv_iinc (v := i_10) (lv' := [(3, .int i_10), (0, .ref m0), (1, .long v1)]) hx hb d_Bm_eight_31 hl (k := 0) rfl (by rw [ei_10]; rfl) (by decide) rfl (fun ls hl => ?_)
            obtain rfl : i_10 = 16 := by rw [ei_10]; exact by decide
            refine lv_goto (tgt := 3) hx hb d_Bm_eight_34 (by decide) ?_
            refine lv_iload_n hx hb d_Bm_eight_3 rfl (lv_at hl 0 rfl) ?_
            refine lv_if_lt (tgt := 37) hx hb d_Bm_eight_4 (by decide) (fun c_11 => ?_) (fun c_11 => ?_)
            · -- taken
              exact absurd c_11 (by decide)
            · -- not taken
              refine lv_aload_n hx hb d_Bm_eight_7 rfl (lv_at hl 1 rfl) ?_
              refine va_get (D := (dC, dI)) (ci := 8) (v := .ref a7) (C := "BallotBoardModel") (T := F_Bm) (N := 28) hx hb hts (fun w9 h9 => List.mem_cons_of_mem _ (i_Bm w9 h9)) hown hK hP 0 rfl rfl 18 (by decide) (hts _ (List.mem_cons_of_mem _ gk_937)) (fun _ h9 => h9) rfl d_Bm_eight_8 ?_
              refine lv_aload_n hx hb d_Bm_eight_11 rfl (lv_at hl 1 rfl) ?_
              refine lv_dup hx hb d_Bm_eight_12 rfl ?_
              refine va_get (D := (dC, dI)) (ci := 8) (v := .int (nI (oc + 5))) (C := "BallotBoardModel") (T := F_Bm) (N := 28) hx hb hts (fun w9 h9 => List.mem_cons_of_mem _ (i_Bm w9 h9)) hown hK hP 0 rfl rfl 23 (by decide) (hts _ (List.mem_cons_of_mem _ gk_942)) (fun _ h9 => h9) rfl d_Bm_eight_13 ?_
              refine lv_dup_x1 hx hb d_Bm_eight_16 rfl rfl ?_
              refine lv_iconst (v := 1) hx hb d_Bm_eight_17 (by decide) ?_
              refine lv_iadd hx hb d_Bm_eight_18 ?_
              rw [show ((nI (oc + 5)) + 1 : Int32) = (nI (oc + 6)) from nI_1 _]
              refine va_put (D := (dC, dI)) (ci := 8) (v := .int (nI (oc + 6))) (ty := .int) (C := "BallotBoardModel") (T := F_Bm) (N := 28) hx hb hts (fun w9 h9 => List.mem_cons_of_mem _ (i_Bm w9 h9)) t_Bm t_Bm_ok n_Bm hown hK hP hD hS 0 rfl rfl 23 (by decide) (hts _ (List.mem_cons_of_mem _ gk_942)) (fun _ h9 => h9) rfl (by decide +kernel) rfl rfl (Nat.le_of_ble_eq_true rfl) d_Bm_eight_19 (fun H locs hP hD hS => ?_)
              have hP : va_P (dC, dI) classes [(m0, .inr (8, [.int z0, .int z1, .int z2, .int z3, .long z4, .long z5, .long z6, .long z7, .long z8, .long z9, .int z10, .ref a0, .ref a1, .ref a2, .ref a3, .ref a4, .ref a5, .ref a6, .ref a7, .ref a8, .ref a9, .ref b0, .ref b1, .int (nI (oc + 6)), .ref b2, .ref b3, .ref b4, .ref b5])), (a7, .inl (cI, 256, .inl (upd (upd (upd (upd (upd bf oc (ob v1 0)) (oc + 1) (ob v1 1)) (oc + 2) (ob v1 2)) (oc + 3) (ob v1 3)) (oc + 4) (ob v1 4))))] H := hP
              have hD : va_D A [(m0, .inr (8, [.int z0, .int z1, .int z2, .int z3, .long z4, .long z5, .long z6, .long z7, .long z8, .long z9, .int z10, .ref a0, .ref a1, .ref a2, .ref a3, .ref a4, .ref a5, .ref a6, .ref a7, .ref a8, .ref a9, .ref b0, .ref b1, .int (nI (oc + 6)), .ref b2, .ref b3, .ref b4, .ref b5])), (a7, .inl (cI, 256, .inl (upd (upd (upd (upd (upd bf oc (ob v1 0)) (oc + 1) (ob v1 1)) (oc + 2) (ob v1 2)) (oc + 3) (ob v1 3)) (oc + 4) (ob v1 4))))] := hD
              refine lv_lload_n hx hb d_Bm_eight_22 rfl (lv_at hl 2 rfl) ?_
              refine lv_iload_n hx hb d_Bm_eight_23 rfl (lv_at hl 0 rfl) ?_
              refine lv_lshr (v := v1 >>> ((16 : Int32).toInt64 &&& 63)) hx hb d_Bm_eight_24 rfl ?_
              refine lv_l2i (v := (v1 >>> ((16 : Int32).toInt64 &&& 63) : Int64).toInt32) hx hb d_Bm_eight_25 rfl ?_
              refine lv_sipush (v := 255) hx hb d_Bm_eight_26 (by decide) ?_
              refine lv_iand hx hb d_Bm_eight_29 ?_
              rw [show (((v1 >>> ((16 : Int32).toInt64 &&& 63) : Int64).toInt32) &&& 255 : Int32) = (ob v1 5) from rfl]
              refine va_iast hx hb hK hP hD hS 1 1 rfl rfl (vp_in_nI (by omega) (by omega)) d_Bm_eight_30 (fun H locs hP hD hS => ?_)
              have hfe : upd (upd (upd (upd (upd (upd bf oc (ob v1 0)) (oc + 1) (ob v1 1)) (oc + 2) (ob v1 2)) (oc + 3) (ob v1 3)) (oc + 4) (ob v1 4)) (nI (oc + 5) : Int32).toNatClampNeg (ob v1 5) = upd (upd (upd (upd (upd (upd bf oc (ob v1 0)) (oc + 1) (ob v1 1)) (oc + 2) (ob v1 2)) (oc + 3) (ob v1 3)) (oc + 4) (ob v1 4)) (oc + 5) (ob v1 5) := by rw [nI_clamp (by omega)]
              have hP : va_P (dC, dI) classes [(m0, .inr (8, [.int z0, .int z1, .int z2, .int z3, .long z4, .long z5, .long z6, .long z7, .long z8, .long z9, .int z10, .ref a0, .ref a1, .ref a2, .ref a3, .ref a4, .ref a5, .ref a6, .ref a7, .ref a8, .ref a9, .ref b0, .ref b1, .int (nI (oc + 6)), .ref b2, .ref b3, .ref b4, .ref b5])), (a7, .inl (cI, 256, .inl (upd (upd (upd (upd (upd (upd bf oc (ob v1 0)) (oc + 1) (ob v1 1)) (oc + 2) (ob v1 2)) (oc + 3) (ob v1 3)) (oc + 4) (ob v1 4)) (nI (oc + 5) : Int32).toNatClampNeg (ob v1 5))))] H := hP
              have hD : va_D A [(m0, .inr (8, [.int z0, .int z1, .int z2, .int z3, .long z4, .long z5, .long z6, .long z7, .long z8, .long z9, .int z10, .ref a0, .ref a1, .ref a2, .ref a3, .ref a4, .ref a5, .ref a6, .ref a7, .ref a8, .ref a9, .ref b0, .ref b1, .int (nI (oc + 6)), .ref b2, .ref b3, .ref b4, .ref b5])), (a7, .inl (cI, 256, .inl (upd (upd (upd (upd (upd (upd bf oc (ob v1 0)) (oc + 1) (ob v1 1)) (oc + 2) (ob v1 2)) (oc + 3) (ob v1 3)) (oc + 4) (ob v1 4)) (nI (oc + 5) : Int32).toNatClampNeg (ob v1 5))))] := hD
              rw [hfe] at hP hD
              obtain ⟨i_12, ei_12⟩ : ∃ y : Int32, y = 16 + (-8) := ⟨_, rfl⟩
              refine lv_iinc (v := i_12) (lv' := [(3, .int i_12), (0, .ref m0), (1, .long v1)]) hx hb d_Bm_eight_31 hl (k := 0) rfl (by rw [ei_12]; rfl) (by decide) rfl (fun ls hl => ?_)
              obtain rfl : i_12 = 8 := by rw [ei_12]; exact by decide
              refine lv_goto (tgt := 3) hx hb d_Bm_eight_34 (by decide) ?_
              refine lv_iload_n hx hb d_Bm_eight_3 rfl (lv_at hl 0 rfl) ?_
              refine lv_if_lt (tgt := 37) hx hb d_Bm_eight_4 (by decide) (fun c_13 => ?_) (fun c_13 => ?_)
              · -- taken
                exact absurd c_13 (by decide)
              · -- not taken
                refine lv_aload_n hx hb d_Bm_eight_7 rfl (lv_at hl 1 rfl) ?_
                refine va_get (D := (dC, dI)) (ci := 8) (v := .ref a7) (C := "BallotBoardModel") (T := F_Bm) (N := 28) hx hb hts (fun w9 h9 => List.mem_cons_of_mem _ (i_Bm w9 h9)) hown hK hP 0 rfl rfl 18 (by decide) (hts _ (List.mem_cons_of_mem _ gk_937)) (fun _ h9 => h9) rfl d_Bm_eight_8 ?_
                refine lv_aload_n hx hb d_Bm_eight_11 rfl (lv_at hl 1 rfl) ?_
                refine lv_dup hx hb d_Bm_eight_12 rfl ?_
                refine va_get (D := (dC, dI)) (ci := 8) (v := .int (nI (oc + 6))) (C := "BallotBoardModel") (T := F_Bm) (N := 28) hx hb hts (fun w9 h9 => List.mem_cons_of_mem _ (i_Bm w9 h9)) hown hK hP 0 rfl rfl 23 (by decide) (hts _ (List.mem_cons_of_mem _ gk_942)) (fun _ h9 => h9) rfl d_Bm_eight_13 ?_
                refine lv_dup_x1 hx hb d_Bm_eight_16 rfl rfl ?_
                refine lv_iconst (v := 1) hx hb d_Bm_eight_17 (by decide) ?_
                refine lv_iadd hx hb d_Bm_eight_18 ?_
                rw [show ((nI (oc + 6)) + 1 : Int32) = (nI (oc + 7)) from nI_1 _]
                refine va_put (D := (dC, dI)) (ci := 8) (v := .int (nI (oc + 7))) (ty := .int) (C := "BallotBoardModel") (T := F_Bm) (N := 28) hx hb hts (fun w9 h9 => List.mem_cons_of_mem _ (i_Bm w9 h9)) t_Bm t_Bm_ok n_Bm hown hK hP hD hS 0 rfl rfl 23 (by decide) (hts _ (List.mem_cons_of_mem _ gk_942)) (fun _ h9 => h9) rfl (by decide +kernel) rfl rfl (Nat.le_of_ble_eq_true rfl) d_Bm_eight_19 (fun H locs hP hD hS => ?_)
                have hP : va_P (dC, dI) classes [(m0, .inr (8, [.int z0, .int z1, .int z2, .int z3, .long z4, .long z5, .long z6, .long z7, .long z8, .long z9, .int z10, .ref a0, .ref a1, .ref a2, .ref a3, .ref a4, .ref a5, .ref a6, .ref a7, .ref a8, .ref a9, .ref b0, .ref b1, .int (nI (oc + 7)), .ref b2, .ref b3, .ref b4, .ref b5])), (a7, .inl (cI, 256, .inl (upd (upd (upd (upd (upd (upd bf oc (ob v1 0)) (oc + 1) (ob v1 1)) (oc + 2) (ob v1 2)) (oc + 3) (ob v1 3)) (oc + 4) (ob v1 4)) (oc + 5) (ob v1 5))))] H := hP
                have hD : va_D A [(m0, .inr (8, [.int z0, .int z1, .int z2, .int z3, .long z4, .long z5, .long z6, .long z7, .long z8, .long z9, .int z10, .ref a0, .ref a1, .ref a2, .ref a3, .ref a4, .ref a5, .ref a6, .ref a7, .ref a8, .ref a9, .ref b0, .ref b1, .int (nI (oc + 7)), .ref b2, .ref b3, .ref b4, .ref b5])), (a7, .inl (cI, 256, .inl (upd (upd (upd (upd (upd (upd bf oc (ob v1 0)) (oc + 1) (ob v1 1)) (oc + 2) (ob v1 2)) (oc + 3) (ob v1 3)) (oc + 4) (ob v1 4)) (oc + 5) (ob v1 5))))] := hD
                refine lv_lload_n hx hb d_Bm_eight_22 rfl (lv_at hl 2 rfl) ?_
                refine lv_iload_n hx hb d_Bm_eight_23 rfl (lv_at hl 0 rfl) ?_
                refine lv_lshr (v := v1 >>> ((8 : Int32).toInt64 &&& 63)) hx hb d_Bm_eight_24 rfl ?_
                refine lv_l2i (v := (v1 >>> ((8 : Int32).toInt64 &&& 63) : Int64).toInt32) hx hb d_Bm_eight_25 rfl ?_
                refine lv_sipush (v := 255) hx hb d_Bm_eight_26 (by decide) ?_
                refine lv_iand hx hb d_Bm_eight_29 ?_
                rw [show (((v1 >>> ((8 : Int32).toInt64 &&& 63) : Int64).toInt32) &&& 255 : Int32) = (ob v1 6) from rfl]
                refine va_iast hx hb hK hP hD hS 1 1 rfl rfl (vp_in_nI (by omega) (by omega)) d_Bm_eight_30 (fun H locs hP hD hS => ?_)
                have hfe : upd (upd (upd (upd (upd (upd (upd bf oc (ob v1 0)) (oc + 1) (ob v1 1)) (oc + 2) (ob v1 2)) (oc + 3) (ob v1 3)) (oc + 4) (ob v1 4)) (oc + 5) (ob v1 5)) (nI (oc + 6) : Int32).toNatClampNeg (ob v1 6) = upd (upd (upd (upd (upd (upd (upd bf oc (ob v1 0)) (oc + 1) (ob v1 1)) (oc + 2) (ob v1 2)) (oc + 3) (ob v1 3)) (oc + 4) (ob v1 4)) (oc + 5) (ob v1 5)) (oc + 6) (ob v1 6) := by rw [nI_clamp (by omega)]
                have hP : va_P (dC, dI) classes [(m0, .inr (8, [.int z0, .int z1, .int z2, .int z3, .long z4, .long z5, .long z6, .long z7, .long z8, .long z9, .int z10, .ref a0, .ref a1, .ref a2, .ref a3, .ref a4, .ref a5, .ref a6, .ref a7, .ref a8, .ref a9, .ref b0, .ref b1, .int (nI (oc + 7)), .ref b2, .ref b3, .ref b4, .ref b5])), (a7, .inl (cI, 256, .inl (upd (upd (upd (upd (upd (upd (upd bf oc (ob v1 0)) (oc + 1) (ob v1 1)) (oc + 2) (ob v1 2)) (oc + 3) (ob v1 3)) (oc + 4) (ob v1 4)) (oc + 5) (ob v1 5)) (nI (oc + 6) : Int32).toNatClampNeg (ob v1 6))))] H := hP
                have hD : va_D A [(m0, .inr (8, [.int z0, .int z1, .int z2, .int z3, .long z4, .long z5, .long z6, .long z7, .long z8, .long z9, .int z10, .ref a0, .ref a1, .ref a2, .ref a3, .ref a4, .ref a5, .ref a6, .ref a7, .ref a8, .ref a9, .ref b0, .ref b1, .int (nI (oc + 7)), .ref b2, .ref b3, .ref b4, .ref b5])), (a7, .inl (cI, 256, .inl (upd (upd (upd (upd (upd (upd (upd bf oc (ob v1 0)) (oc + 1) (ob v1 1)) (oc + 2) (ob v1 2)) (oc + 3) (ob v1 3)) (oc + 4) (ob v1 4)) (oc + 5) (ob v1 5)) (nI (oc + 6) : Int32).toNatClampNeg (ob v1 6))))] := hD
                rw [hfe] at hP hD
                obtain ⟨i_14, ei_14⟩ : ∃ y : Int32, y = 8 + (-8) := ⟨_, rfl⟩
                refine lv_iinc (v := i_14) (lv' := [(3, .int i_14), (0, .ref m0), (1, .long v1)]) hx hb d_Bm_eight_31 hl (k := 0) rfl (by rw [ei_14]; rfl) (by decide) rfl (fun ls hl => ?_)
                obtain rfl : i_14 = 0 := by rw [ei_14]; exact by decide
                refine lv_goto (tgt := 3) hx hb d_Bm_eight_34 (by decide) ?_
                refine lv_iload_n hx hb d_Bm_eight_3 rfl (lv_at hl 0 rfl) ?_
                refine lv_if_lt (tgt := 37) hx hb d_Bm_eight_4 (by decide) (fun c_15 => ?_) (fun c_15 => ?_)
                · -- taken
                  exact absurd c_15 (by decide)
                · -- not taken
                  refine lv_aload_n hx hb d_Bm_eight_7 rfl (lv_at hl 1 rfl) ?_
                  refine va_get (D := (dC, dI)) (ci := 8) (v := .ref a7) (C := "BallotBoardModel") (T := F_Bm) (N := 28) hx hb hts (fun w9 h9 => List.mem_cons_of_mem _ (i_Bm w9 h9)) hown hK hP 0 rfl rfl 18 (by decide) (hts _ (List.mem_cons_of_mem _ gk_937)) (fun _ h9 => h9) rfl d_Bm_eight_8 ?_
                  refine lv_aload_n hx hb d_Bm_eight_11 rfl (lv_at hl 1 rfl) ?_
                  refine lv_dup hx hb d_Bm_eight_12 rfl ?_
                  refine va_get (D := (dC, dI)) (ci := 8) (v := .int (nI (oc + 7))) (C := "BallotBoardModel") (T := F_Bm) (N := 28) hx hb hts (fun w9 h9 => List.mem_cons_of_mem _ (i_Bm w9 h9)) hown hK hP 0 rfl rfl 23 (by decide) (hts _ (List.mem_cons_of_mem _ gk_942)) (fun _ h9 => h9) rfl d_Bm_eight_13 ?_
                  refine lv_dup_x1 hx hb d_Bm_eight_16 rfl rfl ?_
                  refine lv_iconst (v := 1) hx hb d_Bm_eight_17 (by decide) ?_
                  refine lv_iadd hx hb d_Bm_eight_18 ?_
                  rw [show ((nI (oc + 7)) + 1 : Int32) = (nI (oc + 8)) from nI_1 _]
                  refine va_put (D := (dC, dI)) (ci := 8) (v := .int (nI (oc + 8))) (ty := .int) (C := "BallotBoardModel") (T := F_Bm) (N := 28) hx hb hts (fun w9 h9 => List.mem_cons_of_mem _ (i_Bm w9 h9)) t_Bm t_Bm_ok n_Bm hown hK hP hD hS 0 rfl rfl 23 (by decide) (hts _ (List.mem_cons_of_mem _ gk_942)) (fun _ h9 => h9) rfl (by decide +kernel) rfl rfl (Nat.le_of_ble_eq_true rfl) d_Bm_eight_19 (fun H locs hP hD hS => ?_)
                  have hP : va_P (dC, dI) classes [(m0, .inr (8, [.int z0, .int z1, .int z2, .int z3, .long z4, .long z5, .long z6, .long z7, .long z8, .long z9, .int z10, .ref a0, .ref a1, .ref a2, .ref a3, .ref a4, .ref a5, .ref a6, .ref a7, .ref a8, .ref a9, .ref b0, .ref b1, .int (nI (oc + 8)), .ref b2, .ref b3, .ref b4, .ref b5])), (a7, .inl (cI, 256, .inl (upd (upd (upd (upd (upd (upd (upd bf oc (ob v1 0)) (oc + 1) (ob v1 1)) (oc + 2) (ob v1 2)) (oc + 3) (ob v1 3)) (oc + 4) (ob v1 4)) (oc + 5) (ob v1 5)) (oc + 6) (ob v1 6))))] H := hP
                  have hD : va_D A [(m0, .inr (8, [.int z0, .int z1, .int z2, .int z3, .long z4, .long z5, .long z6, .long z7, .long z8, .long z9, .int z10, .ref a0, .ref a1, .ref a2, .ref a3, .ref a4, .ref a5, .ref a6, .ref a7, .ref a8, .ref a9, .ref b0, .ref b1, .int (nI (oc + 8)), .ref b2, .ref b3, .ref b4, .ref b5])), (a7, .inl (cI, 256, .inl (upd (upd (upd (upd (upd (upd (upd bf oc (ob v1 0)) (oc + 1) (ob v1 1)) (oc + 2) (ob v1 2)) (oc + 3) (ob v1 3)) (oc + 4) (ob v1 4)) (oc + 5) (ob v1 5)) (oc + 6) (ob v1 6))))] := hD
                  refine lv_lload_n hx hb d_Bm_eight_22 rfl (lv_at hl 2 rfl) ?_
                  refine lv_iload_n hx hb d_Bm_eight_23 rfl (lv_at hl 0 rfl) ?_
                  refine lv_lshr (v := v1 >>> ((0 : Int32).toInt64 &&& 63)) hx hb d_Bm_eight_24 rfl ?_
                  refine lv_l2i (v := (v1 >>> ((0 : Int32).toInt64 &&& 63) : Int64).toInt32) hx hb d_Bm_eight_25 rfl ?_
                  refine lv_sipush (v := 255) hx hb d_Bm_eight_26 (by decide) ?_
                  refine lv_iand hx hb d_Bm_eight_29 ?_
                  rw [show (((v1 >>> ((0 : Int32).toInt64 &&& 63) : Int64).toInt32) &&& 255 : Int32) = (ob v1 7) from rfl]
                  refine va_iast hx hb hK hP hD hS 1 1 rfl rfl (vp_in_nI (by omega) (by omega)) d_Bm_eight_30 (fun H locs hP hD hS => ?_)
                  have hfe : upd (upd (upd (upd (upd (upd (upd (upd bf oc (ob v1 0)) (oc + 1) (ob v1 1)) (oc + 2) (ob v1 2)) (oc + 3) (ob v1 3)) (oc + 4) (ob v1 4)) (oc + 5) (ob v1 5)) (oc + 6) (ob v1 6)) (nI (oc + 7) : Int32).toNatClampNeg (ob v1 7) = upd (upd (upd (upd (upd (upd (upd (upd bf oc (ob v1 0)) (oc + 1) (ob v1 1)) (oc + 2) (ob v1 2)) (oc + 3) (ob v1 3)) (oc + 4) (ob v1 4)) (oc + 5) (ob v1 5)) (oc + 6) (ob v1 6)) (oc + 7) (ob v1 7) := by rw [nI_clamp (by omega)]
                  have hP : va_P (dC, dI) classes [(m0, .inr (8, [.int z0, .int z1, .int z2, .int z3, .long z4, .long z5, .long z6, .long z7, .long z8, .long z9, .int z10, .ref a0, .ref a1, .ref a2, .ref a3, .ref a4, .ref a5, .ref a6, .ref a7, .ref a8, .ref a9, .ref b0, .ref b1, .int (nI (oc + 8)), .ref b2, .ref b3, .ref b4, .ref b5])), (a7, .inl (cI, 256, .inl (upd (upd (upd (upd (upd (upd (upd (upd bf oc (ob v1 0)) (oc + 1) (ob v1 1)) (oc + 2) (ob v1 2)) (oc + 3) (ob v1 3)) (oc + 4) (ob v1 4)) (oc + 5) (ob v1 5)) (oc + 6) (ob v1 6)) (nI (oc + 7) : Int32).toNatClampNeg (ob v1 7))))] H := hP
                  have hD : va_D A [(m0, .inr (8, [.int z0, .int z1, .int z2, .int z3, .long z4, .long z5, .long z6, .long z7, .long z8, .long z9, .int z10, .ref a0, .ref a1, .ref a2, .ref a3, .ref a4, .ref a5, .ref a6, .ref a7, .ref a8, .ref a9, .ref b0, .ref b1, .int (nI (oc + 8)), .ref b2, .ref b3, .ref b4, .ref b5])), (a7, .inl (cI, 256, .inl (upd (upd (upd (upd (upd (upd (upd (upd bf oc (ob v1 0)) (oc + 1) (ob v1 1)) (oc + 2) (ob v1 2)) (oc + 3) (ob v1 3)) (oc + 4) (ob v1 4)) (oc + 5) (ob v1 5)) (oc + 6) (ob v1 6)) (nI (oc + 7) : Int32).toNatClampNeg (ob v1 7))))] := hD
                  rw [hfe] at hP hD
                  obtain ⟨i_16, ei_16⟩ : ∃ y : Int32, y = 0 + (-8) := ⟨_, rfl⟩
                  refine lv_iinc (v := i_16) (lv' := [(3, .int i_16), (0, .ref m0), (1, .long v1)]) hx hb d_Bm_eight_31 hl (k := 0) rfl (by rw [ei_16]; rfl) (by decide) rfl (fun ls hl => ?_)
                  obtain rfl : i_16 = (-8) := by rw [ei_16]; exact by decide
                  refine lv_goto (tgt := 3) hx hb d_Bm_eight_34 (by decide) ?_
                  refine lv_iload_n hx hb d_Bm_eight_3 rfl (lv_at hl 0 rfl) ?_
                  refine lv_if_lt (tgt := 37) hx hb d_Bm_eight_4 (by decide) (fun c_17 => ?_) (fun c_17 => ?_)
                  · -- taken
                    exact W.vret hx hb hr (fun t ht9 hW => ⟨⟨(), rfl, trivial, by rw [ht9]; exact hP, va_K.moved hW.alike hK, hD⟩, hS.F ht9⟩) hS.2.2 d_Bm_eight_37
                  · -- not taken
                    exact absurd c_17 (by decide)
abbrev b_Bm_compress : ByteArray := prog_10_method_8_code
abbrev y_Bm_compress : MethodName := ⟨"BallotBoardModel", "compress", "(I)V"⟩
abbrev w_Bm_compress : List Cond := .code y_Bm_compress b_Bm_compress 13 none :: gw
theorem d_Bm_compress_0 : decode b_Bm_compress 0 = .ok (.iconst 0, 1) := by decide +kernel
theorem d_Bm_compress_1 : decode b_Bm_compress 1 = .ok (.istore_n 2, 1) := by decide +kernel
theorem d_Bm_compress_2 : decode b_Bm_compress 2 = .ok (.iload_n 2, 1) := by decide +kernel
theorem d_Bm_compress_3 : decode b_Bm_compress 3 = .ok (.bipush 16, 2) := by decide +kernel
theorem d_Bm_compress_5 : decode b_Bm_compress 5 = .ok (.if_icmp .ge 73, 3) := by decide +kernel
theorem d_Bm_compress_8 : decode b_Bm_compress 8 = .ok (.aload_n 0, 1) := by decide +kernel
theorem d_Bm_compress_9 : decode b_Bm_compress 9 = .ok (.getfield 35, 3) := by decide +kernel
theorem d_Bm_compress_12 : decode b_Bm_compress 12 = .ok (.iload_n 2, 1) := by decide +kernel
theorem d_Bm_compress_13 : decode b_Bm_compress 13 = .ok (.aload_n 0, 1) := by decide +kernel
theorem d_Bm_compress_14 : decode b_Bm_compress 14 = .ok (.getfield 32, 3) := by decide +kernel
theorem d_Bm_compress_17 : decode b_Bm_compress 17 = .ok (.iload_n 1, 1) := by decide +kernel
theorem d_Bm_compress_18 : decode b_Bm_compress 18 = .ok (.iconst 4, 1) := by decide +kernel
theorem d_Bm_compress_19 : decode b_Bm_compress 19 = .ok (.iload_n 2, 1) := by decide +kernel
theorem d_Bm_compress_20 : decode b_Bm_compress 20 = .ok (.imul, 1) := by decide +kernel
theorem d_Bm_compress_21 : decode b_Bm_compress 21 = .ok (.iadd, 1) := by decide +kernel
theorem d_Bm_compress_22 : decode b_Bm_compress 22 = .ok (.iaload, 1) := by decide +kernel
theorem d_Bm_compress_23 : decode b_Bm_compress 23 = .ok (.bipush 24, 2) := by decide +kernel
theorem d_Bm_compress_25 : decode b_Bm_compress 25 = .ok (.ishl, 1) := by decide +kernel
theorem d_Bm_compress_26 : decode b_Bm_compress 26 = .ok (.aload_n 0, 1) := by decide +kernel
theorem d_Bm_compress_27 : decode b_Bm_compress 27 = .ok (.getfield 32, 3) := by decide +kernel
theorem d_Bm_compress_30 : decode b_Bm_compress 30 = .ok (.iload_n 1, 1) := by decide +kernel
theorem d_Bm_compress_31 : decode b_Bm_compress 31 = .ok (.iconst 4, 1) := by decide +kernel
theorem d_Bm_compress_32 : decode b_Bm_compress 32 = .ok (.iload_n 2, 1) := by decide +kernel
theorem d_Bm_compress_33 : decode b_Bm_compress 33 = .ok (.imul, 1) := by decide +kernel
theorem d_Bm_compress_34 : decode b_Bm_compress 34 = .ok (.iadd, 1) := by decide +kernel
theorem d_Bm_compress_35 : decode b_Bm_compress 35 = .ok (.iconst 1, 1) := by decide +kernel
theorem d_Bm_compress_36 : decode b_Bm_compress 36 = .ok (.iadd, 1) := by decide +kernel
theorem d_Bm_compress_37 : decode b_Bm_compress 37 = .ok (.iaload, 1) := by decide +kernel
theorem d_Bm_compress_38 : decode b_Bm_compress 38 = .ok (.bipush 16, 2) := by decide +kernel
theorem d_Bm_compress_40 : decode b_Bm_compress 40 = .ok (.ishl, 1) := by decide +kernel
theorem d_Bm_compress_41 : decode b_Bm_compress 41 = .ok (.ior, 1) := by decide +kernel
theorem d_Bm_compress_42 : decode b_Bm_compress 42 = .ok (.aload_n 0, 1) := by decide +kernel
theorem d_Bm_compress_43 : decode b_Bm_compress 43 = .ok (.getfield 32, 3) := by decide +kernel
theorem d_Bm_compress_46 : decode b_Bm_compress 46 = .ok (.iload_n 1, 1) := by decide +kernel
theorem d_Bm_compress_47 : decode b_Bm_compress 47 = .ok (.iconst 4, 1) := by decide +kernel
theorem d_Bm_compress_48 : decode b_Bm_compress 48 = .ok (.iload_n 2, 1) := by decide +kernel
theorem d_Bm_compress_49 : decode b_Bm_compress 49 = .ok (.imul, 1) := by decide +kernel
theorem d_Bm_compress_50 : decode b_Bm_compress 50 = .ok (.iadd, 1) := by decide +kernel
theorem d_Bm_compress_51 : decode b_Bm_compress 51 = .ok (.iconst 2, 1) := by decide +kernel
theorem d_Bm_compress_52 : decode b_Bm_compress 52 = .ok (.iadd, 1) := by decide +kernel
theorem d_Bm_compress_53 : decode b_Bm_compress 53 = .ok (.iaload, 1) := by decide +kernel
theorem d_Bm_compress_54 : decode b_Bm_compress 54 = .ok (.bipush 8, 2) := by decide +kernel
theorem d_Bm_compress_56 : decode b_Bm_compress 56 = .ok (.ishl, 1) := by decide +kernel
theorem d_Bm_compress_57 : decode b_Bm_compress 57 = .ok (.ior, 1) := by decide +kernel
theorem d_Bm_compress_58 : decode b_Bm_compress 58 = .ok (.aload_n 0, 1) := by decide +kernel
theorem d_Bm_compress_59 : decode b_Bm_compress 59 = .ok (.getfield 32, 3) := by decide +kernel
theorem d_Bm_compress_62 : decode b_Bm_compress 62 = .ok (.iload_n 1, 1) := by decide +kernel
theorem d_Bm_compress_63 : decode b_Bm_compress 63 = .ok (.iconst 4, 1) := by decide +kernel
theorem d_Bm_compress_64 : decode b_Bm_compress 64 = .ok (.iload_n 2, 1) := by decide +kernel
theorem d_Bm_compress_65 : decode b_Bm_compress 65 = .ok (.imul, 1) := by decide +kernel
theorem d_Bm_compress_66 : decode b_Bm_compress 66 = .ok (.iadd, 1) := by decide +kernel
theorem d_Bm_compress_67 : decode b_Bm_compress 67 = .ok (.iconst 3, 1) := by decide +kernel
theorem d_Bm_compress_68 : decode b_Bm_compress 68 = .ok (.iadd, 1) := by decide +kernel
theorem d_Bm_compress_69 : decode b_Bm_compress 69 = .ok (.iaload, 1) := by decide +kernel
theorem d_Bm_compress_70 : decode b_Bm_compress 70 = .ok (.ior, 1) := by decide +kernel
theorem d_Bm_compress_71 : decode b_Bm_compress 71 = .ok (.iastore, 1) := by decide +kernel
theorem d_Bm_compress_72 : decode b_Bm_compress 72 = .ok (.iinc 2 1, 3) := by decide +kernel
theorem d_Bm_compress_75 : decode b_Bm_compress 75 = .ok (.goto (-73), 3) := by decide +kernel
theorem d_Bm_compress_78 : decode b_Bm_compress 78 = .ok (.bipush 16, 2) := by decide +kernel
theorem d_Bm_compress_80 : decode b_Bm_compress 80 = .ok (.istore_n 2, 1) := by decide +kernel
theorem d_Bm_compress_81 : decode b_Bm_compress 81 = .ok (.iload_n 2, 1) := by decide +kernel
theorem d_Bm_compress_82 : decode b_Bm_compress 82 = .ok (.bipush 64, 2) := by decide +kernel
theorem d_Bm_compress_84 : decode b_Bm_compress 84 = .ok (.if_icmp .ge 94, 3) := by decide +kernel
theorem d_Bm_compress_87 : decode b_Bm_compress 87 = .ok (.aload_n 0, 1) := by decide +kernel
theorem d_Bm_compress_88 : decode b_Bm_compress 88 = .ok (.getfield 35, 3) := by decide +kernel
theorem d_Bm_compress_91 : decode b_Bm_compress 91 = .ok (.iload_n 2, 1) := by decide +kernel
theorem d_Bm_compress_92 : decode b_Bm_compress 92 = .ok (.bipush 15, 2) := by decide +kernel
theorem d_Bm_compress_94 : decode b_Bm_compress 94 = .ok (.isub, 1) := by decide +kernel
theorem d_Bm_compress_95 : decode b_Bm_compress 95 = .ok (.iaload, 1) := by decide +kernel
theorem d_Bm_compress_96 : decode b_Bm_compress 96 = .ok (.istore_n 3, 1) := by decide +kernel
theorem d_Bm_compress_97 : decode b_Bm_compress 97 = .ok (.aload_n 0, 1) := by decide +kernel
theorem d_Bm_compress_98 : decode b_Bm_compress 98 = .ok (.getfield 35, 3) := by decide +kernel
theorem d_Bm_compress_101 : decode b_Bm_compress 101 = .ok (.iload_n 2, 1) := by decide +kernel
theorem d_Bm_compress_102 : decode b_Bm_compress 102 = .ok (.iconst 2, 1) := by decide +kernel
theorem d_Bm_compress_103 : decode b_Bm_compress 103 = .ok (.isub, 1) := by decide +kernel
theorem d_Bm_compress_104 : decode b_Bm_compress 104 = .ok (.iaload, 1) := by decide +kernel
theorem d_Bm_compress_105 : decode b_Bm_compress 105 = .ok (.istore 4, 2) := by decide +kernel
theorem d_Bm_compress_107 : decode b_Bm_compress 107 = .ok (.aload_n 0, 1) := by decide +kernel
theorem d_Bm_compress_108 : decode b_Bm_compress 108 = .ok (.getfield 35, 3) := by decide +kernel
theorem d_Bm_compress_111 : decode b_Bm_compress 111 = .ok (.iload_n 2, 1) := by decide +kernel
theorem d_Bm_compress_112 : decode b_Bm_compress 112 = .ok (.aload_n 0, 1) := by decide +kernel
theorem d_Bm_compress_113 : decode b_Bm_compress 113 = .ok (.getfield 35, 3) := by decide +kernel
theorem d_Bm_compress_116 : decode b_Bm_compress 116 = .ok (.iload_n 2, 1) := by decide +kernel
theorem d_Bm_compress_117 : decode b_Bm_compress 117 = .ok (.bipush 16, 2) := by decide +kernel
theorem d_Bm_compress_119 : decode b_Bm_compress 119 = .ok (.isub, 1) := by decide +kernel
theorem d_Bm_compress_120 : decode b_Bm_compress 120 = .ok (.iaload, 1) := by decide +kernel
theorem d_Bm_compress_121 : decode b_Bm_compress 121 = .ok (.iload_n 3, 1) := by decide +kernel
theorem d_Bm_compress_122 : decode b_Bm_compress 122 = .ok (.bipush 7, 2) := by decide +kernel
theorem d_Bm_compress_124 : decode b_Bm_compress 124 = .ok (.invokestatic 148, 3) := by decide +kernel
theorem d_Bm_compress_127 : decode b_Bm_compress 127 = .ok (.iload_n 3, 1) := by decide +kernel
theorem d_Bm_compress_128 : decode b_Bm_compress 128 = .ok (.bipush 18, 2) := by decide +kernel
theorem d_Bm_compress_130 : decode b_Bm_compress 130 = .ok (.invokestatic 148, 3) := by decide +kernel
theorem d_Bm_compress_133 : decode b_Bm_compress 133 = .ok (.ixor, 1) := by decide +kernel
theorem d_Bm_compress_134 : decode b_Bm_compress 134 = .ok (.iload_n 3, 1) := by decide +kernel
theorem d_Bm_compress_135 : decode b_Bm_compress 135 = .ok (.iconst 3, 1) := by decide +kernel
theorem d_Bm_compress_136 : decode b_Bm_compress 136 = .ok (.iushr, 1) := by decide +kernel
theorem d_Bm_compress_137 : decode b_Bm_compress 137 = .ok (.ixor, 1) := by decide +kernel
theorem d_Bm_compress_138 : decode b_Bm_compress 138 = .ok (.iadd, 1) := by decide +kernel
theorem d_Bm_compress_139 : decode b_Bm_compress 139 = .ok (.aload_n 0, 1) := by decide +kernel
theorem d_Bm_compress_140 : decode b_Bm_compress 140 = .ok (.getfield 35, 3) := by decide +kernel
theorem d_Bm_compress_143 : decode b_Bm_compress 143 = .ok (.iload_n 2, 1) := by decide +kernel
theorem d_Bm_compress_144 : decode b_Bm_compress 144 = .ok (.bipush 7, 2) := by decide +kernel
theorem d_Bm_compress_146 : decode b_Bm_compress 146 = .ok (.isub, 1) := by decide +kernel
theorem d_Bm_compress_147 : decode b_Bm_compress 147 = .ok (.iaload, 1) := by decide +kernel
theorem d_Bm_compress_148 : decode b_Bm_compress 148 = .ok (.iadd, 1) := by decide +kernel
theorem d_Bm_compress_149 : decode b_Bm_compress 149 = .ok (.iload 4, 2) := by decide +kernel
theorem d_Bm_compress_151 : decode b_Bm_compress 151 = .ok (.bipush 17, 2) := by decide +kernel
theorem d_Bm_compress_153 : decode b_Bm_compress 153 = .ok (.invokestatic 148, 3) := by decide +kernel
theorem d_Bm_compress_156 : decode b_Bm_compress 156 = .ok (.iload 4, 2) := by decide +kernel
theorem d_Bm_compress_158 : decode b_Bm_compress 158 = .ok (.bipush 19, 2) := by decide +kernel
theorem d_Bm_compress_160 : decode b_Bm_compress 160 = .ok (.invokestatic 148, 3) := by decide +kernel
theorem d_Bm_compress_163 : decode b_Bm_compress 163 = .ok (.ixor, 1) := by decide +kernel
theorem d_Bm_compress_164 : decode b_Bm_compress 164 = .ok (.iload 4, 2) := by decide +kernel
theorem d_Bm_compress_166 : decode b_Bm_compress 166 = .ok (.bipush 10, 2) := by decide +kernel
theorem d_Bm_compress_168 : decode b_Bm_compress 168 = .ok (.iushr, 1) := by decide +kernel
theorem d_Bm_compress_169 : decode b_Bm_compress 169 = .ok (.ixor, 1) := by decide +kernel
theorem d_Bm_compress_170 : decode b_Bm_compress 170 = .ok (.iadd, 1) := by decide +kernel
theorem d_Bm_compress_171 : decode b_Bm_compress 171 = .ok (.iastore, 1) := by decide +kernel
theorem d_Bm_compress_172 : decode b_Bm_compress 172 = .ok (.iinc 2 1, 3) := by decide +kernel
theorem d_Bm_compress_175 : decode b_Bm_compress 175 = .ok (.goto (-94), 3) := by decide +kernel
theorem d_Bm_compress_178 : decode b_Bm_compress 178 = .ok (.aload_n 0, 1) := by decide +kernel
theorem d_Bm_compress_179 : decode b_Bm_compress 179 = .ok (.getfield 38, 3) := by decide +kernel
theorem d_Bm_compress_182 : decode b_Bm_compress 182 = .ok (.iconst 0, 1) := by decide +kernel
theorem d_Bm_compress_183 : decode b_Bm_compress 183 = .ok (.iaload, 1) := by decide +kernel
theorem d_Bm_compress_184 : decode b_Bm_compress 184 = .ok (.istore_n 2, 1) := by decide +kernel
theorem d_Bm_compress_185 : decode b_Bm_compress 185 = .ok (.aload_n 0, 1) := by decide +kernel
theorem d_Bm_compress_186 : decode b_Bm_compress 186 = .ok (.getfield 38, 3) := by decide +kernel
theorem d_Bm_compress_189 : decode b_Bm_compress 189 = .ok (.iconst 1, 1) := by decide +kernel
theorem d_Bm_compress_190 : decode b_Bm_compress 190 = .ok (.iaload, 1) := by decide +kernel
theorem d_Bm_compress_191 : decode b_Bm_compress 191 = .ok (.istore_n 3, 1) := by decide +kernel
theorem d_Bm_compress_192 : decode b_Bm_compress 192 = .ok (.aload_n 0, 1) := by decide +kernel
theorem d_Bm_compress_193 : decode b_Bm_compress 193 = .ok (.getfield 38, 3) := by decide +kernel
theorem d_Bm_compress_196 : decode b_Bm_compress 196 = .ok (.iconst 2, 1) := by decide +kernel
theorem d_Bm_compress_197 : decode b_Bm_compress 197 = .ok (.iaload, 1) := by decide +kernel
theorem d_Bm_compress_198 : decode b_Bm_compress 198 = .ok (.istore 4, 2) := by decide +kernel
theorem d_Bm_compress_200 : decode b_Bm_compress 200 = .ok (.aload_n 0, 1) := by decide +kernel
theorem d_Bm_compress_201 : decode b_Bm_compress 201 = .ok (.getfield 38, 3) := by decide +kernel
theorem d_Bm_compress_204 : decode b_Bm_compress 204 = .ok (.iconst 3, 1) := by decide +kernel
theorem d_Bm_compress_205 : decode b_Bm_compress 205 = .ok (.iaload, 1) := by decide +kernel
theorem d_Bm_compress_206 : decode b_Bm_compress 206 = .ok (.istore 5, 2) := by decide +kernel
theorem d_Bm_compress_208 : decode b_Bm_compress 208 = .ok (.aload_n 0, 1) := by decide +kernel
theorem d_Bm_compress_209 : decode b_Bm_compress 209 = .ok (.getfield 38, 3) := by decide +kernel
theorem d_Bm_compress_212 : decode b_Bm_compress 212 = .ok (.iconst 4, 1) := by decide +kernel
theorem d_Bm_compress_213 : decode b_Bm_compress 213 = .ok (.iaload, 1) := by decide +kernel
theorem d_Bm_compress_214 : decode b_Bm_compress 214 = .ok (.istore 6, 2) := by decide +kernel
theorem d_Bm_compress_216 : decode b_Bm_compress 216 = .ok (.aload_n 0, 1) := by decide +kernel
theorem d_Bm_compress_217 : decode b_Bm_compress 217 = .ok (.getfield 38, 3) := by decide +kernel
theorem d_Bm_compress_220 : decode b_Bm_compress 220 = .ok (.iconst 5, 1) := by decide +kernel
theorem d_Bm_compress_221 : decode b_Bm_compress 221 = .ok (.iaload, 1) := by decide +kernel
theorem d_Bm_compress_222 : decode b_Bm_compress 222 = .ok (.istore 7, 2) := by decide +kernel
theorem d_Bm_compress_224 : decode b_Bm_compress 224 = .ok (.aload_n 0, 1) := by decide +kernel
theorem d_Bm_compress_225 : decode b_Bm_compress 225 = .ok (.getfield 38, 3) := by decide +kernel
theorem d_Bm_compress_228 : decode b_Bm_compress 228 = .ok (.bipush 6, 2) := by decide +kernel
theorem d_Bm_compress_230 : decode b_Bm_compress 230 = .ok (.iaload, 1) := by decide +kernel
theorem d_Bm_compress_231 : decode b_Bm_compress 231 = .ok (.istore 8, 2) := by decide +kernel
theorem d_Bm_compress_233 : decode b_Bm_compress 233 = .ok (.aload_n 0, 1) := by decide +kernel
theorem d_Bm_compress_234 : decode b_Bm_compress 234 = .ok (.getfield 38, 3) := by decide +kernel
theorem d_Bm_compress_237 : decode b_Bm_compress 237 = .ok (.bipush 7, 2) := by decide +kernel
theorem d_Bm_compress_239 : decode b_Bm_compress 239 = .ok (.iaload, 1) := by decide +kernel
theorem d_Bm_compress_240 : decode b_Bm_compress 240 = .ok (.istore 9, 2) := by decide +kernel
theorem d_Bm_compress_242 : decode b_Bm_compress 242 = .ok (.iconst 0, 1) := by decide +kernel
theorem d_Bm_compress_243 : decode b_Bm_compress 243 = .ok (.istore 10, 2) := by decide +kernel
theorem d_Bm_compress_245 : decode b_Bm_compress 245 = .ok (.iload 10, 2) := by decide +kernel
theorem d_Bm_compress_247 : decode b_Bm_compress 247 = .ok (.bipush 64, 2) := by decide +kernel
theorem d_Bm_compress_249 : decode b_Bm_compress 249 = .ok (.if_icmp .ge 136, 3) := by decide +kernel
theorem d_Bm_compress_252 : decode b_Bm_compress 252 = .ok (.iload 9, 2) := by decide +kernel
theorem d_Bm_compress_254 : decode b_Bm_compress 254 = .ok (.iload 6, 2) := by decide +kernel
theorem d_Bm_compress_256 : decode b_Bm_compress 256 = .ok (.bipush 6, 2) := by decide +kernel
theorem d_Bm_compress_258 : decode b_Bm_compress 258 = .ok (.invokestatic 148, 3) := by decide +kernel
theorem d_Bm_compress_261 : decode b_Bm_compress 261 = .ok (.iload 6, 2) := by decide +kernel
theorem d_Bm_compress_263 : decode b_Bm_compress 263 = .ok (.bipush 11, 2) := by decide +kernel
theorem d_Bm_compress_265 : decode b_Bm_compress 265 = .ok (.invokestatic 148, 3) := by decide +kernel
theorem d_Bm_compress_268 : decode b_Bm_compress 268 = .ok (.ixor, 1) := by decide +kernel
theorem d_Bm_compress_269 : decode b_Bm_compress 269 = .ok (.iload 6, 2) := by decide +kernel
theorem d_Bm_compress_271 : decode b_Bm_compress 271 = .ok (.bipush 25, 2) := by decide +kernel
theorem d_Bm_compress_273 : decode b_Bm_compress 273 = .ok (.invokestatic 148, 3) := by decide +kernel
theorem d_Bm_compress_276 : decode b_Bm_compress 276 = .ok (.ixor, 1) := by decide +kernel
theorem d_Bm_compress_277 : decode b_Bm_compress 277 = .ok (.iadd, 1) := by decide +kernel
theorem d_Bm_compress_278 : decode b_Bm_compress 278 = .ok (.iload 6, 2) := by decide +kernel
theorem d_Bm_compress_280 : decode b_Bm_compress 280 = .ok (.iload 7, 2) := by decide +kernel
theorem d_Bm_compress_282 : decode b_Bm_compress 282 = .ok (.iand, 1) := by decide +kernel
theorem d_Bm_compress_283 : decode b_Bm_compress 283 = .ok (.iload 6, 2) := by decide +kernel
theorem d_Bm_compress_285 : decode b_Bm_compress 285 = .ok (.iconst (-1), 1) := by decide +kernel
theorem d_Bm_compress_286 : decode b_Bm_compress 286 = .ok (.ixor, 1) := by decide +kernel
theorem d_Bm_compress_287 : decode b_Bm_compress 287 = .ok (.iload 8, 2) := by decide +kernel
theorem d_Bm_compress_289 : decode b_Bm_compress 289 = .ok (.iand, 1) := by decide +kernel
theorem d_Bm_compress_290 : decode b_Bm_compress 290 = .ok (.ixor, 1) := by decide +kernel
theorem d_Bm_compress_291 : decode b_Bm_compress 291 = .ok (.iadd, 1) := by decide +kernel
theorem d_Bm_compress_292 : decode b_Bm_compress 292 = .ok (.aload_n 0, 1) := by decide +kernel
theorem d_Bm_compress_293 : decode b_Bm_compress 293 = .ok (.getfield 116, 3) := by decide +kernel
theorem d_Bm_compress_296 : decode b_Bm_compress 296 = .ok (.iload 10, 2) := by decide +kernel
theorem d_Bm_compress_298 : decode b_Bm_compress 298 = .ok (.iaload, 1) := by decide +kernel
theorem d_Bm_compress_299 : decode b_Bm_compress 299 = .ok (.iadd, 1) := by decide +kernel
theorem d_Bm_compress_300 : decode b_Bm_compress 300 = .ok (.aload_n 0, 1) := by decide +kernel
theorem d_Bm_compress_301 : decode b_Bm_compress 301 = .ok (.getfield 35, 3) := by decide +kernel
theorem d_Bm_compress_304 : decode b_Bm_compress 304 = .ok (.iload 10, 2) := by decide +kernel
theorem d_Bm_compress_306 : decode b_Bm_compress 306 = .ok (.iaload, 1) := by decide +kernel
theorem d_Bm_compress_307 : decode b_Bm_compress 307 = .ok (.iadd, 1) := by decide +kernel
theorem d_Bm_compress_308 : decode b_Bm_compress 308 = .ok (.istore 11, 2) := by decide +kernel
theorem d_Bm_compress_310 : decode b_Bm_compress 310 = .ok (.iload_n 2, 1) := by decide +kernel
theorem d_Bm_compress_311 : decode b_Bm_compress 311 = .ok (.iconst 2, 1) := by decide +kernel
theorem d_Bm_compress_312 : decode b_Bm_compress 312 = .ok (.invokestatic 148, 3) := by decide +kernel
theorem d_Bm_compress_315 : decode b_Bm_compress 315 = .ok (.iload_n 2, 1) := by decide +kernel
theorem d_Bm_compress_316 : decode b_Bm_compress 316 = .ok (.bipush 13, 2) := by decide +kernel
theorem d_Bm_compress_318 : decode b_Bm_compress 318 = .ok (.invokestatic 148, 3) := by decide +kernel
theorem d_Bm_compress_321 : decode b_Bm_compress 321 = .ok (.ixor, 1) := by decide +kernel
theorem d_Bm_compress_322 : decode b_Bm_compress 322 = .ok (.iload_n 2, 1) := by decide +kernel
theorem d_Bm_compress_323 : decode b_Bm_compress 323 = .ok (.bipush 22, 2) := by decide +kernel
theorem d_Bm_compress_325 : decode b_Bm_compress 325 = .ok (.invokestatic 148, 3) := by decide +kernel
theorem d_Bm_compress_328 : decode b_Bm_compress 328 = .ok (.ixor, 1) := by decide +kernel
theorem d_Bm_compress_329 : decode b_Bm_compress 329 = .ok (.iload_n 2, 1) := by decide +kernel
theorem d_Bm_compress_330 : decode b_Bm_compress 330 = .ok (.iload_n 3, 1) := by decide +kernel
theorem d_Bm_compress_331 : decode b_Bm_compress 331 = .ok (.iand, 1) := by decide +kernel
theorem d_Bm_compress_332 : decode b_Bm_compress 332 = .ok (.iload_n 2, 1) := by decide +kernel
theorem d_Bm_compress_333 : decode b_Bm_compress 333 = .ok (.iload 4, 2) := by decide +kernel
theorem d_Bm_compress_335 : decode b_Bm_compress 335 = .ok (.iand, 1) := by decide +kernel
theorem d_Bm_compress_336 : decode b_Bm_compress 336 = .ok (.ixor, 1) := by decide +kernel
theorem d_Bm_compress_337 : decode b_Bm_compress 337 = .ok (.iload_n 3, 1) := by decide +kernel
theorem d_Bm_compress_338 : decode b_Bm_compress 338 = .ok (.iload 4, 2) := by decide +kernel
theorem d_Bm_compress_340 : decode b_Bm_compress 340 = .ok (.iand, 1) := by decide +kernel
theorem d_Bm_compress_341 : decode b_Bm_compress 341 = .ok (.ixor, 1) := by decide +kernel
theorem d_Bm_compress_342 : decode b_Bm_compress 342 = .ok (.iadd, 1) := by decide +kernel
theorem d_Bm_compress_343 : decode b_Bm_compress 343 = .ok (.istore 12, 2) := by decide +kernel
theorem d_Bm_compress_345 : decode b_Bm_compress 345 = .ok (.iload 8, 2) := by decide +kernel
theorem d_Bm_compress_347 : decode b_Bm_compress 347 = .ok (.istore 9, 2) := by decide +kernel
theorem d_Bm_compress_349 : decode b_Bm_compress 349 = .ok (.iload 7, 2) := by decide +kernel
theorem d_Bm_compress_351 : decode b_Bm_compress 351 = .ok (.istore 8, 2) := by decide +kernel
theorem d_Bm_compress_353 : decode b_Bm_compress 353 = .ok (.iload 6, 2) := by decide +kernel
theorem d_Bm_compress_355 : decode b_Bm_compress 355 = .ok (.istore 7, 2) := by decide +kernel
theorem d_Bm_compress_357 : decode b_Bm_compress 357 = .ok (.iload 5, 2) := by decide +kernel
theorem d_Bm_compress_359 : decode b_Bm_compress 359 = .ok (.iload 11, 2) := by decide +kernel
theorem d_Bm_compress_361 : decode b_Bm_compress 361 = .ok (.iadd, 1) := by decide +kernel
theorem d_Bm_compress_362 : decode b_Bm_compress 362 = .ok (.istore 6, 2) := by decide +kernel
theorem d_Bm_compress_364 : decode b_Bm_compress 364 = .ok (.iload 4, 2) := by decide +kernel
theorem d_Bm_compress_366 : decode b_Bm_compress 366 = .ok (.istore 5, 2) := by decide +kernel
theorem d_Bm_compress_368 : decode b_Bm_compress 368 = .ok (.iload_n 3, 1) := by decide +kernel
theorem d_Bm_compress_369 : decode b_Bm_compress 369 = .ok (.istore 4, 2) := by decide +kernel
theorem d_Bm_compress_371 : decode b_Bm_compress 371 = .ok (.iload_n 2, 1) := by decide +kernel
theorem d_Bm_compress_372 : decode b_Bm_compress 372 = .ok (.istore_n 3, 1) := by decide +kernel
theorem d_Bm_compress_373 : decode b_Bm_compress 373 = .ok (.iload 11, 2) := by decide +kernel
theorem d_Bm_compress_375 : decode b_Bm_compress 375 = .ok (.iload 12, 2) := by decide +kernel
theorem d_Bm_compress_377 : decode b_Bm_compress 377 = .ok (.iadd, 1) := by decide +kernel
theorem d_Bm_compress_378 : decode b_Bm_compress 378 = .ok (.istore_n 2, 1) := by decide +kernel
theorem d_Bm_compress_379 : decode b_Bm_compress 379 = .ok (.iinc 10 1, 3) := by decide +kernel
theorem d_Bm_compress_382 : decode b_Bm_compress 382 = .ok (.goto (-137), 3) := by decide +kernel
theorem d_Bm_compress_385 : decode b_Bm_compress 385 = .ok (.aload_n 0, 1) := by decide +kernel
theorem d_Bm_compress_386 : decode b_Bm_compress 386 = .ok (.getfield 38, 3) := by decide +kernel
theorem d_Bm_compress_389 : decode b_Bm_compress 389 = .ok (.iconst 0, 1) := by decide +kernel
theorem d_Bm_compress_390 : decode b_Bm_compress 390 = .ok (.dup2, 1) := by decide +kernel
theorem d_Bm_compress_391 : decode b_Bm_compress 391 = .ok (.iaload, 1) := by decide +kernel
theorem d_Bm_compress_392 : decode b_Bm_compress 392 = .ok (.iload_n 2, 1) := by decide +kernel
theorem d_Bm_compress_393 : decode b_Bm_compress 393 = .ok (.iadd, 1) := by decide +kernel
theorem d_Bm_compress_394 : decode b_Bm_compress 394 = .ok (.iastore, 1) := by decide +kernel
theorem d_Bm_compress_395 : decode b_Bm_compress 395 = .ok (.aload_n 0, 1) := by decide +kernel
theorem d_Bm_compress_396 : decode b_Bm_compress 396 = .ok (.getfield 38, 3) := by decide +kernel
theorem d_Bm_compress_399 : decode b_Bm_compress 399 = .ok (.iconst 1, 1) := by decide +kernel
theorem d_Bm_compress_400 : decode b_Bm_compress 400 = .ok (.dup2, 1) := by decide +kernel
theorem d_Bm_compress_401 : decode b_Bm_compress 401 = .ok (.iaload, 1) := by decide +kernel
theorem d_Bm_compress_402 : decode b_Bm_compress 402 = .ok (.iload_n 3, 1) := by decide +kernel
theorem d_Bm_compress_403 : decode b_Bm_compress 403 = .ok (.iadd, 1) := by decide +kernel
theorem d_Bm_compress_404 : decode b_Bm_compress 404 = .ok (.iastore, 1) := by decide +kernel
theorem d_Bm_compress_405 : decode b_Bm_compress 405 = .ok (.aload_n 0, 1) := by decide +kernel
theorem d_Bm_compress_406 : decode b_Bm_compress 406 = .ok (.getfield 38, 3) := by decide +kernel
theorem d_Bm_compress_409 : decode b_Bm_compress 409 = .ok (.iconst 2, 1) := by decide +kernel
theorem d_Bm_compress_410 : decode b_Bm_compress 410 = .ok (.dup2, 1) := by decide +kernel
theorem d_Bm_compress_411 : decode b_Bm_compress 411 = .ok (.iaload, 1) := by decide +kernel
theorem d_Bm_compress_412 : decode b_Bm_compress 412 = .ok (.iload 4, 2) := by decide +kernel
theorem d_Bm_compress_414 : decode b_Bm_compress 414 = .ok (.iadd, 1) := by decide +kernel
theorem d_Bm_compress_415 : decode b_Bm_compress 415 = .ok (.iastore, 1) := by decide +kernel
theorem d_Bm_compress_416 : decode b_Bm_compress 416 = .ok (.aload_n 0, 1) := by decide +kernel
theorem d_Bm_compress_417 : decode b_Bm_compress 417 = .ok (.getfield 38, 3) := by decide +kernel
theorem d_Bm_compress_420 : decode b_Bm_compress 420 = .ok (.iconst 3, 1) := by decide +kernel
theorem d_Bm_compress_421 : decode b_Bm_compress 421 = .ok (.dup2, 1) := by decide +kernel
theorem d_Bm_compress_422 : decode b_Bm_compress 422 = .ok (.iaload, 1) := by decide +kernel
theorem d_Bm_compress_423 : decode b_Bm_compress 423 = .ok (.iload 5, 2) := by decide +kernel
theorem d_Bm_compress_425 : decode b_Bm_compress 425 = .ok (.iadd, 1) := by decide +kernel
theorem d_Bm_compress_426 : decode b_Bm_compress 426 = .ok (.iastore, 1) := by decide +kernel
theorem d_Bm_compress_427 : decode b_Bm_compress 427 = .ok (.aload_n 0, 1) := by decide +kernel
theorem d_Bm_compress_428 : decode b_Bm_compress 428 = .ok (.getfield 38, 3) := by decide +kernel
theorem d_Bm_compress_431 : decode b_Bm_compress 431 = .ok (.iconst 4, 1) := by decide +kernel
theorem d_Bm_compress_432 : decode b_Bm_compress 432 = .ok (.dup2, 1) := by decide +kernel
theorem d_Bm_compress_433 : decode b_Bm_compress 433 = .ok (.iaload, 1) := by decide +kernel
theorem d_Bm_compress_434 : decode b_Bm_compress 434 = .ok (.iload 6, 2) := by decide +kernel
theorem d_Bm_compress_436 : decode b_Bm_compress 436 = .ok (.iadd, 1) := by decide +kernel
theorem d_Bm_compress_437 : decode b_Bm_compress 437 = .ok (.iastore, 1) := by decide +kernel
theorem d_Bm_compress_438 : decode b_Bm_compress 438 = .ok (.aload_n 0, 1) := by decide +kernel
theorem d_Bm_compress_439 : decode b_Bm_compress 439 = .ok (.getfield 38, 3) := by decide +kernel
theorem d_Bm_compress_442 : decode b_Bm_compress 442 = .ok (.iconst 5, 1) := by decide +kernel
theorem d_Bm_compress_443 : decode b_Bm_compress 443 = .ok (.dup2, 1) := by decide +kernel
theorem d_Bm_compress_444 : decode b_Bm_compress 444 = .ok (.iaload, 1) := by decide +kernel
theorem d_Bm_compress_445 : decode b_Bm_compress 445 = .ok (.iload 7, 2) := by decide +kernel
theorem d_Bm_compress_447 : decode b_Bm_compress 447 = .ok (.iadd, 1) := by decide +kernel
theorem d_Bm_compress_448 : decode b_Bm_compress 448 = .ok (.iastore, 1) := by decide +kernel
theorem d_Bm_compress_449 : decode b_Bm_compress 449 = .ok (.aload_n 0, 1) := by decide +kernel
theorem d_Bm_compress_450 : decode b_Bm_compress 450 = .ok (.getfield 38, 3) := by decide +kernel
theorem d_Bm_compress_453 : decode b_Bm_compress 453 = .ok (.bipush 6, 2) := by decide +kernel
theorem d_Bm_compress_455 : decode b_Bm_compress 455 = .ok (.dup2, 1) := by decide +kernel
theorem d_Bm_compress_456 : decode b_Bm_compress 456 = .ok (.iaload, 1) := by decide +kernel
theorem d_Bm_compress_457 : decode b_Bm_compress 457 = .ok (.iload 8, 2) := by decide +kernel
theorem d_Bm_compress_459 : decode b_Bm_compress 459 = .ok (.iadd, 1) := by decide +kernel
theorem d_Bm_compress_460 : decode b_Bm_compress 460 = .ok (.iastore, 1) := by decide +kernel
theorem d_Bm_compress_461 : decode b_Bm_compress 461 = .ok (.aload_n 0, 1) := by decide +kernel
theorem d_Bm_compress_462 : decode b_Bm_compress 462 = .ok (.getfield 38, 3) := by decide +kernel
theorem d_Bm_compress_465 : decode b_Bm_compress 465 = .ok (.bipush 7, 2) := by decide +kernel
theorem d_Bm_compress_467 : decode b_Bm_compress 467 = .ok (.dup2, 1) := by decide +kernel
theorem d_Bm_compress_468 : decode b_Bm_compress 468 = .ok (.iaload, 1) := by decide +kernel
theorem d_Bm_compress_469 : decode b_Bm_compress 469 = .ok (.iload 9, 2) := by decide +kernel
theorem d_Bm_compress_471 : decode b_Bm_compress 471 = .ok (.iadd, 1) := by decide +kernel
theorem d_Bm_compress_472 : decode b_Bm_compress 472 = .ok (.iastore, 1) := by decide +kernel
theorem d_Bm_compress_473 : decode b_Bm_compress 473 = .ok (.return_, 1) := by decide +kernel
set_option maxHeartbeats 8000000 in
set_option maxRecDepth 100000 in
theorem c_Bm_compress (l : Launch) (dC : Nat → ClassId) (dI : Nat → Nat → Nat) (cJ cI : ClassId) (sz : Nat) (m0 : Nat) (z0 z1 z2 z3 : Int32) (z4 z5 z6 z7 z8 z9 : Int64) (z10 : Int32) (a0 a1 a2 a3 a4 a5 a6 a7 a8 a9 b0 b1 oc b2 b3 b4 b5 : Nat) (bf sc st : Nat → Int32) (fr : Nat) (hfr : fr + 64 ≤ 256) : Met l y_Bm_compress w_Bm_compress ({ frames := 1, cells := 0, slots := 0, locals := 21 }) (va_Pc [.ref m0, .int (nI fr)] (fun U => U.heap.size = sz ∧ va_P (dC, dI) classes (mo_ws m0 z0 z1 z2 z3 z4 z5 z6 z7 z8 z9 z10 a0 a1 a2 a3 a4 a5 a6 a7 a8 a9 b0 b1 oc b2 b3 b4 b5 ++ (iw_ws a7 cI 256 bf ++ (iw_ws a8 cI 64 sc ++ (iw_ws a9 cI 8 st ++ (iw_ws b1 cI 64 kR))))) U.heap ∧ va_K (dC, dI) classes [(cJ, .long), (cI, .int)] U ∧ va_D (fun _ => True) (mo_ws m0 z0 z1 z2 z3 z4 z5 z6 z7 z8 z9 z10 a0 a1 a2 a3 a4 a5 a6 a7 a8 a9 b0 b1 oc b2 b3 b4 b5 ++ (iw_ws a7 cI 256 bf ++ (iw_ws a8 cI 64 sc ++ (iw_ws a9 cI 8 st ++ (iw_ws b1 cI 64 kR))))))) (va_Qv (fun _ : Unit => True) (fun _ t => va_P (dC, dI) classes (mo_ws m0 z0 z1 z2 z3 z4 z5 z6 z7 z8 z9 z10 a0 a1 a2 a3 a4 a5 a6 a7 a8 a9 b0 b1 oc b2 b3 b4 b5 ++ (iw_ws a7 cI 256 bf ++ (iw_ws a8 cI 64 (swn (sq1 sc bf fr 16) 48) ++ (iw_ws a9 cI 8 (mxa (swn (sq1 sc bf fr 16) 48) st 8) ++ (iw_ws b1 cI 64 kR))))) t.heap ∧ va_K (dC, dI) classes [(cJ, .long), (cI, .int)] t ∧ va_D (va_A (mo_ws m0 z0 z1 z2 z3 z4 z5 z6 z7 z8 z9 z10 a0 a1 a2 a3 a4 a5 a6 a7 a8 a9 b0 b1 oc b2 b3 b4 b5 ++ (iw_ws a7 cI 256 bf ++ (iw_ws a8 cI 64 sc ++ (iw_ws a9 cI 8 st ++ (iw_ws b1 cI 64 kR))))) sz) (mo_ws m0 z0 z1 z2 z3 z4 z5 z6 z7 z8 z9 z10 a0 a1 a2 a3 a4 a5 a6 a7 a8 a9 b0 b1 oc b2 b3 b4 b5 ++ (iw_ws a7 cI 256 bf ++ (iw_ws a8 cI 64 (swn (sq1 sc bf fr 16) 48) ++ (iw_ws a9 cI 8 (mxa (swn (sq1 sc bf fr 16) 48) st 8) ++ (iw_ws b1 cI 64 kR)))))) (va_A (mo_ws m0 z0 z1 z2 z3 z4 z5 z6 z7 z8 z9 z10 a0 a1 a2 a3 a4 a5 a6 a7 a8 a9 b0 b1 oc b2 b3 b4 b5 ++ (iw_ws a7 cI 256 bf ++ (iw_ws a8 cI 64 sc ++ (iw_ws a9 cI 8 st ++ (iw_ws b1 cI 64 kR))))) sz)) 0 0 (va_A (mo_ws m0 z0 z1 z2 z3 z4 z5 z6 z7 z8 z9 z10 a0 a1 a2 a3 a4 a5 a6 a7 a8 a9 b0 b1 oc b2 b3 b4 b5 ++ (iw_ws a7 cI 256 bf ++ (iw_ws a8 cI 64 sc ++ (iw_ws a9 cI 8 st ++ (iw_ws b1 cI 64 kR))))) sz) := by
  refine Met.ofW (cc := b_Bm_compress) (maxL := 13) (ret := none) (by decide) rfl ?_
  intro p e s m args below meth c s₁ Bd hml hv
  obtain ⟨rfl, hsz, hP, hK, hD0⟩ := hv
  have hx := Bd.exec
  have hb := Bd.bytes
  have hr := Bd.returns
  have hts := atoms_spec (ws := w_Bm_compress) Bd.pre
  have hown : s.vm.findClass "BallotBoardModel" = some m.cls := findClass_of_methodNamed Bd.named
  have hlocks := Bd.notSynchronized
  subst hsz
  have hD := hD0.self (sz := s.heap.size)
  generalize hAe : va_A (mo_ws m0 z0 z1 z2 z3 z4 z5 z6 z7 z8 z9 z10 a0 a1 a2 a3 a4 a5 a6 a7 a8 a9 b0 b1 oc b2 b3 b4 b5 ++ (iw_ws a7 cI 256 bf ++ (iw_ws a8 cI 64 sc ++ (iw_ws a9 cI 8 st ++ (iw_ws b1 cI 64 kR))))) s.heap.size = A at hD ⊢
  have hA : ∀ q : Nat, s.heap.size ≤ q → A q := fun q h => by rw [← hAe]; exact Or.inr h
  have hS : va_S A s.heap s.heap [] := va_S.rf
  have hl := lv_entry ([.ref m0, .int (nI fr)]) (n := 13) (Nat.le_of_ble_eq_true rfl)
  rw [lg_entry_eq]
  generalize (lg_sl ([.ref m0, .int (nI fr)]) ++ List.replicate (13 - (lg_sl ([.ref m0, .int (nI fr)])).length) Slot.unset).toArray = ls at hl ⊢
  have hl : lv_has ls 13 [(0, .ref m0), (1, .int (nI fr))] := hl
  have loop3 : ∀ (j i : Nat), i + j = 64 → ∀ (H : Heap) (locs : List Loc), va_S A s.heap H locs → va_P (dC, dI) classes (mo_ws m0 z0 z1 z2 z3 z4 z5 z6 z7 z8 z9 z10 a0 a1 a2 a3 a4 a5 a6 a7 a8 a9 b0 b1 oc b2 b3 b4 b5 ++ (iw_ws a7 cI 256 bf ++ (iw_ws a8 cI 64 (swn (sq1 sc bf fr 16) 48) ++ (iw_ws a9 cI 8 st ++ (iw_ws b1 cI 64 kR))))) H → va_D A (mo_ws m0 z0 z1 z2 z3 z4 z5 z6 z7 z8 z9 z10 a0 a1 a2 a3 a4 a5 a6 a7 a8 a9 b0 b1 oc b2 b3 b4 b5 ++ (iw_ws a7 cI 256 bf ++ (iw_ws a8 cI 64 (swn (sq1 sc bf fr 16) 48) ++ (iw_ws a9 cI 8 st ++ (iw_ws b1 cI 64 kR))))) → ∀ (ls : Array Slot), lv_has ls 13 [(0, .ref m0), (1, .int (nI fr)), (2, .int (mx (swn (sq1 sc bf fr 16) 48) st i 0)), (3, .int (mx (swn (sq1 sc bf fr 16) 48) st i 1)), (4, .int (mx (swn (sq1 sc bf fr 16) 48) st i 2)), (5, .int (mx (swn (sq1 sc bf fr 16) 48) st i 3)), (6, .int (mx (swn (sq1 sc bf fr 16) 48) st i 4)), (7, .int (mx (swn (sq1 sc bf fr 16) 48) st i 5)), (8, .int (mx (swn (sq1 sc bf fr 16) 48) st i 6)), (9, .int (mx (swn (sq1 sc bf fr 16) 48) st i 7)), (10, .int (nI i))] → W p l e ({ frames := 1, cells := 0, slots := 0, locals := 21 } : Room) s m ([.ref m0, .int (nI fr)] : List Value).toArray below meth c H locs 0 0 (MQ below (va_Qv (fun _ : Unit => True) (fun _ t => va_P (dC, dI) classes (mo_ws m0 z0 z1 z2 z3 z4 z5 z6 z7 z8 z9 z10 a0 a1 a2 a3 a4 a5 a6 a7 a8 a9 b0 b1 oc b2 b3 b4 b5 ++ (iw_ws a7 cI 256 bf ++ (iw_ws a8 cI 64 (swn (sq1 sc bf fr 16) 48) ++ (iw_ws a9 cI 8 (mxa (swn (sq1 sc bf fr 16) 48) st 8) ++ (iw_ws b1 cI 64 kR))))) t.heap ∧ va_K (dC, dI) classes [(cJ, .long), (cI, .int)] t ∧ va_D A (mo_ws m0 z0 z1 z2 z3 z4 z5 z6 z7 z8 z9 z10 a0 a1 a2 a3 a4 a5 a6 a7 a8 a9 b0 b1 oc b2 b3 b4 b5 ++ (iw_ws a7 cI 256 bf ++ (iw_ws a8 cI 64 (swn (sq1 sc bf fr 16) 48) ++ (iw_ws a9 cI 8 (mxa (swn (sq1 sc bf fr 16) 48) st 8) ++ (iw_ws b1 cI 64 kR)))))) A) ([.ref m0, .int (nI fr)] : List Value).toArray s 0 0 A) (F0 m 245 ls []) := by
    intro j
    induction j using Nat.strongRecOn with
    | ind j ih =>
      intro i hij H locs hS hP hD ls hl
      refine lv_iload hx hb d_Bm_compress_245 (lv_at hl 10 rfl) ?_
      refine lv_bipush (v := 64) hx hb d_Bm_compress_247 (by decide) ?_
      refine lv_icmp_ge (tgt := 385) hx hb d_Bm_compress_249 (by decide) (fun c_1 => ?_) (fun c_1 => ?_)
      · -- taken
        have hi64 : i = 64 := by
          have := (ige 64 (by omega) (by omega) rfl).mp c_1
          omega
        subst hi64
        refine lv_aload_n hx hb d_Bm_compress_385 rfl (lv_at hl 0 rfl) ?_
        refine va_get (D := (dC, dI)) (ci := 8) (v := .ref a9) (C := "BallotBoardModel") (T := F_Bm) (N := 28) hx hb hts (fun w9 h9 => List.mem_cons_of_mem _ (i_Bm w9 h9)) hown hK hP 0 rfl rfl 20 (by decide) (hts _ (List.mem_cons_of_mem _ gk_939)) (fun _ h9 => h9) rfl d_Bm_compress_386 ?_
        refine lv_iconst (v := 0) hx hb d_Bm_compress_389 (by decide) ?_
        refine lv_dup2_11 hx hb d_Bm_compress_390 rfl rfl ?_
        refine va_iald hx hb hK hP 3 1 rfl rfl (vp_lit rfl) d_Bm_compress_391 ?_
        rw [show (st (0 : Int32).toNatClampNeg : Int32) = st 0 from rfl]
        refine lv_iload_n hx hb d_Bm_compress_392 rfl (lv_at hl 2 rfl) ?_
        refine lv_iadd hx hb d_Bm_compress_393 ?_
        refine va_iast hx hb hK hP hD hS 3 1 rfl rfl (vp_lit rfl) d_Bm_compress_394 (fun H locs hP hD hS => ?_)
        have hfe : upd st (0 : Int32).toNatClampNeg ((st 0) + (mx (swn (sq1 sc bf fr 16) 48) st 64 0)) = mxa (swn (sq1 sc bf fr 16) 48) st 1 := rfl
        have hP : va_P (dC, dI) classes [(m0, .inr (8, [.int z0, .int z1, .int z2, .int z3, .long z4, .long z5, .long z6, .long z7, .long z8, .long z9, .int z10, .ref a0, .ref a1, .ref a2, .ref a3, .ref a4, .ref a5, .ref a6, .ref a7, .ref a8, .ref a9, .ref b0, .ref b1, .int (nI oc), .ref b2, .ref b3, .ref b4, .ref b5])), (a7, .inl (cI, 256, .inl bf)), (a8, .inl (cI, 64, .inl (swn (sq1 sc bf fr 16) 48))), (a9, .inl (cI, 8, .inl (upd st (0 : Int32).toNatClampNeg ((st 0) + (mx (swn (sq1 sc bf fr 16) 48) st 64 0))))), (b1, .inl (cI, 64, .inl kR))] H := hP
        have hD : va_D A [(m0, .inr (8, [.int z0, .int z1, .int z2, .int z3, .long z4, .long z5, .long z6, .long z7, .long z8, .long z9, .int z10, .ref a0, .ref a1, .ref a2, .ref a3, .ref a4, .ref a5, .ref a6, .ref a7, .ref a8, .ref a9, .ref b0, .ref b1, .int (nI oc), .ref b2, .ref b3, .ref b4, .ref b5])), (a7, .inl (cI, 256, .inl bf)), (a8, .inl (cI, 64, .inl (swn (sq1 sc bf fr 16) 48))), (a9, .inl (cI, 8, .inl (upd st (0 : Int32).toNatClampNeg ((st 0) + (mx (swn (sq1 sc bf fr 16) 48) st 64 0))))), (b1, .inl (cI, 64, .inl kR))] := hD
        rw [hfe] at hP hD
        refine lv_aload_n hx hb d_Bm_compress_395 rfl (lv_at hl 0 rfl) ?_
        refine va_get (D := (dC, dI)) (ci := 8) (v := .ref a9) (C := "BallotBoardModel") (T := F_Bm) (N := 28) hx hb hts (fun w9 h9 => List.mem_cons_of_mem _ (i_Bm w9 h9)) hown hK hP 0 rfl rfl 20 (by decide) (hts _ (List.mem_cons_of_mem _ gk_939)) (fun _ h9 => h9) rfl d_Bm_compress_396 ?_
        refine lv_iconst (v := 1) hx hb d_Bm_compress_399 (by decide) ?_
        refine lv_dup2_11 hx hb d_Bm_compress_400 rfl rfl ?_
        refine va_iald hx hb hK hP 3 1 rfl rfl (vp_lit rfl) d_Bm_compress_401 ?_
        rw [show (mxa (swn (sq1 sc bf fr 16) 48) st 1 (1 : Int32).toNatClampNeg : Int32) = (mxa (swn (sq1 sc bf fr 16) 48) st 1) 1 from rfl]
        rw [show ((mxa (swn (sq1 sc bf fr 16) 48) st 1) 1 : Int32) = (st 1) from rfl]
        refine lv_iload_n hx hb d_Bm_compress_402 rfl (lv_at hl 3 rfl) ?_
        refine lv_iadd hx hb d_Bm_compress_403 ?_
        refine va_iast hx hb hK hP hD hS 3 1 rfl rfl (vp_lit rfl) d_Bm_compress_404 (fun H locs hP hD hS => ?_)
        have hfe : upd (mxa (swn (sq1 sc bf fr 16) 48) st 1) (1 : Int32).toNatClampNeg ((st 1) + (mx (swn (sq1 sc bf fr 16) 48) st 64 1)) = mxa (swn (sq1 sc bf fr 16) 48) st 2 := rfl
        have hP : va_P (dC, dI) classes [(m0, .inr (8, [.int z0, .int z1, .int z2, .int z3, .long z4, .long z5, .long z6, .long z7, .long z8, .long z9, .int z10, .ref a0, .ref a1, .ref a2, .ref a3, .ref a4, .ref a5, .ref a6, .ref a7, .ref a8, .ref a9, .ref b0, .ref b1, .int (nI oc), .ref b2, .ref b3, .ref b4, .ref b5])), (a7, .inl (cI, 256, .inl bf)), (a8, .inl (cI, 64, .inl (swn (sq1 sc bf fr 16) 48))), (a9, .inl (cI, 8, .inl (upd (mxa (swn (sq1 sc bf fr 16) 48) st 1) (1 : Int32).toNatClampNeg ((st 1) + (mx (swn (sq1 sc bf fr 16) 48) st 64 1))))), (b1, .inl (cI, 64, .inl kR))] H := hP
        have hD : va_D A [(m0, .inr (8, [.int z0, .int z1, .int z2, .int z3, .long z4, .long z5, .long z6, .long z7, .long z8, .long z9, .int z10, .ref a0, .ref a1, .ref a2, .ref a3, .ref a4, .ref a5, .ref a6, .ref a7, .ref a8, .ref a9, .ref b0, .ref b1, .int (nI oc), .ref b2, .ref b3, .ref b4, .ref b5])), (a7, .inl (cI, 256, .inl bf)), (a8, .inl (cI, 64, .inl (swn (sq1 sc bf fr 16) 48))), (a9, .inl (cI, 8, .inl (upd (mxa (swn (sq1 sc bf fr 16) 48) st 1) (1 : Int32).toNatClampNeg ((st 1) + (mx (swn (sq1 sc bf fr 16) 48) st 64 1))))), (b1, .inl (cI, 64, .inl kR))] := hD
        rw [hfe] at hP hD
        refine lv_aload_n hx hb d_Bm_compress_405 rfl (lv_at hl 0 rfl) ?_
        refine va_get (D := (dC, dI)) (ci := 8) (v := .ref a9) (C := "BallotBoardModel") (T := F_Bm) (N := 28) hx hb hts (fun w9 h9 => List.mem_cons_of_mem _ (i_Bm w9 h9)) hown hK hP 0 rfl rfl 20 (by decide) (hts _ (List.mem_cons_of_mem _ gk_939)) (fun _ h9 => h9) rfl d_Bm_compress_406 ?_
        refine lv_iconst (v := 2) hx hb d_Bm_compress_409 (by decide) ?_
        refine lv_dup2_11 hx hb d_Bm_compress_410 rfl rfl ?_
        refine va_iald hx hb hK hP 3 1 rfl rfl (vp_lit rfl) d_Bm_compress_411 ?_
        rw [show (mxa (swn (sq1 sc bf fr 16) 48) st 2 (2 : Int32).toNatClampNeg : Int32) = (mxa (swn (sq1 sc bf fr 16) 48) st 2) 2 from rfl]
        rw [show ((mxa (swn (sq1 sc bf fr 16) 48) st 2) 2 : Int32) = (st 2) from rfl]
        refine lv_iload hx hb d_Bm_compress_412 (lv_at hl 4 rfl) ?_
        refine lv_iadd hx hb d_Bm_compress_414 ?_
        refine va_iast hx hb hK hP hD hS 3 1 rfl rfl (vp_lit rfl) d_Bm_compress_415 (fun H locs hP hD hS => ?_)
        have hfe : upd (mxa (swn (sq1 sc bf fr 16) 48) st 2) (2 : Int32).toNatClampNeg ((st 2) + (mx (swn (sq1 sc bf fr 16) 48) st 64 2)) = mxa (swn (sq1 sc bf fr 16) 48) st 3 := rfl
        have hP : va_P (dC, dI) classes [(m0, .inr (8, [.int z0, .int z1, .int z2, .int z3, .long z4, .long z5, .long z6, .long z7, .long z8, .long z9, .int z10, .ref a0, .ref a1, .ref a2, .ref a3, .ref a4, .ref a5, .ref a6, .ref a7, .ref a8, .ref a9, .ref b0, .ref b1, .int (nI oc), .ref b2, .ref b3, .ref b4, .ref b5])), (a7, .inl (cI, 256, .inl bf)), (a8, .inl (cI, 64, .inl (swn (sq1 sc bf fr 16) 48))), (a9, .inl (cI, 8, .inl (upd (mxa (swn (sq1 sc bf fr 16) 48) st 2) (2 : Int32).toNatClampNeg ((st 2) + (mx (swn (sq1 sc bf fr 16) 48) st 64 2))))), (b1, .inl (cI, 64, .inl kR))] H := hP
        have hD : va_D A [(m0, .inr (8, [.int z0, .int z1, .int z2, .int z3, .long z4, .long z5, .long z6, .long z7, .long z8, .long z9, .int z10, .ref a0, .ref a1, .ref a2, .ref a3, .ref a4, .ref a5, .ref a6, .ref a7, .ref a8, .ref a9, .ref b0, .ref b1, .int (nI oc), .ref b2, .ref b3, .ref b4, .ref b5])), (a7, .inl (cI, 256, .inl bf)), (a8, .inl (cI, 64, .inl (swn (sq1 sc bf fr 16) 48))), (a9, .inl (cI, 8, .inl (upd (mxa (swn (sq1 sc bf fr 16) 48) st 2) (2 : Int32).toNatClampNeg ((st 2) + (mx (swn (sq1 sc bf fr 16) 48) st 64 2))))), (b1, .inl (cI, 64, .inl kR))] := hD
        rw [hfe] at hP hD
        refine lv_aload_n hx hb d_Bm_compress_416 rfl (lv_at hl 0 rfl) ?_
        refine va_get (D := (dC, dI)) (ci := 8) (v := .ref a9) (C := "BallotBoardModel") (T := F_Bm) (N := 28) hx hb hts (fun w9 h9 => List.mem_cons_of_mem _ (i_Bm w9 h9)) hown hK hP 0 rfl rfl 20 (by decide) (hts _ (List.mem_cons_of_mem _ gk_939)) (fun _ h9 => h9) rfl d_Bm_compress_417 ?_
        refine lv_iconst (v := 3) hx hb d_Bm_compress_420 (by decide) ?_
        refine lv_dup2_11 hx hb d_Bm_compress_421 rfl rfl ?_
        refine va_iald hx hb hK hP 3 1 rfl rfl (vp_lit rfl) d_Bm_compress_422 ?_
        rw [show (mxa (swn (sq1 sc bf fr 16) 48) st 3 (3 : Int32).toNatClampNeg : Int32) = (mxa (swn (sq1 sc bf fr 16) 48) st 3) 3 from rfl]
        rw [show ((mxa (swn (sq1 sc bf fr 16) 48) st 3) 3 : Int32) = (st 3) from rfl]
        refine lv_iload hx hb d_Bm_compress_423 (lv_at hl 5 rfl) ?_
        refine lv_iadd hx hb d_Bm_compress_425 ?_
        refine va_iast hx hb hK hP hD hS 3 1 rfl rfl (vp_lit rfl) d_Bm_compress_426 (fun H locs hP hD hS => ?_)
        have hfe : upd (mxa (swn (sq1 sc bf fr 16) 48) st 3) (3 : Int32).toNatClampNeg ((st 3) + (mx (swn (sq1 sc bf fr 16) 48) st 64 3)) = mxa (swn (sq1 sc bf fr 16) 48) st 4 := rfl
        have hP : va_P (dC, dI) classes [(m0, .inr (8, [.int z0, .int z1, .int z2, .int z3, .long z4, .long z5, .long z6, .long z7, .long z8, .long z9, .int z10, .ref a0, .ref a1, .ref a2, .ref a3, .ref a4, .ref a5, .ref a6, .ref a7, .ref a8, .ref a9, .ref b0, .ref b1, .int (nI oc), .ref b2, .ref b3, .ref b4, .ref b5])), (a7, .inl (cI, 256, .inl bf)), (a8, .inl (cI, 64, .inl (swn (sq1 sc bf fr 16) 48))), (a9, .inl (cI, 8, .inl (upd (mxa (swn (sq1 sc bf fr 16) 48) st 3) (3 : Int32).toNatClampNeg ((st 3) + (mx (swn (sq1 sc bf fr 16) 48) st 64 3))))), (b1, .inl (cI, 64, .inl kR))] H := hP
        have hD : va_D A [(m0, .inr (8, [.int z0, .int z1, .int z2, .int z3, .long z4, .long z5, .long z6, .long z7, .long z8, .long z9, .int z10, .ref a0, .ref a1, .ref a2, .ref a3, .ref a4, .ref a5, .ref a6, .ref a7, .ref a8, .ref a9, .ref b0, .ref b1, .int (nI oc), .ref b2, .ref b3, .ref b4, .ref b5])), (a7, .inl (cI, 256, .inl bf)), (a8, .inl (cI, 64, .inl (swn (sq1 sc bf fr 16) 48))), (a9, .inl (cI, 8, .inl (upd (mxa (swn (sq1 sc bf fr 16) 48) st 3) (3 : Int32).toNatClampNeg ((st 3) + (mx (swn (sq1 sc bf fr 16) 48) st 64 3))))), (b1, .inl (cI, 64, .inl kR))] := hD
        rw [hfe] at hP hD
        refine lv_aload_n hx hb d_Bm_compress_427 rfl (lv_at hl 0 rfl) ?_
        refine va_get (D := (dC, dI)) (ci := 8) (v := .ref a9) (C := "BallotBoardModel") (T := F_Bm) (N := 28) hx hb hts (fun w9 h9 => List.mem_cons_of_mem _ (i_Bm w9 h9)) hown hK hP 0 rfl rfl 20 (by decide) (hts _ (List.mem_cons_of_mem _ gk_939)) (fun _ h9 => h9) rfl d_Bm_compress_428 ?_
        refine lv_iconst (v := 4) hx hb d_Bm_compress_431 (by decide) ?_
        refine lv_dup2_11 hx hb d_Bm_compress_432 rfl rfl ?_
        refine va_iald hx hb hK hP 3 1 rfl rfl (vp_lit rfl) d_Bm_compress_433 ?_
        rw [show (mxa (swn (sq1 sc bf fr 16) 48) st 4 (4 : Int32).toNatClampNeg : Int32) = (mxa (swn (sq1 sc bf fr 16) 48) st 4) 4 from rfl]
        rw [show ((mxa (swn (sq1 sc bf fr 16) 48) st 4) 4 : Int32) = (st 4) from rfl]
        refine lv_iload hx hb d_Bm_compress_434 (lv_at hl 6 rfl) ?_
        refine lv_iadd hx hb d_Bm_compress_436 ?_
        refine va_iast hx hb hK hP hD hS 3 1 rfl rfl (vp_lit rfl) d_Bm_compress_437 (fun H locs hP hD hS => ?_)
        have hfe : upd (mxa (swn (sq1 sc bf fr 16) 48) st 4) (4 : Int32).toNatClampNeg ((st 4) + (mx (swn (sq1 sc bf fr 16) 48) st 64 4)) = mxa (swn (sq1 sc bf fr 16) 48) st 5 := rfl
        have hP : va_P (dC, dI) classes [(m0, .inr (8, [.int z0, .int z1, .int z2, .int z3, .long z4, .long z5, .long z6, .long z7, .long z8, .long z9, .int z10, .ref a0, .ref a1, .ref a2, .ref a3, .ref a4, .ref a5, .ref a6, .ref a7, .ref a8, .ref a9, .ref b0, .ref b1, .int (nI oc), .ref b2, .ref b3, .ref b4, .ref b5])), (a7, .inl (cI, 256, .inl bf)), (a8, .inl (cI, 64, .inl (swn (sq1 sc bf fr 16) 48))), (a9, .inl (cI, 8, .inl (upd (mxa (swn (sq1 sc bf fr 16) 48) st 4) (4 : Int32).toNatClampNeg ((st 4) + (mx (swn (sq1 sc bf fr 16) 48) st 64 4))))), (b1, .inl (cI, 64, .inl kR))] H := hP
        have hD : va_D A [(m0, .inr (8, [.int z0, .int z1, .int z2, .int z3, .long z4, .long z5, .long z6, .long z7, .long z8, .long z9, .int z10, .ref a0, .ref a1, .ref a2, .ref a3, .ref a4, .ref a5, .ref a6, .ref a7, .ref a8, .ref a9, .ref b0, .ref b1, .int (nI oc), .ref b2, .ref b3, .ref b4, .ref b5])), (a7, .inl (cI, 256, .inl bf)), (a8, .inl (cI, 64, .inl (swn (sq1 sc bf fr 16) 48))), (a9, .inl (cI, 8, .inl (upd (mxa (swn (sq1 sc bf fr 16) 48) st 4) (4 : Int32).toNatClampNeg ((st 4) + (mx (swn (sq1 sc bf fr 16) 48) st 64 4))))), (b1, .inl (cI, 64, .inl kR))] := hD
        rw [hfe] at hP hD
        refine lv_aload_n hx hb d_Bm_compress_438 rfl (lv_at hl 0 rfl) ?_
        refine va_get (D := (dC, dI)) (ci := 8) (v := .ref a9) (C := "BallotBoardModel") (T := F_Bm) (N := 28) hx hb hts (fun w9 h9 => List.mem_cons_of_mem _ (i_Bm w9 h9)) hown hK hP 0 rfl rfl 20 (by decide) (hts _ (List.mem_cons_of_mem _ gk_939)) (fun _ h9 => h9) rfl d_Bm_compress_439 ?_
        refine lv_iconst (v := 5) hx hb d_Bm_compress_442 (by decide) ?_
        refine lv_dup2_11 hx hb d_Bm_compress_443 rfl rfl ?_
        refine va_iald hx hb hK hP 3 1 rfl rfl (vp_lit rfl) d_Bm_compress_444 ?_
        rw [show (mxa (swn (sq1 sc bf fr 16) 48) st 5 (5 : Int32).toNatClampNeg : Int32) = (mxa (swn (sq1 sc bf fr 16) 48) st 5) 5 from rfl]
        rw [show ((mxa (swn (sq1 sc bf fr 16) 48) st 5) 5 : Int32) = (st 5) from rfl]
        refine lv_iload hx hb d_Bm_compress_445 (lv_at hl 7 rfl) ?_
        refine lv_iadd hx hb d_Bm_compress_447 ?_
        refine va_iast hx hb hK hP hD hS 3 1 rfl rfl (vp_lit rfl) d_Bm_compress_448 (fun H locs hP hD hS => ?_)
        have hfe : upd (mxa (swn (sq1 sc bf fr 16) 48) st 5) (5 : Int32).toNatClampNeg ((st 5) + (mx (swn (sq1 sc bf fr 16) 48) st 64 5)) = mxa (swn (sq1 sc bf fr 16) 48) st 6 := rfl
        have hP : va_P (dC, dI) classes [(m0, .inr (8, [.int z0, .int z1, .int z2, .int z3, .long z4, .long z5, .long z6, .long z7, .long z8, .long z9, .int z10, .ref a0, .ref a1, .ref a2, .ref a3, .ref a4, .ref a5, .ref a6, .ref a7, .ref a8, .ref a9, .ref b0, .ref b1, .int (nI oc), .ref b2, .ref b3, .ref b4, .ref b5])), (a7, .inl (cI, 256, .inl bf)), (a8, .inl (cI, 64, .inl (swn (sq1 sc bf fr 16) 48))), (a9, .inl (cI, 8, .inl (upd (mxa (swn (sq1 sc bf fr 16) 48) st 5) (5 : Int32).toNatClampNeg ((st 5) + (mx (swn (sq1 sc bf fr 16) 48) st 64 5))))), (b1, .inl (cI, 64, .inl kR))] H := hP
        have hD : va_D A [(m0, .inr (8, [.int z0, .int z1, .int z2, .int z3, .long z4, .long z5, .long z6, .long z7, .long z8, .long z9, .int z10, .ref a0, .ref a1, .ref a2, .ref a3, .ref a4, .ref a5, .ref a6, .ref a7, .ref a8, .ref a9, .ref b0, .ref b1, .int (nI oc), .ref b2, .ref b3, .ref b4, .ref b5])), (a7, .inl (cI, 256, .inl bf)), (a8, .inl (cI, 64, .inl (swn (sq1 sc bf fr 16) 48))), (a9, .inl (cI, 8, .inl (upd (mxa (swn (sq1 sc bf fr 16) 48) st 5) (5 : Int32).toNatClampNeg ((st 5) + (mx (swn (sq1 sc bf fr 16) 48) st 64 5))))), (b1, .inl (cI, 64, .inl kR))] := hD
        rw [hfe] at hP hD
        refine lv_aload_n hx hb d_Bm_compress_449 rfl (lv_at hl 0 rfl) ?_
        refine va_get (D := (dC, dI)) (ci := 8) (v := .ref a9) (C := "BallotBoardModel") (T := F_Bm) (N := 28) hx hb hts (fun w9 h9 => List.mem_cons_of_mem _ (i_Bm w9 h9)) hown hK hP 0 rfl rfl 20 (by decide) (hts _ (List.mem_cons_of_mem _ gk_939)) (fun _ h9 => h9) rfl d_Bm_compress_450 ?_
        refine lv_bipush (v := 6) hx hb d_Bm_compress_453 (by decide) ?_
        refine lv_dup2_11 hx hb d_Bm_compress_455 rfl rfl ?_
        refine va_iald hx hb hK hP 3 1 rfl rfl (vp_lit rfl) d_Bm_compress_456 ?_
        rw [show (mxa (swn (sq1 sc bf fr 16) 48) st 6 (6 : Int32).toNatClampNeg : Int32) = (mxa (swn (sq1 sc bf fr 16) 48) st 6) 6 from rfl]
        rw [show ((mxa (swn (sq1 sc bf fr 16) 48) st 6) 6 : Int32) = (st 6) from rfl]
        refine lv_iload hx hb d_Bm_compress_457 (lv_at hl 8 rfl) ?_
        refine lv_iadd hx hb d_Bm_compress_459 ?_
        refine va_iast hx hb hK hP hD hS 3 1 rfl rfl (vp_lit rfl) d_Bm_compress_460 (fun H locs hP hD hS => ?_)
        have hfe : upd (mxa (swn (sq1 sc bf fr 16) 48) st 6) (6 : Int32).toNatClampNeg ((st 6) + (mx (swn (sq1 sc bf fr 16) 48) st 64 6)) = mxa (swn (sq1 sc bf fr 16) 48) st 7 := rfl
        have hP : va_P (dC, dI) classes [(m0, .inr (8, [.int z0, .int z1, .int z2, .int z3, .long z4, .long z5, .long z6, .long z7, .long z8, .long z9, .int z10, .ref a0, .ref a1, .ref a2, .ref a3, .ref a4, .ref a5, .ref a6, .ref a7, .ref a8, .ref a9, .ref b0, .ref b1, .int (nI oc), .ref b2, .ref b3, .ref b4, .ref b5])), (a7, .inl (cI, 256, .inl bf)), (a8, .inl (cI, 64, .inl (swn (sq1 sc bf fr 16) 48))), (a9, .inl (cI, 8, .inl (upd (mxa (swn (sq1 sc bf fr 16) 48) st 6) (6 : Int32).toNatClampNeg ((st 6) + (mx (swn (sq1 sc bf fr 16) 48) st 64 6))))), (b1, .inl (cI, 64, .inl kR))] H := hP
        have hD : va_D A [(m0, .inr (8, [.int z0, .int z1, .int z2, .int z3, .long z4, .long z5, .long z6, .long z7, .long z8, .long z9, .int z10, .ref a0, .ref a1, .ref a2, .ref a3, .ref a4, .ref a5, .ref a6, .ref a7, .ref a8, .ref a9, .ref b0, .ref b1, .int (nI oc), .ref b2, .ref b3, .ref b4, .ref b5])), (a7, .inl (cI, 256, .inl bf)), (a8, .inl (cI, 64, .inl (swn (sq1 sc bf fr 16) 48))), (a9, .inl (cI, 8, .inl (upd (mxa (swn (sq1 sc bf fr 16) 48) st 6) (6 : Int32).toNatClampNeg ((st 6) + (mx (swn (sq1 sc bf fr 16) 48) st 64 6))))), (b1, .inl (cI, 64, .inl kR))] := hD
        rw [hfe] at hP hD
        refine lv_aload_n hx hb d_Bm_compress_461 rfl (lv_at hl 0 rfl) ?_
        refine va_get (D := (dC, dI)) (ci := 8) (v := .ref a9) (C := "BallotBoardModel") (T := F_Bm) (N := 28) hx hb hts (fun w9 h9 => List.mem_cons_of_mem _ (i_Bm w9 h9)) hown hK hP 0 rfl rfl 20 (by decide) (hts _ (List.mem_cons_of_mem _ gk_939)) (fun _ h9 => h9) rfl d_Bm_compress_462 ?_
        refine lv_bipush (v := 7) hx hb d_Bm_compress_465 (by decide) ?_
        refine lv_dup2_11 hx hb d_Bm_compress_467 rfl rfl ?_
        refine va_iald hx hb hK hP 3 1 rfl rfl (vp_lit rfl) d_Bm_compress_468 ?_
        rw [show (mxa (swn (sq1 sc bf fr 16) 48) st 7 (7 : Int32).toNatClampNeg : Int32) = (mxa (swn (sq1 sc bf fr 16) 48) st 7) 7 from rfl]
        rw [show ((mxa (swn (sq1 sc bf fr 16) 48) st 7) 7 : Int32) = (st 7) from rfl]
        refine lv_iload hx hb d_Bm_compress_469 (lv_at hl 9 rfl) ?_
        refine lv_iadd hx hb d_Bm_compress_471 ?_
        refine va_iast hx hb hK hP hD hS 3 1 rfl rfl (vp_lit rfl) d_Bm_compress_472 (fun H locs hP hD hS => ?_)
        have hfe : upd (mxa (swn (sq1 sc bf fr 16) 48) st 7) (7 : Int32).toNatClampNeg ((st 7) + (mx (swn (sq1 sc bf fr 16) 48) st 64 7)) = mxa (swn (sq1 sc bf fr 16) 48) st 8 := rfl
        have hP : va_P (dC, dI) classes [(m0, .inr (8, [.int z0, .int z1, .int z2, .int z3, .long z4, .long z5, .long z6, .long z7, .long z8, .long z9, .int z10, .ref a0, .ref a1, .ref a2, .ref a3, .ref a4, .ref a5, .ref a6, .ref a7, .ref a8, .ref a9, .ref b0, .ref b1, .int (nI oc), .ref b2, .ref b3, .ref b4, .ref b5])), (a7, .inl (cI, 256, .inl bf)), (a8, .inl (cI, 64, .inl (swn (sq1 sc bf fr 16) 48))), (a9, .inl (cI, 8, .inl (upd (mxa (swn (sq1 sc bf fr 16) 48) st 7) (7 : Int32).toNatClampNeg ((st 7) + (mx (swn (sq1 sc bf fr 16) 48) st 64 7))))), (b1, .inl (cI, 64, .inl kR))] H := hP
        have hD : va_D A [(m0, .inr (8, [.int z0, .int z1, .int z2, .int z3, .long z4, .long z5, .long z6, .long z7, .long z8, .long z9, .int z10, .ref a0, .ref a1, .ref a2, .ref a3, .ref a4, .ref a5, .ref a6, .ref a7, .ref a8, .ref a9, .ref b0, .ref b1, .int (nI oc), .ref b2, .ref b3, .ref b4, .ref b5])), (a7, .inl (cI, 256, .inl bf)), (a8, .inl (cI, 64, .inl (swn (sq1 sc bf fr 16) 48))), (a9, .inl (cI, 8, .inl (upd (mxa (swn (sq1 sc bf fr 16) 48) st 7) (7 : Int32).toNatClampNeg ((st 7) + (mx (swn (sq1 sc bf fr 16) 48) st 64 7))))), (b1, .inl (cI, 64, .inl kR))] := hD
        rw [hfe] at hP hD
        exact W.vret hx hb hr (fun t ht9 hW => ⟨⟨(), rfl, trivial, by rw [ht9]; exact hP, va_K.moved hW.alike hK, hD⟩, hS.F ht9⟩) hS.2.2 d_Bm_compress_473
      · -- not taken
        have hi64 : i < 64 := by
          have : ¬ 64 ≤ i := fun h => c_1 ((ige 64 (by omega) (by omega) rfl).mpr h)
          omega
        refine lv_iload hx hb d_Bm_compress_252 (lv_at hl 9 rfl) ?_
        refine lv_iload hx hb d_Bm_compress_254 (lv_at hl 6 rfl) ?_
        refine lv_bipush (v := 6) hx hb d_Bm_compress_256 (by decide) ?_
        refine va_calli (va_runS (As := [.int (mx (swn (sq1 sc bf fr 16) 48) st i 4), .int 6]) (rest := [.int (mx (swn (sq1 sc bf fr 16) 48) st i 7)]) ⟨hx, hb, hml, hown, hts⟩ (c_Bm_turn l H (mx (swn (sq1 sc bf fr 16) 48) st i 4) 6) (cwS 2 hts (gw_S gk_1082 gk_1083 gk_7 gk_1084) rfl rfl rfl (by decide +kernel) ⟨Nat.le_of_ble_eq_true rfl, Nat.le_of_ble_eq_true rfl⟩) ⟨fun a U g mk q => q, fun U hU hW => ⟨rfl, hU⟩⟩ rfl rfl hl.1 rfl (lv_room (Nat.le_of_ble_eq_true rfl)) d_Bm_compress_258 ⟨Nat.zero_le _, Nat.zero_le _⟩) hS (fun q _ h => h.elim) (fun q h => h.elim) (fun r_2 u9 t9 H1 locs ht hvm hw hB hz1 hk1 hS => ?_)
        obtain rfl : H = H1 := hB.symm.trans ht
        have hw : r_2 = tn (mx (swn (sq1 sc bf fr 16) 48) st i 4) 6 := hw
        subst hw
        refine lv_iload hx hb d_Bm_compress_261 (lv_at hl 6 rfl) ?_
        refine lv_bipush (v := 11) hx hb d_Bm_compress_263 (by decide) ?_
        refine va_calli (va_runS (As := [.int (mx (swn (sq1 sc bf fr 16) 48) st i 4), .int 11]) (rest := [.int (tn (mx (swn (sq1 sc bf fr 16) 48) st i 4) 6), .int (mx (swn (sq1 sc bf fr 16) 48) st i 7)]) ⟨hx, hb, hml, hown, hts⟩ (c_Bm_turn l H (mx (swn (sq1 sc bf fr 16) 48) st i 4) 11) (cwS 2 hts (gw_S gk_1082 gk_1083 gk_7 gk_1084) rfl rfl rfl (by decide +kernel) ⟨Nat.le_of_ble_eq_true rfl, Nat.le_of_ble_eq_true rfl⟩) ⟨fun a U g mk q => q, fun U hU hW => ⟨rfl, hU⟩⟩ rfl rfl hl.1 rfl (lv_room (Nat.le_of_ble_eq_true rfl)) d_Bm_compress_265 ⟨Nat.zero_le _, Nat.zero_le _⟩) hS (fun q _ h => h.elim) (fun q h => h.elim) (fun r_3 u9 t9 H1 locs ht hvm hw hB hz1 hk1 hS => ?_)
        obtain rfl : H = H1 := hB.symm.trans ht
        have hw : r_3 = tn (mx (swn (sq1 sc bf fr 16) 48) st i 4) 11 := hw
        subst hw
        refine lv_ixor hx hb d_Bm_compress_268 ?_
        refine lv_iload hx hb d_Bm_compress_269 (lv_at hl 6 rfl) ?_
        refine lv_bipush (v := 25) hx hb d_Bm_compress_271 (by decide) ?_
        refine va_calli (va_runS (As := [.int (mx (swn (sq1 sc bf fr 16) 48) st i 4), .int 25]) (rest := [.int ((tn (mx (swn (sq1 sc bf fr 16) 48) st i 4) 6) ^^^ (tn (mx (swn (sq1 sc bf fr 16) 48) st i 4) 11)), .int (mx (swn (sq1 sc bf fr 16) 48) st i 7)]) ⟨hx, hb, hml, hown, hts⟩ (c_Bm_turn l H (mx (swn (sq1 sc bf fr 16) 48) st i 4) 25) (cwS 2 hts (gw_S gk_1082 gk_1083 gk_7 gk_1084) rfl rfl rfl (by decide +kernel) ⟨Nat.le_of_ble_eq_true rfl, Nat.le_of_ble_eq_true rfl⟩) ⟨fun a U g mk q => q, fun U hU hW => ⟨rfl, hU⟩⟩ rfl rfl hl.1 rfl (lv_room (Nat.le_of_ble_eq_true rfl)) d_Bm_compress_273 ⟨Nat.zero_le _, Nat.zero_le _⟩) hS (fun q _ h => h.elim) (fun q h => h.elim) (fun r_4 u9 t9 H1 locs ht hvm hw hB hz1 hk1 hS => ?_)
        obtain rfl : H = H1 := hB.symm.trans ht
        have hw : r_4 = tn (mx (swn (sq1 sc bf fr 16) 48) st i 4) 25 := hw
        subst hw
        refine lv_ixor hx hb d_Bm_compress_276 ?_
        refine lv_iadd hx hb d_Bm_compress_277 ?_
        refine lv_iload hx hb d_Bm_compress_278 (lv_at hl 6 rfl) ?_
        refine lv_iload hx hb d_Bm_compress_280 (lv_at hl 7 rfl) ?_
        refine lv_iand hx hb d_Bm_compress_282 ?_
        refine lv_iload hx hb d_Bm_compress_283 (lv_at hl 6 rfl) ?_
        refine lv_iconst (v := (-1)) hx hb d_Bm_compress_285 (by decide) ?_
        refine lv_ixor hx hb d_Bm_compress_286 ?_
        refine lv_iload hx hb d_Bm_compress_287 (lv_at hl 8 rfl) ?_
        refine lv_iand hx hb d_Bm_compress_289 ?_
        refine lv_ixor hx hb d_Bm_compress_290 ?_
        refine lv_iadd hx hb d_Bm_compress_291 ?_
        refine lv_aload_n hx hb d_Bm_compress_292 rfl (lv_at hl 0 rfl) ?_
        refine va_get (D := (dC, dI)) (ci := 8) (v := .ref b1) (C := "BallotBoardModel") (T := F_Bm) (N := 28) hx hb hts (fun w9 h9 => List.mem_cons_of_mem _ (i_Bm w9 h9)) hown hK hP 0 rfl rfl 22 (by decide) (hts _ (List.mem_cons_of_mem _ gk_941)) (fun _ h9 => h9) rfl d_Bm_compress_293 ?_
        refine lv_iload hx hb d_Bm_compress_296 (lv_at hl 10 rfl) ?_
        refine va_iald hx hb hK hP 4 1 rfl rfl (vp_in_nI (by omega) (by omega)) d_Bm_compress_298 ?_
        rw [show (kR (nI i : Int32).toNatClampNeg : Int32) = kR i from by rw [nI_clamp (by omega)]]
        refine lv_iadd hx hb d_Bm_compress_299 ?_
        refine lv_aload_n hx hb d_Bm_compress_300 rfl (lv_at hl 0 rfl) ?_
        refine va_get (D := (dC, dI)) (ci := 8) (v := .ref a8) (C := "BallotBoardModel") (T := F_Bm) (N := 28) hx hb hts (fun w9 h9 => List.mem_cons_of_mem _ (i_Bm w9 h9)) hown hK hP 0 rfl rfl 19 (by decide) (hts _ (List.mem_cons_of_mem _ gk_938)) (fun _ h9 => h9) rfl d_Bm_compress_301 ?_
        refine lv_iload hx hb d_Bm_compress_304 (lv_at hl 10 rfl) ?_
        refine va_iald hx hb hK hP 2 1 rfl rfl (vp_in_nI (by omega) (by omega)) d_Bm_compress_306 ?_
        rw [show (swn (sq1 sc bf fr 16) 48 (nI i : Int32).toNatClampNeg : Int32) = (swn (sq1 sc bf fr 16) 48) i from by rw [nI_clamp (by omega)]]
        refine lv_iadd hx hb d_Bm_compress_307 ?_
        refine lv_istore (lv' := [(11, .int (((((mx (swn (sq1 sc bf fr 16) 48) st i 7) + (((tn (mx (swn (sq1 sc bf fr 16) 48) st i 4) 6) ^^^ (tn (mx (swn (sq1 sc bf fr 16) 48) st i 4) 11)) ^^^ (tn (mx (swn (sq1 sc bf fr 16) 48) st i 4) 25))) + (((mx (swn (sq1 sc bf fr 16) 48) st i 4) &&& (mx (swn (sq1 sc bf fr 16) 48) st i 5)) ^^^ (((mx (swn (sq1 sc bf fr 16) 48) st i 4) ^^^ (-1)) &&& (mx (swn (sq1 sc bf fr 16) 48) st i 6)))) + (kR i)) + ((swn (sq1 sc bf fr 16) 48) i))), (0, .ref m0), (1, .int (nI fr)), (2, .int (mx (swn (sq1 sc bf fr 16) 48) st i 0)), (3, .int (mx (swn (sq1 sc bf fr 16) 48) st i 1)), (4, .int (mx (swn (sq1 sc bf fr 16) 48) st i 2)), (5, .int (mx (swn (sq1 sc bf fr 16) 48) st i 3)), (6, .int (mx (swn (sq1 sc bf fr 16) 48) st i 4)), (7, .int (mx (swn (sq1 sc bf fr 16) 48) st i 5)), (8, .int (mx (swn (sq1 sc bf fr 16) 48) st i 6)), (9, .int (mx (swn (sq1 sc bf fr 16) 48) st i 7)), (10, .int (nI i))]) hx hb d_Bm_compress_308 hl (by decide) rfl (fun ls hl => ?_)
        refine lv_iload_n hx hb d_Bm_compress_310 rfl (lv_at hl 3 rfl) ?_
        refine lv_iconst (v := 2) hx hb d_Bm_compress_311 (by decide) ?_
        refine va_calli (va_runS (As := [.int (mx (swn (sq1 sc bf fr 16) 48) st i 0), .int 2]) (rest := []) ⟨hx, hb, hml, hown, hts⟩ (c_Bm_turn l H (mx (swn (sq1 sc bf fr 16) 48) st i 0) 2) (cwS 2 hts (gw_S gk_1082 gk_1083 gk_7 gk_1084) rfl rfl rfl (by decide +kernel) ⟨Nat.le_of_ble_eq_true rfl, Nat.le_of_ble_eq_true rfl⟩) ⟨fun a U g mk q => q, fun U hU hW => ⟨rfl, hU⟩⟩ rfl rfl hl.1 rfl (lv_room (Nat.le_of_ble_eq_true rfl)) d_Bm_compress_312 ⟨Nat.zero_le _, Nat.zero_le _⟩) hS (fun q _ h => h.elim) (fun q h => h.elim) (fun r_5 u9 t9 H1 locs ht hvm hw hB hz1 hk1 hS => ?_)
        obtain rfl : H = H1 := hB.symm.trans ht
        have hw : r_5 = tn (mx (swn (sq1 sc bf fr 16) 48) st i 0) 2 := hw
        subst hw
        refine lv_iload_n hx hb d_Bm_compress_315 rfl (lv_at hl 3 rfl) ?_
        refine lv_bipush (v := 13) hx hb d_Bm_compress_316 (by decide) ?_
        refine va_calli (va_runS (As := [.int (mx (swn (sq1 sc bf fr 16) 48) st i 0), .int 13]) (rest := [.int (tn (mx (swn (sq1 sc bf fr 16) 48) st i 0) 2)]) ⟨hx, hb, hml, hown, hts⟩ (c_Bm_turn l H (mx (swn (sq1 sc bf fr 16) 48) st i 0) 13) (cwS 2 hts (gw_S gk_1082 gk_1083 gk_7 gk_1084) rfl rfl rfl (by decide +kernel) ⟨Nat.le_of_ble_eq_true rfl, Nat.le_of_ble_eq_true rfl⟩) ⟨fun a U g mk q => q, fun U hU hW => ⟨rfl, hU⟩⟩ rfl rfl hl.1 rfl (lv_room (Nat.le_of_ble_eq_true rfl)) d_Bm_compress_318 ⟨Nat.zero_le _, Nat.zero_le _⟩) hS (fun q _ h => h.elim) (fun q h => h.elim) (fun r_6 u9 t9 H1 locs ht hvm hw hB hz1 hk1 hS => ?_)
        obtain rfl : H = H1 := hB.symm.trans ht
        have hw : r_6 = tn (mx (swn (sq1 sc bf fr 16) 48) st i 0) 13 := hw
        subst hw
        refine lv_ixor hx hb d_Bm_compress_321 ?_
        refine lv_iload_n hx hb d_Bm_compress_322 rfl (lv_at hl 3 rfl) ?_
        refine lv_bipush (v := 22) hx hb d_Bm_compress_323 (by decide) ?_
        refine va_calli (va_runS (As := [.int (mx (swn (sq1 sc bf fr 16) 48) st i 0), .int 22]) (rest := [.int ((tn (mx (swn (sq1 sc bf fr 16) 48) st i 0) 2) ^^^ (tn (mx (swn (sq1 sc bf fr 16) 48) st i 0) 13))]) ⟨hx, hb, hml, hown, hts⟩ (c_Bm_turn l H (mx (swn (sq1 sc bf fr 16) 48) st i 0) 22) (cwS 2 hts (gw_S gk_1082 gk_1083 gk_7 gk_1084) rfl rfl rfl (by decide +kernel) ⟨Nat.le_of_ble_eq_true rfl, Nat.le_of_ble_eq_true rfl⟩) ⟨fun a U g mk q => q, fun U hU hW => ⟨rfl, hU⟩⟩ rfl rfl hl.1 rfl (lv_room (Nat.le_of_ble_eq_true rfl)) d_Bm_compress_325 ⟨Nat.zero_le _, Nat.zero_le _⟩) hS (fun q _ h => h.elim) (fun q h => h.elim) (fun r_7 u9 t9 H1 locs ht hvm hw hB hz1 hk1 hS => ?_)
        obtain rfl : H = H1 := hB.symm.trans ht
        have hw : r_7 = tn (mx (swn (sq1 sc bf fr 16) 48) st i 0) 22 := hw
        subst hw
        refine lv_ixor hx hb d_Bm_compress_328 ?_
        refine lv_iload_n hx hb d_Bm_compress_329 rfl (lv_at hl 3 rfl) ?_
        refine lv_iload_n hx hb d_Bm_compress_330 rfl (lv_at hl 4 rfl) ?_
        refine lv_iand hx hb d_Bm_compress_331 ?_
        refine lv_iload_n hx hb d_Bm_compress_332 rfl (lv_at hl 3 rfl) ?_
        refine lv_iload hx hb d_Bm_compress_333 (lv_at hl 5 rfl) ?_
        refine lv_iand hx hb d_Bm_compress_335 ?_
        refine lv_ixor hx hb d_Bm_compress_336 ?_
        refine lv_iload_n hx hb d_Bm_compress_337 rfl (lv_at hl 4 rfl) ?_
        refine lv_iload hx hb d_Bm_compress_338 (lv_at hl 5 rfl) ?_
        refine lv_iand hx hb d_Bm_compress_340 ?_
        refine lv_ixor hx hb d_Bm_compress_341 ?_
        refine lv_iadd hx hb d_Bm_compress_342 ?_
        refine lv_istore (lv' := [(12, .int ((((tn (mx (swn (sq1 sc bf fr 16) 48) st i 0) 2) ^^^ (tn (mx (swn (sq1 sc bf fr 16) 48) st i 0) 13)) ^^^ (tn (mx (swn (sq1 sc bf fr 16) 48) st i 0) 22)) + ((((mx (swn (sq1 sc bf fr 16) 48) st i 0) &&& (mx (swn (sq1 sc bf fr 16) 48) st i 1)) ^^^ ((mx (swn (sq1 sc bf fr 16) 48) st i 0) &&& (mx (swn (sq1 sc bf fr 16) 48) st i 2))) ^^^ ((mx (swn (sq1 sc bf fr 16) 48) st i 1) &&& (mx (swn (sq1 sc bf fr 16) 48) st i 2))))), (11, .int (((((mx (swn (sq1 sc bf fr 16) 48) st i 7) + (((tn (mx (swn (sq1 sc bf fr 16) 48) st i 4) 6) ^^^ (tn (mx (swn (sq1 sc bf fr 16) 48) st i 4) 11)) ^^^ (tn (mx (swn (sq1 sc bf fr 16) 48) st i 4) 25))) + (((mx (swn (sq1 sc bf fr 16) 48) st i 4) &&& (mx (swn (sq1 sc bf fr 16) 48) st i 5)) ^^^ (((mx (swn (sq1 sc bf fr 16) 48) st i 4) ^^^ (-1)) &&& (mx (swn (sq1 sc bf fr 16) 48) st i 6)))) + (kR i)) + ((swn (sq1 sc bf fr 16) 48) i))), (0, .ref m0), (1, .int (nI fr)), (2, .int (mx (swn (sq1 sc bf fr 16) 48) st i 0)), (3, .int (mx (swn (sq1 sc bf fr 16) 48) st i 1)), (4, .int (mx (swn (sq1 sc bf fr 16) 48) st i 2)), (5, .int (mx (swn (sq1 sc bf fr 16) 48) st i 3)), (6, .int (mx (swn (sq1 sc bf fr 16) 48) st i 4)), (7, .int (mx (swn (sq1 sc bf fr 16) 48) st i 5)), (8, .int (mx (swn (sq1 sc bf fr 16) 48) st i 6)), (9, .int (mx (swn (sq1 sc bf fr 16) 48) st i 7)), (10, .int (nI i))]) hx hb d_Bm_compress_343 hl (by decide) rfl (fun ls hl => ?_)
        refine lv_iload hx hb d_Bm_compress_345 (lv_at hl 10 rfl) ?_
        refine lv_istore (lv' := [(9, .int (mx (swn (sq1 sc bf fr 16) 48) st i 6)), (12, .int ((((tn (mx (swn (sq1 sc bf fr 16) 48) st i 0) 2) ^^^ (tn (mx (swn (sq1 sc bf fr 16) 48) st i 0) 13)) ^^^ (tn (mx (swn (sq1 sc bf fr 16) 48) st i 0) 22)) + ((((mx (swn (sq1 sc bf fr 16) 48) st i 0) &&& (mx (swn (sq1 sc bf fr 16) 48) st i 1)) ^^^ ((mx (swn (sq1 sc bf fr 16) 48) st i 0) &&& (mx (swn (sq1 sc bf fr 16) 48) st i 2))) ^^^ ((mx (swn (sq1 sc bf fr 16) 48) st i 1) &&& (mx (swn (sq1 sc bf fr 16) 48) st i 2))))), (11, .int (((((mx (swn (sq1 sc bf fr 16) 48) st i 7) + (((tn (mx (swn (sq1 sc bf fr 16) 48) st i 4) 6) ^^^ (tn (mx (swn (sq1 sc bf fr 16) 48) st i 4) 11)) ^^^ (tn (mx (swn (sq1 sc bf fr 16) 48) st i 4) 25))) + (((mx (swn (sq1 sc bf fr 16) 48) st i 4) &&& (mx (swn (sq1 sc bf fr 16) 48) st i 5)) ^^^ (((mx (swn (sq1 sc bf fr 16) 48) st i 4) ^^^ (-1)) &&& (mx (swn (sq1 sc bf fr 16) 48) st i 6)))) + (kR i)) + ((swn (sq1 sc bf fr 16) 48) i))), (0, .ref m0), (1, .int (nI fr)), (2, .int (mx (swn (sq1 sc bf fr 16) 48) st i 0)), (3, .int (mx (swn (sq1 sc bf fr 16) 48) st i 1)), (4, .int (mx (swn (sq1 sc bf fr 16) 48) st i 2)), (5, .int (mx (swn (sq1 sc bf fr 16) 48) st i 3)), (6, .int (mx (swn (sq1 sc bf fr 16) 48) st i 4)), (7, .int (mx (swn (sq1 sc bf fr 16) 48) st i 5)), (8, .int (mx (swn (sq1 sc bf fr 16) 48) st i 6)), (10, .int (nI i))]) hx hb d_Bm_compress_347 hl (by decide) rfl (fun ls hl => ?_)
        refine lv_iload hx hb d_Bm_compress_349 (lv_at hl 10 rfl) ?_
        refine lv_istore (lv' := [(8, .int (mx (swn (sq1 sc bf fr 16) 48) st i 5)), (9, .int (mx (swn (sq1 sc bf fr 16) 48) st i 6)), (12, .int ((((tn (mx (swn (sq1 sc bf fr 16) 48) st i 0) 2) ^^^ (tn (mx (swn (sq1 sc bf fr 16) 48) st i 0) 13)) ^^^ (tn (mx (swn (sq1 sc bf fr 16) 48) st i 0) 22)) + ((((mx (swn (sq1 sc bf fr 16) 48) st i 0) &&& (mx (swn (sq1 sc bf fr 16) 48) st i 1)) ^^^ ((mx (swn (sq1 sc bf fr 16) 48) st i 0) &&& (mx (swn (sq1 sc bf fr 16) 48) st i 2))) ^^^ ((mx (swn (sq1 sc bf fr 16) 48) st i 1) &&& (mx (swn (sq1 sc bf fr 16) 48) st i 2))))), (11, .int (((((mx (swn (sq1 sc bf fr 16) 48) st i 7) + (((tn (mx (swn (sq1 sc bf fr 16) 48) st i 4) 6) ^^^ (tn (mx (swn (sq1 sc bf fr 16) 48) st i 4) 11)) ^^^ (tn (mx (swn (sq1 sc bf fr 16) 48) st i 4) 25))) + (((mx (swn (sq1 sc bf fr 16) 48) st i 4) &&& (mx (swn (sq1 sc bf fr 16) 48) st i 5)) ^^^ (((mx (swn (sq1 sc bf fr 16) 48) st i 4) ^^^ (-1)) &&& (mx (swn (sq1 sc bf fr 16) 48) st i 6)))) + (kR i)) + ((swn (sq1 sc bf fr 16) 48) i))), (0, .ref m0), (1, .int (nI fr)), (2, .int (mx (swn (sq1 sc bf fr 16) 48) st i 0)), (3, .int (mx (swn (sq1 sc bf fr 16) 48) st i 1)), (4, .int (mx (swn (sq1 sc bf fr 16) 48) st i 2)), (5, .int (mx (swn (sq1 sc bf fr 16) 48) st i 3)), (6, .int (mx (swn (sq1 sc bf fr 16) 48) st i 4)), (7, .int (mx (swn (sq1 sc bf fr 16) 48) st i 5)), (10, .int (nI i))]) hx hb d_Bm_compress_351 hl (by decide) rfl (fun ls hl => ?_)
        refine lv_iload hx hb d_Bm_compress_353 (lv_at hl 10 rfl) ?_
        refine lv_istore (lv' := [(7, .int (mx (swn (sq1 sc bf fr 16) 48) st i 4)), (8, .int (mx (swn (sq1 sc bf fr 16) 48) st i 5)), (9, .int (mx (swn (sq1 sc bf fr 16) 48) st i 6)), (12, .int ((((tn (mx (swn (sq1 sc bf fr 16) 48) st i 0) 2) ^^^ (tn (mx (swn (sq1 sc bf fr 16) 48) st i 0) 13)) ^^^ (tn (mx (swn (sq1 sc bf fr 16) 48) st i 0) 22)) + ((((mx (swn (sq1 sc bf fr 16) 48) st i 0) &&& (mx (swn (sq1 sc bf fr 16) 48) st i 1)) ^^^ ((mx (swn (sq1 sc bf fr 16) 48) st i 0) &&& (mx (swn (sq1 sc bf fr 16) 48) st i 2))) ^^^ ((mx (swn (sq1 sc bf fr 16) 48) st i 1) &&& (mx (swn (sq1 sc bf fr 16) 48) st i 2))))), (11, .int (((((mx (swn (sq1 sc bf fr 16) 48) st i 7) + (((tn (mx (swn (sq1 sc bf fr 16) 48) st i 4) 6) ^^^ (tn (mx (swn (sq1 sc bf fr 16) 48) st i 4) 11)) ^^^ (tn (mx (swn (sq1 sc bf fr 16) 48) st i 4) 25))) + (((mx (swn (sq1 sc bf fr 16) 48) st i 4) &&& (mx (swn (sq1 sc bf fr 16) 48) st i 5)) ^^^ (((mx (swn (sq1 sc bf fr 16) 48) st i 4) ^^^ (-1)) &&& (mx (swn (sq1 sc bf fr 16) 48) st i 6)))) + (kR i)) + ((swn (sq1 sc bf fr 16) 48) i))), (0, .ref m0), (1, .int (nI fr)), (2, .int (mx (swn (sq1 sc bf fr 16) 48) st i 0)), (3, .int (mx (swn (sq1 sc bf fr 16) 48) st i 1)), (4, .int (mx (swn (sq1 sc bf fr 16) 48) st i 2)), (5, .int (mx (swn (sq1 sc bf fr 16) 48) st i 3)), (6, .int (mx (swn (sq1 sc bf fr 16) 48) st i 4)), (10, .int (nI i))]) hx hb d_Bm_compress_355 hl (by decide) rfl (fun ls hl => ?_)
        refine lv_iload hx hb d_Bm_compress_357 (lv_at hl 10 rfl) ?_
        refine lv_iload hx hb d_Bm_compress_359 (lv_at hl 4 rfl) ?_
        refine lv_iadd hx hb d_Bm_compress_361 ?_
        refine lv_istore (lv' := [(6, .int ((mx (swn (sq1 sc bf fr 16) 48) st i 3) + (((((mx (swn (sq1 sc bf fr 16) 48) st i 7) + (((tn (mx (swn (sq1 sc bf fr 16) 48) st i 4) 6) ^^^ (tn (mx (swn (sq1 sc bf fr 16) 48) st i 4) 11)) ^^^ (tn (mx (swn (sq1 sc bf fr 16) 48) st i 4) 25))) + (((mx (swn (sq1 sc bf fr 16) 48) st i 4) &&& (mx (swn (sq1 sc bf fr 16) 48) st i 5)) ^^^ (((mx (swn (sq1 sc bf fr 16) 48) st i 4) ^^^ (-1)) &&& (mx (swn (sq1 sc bf fr 16) 48) st i 6)))) + (kR i)) + ((swn (sq1 sc bf fr 16) 48) i)))), (7, .int (mx (swn (sq1 sc bf fr 16) 48) st i 4)), (8, .int (mx (swn (sq1 sc bf fr 16) 48) st i 5)), (9, .int (mx (swn (sq1 sc bf fr 16) 48) st i 6)), (12, .int ((((tn (mx (swn (sq1 sc bf fr 16) 48) st i 0) 2) ^^^ (tn (mx (swn (sq1 sc bf fr 16) 48) st i 0) 13)) ^^^ (tn (mx (swn (sq1 sc bf fr 16) 48) st i 0) 22)) + ((((mx (swn (sq1 sc bf fr 16) 48) st i 0) &&& (mx (swn (sq1 sc bf fr 16) 48) st i 1)) ^^^ ((mx (swn (sq1 sc bf fr 16) 48) st i 0) &&& (mx (swn (sq1 sc bf fr 16) 48) st i 2))) ^^^ ((mx (swn (sq1 sc bf fr 16) 48) st i 1) &&& (mx (swn (sq1 sc bf fr 16) 48) st i 2))))), (11, .int (((((mx (swn (sq1 sc bf fr 16) 48) st i 7) + (((tn (mx (swn (sq1 sc bf fr 16) 48) st i 4) 6) ^^^ (tn (mx (swn (sq1 sc bf fr 16) 48) st i 4) 11)) ^^^ (tn (mx (swn (sq1 sc bf fr 16) 48) st i 4) 25))) + (((mx (swn (sq1 sc bf fr 16) 48) st i 4) &&& (mx (swn (sq1 sc bf fr 16) 48) st i 5)) ^^^ (((mx (swn (sq1 sc bf fr 16) 48) st i 4) ^^^ (-1)) &&& (mx (swn (sq1 sc bf fr 16) 48) st i 6)))) + (kR i)) + ((swn (sq1 sc bf fr 16) 48) i))), (0, .ref m0), (1, .int (nI fr)), (2, .int (mx (swn (sq1 sc bf fr 16) 48) st i 0)), (3, .int (mx (swn (sq1 sc bf fr 16) 48) st i 1)), (4, .int (mx (swn (sq1 sc bf fr 16) 48) st i 2)), (5, .int (mx (swn (sq1 sc bf fr 16) 48) st i 3)), (10, .int (nI i))]) hx hb d_Bm_compress_362 hl (by decide) rfl (fun ls hl => ?_)
        refine lv_iload hx hb d_Bm_compress_364 (lv_at hl 10 rfl) ?_
        refine lv_istore (lv' := [(5, .int (mx (swn (sq1 sc bf fr 16) 48) st i 2)), (6, .int ((mx (swn (sq1 sc bf fr 16) 48) st i 3) + (((((mx (swn (sq1 sc bf fr 16) 48) st i 7) + (((tn (mx (swn (sq1 sc bf fr 16) 48) st i 4) 6) ^^^ (tn (mx (swn (sq1 sc bf fr 16) 48) st i 4) 11)) ^^^ (tn (mx (swn (sq1 sc bf fr 16) 48) st i 4) 25))) + (((mx (swn (sq1 sc bf fr 16) 48) st i 4) &&& (mx (swn (sq1 sc bf fr 16) 48) st i 5)) ^^^ (((mx (swn (sq1 sc bf fr 16) 48) st i 4) ^^^ (-1)) &&& (mx (swn (sq1 sc bf fr 16) 48) st i 6)))) + (kR i)) + ((swn (sq1 sc bf fr 16) 48) i)))), (7, .int (mx (swn (sq1 sc bf fr 16) 48) st i 4)), (8, .int (mx (swn (sq1 sc bf fr 16) 48) st i 5)), (9, .int (mx (swn (sq1 sc bf fr 16) 48) st i 6)), (12, .int ((((tn (mx (swn (sq1 sc bf fr 16) 48) st i 0) 2) ^^^ (tn (mx (swn (sq1 sc bf fr 16) 48) st i 0) 13)) ^^^ (tn (mx (swn (sq1 sc bf fr 16) 48) st i 0) 22)) + ((((mx (swn (sq1 sc bf fr 16) 48) st i 0) &&& (mx (swn (sq1 sc bf fr 16) 48) st i 1)) ^^^ ((mx (swn (sq1 sc bf fr 16) 48) st i 0) &&& (mx (swn (sq1 sc bf fr 16) 48) st i 2))) ^^^ ((mx (swn (sq1 sc bf fr 16) 48) st i 1) &&& (mx (swn (sq1 sc bf fr 16) 48) st i 2))))), (11, .int (((((mx (swn (sq1 sc bf fr 16) 48) st i 7) + (((tn (mx (swn (sq1 sc bf fr 16) 48) st i 4) 6) ^^^ (tn (mx (swn (sq1 sc bf fr 16) 48) st i 4) 11)) ^^^ (tn (mx (swn (sq1 sc bf fr 16) 48) st i 4) 25))) + (((mx (swn (sq1 sc bf fr 16) 48) st i 4) &&& (mx (swn (sq1 sc bf fr 16) 48) st i 5)) ^^^ (((mx (swn (sq1 sc bf fr 16) 48) st i 4) ^^^ (-1)) &&& (mx (swn (sq1 sc bf fr 16) 48) st i 6)))) + (kR i)) + ((swn (sq1 sc bf fr 16) 48) i))), (0, .ref m0), (1, .int (nI fr)), (2, .int (mx (swn (sq1 sc bf fr 16) 48) st i 0)), (3, .int (mx (swn (sq1 sc bf fr 16) 48) st i 1)), (4, .int (mx (swn (sq1 sc bf fr 16) 48) st i 2)), (10, .int (nI i))]) hx hb d_Bm_compress_366 hl (by decide) rfl (fun ls hl => ?_)
        refine lv_iload_n hx hb d_Bm_compress_368 rfl (lv_at hl 10 rfl) ?_
        refine lv_istore (lv' := [(4, .int (mx (swn (sq1 sc bf fr 16) 48) st i 1)), (5, .int (mx (swn (sq1 sc bf fr 16) 48) st i 2)), (6, .int ((mx (swn (sq1 sc bf fr 16) 48) st i 3) + (((((mx (swn (sq1 sc bf fr 16) 48) st i 7) + (((tn (mx (swn (sq1 sc bf fr 16) 48) st i 4) 6) ^^^ (tn (mx (swn (sq1 sc bf fr 16) 48) st i 4) 11)) ^^^ (tn (mx (swn (sq1 sc bf fr 16) 48) st i 4) 25))) + (((mx (swn (sq1 sc bf fr 16) 48) st i 4) &&& (mx (swn (sq1 sc bf fr 16) 48) st i 5)) ^^^ (((mx (swn (sq1 sc bf fr 16) 48) st i 4) ^^^ (-1)) &&& (mx (swn (sq1 sc bf fr 16) 48) st i 6)))) + (kR i)) + ((swn (sq1 sc bf fr 16) 48) i)))), (7, .int (mx (swn (sq1 sc bf fr 16) 48) st i 4)), (8, .int (mx (swn (sq1 sc bf fr 16) 48) st i 5)), (9, .int (mx (swn (sq1 sc bf fr 16) 48) st i 6)), (12, .int ((((tn (mx (swn (sq1 sc bf fr 16) 48) st i 0) 2) ^^^ (tn (mx (swn (sq1 sc bf fr 16) 48) st i 0) 13)) ^^^ (tn (mx (swn (sq1 sc bf fr 16) 48) st i 0) 22)) + ((((mx (swn (sq1 sc bf fr 16) 48) st i 0) &&& (mx (swn (sq1 sc bf fr 16) 48) st i 1)) ^^^ ((mx (swn (sq1 sc bf fr 16) 48) st i 0) &&& (mx (swn (sq1 sc bf fr 16) 48) st i 2))) ^^^ ((mx (swn (sq1 sc bf fr 16) 48) st i 1) &&& (mx (swn (sq1 sc bf fr 16) 48) st i 2))))), (11, .int (((((mx (swn (sq1 sc bf fr 16) 48) st i 7) + (((tn (mx (swn (sq1 sc bf fr 16) 48) st i 4) 6) ^^^ (tn (mx (swn (sq1 sc bf fr 16) 48) st i 4) 11)) ^^^ (tn (mx (swn (sq1 sc bf fr 16) 48) st i 4) 25))) + (((mx (swn (sq1 sc bf fr 16) 48) st i 4) &&& (mx (swn (sq1 sc bf fr 16) 48) st i 5)) ^^^ (((mx (swn (sq1 sc bf fr 16) 48) st i 4) ^^^ (-1)) &&& (mx (swn (sq1 sc bf fr 16) 48) st i 6)))) + (kR i)) + ((swn (sq1 sc bf fr 16) 48) i))), (0, .ref m0), (1, .int (nI fr)), (2, .int (mx (swn (sq1 sc bf fr 16) 48) st i 0)), (3, .int (mx (swn (sq1 sc bf fr 16) 48) st i 1)), (10, .int (nI i))]) hx hb d_Bm_compress_369 hl (by decide) rfl (fun ls hl => ?_)
        refine lv_iload_n hx hb d_Bm_compress_371 rfl (lv_at hl 10 rfl) ?_
        refine lv_istore_n (lv' := [(3, .int (mx (swn (sq1 sc bf fr 16) 48) st i 0)), (4, .int (mx (swn (sq1 sc bf fr 16) 48) st i 1)), (5, .int (mx (swn (sq1 sc bf fr 16) 48) st i 2)), (6, .int ((mx (swn (sq1 sc bf fr 16) 48) st i 3) + (((((mx (swn (sq1 sc bf fr 16) 48) st i 7) + (((tn (mx (swn (sq1 sc bf fr 16) 48) st i 4) 6) ^^^ (tn (mx (swn (sq1 sc bf fr 16) 48) st i 4) 11)) ^^^ (tn (mx (swn (sq1 sc bf fr 16) 48) st i 4) 25))) + (((mx (swn (sq1 sc bf fr 16) 48) st i 4) &&& (mx (swn (sq1 sc bf fr 16) 48) st i 5)) ^^^ (((mx (swn (sq1 sc bf fr 16) 48) st i 4) ^^^ (-1)) &&& (mx (swn (sq1 sc bf fr 16) 48) st i 6)))) + (kR i)) + ((swn (sq1 sc bf fr 16) 48) i)))), (7, .int (mx (swn (sq1 sc bf fr 16) 48) st i 4)), (8, .int (mx (swn (sq1 sc bf fr 16) 48) st i 5)), (9, .int (mx (swn (sq1 sc bf fr 16) 48) st i 6)), (12, .int ((((tn (mx (swn (sq1 sc bf fr 16) 48) st i 0) 2) ^^^ (tn (mx (swn (sq1 sc bf fr 16) 48) st i 0) 13)) ^^^ (tn (mx (swn (sq1 sc bf fr 16) 48) st i 0) 22)) + ((((mx (swn (sq1 sc bf fr 16) 48) st i 0) &&& (mx (swn (sq1 sc bf fr 16) 48) st i 1)) ^^^ ((mx (swn (sq1 sc bf fr 16) 48) st i 0) &&& (mx (swn (sq1 sc bf fr 16) 48) st i 2))) ^^^ ((mx (swn (sq1 sc bf fr 16) 48) st i 1) &&& (mx (swn (sq1 sc bf fr 16) 48) st i 2))))), (11, .int (((((mx (swn (sq1 sc bf fr 16) 48) st i 7) + (((tn (mx (swn (sq1 sc bf fr 16) 48) st i 4) 6) ^^^ (tn (mx (swn (sq1 sc bf fr 16) 48) st i 4) 11)) ^^^ (tn (mx (swn (sq1 sc bf fr 16) 48) st i 4) 25))) + (((mx (swn (sq1 sc bf fr 16) 48) st i 4) &&& (mx (swn (sq1 sc bf fr 16) 48) st i 5)) ^^^ (((mx (swn (sq1 sc bf fr 16) 48) st i 4) ^^^ (-1)) &&& (mx (swn (sq1 sc bf fr 16) 48) st i 6)))) + (kR i)) + ((swn (sq1 sc bf fr 16) 48) i))), (0, .ref m0), (1, .int (nI fr)), (2, .int (mx (swn (sq1 sc bf fr 16) 48) st i 0)), (10, .int (nI i))]) hx hb d_Bm_compress_372 rfl hl (by decide) rfl (fun ls hl => ?_)
        refine lv_iload hx hb d_Bm_compress_373 (lv_at hl 8 rfl) ?_
        refine lv_iload hx hb d_Bm_compress_375 (lv_at hl 7 rfl) ?_
        refine lv_iadd hx hb d_Bm_compress_377 ?_
        refine lv_istore_n (lv' := [(2, .int ((((((mx (swn (sq1 sc bf fr 16) 48) st i 7) + (((tn (mx (swn (sq1 sc bf fr 16) 48) st i 4) 6) ^^^ (tn (mx (swn (sq1 sc bf fr 16) 48) st i 4) 11)) ^^^ (tn (mx (swn (sq1 sc bf fr 16) 48) st i 4) 25))) + (((mx (swn (sq1 sc bf fr 16) 48) st i 4) &&& (mx (swn (sq1 sc bf fr 16) 48) st i 5)) ^^^ (((mx (swn (sq1 sc bf fr 16) 48) st i 4) ^^^ (-1)) &&& (mx (swn (sq1 sc bf fr 16) 48) st i 6)))) + (kR i)) + ((swn (sq1 sc bf fr 16) 48) i)) + ((((tn (mx (swn (sq1 sc bf fr 16) 48) st i 0) 2) ^^^ (tn (mx (swn (sq1 sc bf fr 16) 48) st i 0) 13)) ^^^ (tn (mx (swn (sq1 sc bf fr 16) 48) st i 0) 22)) + ((((mx (swn (sq1 sc bf fr 16) 48) st i 0) &&& (mx (swn (sq1 sc bf fr 16) 48) st i 1)) ^^^ ((mx (swn (sq1 sc bf fr 16) 48) st i 0) &&& (mx (swn (sq1 sc bf fr 16) 48) st i 2))) ^^^ ((mx (swn (sq1 sc bf fr 16) 48) st i 1) &&& (mx (swn (sq1 sc bf fr 16) 48) st i 2)))))), (3, .int (mx (swn (sq1 sc bf fr 16) 48) st i 0)), (4, .int (mx (swn (sq1 sc bf fr 16) 48) st i 1)), (5, .int (mx (swn (sq1 sc bf fr 16) 48) st i 2)), (6, .int ((mx (swn (sq1 sc bf fr 16) 48) st i 3) + (((((mx (swn (sq1 sc bf fr 16) 48) st i 7) + (((tn (mx (swn (sq1 sc bf fr 16) 48) st i 4) 6) ^^^ (tn (mx (swn (sq1 sc bf fr 16) 48) st i 4) 11)) ^^^ (tn (mx (swn (sq1 sc bf fr 16) 48) st i 4) 25))) + (((mx (swn (sq1 sc bf fr 16) 48) st i 4) &&& (mx (swn (sq1 sc bf fr 16) 48) st i 5)) ^^^ (((mx (swn (sq1 sc bf fr 16) 48) st i 4) ^^^ (-1)) &&& (mx (swn (sq1 sc bf fr 16) 48) st i 6)))) + (kR i)) + ((swn (sq1 sc bf fr 16) 48) i)))), (7, .int (mx (swn (sq1 sc bf fr 16) 48) st i 4)), (8, .int (mx (swn (sq1 sc bf fr 16) 48) st i 5)), (9, .int (mx (swn (sq1 sc bf fr 16) 48) st i 6)), (12, .int ((((tn (mx (swn (sq1 sc bf fr 16) 48) st i 0) 2) ^^^ (tn (mx (swn (sq1 sc bf fr 16) 48) st i 0) 13)) ^^^ (tn (mx (swn (sq1 sc bf fr 16) 48) st i 0) 22)) + ((((mx (swn (sq1 sc bf fr 16) 48) st i 0) &&& (mx (swn (sq1 sc bf fr 16) 48) st i 1)) ^^^ ((mx (swn (sq1 sc bf fr 16) 48) st i 0) &&& (mx (swn (sq1 sc bf fr 16) 48) st i 2))) ^^^ ((mx (swn (sq1 sc bf fr 16) 48) st i 1) &&& (mx (swn (sq1 sc bf fr 16) 48) st i 2))))), (11, .int (((((mx (swn (sq1 sc bf fr 16) 48) st i 7) + (((tn (mx (swn (sq1 sc bf fr 16) 48) st i 4) 6) ^^^ (tn (mx (swn (sq1 sc bf fr 16) 48) st i 4) 11)) ^^^ (tn (mx (swn (sq1 sc bf fr 16) 48) st i 4) 25))) + (((mx (swn (sq1 sc bf fr 16) 48) st i 4) &&& (mx (swn (sq1 sc bf fr 16) 48) st i 5)) ^^^ (((mx (swn (sq1 sc bf fr 16) 48) st i 4) ^^^ (-1)) &&& (mx (swn (sq1 sc bf fr 16) 48) st i 6)))) + (kR i)) + ((swn (sq1 sc bf fr 16) 48) i))), (0, .ref m0), (1, .int (nI fr)), (10, .int (nI i))]) hx hb d_Bm_compress_378 rfl hl (by decide) rfl (fun ls hl => ?_)
        obtain ⟨i_8, ei_8⟩ : ∃ y : Int32, y = (nI i) + 1 := ⟨_, rfl⟩
        refine lv_iinc (v := i_8) (lv' := [(10, .int i_8), (2, .int ((((((mx (swn (sq1 sc bf fr 16) 48) st i 7) + (((tn (mx (swn (sq1 sc bf fr 16) 48) st i 4) 6) ^^^ (tn (mx (swn (sq1 sc bf fr 16) 48) st i 4) 11)) ^^^ (tn (mx (swn (sq1 sc bf fr 16) 48) st i 4) 25))) + (((mx (swn (sq1 sc bf fr 16) 48) st i 4) &&& (mx (swn (sq1 sc bf fr 16) 48) st i 5)) ^^^ (((mx (swn (sq1 sc bf fr 16) 48) st i 4) ^^^ (-1)) &&& (mx (swn (sq1 sc bf fr 16) 48) st i 6)))) + (kR i)) + ((swn (sq1 sc bf fr 16) 48) i)) + ((((tn (mx (swn (sq1 sc bf fr 16) 48) st i 0) 2) ^^^ (tn (mx (swn (sq1 sc bf fr 16) 48) st i 0) 13)) ^^^ (tn (mx (swn (sq1 sc bf fr 16) 48) st i 0) 22)) + ((((mx (swn (sq1 sc bf fr 16) 48) st i 0) &&& (mx (swn (sq1 sc bf fr 16) 48) st i 1)) ^^^ ((mx (swn (sq1 sc bf fr 16) 48) st i 0) &&& (mx (swn (sq1 sc bf fr 16) 48) st i 2))) ^^^ ((mx (swn (sq1 sc bf fr 16) 48) st i 1) &&& (mx (swn (sq1 sc bf fr 16) 48) st i 2)))))), (3, .int (mx (swn (sq1 sc bf fr 16) 48) st i 0)), (4, .int (mx (swn (sq1 sc bf fr 16) 48) st i 1)), (5, .int (mx (swn (sq1 sc bf fr 16) 48) st i 2)), (6, .int ((mx (swn (sq1 sc bf fr 16) 48) st i 3) + (((((mx (swn (sq1 sc bf fr 16) 48) st i 7) + (((tn (mx (swn (sq1 sc bf fr 16) 48) st i 4) 6) ^^^ (tn (mx (swn (sq1 sc bf fr 16) 48) st i 4) 11)) ^^^ (tn (mx (swn (sq1 sc bf fr 16) 48) st i 4) 25))) + (((mx (swn (sq1 sc bf fr 16) 48) st i 4) &&& (mx (swn (sq1 sc bf fr 16) 48) st i 5)) ^^^ (((mx (swn (sq1 sc bf fr 16) 48) st i 4) ^^^ (-1)) &&& (mx (swn (sq1 sc bf fr 16) 48) st i 6)))) + (kR i)) + ((swn (sq1 sc bf fr 16) 48) i)))), (7, .int (mx (swn (sq1 sc bf fr 16) 48) st i 4)), (8, .int (mx (swn (sq1 sc bf fr 16) 48) st i 5)), (9, .int (mx (swn (sq1 sc bf fr 16) 48) st i 6)), (12, .int ((((tn (mx (swn (sq1 sc bf fr 16) 48) st i 0) 2) ^^^ (tn (mx (swn (sq1 sc bf fr 16) 48) st i 0) 13)) ^^^ (tn (mx (swn (sq1 sc bf fr 16) 48) st i 0) 22)) + ((((mx (swn (sq1 sc bf fr 16) 48) st i 0) &&& (mx (swn (sq1 sc bf fr 16) 48) st i 1)) ^^^ ((mx (swn (sq1 sc bf fr 16) 48) st i 0) &&& (mx (swn (sq1 sc bf fr 16) 48) st i 2))) ^^^ ((mx (swn (sq1 sc bf fr 16) 48) st i 1) &&& (mx (swn (sq1 sc bf fr 16) 48) st i 2))))), (11, .int (((((mx (swn (sq1 sc bf fr 16) 48) st i 7) + (((tn (mx (swn (sq1 sc bf fr 16) 48) st i 4) 6) ^^^ (tn (mx (swn (sq1 sc bf fr 16) 48) st i 4) 11)) ^^^ (tn (mx (swn (sq1 sc bf fr 16) 48) st i 4) 25))) + (((mx (swn (sq1 sc bf fr 16) 48) st i 4) &&& (mx (swn (sq1 sc bf fr 16) 48) st i 5)) ^^^ (((mx (swn (sq1 sc bf fr 16) 48) st i 4) ^^^ (-1)) &&& (mx (swn (sq1 sc bf fr 16) 48) st i 6)))) + (kR i)) + ((swn (sq1 sc bf fr 16) 48) i))), (0, .ref m0), (1, .int (nI fr))]) hx hb d_Bm_compress_379 hl (k := 12) rfl (by rw [ei_8]; rfl) (by decide) rfl (fun ls hl => ?_)
        obtain rfl : i_8 = nI (i + 1) := by rw [ei_8]; exact nI_1 i
        refine lv_goto (tgt := 245) hx hb d_Bm_compress_382 (by decide) ?_
        exact ih (j - 1) (by omega) (i + 1) (by omega) H locs hS hP hD ls (lv_sub hl [11, 12, 1, 2, 3, 4, 5, 6, 7, 8, 0] rfl)
  have loop2 : ∀ (j n : Nat), n + j = 48 → ∀ (H : Heap) (locs : List Loc), va_S A s.heap H locs → va_P (dC, dI) classes (mo_ws m0 z0 z1 z2 z3 z4 z5 z6 z7 z8 z9 z10 a0 a1 a2 a3 a4 a5 a6 a7 a8 a9 b0 b1 oc b2 b3 b4 b5 ++ (iw_ws a7 cI 256 bf ++ (iw_ws a8 cI 64 (swn (sq1 sc bf fr 16) n) ++ (iw_ws a9 cI 8 st ++ (iw_ws b1 cI 64 kR))))) H → va_D A (mo_ws m0 z0 z1 z2 z3 z4 z5 z6 z7 z8 z9 z10 a0 a1 a2 a3 a4 a5 a6 a7 a8 a9 b0 b1 oc b2 b3 b4 b5 ++ (iw_ws a7 cI 256 bf ++ (iw_ws a8 cI 64 (swn (sq1 sc bf fr 16) n) ++ (iw_ws a9 cI 8 st ++ (iw_ws b1 cI 64 kR))))) → ∀ (ls : Array Slot), lv_has ls 13 [(0, .ref m0), (1, .int (nI fr)), (2, .int (nI (16 + n)))] → W p l e ({ frames := 1, cells := 0, slots := 0, locals := 21 } : Room) s m ([.ref m0, .int (nI fr)] : List Value).toArray below meth c H locs 0 0 (MQ below (va_Qv (fun _ : Unit => True) (fun _ t => va_P (dC, dI) classes (mo_ws m0 z0 z1 z2 z3 z4 z5 z6 z7 z8 z9 z10 a0 a1 a2 a3 a4 a5 a6 a7 a8 a9 b0 b1 oc b2 b3 b4 b5 ++ (iw_ws a7 cI 256 bf ++ (iw_ws a8 cI 64 (swn (sq1 sc bf fr 16) 48) ++ (iw_ws a9 cI 8 (mxa (swn (sq1 sc bf fr 16) 48) st 8) ++ (iw_ws b1 cI 64 kR))))) t.heap ∧ va_K (dC, dI) classes [(cJ, .long), (cI, .int)] t ∧ va_D A (mo_ws m0 z0 z1 z2 z3 z4 z5 z6 z7 z8 z9 z10 a0 a1 a2 a3 a4 a5 a6 a7 a8 a9 b0 b1 oc b2 b3 b4 b5 ++ (iw_ws a7 cI 256 bf ++ (iw_ws a8 cI 64 (swn (sq1 sc bf fr 16) 48) ++ (iw_ws a9 cI 8 (mxa (swn (sq1 sc bf fr 16) 48) st 8) ++ (iw_ws b1 cI 64 kR)))))) A) ([.ref m0, .int (nI fr)] : List Value).toArray s 0 0 A) (F0 m 81 ls []) := by
    intro j
    induction j using Nat.strongRecOn with
    | ind j ih =>
      intro n hnj H locs hS hP hD ls hl
      refine lv_iload_n hx hb d_Bm_compress_81 rfl (lv_at hl 2 rfl) ?_
      refine lv_bipush (v := 64) hx hb d_Bm_compress_82 (by decide) ?_
      refine lv_icmp_ge (tgt := 178) hx hb d_Bm_compress_84 (by decide) (fun c_1 => ?_) (fun c_1 => ?_)
      · -- taken
        have hn48 : n = 48 := by
          have := (ige 64 (by omega) (by omega) rfl).mp c_1
          omega
        subst hn48
        refine lv_aload_n hx hb d_Bm_compress_178 rfl (lv_at hl 0 rfl) ?_
        refine va_get (D := (dC, dI)) (ci := 8) (v := .ref a9) (C := "BallotBoardModel") (T := F_Bm) (N := 28) hx hb hts (fun w9 h9 => List.mem_cons_of_mem _ (i_Bm w9 h9)) hown hK hP 0 rfl rfl 20 (by decide) (hts _ (List.mem_cons_of_mem _ gk_939)) (fun _ h9 => h9) rfl d_Bm_compress_179 ?_
        refine lv_iconst (v := 0) hx hb d_Bm_compress_182 (by decide) ?_
        refine va_iald hx hb hK hP 3 1 rfl rfl (vp_lit rfl) d_Bm_compress_183 ?_
        rw [show (st (0 : Int32).toNatClampNeg : Int32) = st 0 from rfl]
        refine lv_istore_n (lv' := [(2, .int (st 0)), (0, .ref m0), (1, .int (nI fr))]) hx hb d_Bm_compress_184 rfl hl (by decide) rfl (fun ls hl => ?_)
        refine lv_aload_n hx hb d_Bm_compress_185 rfl (lv_at hl 1 rfl) ?_
        refine va_get (D := (dC, dI)) (ci := 8) (v := .ref a9) (C := "BallotBoardModel") (T := F_Bm) (N := 28) hx hb hts (fun w9 h9 => List.mem_cons_of_mem _ (i_Bm w9 h9)) hown hK hP 0 rfl rfl 20 (by decide) (hts _ (List.mem_cons_of_mem _ gk_939)) (fun _ h9 => h9) rfl d_Bm_compress_186 ?_
        refine lv_iconst (v := 1) hx hb d_Bm_compress_189 (by decide) ?_
        refine va_iald hx hb hK hP 3 1 rfl rfl (vp_lit rfl) d_Bm_compress_190 ?_
        rw [show (st (1 : Int32).toNatClampNeg : Int32) = st 1 from rfl]
        refine lv_istore_n (lv' := [(3, .int (st 1)), (2, .int (st 0)), (0, .ref m0), (1, .int (nI fr))]) hx hb d_Bm_compress_191 rfl hl (by decide) rfl (fun ls hl => ?_)
        refine lv_aload_n hx hb d_Bm_compress_192 rfl (lv_at hl 2 rfl) ?_
        refine va_get (D := (dC, dI)) (ci := 8) (v := .ref a9) (C := "BallotBoardModel") (T := F_Bm) (N := 28) hx hb hts (fun w9 h9 => List.mem_cons_of_mem _ (i_Bm w9 h9)) hown hK hP 0 rfl rfl 20 (by decide) (hts _ (List.mem_cons_of_mem _ gk_939)) (fun _ h9 => h9) rfl d_Bm_compress_193 ?_
        refine lv_iconst (v := 2) hx hb d_Bm_compress_196 (by decide) ?_
        refine va_iald hx hb hK hP 3 1 rfl rfl (vp_lit rfl) d_Bm_compress_197 ?_
        rw [show (st (2 : Int32).toNatClampNeg : Int32) = st 2 from rfl]
        refine lv_istore (lv' := [(4, .int (st 2)), (3, .int (st 1)), (2, .int (st 0)), (0, .ref m0), (1, .int (nI fr))]) hx hb d_Bm_compress_198 hl (by decide) rfl (fun ls hl => ?_)
        refine lv_aload_n hx hb d_Bm_compress_200 rfl (lv_at hl 3 rfl) ?_
        refine va_get (D := (dC, dI)) (ci := 8) (v := .ref a9) (C := "BallotBoardModel") (T := F_Bm) (N := 28) hx hb hts (fun w9 h9 => List.mem_cons_of_mem _ (i_Bm w9 h9)) hown hK hP 0 rfl rfl 20 (by decide) (hts _ (List.mem_cons_of_mem _ gk_939)) (fun _ h9 => h9) rfl d_Bm_compress_201 ?_
        refine lv_iconst (v := 3) hx hb d_Bm_compress_204 (by decide) ?_
        refine va_iald hx hb hK hP 3 1 rfl rfl (vp_lit rfl) d_Bm_compress_205 ?_
        rw [show (st (3 : Int32).toNatClampNeg : Int32) = st 3 from rfl]
        refine lv_istore (lv' := [(5, .int (st 3)), (4, .int (st 2)), (3, .int (st 1)), (2, .int (st 0)), (0, .ref m0), (1, .int (nI fr))]) hx hb d_Bm_compress_206 hl (by decide) rfl (fun ls hl => ?_)
        refine lv_aload_n hx hb d_Bm_compress_208 rfl (lv_at hl 4 rfl) ?_
        refine va_get (D := (dC, dI)) (ci := 8) (v := .ref a9) (C := "BallotBoardModel") (T := F_Bm) (N := 28) hx hb hts (fun w9 h9 => List.mem_cons_of_mem _ (i_Bm w9 h9)) hown hK hP 0 rfl rfl 20 (by decide) (hts _ (List.mem_cons_of_mem _ gk_939)) (fun _ h9 => h9) rfl d_Bm_compress_209 ?_
        refine lv_iconst (v := 4) hx hb d_Bm_compress_212 (by decide) ?_
        refine va_iald hx hb hK hP 3 1 rfl rfl (vp_lit rfl) d_Bm_compress_213 ?_
        rw [show (st (4 : Int32).toNatClampNeg : Int32) = st 4 from rfl]
        refine lv_istore (lv' := [(6, .int (st 4)), (5, .int (st 3)), (4, .int (st 2)), (3, .int (st 1)), (2, .int (st 0)), (0, .ref m0), (1, .int (nI fr))]) hx hb d_Bm_compress_214 hl (by decide) rfl (fun ls hl => ?_)
        refine lv_aload_n hx hb d_Bm_compress_216 rfl (lv_at hl 5 rfl) ?_
        refine va_get (D := (dC, dI)) (ci := 8) (v := .ref a9) (C := "BallotBoardModel") (T := F_Bm) (N := 28) hx hb hts (fun w9 h9 => List.mem_cons_of_mem _ (i_Bm w9 h9)) hown hK hP 0 rfl rfl 20 (by decide) (hts _ (List.mem_cons_of_mem _ gk_939)) (fun _ h9 => h9) rfl d_Bm_compress_217 ?_
        refine lv_iconst (v := 5) hx hb d_Bm_compress_220 (by decide) ?_
        refine va_iald hx hb hK hP 3 1 rfl rfl (vp_lit rfl) d_Bm_compress_221 ?_
        rw [show (st (5 : Int32).toNatClampNeg : Int32) = st 5 from rfl]
        refine lv_istore (lv' := [(7, .int (st 5)), (6, .int (st 4)), (5, .int (st 3)), (4, .int (st 2)), (3, .int (st 1)), (2, .int (st 0)), (0, .ref m0), (1, .int (nI fr))]) hx hb d_Bm_compress_222 hl (by decide) rfl (fun ls hl => ?_)
        refine lv_aload_n hx hb d_Bm_compress_224 rfl (lv_at hl 6 rfl) ?_
        refine va_get (D := (dC, dI)) (ci := 8) (v := .ref a9) (C := "BallotBoardModel") (T := F_Bm) (N := 28) hx hb hts (fun w9 h9 => List.mem_cons_of_mem _ (i_Bm w9 h9)) hown hK hP 0 rfl rfl 20 (by decide) (hts _ (List.mem_cons_of_mem _ gk_939)) (fun _ h9 => h9) rfl d_Bm_compress_225 ?_
        refine lv_bipush (v := 6) hx hb d_Bm_compress_228 (by decide) ?_
        refine va_iald hx hb hK hP 3 1 rfl rfl (vp_lit rfl) d_Bm_compress_230 ?_
        rw [show (st (6 : Int32).toNatClampNeg : Int32) = st 6 from rfl]
        refine lv_istore (lv' := [(8, .int (st 6)), (7, .int (st 5)), (6, .int (st 4)), (5, .int (st 3)), (4, .int (st 2)), (3, .int (st 1)), (2, .int (st 0)), (0, .ref m0), (1, .int (nI fr))]) hx hb d_Bm_compress_231 hl (by decide) rfl (fun ls hl => ?_)
        refine lv_aload_n hx hb d_Bm_compress_233 rfl (lv_at hl 7 rfl) ?_
        refine va_get (D := (dC, dI)) (ci := 8) (v := .ref a9) (C := "BallotBoardModel") (T := F_Bm) (N := 28) hx hb hts (fun w9 h9 => List.mem_cons_of_mem _ (i_Bm w9 h9)) hown hK hP 0 rfl rfl 20 (by decide) (hts _ (List.mem_cons_of_mem _ gk_939)) (fun _ h9 => h9) rfl d_Bm_compress_234 ?_
        refine lv_bipush (v := 7) hx hb d_Bm_compress_237 (by decide) ?_
        refine va_iald hx hb hK hP 3 1 rfl rfl (vp_lit rfl) d_Bm_compress_239 ?_
        rw [show (st (7 : Int32).toNatClampNeg : Int32) = st 7 from rfl]
        refine lv_istore (lv' := [(9, .int (st 7)), (8, .int (st 6)), (7, .int (st 5)), (6, .int (st 4)), (5, .int (st 3)), (4, .int (st 2)), (3, .int (st 1)), (2, .int (st 0)), (0, .ref m0), (1, .int (nI fr))]) hx hb d_Bm_compress_240 hl (by decide) rfl (fun ls hl => ?_)
        refine lv_iconst (v := 0) hx hb d_Bm_compress_242 (by decide) ?_
        refine lv_istore (lv' := [(10, .int 0), (9, .int (st 7)), (8, .int (st 6)), (7, .int (st 5)), (6, .int (st 4)), (5, .int (st 3)), (4, .int (st 2)), (3, .int (st 1)), (2, .int (st 0)), (0, .ref m0), (1, .int (nI fr))]) hx hb d_Bm_compress_243 hl (by decide) rfl (fun ls hl => ?_)
        exact loop3 64 0 (by omega) H locs hS hP hD ls (lv_sub hl [9, 10, 8, 7, 6, 5, 4, 3, 2, 1, 0] rfl)
      · -- not taken
        have hn48 : n < 48 := by
          have : ¬ 64 ≤ 16 + n := fun h => c_1 ((ige 64 (by omega) (by omega) rfl).mpr h)
          omega
        refine lv_aload_n hx hb d_Bm_compress_87 rfl (lv_at hl 0 rfl) ?_
        refine va_get (D := (dC, dI)) (ci := 8) (v := .ref a8) (C := "BallotBoardModel") (T := F_Bm) (N := 28) hx hb hts (fun w9 h9 => List.mem_cons_of_mem _ (i_Bm w9 h9)) hown hK hP 0 rfl rfl 19 (by decide) (hts _ (List.mem_cons_of_mem _ gk_938)) (fun _ h9 => h9) rfl d_Bm_compress_88 ?_
        refine lv_iload_n hx hb d_Bm_compress_91 rfl (lv_at hl 2 rfl) ?_
        refine lv_bipush (v := 15) hx hb d_Bm_compress_92 (by decide) ?_
        refine lv_isub hx hb d_Bm_compress_94 ?_
        rw [show ((nI (16 + n)) - 15 : Int32) = (nI (n + 1)) from (nI_subI (b := 15) (by omega) rfl).trans (congrArg nI (by omega))]
        refine va_iald hx hb hK hP 2 1 rfl rfl (vp_in_nI (by omega) (by omega)) d_Bm_compress_95 ?_
        rw [show (swn (sq1 sc bf fr 16) n (nI (n + 1) : Int32).toNatClampNeg : Int32) = (swn (sq1 sc bf fr 16) n) (n + 1) from by rw [nI_clamp (by omega)]]
        refine lv_istore_n (lv' := [(3, .int ((swn (sq1 sc bf fr 16) n) (n + 1))), (0, .ref m0), (1, .int (nI fr)), (2, .int (nI (16 + n)))]) hx hb d_Bm_compress_96 rfl hl (by decide) rfl (fun ls hl => ?_)
        refine lv_aload_n hx hb d_Bm_compress_97 rfl (lv_at hl 1 rfl) ?_
        refine va_get (D := (dC, dI)) (ci := 8) (v := .ref a8) (C := "BallotBoardModel") (T := F_Bm) (N := 28) hx hb hts (fun w9 h9 => List.mem_cons_of_mem _ (i_Bm w9 h9)) hown hK hP 0 rfl rfl 19 (by decide) (hts _ (List.mem_cons_of_mem _ gk_938)) (fun _ h9 => h9) rfl d_Bm_compress_98 ?_
        refine lv_iload_n hx hb d_Bm_compress_101 rfl (lv_at hl 3 rfl) ?_
        refine lv_iconst (v := 2) hx hb d_Bm_compress_102 (by decide) ?_
        refine lv_isub hx hb d_Bm_compress_103 ?_
        rw [show ((nI (16 + n)) - 2 : Int32) = (nI (n + 14)) from (nI_subI (b := 2) (by omega) rfl).trans (congrArg nI (by omega))]
        refine va_iald hx hb hK hP 2 1 rfl rfl (vp_in_nI (by omega) (by omega)) d_Bm_compress_104 ?_
        rw [show (swn (sq1 sc bf fr 16) n (nI (n + 14) : Int32).toNatClampNeg : Int32) = (swn (sq1 sc bf fr 16) n) (n + 14) from by rw [nI_clamp (by omega)]]
        refine lv_istore (lv' := [(4, .int ((swn (sq1 sc bf fr 16) n) (n + 14))), (3, .int ((swn (sq1 sc bf fr 16) n) (n + 1))), (0, .ref m0), (1, .int (nI fr)), (2, .int (nI (16 + n)))]) hx hb d_Bm_compress_105 hl (by decide) rfl (fun ls hl => ?_)
        refine lv_aload_n hx hb d_Bm_compress_107 rfl (lv_at hl 2 rfl) ?_
        refine va_get (D := (dC, dI)) (ci := 8) (v := .ref a8) (C := "BallotBoardModel") (T := F_Bm) (N := 28) hx hb hts (fun w9 h9 => List.mem_cons_of_mem _ (i_Bm w9 h9)) hown hK hP 0 rfl rfl 19 (by decide) (hts _ (List.mem_cons_of_mem _ gk_938)) (fun _ h9 => h9) rfl d_Bm_compress_108 ?_
        refine lv_iload_n hx hb d_Bm_compress_111 rfl (lv_at hl 4 rfl) ?_
        refine lv_aload_n hx hb d_Bm_compress_112 rfl (lv_at hl 2 rfl) ?_
        refine va_get (D := (dC, dI)) (ci := 8) (v := .ref a8) (C := "BallotBoardModel") (T := F_Bm) (N := 28) hx hb hts (fun w9 h9 => List.mem_cons_of_mem _ (i_Bm w9 h9)) hown hK hP 0 rfl rfl 19 (by decide) (hts _ (List.mem_cons_of_mem _ gk_938)) (fun _ h9 => h9) rfl d_Bm_compress_113 ?_
        refine lv_iload_n hx hb d_Bm_compress_116 rfl (lv_at hl 4 rfl) ?_
        refine lv_bipush (v := 16) hx hb d_Bm_compress_117 (by decide) ?_
        refine lv_isub hx hb d_Bm_compress_119 ?_
        rw [show ((nI (16 + n)) - 16 : Int32) = (nI (n)) from (nI_subI (b := 16) (by omega) rfl).trans (congrArg nI (by omega))]
        refine va_iald hx hb hK hP 2 1 rfl rfl (vp_in_nI (by omega) (by omega)) d_Bm_compress_120 ?_
        rw [show (swn (sq1 sc bf fr 16) n (nI (n) : Int32).toNatClampNeg : Int32) = (swn (sq1 sc bf fr 16) n) (n) from by rw [nI_clamp (by omega)]]
        refine lv_iload_n hx hb d_Bm_compress_121 rfl (lv_at hl 1 rfl) ?_
        refine lv_bipush (v := 7) hx hb d_Bm_compress_122 (by decide) ?_
        refine va_calli (va_runS (As := [.int ((swn (sq1 sc bf fr 16) n) (n + 1)), .int 7]) (rest := [.int ((swn (sq1 sc bf fr 16) n) (n)), .int (nI (16 + n)), .ref a8]) ⟨hx, hb, hml, hown, hts⟩ (c_Bm_turn l H ((swn (sq1 sc bf fr 16) n) (n + 1)) 7) (cwS 2 hts (gw_S gk_1082 gk_1083 gk_7 gk_1084) rfl rfl rfl (by decide +kernel) ⟨Nat.le_of_ble_eq_true rfl, Nat.le_of_ble_eq_true rfl⟩) ⟨fun a U g mk q => q, fun U hU hW => ⟨rfl, hU⟩⟩ rfl rfl hl.1 rfl (lv_room (Nat.le_of_ble_eq_true rfl)) d_Bm_compress_124 ⟨Nat.zero_le _, Nat.zero_le _⟩) hS (fun q _ h => h.elim) (fun q h => h.elim) (fun r_2 u9 t9 H1 locs ht hvm hw hB hz1 hk1 hS => ?_)
        obtain rfl : H = H1 := hB.symm.trans ht
        have hw : r_2 = tn ((swn (sq1 sc bf fr 16) n) (n + 1)) 7 := hw
        subst hw
        refine lv_iload_n hx hb d_Bm_compress_127 rfl (lv_at hl 1 rfl) ?_
        refine lv_bipush (v := 18) hx hb d_Bm_compress_128 (by decide) ?_
        refine va_calli (va_runS (As := [.int ((swn (sq1 sc bf fr 16) n) (n + 1)), .int 18]) (rest := [.int (tn ((swn (sq1 sc bf fr 16) n) (n + 1)) 7), .int ((swn (sq1 sc bf fr 16) n) (n)), .int (nI (16 + n)), .ref a8]) ⟨hx, hb, hml, hown, hts⟩ (c_Bm_turn l H ((swn (sq1 sc bf fr 16) n) (n + 1)) 18) (cwS 2 hts (gw_S gk_1082 gk_1083 gk_7 gk_1084) rfl rfl rfl (by decide +kernel) ⟨Nat.le_of_ble_eq_true rfl, Nat.le_of_ble_eq_true rfl⟩) ⟨fun a U g mk q => q, fun U hU hW => ⟨rfl, hU⟩⟩ rfl rfl hl.1 rfl (lv_room (Nat.le_of_ble_eq_true rfl)) d_Bm_compress_130 ⟨Nat.zero_le _, Nat.zero_le _⟩) hS (fun q _ h => h.elim) (fun q h => h.elim) (fun r_3 u9 t9 H1 locs ht hvm hw hB hz1 hk1 hS => ?_)
        obtain rfl : H = H1 := hB.symm.trans ht
        have hw : r_3 = tn ((swn (sq1 sc bf fr 16) n) (n + 1)) 18 := hw
        subst hw
        refine lv_ixor hx hb d_Bm_compress_133 ?_
        refine lv_iload_n hx hb d_Bm_compress_134 rfl (lv_at hl 1 rfl) ?_
        refine lv_iconst (v := 3) hx hb d_Bm_compress_135 (by decide) ?_
        refine lv_iushr (v := (((swn (sq1 sc bf fr 16) n) (n + 1) : Int32).toUInt32 >>> ((3 : Int32).toUInt32 &&& Int32.toUInt32 31)).toInt32) hx hb d_Bm_compress_136 rfl ?_
        refine lv_ixor hx hb d_Bm_compress_137 ?_
        refine lv_iadd hx hb d_Bm_compress_138 ?_
        refine lv_aload_n hx hb d_Bm_compress_139 rfl (lv_at hl 2 rfl) ?_
        refine va_get (D := (dC, dI)) (ci := 8) (v := .ref a8) (C := "BallotBoardModel") (T := F_Bm) (N := 28) hx hb hts (fun w9 h9 => List.mem_cons_of_mem _ (i_Bm w9 h9)) hown hK hP 0 rfl rfl 19 (by decide) (hts _ (List.mem_cons_of_mem _ gk_938)) (fun _ h9 => h9) rfl d_Bm_compress_140 ?_
        refine lv_iload_n hx hb d_Bm_compress_143 rfl (lv_at hl 4 rfl) ?_
        refine lv_bipush (v := 7) hx hb d_Bm_compress_144 (by decide) ?_
        refine lv_isub hx hb d_Bm_compress_146 ?_
        rw [show ((nI (16 + n)) - 7 : Int32) = (nI (n + 9)) from (nI_subI (b := 7) (by omega) rfl).trans (congrArg nI (by omega))]
        refine va_iald hx hb hK hP 2 1 rfl rfl (vp_in_nI (by omega) (by omega)) d_Bm_compress_147 ?_
        rw [show (swn (sq1 sc bf fr 16) n (nI (n + 9) : Int32).toNatClampNeg : Int32) = (swn (sq1 sc bf fr 16) n) (n + 9) from by rw [nI_clamp (by omega)]]
        refine lv_iadd hx hb d_Bm_compress_148 ?_
        refine lv_iload hx hb d_Bm_compress_149 (lv_at hl 0 rfl) ?_
        refine lv_bipush (v := 17) hx hb d_Bm_compress_151 (by decide) ?_
        refine va_calli (va_runS (As := [.int ((swn (sq1 sc bf fr 16) n) (n + 14)), .int 17]) (rest := [.int ((((swn (sq1 sc bf fr 16) n) (n)) + (((tn ((swn (sq1 sc bf fr 16) n) (n + 1)) 7) ^^^ (tn ((swn (sq1 sc bf fr 16) n) (n + 1)) 18)) ^^^ ((((swn (sq1 sc bf fr 16) n) (n + 1) : Int32).toUInt32 >>> ((3 : Int32).toUInt32 &&& Int32.toUInt32 31)).toInt32))) + ((swn (sq1 sc bf fr 16) n) (n + 9))), .int (nI (16 + n)), .ref a8]) ⟨hx, hb, hml, hown, hts⟩ (c_Bm_turn l H ((swn (sq1 sc bf fr 16) n) (n + 14)) 17) (cwS 2 hts (gw_S gk_1082 gk_1083 gk_7 gk_1084) rfl rfl rfl (by decide +kernel) ⟨Nat.le_of_ble_eq_true rfl, Nat.le_of_ble_eq_true rfl⟩) ⟨fun a U g mk q => q, fun U hU hW => ⟨rfl, hU⟩⟩ rfl rfl hl.1 rfl (lv_room (Nat.le_of_ble_eq_true rfl)) d_Bm_compress_153 ⟨Nat.zero_le _, Nat.zero_le _⟩) hS (fun q _ h => h.elim) (fun q h => h.elim) (fun r_4 u9 t9 H1 locs ht hvm hw hB hz1 hk1 hS => ?_)
        obtain rfl : H = H1 := hB.symm.trans ht
        have hw : r_4 = tn ((swn (sq1 sc bf fr 16) n) (n + 14)) 17 := hw
        subst hw
        refine lv_iload hx hb d_Bm_compress_156 (lv_at hl 0 rfl) ?_
        refine lv_bipush (v := 19) hx hb d_Bm_compress_158 (by decide) ?_
        refine va_calli (va_runS (As := [.int ((swn (sq1 sc bf fr 16) n) (n + 14)), .int 19]) (rest := [.int (tn ((swn (sq1 sc bf fr 16) n) (n + 14)) 17), .int ((((swn (sq1 sc bf fr 16) n) (n)) + (((tn ((swn (sq1 sc bf fr 16) n) (n + 1)) 7) ^^^ (tn ((swn (sq1 sc bf fr 16) n) (n + 1)) 18)) ^^^ ((((swn (sq1 sc bf fr 16) n) (n + 1) : Int32).toUInt32 >>> ((3 : Int32).toUInt32 &&& Int32.toUInt32 31)).toInt32))) + ((swn (sq1 sc bf fr 16) n) (n + 9))), .int (nI (16 + n)), .ref a8]) ⟨hx, hb, hml, hown, hts⟩ (c_Bm_turn l H ((swn (sq1 sc bf fr 16) n) (n + 14)) 19) (cwS 2 hts (gw_S gk_1082 gk_1083 gk_7 gk_1084) rfl rfl rfl (by decide +kernel) ⟨Nat.le_of_ble_eq_true rfl, Nat.le_of_ble_eq_true rfl⟩) ⟨fun a U g mk q => q, fun U hU hW => ⟨rfl, hU⟩⟩ rfl rfl hl.1 rfl (lv_room (Nat.le_of_ble_eq_true rfl)) d_Bm_compress_160 ⟨Nat.zero_le _, Nat.zero_le _⟩) hS (fun q _ h => h.elim) (fun q h => h.elim) (fun r_5 u9 t9 H1 locs ht hvm hw hB hz1 hk1 hS => ?_)
        obtain rfl : H = H1 := hB.symm.trans ht
        have hw : r_5 = tn ((swn (sq1 sc bf fr 16) n) (n + 14)) 19 := hw
        subst hw
        refine lv_ixor hx hb d_Bm_compress_163 ?_
        refine lv_iload hx hb d_Bm_compress_164 (lv_at hl 0 rfl) ?_
        refine lv_bipush (v := 10) hx hb d_Bm_compress_166 (by decide) ?_
        refine lv_iushr (v := (((swn (sq1 sc bf fr 16) n) (n + 14) : Int32).toUInt32 >>> ((10 : Int32).toUInt32 &&& Int32.toUInt32 31)).toInt32) hx hb d_Bm_compress_168 rfl ?_
        refine lv_ixor hx hb d_Bm_compress_169 ?_
        refine lv_iadd hx hb d_Bm_compress_170 ?_
        refine va_iast hx hb hK hP hD hS 2 1 rfl rfl (vp_in_nI (by omega) (by omega)) d_Bm_compress_171 (fun H locs hP hD hS => ?_)
        have hfe : upd (swn (sq1 sc bf fr 16) n) (nI (16 + n) : Int32).toNatClampNeg (((((swn (sq1 sc bf fr 16) n) (n)) + (((tn ((swn (sq1 sc bf fr 16) n) (n + 1)) 7) ^^^ (tn ((swn (sq1 sc bf fr 16) n) (n + 1)) 18)) ^^^ ((((swn (sq1 sc bf fr 16) n) (n + 1) : Int32).toUInt32 >>> ((3 : Int32).toUInt32 &&& Int32.toUInt32 31)).toInt32))) + ((swn (sq1 sc bf fr 16) n) (n + 9))) + (((tn ((swn (sq1 sc bf fr 16) n) (n + 14)) 17) ^^^ (tn ((swn (sq1 sc bf fr 16) n) (n + 14)) 19)) ^^^ ((((swn (sq1 sc bf fr 16) n) (n + 14) : Int32).toUInt32 >>> ((10 : Int32).toUInt32 &&& Int32.toUInt32 31)).toInt32))) = swn (sq1 sc bf fr 16) (n + 1) := by rw [nI_clamp (by omega)]; rfl
        have hP : va_P (dC, dI) classes [(m0, .inr (8, [.int z0, .int z1, .int z2, .int z3, .long z4, .long z5, .long z6, .long z7, .long z8, .long z9, .int z10, .ref a0, .ref a1, .ref a2, .ref a3, .ref a4, .ref a5, .ref a6, .ref a7, .ref a8, .ref a9, .ref b0, .ref b1, .int (nI oc), .ref b2, .ref b3, .ref b4, .ref b5])), (a7, .inl (cI, 256, .inl bf)), (a8, .inl (cI, 64, .inl (upd (swn (sq1 sc bf fr 16) n) (nI (16 + n) : Int32).toNatClampNeg (((((swn (sq1 sc bf fr 16) n) (n)) + (((tn ((swn (sq1 sc bf fr 16) n) (n + 1)) 7) ^^^ (tn ((swn (sq1 sc bf fr 16) n) (n + 1)) 18)) ^^^ ((((swn (sq1 sc bf fr 16) n) (n + 1) : Int32).toUInt32 >>> ((3 : Int32).toUInt32 &&& Int32.toUInt32 31)).toInt32))) + ((swn (sq1 sc bf fr 16) n) (n + 9))) + (((tn ((swn (sq1 sc bf fr 16) n) (n + 14)) 17) ^^^ (tn ((swn (sq1 sc bf fr 16) n) (n + 14)) 19)) ^^^ ((((swn (sq1 sc bf fr 16) n) (n + 14) : Int32).toUInt32 >>> ((10 : Int32).toUInt32 &&& Int32.toUInt32 31)).toInt32)))))), (a9, .inl (cI, 8, .inl st)), (b1, .inl (cI, 64, .inl kR))] H := hP
        have hD : va_D A [(m0, .inr (8, [.int z0, .int z1, .int z2, .int z3, .long z4, .long z5, .long z6, .long z7, .long z8, .long z9, .int z10, .ref a0, .ref a1, .ref a2, .ref a3, .ref a4, .ref a5, .ref a6, .ref a7, .ref a8, .ref a9, .ref b0, .ref b1, .int (nI oc), .ref b2, .ref b3, .ref b4, .ref b5])), (a7, .inl (cI, 256, .inl bf)), (a8, .inl (cI, 64, .inl (upd (swn (sq1 sc bf fr 16) n) (nI (16 + n) : Int32).toNatClampNeg (((((swn (sq1 sc bf fr 16) n) (n)) + (((tn ((swn (sq1 sc bf fr 16) n) (n + 1)) 7) ^^^ (tn ((swn (sq1 sc bf fr 16) n) (n + 1)) 18)) ^^^ ((((swn (sq1 sc bf fr 16) n) (n + 1) : Int32).toUInt32 >>> ((3 : Int32).toUInt32 &&& Int32.toUInt32 31)).toInt32))) + ((swn (sq1 sc bf fr 16) n) (n + 9))) + (((tn ((swn (sq1 sc bf fr 16) n) (n + 14)) 17) ^^^ (tn ((swn (sq1 sc bf fr 16) n) (n + 14)) 19)) ^^^ ((((swn (sq1 sc bf fr 16) n) (n + 14) : Int32).toUInt32 >>> ((10 : Int32).toUInt32 &&& Int32.toUInt32 31)).toInt32)))))), (a9, .inl (cI, 8, .inl st)), (b1, .inl (cI, 64, .inl kR))] := hD
        rw [hfe] at hP hD
        obtain ⟨i_6, ei_6⟩ : ∃ y : Int32, y = (nI (16 + n)) + 1 := ⟨_, rfl⟩
        refine lv_iinc (v := i_6) (lv' := [(2, .int i_6), (4, .int ((swn (sq1 sc bf fr 16) n) (n + 14))), (3, .int ((swn (sq1 sc bf fr 16) n) (n + 1))), (0, .ref m0), (1, .int (nI fr))]) hx hb d_Bm_compress_172 hl (k := 4) rfl (by rw [ei_6]; rfl) (by decide) rfl (fun ls hl => ?_)
        obtain rfl : i_6 = nI (16 + (n + 1)) := by rw [ei_6]; exact nI_1 (16 + n)
        refine lv_goto (tgt := 81) hx hb d_Bm_compress_175 (by decide) ?_
        exact ih (j - 1) (by omega) (n + 1) (by omega) H locs hS hP hD ls (lv_sub hl [3, 4, 0] rfl)
  have loop1 : ∀ (j k : Nat), k + j = 16 → ∀ (H : Heap) (locs : List Loc), va_S A s.heap H locs → va_P (dC, dI) classes (mo_ws m0 z0 z1 z2 z3 z4 z5 z6 z7 z8 z9 z10 a0 a1 a2 a3 a4 a5 a6 a7 a8 a9 b0 b1 oc b2 b3 b4 b5 ++ (iw_ws a7 cI 256 bf ++ (iw_ws a8 cI 64 (sq1 sc bf fr k) ++ (iw_ws a9 cI 8 st ++ (iw_ws b1 cI 64 kR))))) H → va_D A (mo_ws m0 z0 z1 z2 z3 z4 z5 z6 z7 z8 z9 z10 a0 a1 a2 a3 a4 a5 a6 a7 a8 a9 b0 b1 oc b2 b3 b4 b5 ++ (iw_ws a7 cI 256 bf ++ (iw_ws a8 cI 64 (sq1 sc bf fr k) ++ (iw_ws a9 cI 8 st ++ (iw_ws b1 cI 64 kR))))) → ∀ (ls : Array Slot), lv_has ls 13 [(0, .ref m0), (1, .int (nI fr)), (2, .int (nI k))] → W p l e ({ frames := 1, cells := 0, slots := 0, locals := 21 } : Room) s m ([.ref m0, .int (nI fr)] : List Value).toArray below meth c H locs 0 0 (MQ below (va_Qv (fun _ : Unit => True) (fun _ t => va_P (dC, dI) classes (mo_ws m0 z0 z1 z2 z3 z4 z5 z6 z7 z8 z9 z10 a0 a1 a2 a3 a4 a5 a6 a7 a8 a9 b0 b1 oc b2 b3 b4 b5 ++ (iw_ws a7 cI 256 bf ++ (iw_ws a8 cI 64 (swn (sq1 sc bf fr 16) 48) ++ (iw_ws a9 cI 8 (mxa (swn (sq1 sc bf fr 16) 48) st 8) ++ (iw_ws b1 cI 64 kR))))) t.heap ∧ va_K (dC, dI) classes [(cJ, .long), (cI, .int)] t ∧ va_D A (mo_ws m0 z0 z1 z2 z3 z4 z5 z6 z7 z8 z9 z10 a0 a1 a2 a3 a4 a5 a6 a7 a8 a9 b0 b1 oc b2 b3 b4 b5 ++ (iw_ws a7 cI 256 bf ++ (iw_ws a8 cI 64 (swn (sq1 sc bf fr 16) 48) ++ (iw_ws a9 cI 8 (mxa (swn (sq1 sc bf fr 16) 48) st 8) ++ (iw_ws b1 cI 64 kR)))))) A) ([.ref m0, .int (nI fr)] : List Value).toArray s 0 0 A) (F0 m 2 ls []) := by
    intro j
    induction j using Nat.strongRecOn with
    | ind j ih =>
      intro k hkj H locs hS hP hD ls hl
      refine lv_iload_n hx hb d_Bm_compress_2 rfl (lv_at hl 2 rfl) ?_
      refine lv_bipush (v := 16) hx hb d_Bm_compress_3 (by decide) ?_
      refine lv_icmp_ge (tgt := 78) hx hb d_Bm_compress_5 (by decide) (fun c_1 => ?_) (fun c_1 => ?_)
      · -- taken
        have hk9 : k = 16 := by
          have := (ige 16 (by omega) (by omega) rfl).mp c_1
          omega
        subst hk9
        refine lv_bipush (v := 16) hx hb d_Bm_compress_78 (by decide) ?_
        refine lv_istore_n (lv' := [(2, .int 16), (0, .ref m0), (1, .int (nI fr))]) hx hb d_Bm_compress_80 rfl hl (by decide) rfl (fun ls hl => ?_)
        exact loop2 48 0 (by omega) H locs hS hP hD ls (lv_sub hl [1, 2, 0] rfl)
      · -- not taken
        have hk9 : k < 16 := by
          have : ¬ 16 ≤ k := fun h => c_1 ((ige 16 (by omega) (by omega) rfl).mpr h)
          omega
        refine lv_aload_n hx hb d_Bm_compress_8 rfl (lv_at hl 0 rfl) ?_
        refine va_get (D := (dC, dI)) (ci := 8) (v := .ref a8) (C := "BallotBoardModel") (T := F_Bm) (N := 28) hx hb hts (fun w9 h9 => List.mem_cons_of_mem _ (i_Bm w9 h9)) hown hK hP 0 rfl rfl 19 (by decide) (hts _ (List.mem_cons_of_mem _ gk_938)) (fun _ h9 => h9) rfl d_Bm_compress_9 ?_
        refine lv_iload_n hx hb d_Bm_compress_12 rfl (lv_at hl 2 rfl) ?_
        refine lv_aload_n hx hb d_Bm_compress_13 rfl (lv_at hl 0 rfl) ?_
        refine va_get (D := (dC, dI)) (ci := 8) (v := .ref a7) (C := "BallotBoardModel") (T := F_Bm) (N := 28) hx hb hts (fun w9 h9 => List.mem_cons_of_mem _ (i_Bm w9 h9)) hown hK hP 0 rfl rfl 18 (by decide) (hts _ (List.mem_cons_of_mem _ gk_937)) (fun _ h9 => h9) rfl d_Bm_compress_14 ?_
        refine lv_iload_n hx hb d_Bm_compress_17 rfl (lv_at hl 1 rfl) ?_
        refine lv_iconst (v := 4) hx hb d_Bm_compress_18 (by decide) ?_
        refine lv_iload_n hx hb d_Bm_compress_19 rfl (lv_at hl 2 rfl) ?_
        refine lv_imul hx hb d_Bm_compress_20 ?_
        rw [show (4 * (nI k) : Int32) = (nI (4 * k)) from pk_mul 4 k]
        refine lv_iadd hx hb d_Bm_compress_21 ?_
        rw [show ((nI fr) + (nI (4 * k)) : Int32) = (nI (fr + 4 * k)) from nI_add fr (4 * k)]
        refine va_iald hx hb hK hP 1 1 rfl rfl (vp_in_nI (by omega) (by omega)) d_Bm_compress_22 ?_
        rw [show (bf (nI (fr + 4 * k) : Int32).toNatClampNeg : Int32) = bf (fr + 4 * k) from by rw [nI_clamp (by omega)]]
        refine lv_bipush (v := 24) hx hb d_Bm_compress_23 (by decide) ?_
        refine lv_ishl hx hb d_Bm_compress_25 ?_
        refine lv_aload_n hx hb d_Bm_compress_26 rfl (lv_at hl 0 rfl) ?_
        refine va_get (D := (dC, dI)) (ci := 8) (v := .ref a7) (C := "BallotBoardModel") (T := F_Bm) (N := 28) hx hb hts (fun w9 h9 => List.mem_cons_of_mem _ (i_Bm w9 h9)) hown hK hP 0 rfl rfl 18 (by decide) (hts _ (List.mem_cons_of_mem _ gk_937)) (fun _ h9 => h9) rfl d_Bm_compress_27 ?_
        refine lv_iload_n hx hb d_Bm_compress_30 rfl (lv_at hl 1 rfl) ?_
        refine lv_iconst (v := 4) hx hb d_Bm_compress_31 (by decide) ?_
        refine lv_iload_n hx hb d_Bm_compress_32 rfl (lv_at hl 2 rfl) ?_
        refine lv_imul hx hb d_Bm_compress_33 ?_
        rw [show (4 * (nI k) : Int32) = (nI (4 * k)) from pk_mul 4 k]
        refine lv_iadd hx hb d_Bm_compress_34 ?_
        rw [show ((nI fr) + (nI (4 * k)) : Int32) = (nI (fr + 4 * k)) from nI_add fr (4 * k)]
        refine lv_iconst (v := 1) hx hb d_Bm_compress_35 (by decide) ?_
        refine lv_iadd hx hb d_Bm_compress_36 ?_
        rw [show ((nI (fr + 4 * k)) + 1 : Int32) = (nI (fr + 4 * k + 1)) from nI_add _ 1]
        refine va_iald hx hb hK hP 1 1 rfl rfl (vp_in_nI (by omega) (by omega)) d_Bm_compress_37 ?_
        rw [show (bf (nI (fr + 4 * k + 1) : Int32).toNatClampNeg : Int32) = bf (fr + 4 * k + 1) from by rw [nI_clamp (by omega)]]
        refine lv_bipush (v := 16) hx hb d_Bm_compress_38 (by decide) ?_
        refine lv_ishl hx hb d_Bm_compress_40 ?_
        refine lv_ior hx hb d_Bm_compress_41 ?_
        refine lv_aload_n hx hb d_Bm_compress_42 rfl (lv_at hl 0 rfl) ?_
        refine va_get (D := (dC, dI)) (ci := 8) (v := .ref a7) (C := "BallotBoardModel") (T := F_Bm) (N := 28) hx hb hts (fun w9 h9 => List.mem_cons_of_mem _ (i_Bm w9 h9)) hown hK hP 0 rfl rfl 18 (by decide) (hts _ (List.mem_cons_of_mem _ gk_937)) (fun _ h9 => h9) rfl d_Bm_compress_43 ?_
        refine lv_iload_n hx hb d_Bm_compress_46 rfl (lv_at hl 1 rfl) ?_
        refine lv_iconst (v := 4) hx hb d_Bm_compress_47 (by decide) ?_
        refine lv_iload_n hx hb d_Bm_compress_48 rfl (lv_at hl 2 rfl) ?_
        refine lv_imul hx hb d_Bm_compress_49 ?_
        rw [show (4 * (nI k) : Int32) = (nI (4 * k)) from pk_mul 4 k]
        refine lv_iadd hx hb d_Bm_compress_50 ?_
        rw [show ((nI fr) + (nI (4 * k)) : Int32) = (nI (fr + 4 * k)) from nI_add fr (4 * k)]
        refine lv_iconst (v := 2) hx hb d_Bm_compress_51 (by decide) ?_
        refine lv_iadd hx hb d_Bm_compress_52 ?_
        rw [show ((nI (fr + 4 * k)) + 2 : Int32) = (nI (fr + 4 * k + 2)) from nI_add _ 2]
        refine va_iald hx hb hK hP 1 1 rfl rfl (vp_in_nI (by omega) (by omega)) d_Bm_compress_53 ?_
        rw [show (bf (nI (fr + 4 * k + 2) : Int32).toNatClampNeg : Int32) = bf (fr + 4 * k + 2) from by rw [nI_clamp (by omega)]]
        refine lv_bipush (v := 8) hx hb d_Bm_compress_54 (by decide) ?_
        refine lv_ishl hx hb d_Bm_compress_56 ?_
        refine lv_ior hx hb d_Bm_compress_57 ?_
        refine lv_aload_n hx hb d_Bm_compress_58 rfl (lv_at hl 0 rfl) ?_
        refine va_get (D := (dC, dI)) (ci := 8) (v := .ref a7) (C := "BallotBoardModel") (T := F_Bm) (N := 28) hx hb hts (fun w9 h9 => List.mem_cons_of_mem _ (i_Bm w9 h9)) hown hK hP 0 rfl rfl 18 (by decide) (hts _ (List.mem_cons_of_mem _ gk_937)) (fun _ h9 => h9) rfl d_Bm_compress_59 ?_
        refine lv_iload_n hx hb d_Bm_compress_62 rfl (lv_at hl 1 rfl) ?_
        refine lv_iconst (v := 4) hx hb d_Bm_compress_63 (by decide) ?_
        refine lv_iload_n hx hb d_Bm_compress_64 rfl (lv_at hl 2 rfl) ?_
        refine lv_imul hx hb d_Bm_compress_65 ?_
        rw [show (4 * (nI k) : Int32) = (nI (4 * k)) from pk_mul 4 k]
        refine lv_iadd hx hb d_Bm_compress_66 ?_
        rw [show ((nI fr) + (nI (4 * k)) : Int32) = (nI (fr + 4 * k)) from nI_add fr (4 * k)]
        refine lv_iconst (v := 3) hx hb d_Bm_compress_67 (by decide) ?_
        refine lv_iadd hx hb d_Bm_compress_68 ?_
        rw [show ((nI (fr + 4 * k)) + 3 : Int32) = (nI (fr + 4 * k + 3)) from nI_add _ 3]
        refine va_iald hx hb hK hP 1 1 rfl rfl (vp_in_nI (by omega) (by omega)) d_Bm_compress_69 ?_
        rw [show (bf (nI (fr + 4 * k + 3) : Int32).toNatClampNeg : Int32) = bf (fr + 4 * k + 3) from by rw [nI_clamp (by omega)]]
        refine lv_ior hx hb d_Bm_compress_70 ?_
        refine va_iast hx hb hK hP hD hS 2 1 rfl rfl (vp_in_nI (by omega) (by omega)) d_Bm_compress_71 (fun H locs hP hD hS => ?_)
        have hfe : upd (sq1 sc bf fr k) (nI k : Int32).toNatClampNeg (((((bf (fr + 4 * k)) <<< (24 &&& 31)) ||| ((bf (fr + 4 * k + 1)) <<< (16 &&& 31))) ||| ((bf (fr + 4 * k + 2)) <<< (8 &&& 31))) ||| (bf (fr + 4 * k + 3))) = sq1 sc bf fr (k + 1) := by rw [nI_clamp (by omega)]; rfl
        have hP : va_P (dC, dI) classes [(m0, .inr (8, [.int z0, .int z1, .int z2, .int z3, .long z4, .long z5, .long z6, .long z7, .long z8, .long z9, .int z10, .ref a0, .ref a1, .ref a2, .ref a3, .ref a4, .ref a5, .ref a6, .ref a7, .ref a8, .ref a9, .ref b0, .ref b1, .int (nI oc), .ref b2, .ref b3, .ref b4, .ref b5])), (a7, .inl (cI, 256, .inl bf)), (a8, .inl (cI, 64, .inl (upd (sq1 sc bf fr k) (nI k : Int32).toNatClampNeg (((((bf (fr + 4 * k)) <<< (24 &&& 31)) ||| ((bf (fr + 4 * k + 1)) <<< (16 &&& 31))) ||| ((bf (fr + 4 * k + 2)) <<< (8 &&& 31))) ||| (bf (fr + 4 * k + 3)))))), (a9, .inl (cI, 8, .inl st)), (b1, .inl (cI, 64, .inl kR))] H := hP
        have hD : va_D A [(m0, .inr (8, [.int z0, .int z1, .int z2, .int z3, .long z4, .long z5, .long z6, .long z7, .long z8, .long z9, .int z10, .ref a0, .ref a1, .ref a2, .ref a3, .ref a4, .ref a5, .ref a6, .ref a7, .ref a8, .ref a9, .ref b0, .ref b1, .int (nI oc), .ref b2, .ref b3, .ref b4, .ref b5])), (a7, .inl (cI, 256, .inl bf)), (a8, .inl (cI, 64, .inl (upd (sq1 sc bf fr k) (nI k : Int32).toNatClampNeg (((((bf (fr + 4 * k)) <<< (24 &&& 31)) ||| ((bf (fr + 4 * k + 1)) <<< (16 &&& 31))) ||| ((bf (fr + 4 * k + 2)) <<< (8 &&& 31))) ||| (bf (fr + 4 * k + 3)))))), (a9, .inl (cI, 8, .inl st)), (b1, .inl (cI, 64, .inl kR))] := hD
        rw [hfe] at hP hD
        obtain ⟨i_2, ei_2⟩ : ∃ y : Int32, y = (nI k) + 1 := ⟨_, rfl⟩
        refine lv_iinc (v := i_2) (lv' := [(2, .int i_2), (0, .ref m0), (1, .int (nI fr))]) hx hb d_Bm_compress_72 hl (k := 2) rfl (by rw [ei_2]; rfl) (by decide) rfl (fun ls hl => ?_)
        obtain rfl : i_2 = nI (k + 1) := by rw [ei_2]; exact nI_1 k
        refine lv_goto (tgt := 2) hx hb d_Bm_compress_75 (by decide) ?_
        exact ih (j - 1) (by omega) (k + 1) (by omega) H locs hS hP hD ls (lv_sub hl [1, 2, 0] rfl)
  refine lv_iconst (v := 0) hx hb d_Bm_compress_0 (by decide) ?_
  refine lv_istore_n (lv' := [(2, .int 0), (0, .ref m0), (1, .int (nI fr))]) hx hb d_Bm_compress_1 rfl hl (by decide) rfl (fun ls hl => ?_)
  exact loop1 16 0 (by omega) s.heap [] hS hP hD ls (lv_sub hl [1, 2, 0] rfl)
