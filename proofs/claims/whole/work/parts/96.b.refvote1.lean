/-- no vote may be cast: no group, closed, or a key is missing -/
def vC1 (N : Nat) (cl : Int32) (ko : Nat → Nat) : Prop := N = 0 ∨ cl = 1 ∨ ¬ allN N ko
abbrev b_Bm_mayVote : ByteArray := prog_10_method_34_code
abbrev y_Bm_mayVote : MethodName := ⟨"BallotBoardModel", "mayVote", "()Z"⟩
abbrev w_Bm_mayVote : List Cond := .code y_Bm_mayVote b_Bm_mayVote 1 (some .boolean) :: gw
theorem d_Bm_mayVote_0 : decode b_Bm_mayVote 0 = .ok (.aload_n 0, 1) := by decide +kernel
theorem d_Bm_mayVote_1 : decode b_Bm_mayVote 1 = .ok (.aload_n 0, 1) := by decide +kernel
theorem d_Bm_mayVote_2 : decode b_Bm_mayVote 2 = .ok (.getfield 211, 3) := by decide +kernel
theorem d_Bm_mayVote_5 : decode b_Bm_mayVote 5 = .ok (.ifCond .eq 17, 3) := by decide +kernel
theorem d_Bm_mayVote_8 : decode b_Bm_mayVote 8 = .ok (.aload_n 0, 1) := by decide +kernel
theorem d_Bm_mayVote_9 : decode b_Bm_mayVote 9 = .ok (.getfield 220, 3) := by decide +kernel
theorem d_Bm_mayVote_12 : decode b_Bm_mayVote 12 = .ok (.ifCond .ne 10, 3) := by decide +kernel
theorem d_Bm_mayVote_15 : decode b_Bm_mayVote 15 = .ok (.aload_n 0, 1) := by decide +kernel
theorem d_Bm_mayVote_16 : decode b_Bm_mayVote 16 = .ok (.invokevirtual 266, 3) := by decide +kernel
theorem d_Bm_mayVote_19 : decode b_Bm_mayVote 19 = .ok (.ifCond .ne 7, 3) := by decide +kernel
theorem d_Bm_mayVote_22 : decode b_Bm_mayVote 22 = .ok (.iconst 1, 1) := by decide +kernel
theorem d_Bm_mayVote_23 : decode b_Bm_mayVote 23 = .ok (.goto 4, 3) := by decide +kernel
theorem d_Bm_mayVote_26 : decode b_Bm_mayVote 26 = .ok (.iconst 0, 1) := by decide +kernel
theorem d_Bm_mayVote_27 : decode b_Bm_mayVote 27 = .ok (.iconst 1, 1) := by decide +kernel
theorem d_Bm_mayVote_28 : decode b_Bm_mayVote 28 = .ok (.invokevirtual 207, 3) := by decide +kernel
theorem d_Bm_mayVote_31 : decode b_Bm_mayVote 31 = .ok (.ifCond .ne 30, 3) := by decide +kernel
theorem d_Bm_mayVote_34 : decode b_Bm_mayVote 34 = .ok (.aload_n 0, 1) := by decide +kernel
theorem d_Bm_mayVote_35 : decode b_Bm_mayVote 35 = .ok (.aload_n 0, 1) := by decide +kernel
theorem d_Bm_mayVote_36 : decode b_Bm_mayVote 36 = .ok (.getfield 214, 3) := by decide +kernel
theorem d_Bm_mayVote_39 : decode b_Bm_mayVote 39 = .ok (.sipush 150, 3) := by decide +kernel
theorem d_Bm_mayVote_42 : decode b_Bm_mayVote 42 = .ok (.if_icmp .lt 7, 3) := by decide +kernel
theorem d_Bm_mayVote_45 : decode b_Bm_mayVote 45 = .ok (.iconst 1, 1) := by decide +kernel
theorem d_Bm_mayVote_46 : decode b_Bm_mayVote 46 = .ok (.goto 4, 3) := by decide +kernel
theorem d_Bm_mayVote_49 : decode b_Bm_mayVote 49 = .ok (.iconst 0, 1) := by decide +kernel
theorem d_Bm_mayVote_50 : decode b_Bm_mayVote 50 = .ok (.iconst 2, 1) := by decide +kernel
theorem d_Bm_mayVote_51 : decode b_Bm_mayVote 51 = .ok (.invokevirtual 207, 3) := by decide +kernel
theorem d_Bm_mayVote_54 : decode b_Bm_mayVote 54 = .ok (.ifCond .ne 7, 3) := by decide +kernel
theorem d_Bm_mayVote_57 : decode b_Bm_mayVote 57 = .ok (.iconst 1, 1) := by decide +kernel
theorem d_Bm_mayVote_58 : decode b_Bm_mayVote 58 = .ok (.goto 4, 3) := by decide +kernel
theorem d_Bm_mayVote_61 : decode b_Bm_mayVote 61 = .ok (.iconst 0, 1) := by decide +kernel
theorem d_Bm_mayVote_62 : decode b_Bm_mayVote 62 = .ok (.ireturn, 1) := by decide +kernel
set_option maxHeartbeats 8000000 in
set_option maxRecDepth 100000 in
theorem c_Bm_mayVote_1 (l : Launch) (dC : Nat → ClassId) (dI : Nat → Nat → Nat) (cJ cI : ClassId) (sz : Nat) (m0 : Nat) (e0 : Int32) (N n bc P Q G al pa pb : Nat) (cl : Int32) (a0 a1 a2 a3 a4 a5 a6 a7 a8 a9 b0 b1 oc b2 b3 b4 b5 : Nat) (kf : Nat → Int32)  (ko : Nat → Nat) (ky : Nat → Int64) (hN : N ≤ 4) (hn : n ≤ 154) (hcl : cl = 0 ∨ cl = 1) (hrk : rK 4 n ko kf ky) (hC1 : vC1 N cl ko) : Met l y_Bm_mayVote w_Bm_mayVote ({ frames := 1, cells := 0, slots := 0, locals := 22 }) (va_Pc [.ref m0] (fun U => U.heap.size = sz ∧ va_P (dC, dI) classes (mo_ws m0 0 (nI N) (nI n) (nI bc) (lN P) (lN Q) (lN G) (lN al) (lN pa) (lN pb) cl a0 a1 a2 a3 a4 a5 a6 a7 a8 a9 b0 b1 oc b2 b3 b4 b5 ++ (iw_ws a4 cI 4 kf)) U.heap ∧ va_K (dC, dI) classes [(cJ, .long), (cI, .int)] U ∧ va_D (fun _ => True) (mo_ws m0 0 (nI N) (nI n) (nI bc) (lN P) (lN Q) (lN G) (lN al) (lN pa) (lN pb) cl a0 a1 a2 a3 a4 a5 a6 a7 a8 a9 b0 b1 oc b2 b3 b4 b5 ++ (iw_ws a4 cI 4 kf)))) (va_Qi (fun (r : Int32) (_ : Unit) => r = 0) (fun _ t => va_P (dC, dI) classes (mo_ws m0 1 (nI N) (nI n) (nI bc) (lN P) (lN Q) (lN G) (lN al) (lN pa) (lN pb) cl a0 a1 a2 a3 a4 a5 a6 a7 a8 a9 b0 b1 oc b2 b3 b4 b5 ++ (iw_ws a4 cI 4 kf)) t.heap ∧ va_K (dC, dI) classes [(cJ, .long), (cI, .int)] t ∧ va_D (va_A (mo_ws m0 0 (nI N) (nI n) (nI bc) (lN P) (lN Q) (lN G) (lN al) (lN pa) (lN pb) cl a0 a1 a2 a3 a4 a5 a6 a7 a8 a9 b0 b1 oc b2 b3 b4 b5 ++ (iw_ws a4 cI 4 kf)) sz) (mo_ws m0 1 (nI N) (nI n) (nI bc) (lN P) (lN Q) (lN G) (lN al) (lN pa) (lN pb) cl a0 a1 a2 a3 a4 a5 a6 a7 a8 a9 b0 b1 oc b2 b3 b4 b5 ++ (iw_ws a4 cI 4 kf))) (va_A (mo_ws m0 0 (nI N) (nI n) (nI bc) (lN P) (lN Q) (lN G) (lN al) (lN pa) (lN pb) cl a0 a1 a2 a3 a4 a5 a6 a7 a8 a9 b0 b1 oc b2 b3 b4 b5 ++ (iw_ws a4 cI 4 kf)) sz)) 0 0 (va_A (mo_ws m0 0 (nI N) (nI n) (nI bc) (lN P) (lN Q) (lN G) (lN al) (lN pa) (lN pb) cl a0 a1 a2 a3 a4 a5 a6 a7 a8 a9 b0 b1 oc b2 b3 b4 b5 ++ (iw_ws a4 cI 4 kf)) sz) := by
  refine Met.ofW (cc := b_Bm_mayVote) (maxL := 1) (ret := (some .boolean)) (by decide) rfl ?_
  intro p e s m args below meth c s₁ Bd hml hv
  obtain ⟨rfl, hsz, hP, hK, hD0⟩ := hv
  have hx := Bd.exec
  have hb := Bd.bytes
  have hr := Bd.returns
  have hts := atoms_spec (ws := w_Bm_mayVote) Bd.pre
  have hown : s.vm.findClass "BallotBoardModel" = some m.cls := findClass_of_methodNamed Bd.named
  have hlocks := Bd.notSynchronized
  subst hsz
  have hD := hD0.self (sz := s.heap.size)
  generalize hAe : va_A (mo_ws m0 0 (nI N) (nI n) (nI bc) (lN P) (lN Q) (lN G) (lN al) (lN pa) (lN pb) cl a0 a1 a2 a3 a4 a5 a6 a7 a8 a9 b0 b1 oc b2 b3 b4 b5 ++ (iw_ws a4 cI 4 kf)) s.heap.size = A at hD ⊢
  have hA : ∀ q : Nat, s.heap.size ≤ q → A q := fun q h => by rw [← hAe]; exact Or.inr h
  have hS : va_S A s.heap s.heap [] := va_S.rf
  have hl := lv_entry ([.ref m0]) (n := 1) (Nat.le_of_ble_eq_true rfl)
  rw [lg_entry_eq]
  generalize (lg_sl ([.ref m0]) ++ List.replicate (1 - (lg_sl ([.ref m0])).length) Slot.unset).toArray = ls at hl ⊢
  have hl : lv_has ls 1 [(0, .ref m0)] := hl
  refine lv_aload_n hx hb d_Bm_mayVote_0 rfl (lv_at hl 0 rfl) ?_
  refine lv_aload_n hx hb d_Bm_mayVote_1 rfl (lv_at hl 0 rfl) ?_
  refine va_get (D := (dC, dI)) (ci := 8) (v := .int (nI N)) (C := "BallotBoardModel") (T := F_Bm) (N := 28) hx hb hts (fun w9 h9 => List.mem_cons_of_mem _ (i_Bm w9 h9)) hown hK hP 0 rfl rfl 1 (by decide) (hts _ (List.mem_cons_of_mem _ gk_920)) (fun _ h9 => h9) rfl d_Bm_mayVote_2 ?_
  refine lv_if_eq (tgt := 22) hx hb d_Bm_mayVote_5 (by decide) (fun c_1 => ?_) (fun c_1 => ?_)
  · -- taken
    have hN0 : N = 0 := nI_inj (b := 0) (by omega) (by omega) c_1
    refine lv_iconst (v := 1) hx hb d_Bm_mayVote_22 (by decide) ?_
    refine lv_goto (tgt := 27) hx hb d_Bm_mayVote_23 (by decide) ?_
    refine lv_iconst (v := 1) hx hb d_Bm_mayVote_27 (by decide) ?_
    have hPc := hP.sub (ws' := (mo_ws m0 0 (nI N) (nI n) (nI bc) (lN P) (lN Q) (lN G) (lN al) (lN pa) (lN pb) cl a0 a1 a2 a3 a4 a5 a6 a7 a8 a9 b0 b1 oc b2 b3 b4 b5)) [0] rfl
    have hDc := hD.sub (ws' := (mo_ws m0 0 (nI N) (nI n) (nI bc) (lN P) (lN Q) (lN G) (lN al) (lN pa) (lN pb) cl a0 a1 a2 a3 a4 a5 a6 a7 a8 a9 b0 b1 oc b2 b3 b4 b5)) [0] (by decide) rfl
    have hKc := hK.sub (tys' := [(cJ, .long), (cI, .int)]) [0, 1] rfl
    have hFc := va_free (wc := (mo_ws m0 0 (nI N) (nI n) (nI bc) (lN P) (lN Q) (lN G) (lN al) (lN pa) (lN pb) cl a0 a1 a2 a3 a4 a5 a6 a7 a8 a9 b0 b1 oc b2 b3 b4 b5)) hD hS hA [0] rfl
    refine va_calli (va_runV (As := [.int 1, .int 1]) (rest := []) ⟨hx, hb, hml, hown, hts⟩ (c_Bm_fails_1 l dC dI cJ cI s.heap.size m0 (nI N) (nI n) (nI bc) (lN P) (lN Q) (lN G) (lN al) (lN pa) (lN pb) cl a0 a1 a2 a3 a4 a5 a6 a7 a8 a9 b0 b1 oc b2 b3 b4 b5 1 (by decide)) (cwV 2 hts (gw_V gk_1030 gk_1032 gp_27 gk_7 gk_1033) rfl rfl rfl (by decide +kernel) ⟨Nat.le_of_ble_eq_true rfl, Nat.le_of_ble_eq_true rfl⟩) ⟨fun a U g mk q => by obtain ⟨q0, q1, qP, qK, qD⟩ := q; exact ⟨q0, q1, qP, va_K.moved (u := U) (U := U.calling g mk a) (Vm.Alike.refl U.vm) qK, qD⟩, va_recv hK hP (ci := 8) (q0 := 0) rfl rfl, fun U hU hW => ⟨rfl, by rw [hU], by rw [hU]; exact hPc, va_K.moved hW.alike hKc, hDc.weaken (fun _ _ _ _ => trivial)⟩⟩ rfl rfl hl.1 rfl (lv_room (Nat.le_of_ble_eq_true rfl)) d_Bm_mayVote_28 ⟨Nat.le_of_ble_eq_true rfl, Nat.le_of_ble_eq_true rfl⟩) hS (fun q _ h => hFc q h) hFc (fun r_2 u9 t9 H1 locs ht hvm hw hB hz1 hk1 hS => ?_)
    have hw : r_2 = 1 := hw
    subst hw
    obtain ⟨hP1, hK1, hD1⟩ := hB
    rw [ht] at hP1
    obtain ⟨hP, hD⟩ := va_join (wr := [(a4, .inl (cI, 4, .inl kf))]) (w1 := [(m0, .inr (8, [.int 1, .int (nI N), .int (nI n), .int (nI bc), .long (lN P), .long (lN Q), .long (lN G), .long (lN al), .long (lN pa), .long (lN pb), .int cl, .ref a0, .ref a1, .ref a2, .ref a3, .ref a4, .ref a5, .ref a6, .ref a7, .ref a8, .ref a9, .ref b0, .ref b1, .int (nI oc), .ref b2, .ref b3, .ref b4, .ref b5]))]) hP hD [0] [1] rfl rfl (by decide) (by decide) hk1 hFc hP1 hD1
    have hP := hP.sub (ws' := [(m0, .inr (8, [.int 1, .int (nI N), .int (nI n), .int (nI bc), .long (lN P), .long (lN Q), .long (lN G), .long (lN al), .long (lN pa), .long (lN pb), .int cl, .ref a0, .ref a1, .ref a2, .ref a3, .ref a4, .ref a5, .ref a6, .ref a7, .ref a8, .ref a9, .ref b0, .ref b1, .int (nI oc), .ref b2, .ref b3, .ref b4, .ref b5])), (a4, .inl (cI, 4, .inl kf))]) [1, 0] rfl
    have hD := hD.sub (ws' := [(m0, .inr (8, [.int 1, .int (nI N), .int (nI n), .int (nI bc), .long (lN P), .long (lN Q), .long (lN G), .long (lN al), .long (lN pa), .long (lN pb), .int cl, .ref a0, .ref a1, .ref a2, .ref a3, .ref a4, .ref a5, .ref a6, .ref a7, .ref a8, .ref a9, .ref b0, .ref b1, .int (nI oc), .ref b2, .ref b3, .ref b4, .ref b5])), (a4, .inl (cI, 4, .inl kf))]) [1, 0] (by decide) rfl
    generalize H1 = H at hP hS ⊢
    refine lv_if_ne (tgt := 61) hx hb d_Bm_mayVote_31 (by decide) (fun c_3 => ?_) (fun c_3 => ?_)
    · -- taken
      refine lv_iconst (v := 0) hx hb d_Bm_mayVote_61 (by decide) ?_
      exact W.zret (v := 0) hx hb hr (by decide) (fun t ht9 hW => ⟨⟨_, (), rfl, rfl, by rw [ht9]; exact hP, va_K.moved hW.alike hK, hD⟩, hS.F ht9⟩) hS.2.2 d_Bm_mayVote_62
    · -- not taken
      exact absurd c_3 (by decide)
  · -- not taken
    have hN9 : ¬ N = 0 := fun h => c_1 (by rw [h]; rfl)
    refine lv_aload_n hx hb d_Bm_mayVote_8 rfl (lv_at hl 0 rfl) ?_
    refine va_get (D := (dC, dI)) (ci := 8) (v := .int cl) (C := "BallotBoardModel") (T := F_Bm) (N := 28) hx hb hts (fun w9 h9 => List.mem_cons_of_mem _ (i_Bm w9 h9)) hown hK hP 0 rfl rfl 10 (by decide) (hts _ (List.mem_cons_of_mem _ gk_929)) (fun _ h9 => h9) rfl d_Bm_mayVote_9 ?_
    refine lv_if_ne (tgt := 22) hx hb d_Bm_mayVote_12 (by decide) (fun c_4 => ?_) (fun c_4 => ?_)
    · -- taken
      have hcl1 := c_4
      refine lv_iconst (v := 1) hx hb d_Bm_mayVote_22 (by decide) ?_
      refine lv_goto (tgt := 27) hx hb d_Bm_mayVote_23 (by decide) ?_
      refine lv_iconst (v := 1) hx hb d_Bm_mayVote_27 (by decide) ?_
      have hPc := hP.sub (ws' := (mo_ws m0 0 (nI N) (nI n) (nI bc) (lN P) (lN Q) (lN G) (lN al) (lN pa) (lN pb) cl a0 a1 a2 a3 a4 a5 a6 a7 a8 a9 b0 b1 oc b2 b3 b4 b5)) [0] rfl
      have hDc := hD.sub (ws' := (mo_ws m0 0 (nI N) (nI n) (nI bc) (lN P) (lN Q) (lN G) (lN al) (lN pa) (lN pb) cl a0 a1 a2 a3 a4 a5 a6 a7 a8 a9 b0 b1 oc b2 b3 b4 b5)) [0] (by decide) rfl
      have hKc := hK.sub (tys' := [(cJ, .long), (cI, .int)]) [0, 1] rfl
      have hFc := va_free (wc := (mo_ws m0 0 (nI N) (nI n) (nI bc) (lN P) (lN Q) (lN G) (lN al) (lN pa) (lN pb) cl a0 a1 a2 a3 a4 a5 a6 a7 a8 a9 b0 b1 oc b2 b3 b4 b5)) hD hS hA [0] rfl
      refine va_calli (va_runV (As := [.int 1, .int 1]) (rest := []) ⟨hx, hb, hml, hown, hts⟩ (c_Bm_fails_1 l dC dI cJ cI s.heap.size m0 (nI N) (nI n) (nI bc) (lN P) (lN Q) (lN G) (lN al) (lN pa) (lN pb) cl a0 a1 a2 a3 a4 a5 a6 a7 a8 a9 b0 b1 oc b2 b3 b4 b5 1 (by decide)) (cwV 2 hts (gw_V gk_1030 gk_1032 gp_27 gk_7 gk_1033) rfl rfl rfl (by decide +kernel) ⟨Nat.le_of_ble_eq_true rfl, Nat.le_of_ble_eq_true rfl⟩) ⟨fun a U g mk q => by obtain ⟨q0, q1, qP, qK, qD⟩ := q; exact ⟨q0, q1, qP, va_K.moved (u := U) (U := U.calling g mk a) (Vm.Alike.refl U.vm) qK, qD⟩, va_recv hK hP (ci := 8) (q0 := 0) rfl rfl, fun U hU hW => ⟨rfl, by rw [hU], by rw [hU]; exact hPc, va_K.moved hW.alike hKc, hDc.weaken (fun _ _ _ _ => trivial)⟩⟩ rfl rfl hl.1 rfl (lv_room (Nat.le_of_ble_eq_true rfl)) d_Bm_mayVote_28 ⟨Nat.le_of_ble_eq_true rfl, Nat.le_of_ble_eq_true rfl⟩) hS (fun q _ h => hFc q h) hFc (fun r_5 u9 t9 H1 locs ht hvm hw hB hz1 hk1 hS => ?_)
      have hw : r_5 = 1 := hw
      subst hw
      obtain ⟨hP1, hK1, hD1⟩ := hB
      rw [ht] at hP1
      obtain ⟨hP, hD⟩ := va_join (wr := [(a4, .inl (cI, 4, .inl kf))]) (w1 := [(m0, .inr (8, [.int 1, .int (nI N), .int (nI n), .int (nI bc), .long (lN P), .long (lN Q), .long (lN G), .long (lN al), .long (lN pa), .long (lN pb), .int cl, .ref a0, .ref a1, .ref a2, .ref a3, .ref a4, .ref a5, .ref a6, .ref a7, .ref a8, .ref a9, .ref b0, .ref b1, .int (nI oc), .ref b2, .ref b3, .ref b4, .ref b5]))]) hP hD [0] [1] rfl rfl (by decide) (by decide) hk1 hFc hP1 hD1
      have hP := hP.sub (ws' := [(m0, .inr (8, [.int 1, .int (nI N), .int (nI n), .int (nI bc), .long (lN P), .long (lN Q), .long (lN G), .long (lN al), .long (lN pa), .long (lN pb), .int cl, .ref a0, .ref a1, .ref a2, .ref a3, .ref a4, .ref a5, .ref a6, .ref a7, .ref a8, .ref a9, .ref b0, .ref b1, .int (nI oc), .ref b2, .ref b3, .ref b4, .ref b5])), (a4, .inl (cI, 4, .inl kf))]) [1, 0] rfl
      have hD := hD.sub (ws' := [(m0, .inr (8, [.int 1, .int (nI N), .int (nI n), .int (nI bc), .long (lN P), .long (lN Q), .long (lN G), .long (lN al), .long (lN pa), .long (lN pb), .int cl, .ref a0, .ref a1, .ref a2, .ref a3, .ref a4, .ref a5, .ref a6, .ref a7, .ref a8, .ref a9, .ref b0, .ref b1, .int (nI oc), .ref b2, .ref b3, .ref b4, .ref b5])), (a4, .inl (cI, 4, .inl kf))]) [1, 0] (by decide) rfl
      generalize H1 = H at hP hS ⊢
      refine lv_if_ne (tgt := 61) hx hb d_Bm_mayVote_31 (by decide) (fun c_6 => ?_) (fun c_6 => ?_)
      · -- taken
        refine lv_iconst (v := 0) hx hb d_Bm_mayVote_61 (by decide) ?_
        exact W.zret (v := 0) hx hb hr (by decide) (fun t ht9 hW => ⟨⟨_, (), rfl, rfl, by rw [ht9]; exact hP, va_K.moved hW.alike hK, hD⟩, hS.F ht9⟩) hS.2.2 d_Bm_mayVote_62
      · -- not taken
        exact absurd c_6 (by decide)
    · -- not taken
      have hcl9 : cl = 0 := c_4
      refine lv_aload_n hx hb d_Bm_mayVote_15 rfl (lv_at hl 0 rfl) ?_
      have hPc := hP.sub (ws' := (mo_ws m0 0 (nI N) (nI n) (nI bc) (lN P) (lN Q) (lN G) (lN al) (lN pa) (lN pb) cl a0 a1 a2 a3 a4 a5 a6 a7 a8 a9 b0 b1 oc b2 b3 b4 b5 ++ (iw_ws a4 cI 4 kf))) [0, 1] rfl
      have hKc := hK.sub (tys' := [(cJ, .long), (cI, .int)]) [0, 1] rfl
      refine va_calli (va_runV (As := []) (rest := [.ref m0]) ⟨hx, hb, hml, hown, hts⟩ (c_Bm_allKeys l s.heap dC dI cJ cI m0 0 (nI n) (nI bc) (lN P) (lN Q) (lN G) (lN al) (lN pa) (lN pb) cl a0 a1 a2 a3 a4 a5 a6 a7 a8 a9 b0 b1 oc b2 b3 b4 b5 N kf ko ky n hPc hN hn hrk) (cwV 0 hts (gw_V gk_1109 gk_1111 gp_43 gk_7 gk_1112) rfl rfl rfl (by decide +kernel) ⟨Nat.le_of_ble_eq_true rfl, Nat.le_of_ble_eq_true rfl⟩) ⟨fun a U g mk q => ⟨q.1, q.2.1, va_K.moved (u := U) (U := U.calling g mk a) (Vm.Alike.refl U.vm) q.2.2⟩, va_recv hK hP (ci := 8) (q0 := 0) rfl rfl, fun U hU hW => ⟨rfl, hU, va_K.moved hW.alike hKc⟩⟩ rfl rfl hl.1 rfl (lv_room (Nat.le_of_ble_eq_true rfl)) d_Bm_mayVote_16 ⟨Nat.le_of_ble_eq_true rfl, Nat.le_of_ble_eq_true rfl⟩) hS (fun q _ h => h.elim) (fun q h => h.elim) (fun r16 u9 t9 H1 locs ht hvm hw hB hz1 hk1 hS => ?_)
      obtain rfl : s.heap = H1 := hB.symm.trans ht
      have h16 := hw
      refine lv_if_ne (tgt := 26) hx hb d_Bm_mayVote_19 (by decide) (fun c_7 => ?_) (fun c_7 => ?_)
      · -- taken
        exact absurd (bz_t h16 c_7) (fun h => hC1.elim hN9 (fun g => g.elim (fun k => by rw [hcl9] at k; exact absurd k (by decide)) (fun k => k h)))
      · -- not taken
        have hna := bz_f h16 c_7
        refine lv_iconst (v := 1) hx hb d_Bm_mayVote_22 (by decide) ?_
        refine lv_goto (tgt := 27) hx hb d_Bm_mayVote_23 (by decide) ?_
        refine lv_iconst (v := 1) hx hb d_Bm_mayVote_27 (by decide) ?_
        have hPc := hP.sub (ws' := (mo_ws m0 0 (nI N) (nI n) (nI bc) (lN P) (lN Q) (lN G) (lN al) (lN pa) (lN pb) cl a0 a1 a2 a3 a4 a5 a6 a7 a8 a9 b0 b1 oc b2 b3 b4 b5)) [0] rfl
        have hDc := hD.sub (ws' := (mo_ws m0 0 (nI N) (nI n) (nI bc) (lN P) (lN Q) (lN G) (lN al) (lN pa) (lN pb) cl a0 a1 a2 a3 a4 a5 a6 a7 a8 a9 b0 b1 oc b2 b3 b4 b5)) [0] (by decide) rfl
        have hKc := hK.sub (tys' := [(cJ, .long), (cI, .int)]) [0, 1] rfl
        have hFc := va_free (wc := (mo_ws m0 0 (nI N) (nI n) (nI bc) (lN P) (lN Q) (lN G) (lN al) (lN pa) (lN pb) cl a0 a1 a2 a3 a4 a5 a6 a7 a8 a9 b0 b1 oc b2 b3 b4 b5)) hD hS hA [0] rfl
        refine va_calli (va_runV (As := [.int 1, .int 1]) (rest := []) ⟨hx, hb, hml, hown, hts⟩ (c_Bm_fails_1 l dC dI cJ cI s.heap.size m0 (nI N) (nI n) (nI bc) (lN P) (lN Q) (lN G) (lN al) (lN pa) (lN pb) cl a0 a1 a2 a3 a4 a5 a6 a7 a8 a9 b0 b1 oc b2 b3 b4 b5 1 (by decide)) (cwV 2 hts (gw_V gk_1030 gk_1032 gp_27 gk_7 gk_1033) rfl rfl rfl (by decide +kernel) ⟨Nat.le_of_ble_eq_true rfl, Nat.le_of_ble_eq_true rfl⟩) ⟨fun a U g mk q => by obtain ⟨q0, q1, qP, qK, qD⟩ := q; exact ⟨q0, q1, qP, va_K.moved (u := U) (U := U.calling g mk a) (Vm.Alike.refl U.vm) qK, qD⟩, va_recv hK hP (ci := 8) (q0 := 0) rfl rfl, fun U hU hW => ⟨rfl, by rw [hU], by rw [hU]; exact hPc, va_K.moved hW.alike hKc, hDc.weaken (fun _ _ _ _ => trivial)⟩⟩ rfl rfl hl.1 rfl (lv_room (Nat.le_of_ble_eq_true rfl)) d_Bm_mayVote_28 ⟨Nat.le_of_ble_eq_true rfl, Nat.le_of_ble_eq_true rfl⟩) hS (fun q _ h => hFc q h) hFc (fun r_8 u9 t9 H1 locs ht hvm hw hB hz1 hk1 hS => ?_)
        have hw : r_8 = 1 := hw
        subst hw
        obtain ⟨hP1, hK1, hD1⟩ := hB
        rw [ht] at hP1
        obtain ⟨hP, hD⟩ := va_join (wr := [(a4, .inl (cI, 4, .inl kf))]) (w1 := [(m0, .inr (8, [.int 1, .int (nI N), .int (nI n), .int (nI bc), .long (lN P), .long (lN Q), .long (lN G), .long (lN al), .long (lN pa), .long (lN pb), .int cl, .ref a0, .ref a1, .ref a2, .ref a3, .ref a4, .ref a5, .ref a6, .ref a7, .ref a8, .ref a9, .ref b0, .ref b1, .int (nI oc), .ref b2, .ref b3, .ref b4, .ref b5]))]) hP hD [0] [1] rfl rfl (by decide) (by decide) hk1 hFc hP1 hD1
        have hP := hP.sub (ws' := [(m0, .inr (8, [.int 1, .int (nI N), .int (nI n), .int (nI bc), .long (lN P), .long (lN Q), .long (lN G), .long (lN al), .long (lN pa), .long (lN pb), .int cl, .ref a0, .ref a1, .ref a2, .ref a3, .ref a4, .ref a5, .ref a6, .ref a7, .ref a8, .ref a9, .ref b0, .ref b1, .int (nI oc), .ref b2, .ref b3, .ref b4, .ref b5])), (a4, .inl (cI, 4, .inl kf))]) [1, 0] rfl
        have hD := hD.sub (ws' := [(m0, .inr (8, [.int 1, .int (nI N), .int (nI n), .int (nI bc), .long (lN P), .long (lN Q), .long (lN G), .long (lN al), .long (lN pa), .long (lN pb), .int cl, .ref a0, .ref a1, .ref a2, .ref a3, .ref a4, .ref a5, .ref a6, .ref a7, .ref a8, .ref a9, .ref b0, .ref b1, .int (nI oc), .ref b2, .ref b3, .ref b4, .ref b5])), (a4, .inl (cI, 4, .inl kf))]) [1, 0] (by decide) rfl
        generalize H1 = H at hP hS ⊢
        refine lv_if_ne (tgt := 61) hx hb d_Bm_mayVote_31 (by decide) (fun c_9 => ?_) (fun c_9 => ?_)
        · -- taken
          refine lv_iconst (v := 0) hx hb d_Bm_mayVote_61 (by decide) ?_
          exact W.zret (v := 0) hx hb hr (by decide) (fun t ht9 hW => ⟨⟨_, (), rfl, rfl, by rw [ht9]; exact hP, va_K.moved hW.alike hK, hD⟩, hS.F ht9⟩) hS.2.2 d_Bm_mayVote_62
        · -- not taken
          exact absurd c_9 (by decide)
set_option maxHeartbeats 8000000 in
set_option maxRecDepth 100000 in
theorem c_Bm_mayVote_2 (l : Launch) (dC : Nat → ClassId) (dI : Nat → Nat → Nat) (cJ cI : ClassId) (sz : Nat) (m0 : Nat) (e0 : Int32) (N n bc P Q G al pa pb : Nat) (cl : Int32) (a0 a1 a2 a3 a4 a5 a6 a7 a8 a9 b0 b1 oc b2 b3 b4 b5 : Nat) (kf : Nat → Int32)  (ko : Nat → Nat) (ky : Nat → Int64) (hN : N ≤ 4) (hn : n ≤ 154) (hcl : cl = 0 ∨ cl = 1) (hrk : rK 4 n ko kf ky) (hC1 : ¬ vC1 N cl ko) (hn9 : 150 ≤ n) : Met l y_Bm_mayVote w_Bm_mayVote ({ frames := 1, cells := 0, slots := 0, locals := 22 }) (va_Pc [.ref m0] (fun U => U.heap.size = sz ∧ va_P (dC, dI) classes (mo_ws m0 0 (nI N) (nI n) (nI bc) (lN P) (lN Q) (lN G) (lN al) (lN pa) (lN pb) cl a0 a1 a2 a3 a4 a5 a6 a7 a8 a9 b0 b1 oc b2 b3 b4 b5 ++ (iw_ws a4 cI 4 kf)) U.heap ∧ va_K (dC, dI) classes [(cJ, .long), (cI, .int)] U ∧ va_D (fun _ => True) (mo_ws m0 0 (nI N) (nI n) (nI bc) (lN P) (lN Q) (lN G) (lN al) (lN pa) (lN pb) cl a0 a1 a2 a3 a4 a5 a6 a7 a8 a9 b0 b1 oc b2 b3 b4 b5 ++ (iw_ws a4 cI 4 kf)))) (va_Qi (fun (r : Int32) (_ : Unit) => r = 0) (fun _ t => va_P (dC, dI) classes (mo_ws m0 2 (nI N) (nI n) (nI bc) (lN P) (lN Q) (lN G) (lN al) (lN pa) (lN pb) cl a0 a1 a2 a3 a4 a5 a6 a7 a8 a9 b0 b1 oc b2 b3 b4 b5 ++ (iw_ws a4 cI 4 kf)) t.heap ∧ va_K (dC, dI) classes [(cJ, .long), (cI, .int)] t ∧ va_D (va_A (mo_ws m0 0 (nI N) (nI n) (nI bc) (lN P) (lN Q) (lN G) (lN al) (lN pa) (lN pb) cl a0 a1 a2 a3 a4 a5 a6 a7 a8 a9 b0 b1 oc b2 b3 b4 b5 ++ (iw_ws a4 cI 4 kf)) sz) (mo_ws m0 2 (nI N) (nI n) (nI bc) (lN P) (lN Q) (lN G) (lN al) (lN pa) (lN pb) cl a0 a1 a2 a3 a4 a5 a6 a7 a8 a9 b0 b1 oc b2 b3 b4 b5 ++ (iw_ws a4 cI 4 kf))) (va_A (mo_ws m0 0 (nI N) (nI n) (nI bc) (lN P) (lN Q) (lN G) (lN al) (lN pa) (lN pb) cl a0 a1 a2 a3 a4 a5 a6 a7 a8 a9 b0 b1 oc b2 b3 b4 b5 ++ (iw_ws a4 cI 4 kf)) sz)) 0 0 (va_A (mo_ws m0 0 (nI N) (nI n) (nI bc) (lN P) (lN Q) (lN G) (lN al) (lN pa) (lN pb) cl a0 a1 a2 a3 a4 a5 a6 a7 a8 a9 b0 b1 oc b2 b3 b4 b5 ++ (iw_ws a4 cI 4 kf)) sz) := by
  refine Met.ofW (cc := b_Bm_mayVote) (maxL := 1) (ret := (some .boolean)) (by decide) rfl ?_
  intro p e s m args below meth c s₁ Bd hml hv
  obtain ⟨rfl, hsz, hP, hK, hD0⟩ := hv
  have hx := Bd.exec
  have hb := Bd.bytes
  have hr := Bd.returns
  have hts := atoms_spec (ws := w_Bm_mayVote) Bd.pre
  have hown : s.vm.findClass "BallotBoardModel" = some m.cls := findClass_of_methodNamed Bd.named
  have hlocks := Bd.notSynchronized
  subst hsz
  have hD := hD0.self (sz := s.heap.size)
  generalize hAe : va_A (mo_ws m0 0 (nI N) (nI n) (nI bc) (lN P) (lN Q) (lN G) (lN al) (lN pa) (lN pb) cl a0 a1 a2 a3 a4 a5 a6 a7 a8 a9 b0 b1 oc b2 b3 b4 b5 ++ (iw_ws a4 cI 4 kf)) s.heap.size = A at hD ⊢
  have hA : ∀ q : Nat, s.heap.size ≤ q → A q := fun q h => by rw [← hAe]; exact Or.inr h
  have hS : va_S A s.heap s.heap [] := va_S.rf
  have hl := lv_entry ([.ref m0]) (n := 1) (Nat.le_of_ble_eq_true rfl)
  rw [lg_entry_eq]
  generalize (lg_sl ([.ref m0]) ++ List.replicate (1 - (lg_sl ([.ref m0])).length) Slot.unset).toArray = ls at hl ⊢
  have hl : lv_has ls 1 [(0, .ref m0)] := hl
  refine lv_aload_n hx hb d_Bm_mayVote_0 rfl (lv_at hl 0 rfl) ?_
  refine lv_aload_n hx hb d_Bm_mayVote_1 rfl (lv_at hl 0 rfl) ?_
  refine va_get (D := (dC, dI)) (ci := 8) (v := .int (nI N)) (C := "BallotBoardModel") (T := F_Bm) (N := 28) hx hb hts (fun w9 h9 => List.mem_cons_of_mem _ (i_Bm w9 h9)) hown hK hP 0 rfl rfl 1 (by decide) (hts _ (List.mem_cons_of_mem _ gk_920)) (fun _ h9 => h9) rfl d_Bm_mayVote_2 ?_
  refine lv_if_eq (tgt := 22) hx hb d_Bm_mayVote_5 (by decide) (fun c_1 => ?_) (fun c_1 => ?_)
  · -- taken
    exact absurd (Or.inl (nI_inj (b := 0) (by omega) (by omega) c_1)) hC1
  · -- not taken
    have hN9 : ¬ N = 0 := fun h => c_1 (by rw [h]; rfl)
    refine lv_aload_n hx hb d_Bm_mayVote_8 rfl (lv_at hl 0 rfl) ?_
    refine va_get (D := (dC, dI)) (ci := 8) (v := .int cl) (C := "BallotBoardModel") (T := F_Bm) (N := 28) hx hb hts (fun w9 h9 => List.mem_cons_of_mem _ (i_Bm w9 h9)) hown hK hP 0 rfl rfl 10 (by decide) (hts _ (List.mem_cons_of_mem _ gk_929)) (fun _ h9 => h9) rfl d_Bm_mayVote_9 ?_
    refine lv_if_ne (tgt := 22) hx hb d_Bm_mayVote_12 (by decide) (fun c_2 => ?_) (fun c_2 => ?_)
    · -- taken
      exact absurd (Or.inr (Or.inl (hcl.resolve_left c_2))) hC1
    · -- not taken
      have hcl9 : cl = 0 := c_2
      refine lv_aload_n hx hb d_Bm_mayVote_15 rfl (lv_at hl 0 rfl) ?_
      have hPc := hP.sub (ws' := (mo_ws m0 0 (nI N) (nI n) (nI bc) (lN P) (lN Q) (lN G) (lN al) (lN pa) (lN pb) cl a0 a1 a2 a3 a4 a5 a6 a7 a8 a9 b0 b1 oc b2 b3 b4 b5 ++ (iw_ws a4 cI 4 kf))) [0, 1] rfl
      have hKc := hK.sub (tys' := [(cJ, .long), (cI, .int)]) [0, 1] rfl
      refine va_calli (va_runV (As := []) (rest := [.ref m0]) ⟨hx, hb, hml, hown, hts⟩ (c_Bm_allKeys l s.heap dC dI cJ cI m0 0 (nI n) (nI bc) (lN P) (lN Q) (lN G) (lN al) (lN pa) (lN pb) cl a0 a1 a2 a3 a4 a5 a6 a7 a8 a9 b0 b1 oc b2 b3 b4 b5 N kf ko ky n hPc hN hn hrk) (cwV 0 hts (gw_V gk_1109 gk_1111 gp_43 gk_7 gk_1112) rfl rfl rfl (by decide +kernel) ⟨Nat.le_of_ble_eq_true rfl, Nat.le_of_ble_eq_true rfl⟩) ⟨fun a U g mk q => ⟨q.1, q.2.1, va_K.moved (u := U) (U := U.calling g mk a) (Vm.Alike.refl U.vm) q.2.2⟩, va_recv hK hP (ci := 8) (q0 := 0) rfl rfl, fun U hU hW => ⟨rfl, hU, va_K.moved hW.alike hKc⟩⟩ rfl rfl hl.1 rfl (lv_room (Nat.le_of_ble_eq_true rfl)) d_Bm_mayVote_16 ⟨Nat.le_of_ble_eq_true rfl, Nat.le_of_ble_eq_true rfl⟩) hS (fun q _ h => h.elim) (fun q h => h.elim) (fun r16 u9 t9 H1 locs ht hvm hw hB hz1 hk1 hS => ?_)
      obtain rfl : s.heap = H1 := hB.symm.trans ht
      have h16 := hw
      refine lv_if_ne (tgt := 26) hx hb d_Bm_mayVote_19 (by decide) (fun c_3 => ?_) (fun c_3 => ?_)
      · -- taken
        have hall := bz_t h16 c_3
        refine lv_iconst (v := 0) hx hb d_Bm_mayVote_26 (by decide) ?_
        refine lv_iconst (v := 1) hx hb d_Bm_mayVote_27 (by decide) ?_
        have hPc := hP.sub (ws' := (mo_ws m0 0 (nI N) (nI n) (nI bc) (lN P) (lN Q) (lN G) (lN al) (lN pa) (lN pb) cl a0 a1 a2 a3 a4 a5 a6 a7 a8 a9 b0 b1 oc b2 b3 b4 b5)) [0] rfl
        have hDc := hD.sub (ws' := (mo_ws m0 0 (nI N) (nI n) (nI bc) (lN P) (lN Q) (lN G) (lN al) (lN pa) (lN pb) cl a0 a1 a2 a3 a4 a5 a6 a7 a8 a9 b0 b1 oc b2 b3 b4 b5)) [0] (by decide) rfl
        have hKc := hK.sub (tys' := [(cJ, .long), (cI, .int)]) [0, 1] rfl
        have hFc := va_free (wc := (mo_ws m0 0 (nI N) (nI n) (nI bc) (lN P) (lN Q) (lN G) (lN al) (lN pa) (lN pb) cl a0 a1 a2 a3 a4 a5 a6 a7 a8 a9 b0 b1 oc b2 b3 b4 b5)) hD hS hA [0] rfl
        refine va_calli (va_runV (As := [.int 0, .int 1]) (rest := []) ⟨hx, hb, hml, hown, hts⟩ (c_Bm_fails_0 l dC dI cJ cI s.heap.size m0 (nI N) (nI n) (nI bc) (lN P) (lN Q) (lN G) (lN al) (lN pa) (lN pb) cl a0 a1 a2 a3 a4 a5 a6 a7 a8 a9 b0 b1 oc b2 b3 b4 b5 1) (cwV 2 hts (gw_V gk_1030 gk_1032 gp_27 gk_7 gk_1033) rfl rfl rfl (by decide +kernel) ⟨Nat.le_of_ble_eq_true rfl, Nat.le_of_ble_eq_true rfl⟩) ⟨fun a U g mk q => by obtain ⟨q0, q1, qP, qK, qD⟩ := q; exact ⟨q0, q1, qP, va_K.moved (u := U) (U := U.calling g mk a) (Vm.Alike.refl U.vm) qK, qD⟩, va_recv hK hP (ci := 8) (q0 := 0) rfl rfl, fun U hU hW => ⟨rfl, by rw [hU], by rw [hU]; exact hPc, va_K.moved hW.alike hKc, hDc.weaken (fun _ _ _ _ => trivial)⟩⟩ rfl rfl hl.1 rfl (lv_room (Nat.le_of_ble_eq_true rfl)) d_Bm_mayVote_28 ⟨Nat.le_of_ble_eq_true rfl, Nat.le_of_ble_eq_true rfl⟩) hS (fun q _ h => hFc q h) hFc (fun r_4 u9 t9 H1 locs ht hvm hw hB hz1 hk1 hS => ?_)
        have hw : r_4 = 0 := hw
        subst hw
        obtain ⟨hP1, hK1, hD1⟩ := hB
        rw [ht] at hP1
        obtain ⟨hP, hD⟩ := va_join (wr := [(a4, .inl (cI, 4, .inl kf))]) (w1 := [(m0, .inr (8, [.int 0, .int (nI N), .int (nI n), .int (nI bc), .long (lN P), .long (lN Q), .long (lN G), .long (lN al), .long (lN pa), .long (lN pb), .int cl, .ref a0, .ref a1, .ref a2, .ref a3, .ref a4, .ref a5, .ref a6, .ref a7, .ref a8, .ref a9, .ref b0, .ref b1, .int (nI oc), .ref b2, .ref b3, .ref b4, .ref b5]))]) hP hD [0] [1] rfl rfl (by decide) (by decide) hk1 hFc hP1 hD1
        have hP := hP.sub (ws' := [(m0, .inr (8, [.int 0, .int (nI N), .int (nI n), .int (nI bc), .long (lN P), .long (lN Q), .long (lN G), .long (lN al), .long (lN pa), .long (lN pb), .int cl, .ref a0, .ref a1, .ref a2, .ref a3, .ref a4, .ref a5, .ref a6, .ref a7, .ref a8, .ref a9, .ref b0, .ref b1, .int (nI oc), .ref b2, .ref b3, .ref b4, .ref b5])), (a4, .inl (cI, 4, .inl kf))]) [1, 0] rfl
        have hD := hD.sub (ws' := [(m0, .inr (8, [.int 0, .int (nI N), .int (nI n), .int (nI bc), .long (lN P), .long (lN Q), .long (lN G), .long (lN al), .long (lN pa), .long (lN pb), .int cl, .ref a0, .ref a1, .ref a2, .ref a3, .ref a4, .ref a5, .ref a6, .ref a7, .ref a8, .ref a9, .ref b0, .ref b1, .int (nI oc), .ref b2, .ref b3, .ref b4, .ref b5])), (a4, .inl (cI, 4, .inl kf))]) [1, 0] (by decide) rfl
        generalize H1 = H at hP hS ⊢
        refine lv_if_ne (tgt := 61) hx hb d_Bm_mayVote_31 (by decide) (fun c_5 => ?_) (fun c_5 => ?_)
        · -- taken
          exact absurd rfl c_5
        · -- not taken
          refine lv_aload_n hx hb d_Bm_mayVote_34 rfl (lv_at hl 0 rfl) ?_
          refine lv_aload_n hx hb d_Bm_mayVote_35 rfl (lv_at hl 0 rfl) ?_
          refine va_get (D := (dC, dI)) (ci := 8) (v := .int (nI n)) (C := "BallotBoardModel") (T := F_Bm) (N := 28) hx hb hts (fun w9 h9 => List.mem_cons_of_mem _ (i_Bm w9 h9)) hown hK hP 0 rfl rfl 2 (by decide) (hts _ (List.mem_cons_of_mem _ gk_921)) (fun _ h9 => h9) rfl d_Bm_mayVote_36 ?_
          refine lv_sipush (v := 150) hx hb d_Bm_mayVote_39 (by decide) ?_
          refine lv_icmp_lt (tgt := 49) hx hb d_Bm_mayVote_42 (by decide) (fun c_6 => ?_) (fun c_6 => ?_)
          · -- taken
            exact absurd ((nI_ltI (by omega) (by omega)).mp (show nI n < nI 150 from c_6)) (by omega)
          · -- not taken
            refine lv_iconst (v := 1) hx hb d_Bm_mayVote_45 (by decide) ?_
            refine lv_goto (tgt := 50) hx hb d_Bm_mayVote_46 (by decide) ?_
            refine lv_iconst (v := 2) hx hb d_Bm_mayVote_50 (by decide) ?_
            have hPc := hP.sub (ws' := (mo_ws m0 0 (nI N) (nI n) (nI bc) (lN P) (lN Q) (lN G) (lN al) (lN pa) (lN pb) cl a0 a1 a2 a3 a4 a5 a6 a7 a8 a9 b0 b1 oc b2 b3 b4 b5)) [0] rfl
            have hDc := hD.sub (ws' := (mo_ws m0 0 (nI N) (nI n) (nI bc) (lN P) (lN Q) (lN G) (lN al) (lN pa) (lN pb) cl a0 a1 a2 a3 a4 a5 a6 a7 a8 a9 b0 b1 oc b2 b3 b4 b5)) [0] (by decide) rfl
            have hKc := hK.sub (tys' := [(cJ, .long), (cI, .int)]) [0, 1] rfl
            have hFc := va_free (wc := (mo_ws m0 0 (nI N) (nI n) (nI bc) (lN P) (lN Q) (lN G) (lN al) (lN pa) (lN pb) cl a0 a1 a2 a3 a4 a5 a6 a7 a8 a9 b0 b1 oc b2 b3 b4 b5)) hD hS hA [0] rfl
            refine va_calli (va_runV (As := [.int 1, .int 2]) (rest := []) ⟨hx, hb, hml, hown, hts⟩ (c_Bm_fails_1 l dC dI cJ cI H.size m0 (nI N) (nI n) (nI bc) (lN P) (lN Q) (lN G) (lN al) (lN pa) (lN pb) cl a0 a1 a2 a3 a4 a5 a6 a7 a8 a9 b0 b1 oc b2 b3 b4 b5 2 (by decide)) (cwV 2 hts (gw_V gk_1030 gk_1032 gp_27 gk_7 gk_1033) rfl rfl rfl (by decide +kernel) ⟨Nat.le_of_ble_eq_true rfl, Nat.le_of_ble_eq_true rfl⟩) ⟨fun a U g mk q => by obtain ⟨q0, q1, qP, qK, qD⟩ := q; exact ⟨q0, q1, qP, va_K.moved (u := U) (U := U.calling g mk a) (Vm.Alike.refl U.vm) qK, qD⟩, va_recv hK hP (ci := 8) (q0 := 0) rfl rfl, fun U hU hW => ⟨rfl, by rw [hU], by rw [hU]; exact hPc, va_K.moved hW.alike hKc, hDc.weaken (fun _ _ _ _ => trivial)⟩⟩ rfl rfl hl.1 rfl (lv_room (Nat.le_of_ble_eq_true rfl)) d_Bm_mayVote_51 ⟨Nat.le_of_ble_eq_true rfl, Nat.le_of_ble_eq_true rfl⟩) hS (fun q _ h => hFc q h) hFc (fun r_7 u9 t9 H1 locs ht hvm hw hB hz1 hk1 hS => ?_)
            have hw : r_7 = 1 := hw
            subst hw
            obtain ⟨hP1, hK1, hD1⟩ := hB
            rw [ht] at hP1
            obtain ⟨hP, hD⟩ := va_join (wr := [(a4, .inl (cI, 4, .inl kf))]) (w1 := [(m0, .inr (8, [.int 2, .int (nI N), .int (nI n), .int (nI bc), .long (lN P), .long (lN Q), .long (lN G), .long (lN al), .long (lN pa), .long (lN pb), .int cl, .ref a0, .ref a1, .ref a2, .ref a3, .ref a4, .ref a5, .ref a6, .ref a7, .ref a8, .ref a9, .ref b0, .ref b1, .int (nI oc), .ref b2, .ref b3, .ref b4, .ref b5]))]) hP hD [0] [1] rfl rfl (by decide) (by decide) hk1 hFc hP1 hD1
            have hP := hP.sub (ws' := [(m0, .inr (8, [.int 2, .int (nI N), .int (nI n), .int (nI bc), .long (lN P), .long (lN Q), .long (lN G), .long (lN al), .long (lN pa), .long (lN pb), .int cl, .ref a0, .ref a1, .ref a2, .ref a3, .ref a4, .ref a5, .ref a6, .ref a7, .ref a8, .ref a9, .ref b0, .ref b1, .int (nI oc), .ref b2, .ref b3, .ref b4, .ref b5])), (a4, .inl (cI, 4, .inl kf))]) [1, 0] rfl
            have hD := hD.sub (ws' := [(m0, .inr (8, [.int 2, .int (nI N), .int (nI n), .int (nI bc), .long (lN P), .long (lN Q), .long (lN G), .long (lN al), .long (lN pa), .long (lN pb), .int cl, .ref a0, .ref a1, .ref a2, .ref a3, .ref a4, .ref a5, .ref a6, .ref a7, .ref a8, .ref a9, .ref b0, .ref b1, .int (nI oc), .ref b2, .ref b3, .ref b4, .ref b5])), (a4, .inl (cI, 4, .inl kf))]) [1, 0] (by decide) rfl
            generalize H1 = H at hP hS ⊢
            refine lv_if_ne (tgt := 61) hx hb d_Bm_mayVote_54 (by decide) (fun c_8 => ?_) (fun c_8 => ?_)
            · -- taken
              refine lv_iconst (v := 0) hx hb d_Bm_mayVote_61 (by decide) ?_
              exact W.zret (v := 0) hx hb hr (by decide) (fun t ht9 hW => ⟨⟨_, (), rfl, rfl, by rw [ht9]; exact hP, va_K.moved hW.alike hK, hD⟩, hS.F ht9⟩) hS.2.2 d_Bm_mayVote_62
            · -- not taken
              exact absurd c_8 (by decide)
      · -- not taken
        exact absurd (Or.inr (Or.inr (bz_f h16 c_3))) hC1
set_option maxHeartbeats 8000000 in
set_option maxRecDepth 100000 in
theorem c_Bm_mayVote_0 (l : Launch) (dC : Nat → ClassId) (dI : Nat → Nat → Nat) (cJ cI : ClassId) (sz : Nat) (m0 : Nat) (e0 : Int32) (N n bc P Q G al pa pb : Nat) (cl : Int32) (a0 a1 a2 a3 a4 a5 a6 a7 a8 a9 b0 b1 oc b2 b3 b4 b5 : Nat) (kf : Nat → Int32)  (ko : Nat → Nat) (ky : Nat → Int64) (hN : N ≤ 4) (hn : n ≤ 154) (hcl : cl = 0 ∨ cl = 1) (hrk : rK 4 n ko kf ky) (hC1 : ¬ vC1 N cl ko) (hn9 : n < 150) : Met l y_Bm_mayVote w_Bm_mayVote ({ frames := 1, cells := 0, slots := 0, locals := 22 }) (va_Pc [.ref m0] (fun U => U.heap.size = sz ∧ va_P (dC, dI) classes (mo_ws m0 0 (nI N) (nI n) (nI bc) (lN P) (lN Q) (lN G) (lN al) (lN pa) (lN pb) cl a0 a1 a2 a3 a4 a5 a6 a7 a8 a9 b0 b1 oc b2 b3 b4 b5 ++ (iw_ws a4 cI 4 kf)) U.heap ∧ va_K (dC, dI) classes [(cJ, .long), (cI, .int)] U ∧ va_D (fun _ => True) (mo_ws m0 0 (nI N) (nI n) (nI bc) (lN P) (lN Q) (lN G) (lN al) (lN pa) (lN pb) cl a0 a1 a2 a3 a4 a5 a6 a7 a8 a9 b0 b1 oc b2 b3 b4 b5 ++ (iw_ws a4 cI 4 kf)))) (va_Qi (fun (r : Int32) (_ : Unit) => r = 1) (fun _ t => va_P (dC, dI) classes (mo_ws m0 0 (nI N) (nI n) (nI bc) (lN P) (lN Q) (lN G) (lN al) (lN pa) (lN pb) cl a0 a1 a2 a3 a4 a5 a6 a7 a8 a9 b0 b1 oc b2 b3 b4 b5 ++ (iw_ws a4 cI 4 kf)) t.heap ∧ va_K (dC, dI) classes [(cJ, .long), (cI, .int)] t ∧ va_D (va_A (mo_ws m0 0 (nI N) (nI n) (nI bc) (lN P) (lN Q) (lN G) (lN al) (lN pa) (lN pb) cl a0 a1 a2 a3 a4 a5 a6 a7 a8 a9 b0 b1 oc b2 b3 b4 b5 ++ (iw_ws a4 cI 4 kf)) sz) (mo_ws m0 0 (nI N) (nI n) (nI bc) (lN P) (lN Q) (lN G) (lN al) (lN pa) (lN pb) cl a0 a1 a2 a3 a4 a5 a6 a7 a8 a9 b0 b1 oc b2 b3 b4 b5 ++ (iw_ws a4 cI 4 kf))) (va_A (mo_ws m0 0 (nI N) (nI n) (nI bc) (lN P) (lN Q) (lN G) (lN al) (lN pa) (lN pb) cl a0 a1 a2 a3 a4 a5 a6 a7 a8 a9 b0 b1 oc b2 b3 b4 b5 ++ (iw_ws a4 cI 4 kf)) sz)) 0 0 (va_A (mo_ws m0 0 (nI N) (nI n) (nI bc) (lN P) (lN Q) (lN G) (lN al) (lN pa) (lN pb) cl a0 a1 a2 a3 a4 a5 a6 a7 a8 a9 b0 b1 oc b2 b3 b4 b5 ++ (iw_ws a4 cI 4 kf)) sz) := by
  refine Met.ofW (cc := b_Bm_mayVote) (maxL := 1) (ret := (some .boolean)) (by decide) rfl ?_
  intro p e s m args below meth c s₁ Bd hml hv
  obtain ⟨rfl, hsz, hP, hK, hD0⟩ := hv
  have hx := Bd.exec
  have hb := Bd.bytes
  have hr := Bd.returns
  have hts := atoms_spec (ws := w_Bm_mayVote) Bd.pre
  have hown : s.vm.findClass "BallotBoardModel" = some m.cls := findClass_of_methodNamed Bd.named
  have hlocks := Bd.notSynchronized
  subst hsz
  have hD := hD0.self (sz := s.heap.size)
  generalize hAe : va_A (mo_ws m0 0 (nI N) (nI n) (nI bc) (lN P) (lN Q) (lN G) (lN al) (lN pa) (lN pb) cl a0 a1 a2 a3 a4 a5 a6 a7 a8 a9 b0 b1 oc b2 b3 b4 b5 ++ (iw_ws a4 cI 4 kf)) s.heap.size = A at hD ⊢
  have hA : ∀ q : Nat, s.heap.size ≤ q → A q := fun q h => by rw [← hAe]; exact Or.inr h
  have hS : va_S A s.heap s.heap [] := va_S.rf
  have hl := lv_entry ([.ref m0]) (n := 1) (Nat.le_of_ble_eq_true rfl)
  rw [lg_entry_eq]
  generalize (lg_sl ([.ref m0]) ++ List.replicate (1 - (lg_sl ([.ref m0])).length) Slot.unset).toArray = ls at hl ⊢
  have hl : lv_has ls 1 [(0, .ref m0)] := hl
  refine lv_aload_n hx hb d_Bm_mayVote_0 rfl (lv_at hl 0 rfl) ?_
  refine lv_aload_n hx hb d_Bm_mayVote_1 rfl (lv_at hl 0 rfl) ?_
  refine va_get (D := (dC, dI)) (ci := 8) (v := .int (nI N)) (C := "BallotBoardModel") (T := F_Bm) (N := 28) hx hb hts (fun w9 h9 => List.mem_cons_of_mem _ (i_Bm w9 h9)) hown hK hP 0 rfl rfl 1 (by decide) (hts _ (List.mem_cons_of_mem _ gk_920)) (fun _ h9 => h9) rfl d_Bm_mayVote_2 ?_
  refine lv_if_eq (tgt := 22) hx hb d_Bm_mayVote_5 (by decide) (fun c_1 => ?_) (fun c_1 => ?_)
  · -- taken
    exact absurd (Or.inl (nI_inj (b := 0) (by omega) (by omega) c_1)) hC1
  · -- not taken
    have hN9 : ¬ N = 0 := fun h => c_1 (by rw [h]; rfl)
    refine lv_aload_n hx hb d_Bm_mayVote_8 rfl (lv_at hl 0 rfl) ?_
    refine va_get (D := (dC, dI)) (ci := 8) (v := .int cl) (C := "BallotBoardModel") (T := F_Bm) (N := 28) hx hb hts (fun w9 h9 => List.mem_cons_of_mem _ (i_Bm w9 h9)) hown hK hP 0 rfl rfl 10 (by decide) (hts _ (List.mem_cons_of_mem _ gk_929)) (fun _ h9 => h9) rfl d_Bm_mayVote_9 ?_
    refine lv_if_ne (tgt := 22) hx hb d_Bm_mayVote_12 (by decide) (fun c_2 => ?_) (fun c_2 => ?_)
    · -- taken
      exact absurd (Or.inr (Or.inl (hcl.resolve_left c_2))) hC1
    · -- not taken
      have hcl9 : cl = 0 := c_2
      refine lv_aload_n hx hb d_Bm_mayVote_15 rfl (lv_at hl 0 rfl) ?_
      have hPc := hP.sub (ws' := (mo_ws m0 0 (nI N) (nI n) (nI bc) (lN P) (lN Q) (lN G) (lN al) (lN pa) (lN pb) cl a0 a1 a2 a3 a4 a5 a6 a7 a8 a9 b0 b1 oc b2 b3 b4 b5 ++ (iw_ws a4 cI 4 kf))) [0, 1] rfl
      have hKc := hK.sub (tys' := [(cJ, .long), (cI, .int)]) [0, 1] rfl
      refine va_calli (va_runV (As := []) (rest := [.ref m0]) ⟨hx, hb, hml, hown, hts⟩ (c_Bm_allKeys l s.heap dC dI cJ cI m0 0 (nI n) (nI bc) (lN P) (lN Q) (lN G) (lN al) (lN pa) (lN pb) cl a0 a1 a2 a3 a4 a5 a6 a7 a8 a9 b0 b1 oc b2 b3 b4 b5 N kf ko ky n hPc hN hn hrk) (cwV 0 hts (gw_V gk_1109 gk_1111 gp_43 gk_7 gk_1112) rfl rfl rfl (by decide +kernel) ⟨Nat.le_of_ble_eq_true rfl, Nat.le_of_ble_eq_true rfl⟩) ⟨fun a U g mk q => ⟨q.1, q.2.1, va_K.moved (u := U) (U := U.calling g mk a) (Vm.Alike.refl U.vm) q.2.2⟩, va_recv hK hP (ci := 8) (q0 := 0) rfl rfl, fun U hU hW => ⟨rfl, hU, va_K.moved hW.alike hKc⟩⟩ rfl rfl hl.1 rfl (lv_room (Nat.le_of_ble_eq_true rfl)) d_Bm_mayVote_16 ⟨Nat.le_of_ble_eq_true rfl, Nat.le_of_ble_eq_true rfl⟩) hS (fun q _ h => h.elim) (fun q h => h.elim) (fun r16 u9 t9 H1 locs ht hvm hw hB hz1 hk1 hS => ?_)
      obtain rfl : s.heap = H1 := hB.symm.trans ht
      have h16 := hw
      refine lv_if_ne (tgt := 26) hx hb d_Bm_mayVote_19 (by decide) (fun c_3 => ?_) (fun c_3 => ?_)
      · -- taken
        have hall := bz_t h16 c_3
        refine lv_iconst (v := 0) hx hb d_Bm_mayVote_26 (by decide) ?_
        refine lv_iconst (v := 1) hx hb d_Bm_mayVote_27 (by decide) ?_
        have hPc := hP.sub (ws' := (mo_ws m0 0 (nI N) (nI n) (nI bc) (lN P) (lN Q) (lN G) (lN al) (lN pa) (lN pb) cl a0 a1 a2 a3 a4 a5 a6 a7 a8 a9 b0 b1 oc b2 b3 b4 b5)) [0] rfl
        have hDc := hD.sub (ws' := (mo_ws m0 0 (nI N) (nI n) (nI bc) (lN P) (lN Q) (lN G) (lN al) (lN pa) (lN pb) cl a0 a1 a2 a3 a4 a5 a6 a7 a8 a9 b0 b1 oc b2 b3 b4 b5)) [0] (by decide) rfl
        have hKc := hK.sub (tys' := [(cJ, .long), (cI, .int)]) [0, 1] rfl
        have hFc := va_free (wc := (mo_ws m0 0 (nI N) (nI n) (nI bc) (lN P) (lN Q) (lN G) (lN al) (lN pa) (lN pb) cl a0 a1 a2 a3 a4 a5 a6 a7 a8 a9 b0 b1 oc b2 b3 b4 b5)) hD hS hA [0] rfl
        refine va_calli (va_runV (As := [.int 0, .int 1]) (rest := []) ⟨hx, hb, hml, hown, hts⟩ (c_Bm_fails_0 l dC dI cJ cI s.heap.size m0 (nI N) (nI n) (nI bc) (lN P) (lN Q) (lN G) (lN al) (lN pa) (lN pb) cl a0 a1 a2 a3 a4 a5 a6 a7 a8 a9 b0 b1 oc b2 b3 b4 b5 1) (cwV 2 hts (gw_V gk_1030 gk_1032 gp_27 gk_7 gk_1033) rfl rfl rfl (by decide +kernel) ⟨Nat.le_of_ble_eq_true rfl, Nat.le_of_ble_eq_true rfl⟩) ⟨fun a U g mk q => by obtain ⟨q0, q1, qP, qK, qD⟩ := q; exact ⟨q0, q1, qP, va_K.moved (u := U) (U := U.calling g mk a) (Vm.Alike.refl U.vm) qK, qD⟩, va_recv hK hP (ci := 8) (q0 := 0) rfl rfl, fun U hU hW => ⟨rfl, by rw [hU], by rw [hU]; exact hPc, va_K.moved hW.alike hKc, hDc.weaken (fun _ _ _ _ => trivial)⟩⟩ rfl rfl hl.1 rfl (lv_room (Nat.le_of_ble_eq_true rfl)) d_Bm_mayVote_28 ⟨Nat.le_of_ble_eq_true rfl, Nat.le_of_ble_eq_true rfl⟩) hS (fun q _ h => hFc q h) hFc (fun r_4 u9 t9 H1 locs ht hvm hw hB hz1 hk1 hS => ?_)
        have hw : r_4 = 0 := hw
        subst hw
        obtain ⟨hP1, hK1, hD1⟩ := hB
        rw [ht] at hP1
        obtain ⟨hP, hD⟩ := va_join (wr := [(a4, .inl (cI, 4, .inl kf))]) (w1 := [(m0, .inr (8, [.int 0, .int (nI N), .int (nI n), .int (nI bc), .long (lN P), .long (lN Q), .long (lN G), .long (lN al), .long (lN pa), .long (lN pb), .int cl, .ref a0, .ref a1, .ref a2, .ref a3, .ref a4, .ref a5, .ref a6, .ref a7, .ref a8, .ref a9, .ref b0, .ref b1, .int (nI oc), .ref b2, .ref b3, .ref b4, .ref b5]))]) hP hD [0] [1] rfl rfl (by decide) (by decide) hk1 hFc hP1 hD1
        have hP := hP.sub (ws' := [(m0, .inr (8, [.int 0, .int (nI N), .int (nI n), .int (nI bc), .long (lN P), .long (lN Q), .long (lN G), .long (lN al), .long (lN pa), .long (lN pb), .int cl, .ref a0, .ref a1, .ref a2, .ref a3, .ref a4, .ref a5, .ref a6, .ref a7, .ref a8, .ref a9, .ref b0, .ref b1, .int (nI oc), .ref b2, .ref b3, .ref b4, .ref b5])), (a4, .inl (cI, 4, .inl kf))]) [1, 0] rfl
        have hD := hD.sub (ws' := [(m0, .inr (8, [.int 0, .int (nI N), .int (nI n), .int (nI bc), .long (lN P), .long (lN Q), .long (lN G), .long (lN al), .long (lN pa), .long (lN pb), .int cl, .ref a0, .ref a1, .ref a2, .ref a3, .ref a4, .ref a5, .ref a6, .ref a7, .ref a8, .ref a9, .ref b0, .ref b1, .int (nI oc), .ref b2, .ref b3, .ref b4, .ref b5])), (a4, .inl (cI, 4, .inl kf))]) [1, 0] (by decide) rfl
        generalize H1 = H at hP hS ⊢
        refine lv_if_ne (tgt := 61) hx hb d_Bm_mayVote_31 (by decide) (fun c_5 => ?_) (fun c_5 => ?_)
        · -- taken
          exact absurd rfl c_5
        · -- not taken
          refine lv_aload_n hx hb d_Bm_mayVote_34 rfl (lv_at hl 0 rfl) ?_
          refine lv_aload_n hx hb d_Bm_mayVote_35 rfl (lv_at hl 0 rfl) ?_
          refine va_get (D := (dC, dI)) (ci := 8) (v := .int (nI n)) (C := "BallotBoardModel") (T := F_Bm) (N := 28) hx hb hts (fun w9 h9 => List.mem_cons_of_mem _ (i_Bm w9 h9)) hown hK hP 0 rfl rfl 2 (by decide) (hts _ (List.mem_cons_of_mem _ gk_921)) (fun _ h9 => h9) rfl d_Bm_mayVote_36 ?_
          refine lv_sipush (v := 150) hx hb d_Bm_mayVote_39 (by decide) ?_
          refine lv_icmp_lt (tgt := 49) hx hb d_Bm_mayVote_42 (by decide) (fun c_6 => ?_) (fun c_6 => ?_)
          · -- taken
            refine lv_iconst (v := 0) hx hb d_Bm_mayVote_49 (by decide) ?_
            refine lv_iconst (v := 2) hx hb d_Bm_mayVote_50 (by decide) ?_
            have hPc := hP.sub (ws' := (mo_ws m0 0 (nI N) (nI n) (nI bc) (lN P) (lN Q) (lN G) (lN al) (lN pa) (lN pb) cl a0 a1 a2 a3 a4 a5 a6 a7 a8 a9 b0 b1 oc b2 b3 b4 b5)) [0] rfl
            have hDc := hD.sub (ws' := (mo_ws m0 0 (nI N) (nI n) (nI bc) (lN P) (lN Q) (lN G) (lN al) (lN pa) (lN pb) cl a0 a1 a2 a3 a4 a5 a6 a7 a8 a9 b0 b1 oc b2 b3 b4 b5)) [0] (by decide) rfl
            have hKc := hK.sub (tys' := [(cJ, .long), (cI, .int)]) [0, 1] rfl
            have hFc := va_free (wc := (mo_ws m0 0 (nI N) (nI n) (nI bc) (lN P) (lN Q) (lN G) (lN al) (lN pa) (lN pb) cl a0 a1 a2 a3 a4 a5 a6 a7 a8 a9 b0 b1 oc b2 b3 b4 b5)) hD hS hA [0] rfl
            refine va_calli (va_runV (As := [.int 0, .int 2]) (rest := []) ⟨hx, hb, hml, hown, hts⟩ (c_Bm_fails_0 l dC dI cJ cI H.size m0 (nI N) (nI n) (nI bc) (lN P) (lN Q) (lN G) (lN al) (lN pa) (lN pb) cl a0 a1 a2 a3 a4 a5 a6 a7 a8 a9 b0 b1 oc b2 b3 b4 b5 2) (cwV 2 hts (gw_V gk_1030 gk_1032 gp_27 gk_7 gk_1033) rfl rfl rfl (by decide +kernel) ⟨Nat.le_of_ble_eq_true rfl, Nat.le_of_ble_eq_true rfl⟩) ⟨fun a U g mk q => by obtain ⟨q0, q1, qP, qK, qD⟩ := q; exact ⟨q0, q1, qP, va_K.moved (u := U) (U := U.calling g mk a) (Vm.Alike.refl U.vm) qK, qD⟩, va_recv hK hP (ci := 8) (q0 := 0) rfl rfl, fun U hU hW => ⟨rfl, by rw [hU], by rw [hU]; exact hPc, va_K.moved hW.alike hKc, hDc.weaken (fun _ _ _ _ => trivial)⟩⟩ rfl rfl hl.1 rfl (lv_room (Nat.le_of_ble_eq_true rfl)) d_Bm_mayVote_51 ⟨Nat.le_of_ble_eq_true rfl, Nat.le_of_ble_eq_true rfl⟩) hS (fun q _ h => hFc q h) hFc (fun r_7 u9 t9 H1 locs ht hvm hw hB hz1 hk1 hS => ?_)
            have hw : r_7 = 0 := hw
            subst hw
            obtain ⟨hP1, hK1, hD1⟩ := hB
            rw [ht] at hP1
            obtain ⟨hP, hD⟩ := va_join (wr := [(a4, .inl (cI, 4, .inl kf))]) (w1 := [(m0, .inr (8, [.int 0, .int (nI N), .int (nI n), .int (nI bc), .long (lN P), .long (lN Q), .long (lN G), .long (lN al), .long (lN pa), .long (lN pb), .int cl, .ref a0, .ref a1, .ref a2, .ref a3, .ref a4, .ref a5, .ref a6, .ref a7, .ref a8, .ref a9, .ref b0, .ref b1, .int (nI oc), .ref b2, .ref b3, .ref b4, .ref b5]))]) hP hD [0] [1] rfl rfl (by decide) (by decide) hk1 hFc hP1 hD1
            have hP := hP.sub (ws' := [(m0, .inr (8, [.int 0, .int (nI N), .int (nI n), .int (nI bc), .long (lN P), .long (lN Q), .long (lN G), .long (lN al), .long (lN pa), .long (lN pb), .int cl, .ref a0, .ref a1, .ref a2, .ref a3, .ref a4, .ref a5, .ref a6, .ref a7, .ref a8, .ref a9, .ref b0, .ref b1, .int (nI oc), .ref b2, .ref b3, .ref b4, .ref b5])), (a4, .inl (cI, 4, .inl kf))]) [1, 0] rfl
            have hD := hD.sub (ws' := [(m0, .inr (8, [.int 0, .int (nI N), .int (nI n), .int (nI bc), .long (lN P), .long (lN Q), .long (lN G), .long (lN al), .long (lN pa), .long (lN pb), .int cl, .ref a0, .ref a1, .ref a2, .ref a3, .ref a4, .ref a5, .ref a6, .ref a7, .ref a8, .ref a9, .ref b0, .ref b1, .int (nI oc), .ref b2, .ref b3, .ref b4, .ref b5])), (a4, .inl (cI, 4, .inl kf))]) [1, 0] (by decide) rfl
            generalize H1 = H at hP hS ⊢
            refine lv_if_ne (tgt := 61) hx hb d_Bm_mayVote_54 (by decide) (fun c_8 => ?_) (fun c_8 => ?_)
            · -- taken
              exact absurd rfl c_8
            · -- not taken
              refine lv_iconst (v := 1) hx hb d_Bm_mayVote_57 (by decide) ?_
              refine lv_goto (tgt := 62) hx hb d_Bm_mayVote_58 (by decide) ?_
              exact W.zret (v := 1) hx hb hr (by decide) (fun t ht9 hW => ⟨⟨_, (), rfl, rfl, by rw [ht9]; exact hP, va_K.moved hW.alike hK, hD⟩, hS.F ht9⟩) hS.2.2 d_Bm_mayVote_62
          · -- not taken
            exact absurd (show nI n < nI 150 from (nI_ltI (by omega) (by omega)).mpr hn9) c_6
      · -- not taken
        exact absurd (Or.inr (Or.inr (bz_f h16 c_3))) hC1
