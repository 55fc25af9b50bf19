abbrev b_Bm_audit : ByteArray := prog_10_method_48_code
abbrev y_Bm_audit : MethodName := ⟨"BallotBoardModel", "audit", "()I"⟩
abbrev w_Bm_audit : List Cond := .code y_Bm_audit b_Bm_audit 2 (some .int) :: gw
theorem d_Bm_audit_0 : decode b_Bm_audit 0 = .ok (.aload_n 0, 1) := by decide +kernel
theorem d_Bm_audit_1 : decode b_Bm_audit 1 = .ok (.iconst 0, 1) := by decide +kernel
theorem d_Bm_audit_2 : decode b_Bm_audit 2 = .ok (.putfield 131, 3) := by decide +kernel
theorem d_Bm_audit_5 : decode b_Bm_audit 5 = .ok (.aload_n 0, 1) := by decide +kernel
theorem d_Bm_audit_6 : decode b_Bm_audit 6 = .ok (.aload_n 0, 1) := by decide +kernel
theorem d_Bm_audit_7 : decode b_Bm_audit 7 = .ok (.getfield 211, 3) := by decide +kernel
theorem d_Bm_audit_10 : decode b_Bm_audit 10 = .ok (.ifCond .ne 7, 3) := by decide +kernel
theorem d_Bm_audit_13 : decode b_Bm_audit 13 = .ok (.iconst 1, 1) := by decide +kernel
theorem d_Bm_audit_14 : decode b_Bm_audit 14 = .ok (.goto 4, 3) := by decide +kernel
theorem d_Bm_audit_17 : decode b_Bm_audit 17 = .ok (.iconst 0, 1) := by decide +kernel
theorem d_Bm_audit_18 : decode b_Bm_audit 18 = .ok (.iconst 1, 1) := by decide +kernel
theorem d_Bm_audit_19 : decode b_Bm_audit 19 = .ok (.invokevirtual 207, 3) := by decide +kernel
theorem d_Bm_audit_22 : decode b_Bm_audit 22 = .ok (.ifCond .eq 5, 3) := by decide +kernel
theorem d_Bm_audit_25 : decode b_Bm_audit 25 = .ok (.iconst 0, 1) := by decide +kernel
theorem d_Bm_audit_26 : decode b_Bm_audit 26 = .ok (.ireturn, 1) := by decide +kernel
theorem d_Bm_audit_27 : decode b_Bm_audit 27 = .ok (.iconst 0, 1) := by decide +kernel
theorem d_Bm_audit_28 : decode b_Bm_audit 28 = .ok (.istore_n 1, 1) := by decide +kernel
theorem d_Bm_audit_29 : decode b_Bm_audit 29 = .ok (.iload_n 1, 1) := by decide +kernel
theorem d_Bm_audit_30 : decode b_Bm_audit 30 = .ok (.bipush 64, 2) := by decide +kernel
theorem d_Bm_audit_32 : decode b_Bm_audit 32 = .ok (.if_icmp .ge 16, 3) := by decide +kernel
theorem d_Bm_audit_35 : decode b_Bm_audit 35 = .ok (.aload_n 0, 1) := by decide +kernel
theorem d_Bm_audit_36 : decode b_Bm_audit 36 = .ok (.getfield 128, 3) := by decide +kernel
theorem d_Bm_audit_39 : decode b_Bm_audit 39 = .ok (.iload_n 1, 1) := by decide +kernel
theorem d_Bm_audit_40 : decode b_Bm_audit 40 = .ok (.iconst (-1), 1) := by decide +kernel
theorem d_Bm_audit_41 : decode b_Bm_audit 41 = .ok (.iastore, 1) := by decide +kernel
theorem d_Bm_audit_42 : decode b_Bm_audit 42 = .ok (.iinc 1 1, 3) := by decide +kernel
theorem d_Bm_audit_45 : decode b_Bm_audit 45 = .ok (.goto (-16), 3) := by decide +kernel
theorem d_Bm_audit_48 : decode b_Bm_audit 48 = .ok (.iconst 0, 1) := by decide +kernel
theorem d_Bm_audit_49 : decode b_Bm_audit 49 = .ok (.istore_n 1, 1) := by decide +kernel
theorem d_Bm_audit_50 : decode b_Bm_audit 50 = .ok (.iload_n 1, 1) := by decide +kernel
theorem d_Bm_audit_51 : decode b_Bm_audit 51 = .ok (.aload_n 0, 1) := by decide +kernel
theorem d_Bm_audit_52 : decode b_Bm_audit 52 = .ok (.getfield 214, 3) := by decide +kernel
theorem d_Bm_audit_55 : decode b_Bm_audit 55 = .ok (.if_icmp .ge 19, 3) := by decide +kernel
theorem d_Bm_audit_58 : decode b_Bm_audit 58 = .ok (.aload_n 0, 1) := by decide +kernel
theorem d_Bm_audit_59 : decode b_Bm_audit 59 = .ok (.iload_n 1, 1) := by decide +kernel
theorem d_Bm_audit_60 : decode b_Bm_audit 60 = .ok (.invokevirtual 304, 3) := by decide +kernel
theorem d_Bm_audit_63 : decode b_Bm_audit 63 = .ok (.ifCond .ne 5, 3) := by decide +kernel
theorem d_Bm_audit_66 : decode b_Bm_audit 66 = .ok (.iload_n 1, 1) := by decide +kernel
theorem d_Bm_audit_67 : decode b_Bm_audit 67 = .ok (.ireturn, 1) := by decide +kernel
theorem d_Bm_audit_68 : decode b_Bm_audit 68 = .ok (.iinc 1 1, 3) := by decide +kernel
theorem d_Bm_audit_71 : decode b_Bm_audit 71 = .ok (.goto (-21), 3) := by decide +kernel
theorem d_Bm_audit_74 : decode b_Bm_audit 74 = .ok (.iconst (-1), 1) := by decide +kernel
theorem d_Bm_audit_75 : decode b_Bm_audit 75 = .ok (.ireturn, 1) := by decide +kernel
set_option maxHeartbeats 8000000 in
set_option maxRecDepth 100000 in
theorem c_Bm_audit_1 (l : Launch) (dC : Nat → ClassId) (dI : Nat → Nat → Nat) (cJ cI : ClassId) (sz : Nat) (m0 : Nat) (z0 z1 z2 z3 : Int32) (z4 z5 z6 z7 z8 z9 : Int64) (z10 : Int32) (a0 a1 a2 a3 a4 a5 a6 a7 a8 a9 b0 b1 oc b2 b3 b4 b5 : Nat) (ct : Nat → Int32)   (hN0 : z1 = 0) : Met l y_Bm_audit w_Bm_audit ({ frames := 1, cells := 0, slots := 0, locals := 22 }) (va_Pc [.ref m0] (fun U => U.heap.size = sz ∧ va_P (dC, dI) classes (mo_ws m0 z0 z1 z2 z3 z4 z5 z6 z7 z8 z9 z10 a0 a1 a2 a3 a4 a5 a6 a7 a8 a9 b0 b1 oc b2 b3 b4 b5 ++ (iw_ws b5 cI 64 ct)) U.heap ∧ va_K (dC, dI) classes [(cJ, .long), (cI, .int)] U ∧ va_D (fun _ => True) (mo_ws m0 z0 z1 z2 z3 z4 z5 z6 z7 z8 z9 z10 a0 a1 a2 a3 a4 a5 a6 a7 a8 a9 b0 b1 oc b2 b3 b4 b5 ++ (iw_ws b5 cI 64 ct)))) (va_Qi (fun (r : Int32) (_ : Unit) => True) (fun _ t => va_P (dC, dI) classes (mo_ws m0 1 z1 z2 z3 z4 z5 z6 z7 z8 z9 z10 a0 a1 a2 a3 a4 a5 a6 a7 a8 a9 b0 b1 oc b2 b3 b4 b5 ++ (iw_ws b5 cI 64 ct)) t.heap ∧ va_K (dC, dI) classes [(cJ, .long), (cI, .int)] t ∧ va_D (va_A (mo_ws m0 z0 z1 z2 z3 z4 z5 z6 z7 z8 z9 z10 a0 a1 a2 a3 a4 a5 a6 a7 a8 a9 b0 b1 oc b2 b3 b4 b5 ++ (iw_ws b5 cI 64 ct)) sz) (mo_ws m0 1 z1 z2 z3 z4 z5 z6 z7 z8 z9 z10 a0 a1 a2 a3 a4 a5 a6 a7 a8 a9 b0 b1 oc b2 b3 b4 b5 ++ (iw_ws b5 cI 64 ct))) (va_A (mo_ws m0 z0 z1 z2 z3 z4 z5 z6 z7 z8 z9 z10 a0 a1 a2 a3 a4 a5 a6 a7 a8 a9 b0 b1 oc b2 b3 b4 b5 ++ (iw_ws b5 cI 64 ct)) sz)) 0 0 (va_A (mo_ws m0 z0 z1 z2 z3 z4 z5 z6 z7 z8 z9 z10 a0 a1 a2 a3 a4 a5 a6 a7 a8 a9 b0 b1 oc b2 b3 b4 b5 ++ (iw_ws b5 cI 64 ct)) sz) := by
  refine Met.ofW (cc := b_Bm_audit) (maxL := 2) (ret := (some .int)) (by decide) rfl ?_
  intro p e s m args below meth c s₁ Bd hml hv
  obtain ⟨rfl, hsz, hP, hK, hD0⟩ := hv
  have hx := Bd.exec
  have hb := Bd.bytes
  have hr := Bd.returns
  have hts := atoms_spec (ws := w_Bm_audit) Bd.pre
  have hown : s.vm.findClass "BallotBoardModel" = some m.cls := findClass_of_methodNamed Bd.named
  have hlocks := Bd.notSynchronized
  subst hsz
  have hD := hD0.self (sz := s.heap.size)
  generalize hAe : va_A (mo_ws m0 z0 z1 z2 z3 z4 z5 z6 z7 z8 z9 z10 a0 a1 a2 a3 a4 a5 a6 a7 a8 a9 b0 b1 oc b2 b3 b4 b5 ++ (iw_ws b5 cI 64 ct)) s.heap.size = A at hD ⊢
  have hA : ∀ q : Nat, s.heap.size ≤ q → A q := fun q h => by rw [← hAe]; exact Or.inr h
  have hS : va_S A s.heap s.heap [] := va_S.rf
  have hl := lv_entry ([.ref m0]) (n := 2) (Nat.le_of_ble_eq_true rfl)
  rw [lg_entry_eq]
  generalize (lg_sl ([.ref m0]) ++ List.replicate (2 - (lg_sl ([.ref m0])).length) Slot.unset).toArray = ls at hl ⊢
  have hl : lv_has ls 2 [(0, .ref m0)] := hl
  refine lv_aload_n hx hb d_Bm_audit_0 rfl (lv_at hl 0 rfl) ?_
  refine lv_iconst (v := 0) hx hb d_Bm_audit_1 (by decide) ?_
  refine va_put (D := (dC, dI)) (ci := 8) (v := .int 0) (ty := .int) (C := "BallotBoardModel") (T := F_Bm) (N := 28) hx hb hts (fun w9 h9 => List.mem_cons_of_mem _ (i_Bm w9 h9)) t_Bm t_Bm_ok n_Bm hown hK hP hD hS 0 rfl rfl 0 (by decide) (hts _ (List.mem_cons_of_mem _ gk_919)) (fun _ h9 => h9) rfl (by decide +kernel) rfl rfl (Nat.le_of_ble_eq_true rfl) d_Bm_audit_2 (fun H locs hP hD hS => ?_)
  have hP : va_P (dC, dI) classes [(m0, .inr (8, [.int 0, .int z1, .int z2, .int z3, .long z4, .long z5, .long z6, .long z7, .long z8, .long z9, .int z10, .ref a0, .ref a1, .ref a2, .ref a3, .ref a4, .ref a5, .ref a6, .ref a7, .ref a8, .ref a9, .ref b0, .ref b1, .int (nI oc), .ref b2, .ref b3, .ref b4, .ref b5])), (b5, .inl (cI, 64, .inl ct))] H := hP
  have hD : va_D A [(m0, .inr (8, [.int 0, .int z1, .int z2, .int z3, .long z4, .long z5, .long z6, .long z7, .long z8, .long z9, .int z10, .ref a0, .ref a1, .ref a2, .ref a3, .ref a4, .ref a5, .ref a6, .ref a7, .ref a8, .ref a9, .ref b0, .ref b1, .int (nI oc), .ref b2, .ref b3, .ref b4, .ref b5])), (b5, .inl (cI, 64, .inl ct))] := hD
  refine lv_aload_n hx hb d_Bm_audit_5 rfl (lv_at hl 0 rfl) ?_
  refine lv_aload_n hx hb d_Bm_audit_6 rfl (lv_at hl 0 rfl) ?_
  refine va_get (D := (dC, dI)) (ci := 8) (v := .int z1) (C := "BallotBoardModel") (T := F_Bm) (N := 28) hx hb hts (fun w9 h9 => List.mem_cons_of_mem _ (i_Bm w9 h9)) hown hK hP 0 rfl rfl 1 (by decide) (hts _ (List.mem_cons_of_mem _ gk_920)) (fun _ h9 => h9) rfl d_Bm_audit_7 ?_
  refine lv_if_ne (tgt := 17) hx hb d_Bm_audit_10 (by decide) (fun c_1 => ?_) (fun c_1 => ?_)
  · -- taken
    exact absurd hN0 c_1
  · -- not taken
    refine lv_iconst (v := 1) hx hb d_Bm_audit_13 (by decide) ?_
    refine lv_goto (tgt := 18) hx hb d_Bm_audit_14 (by decide) ?_
    refine lv_iconst (v := 1) hx hb d_Bm_audit_18 (by decide) ?_
    have hPc := hP.sub (ws' := (mo_ws m0 0 z1 z2 z3 z4 z5 z6 z7 z8 z9 z10 a0 a1 a2 a3 a4 a5 a6 a7 a8 a9 b0 b1 oc b2 b3 b4 b5)) [0] rfl
    have hDc := hD.sub (ws' := (mo_ws m0 0 z1 z2 z3 z4 z5 z6 z7 z8 z9 z10 a0 a1 a2 a3 a4 a5 a6 a7 a8 a9 b0 b1 oc b2 b3 b4 b5)) [0] (by decide) rfl
    have hKc := hK.sub (tys' := [(cJ, .long), (cI, .int)]) [0, 1] rfl
    have hFc := va_free (wc := (mo_ws m0 0 z1 z2 z3 z4 z5 z6 z7 z8 z9 z10 a0 a1 a2 a3 a4 a5 a6 a7 a8 a9 b0 b1 oc b2 b3 b4 b5)) hD hS hA [0] rfl
    refine va_calli (va_runV (As := [.int 1, .int 1]) (rest := []) ⟨hx, hb, hml, hown, hts⟩ (c_Bm_fails_1 l dC dI cJ cI H.size m0 z1 z2 z3 z4 z5 z6 z7 z8 z9 z10 a0 a1 a2 a3 a4 a5 a6 a7 a8 a9 b0 b1 oc b2 b3 b4 b5 1 (by decide)) (cwV 2 hts (gw_V gk_1030 gk_1032 gp_27 gk_7 gk_1033) rfl rfl rfl (by decide +kernel) ⟨Nat.le_of_ble_eq_true rfl, Nat.le_of_ble_eq_true rfl⟩) ⟨fun a U g mk q => by obtain ⟨q0, q1, qP, qK, qD⟩ := q; exact ⟨q0, q1, qP, va_K.moved (u := U) (U := U.calling g mk a) (Vm.Alike.refl U.vm) qK, qD⟩, va_recv hK hP (ci := 8) (q0 := 0) rfl rfl, fun U hU hW => ⟨rfl, by rw [hU], by rw [hU]; exact hPc, va_K.moved hW.alike hKc, hDc.weaken (fun _ _ _ _ => trivial)⟩⟩ rfl rfl hl.1 rfl (lv_room (Nat.le_of_ble_eq_true rfl)) d_Bm_audit_19 ⟨Nat.le_of_ble_eq_true rfl, Nat.le_of_ble_eq_true rfl⟩) hS (fun q _ h => hFc q h) hFc (fun r_2 u9 t9 H1 locs ht hvm hw hB hz1 hk1 hS => ?_)
    have hw : r_2 = 1 := hw
    subst hw
    obtain ⟨hP1, hK1, hD1⟩ := hB
    rw [ht] at hP1
    obtain ⟨hP, hD⟩ := va_join (wr := [(b5, .inl (cI, 64, .inl ct))]) (w1 := [(m0, .inr (8, [.int 1, .int z1, .int z2, .int z3, .long z4, .long z5, .long z6, .long z7, .long z8, .long z9, .int z10, .ref a0, .ref a1, .ref a2, .ref a3, .ref a4, .ref a5, .ref a6, .ref a7, .ref a8, .ref a9, .ref b0, .ref b1, .int (nI oc), .ref b2, .ref b3, .ref b4, .ref b5]))]) hP hD [0] [1] rfl rfl (by decide) (by decide) hk1 hFc hP1 hD1
    have hP := hP.sub (ws' := [(m0, .inr (8, [.int 1, .int z1, .int z2, .int z3, .long z4, .long z5, .long z6, .long z7, .long z8, .long z9, .int z10, .ref a0, .ref a1, .ref a2, .ref a3, .ref a4, .ref a5, .ref a6, .ref a7, .ref a8, .ref a9, .ref b0, .ref b1, .int (nI oc), .ref b2, .ref b3, .ref b4, .ref b5])), (b5, .inl (cI, 64, .inl ct))]) [1, 0] rfl
    have hD := hD.sub (ws' := [(m0, .inr (8, [.int 1, .int z1, .int z2, .int z3, .long z4, .long z5, .long z6, .long z7, .long z8, .long z9, .int z10, .ref a0, .ref a1, .ref a2, .ref a3, .ref a4, .ref a5, .ref a6, .ref a7, .ref a8, .ref a9, .ref b0, .ref b1, .int (nI oc), .ref b2, .ref b3, .ref b4, .ref b5])), (b5, .inl (cI, 64, .inl ct))]) [1, 0] (by decide) rfl
    generalize H1 = H at hP hS ⊢
    refine lv_if_eq (tgt := 27) hx hb d_Bm_audit_22 (by decide) (fun c_3 => ?_) (fun c_3 => ?_)
    · -- taken
      exact absurd c_3 (by decide)
    · -- not taken
      refine lv_iconst (v := 0) hx hb d_Bm_audit_25 (by decide) ?_
      exact W.iret (v := 0) hx hb hr (fun t ht9 hW => ⟨⟨_, (), rfl, trivial, by rw [ht9]; exact hP, va_K.moved hW.alike hK, hD⟩, hS.F ht9⟩) hS.2.2 d_Bm_audit_26
set_option maxHeartbeats 8000000 in
set_option maxRecDepth 100000 in
theorem c_Bm_audit_0 (l : Launch) (dC : Nat → ClassId) (dI : Nat → Nat → Nat) (cJ cI : ClassId) (sz : Nat) (m0 : Nat) (e0 : Int32) (N n bc P Q G al pa pb : Nat) (cl : Int32) (a0 a1 a2 a3 a4 a5 a6 a7 a8 a9 b0 b1 oc b2 b3 b4 b5 : Nat) (bf sc st kf ct : Nat → Int32) (tf nf cf lf : Nat → Int64) (T0 : TS) (kd wh : Nat → Nat) (R Lk : Nat → Nat → Int64) (hPQ : P = 2 * Q + 1) (h61F : P < 2 ^ 61) (hQ3 : 3 ≤ Q) (hG2 : 2 ≤ G) (hGP : G < P) (hGQ : G ^ Q % P = 1) (hN : N ≤ 4) (hN0 : 0 < N) (hwf : wfE n N kd wh R) (hE : EI n N kd wh) (hnf : ∀ e, e < n → ∀ j, j < wdt (kd e) → nf (8 * e + j) = R e j) (hcf : ∀ e, e < n → ∀ j, j < 4 → cf (4 * e + j) = Lk e j) (hkf : ∀ e, e < n → kd e = 1 → kf (wh e) = nI e) (h0k : tOk P N (tStart N T0)) : Met l y_Bm_audit w_Bm_audit ({ frames := 8, cells := 0, slots := 0, locals := 277 }) (va_Pc [.ref m0] (fun U => U.heap.size = sz ∧ va_P (dC, dI) classes (mo_ws m0 e0 (nI N) (nI n) (nI bc) (lN P) (lN Q) (lN G) (lN al) (lN pa) (lN pb) cl a0 a1 a2 a3 a4 a5 a6 a7 a8 a9 b0 b1 oc b2 b3 b4 b5 ++ (iw_ws a7 cI 256 bf ++ (iw_ws a8 cI 64 sc ++ (iw_ws a9 cI 8 st ++ (iw_ws b0 cI 8 kS ++ (iw_ws b1 cI 64 kR ++ (jw_ws a2 cJ 4 tf ++ (jw_ws a0 cJ 1232 nf ++ (jw_ws a1 cJ 616 cf ++ (iw_ws a4 cI 4 kf ++ (iw_ws b5 cI 64 ct ++ (jw_ws a3 cJ 16 lf)))))))))))) U.heap ∧ va_K (dC, dI) classes [(cJ, .long), (cI, .int)] U ∧ va_D (fun _ => True) (mo_ws m0 e0 (nI N) (nI n) (nI bc) (lN P) (lN Q) (lN G) (lN al) (lN pa) (lN pb) cl a0 a1 a2 a3 a4 a5 a6 a7 a8 a9 b0 b1 oc b2 b3 b4 b5 ++ (iw_ws a7 cI 256 bf ++ (iw_ws a8 cI 64 sc ++ (iw_ws a9 cI 8 st ++ (iw_ws b0 cI 8 kS ++ (iw_ws b1 cI 64 kR ++ (jw_ws a2 cJ 4 tf ++ (jw_ws a0 cJ 1232 nf ++ (jw_ws a1 cJ 616 cf ++ (iw_ws a4 cI 4 kf ++ (iw_ws b5 cI 64 ct ++ (jw_ws a3 cJ 16 lf)))))))))))))) (va_Qi (fun (r : Int32) (u9 : DU × (Nat → Int64) × (Nat → Int32)) => fwr n (hds P Q G N T0 kd wh R Lk) r) (fun u9 t => va_P (dC, dI) classes (mo_ws m0 0 (nI N) (nI n) (nI bc) (lN P) (lN Q) (lN G) (lN al) (lN pa) (lN pb) cl a0 a1 a2 a3 a4 a5 a6 a7 a8 a9 b0 b1 u9.1.2.2.2.2 b2 b3 b4 b5 ++ (iw_ws a7 cI 256 u9.1.1 ++ (iw_ws a8 cI 64 u9.1.2.1 ++ (iw_ws a9 cI 8 u9.1.2.2.1 ++ (iw_ws b0 cI 8 kS ++ (iw_ws b1 cI 64 kR ++ (jw_ws a2 cJ 4 u9.1.2.2.2.1 ++ (jw_ws a0 cJ 1232 nf ++ (jw_ws a1 cJ 616 cf ++ (iw_ws a4 cI 4 kf ++ (iw_ws b5 cI 64 u9.2.2 ++ (jw_ws a3 cJ 16 u9.2.1)))))))))))) t.heap ∧ va_K (dC, dI) classes [(cJ, .long), (cI, .int)] t ∧ va_D (va_A (mo_ws m0 e0 (nI N) (nI n) (nI bc) (lN P) (lN Q) (lN G) (lN al) (lN pa) (lN pb) cl a0 a1 a2 a3 a4 a5 a6 a7 a8 a9 b0 b1 oc b2 b3 b4 b5 ++ (iw_ws a7 cI 256 bf ++ (iw_ws a8 cI 64 sc ++ (iw_ws a9 cI 8 st ++ (iw_ws b0 cI 8 kS ++ (iw_ws b1 cI 64 kR ++ (jw_ws a2 cJ 4 tf ++ (jw_ws a0 cJ 1232 nf ++ (jw_ws a1 cJ 616 cf ++ (iw_ws a4 cI 4 kf ++ (iw_ws b5 cI 64 ct ++ (jw_ws a3 cJ 16 lf)))))))))))) sz) (mo_ws m0 0 (nI N) (nI n) (nI bc) (lN P) (lN Q) (lN G) (lN al) (lN pa) (lN pb) cl a0 a1 a2 a3 a4 a5 a6 a7 a8 a9 b0 b1 u9.1.2.2.2.2 b2 b3 b4 b5 ++ (iw_ws a7 cI 256 u9.1.1 ++ (iw_ws a8 cI 64 u9.1.2.1 ++ (iw_ws a9 cI 8 u9.1.2.2.1 ++ (iw_ws b0 cI 8 kS ++ (iw_ws b1 cI 64 kR ++ (jw_ws a2 cJ 4 u9.1.2.2.2.1 ++ (jw_ws a0 cJ 1232 nf ++ (jw_ws a1 cJ 616 cf ++ (iw_ws a4 cI 4 kf ++ (iw_ws b5 cI 64 u9.2.2 ++ (jw_ws a3 cJ 16 u9.2.1))))))))))))) (va_A (mo_ws m0 e0 (nI N) (nI n) (nI bc) (lN P) (lN Q) (lN G) (lN al) (lN pa) (lN pb) cl a0 a1 a2 a3 a4 a5 a6 a7 a8 a9 b0 b1 oc b2 b3 b4 b5 ++ (iw_ws a7 cI 256 bf ++ (iw_ws a8 cI 64 sc ++ (iw_ws a9 cI 8 st ++ (iw_ws b0 cI 8 kS ++ (iw_ws b1 cI 64 kR ++ (jw_ws a2 cJ 4 tf ++ (jw_ws a0 cJ 1232 nf ++ (jw_ws a1 cJ 616 cf ++ (iw_ws a4 cI 4 kf ++ (iw_ws b5 cI 64 ct ++ (jw_ws a3 cJ 16 lf)))))))))))) sz)) 0 0 (va_A (mo_ws m0 e0 (nI N) (nI n) (nI bc) (lN P) (lN Q) (lN G) (lN al) (lN pa) (lN pb) cl a0 a1 a2 a3 a4 a5 a6 a7 a8 a9 b0 b1 oc b2 b3 b4 b5 ++ (iw_ws a7 cI 256 bf ++ (iw_ws a8 cI 64 sc ++ (iw_ws a9 cI 8 st ++ (iw_ws b0 cI 8 kS ++ (iw_ws b1 cI 64 kR ++ (jw_ws a2 cJ 4 tf ++ (jw_ws a0 cJ 1232 nf ++ (jw_ws a1 cJ 616 cf ++ (iw_ws a4 cI 4 kf ++ (iw_ws b5 cI 64 ct ++ (jw_ws a3 cJ 16 lf)))))))))))) sz) := by
  refine Met.ofW (cc := b_Bm_audit) (maxL := 2) (ret := (some .int)) (by decide) rfl ?_
  intro p e s m args below meth c s₁ Bd hml hv
  obtain ⟨rfl, hsz, hP, hK, hD0⟩ := hv
  have hx := Bd.exec
  have hb := Bd.bytes
  have hr := Bd.returns
  have hts := atoms_spec (ws := w_Bm_audit) Bd.pre
  have hown : s.vm.findClass "BallotBoardModel" = some m.cls := findClass_of_methodNamed Bd.named
  have hlocks := Bd.notSynchronized
  subst hsz
  have hD := hD0.self (sz := s.heap.size)
  generalize hAe : va_A (mo_ws m0 e0 (nI N) (nI n) (nI bc) (lN P) (lN Q) (lN G) (lN al) (lN pa) (lN pb) cl a0 a1 a2 a3 a4 a5 a6 a7 a8 a9 b0 b1 oc b2 b3 b4 b5 ++ (iw_ws a7 cI 256 bf ++ (iw_ws a8 cI 64 sc ++ (iw_ws a9 cI 8 st ++ (iw_ws b0 cI 8 kS ++ (iw_ws b1 cI 64 kR ++ (jw_ws a2 cJ 4 tf ++ (jw_ws a0 cJ 1232 nf ++ (jw_ws a1 cJ 616 cf ++ (iw_ws a4 cI 4 kf ++ (iw_ws b5 cI 64 ct ++ (jw_ws a3 cJ 16 lf)))))))))))) s.heap.size = A at hD ⊢
  have hA : ∀ q : Nat, s.heap.size ≤ q → A q := fun q h => by rw [← hAe]; exact Or.inr h
  have hS : va_S A s.heap s.heap [] := va_S.rf
  have hl := lv_entry ([.ref m0]) (n := 2) (Nat.le_of_ble_eq_true rfl)
  rw [lg_entry_eq]
  generalize (lg_sl ([.ref m0]) ++ List.replicate (2 - (lg_sl ([.ref m0])).length) Slot.unset).toArray = ls at hl ⊢
  have hl : lv_has ls 2 [(0, .ref m0)] := hl
  have hn154 := hwf.1
  have loop2 : ∀ (j k : Nat), k + j = n → (∀ i, i < k → hds P Q G N T0 kd wh R Lk i) → ∀ (bf sc st ct : Nat → Int32) (tf lf : Nat → Int64) (oc : Nat), CR k (aud P N T0 kd wh R k) R ct → ∀ (H : Heap) (locs : List Loc), va_S A s.heap H locs → va_P (dC, dI) classes (mo_ws m0 0 (nI N) (nI n) (nI bc) (lN P) (lN Q) (lN G) (lN al) (lN pa) (lN pb) cl a0 a1 a2 a3 a4 a5 a6 a7 a8 a9 b0 b1 oc b2 b3 b4 b5 ++ (iw_ws a7 cI 256 bf ++ (iw_ws a8 cI 64 sc ++ (iw_ws a9 cI 8 st ++ (iw_ws b0 cI 8 kS ++ (iw_ws b1 cI 64 kR ++ (jw_ws a2 cJ 4 tf ++ (jw_ws a0 cJ 1232 nf ++ (jw_ws a1 cJ 616 cf ++ (iw_ws a4 cI 4 kf ++ (iw_ws b5 cI 64 ct ++ (jw_ws a3 cJ 16 lf)))))))))))) H → va_D A (mo_ws m0 0 (nI N) (nI n) (nI bc) (lN P) (lN Q) (lN G) (lN al) (lN pa) (lN pb) cl a0 a1 a2 a3 a4 a5 a6 a7 a8 a9 b0 b1 oc b2 b3 b4 b5 ++ (iw_ws a7 cI 256 bf ++ (iw_ws a8 cI 64 sc ++ (iw_ws a9 cI 8 st ++ (iw_ws b0 cI 8 kS ++ (iw_ws b1 cI 64 kR ++ (jw_ws a2 cJ 4 tf ++ (jw_ws a0 cJ 1232 nf ++ (jw_ws a1 cJ 616 cf ++ (iw_ws a4 cI 4 kf ++ (iw_ws b5 cI 64 ct ++ (jw_ws a3 cJ 16 lf)))))))))))) → ∀ (ls : Array Slot), lv_has ls 2 [(0, .ref m0), (1, .int (nI k))] → W p l e ({ frames := 8, cells := 0, slots := 0, locals := 277 } : Room) s m ([.ref m0] : List Value).toArray below meth c H locs 0 0 (MQ below (va_Qi (fun (r : Int32) (u9 : DU × (Nat → Int64) × (Nat → Int32)) => fwr n (hds P Q G N T0 kd wh R Lk) r) (fun u9 t => va_P (dC, dI) classes (mo_ws m0 0 (nI N) (nI n) (nI bc) (lN P) (lN Q) (lN G) (lN al) (lN pa) (lN pb) cl a0 a1 a2 a3 a4 a5 a6 a7 a8 a9 b0 b1 u9.1.2.2.2.2 b2 b3 b4 b5 ++ (iw_ws a7 cI 256 u9.1.1 ++ (iw_ws a8 cI 64 u9.1.2.1 ++ (iw_ws a9 cI 8 u9.1.2.2.1 ++ (iw_ws b0 cI 8 kS ++ (iw_ws b1 cI 64 kR ++ (jw_ws a2 cJ 4 u9.1.2.2.2.1 ++ (jw_ws a0 cJ 1232 nf ++ (jw_ws a1 cJ 616 cf ++ (iw_ws a4 cI 4 kf ++ (iw_ws b5 cI 64 u9.2.2 ++ (jw_ws a3 cJ 16 u9.2.1)))))))))))) t.heap ∧ va_K (dC, dI) classes [(cJ, .long), (cI, .int)] t ∧ va_D A (mo_ws m0 0 (nI N) (nI n) (nI bc) (lN P) (lN Q) (lN G) (lN al) (lN pa) (lN pb) cl a0 a1 a2 a3 a4 a5 a6 a7 a8 a9 b0 b1 u9.1.2.2.2.2 b2 b3 b4 b5 ++ (iw_ws a7 cI 256 u9.1.1 ++ (iw_ws a8 cI 64 u9.1.2.1 ++ (iw_ws a9 cI 8 u9.1.2.2.1 ++ (iw_ws b0 cI 8 kS ++ (iw_ws b1 cI 64 kR ++ (jw_ws a2 cJ 4 u9.1.2.2.2.1 ++ (jw_ws a0 cJ 1232 nf ++ (jw_ws a1 cJ 616 cf ++ (iw_ws a4 cI 4 kf ++ (iw_ws b5 cI 64 u9.2.2 ++ (jw_ws a3 cJ 16 u9.2.1))))))))))))) A) ([.ref m0] : List Value).toArray s 0 0 A) (F0 m 50 ls []) := by
    intro j
    induction j using Nat.strongRecOn with
    | ind j ih =>
      intro k hkj hall bf sc st ct tf lf oc hCR H locs hS hP hD ls hl
      refine lv_iload_n hx hb d_Bm_audit_50 rfl (lv_at hl 1 rfl) ?_
      refine lv_aload_n hx hb d_Bm_audit_51 rfl (lv_at hl 0 rfl) ?_
      refine va_get (D := (dC, dI)) (ci := 8) (v := .int (nI n)) (C := "BallotBoardModel") (T := F_Bm) (N := 28) hx hb hts (fun w9 h9 => List.mem_cons_of_mem _ (i_Bm w9 h9)) hown hK hP 0 rfl rfl 2 (by decide) (hts _ (List.mem_cons_of_mem _ gk_921)) (fun _ h9 => h9) rfl d_Bm_audit_52 ?_
      refine lv_icmp_ge (tgt := 74) hx hb d_Bm_audit_55 (by decide) (fun c_1 => ?_) (fun c_1 => ?_)
      · -- taken
        have hge : n ≤ k := (nI_leI (by omega) (by omega)).mp c_1
        refine lv_iconst (v := (-1)) hx hb d_Bm_audit_74 (by decide) ?_
        exact W.iret (v := (-1)) hx hb hr (fun t ht9 hW => ⟨⟨_, ((bf, sc, st, tf, oc), lf, ct), rfl, (Or.inr ⟨rfl, fun i hi => hall i (by omega)⟩), by rw [ht9]; exact hP, va_K.moved hW.alike hK, hD⟩, hS.F ht9⟩) hS.2.2 d_Bm_audit_75
      · -- not taken
        have hlt : k < n := Nat.lt_of_not_le (fun h => c_1 ((nI_leI (by omega) (by omega)).mpr h))
        obtain ⟨hkd, _⟩ := hwf.2.1 k hlt
        rcases hkd with hkK | hkK | hkK
        · rcases Nat.eq_zero_or_pos k with hk0 | hk0
          · -- the first
            refine lv_aload_n hx hb d_Bm_audit_58 rfl (lv_at hl 0 rfl) ?_
            refine lv_iload_n hx hb d_Bm_audit_59 rfl (lv_at hl 1 rfl) ?_
            have hPc := hP.sub (ws' := (mo_ws m0 0 (nI N) (nI n) (nI bc) (lN P) (lN Q) (lN G) (lN al) (lN pa) (lN pb) cl a0 a1 a2 a3 a4 a5 a6 a7 a8 a9 b0 b1 oc b2 b3 b4 b5 ++ (iw_ws a7 cI 256 bf ++ (iw_ws a8 cI 64 sc ++ (iw_ws a9 cI 8 st ++ (iw_ws b0 cI 8 kS ++ (iw_ws b1 cI 64 kR ++ (jw_ws a2 cJ 4 tf ++ (jw_ws a0 cJ 1232 nf ++ (jw_ws a1 cJ 616 cf ++ (iw_ws a4 cI 4 kf ++ (iw_ws b5 cI 64 ct ++ (jw_ws a3 cJ 16 lf))))))))))))) [0, 1, 2, 3, 4, 5, 6, 7, 8, 9, 10, 11] rfl
            have hDc := hD.sub (ws' := (mo_ws m0 0 (nI N) (nI n) (nI bc) (lN P) (lN Q) (lN G) (lN al) (lN pa) (lN pb) cl a0 a1 a2 a3 a4 a5 a6 a7 a8 a9 b0 b1 oc b2 b3 b4 b5 ++ (iw_ws a7 cI 256 bf ++ (iw_ws a8 cI 64 sc ++ (iw_ws a9 cI 8 st ++ (iw_ws b0 cI 8 kS ++ (iw_ws b1 cI 64 kR ++ (jw_ws a2 cJ 4 tf ++ (jw_ws a0 cJ 1232 nf ++ (jw_ws a1 cJ 616 cf ++ (iw_ws a4 cI 4 kf ++ (iw_ws b5 cI 64 ct ++ (jw_ws a3 cJ 16 lf))))))))))))) [0, 1, 2, 3, 4, 5, 6, 7, 8, 9, 10, 11] (by decide) rfl
            have hKc := hK.sub (tys' := [(cJ, .long), (cI, .int)]) [0, 1] rfl
            have hFc := va_free (wc := (mo_ws m0 0 (nI N) (nI n) (nI bc) (lN P) (lN Q) (lN G) (lN al) (lN pa) (lN pb) cl a0 a1 a2 a3 a4 a5 a6 a7 a8 a9 b0 b1 oc b2 b3 b4 b5 ++ (iw_ws a7 cI 256 bf ++ (iw_ws a8 cI 64 sc ++ (iw_ws a9 cI 8 st ++ (iw_ws b0 cI 8 kS ++ (iw_ws b1 cI 64 kR ++ (jw_ws a2 cJ 4 tf ++ (jw_ws a0 cJ 1232 nf ++ (jw_ws a1 cJ 616 cf ++ (iw_ws a4 cI 4 kf ++ (iw_ws b5 cI 64 ct ++ (jw_ws a3 cJ 16 lf))))))))))))) hD hS hA [0, 1, 2, 3, 4, 5, 6, 7, 8, 9, 10, 11] rfl
            refine va_calli (va_runV (As := [.int (nI k)]) (rest := []) ⟨hx, hb, hml, hown, hts⟩ (c_Bm_holds_10 l dC dI cJ cI H.size m0 0 N n bc P Q G al pa pb cl a0 a1 a2 a3 a4 a5 a6 a7 a8 a9 b0 b1 oc b2 b3 b4 b5 bf sc st kf ct tf nf cf lf T0 kd wh R Lk k hPQ h61F hQ3 hG2 hGP hGQ hN hN0 hwf hE hnf hcf hkf h0k hlt hkK hk0 hall hCR) (cwV 1 hts (gw_V gk_1194 gk_1196 gp_53 gk_7 gk_1197) rfl rfl rfl (by decide +kernel) ⟨Nat.le_of_ble_eq_true rfl, Nat.le_of_ble_eq_true rfl⟩) ⟨fun a U g mk q => by obtain ⟨q0, q1, qP, qK, qD⟩ := q; exact ⟨q0, q1, qP, va_K.moved (u := U) (U := U.calling g mk a) (Vm.Alike.refl U.vm) qK, qD⟩, va_recv hK hP (ci := 8) (q0 := 0) rfl rfl, fun U hU hW => ⟨rfl, by rw [hU], by rw [hU]; exact hPc, va_K.moved hW.alike hKc, hDc.weaken (fun _ _ _ _ => trivial)⟩⟩ rfl rfl hl.1 rfl (lv_room (Nat.le_of_ble_eq_true rfl)) d_Bm_audit_60 ⟨Nat.le_of_ble_eq_true rfl, Nat.le_of_ble_eq_true rfl⟩) hS (fun q _ h => hFc q h) hFc (fun r_3 u9 t9 H1 locs ht hvm hw hB hz1 hk1 hS => ?_)
            obtain ⟨⟨gbk_2, gsk_2, gtk_2, gfk_2, gok_2⟩, glk_2, gck_2⟩ := u9
            obtain ⟨hw, hcr9⟩ := hw
            have hcr9 : hds P Q G N T0 kd wh R Lk k → CR (k + 1) (aud P N T0 kd wh R (k + 1)) R gck_2 := hcr9
            have hr_3 := hw
            obtain ⟨hP1, hK1, hD1⟩ := hB
            rw [ht] at hP1
            obtain ⟨hP, hD⟩ := va_join (wr := []) (w1 := [(m0, .inr (8, [.int 0, .int (nI N), .int (nI n), .int (nI bc), .long (lN P), .long (lN Q), .long (lN G), .long (lN al), .long (lN pa), .long (lN pb), .int cl, .ref a0, .ref a1, .ref a2, .ref a3, .ref a4, .ref a5, .ref a6, .ref a7, .ref a8, .ref a9, .ref b0, .ref b1, .int (nI gok_2), .ref b2, .ref b3, .ref b4, .ref b5])), (a7, .inl (cI, 256, .inl gbk_2)), (a8, .inl (cI, 64, .inl gsk_2)), (a9, .inl (cI, 8, .inl gtk_2)), (b0, .inl (cI, 8, .inl kS)), (b1, .inl (cI, 64, .inl kR)), (a2, .inl (cJ, 4, .inr (.inl gfk_2))), (a0, .inl (cJ, 1232, .inr (.inl nf))), (a1, .inl (cJ, 616, .inr (.inl cf))), (a4, .inl (cI, 4, .inl kf)), (b5, .inl (cI, 64, .inl gck_2)), (a3, .inl (cJ, 16, .inr (.inl glk_2)))]) hP hD [0, 1, 2, 3, 4, 5, 6, 7, 8, 9, 10, 11] [] rfl rfl (by decide) (by decide) hk1 hFc hP1 hD1
            have hP := hP.sub (ws' := [(m0, .inr (8, [.int 0, .int (nI N), .int (nI n), .int (nI bc), .long (lN P), .long (lN Q), .long (lN G), .long (lN al), .long (lN pa), .long (lN pb), .int cl, .ref a0, .ref a1, .ref a2, .ref a3, .ref a4, .ref a5, .ref a6, .ref a7, .ref a8, .ref a9, .ref b0, .ref b1, .int (nI gok_2), .ref b2, .ref b3, .ref b4, .ref b5])), (a7, .inl (cI, 256, .inl gbk_2)), (a8, .inl (cI, 64, .inl gsk_2)), (a9, .inl (cI, 8, .inl gtk_2)), (b0, .inl (cI, 8, .inl kS)), (b1, .inl (cI, 64, .inl kR)), (a2, .inl (cJ, 4, .inr (.inl gfk_2))), (a0, .inl (cJ, 1232, .inr (.inl nf))), (a1, .inl (cJ, 616, .inr (.inl cf))), (a4, .inl (cI, 4, .inl kf)), (b5, .inl (cI, 64, .inl gck_2)), (a3, .inl (cJ, 16, .inr (.inl glk_2)))]) [0, 1, 2, 3, 4, 5, 6, 7, 8, 9, 10, 11] rfl
            have hD := hD.sub (ws' := [(m0, .inr (8, [.int 0, .int (nI N), .int (nI n), .int (nI bc), .long (lN P), .long (lN Q), .long (lN G), .long (lN al), .long (lN pa), .long (lN pb), .int cl, .ref a0, .ref a1, .ref a2, .ref a3, .ref a4, .ref a5, .ref a6, .ref a7, .ref a8, .ref a9, .ref b0, .ref b1, .int (nI gok_2), .ref b2, .ref b3, .ref b4, .ref b5])), (a7, .inl (cI, 256, .inl gbk_2)), (a8, .inl (cI, 64, .inl gsk_2)), (a9, .inl (cI, 8, .inl gtk_2)), (b0, .inl (cI, 8, .inl kS)), (b1, .inl (cI, 64, .inl kR)), (a2, .inl (cJ, 4, .inr (.inl gfk_2))), (a0, .inl (cJ, 1232, .inr (.inl nf))), (a1, .inl (cJ, 616, .inr (.inl cf))), (a4, .inl (cI, 4, .inl kf)), (b5, .inl (cI, 64, .inl gck_2)), (a3, .inl (cJ, 16, .inr (.inl glk_2)))]) [0, 1, 2, 3, 4, 5, 6, 7, 8, 9, 10, 11] (by decide) rfl
            generalize H1 = H at hP hS ⊢
            refine lv_if_ne (tgt := 68) hx hb d_Bm_audit_63 (by decide) (fun c_4 => ?_) (fun c_4 => ?_)
            · -- taken
              have hhd := bz_t hr_3 c_4
              obtain ⟨i_5, ei_5⟩ : ∃ y : Int32, y = (nI k) + 1 := ⟨_, rfl⟩
              refine lv_iinc (v := i_5) (lv' := [(1, .int i_5), (0, .ref m0)]) hx hb d_Bm_audit_68 hl (k := 1) rfl (by rw [ei_5]; rfl) (by decide) rfl (fun ls hl => ?_)
              obtain rfl : i_5 = nI (k + 1) := by rw [ei_5]; exact nI_1 k
              refine lv_goto (tgt := 50) hx hb d_Bm_audit_71 (by decide) ?_
              exact ih (j - 1) (by omega) (k + 1) (by omega) (fun i hi => by
                rcases Nat.lt_or_ge i k with e8 | e8
                · exact hall i e8
                · obtain rfl : i = k := by omega
                  exact hhd) gbk_2 gsk_2 gtk_2 gck_2 gfk_2 glk_2 gok_2 (hcr9 hhd) H locs hS hP hD ls (lv_sub hl [1, 0] rfl)
            · -- not taken
              have hbad := bz_f hr_3 c_4
              refine lv_iload_n hx hb d_Bm_audit_66 rfl (lv_at hl 1 rfl) ?_
              exact W.iret (v := (nI k)) hx hb hr (fun t ht9 hW => ⟨⟨_, ((gbk_2, gsk_2, gtk_2, gfk_2, gok_2), glk_2, gck_2), rfl, (Or.inl ⟨k, hlt, rfl, hbad, hall⟩), by rw [ht9]; exact hP, va_K.moved hW.alike hK, hD⟩, hS.F ht9⟩) hS.2.2 d_Bm_audit_67
          · -- a key
            refine lv_aload_n hx hb d_Bm_audit_58 rfl (lv_at hl 0 rfl) ?_
            refine lv_iload_n hx hb d_Bm_audit_59 rfl (lv_at hl 1 rfl) ?_
            have hPc := hP.sub (ws' := (mo_ws m0 0 (nI N) (nI n) (nI bc) (lN P) (lN Q) (lN G) (lN al) (lN pa) (lN pb) cl a0 a1 a2 a3 a4 a5 a6 a7 a8 a9 b0 b1 oc b2 b3 b4 b5 ++ (iw_ws a7 cI 256 bf ++ (iw_ws a8 cI 64 sc ++ (iw_ws a9 cI 8 st ++ (iw_ws b0 cI 8 kS ++ (iw_ws b1 cI 64 kR ++ (jw_ws a2 cJ 4 tf ++ (jw_ws a0 cJ 1232 nf ++ (jw_ws a1 cJ 616 cf ++ (iw_ws a4 cI 4 kf ++ (iw_ws b5 cI 64 ct ++ (jw_ws a3 cJ 16 lf))))))))))))) [0, 1, 2, 3, 4, 5, 6, 7, 8, 9, 10, 11] rfl
            have hDc := hD.sub (ws' := (mo_ws m0 0 (nI N) (nI n) (nI bc) (lN P) (lN Q) (lN G) (lN al) (lN pa) (lN pb) cl a0 a1 a2 a3 a4 a5 a6 a7 a8 a9 b0 b1 oc b2 b3 b4 b5 ++ (iw_ws a7 cI 256 bf ++ (iw_ws a8 cI 64 sc ++ (iw_ws a9 cI 8 st ++ (iw_ws b0 cI 8 kS ++ (iw_ws b1 cI 64 kR ++ (jw_ws a2 cJ 4 tf ++ (jw_ws a0 cJ 1232 nf ++ (jw_ws a1 cJ 616 cf ++ (iw_ws a4 cI 4 kf ++ (iw_ws b5 cI 64 ct ++ (jw_ws a3 cJ 16 lf))))))))))))) [0, 1, 2, 3, 4, 5, 6, 7, 8, 9, 10, 11] (by decide) rfl
            have hKc := hK.sub (tys' := [(cJ, .long), (cI, .int)]) [0, 1] rfl
            have hFc := va_free (wc := (mo_ws m0 0 (nI N) (nI n) (nI bc) (lN P) (lN Q) (lN G) (lN al) (lN pa) (lN pb) cl a0 a1 a2 a3 a4 a5 a6 a7 a8 a9 b0 b1 oc b2 b3 b4 b5 ++ (iw_ws a7 cI 256 bf ++ (iw_ws a8 cI 64 sc ++ (iw_ws a9 cI 8 st ++ (iw_ws b0 cI 8 kS ++ (iw_ws b1 cI 64 kR ++ (jw_ws a2 cJ 4 tf ++ (jw_ws a0 cJ 1232 nf ++ (jw_ws a1 cJ 616 cf ++ (iw_ws a4 cI 4 kf ++ (iw_ws b5 cI 64 ct ++ (jw_ws a3 cJ 16 lf))))))))))))) hD hS hA [0, 1, 2, 3, 4, 5, 6, 7, 8, 9, 10, 11] rfl
            refine va_calli (va_runV (As := [.int (nI k)]) (rest := []) ⟨hx, hb, hml, hown, hts⟩ (c_Bm_holds_15 l dC dI cJ cI H.size m0 0 N n bc P Q G al pa pb cl a0 a1 a2 a3 a4 a5 a6 a7 a8 a9 b0 b1 oc b2 b3 b4 b5 bf sc st kf ct tf nf cf lf T0 kd wh R Lk k hPQ h61F hQ3 hG2 hGP hGQ hN hN0 hwf hE hnf hcf hkf h0k hlt hkK hk0 hall hCR) (cwV 1 hts (gw_V gk_1194 gk_1196 gp_53 gk_7 gk_1197) rfl rfl rfl (by decide +kernel) ⟨Nat.le_of_ble_eq_true rfl, Nat.le_of_ble_eq_true rfl⟩) ⟨fun a U g mk q => by obtain ⟨q0, q1, qP, qK, qD⟩ := q; exact ⟨q0, q1, qP, va_K.moved (u := U) (U := U.calling g mk a) (Vm.Alike.refl U.vm) qK, qD⟩, va_recv hK hP (ci := 8) (q0 := 0) rfl rfl, fun U hU hW => ⟨rfl, by rw [hU], by rw [hU]; exact hPc, va_K.moved hW.alike hKc, hDc.weaken (fun _ _ _ _ => trivial)⟩⟩ rfl rfl hl.1 rfl (lv_room (Nat.le_of_ble_eq_true rfl)) d_Bm_audit_60 ⟨Nat.le_of_ble_eq_true rfl, Nat.le_of_ble_eq_true rfl⟩) hS (fun q _ h => hFc q h) hFc (fun r_7 u9 t9 H1 locs ht hvm hw hB hz1 hk1 hS => ?_)
            obtain ⟨⟨gbk_6, gsk_6, gtk_6, gfk_6, gok_6⟩, glk_6, gck_6⟩ := u9
            obtain ⟨hw, hcr9⟩ := hw
            have hcr9 : hds P Q G N T0 kd wh R Lk k → CR (k + 1) (aud P N T0 kd wh R (k + 1)) R gck_6 := hcr9
            have hr_7 := hw
            obtain ⟨hP1, hK1, hD1⟩ := hB
            rw [ht] at hP1
            obtain ⟨hP, hD⟩ := va_join (wr := []) (w1 := [(m0, .inr (8, [.int 0, .int (nI N), .int (nI n), .int (nI bc), .long (lN P), .long (lN Q), .long (lN G), .long (lN al), .long (lN pa), .long (lN pb), .int cl, .ref a0, .ref a1, .ref a2, .ref a3, .ref a4, .ref a5, .ref a6, .ref a7, .ref a8, .ref a9, .ref b0, .ref b1, .int (nI gok_6), .ref b2, .ref b3, .ref b4, .ref b5])), (a7, .inl (cI, 256, .inl gbk_6)), (a8, .inl (cI, 64, .inl gsk_6)), (a9, .inl (cI, 8, .inl gtk_6)), (b0, .inl (cI, 8, .inl kS)), (b1, .inl (cI, 64, .inl kR)), (a2, .inl (cJ, 4, .inr (.inl gfk_6))), (a0, .inl (cJ, 1232, .inr (.inl nf))), (a1, .inl (cJ, 616, .inr (.inl cf))), (a4, .inl (cI, 4, .inl kf)), (b5, .inl (cI, 64, .inl gck_6)), (a3, .inl (cJ, 16, .inr (.inl glk_6)))]) hP hD [0, 1, 2, 3, 4, 5, 6, 7, 8, 9, 10, 11] [] rfl rfl (by decide) (by decide) hk1 hFc hP1 hD1
            have hP := hP.sub (ws' := [(m0, .inr (8, [.int 0, .int (nI N), .int (nI n), .int (nI bc), .long (lN P), .long (lN Q), .long (lN G), .long (lN al), .long (lN pa), .long (lN pb), .int cl, .ref a0, .ref a1, .ref a2, .ref a3, .ref a4, .ref a5, .ref a6, .ref a7, .ref a8, .ref a9, .ref b0, .ref b1, .int (nI gok_6), .ref b2, .ref b3, .ref b4, .ref b5])), (a7, .inl (cI, 256, .inl gbk_6)), (a8, .inl (cI, 64, .inl gsk_6)), (a9, .inl (cI, 8, .inl gtk_6)), (b0, .inl (cI, 8, .inl kS)), (b1, .inl (cI, 64, .inl kR)), (a2, .inl (cJ, 4, .inr (.inl gfk_6))), (a0, .inl (cJ, 1232, .inr (.inl nf))), (a1, .inl (cJ, 616, .inr (.inl cf))), (a4, .inl (cI, 4, .inl kf)), (b5, .inl (cI, 64, .inl gck_6)), (a3, .inl (cJ, 16, .inr (.inl glk_6)))]) [0, 1, 2, 3, 4, 5, 6, 7, 8, 9, 10, 11] rfl
            have hD := hD.sub (ws' := [(m0, .inr (8, [.int 0, .int (nI N), .int (nI n), .int (nI bc), .long (lN P), .long (lN Q), .long (lN G), .long (lN al), .long (lN pa), .long (lN pb), .int cl, .ref a0, .ref a1, .ref a2, .ref a3, .ref a4, .ref a5, .ref a6, .ref a7, .ref a8, .ref a9, .ref b0, .ref b1, .int (nI gok_6), .ref b2, .ref b3, .ref b4, .ref b5])), (a7, .inl (cI, 256, .inl gbk_6)), (a8, .inl (cI, 64, .inl gsk_6)), (a9, .inl (cI, 8, .inl gtk_6)), (b0, .inl (cI, 8, .inl kS)), (b1, .inl (cI, 64, .inl kR)), (a2, .inl (cJ, 4, .inr (.inl gfk_6))), (a0, .inl (cJ, 1232, .inr (.inl nf))), (a1, .inl (cJ, 616, .inr (.inl cf))), (a4, .inl (cI, 4, .inl kf)), (b5, .inl (cI, 64, .inl gck_6)), (a3, .inl (cJ, 16, .inr (.inl glk_6)))]) [0, 1, 2, 3, 4, 5, 6, 7, 8, 9, 10, 11] (by decide) rfl
            generalize H1 = H at hP hS ⊢
            refine lv_if_ne (tgt := 68) hx hb d_Bm_audit_63 (by decide) (fun c_8 => ?_) (fun c_8 => ?_)
            · -- taken
              have hhd := bz_t hr_7 c_8
              obtain ⟨i_9, ei_9⟩ : ∃ y : Int32, y = (nI k) + 1 := ⟨_, rfl⟩
              refine lv_iinc (v := i_9) (lv' := [(1, .int i_9), (0, .ref m0)]) hx hb d_Bm_audit_68 hl (k := 1) rfl (by rw [ei_9]; rfl) (by decide) rfl (fun ls hl => ?_)
              obtain rfl : i_9 = nI (k + 1) := by rw [ei_9]; exact nI_1 k
              refine lv_goto (tgt := 50) hx hb d_Bm_audit_71 (by decide) ?_
              exact ih (j - 1) (by omega) (k + 1) (by omega) (fun i hi => by
                rcases Nat.lt_or_ge i k with e8 | e8
                · exact hall i e8
                · obtain rfl : i = k := by omega
                  exact hhd) gbk_6 gsk_6 gtk_6 gck_6 gfk_6 glk_6 gok_6 (hcr9 hhd) H locs hS hP hD ls (lv_sub hl [1, 0] rfl)
            · -- not taken
              have hbad := bz_f hr_7 c_8
              refine lv_iload_n hx hb d_Bm_audit_66 rfl (lv_at hl 1 rfl) ?_
              exact W.iret (v := (nI k)) hx hb hr (fun t ht9 hW => ⟨⟨_, ((gbk_6, gsk_6, gtk_6, gfk_6, gok_6), glk_6, gck_6), rfl, (Or.inl ⟨k, hlt, rfl, hbad, hall⟩), by rw [ht9]; exact hP, va_K.moved hW.alike hK, hD⟩, hS.F ht9⟩) hS.2.2 d_Bm_audit_67
        · -- a ballot
          have hk0 : 0 < k := Nat.pos_of_ne_zero (fun h => by
            have := hwf.2.2 (by omega)
            rw [h] at hkK
            omega)
          refine lv_aload_n hx hb d_Bm_audit_58 rfl (lv_at hl 0 rfl) ?_
          refine lv_iload_n hx hb d_Bm_audit_59 rfl (lv_at hl 1 rfl) ?_
          have hPc := hP.sub (ws' := (mo_ws m0 0 (nI N) (nI n) (nI bc) (lN P) (lN Q) (lN G) (lN al) (lN pa) (lN pb) cl a0 a1 a2 a3 a4 a5 a6 a7 a8 a9 b0 b1 oc b2 b3 b4 b5 ++ (iw_ws a7 cI 256 bf ++ (iw_ws a8 cI 64 sc ++ (iw_ws a9 cI 8 st ++ (iw_ws b0 cI 8 kS ++ (iw_ws b1 cI 64 kR ++ (jw_ws a2 cJ 4 tf ++ (jw_ws a0 cJ 1232 nf ++ (jw_ws a1 cJ 616 cf ++ (iw_ws a4 cI 4 kf ++ (iw_ws b5 cI 64 ct ++ (jw_ws a3 cJ 16 lf))))))))))))) [0, 1, 2, 3, 4, 5, 6, 7, 8, 9, 10, 11] rfl
          have hDc := hD.sub (ws' := (mo_ws m0 0 (nI N) (nI n) (nI bc) (lN P) (lN Q) (lN G) (lN al) (lN pa) (lN pb) cl a0 a1 a2 a3 a4 a5 a6 a7 a8 a9 b0 b1 oc b2 b3 b4 b5 ++ (iw_ws a7 cI 256 bf ++ (iw_ws a8 cI 64 sc ++ (iw_ws a9 cI 8 st ++ (iw_ws b0 cI 8 kS ++ (iw_ws b1 cI 64 kR ++ (jw_ws a2 cJ 4 tf ++ (jw_ws a0 cJ 1232 nf ++ (jw_ws a1 cJ 616 cf ++ (iw_ws a4 cI 4 kf ++ (iw_ws b5 cI 64 ct ++ (jw_ws a3 cJ 16 lf))))))))))))) [0, 1, 2, 3, 4, 5, 6, 7, 8, 9, 10, 11] (by decide) rfl
          have hKc := hK.sub (tys' := [(cJ, .long), (cI, .int)]) [0, 1] rfl
          have hFc := va_free (wc := (mo_ws m0 0 (nI N) (nI n) (nI bc) (lN P) (lN Q) (lN G) (lN al) (lN pa) (lN pb) cl a0 a1 a2 a3 a4 a5 a6 a7 a8 a9 b0 b1 oc b2 b3 b4 b5 ++ (iw_ws a7 cI 256 bf ++ (iw_ws a8 cI 64 sc ++ (iw_ws a9 cI 8 st ++ (iw_ws b0 cI 8 kS ++ (iw_ws b1 cI 64 kR ++ (jw_ws a2 cJ 4 tf ++ (jw_ws a0 cJ 1232 nf ++ (jw_ws a1 cJ 616 cf ++ (iw_ws a4 cI 4 kf ++ (iw_ws b5 cI 64 ct ++ (jw_ws a3 cJ 16 lf))))))))))))) hD hS hA [0, 1, 2, 3, 4, 5, 6, 7, 8, 9, 10, 11] rfl
          refine va_calli (va_runV (As := [.int (nI k)]) (rest := []) ⟨hx, hb, hml, hown, hts⟩ (c_Bm_holds_2 l dC dI cJ cI H.size m0 0 N n bc P Q G al pa pb cl a0 a1 a2 a3 a4 a5 a6 a7 a8 a9 b0 b1 oc b2 b3 b4 b5 bf sc st kf ct tf nf cf lf T0 kd wh R Lk k hPQ h61F hQ3 hG2 hGP hGQ hN hN0 hwf hE hnf hcf hkf h0k hlt hkK hk0 hall hCR) (cwV 1 hts (gw_V gk_1194 gk_1196 gp_53 gk_7 gk_1197) rfl rfl rfl (by decide +kernel) ⟨Nat.le_of_ble_eq_true rfl, Nat.le_of_ble_eq_true rfl⟩) ⟨fun a U g mk q => by obtain ⟨q0, q1, qP, qK, qD⟩ := q; exact ⟨q0, q1, qP, va_K.moved (u := U) (U := U.calling g mk a) (Vm.Alike.refl U.vm) qK, qD⟩, va_recv hK hP (ci := 8) (q0 := 0) rfl rfl, fun U hU hW => ⟨rfl, by rw [hU], by rw [hU]; exact hPc, va_K.moved hW.alike hKc, hDc.weaken (fun _ _ _ _ => trivial)⟩⟩ rfl rfl hl.1 rfl (lv_room (Nat.le_of_ble_eq_true rfl)) d_Bm_audit_60 ⟨Nat.le_of_ble_eq_true rfl, Nat.le_of_ble_eq_true rfl⟩) hS (fun q _ h => hFc q h) hFc (fun r_11 u9 t9 H1 locs ht hvm hw hB hz1 hk1 hS => ?_)
          obtain ⟨⟨gbk_10, gsk_10, gtk_10, gfk_10, gok_10⟩, glk_10, gck_10⟩ := u9
          obtain ⟨hw, hcr9⟩ := hw
          have hcr9 : hds P Q G N T0 kd wh R Lk k → CR (k + 1) (aud P N T0 kd wh R (k + 1)) R gck_10 := hcr9
          have hr_11 := hw
          obtain ⟨hP1, hK1, hD1⟩ := hB
          rw [ht] at hP1
          obtain ⟨hP, hD⟩ := va_join (wr := []) (w1 := [(m0, .inr (8, [.int 0, .int (nI N), .int (nI n), .int (nI bc), .long (lN P), .long (lN Q), .long (lN G), .long (lN al), .long (lN pa), .long (lN pb), .int cl, .ref a0, .ref a1, .ref a2, .ref a3, .ref a4, .ref a5, .ref a6, .ref a7, .ref a8, .ref a9, .ref b0, .ref b1, .int (nI gok_10), .ref b2, .ref b3, .ref b4, .ref b5])), (a7, .inl (cI, 256, .inl gbk_10)), (a8, .inl (cI, 64, .inl gsk_10)), (a9, .inl (cI, 8, .inl gtk_10)), (b0, .inl (cI, 8, .inl kS)), (b1, .inl (cI, 64, .inl kR)), (a2, .inl (cJ, 4, .inr (.inl gfk_10))), (a0, .inl (cJ, 1232, .inr (.inl nf))), (a1, .inl (cJ, 616, .inr (.inl cf))), (a4, .inl (cI, 4, .inl kf)), (b5, .inl (cI, 64, .inl gck_10)), (a3, .inl (cJ, 16, .inr (.inl glk_10)))]) hP hD [0, 1, 2, 3, 4, 5, 6, 7, 8, 9, 10, 11] [] rfl rfl (by decide) (by decide) hk1 hFc hP1 hD1
          have hP := hP.sub (ws' := [(m0, .inr (8, [.int 0, .int (nI N), .int (nI n), .int (nI bc), .long (lN P), .long (lN Q), .long (lN G), .long (lN al), .long (lN pa), .long (lN pb), .int cl, .ref a0, .ref a1, .ref a2, .ref a3, .ref a4, .ref a5, .ref a6, .ref a7, .ref a8, .ref a9, .ref b0, .ref b1, .int (nI gok_10), .ref b2, .ref b3, .ref b4, .ref b5])), (a7, .inl (cI, 256, .inl gbk_10)), (a8, .inl (cI, 64, .inl gsk_10)), (a9, .inl (cI, 8, .inl gtk_10)), (b0, .inl (cI, 8, .inl kS)), (b1, .inl (cI, 64, .inl kR)), (a2, .inl (cJ, 4, .inr (.inl gfk_10))), (a0, .inl (cJ, 1232, .inr (.inl nf))), (a1, .inl (cJ, 616, .inr (.inl cf))), (a4, .inl (cI, 4, .inl kf)), (b5, .inl (cI, 64, .inl gck_10)), (a3, .inl (cJ, 16, .inr (.inl glk_10)))]) [0, 1, 2, 3, 4, 5, 6, 7, 8, 9, 10, 11] rfl
          have hD := hD.sub (ws' := [(m0, .inr (8, [.int 0, .int (nI N), .int (nI n), .int (nI bc), .long (lN P), .long (lN Q), .long (lN G), .long (lN al), .long (lN pa), .long (lN pb), .int cl, .ref a0, .ref a1, .ref a2, .ref a3, .ref a4, .ref a5, .ref a6, .ref a7, .ref a8, .ref a9, .ref b0, .ref b1, .int (nI gok_10), .ref b2, .ref b3, .ref b4, .ref b5])), (a7, .inl (cI, 256, .inl gbk_10)), (a8, .inl (cI, 64, .inl gsk_10)), (a9, .inl (cI, 8, .inl gtk_10)), (b0, .inl (cI, 8, .inl kS)), (b1, .inl (cI, 64, .inl kR)), (a2, .inl (cJ, 4, .inr (.inl gfk_10))), (a0, .inl (cJ, 1232, .inr (.inl nf))), (a1, .inl (cJ, 616, .inr (.inl cf))), (a4, .inl (cI, 4, .inl kf)), (b5, .inl (cI, 64, .inl gck_10)), (a3, .inl (cJ, 16, .inr (.inl glk_10)))]) [0, 1, 2, 3, 4, 5, 6, 7, 8, 9, 10, 11] (by decide) rfl
          generalize H1 = H at hP hS ⊢
          refine lv_if_ne (tgt := 68) hx hb d_Bm_audit_63 (by decide) (fun c_12 => ?_) (fun c_12 => ?_)
          · -- taken
            have hhd := bz_t hr_11 c_12
            obtain ⟨i_13, ei_13⟩ : ∃ y : Int32, y = (nI k) + 1 := ⟨_, rfl⟩
            refine lv_iinc (v := i_13) (lv' := [(1, .int i_13), (0, .ref m0)]) hx hb d_Bm_audit_68 hl (k := 1) rfl (by rw [ei_13]; rfl) (by decide) rfl (fun ls hl => ?_)
            obtain rfl : i_13 = nI (k + 1) := by rw [ei_13]; exact nI_1 k
            refine lv_goto (tgt := 50) hx hb d_Bm_audit_71 (by decide) ?_
            exact ih (j - 1) (by omega) (k + 1) (by omega) (fun i hi => by
              rcases Nat.lt_or_ge i k with e8 | e8
              · exact hall i e8
              · obtain rfl : i = k := by omega
                exact hhd) gbk_10 gsk_10 gtk_10 gck_10 gfk_10 glk_10 gok_10 (hcr9 hhd) H locs hS hP hD ls (lv_sub hl [1, 0] rfl)
          · -- not taken
            have hbad := bz_f hr_11 c_12
            refine lv_iload_n hx hb d_Bm_audit_66 rfl (lv_at hl 1 rfl) ?_
            exact W.iret (v := (nI k)) hx hb hr (fun t ht9 hW => ⟨⟨_, ((gbk_10, gsk_10, gtk_10, gfk_10, gok_10), glk_10, gck_10), rfl, (Or.inl ⟨k, hlt, rfl, hbad, hall⟩), by rw [ht9]; exact hP, va_K.moved hW.alike hK, hD⟩, hS.F ht9⟩) hS.2.2 d_Bm_audit_67
        · -- a share
          have hk0 : 0 < k := Nat.pos_of_ne_zero (fun h => by
            have := hwf.2.2 (by omega)
            rw [h] at hkK
            omega)
          refine lv_aload_n hx hb d_Bm_audit_58 rfl (lv_at hl 0 rfl) ?_
          refine lv_iload_n hx hb d_Bm_audit_59 rfl (lv_at hl 1 rfl) ?_
          have hPc := hP.sub (ws' := (mo_ws m0 0 (nI N) (nI n) (nI bc) (lN P) (lN Q) (lN G) (lN al) (lN pa) (lN pb) cl a0 a1 a2 a3 a4 a5 a6 a7 a8 a9 b0 b1 oc b2 b3 b4 b5 ++ (iw_ws a7 cI 256 bf ++ (iw_ws a8 cI 64 sc ++ (iw_ws a9 cI 8 st ++ (iw_ws b0 cI 8 kS ++ (iw_ws b1 cI 64 kR ++ (jw_ws a2 cJ 4 tf ++ (jw_ws a0 cJ 1232 nf ++ (jw_ws a1 cJ 616 cf ++ (iw_ws a4 cI 4 kf ++ (iw_ws b5 cI 64 ct ++ (jw_ws a3 cJ 16 lf))))))))))))) [0, 1, 2, 3, 4, 5, 6, 7, 8, 9, 10, 11] rfl
          have hDc := hD.sub (ws' := (mo_ws m0 0 (nI N) (nI n) (nI bc) (lN P) (lN Q) (lN G) (lN al) (lN pa) (lN pb) cl a0 a1 a2 a3 a4 a5 a6 a7 a8 a9 b0 b1 oc b2 b3 b4 b5 ++ (iw_ws a7 cI 256 bf ++ (iw_ws a8 cI 64 sc ++ (iw_ws a9 cI 8 st ++ (iw_ws b0 cI 8 kS ++ (iw_ws b1 cI 64 kR ++ (jw_ws a2 cJ 4 tf ++ (jw_ws a0 cJ 1232 nf ++ (jw_ws a1 cJ 616 cf ++ (iw_ws a4 cI 4 kf ++ (iw_ws b5 cI 64 ct ++ (jw_ws a3 cJ 16 lf))))))))))))) [0, 1, 2, 3, 4, 5, 6, 7, 8, 9, 10, 11] (by decide) rfl
          have hKc := hK.sub (tys' := [(cJ, .long), (cI, .int)]) [0, 1] rfl
          have hFc := va_free (wc := (mo_ws m0 0 (nI N) (nI n) (nI bc) (lN P) (lN Q) (lN G) (lN al) (lN pa) (lN pb) cl a0 a1 a2 a3 a4 a5 a6 a7 a8 a9 b0 b1 oc b2 b3 b4 b5 ++ (iw_ws a7 cI 256 bf ++ (iw_ws a8 cI 64 sc ++ (iw_ws a9 cI 8 st ++ (iw_ws b0 cI 8 kS ++ (iw_ws b1 cI 64 kR ++ (jw_ws a2 cJ 4 tf ++ (jw_ws a0 cJ 1232 nf ++ (jw_ws a1 cJ 616 cf ++ (iw_ws a4 cI 4 kf ++ (iw_ws b5 cI 64 ct ++ (jw_ws a3 cJ 16 lf))))))))))))) hD hS hA [0, 1, 2, 3, 4, 5, 6, 7, 8, 9, 10, 11] rfl
          refine va_calli (va_runV (As := [.int (nI k)]) (rest := []) ⟨hx, hb, hml, hown, hts⟩ (c_Bm_holds_3 l dC dI cJ cI H.size m0 0 N n bc P Q G al pa pb cl a0 a1 a2 a3 a4 a5 a6 a7 a8 a9 b0 b1 oc b2 b3 b4 b5 bf sc st kf ct tf nf cf lf T0 kd wh R Lk k hPQ h61F hQ3 hG2 hGP hGQ hN hN0 hwf hE hnf hcf hkf h0k hlt hkK hk0 hall hCR) (cwV 1 hts (gw_V gk_1194 gk_1196 gp_53 gk_7 gk_1197) rfl rfl rfl (by decide +kernel) ⟨Nat.le_of_ble_eq_true rfl, Nat.le_of_ble_eq_true rfl⟩) ⟨fun a U g mk q => by obtain ⟨q0, q1, qP, qK, qD⟩ := q; exact ⟨q0, q1, qP, va_K.moved (u := U) (U := U.calling g mk a) (Vm.Alike.refl U.vm) qK, qD⟩, va_recv hK hP (ci := 8) (q0 := 0) rfl rfl, fun U hU hW => ⟨rfl, by rw [hU], by rw [hU]; exact hPc, va_K.moved hW.alike hKc, hDc.weaken (fun _ _ _ _ => trivial)⟩⟩ rfl rfl hl.1 rfl (lv_room (Nat.le_of_ble_eq_true rfl)) d_Bm_audit_60 ⟨Nat.le_of_ble_eq_true rfl, Nat.le_of_ble_eq_true rfl⟩) hS (fun q _ h => hFc q h) hFc (fun r_15 u9 t9 H1 locs ht hvm hw hB hz1 hk1 hS => ?_)
          obtain ⟨⟨gbk_14, gsk_14, gtk_14, gfk_14, gok_14⟩, glk_14, gck_14⟩ := u9
          obtain ⟨hw, hcr9⟩ := hw
          have hcr9 : hds P Q G N T0 kd wh R Lk k → CR (k + 1) (aud P N T0 kd wh R (k + 1)) R gck_14 := hcr9
          have hr_15 := hw
          obtain ⟨hP1, hK1, hD1⟩ := hB
          rw [ht] at hP1
          obtain ⟨hP, hD⟩ := va_join (wr := []) (w1 := [(m0, .inr (8, [.int 0, .int (nI N), .int (nI n), .int (nI bc), .long (lN P), .long (lN Q), .long (lN G), .long (lN al), .long (lN pa), .long (lN pb), .int cl, .ref a0, .ref a1, .ref a2, .ref a3, .ref a4, .ref a5, .ref a6, .ref a7, .ref a8, .ref a9, .ref b0, .ref b1, .int (nI gok_14), .ref b2, .ref b3, .ref b4, .ref b5])), (a7, .inl (cI, 256, .inl gbk_14)), (a8, .inl (cI, 64, .inl gsk_14)), (a9, .inl (cI, 8, .inl gtk_14)), (b0, .inl (cI, 8, .inl kS)), (b1, .inl (cI, 64, .inl kR)), (a2, .inl (cJ, 4, .inr (.inl gfk_14))), (a0, .inl (cJ, 1232, .inr (.inl nf))), (a1, .inl (cJ, 616, .inr (.inl cf))), (a4, .inl (cI, 4, .inl kf)), (b5, .inl (cI, 64, .inl gck_14)), (a3, .inl (cJ, 16, .inr (.inl glk_14)))]) hP hD [0, 1, 2, 3, 4, 5, 6, 7, 8, 9, 10, 11] [] rfl rfl (by decide) (by decide) hk1 hFc hP1 hD1
          have hP := hP.sub (ws' := [(m0, .inr (8, [.int 0, .int (nI N), .int (nI n), .int (nI bc), .long (lN P), .long (lN Q), .long (lN G), .long (lN al), .long (lN pa), .long (lN pb), .int cl, .ref a0, .ref a1, .ref a2, .ref a3, .ref a4, .ref a5, .ref a6, .ref a7, .ref a8, .ref a9, .ref b0, .ref b1, .int (nI gok_14), .ref b2, .ref b3, .ref b4, .ref b5])), (a7, .inl (cI, 256, .inl gbk_14)), (a8, .inl (cI, 64, .inl gsk_14)), (a9, .inl (cI, 8, .inl gtk_14)), (b0, .inl (cI, 8, .inl kS)), (b1, .inl (cI, 64, .inl kR)), (a2, .inl (cJ, 4, .inr (.inl gfk_14))), (a0, .inl (cJ, 1232, .inr (.inl nf))), (a1, .inl (cJ, 616, .inr (.inl cf))), (a4, .inl (cI, 4, .inl kf)), (b5, .inl (cI, 64, .inl gck_14)), (a3, .inl (cJ, 16, .inr (.inl glk_14)))]) [0, 1, 2, 3, 4, 5, 6, 7, 8, 9, 10, 11] rfl
          have hD := hD.sub (ws' := [(m0, .inr (8, [.int 0, .int (nI N), .int (nI n), .int (nI bc), .long (lN P), .long (lN Q), .long (lN G), .long (lN al), .long (lN pa), .long (lN pb), .int cl, .ref a0, .ref a1, .ref a2, .ref a3, .ref a4, .ref a5, .ref a6, .ref a7, .ref a8, .ref a9, .ref b0, .ref b1, .int (nI gok_14), .ref b2, .ref b3, .ref b4, .ref b5])), (a7, .inl (cI, 256, .inl gbk_14)), (a8, .inl (cI, 64, .inl gsk_14)), (a9, .inl (cI, 8, .inl gtk_14)), (b0, .inl (cI, 8, .inl kS)), (b1, .inl (cI, 64, .inl kR)), (a2, .inl (cJ, 4, .inr (.inl gfk_14))), (a0, .inl (cJ, 1232, .inr (.inl nf))), (a1, .inl (cJ, 616, .inr (.inl cf))), (a4, .inl (cI, 4, .inl kf)), (b5, .inl (cI, 64, .inl gck_14)), (a3, .inl (cJ, 16, .inr (.inl glk_14)))]) [0, 1, 2, 3, 4, 5, 6, 7, 8, 9, 10, 11] (by decide) rfl
          generalize H1 = H at hP hS ⊢
          refine lv_if_ne (tgt := 68) hx hb d_Bm_audit_63 (by decide) (fun c_16 => ?_) (fun c_16 => ?_)
          · -- taken
            have hhd := bz_t hr_15 c_16
            obtain ⟨i_17, ei_17⟩ : ∃ y : Int32, y = (nI k) + 1 := ⟨_, rfl⟩
            refine lv_iinc (v := i_17) (lv' := [(1, .int i_17), (0, .ref m0)]) hx hb d_Bm_audit_68 hl (k := 1) rfl (by rw [ei_17]; rfl) (by decide) rfl (fun ls hl => ?_)
            obtain rfl : i_17 = nI (k + 1) := by rw [ei_17]; exact nI_1 k
            refine lv_goto (tgt := 50) hx hb d_Bm_audit_71 (by decide) ?_
            exact ih (j - 1) (by omega) (k + 1) (by omega) (fun i hi => by
              rcases Nat.lt_or_ge i k with e8 | e8
              · exact hall i e8
              · obtain rfl : i = k := by omega
                exact hhd) gbk_14 gsk_14 gtk_14 gck_14 gfk_14 glk_14 gok_14 (hcr9 hhd) H locs hS hP hD ls (lv_sub hl [1, 0] rfl)
          · -- not taken
            have hbad := bz_f hr_15 c_16
            refine lv_iload_n hx hb d_Bm_audit_66 rfl (lv_at hl 1 rfl) ?_
            exact W.iret (v := (nI k)) hx hb hr (fun t ht9 hW => ⟨⟨_, ((gbk_14, gsk_14, gtk_14, gfk_14, gok_14), glk_14, gck_14), rfl, (Or.inl ⟨k, hlt, rfl, hbad, hall⟩), by rw [ht9]; exact hP, va_K.moved hW.alike hK, hD⟩, hS.F ht9⟩) hS.2.2 d_Bm_audit_67
  refine lv_aload_n hx hb d_Bm_audit_0 rfl (lv_at hl 0 rfl) ?_
  refine lv_iconst (v := 0) hx hb d_Bm_audit_1 (by decide) ?_
  refine va_put (D := (dC, dI)) (ci := 8) (v := .int 0) (ty := .int) (C := "BallotBoardModel") (T := F_Bm) (N := 28) hx hb hts (fun w9 h9 => List.mem_cons_of_mem _ (i_Bm w9 h9)) t_Bm t_Bm_ok n_Bm hown hK hP hD hS 0 rfl rfl 0 (by decide) (hts _ (List.mem_cons_of_mem _ gk_919)) (fun _ h9 => h9) rfl (by decide +kernel) rfl rfl (Nat.le_of_ble_eq_true rfl) d_Bm_audit_2 (fun H locs hP hD hS => ?_)
  have hP : va_P (dC, dI) classes [(m0, .inr (8, [.int 0, .int (nI N), .int (nI n), .int (nI bc), .long (lN P), .long (lN Q), .long (lN G), .long (lN al), .long (lN pa), .long (lN pb), .int cl, .ref a0, .ref a1, .ref a2, .ref a3, .ref a4, .ref a5, .ref a6, .ref a7, .ref a8, .ref a9, .ref b0, .ref b1, .int (nI oc), .ref b2, .ref b3, .ref b4, .ref b5])), (a7, .inl (cI, 256, .inl bf)), (a8, .inl (cI, 64, .inl sc)), (a9, .inl (cI, 8, .inl st)), (b0, .inl (cI, 8, .inl kS)), (b1, .inl (cI, 64, .inl kR)), (a2, .inl (cJ, 4, .inr (.inl tf))), (a0, .inl (cJ, 1232, .inr (.inl nf))), (a1, .inl (cJ, 616, .inr (.inl cf))), (a4, .inl (cI, 4, .inl kf)), (b5, .inl (cI, 64, .inl ct)), (a3, .inl (cJ, 16, .inr (.inl lf)))] H := hP
  have hD : va_D A [(m0, .inr (8, [.int 0, .int (nI N), .int (nI n), .int (nI bc), .long (lN P), .long (lN Q), .long (lN G), .long (lN al), .long (lN pa), .long (lN pb), .int cl, .ref a0, .ref a1, .ref a2, .ref a3, .ref a4, .ref a5, .ref a6, .ref a7, .ref a8, .ref a9, .ref b0, .ref b1, .int (nI oc), .ref b2, .ref b3, .ref b4, .ref b5])), (a7, .inl (cI, 256, .inl bf)), (a8, .inl (cI, 64, .inl sc)), (a9, .inl (cI, 8, .inl st)), (b0, .inl (cI, 8, .inl kS)), (b1, .inl (cI, 64, .inl kR)), (a2, .inl (cJ, 4, .inr (.inl tf))), (a0, .inl (cJ, 1232, .inr (.inl nf))), (a1, .inl (cJ, 616, .inr (.inl cf))), (a4, .inl (cI, 4, .inl kf)), (b5, .inl (cI, 64, .inl ct)), (a3, .inl (cJ, 16, .inr (.inl lf)))] := hD
  refine lv_aload_n hx hb d_Bm_audit_5 rfl (lv_at hl 0 rfl) ?_
  refine lv_aload_n hx hb d_Bm_audit_6 rfl (lv_at hl 0 rfl) ?_
  refine va_get (D := (dC, dI)) (ci := 8) (v := .int (nI N)) (C := "BallotBoardModel") (T := F_Bm) (N := 28) hx hb hts (fun w9 h9 => List.mem_cons_of_mem _ (i_Bm w9 h9)) hown hK hP 0 rfl rfl 1 (by decide) (hts _ (List.mem_cons_of_mem _ gk_920)) (fun _ h9 => h9) rfl d_Bm_audit_7 ?_
  refine lv_if_ne (tgt := 17) hx hb d_Bm_audit_10 (by decide) (fun c_1 => ?_) (fun c_1 => ?_)
  · -- taken
    refine lv_iconst (v := 0) hx hb d_Bm_audit_17 (by decide) ?_
    refine lv_iconst (v := 1) hx hb d_Bm_audit_18 (by decide) ?_
    have hPc := hP.sub (ws' := (mo_ws m0 0 (nI N) (nI n) (nI bc) (lN P) (lN Q) (lN G) (lN al) (lN pa) (lN pb) cl a0 a1 a2 a3 a4 a5 a6 a7 a8 a9 b0 b1 oc b2 b3 b4 b5)) [0] rfl
    have hDc := hD.sub (ws' := (mo_ws m0 0 (nI N) (nI n) (nI bc) (lN P) (lN Q) (lN G) (lN al) (lN pa) (lN pb) cl a0 a1 a2 a3 a4 a5 a6 a7 a8 a9 b0 b1 oc b2 b3 b4 b5)) [0] (by decide) rfl
    have hKc := hK.sub (tys' := [(cJ, .long), (cI, .int)]) [0, 1] rfl
    have hFc := va_free (wc := (mo_ws m0 0 (nI N) (nI n) (nI bc) (lN P) (lN Q) (lN G) (lN al) (lN pa) (lN pb) cl a0 a1 a2 a3 a4 a5 a6 a7 a8 a9 b0 b1 oc b2 b3 b4 b5)) hD hS hA [0] rfl
    refine va_calli (va_runV (As := [.int 0, .int 1]) (rest := []) ⟨hx, hb, hml, hown, hts⟩ (c_Bm_fails_0 l dC dI cJ cI H.size m0 (nI N) (nI n) (nI bc) (lN P) (lN Q) (lN G) (lN al) (lN pa) (lN pb) cl a0 a1 a2 a3 a4 a5 a6 a7 a8 a9 b0 b1 oc b2 b3 b4 b5 1) (cwV 2 hts (gw_V gk_1030 gk_1032 gp_27 gk_7 gk_1033) rfl rfl rfl (by decide +kernel) ⟨Nat.le_of_ble_eq_true rfl, Nat.le_of_ble_eq_true rfl⟩) ⟨fun a U g mk q => by obtain ⟨q0, q1, qP, qK, qD⟩ := q; exact ⟨q0, q1, qP, va_K.moved (u := U) (U := U.calling g mk a) (Vm.Alike.refl U.vm) qK, qD⟩, va_recv hK hP (ci := 8) (q0 := 0) rfl rfl, fun U hU hW => ⟨rfl, by rw [hU], by rw [hU]; exact hPc, va_K.moved hW.alike hKc, hDc.weaken (fun _ _ _ _ => trivial)⟩⟩ rfl rfl hl.1 rfl (lv_room (Nat.le_of_ble_eq_true rfl)) d_Bm_audit_19 ⟨Nat.le_of_ble_eq_true rfl, Nat.le_of_ble_eq_true rfl⟩) hS (fun q _ h => hFc q h) hFc (fun r_2 u9 t9 H1 locs ht hvm hw hB hz1 hk1 hS => ?_)
    have hw : r_2 = 0 := hw
    subst hw
    obtain ⟨hP1, hK1, hD1⟩ := hB
    rw [ht] at hP1
    obtain ⟨hP, hD⟩ := va_join (wr := [(a7, .inl (cI, 256, .inl bf)), (a8, .inl (cI, 64, .inl sc)), (a9, .inl (cI, 8, .inl st)), (b0, .inl (cI, 8, .inl kS)), (b1, .inl (cI, 64, .inl kR)), (a2, .inl (cJ, 4, .inr (.inl tf))), (a0, .inl (cJ, 1232, .inr (.inl nf))), (a1, .inl (cJ, 616, .inr (.inl cf))), (a4, .inl (cI, 4, .inl kf)), (b5, .inl (cI, 64, .inl ct)), (a3, .inl (cJ, 16, .inr (.inl lf)))]) (w1 := [(m0, .inr (8, [.int 0, .int (nI N), .int (nI n), .int (nI bc), .long (lN P), .long (lN Q), .long (lN G), .long (lN al), .long (lN pa), .long (lN pb), .int cl, .ref a0, .ref a1, .ref a2, .ref a3, .ref a4, .ref a5, .ref a6, .ref a7, .ref a8, .ref a9, .ref b0, .ref b1, .int (nI oc), .ref b2, .ref b3, .ref b4, .ref b5]))]) hP hD [0] [1, 2, 3, 4, 5, 6, 7, 8, 9, 10, 11] rfl rfl (by decide) (by decide) hk1 hFc hP1 hD1
    have hP := hP.sub (ws' := [(m0, .inr (8, [.int 0, .int (nI N), .int (nI n), .int (nI bc), .long (lN P), .long (lN Q), .long (lN G), .long (lN al), .long (lN pa), .long (lN pb), .int cl, .ref a0, .ref a1, .ref a2, .ref a3, .ref a4, .ref a5, .ref a6, .ref a7, .ref a8, .ref a9, .ref b0, .ref b1, .int (nI oc), .ref b2, .ref b3, .ref b4, .ref b5])), (a7, .inl (cI, 256, .inl bf)), (a8, .inl (cI, 64, .inl sc)), (a9, .inl (cI, 8, .inl st)), (b0, .inl (cI, 8, .inl kS)), (b1, .inl (cI, 64, .inl kR)), (a2, .inl (cJ, 4, .inr (.inl tf))), (a0, .inl (cJ, 1232, .inr (.inl nf))), (a1, .inl (cJ, 616, .inr (.inl cf))), (a4, .inl (cI, 4, .inl kf)), (b5, .inl (cI, 64, .inl ct)), (a3, .inl (cJ, 16, .inr (.inl lf)))]) [11, 0, 1, 2, 3, 4, 5, 6, 7, 8, 9, 10] rfl
    have hD := hD.sub (ws' := [(m0, .inr (8, [.int 0, .int (nI N), .int (nI n), .int (nI bc), .long (lN P), .long (lN Q), .long (lN G), .long (lN al), .long (lN pa), .long (lN pb), .int cl, .ref a0, .ref a1, .ref a2, .ref a3, .ref a4, .ref a5, .ref a6, .ref a7, .ref a8, .ref a9, .ref b0, .ref b1, .int (nI oc), .ref b2, .ref b3, .ref b4, .ref b5])), (a7, .inl (cI, 256, .inl bf)), (a8, .inl (cI, 64, .inl sc)), (a9, .inl (cI, 8, .inl st)), (b0, .inl (cI, 8, .inl kS)), (b1, .inl (cI, 64, .inl kR)), (a2, .inl (cJ, 4, .inr (.inl tf))), (a0, .inl (cJ, 1232, .inr (.inl nf))), (a1, .inl (cJ, 616, .inr (.inl cf))), (a4, .inl (cI, 4, .inl kf)), (b5, .inl (cI, 64, .inl ct)), (a3, .inl (cJ, 16, .inr (.inl lf)))]) [11, 0, 1, 2, 3, 4, 5, 6, 7, 8, 9, 10] (by decide) rfl
    generalize H1 = H at hP hS ⊢
    refine lv_if_eq (tgt := 27) hx hb d_Bm_audit_22 (by decide) (fun c_3 => ?_) (fun c_3 => ?_)
    · -- taken
      refine lv_iconst (v := 0) hx hb d_Bm_audit_27 (by decide) ?_
      refine lv_istore_n (lv' := [(1, .int 0), (0, .ref m0)]) hx hb d_Bm_audit_28 rfl hl (by decide) rfl (fun ls hl => ?_)
      have loop1 : ∀ (j i : Nat), i + j = 64 → ∀ (H : Heap) (locs : List Loc), va_S A s.heap H locs → va_P (dC, dI) classes [(m0, .inr (8, [.int 0, .int (nI N), .int (nI n), .int (nI bc), .long (lN P), .long (lN Q), .long (lN G), .long (lN al), .long (lN pa), .long (lN pb), .int cl, .ref a0, .ref a1, .ref a2, .ref a3, .ref a4, .ref a5, .ref a6, .ref a7, .ref a8, .ref a9, .ref b0, .ref b1, .int (nI oc), .ref b2, .ref b3, .ref b4, .ref b5])), (a7, .inl (cI, 256, .inl bf)), (a8, .inl (cI, 64, .inl sc)), (a9, .inl (cI, 8, .inl st)), (b0, .inl (cI, 8, .inl kS)), (b1, .inl (cI, 64, .inl kR)), (a2, .inl (cJ, 4, .inr (.inl tf))), (a0, .inl (cJ, 1232, .inr (.inl nf))), (a1, .inl (cJ, 616, .inr (.inl cf))), (a4, .inl (cI, 4, .inl kf)), (b5, .inl (cI, 64, .inl (mf ct i))), (a3, .inl (cJ, 16, .inr (.inl lf)))] H → va_D A [(m0, .inr (8, [.int 0, .int (nI N), .int (nI n), .int (nI bc), .long (lN P), .long (lN Q), .long (lN G), .long (lN al), .long (lN pa), .long (lN pb), .int cl, .ref a0, .ref a1, .ref a2, .ref a3, .ref a4, .ref a5, .ref a6, .ref a7, .ref a8, .ref a9, .ref b0, .ref b1, .int (nI oc), .ref b2, .ref b3, .ref b4, .ref b5])), (a7, .inl (cI, 256, .inl bf)), (a8, .inl (cI, 64, .inl sc)), (a9, .inl (cI, 8, .inl st)), (b0, .inl (cI, 8, .inl kS)), (b1, .inl (cI, 64, .inl kR)), (a2, .inl (cJ, 4, .inr (.inl tf))), (a0, .inl (cJ, 1232, .inr (.inl nf))), (a1, .inl (cJ, 616, .inr (.inl cf))), (a4, .inl (cI, 4, .inl kf)), (b5, .inl (cI, 64, .inl (mf ct i))), (a3, .inl (cJ, 16, .inr (.inl lf)))] → ∀ (ls : Array Slot), lv_has ls 2 [(0, .ref m0), (1, .int (nI i))] → W p l e ({ frames := 8, cells := 0, slots := 0, locals := 277 } : Room) s m ([.ref m0] : List Value).toArray below meth c H locs 0 0 (MQ below (va_Qi (fun (r : Int32) (u9 : DU × (Nat → Int64) × (Nat → Int32)) => fwr n (hds P Q G N T0 kd wh R Lk) r) (fun u9 t => va_P (dC, dI) classes (mo_ws m0 0 (nI N) (nI n) (nI bc) (lN P) (lN Q) (lN G) (lN al) (lN pa) (lN pb) cl a0 a1 a2 a3 a4 a5 a6 a7 a8 a9 b0 b1 u9.1.2.2.2.2 b2 b3 b4 b5 ++ (iw_ws a7 cI 256 u9.1.1 ++ (iw_ws a8 cI 64 u9.1.2.1 ++ (iw_ws a9 cI 8 u9.1.2.2.1 ++ (iw_ws b0 cI 8 kS ++ (iw_ws b1 cI 64 kR ++ (jw_ws a2 cJ 4 u9.1.2.2.2.1 ++ (jw_ws a0 cJ 1232 nf ++ (jw_ws a1 cJ 616 cf ++ (iw_ws a4 cI 4 kf ++ (iw_ws b5 cI 64 u9.2.2 ++ (jw_ws a3 cJ 16 u9.2.1)))))))))))) t.heap ∧ va_K (dC, dI) classes [(cJ, .long), (cI, .int)] t ∧ va_D A (mo_ws m0 0 (nI N) (nI n) (nI bc) (lN P) (lN Q) (lN G) (lN al) (lN pa) (lN pb) cl a0 a1 a2 a3 a4 a5 a6 a7 a8 a9 b0 b1 u9.1.2.2.2.2 b2 b3 b4 b5 ++ (iw_ws a7 cI 256 u9.1.1 ++ (iw_ws a8 cI 64 u9.1.2.1 ++ (iw_ws a9 cI 8 u9.1.2.2.1 ++ (iw_ws b0 cI 8 kS ++ (iw_ws b1 cI 64 kR ++ (jw_ws a2 cJ 4 u9.1.2.2.2.1 ++ (jw_ws a0 cJ 1232 nf ++ (jw_ws a1 cJ 616 cf ++ (iw_ws a4 cI 4 kf ++ (iw_ws b5 cI 64 u9.2.2 ++ (jw_ws a3 cJ 16 u9.2.1))))))))))))) A) ([.ref m0] : List Value).toArray s 0 0 A) (F0 m 29 ls []) := by
        intro j
        induction j using Nat.strongRecOn with
        | ind j ih =>
          intro i hij H locs hS hP hD ls hl
          refine lv_iload_n hx hb d_Bm_audit_29 rfl (lv_at hl 1 rfl) ?_
          refine lv_bipush (v := 64) hx hb d_Bm_audit_30 (by decide) ?_
          refine lv_icmp_ge (tgt := 48) hx hb d_Bm_audit_32 (by decide) (fun c_4 => ?_) (fun c_4 => ?_)
          · -- taken
            have hi9 : i = 64 := by
              have := (ige 64 (by omega) (by omega) rfl).mp c_4
              omega
            rw [hi9] at hP hD
            refine lv_iconst (v := 0) hx hb d_Bm_audit_48 (by decide) ?_
            refine lv_istore_n (lv' := [(1, .int 0), (0, .ref m0)]) hx hb d_Bm_audit_49 rfl hl (by decide) rfl (fun ls hl => ?_)
            exact loop2 n 0 (by omega) (fun i hi => absurd hi (by omega)) bf sc st (mf ct 64) tf lf oc (CR_start (fun j hj => if_pos hj)) H locs hS hP hD ls (lv_sub hl [1, 0] rfl)
          · -- not taken
            have hi9 : i < 64 := by
              have : ¬ 64 ≤ i := fun h => c_4 ((ige 64 (by omega) (by omega) rfl).mpr h)
              omega
            refine lv_aload_n hx hb d_Bm_audit_35 rfl (lv_at hl 0 rfl) ?_
            refine va_get (D := (dC, dI)) (ci := 8) (v := .ref b5) (C := "BallotBoardModel") (T := F_Bm) (N := 28) hx hb hts (fun w9 h9 => List.mem_cons_of_mem _ (i_Bm w9 h9)) hown hK hP 0 rfl rfl 27 (by decide) (hts _ (List.mem_cons_of_mem _ gk_946)) (fun _ h9 => h9) rfl d_Bm_audit_36 ?_
            refine lv_iload_n hx hb d_Bm_audit_39 rfl (lv_at hl 1 rfl) ?_
            refine lv_iconst (v := (-1)) hx hb d_Bm_audit_40 (by decide) ?_
            refine va_iast hx hb hK hP hD hS 10 1 rfl rfl (vp_in_nI (by omega) (by omega)) d_Bm_audit_41 (fun H locs hP hD hS => ?_)
            have hfe : upd (mf ct i) (nI i : Int32).toNatClampNeg (-1) = mf ct (i + 1) := by rw [nI_clamp (by omega)]; exact mf_upd _ _
            have hP : va_P (dC, dI) classes [(m0, .inr (8, [.int 0, .int (nI N), .int (nI n), .int (nI bc), .long (lN P), .long (lN Q), .long (lN G), .long (lN al), .long (lN pa), .long (lN pb), .int cl, .ref a0, .ref a1, .ref a2, .ref a3, .ref a4, .ref a5, .ref a6, .ref a7, .ref a8, .ref a9, .ref b0, .ref b1, .int (nI oc), .ref b2, .ref b3, .ref b4, .ref b5])), (a7, .inl (cI, 256, .inl bf)), (a8, .inl (cI, 64, .inl sc)), (a9, .inl (cI, 8, .inl st)), (b0, .inl (cI, 8, .inl kS)), (b1, .inl (cI, 64, .inl kR)), (a2, .inl (cJ, 4, .inr (.inl tf))), (a0, .inl (cJ, 1232, .inr (.inl nf))), (a1, .inl (cJ, 616, .inr (.inl cf))), (a4, .inl (cI, 4, .inl kf)), (b5, .inl (cI, 64, .inl (upd (mf ct i) (nI i : Int32).toNatClampNeg (-1)))), (a3, .inl (cJ, 16, .inr (.inl lf)))] H := hP
            have hD : va_D A [(m0, .inr (8, [.int 0, .int (nI N), .int (nI n), .int (nI bc), .long (lN P), .long (lN Q), .long (lN G), .long (lN al), .long (lN pa), .long (lN pb), .int cl, .ref a0, .ref a1, .ref a2, .ref a3, .ref a4, .ref a5, .ref a6, .ref a7, .ref a8, .ref a9, .ref b0, .ref b1, .int (nI oc), .ref b2, .ref b3, .ref b4, .ref b5])), (a7, .inl (cI, 256, .inl bf)), (a8, .inl (cI, 64, .inl sc)), (a9, .inl (cI, 8, .inl st)), (b0, .inl (cI, 8, .inl kS)), (b1, .inl (cI, 64, .inl kR)), (a2, .inl (cJ, 4, .inr (.inl tf))), (a0, .inl (cJ, 1232, .inr (.inl nf))), (a1, .inl (cJ, 616, .inr (.inl cf))), (a4, .inl (cI, 4, .inl kf)), (b5, .inl (cI, 64, .inl (upd (mf ct i) (nI i : Int32).toNatClampNeg (-1)))), (a3, .inl (cJ, 16, .inr (.inl lf)))] := hD
            rw [hfe] at hP hD
            obtain ⟨i_5, ei_5⟩ : ∃ y : Int32, y = (nI i) + 1 := ⟨_, rfl⟩
            refine lv_iinc (v := i_5) (lv' := [(1, .int i_5), (0, .ref m0)]) hx hb d_Bm_audit_42 hl (k := 1) rfl (by rw [ei_5]; rfl) (by decide) rfl (fun ls hl => ?_)
            obtain rfl : i_5 = nI (i + 1) := by rw [ei_5]; exact nI_1 i
            refine lv_goto (tgt := 29) hx hb d_Bm_audit_45 (by decide) ?_
            exact ih (j - 1) (by omega) (i + 1) (by omega) H locs hS hP hD ls (lv_sub hl [1, 0] rfl)
      have hP : va_P (dC, dI) classes [(m0, .inr (8, [.int 0, .int (nI N), .int (nI n), .int (nI bc), .long (lN P), .long (lN Q), .long (lN G), .long (lN al), .long (lN pa), .long (lN pb), .int cl, .ref a0, .ref a1, .ref a2, .ref a3, .ref a4, .ref a5, .ref a6, .ref a7, .ref a8, .ref a9, .ref b0, .ref b1, .int (nI oc), .ref b2, .ref b3, .ref b4, .ref b5])), (a7, .inl (cI, 256, .inl bf)), (a8, .inl (cI, 64, .inl sc)), (a9, .inl (cI, 8, .inl st)), (b0, .inl (cI, 8, .inl kS)), (b1, .inl (cI, 64, .inl kR)), (a2, .inl (cJ, 4, .inr (.inl tf))), (a0, .inl (cJ, 1232, .inr (.inl nf))), (a1, .inl (cJ, 616, .inr (.inl cf))), (a4, .inl (cI, 4, .inl kf)), (b5, .inl (cI, 64, .inl (mf ct 0))), (a3, .inl (cJ, 16, .inr (.inl lf)))] H := by rw [← mf_0 ct]; exact hP
      have hD : va_D A [(m0, .inr (8, [.int 0, .int (nI N), .int (nI n), .int (nI bc), .long (lN P), .long (lN Q), .long (lN G), .long (lN al), .long (lN pa), .long (lN pb), .int cl, .ref a0, .ref a1, .ref a2, .ref a3, .ref a4, .ref a5, .ref a6, .ref a7, .ref a8, .ref a9, .ref b0, .ref b1, .int (nI oc), .ref b2, .ref b3, .ref b4, .ref b5])), (a7, .inl (cI, 256, .inl bf)), (a8, .inl (cI, 64, .inl sc)), (a9, .inl (cI, 8, .inl st)), (b0, .inl (cI, 8, .inl kS)), (b1, .inl (cI, 64, .inl kR)), (a2, .inl (cJ, 4, .inr (.inl tf))), (a0, .inl (cJ, 1232, .inr (.inl nf))), (a1, .inl (cJ, 616, .inr (.inl cf))), (a4, .inl (cI, 4, .inl kf)), (b5, .inl (cI, 64, .inl (mf ct 0))), (a3, .inl (cJ, 16, .inr (.inl lf)))] := by rw [← mf_0 ct]; exact hD
      exact loop1 64 0 (by omega) H _ hS hP hD ls (lv_sub hl [1, 0] rfl)
    · -- not taken
      exact absurd rfl c_3
  · -- not taken
    exact absurd c_1 (nI_ne0 hN0 (by omega))
