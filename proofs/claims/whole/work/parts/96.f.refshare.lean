abbrev b_Bm_putShare : ByteArray := prog_10_method_41_code
abbrev y_Bm_putShare : MethodName := ⟨"BallotBoardModel", "putShare", "(IJJJ)I"⟩
abbrev w_Bm_putShare : List Cond := .code y_Bm_putShare b_Bm_putShare 8 (some .int) :: gw
theorem d_Bm_putShare_0 : decode b_Bm_putShare 0 = .ok (.aload_n 0, 1) := by decide +kernel
theorem d_Bm_putShare_1 : decode b_Bm_putShare 1 = .ok (.getfield 26, 3) := by decide +kernel
theorem d_Bm_putShare_4 : decode b_Bm_putShare 4 = .ok (.iload_n 1, 1) := by decide +kernel
theorem d_Bm_putShare_5 : decode b_Bm_putShare 5 = .ok (.aload_n 0, 1) := by decide +kernel
theorem d_Bm_putShare_6 : decode b_Bm_putShare 6 = .ok (.iconst 3, 1) := by decide +kernel
theorem d_Bm_putShare_7 : decode b_Bm_putShare 7 = .ok (.iload_n 1, 1) := by decide +kernel
theorem d_Bm_putShare_8 : decode b_Bm_putShare 8 = .ok (.lload_n 2, 1) := by decide +kernel
theorem d_Bm_putShare_9 : decode b_Bm_putShare 9 = .ok (.lload 4, 2) := by decide +kernel
theorem d_Bm_putShare_11 : decode b_Bm_putShare 11 = .ok (.lload 6, 2) := by decide +kernel
theorem d_Bm_putShare_13 : decode b_Bm_putShare 13 = .ok (.lconst 0, 1) := by decide +kernel
theorem d_Bm_putShare_14 : decode b_Bm_putShare 14 = .ok (.lconst 0, 1) := by decide +kernel
theorem d_Bm_putShare_15 : decode b_Bm_putShare 15 = .ok (.lconst 0, 1) := by decide +kernel
theorem d_Bm_putShare_16 : decode b_Bm_putShare 16 = .ok (.invokevirtual 262, 3) := by decide +kernel
theorem d_Bm_putShare_19 : decode b_Bm_putShare 19 = .ok (.iastore, 1) := by decide +kernel
theorem d_Bm_putShare_20 : decode b_Bm_putShare 20 = .ok (.aload_n 0, 1) := by decide +kernel
theorem d_Bm_putShare_21 : decode b_Bm_putShare 21 = .ok (.getfield 125, 3) := by decide +kernel
theorem d_Bm_putShare_24 : decode b_Bm_putShare 24 = .ok (.iload_n 1, 1) := by decide +kernel
theorem d_Bm_putShare_25 : decode b_Bm_putShare 25 = .ok (.lload_n 2, 1) := by decide +kernel
theorem d_Bm_putShare_26 : decode b_Bm_putShare 26 = .ok (.lastore, 1) := by decide +kernel
theorem d_Bm_putShare_27 : decode b_Bm_putShare 27 = .ok (.aload_n 0, 1) := by decide +kernel
theorem d_Bm_putShare_28 : decode b_Bm_putShare 28 = .ok (.getfield 26, 3) := by decide +kernel
theorem d_Bm_putShare_31 : decode b_Bm_putShare 31 = .ok (.iload_n 1, 1) := by decide +kernel
theorem d_Bm_putShare_32 : decode b_Bm_putShare 32 = .ok (.iaload, 1) := by decide +kernel
theorem d_Bm_putShare_33 : decode b_Bm_putShare 33 = .ok (.ireturn, 1) := by decide +kernel
set_option maxHeartbeats 8000000 in
set_option maxRecDepth 100000 in
theorem c_Bm_putShare (l : Launch) (dC : Nat → ClassId) (dI : Nat → Nat → Nat) (cJ cI : ClassId) (sz : Nat) (m0 : Nat) (e0 : Int32) (N n bc P Q G al pa pb : Nat) (cl : Int32) (a0 a1 a2 a3 a4 a5 a6 a7 a8 a9 b0 b1 oc b2 b3 b4 b5 : Nat) (bf sc st sf : Nat → Int32) (tf nf cf sh : Nat → Int64) (I Y : Nat) (x3 x4 : Int64) (hn : n < 154) (hn0 : 0 < n) (hI : I < 4) : Met l y_Bm_putShare w_Bm_putShare ({ frames := 5, cells := 0, slots := 0, locals := 133 }) (va_Pc [.ref m0, .int (nI I), .long (lN Y), .long x3, .long x4] (fun U => U.heap.size = sz ∧ va_P (dC, dI) classes (mo_ws m0 e0 (nI N) (nI n) (nI bc) (lN P) (lN Q) (lN G) (lN al) (lN pa) (lN pb) cl a0 a1 a2 a3 a4 a5 a6 a7 a8 a9 b0 b1 oc b2 b3 b4 b5 ++ (iw_ws a7 cI 256 bf ++ (iw_ws a8 cI 64 sc ++ (iw_ws a9 cI 8 st ++ (iw_ws b0 cI 8 kS ++ (iw_ws b1 cI 64 kR ++ (jw_ws a2 cJ 4 tf ++ (jw_ws a0 cJ 1232 nf ++ (jw_ws a1 cJ 616 cf ++ (iw_ws a5 cI 4 sf ++ (jw_ws b4 cJ 4 sh))))))))))) U.heap ∧ va_K (dC, dI) classes [(cJ, .long), (cI, .int)] U ∧ va_D (fun _ => True) (mo_ws m0 e0 (nI N) (nI n) (nI bc) (lN P) (lN Q) (lN G) (lN al) (lN pa) (lN pb) cl a0 a1 a2 a3 a4 a5 a6 a7 a8 a9 b0 b1 oc b2 b3 b4 b5 ++ (iw_ws a7 cI 256 bf ++ (iw_ws a8 cI 64 sc ++ (iw_ws a9 cI 8 st ++ (iw_ws b0 cI 8 kS ++ (iw_ws b1 cI 64 kR ++ (jw_ws a2 cJ 4 tf ++ (jw_ws a0 cJ 1232 nf ++ (jw_ws a1 cJ 616 cf ++ (iw_ws a5 cI 4 sf ++ (jw_ws b4 cJ 4 sh))))))))))))) (va_Qi (fun (r : Int32) (u9 : DU) => r = nI n) (fun u9 t => va_P (dC, dI) classes (mo_ws m0 e0 (nI N) (nI (n + 1)) (nI bc) (lN P) (lN Q) (lN G) (lN al) (lN pa) (lN pb) cl a0 a1 a2 a3 a4 a5 a6 a7 a8 a9 b0 b1 u9.2.2.2.2 b2 b3 b4 b5 ++ (iw_ws a7 cI 256 u9.1 ++ (iw_ws a8 cI 64 u9.2.1 ++ (iw_ws a9 cI 8 u9.2.2.1 ++ (iw_ws b0 cI 8 kS ++ (iw_ws b1 cI 64 kR ++ (jw_ws a2 cJ 4 u9.2.2.2.1 ++ (jw_ws a0 cJ 1232 (w8 nf (8 * n) (lN 3) (lN I) (lN Y) x3 x4 0 0 0) ++ (jw_ws a1 cJ 616 (c4 cf (4 * n) (lkw [cf (4 * (n - 1) + 0), cf (4 * (n - 1) + 1), cf (4 * (n - 1) + 2), cf (4 * (n - 1) + 3), lN 3, lN I, lN Y, x3, x4])) ++ (iw_ws a5 cI 4 (upd sf I (nI n)) ++ (jw_ws b4 cJ 4 (vp_updL sh I (lN Y))))))))))))) t.heap ∧ va_K (dC, dI) classes [(cJ, .long), (cI, .int)] t ∧ va_D (va_A (mo_ws m0 e0 (nI N) (nI n) (nI bc) (lN P) (lN Q) (lN G) (lN al) (lN pa) (lN pb) cl a0 a1 a2 a3 a4 a5 a6 a7 a8 a9 b0 b1 oc b2 b3 b4 b5 ++ (iw_ws a7 cI 256 bf ++ (iw_ws a8 cI 64 sc ++ (iw_ws a9 cI 8 st ++ (iw_ws b0 cI 8 kS ++ (iw_ws b1 cI 64 kR ++ (jw_ws a2 cJ 4 tf ++ (jw_ws a0 cJ 1232 nf ++ (jw_ws a1 cJ 616 cf ++ (iw_ws a5 cI 4 sf ++ (jw_ws b4 cJ 4 sh))))))))))) sz) (mo_ws m0 e0 (nI N) (nI (n + 1)) (nI bc) (lN P) (lN Q) (lN G) (lN al) (lN pa) (lN pb) cl a0 a1 a2 a3 a4 a5 a6 a7 a8 a9 b0 b1 u9.2.2.2.2 b2 b3 b4 b5 ++ (iw_ws a7 cI 256 u9.1 ++ (iw_ws a8 cI 64 u9.2.1 ++ (iw_ws a9 cI 8 u9.2.2.1 ++ (iw_ws b0 cI 8 kS ++ (iw_ws b1 cI 64 kR ++ (jw_ws a2 cJ 4 u9.2.2.2.1 ++ (jw_ws a0 cJ 1232 (w8 nf (8 * n) (lN 3) (lN I) (lN Y) x3 x4 0 0 0) ++ (jw_ws a1 cJ 616 (c4 cf (4 * n) (lkw [cf (4 * (n - 1) + 0), cf (4 * (n - 1) + 1), cf (4 * (n - 1) + 2), cf (4 * (n - 1) + 3), lN 3, lN I, lN Y, x3, x4])) ++ (iw_ws a5 cI 4 (upd sf I (nI n)) ++ (jw_ws b4 cJ 4 (vp_updL sh I (lN Y)))))))))))))) (va_A (mo_ws m0 e0 (nI N) (nI n) (nI bc) (lN P) (lN Q) (lN G) (lN al) (lN pa) (lN pb) cl a0 a1 a2 a3 a4 a5 a6 a7 a8 a9 b0 b1 oc b2 b3 b4 b5 ++ (iw_ws a7 cI 256 bf ++ (iw_ws a8 cI 64 sc ++ (iw_ws a9 cI 8 st ++ (iw_ws b0 cI 8 kS ++ (iw_ws b1 cI 64 kR ++ (jw_ws a2 cJ 4 tf ++ (jw_ws a0 cJ 1232 nf ++ (jw_ws a1 cJ 616 cf ++ (iw_ws a5 cI 4 sf ++ (jw_ws b4 cJ 4 sh))))))))))) sz)) 0 0 (va_A (mo_ws m0 e0 (nI N) (nI n) (nI bc) (lN P) (lN Q) (lN G) (lN al) (lN pa) (lN pb) cl a0 a1 a2 a3 a4 a5 a6 a7 a8 a9 b0 b1 oc b2 b3 b4 b5 ++ (iw_ws a7 cI 256 bf ++ (iw_ws a8 cI 64 sc ++ (iw_ws a9 cI 8 st ++ (iw_ws b0 cI 8 kS ++ (iw_ws b1 cI 64 kR ++ (jw_ws a2 cJ 4 tf ++ (jw_ws a0 cJ 1232 nf ++ (jw_ws a1 cJ 616 cf ++ (iw_ws a5 cI 4 sf ++ (jw_ws b4 cJ 4 sh))))))))))) sz) := by
  refine Met.ofW (cc := b_Bm_putShare) (maxL := 8) (ret := (some .int)) (by decide) rfl ?_
  intro p e s m args below meth c s₁ Bd hml hv
  obtain ⟨rfl, hsz, hP, hK, hD0⟩ := hv
  have hx := Bd.exec
  have hb := Bd.bytes
  have hr := Bd.returns
  have hts := atoms_spec (ws := w_Bm_putShare) Bd.pre
  have hown : s.vm.findClass "BallotBoardModel" = some m.cls := findClass_of_methodNamed Bd.named
  have hlocks := Bd.notSynchronized
  subst hsz
  have hD := hD0.self (sz := s.heap.size)
  generalize hAe : va_A (mo_ws m0 e0 (nI N) (nI n) (nI bc) (lN P) (lN Q) (lN G) (lN al) (lN pa) (lN pb) cl a0 a1 a2 a3 a4 a5 a6 a7 a8 a9 b0 b1 oc b2 b3 b4 b5 ++ (iw_ws a7 cI 256 bf ++ (iw_ws a8 cI 64 sc ++ (iw_ws a9 cI 8 st ++ (iw_ws b0 cI 8 kS ++ (iw_ws b1 cI 64 kR ++ (jw_ws a2 cJ 4 tf ++ (jw_ws a0 cJ 1232 nf ++ (jw_ws a1 cJ 616 cf ++ (iw_ws a5 cI 4 sf ++ (jw_ws b4 cJ 4 sh))))))))))) s.heap.size = A at hD ⊢
  have hA : ∀ q : Nat, s.heap.size ≤ q → A q := fun q h => by rw [← hAe]; exact Or.inr h
  have hS : va_S A s.heap s.heap [] := va_S.rf
  have hl := lv_entry ([.ref m0, .int (nI I), .long (lN Y), .long x3, .long x4]) (n := 8) (Nat.le_of_ble_eq_true rfl)
  rw [lg_entry_eq]
  generalize (lg_sl ([.ref m0, .int (nI I), .long (lN Y), .long x3, .long x4]) ++ List.replicate (8 - (lg_sl ([.ref m0, .int (nI I), .long (lN Y), .long x3, .long x4])).length) Slot.unset).toArray = ls at hl ⊢
  have hl : lv_has ls 8 [(0, .ref m0), (1, .int (nI I)), (2, .long (lN Y)), (4, .long x3), (6, .long x4)] := hl
  refine lv_aload_n hx hb d_Bm_putShare_0 rfl (lv_at hl 0 rfl) ?_
  refine va_get (D := (dC, dI)) (ci := 8) (v := .ref a5) (C := "BallotBoardModel") (T := F_Bm) (N := 28) hx hb hts (fun w9 h9 => List.mem_cons_of_mem _ (i_Bm w9 h9)) hown hK hP 0 rfl rfl 16 (by decide) (hts _ (List.mem_cons_of_mem _ gk_935)) (fun _ h9 => h9) rfl d_Bm_putShare_1 ?_
  refine lv_iload_n hx hb d_Bm_putShare_4 rfl (lv_at hl 1 rfl) ?_
  refine lv_aload_n hx hb d_Bm_putShare_5 rfl (lv_at hl 0 rfl) ?_
  refine lv_iconst (v := 3) hx hb d_Bm_putShare_6 (by decide) ?_
  refine lv_iload_n hx hb d_Bm_putShare_7 rfl (lv_at hl 1 rfl) ?_
  refine lv_lload_n hx hb d_Bm_putShare_8 rfl (lv_at hl 2 rfl) ?_
  refine lv_lload hx hb d_Bm_putShare_9 (lv_at hl 3 rfl) ?_
  refine lv_lload hx hb d_Bm_putShare_11 (lv_at hl 4 rfl) ?_
  refine lv_lconst (v := 0) hx hb d_Bm_putShare_13 (by decide) ?_
  refine lv_lconst (v := 0) hx hb d_Bm_putShare_14 (by decide) ?_
  refine lv_lconst (v := 0) hx hb d_Bm_putShare_15 (by decide) ?_
  have hPc := hP.sub (ws' := (mo_ws m0 e0 (nI N) (nI n) (nI bc) (lN P) (lN Q) (lN G) (lN al) (lN pa) (lN pb) cl a0 a1 a2 a3 a4 a5 a6 a7 a8 a9 b0 b1 oc b2 b3 b4 b5 ++ (iw_ws a7 cI 256 bf ++ (iw_ws a8 cI 64 sc ++ (iw_ws a9 cI 8 st ++ (iw_ws b0 cI 8 kS ++ (iw_ws b1 cI 64 kR ++ (jw_ws a2 cJ 4 tf ++ (jw_ws a0 cJ 1232 nf ++ (jw_ws a1 cJ 616 cf)))))))))) [0, 1, 2, 3, 4, 5, 6, 7, 8] rfl
  have hDc := hD.sub (ws' := (mo_ws m0 e0 (nI N) (nI n) (nI bc) (lN P) (lN Q) (lN G) (lN al) (lN pa) (lN pb) cl a0 a1 a2 a3 a4 a5 a6 a7 a8 a9 b0 b1 oc b2 b3 b4 b5 ++ (iw_ws a7 cI 256 bf ++ (iw_ws a8 cI 64 sc ++ (iw_ws a9 cI 8 st ++ (iw_ws b0 cI 8 kS ++ (iw_ws b1 cI 64 kR ++ (jw_ws a2 cJ 4 tf ++ (jw_ws a0 cJ 1232 nf ++ (jw_ws a1 cJ 616 cf)))))))))) [0, 1, 2, 3, 4, 5, 6, 7, 8] (by decide) rfl
  have hKc := hK.sub (tys' := [(cJ, .long), (cI, .int)]) [0, 1] rfl
  have hFc := va_free (wc := (mo_ws m0 e0 (nI N) (nI n) (nI bc) (lN P) (lN Q) (lN G) (lN al) (lN pa) (lN pb) cl a0 a1 a2 a3 a4 a5 a6 a7 a8 a9 b0 b1 oc b2 b3 b4 b5 ++ (iw_ws a7 cI 256 bf ++ (iw_ws a8 cI 64 sc ++ (iw_ws a9 cI 8 st ++ (iw_ws b0 cI 8 kS ++ (iw_ws b1 cI 64 kR ++ (jw_ws a2 cJ 4 tf ++ (jw_ws a0 cJ 1232 nf ++ (jw_ws a1 cJ 616 cf)))))))))) hD hS hA [0, 1, 2, 3, 4, 5, 6, 7, 8] rfl
  refine va_calli (va_runV (As := [.int 3, .int (nI I), .long (lN Y), .long x3, .long x4, .long 0, .long 0, .long 0]) (rest := [.int (nI I), .ref a5]) ⟨hx, hb, hml, hown, hts⟩ (c_Bm_post_5 l dC dI cJ cI s.heap.size m0 e0 (nI N) (nI bc) (lN P) (lN Q) (lN G) (lN al) (lN pa) (lN pb) cl a0 a1 a2 a3 a4 a5 a6 a7 a8 a9 b0 b1 oc b2 b3 b4 b5 bf sc st tf nf cf n 3 I (lN Y) x3 x4 0 0 0 (by omega) hn0 (by omega) (by omega) (by omega)) (cwV 8 hts (gw_V gk_1094 gk_1096 gp_40 gk_7 gk_1097) rfl rfl rfl (by decide +kernel) ⟨Nat.le_of_ble_eq_true rfl, Nat.le_of_ble_eq_true rfl⟩) ⟨fun a U g mk q => by obtain ⟨q0, q1, qP, qK, qD⟩ := q; exact ⟨q0, q1, qP, va_K.moved (u := U) (U := U.calling g mk a) (Vm.Alike.refl U.vm) qK, qD⟩, va_recv hK hP (ci := 8) (q0 := 0) rfl rfl, fun U hU hW => ⟨rfl, by rw [hU], by rw [hU]; exact hPc, va_K.moved hW.alike hKc, hDc.weaken (fun _ _ _ _ => trivial)⟩⟩ rfl rfl hl.1 rfl (lv_room (Nat.le_of_ble_eq_true rfl)) d_Bm_putShare_16 ⟨Nat.le_of_ble_eq_true rfl, Nat.le_of_ble_eq_true rfl⟩) hS (fun q _ h => hFc q h) hFc (fun r_2 u9 t9 H1 locs ht hvm hw hB hz1 hk1 hS => ?_)
  obtain ⟨gbk_1, gsk_1, gtk_1, gfk_1, gok_1⟩ := u9
  have hw : r_2 = nI n := hw
  subst hw
  obtain ⟨hP1, hK1, hD1⟩ := hB
  rw [ht] at hP1
  obtain ⟨hP, hD⟩ := va_join (wr := [(a5, .inl (cI, 4, .inl sf)), (b4, .inl (cJ, 4, .inr (.inl sh)))]) (w1 := [(m0, .inr (8, [.int e0, .int (nI N), .int (nI (n + 1)), .int (nI bc), .long (lN P), .long (lN Q), .long (lN G), .long (lN al), .long (lN pa), .long (lN pb), .int cl, .ref a0, .ref a1, .ref a2, .ref a3, .ref a4, .ref a5, .ref a6, .ref a7, .ref a8, .ref a9, .ref b0, .ref b1, .int (nI gok_1), .ref b2, .ref b3, .ref b4, .ref b5])), (a7, .inl (cI, 256, .inl gbk_1)), (a8, .inl (cI, 64, .inl gsk_1)), (a9, .inl (cI, 8, .inl gtk_1)), (b0, .inl (cI, 8, .inl kS)), (b1, .inl (cI, 64, .inl kR)), (a2, .inl (cJ, 4, .inr (.inl gfk_1))), (a0, .inl (cJ, 1232, .inr (.inl (w8 nf (8 * n) (lN 3) (lN I) (lN Y) x3 x4 0 0 0)))), (a1, .inl (cJ, 616, .inr (.inl (c4 cf (4 * n) (lkw [cf (4 * (n - 1) + 0), cf (4 * (n - 1) + 1), cf (4 * (n - 1) + 2), cf (4 * (n - 1) + 3), lN 3, lN I, lN Y, x3, x4])))))]) hP hD [0, 1, 2, 3, 4, 5, 6, 7, 8] [9, 10] rfl rfl (by decide) (by decide) hk1 hFc hP1 hD1
  have hP := hP.sub (ws' := [(m0, .inr (8, [.int e0, .int (nI N), .int (nI (n + 1)), .int (nI bc), .long (lN P), .long (lN Q), .long (lN G), .long (lN al), .long (lN pa), .long (lN pb), .int cl, .ref a0, .ref a1, .ref a2, .ref a3, .ref a4, .ref a5, .ref a6, .ref a7, .ref a8, .ref a9, .ref b0, .ref b1, .int (nI gok_1), .ref b2, .ref b3, .ref b4, .ref b5])), (a7, .inl (cI, 256, .inl gbk_1)), (a8, .inl (cI, 64, .inl gsk_1)), (a9, .inl (cI, 8, .inl gtk_1)), (b0, .inl (cI, 8, .inl kS)), (b1, .inl (cI, 64, .inl kR)), (a2, .inl (cJ, 4, .inr (.inl gfk_1))), (a0, .inl (cJ, 1232, .inr (.inl (w8 nf (8 * n) (lN 3) (lN I) (lN Y) x3 x4 0 0 0)))), (a1, .inl (cJ, 616, .inr (.inl (c4 cf (4 * n) (lkw [cf (4 * (n - 1) + 0), cf (4 * (n - 1) + 1), cf (4 * (n - 1) + 2), cf (4 * (n - 1) + 3), lN 3, lN I, lN Y, x3, x4]))))), (a5, .inl (cI, 4, .inl sf)), (b4, .inl (cJ, 4, .inr (.inl sh)))]) [2, 3, 4, 5, 6, 7, 8, 9, 10, 0, 1] rfl
  have hD := hD.sub (ws' := [(m0, .inr (8, [.int e0, .int (nI N), .int (nI (n + 1)), .int (nI bc), .long (lN P), .long (lN Q), .long (lN G), .long (lN al), .long (lN pa), .long (lN pb), .int cl, .ref a0, .ref a1, .ref a2, .ref a3, .ref a4, .ref a5, .ref a6, .ref a7, .ref a8, .ref a9, .ref b0, .ref b1, .int (nI gok_1), .ref b2, .ref b3, .ref b4, .ref b5])), (a7, .inl (cI, 256, .inl gbk_1)), (a8, .inl (cI, 64, .inl gsk_1)), (a9, .inl (cI, 8, .inl gtk_1)), (b0, .inl (cI, 8, .inl kS)), (b1, .inl (cI, 64, .inl kR)), (a2, .inl (cJ, 4, .inr (.inl gfk_1))), (a0, .inl (cJ, 1232, .inr (.inl (w8 nf (8 * n) (lN 3) (lN I) (lN Y) x3 x4 0 0 0)))), (a1, .inl (cJ, 616, .inr (.inl (c4 cf (4 * n) (lkw [cf (4 * (n - 1) + 0), cf (4 * (n - 1) + 1), cf (4 * (n - 1) + 2), cf (4 * (n - 1) + 3), lN 3, lN I, lN Y, x3, x4]))))), (a5, .inl (cI, 4, .inl sf)), (b4, .inl (cJ, 4, .inr (.inl sh)))]) [2, 3, 4, 5, 6, 7, 8, 9, 10, 0, 1] (by decide) rfl
  generalize H1 = H at hP hS ⊢
  refine va_iast hx hb hK hP hD hS 9 1 rfl rfl (vp_in_nI (by omega) (by omega)) d_Bm_putShare_19 (fun H locs hP hD hS => ?_)
  have hfe : upd sf (nI I : Int32).toNatClampNeg (nI n) = upd sf I (nI n) := by rw [nI_clamp (by omega)]
  have hP : va_P (dC, dI) classes [(m0, .inr (8, [.int e0, .int (nI N), .int (nI (n + 1)), .int (nI bc), .long (lN P), .long (lN Q), .long (lN G), .long (lN al), .long (lN pa), .long (lN pb), .int cl, .ref a0, .ref a1, .ref a2, .ref a3, .ref a4, .ref a5, .ref a6, .ref a7, .ref a8, .ref a9, .ref b0, .ref b1, .int (nI gok_1), .ref b2, .ref b3, .ref b4, .ref b5])), (a7, .inl (cI, 256, .inl gbk_1)), (a8, .inl (cI, 64, .inl gsk_1)), (a9, .inl (cI, 8, .inl gtk_1)), (b0, .inl (cI, 8, .inl kS)), (b1, .inl (cI, 64, .inl kR)), (a2, .inl (cJ, 4, .inr (.inl gfk_1))), (a0, .inl (cJ, 1232, .inr (.inl (w8 nf (8 * n) (lN 3) (lN I) (lN Y) x3 x4 0 0 0)))), (a1, .inl (cJ, 616, .inr (.inl (c4 cf (4 * n) (lkw [cf (4 * (n - 1) + 0), cf (4 * (n - 1) + 1), cf (4 * (n - 1) + 2), cf (4 * (n - 1) + 3), lN 3, lN I, lN Y, x3, x4]))))), (a5, .inl (cI, 4, .inl (upd sf (nI I : Int32).toNatClampNeg (nI n)))), (b4, .inl (cJ, 4, .inr (.inl sh)))] H := hP
  have hD : va_D A [(m0, .inr (8, [.int e0, .int (nI N), .int (nI (n + 1)), .int (nI bc), .long (lN P), .long (lN Q), .long (lN G), .long (lN al), .long (lN pa), .long (lN pb), .int cl, .ref a0, .ref a1, .ref a2, .ref a3, .ref a4, .ref a5, .ref a6, .ref a7, .ref a8, .ref a9, .ref b0, .ref b1, .int (nI gok_1), .ref b2, .ref b3, .ref b4, .ref b5])), (a7, .inl (cI, 256, .inl gbk_1)), (a8, .inl (cI, 64, .inl gsk_1)), (a9, .inl (cI, 8, .inl gtk_1)), (b0, .inl (cI, 8, .inl kS)), (b1, .inl (cI, 64, .inl kR)), (a2, .inl (cJ, 4, .inr (.inl gfk_1))), (a0, .inl (cJ, 1232, .inr (.inl (w8 nf (8 * n) (lN 3) (lN I) (lN Y) x3 x4 0 0 0)))), (a1, .inl (cJ, 616, .inr (.inl (c4 cf (4 * n) (lkw [cf (4 * (n - 1) + 0), cf (4 * (n - 1) + 1), cf (4 * (n - 1) + 2), cf (4 * (n - 1) + 3), lN 3, lN I, lN Y, x3, x4]))))), (a5, .inl (cI, 4, .inl (upd sf (nI I : Int32).toNatClampNeg (nI n)))), (b4, .inl (cJ, 4, .inr (.inl sh)))] := hD
  rw [hfe] at hP hD
  refine lv_aload_n hx hb d_Bm_putShare_20 rfl (lv_at hl 0 rfl) ?_
  refine va_get (D := (dC, dI)) (ci := 8) (v := .ref b4) (C := "BallotBoardModel") (T := F_Bm) (N := 28) hx hb hts (fun w9 h9 => List.mem_cons_of_mem _ (i_Bm w9 h9)) hown hK hP 0 rfl rfl 26 (by decide) (hts _ (List.mem_cons_of_mem _ gk_945)) (fun _ h9 => h9) rfl d_Bm_putShare_21 ?_
  refine lv_iload_n hx hb d_Bm_putShare_24 rfl (lv_at hl 1 rfl) ?_
  refine lv_lload_n hx hb d_Bm_putShare_25 rfl (lv_at hl 2 rfl) ?_
  refine va_last hx hb hK hP hD hS 10 0 rfl rfl (vp_in_nI (by omega) (by omega)) d_Bm_putShare_26 (fun H locs hP hD hS => ?_)
  have hfe : vp_updL sh (nI I : Int32).toNatClampNeg (lN Y) = vp_updL sh I (lN Y) := by rw [nI_clamp (by omega)]
  have hP : va_P (dC, dI) classes [(m0, .inr (8, [.int e0, .int (nI N), .int (nI (n + 1)), .int (nI bc), .long (lN P), .long (lN Q), .long (lN G), .long (lN al), .long (lN pa), .long (lN pb), .int cl, .ref a0, .ref a1, .ref a2, .ref a3, .ref a4, .ref a5, .ref a6, .ref a7, .ref a8, .ref a9, .ref b0, .ref b1, .int (nI gok_1), .ref b2, .ref b3, .ref b4, .ref b5])), (a7, .inl (cI, 256, .inl gbk_1)), (a8, .inl (cI, 64, .inl gsk_1)), (a9, .inl (cI, 8, .inl gtk_1)), (b0, .inl (cI, 8, .inl kS)), (b1, .inl (cI, 64, .inl kR)), (a2, .inl (cJ, 4, .inr (.inl gfk_1))), (a0, .inl (cJ, 1232, .inr (.inl (w8 nf (8 * n) (lN 3) (lN I) (lN Y) x3 x4 0 0 0)))), (a1, .inl (cJ, 616, .inr (.inl (c4 cf (4 * n) (lkw [cf (4 * (n - 1) + 0), cf (4 * (n - 1) + 1), cf (4 * (n - 1) + 2), cf (4 * (n - 1) + 3), lN 3, lN I, lN Y, x3, x4]))))), (a5, .inl (cI, 4, .inl (upd sf I (nI n)))), (b4, .inl (cJ, 4, .inr (.inl (vp_updL sh (nI I : Int32).toNatClampNeg (lN Y)))))] H := hP
  have hD : va_D A [(m0, .inr (8, [.int e0, .int (nI N), .int (nI (n + 1)), .int (nI bc), .long (lN P), .long (lN Q), .long (lN G), .long (lN al), .long (lN pa), .long (lN pb), .int cl, .ref a0, .ref a1, .ref a2, .ref a3, .ref a4, .ref a5, .ref a6, .ref a7, .ref a8, .ref a9, .ref b0, .ref b1, .int (nI gok_1), .ref b2, .ref b3, .ref b4, .ref b5])), (a7, .inl (cI, 256, .inl gbk_1)), (a8, .inl (cI, 64, .inl gsk_1)), (a9, .inl (cI, 8, .inl gtk_1)), (b0, .inl (cI, 8, .inl kS)), (b1, .inl (cI, 64, .inl kR)), (a2, .inl (cJ, 4, .inr (.inl gfk_1))), (a0, .inl (cJ, 1232, .inr (.inl (w8 nf (8 * n) (lN 3) (lN I) (lN Y) x3 x4 0 0 0)))), (a1, .inl (cJ, 616, .inr (.inl (c4 cf (4 * n) (lkw [cf (4 * (n - 1) + 0), cf (4 * (n - 1) + 1), cf (4 * (n - 1) + 2), cf (4 * (n - 1) + 3), lN 3, lN I, lN Y, x3, x4]))))), (a5, .inl (cI, 4, .inl (upd sf I (nI n)))), (b4, .inl (cJ, 4, .inr (.inl (vp_updL sh (nI I : Int32).toNatClampNeg (lN Y)))))] := hD
  rw [hfe] at hP hD
  refine lv_aload_n hx hb d_Bm_putShare_27 rfl (lv_at hl 0 rfl) ?_
  refine va_get (D := (dC, dI)) (ci := 8) (v := .ref a5) (C := "BallotBoardModel") (T := F_Bm) (N := 28) hx hb hts (fun w9 h9 => List.mem_cons_of_mem _ (i_Bm w9 h9)) hown hK hP 0 rfl rfl 16 (by decide) (hts _ (List.mem_cons_of_mem _ gk_935)) (fun _ h9 => h9) rfl d_Bm_putShare_28 ?_
  refine lv_iload_n hx hb d_Bm_putShare_31 rfl (lv_at hl 1 rfl) ?_
  refine va_iald hx hb hK hP 9 1 rfl rfl (vp_in_nI (by omega) (by omega)) d_Bm_putShare_32 ?_
  rw [show (upd sf I (nI n) (nI I : Int32).toNatClampNeg : Int32) = (upd sf I (nI n)) I from by rw [nI_clamp (by omega)]]
  rw [show ((upd sf I (nI n)) I : Int32) = (nI n) from if_pos rfl]
  exact W.iret (v := (nI n)) hx hb hr (fun t ht9 hW => ⟨⟨_, (gbk_1, gsk_1, gtk_1, gfk_1, gok_1), rfl, rfl, by rw [ht9]; exact hP, va_K.moved hW.alike hK, hD⟩, hS.F ht9⟩) hS.2.2 d_Bm_putShare_33
def sC1r (N : Nat) (cl : Int32) (so : Nat → Nat) (x : Int32) : Prop := ¬ cl = 1 ∨ ∃ I, x = nI I ∧ I < N ∧ so I ≠ 0
def sC2r (P Q G A N : Nat) (ko : Nat → Nat) (x : Int32) (s c z : Int64) : Prop := ¬ ∃ I, x = nI I ∧ I < N ∧ shaHd P Q G (ko I) A I s c z
def shcR (P Q G A I X W : Nat) : Nat := hsh Q [lN P, lN G, 3, lN I, lN A, lN (A ^ X % P), lN (G ^ W % P), lN (A ^ W % P)]
abbrev b_Bm_share : ByteArray := prog_10_method_40_code
abbrev y_Bm_share : MethodName := ⟨"BallotBoardModel", "share", "(IJJJ)I"⟩
abbrev w_Bm_share : List Cond := .code y_Bm_share b_Bm_share 8 (some .int) :: gw
theorem d_Bm_share_0 : decode b_Bm_share 0 = .ok (.aload_n 0, 1) := by decide +kernel
theorem d_Bm_share_1 : decode b_Bm_share 1 = .ok (.iconst 0, 1) := by decide +kernel
theorem d_Bm_share_2 : decode b_Bm_share 2 = .ok (.putfield 131, 3) := by decide +kernel
theorem d_Bm_share_5 : decode b_Bm_share 5 = .ok (.aload_n 0, 1) := by decide +kernel
theorem d_Bm_share_6 : decode b_Bm_share 6 = .ok (.aload_n 0, 1) := by decide +kernel
theorem d_Bm_share_7 : decode b_Bm_share 7 = .ok (.getfield 220, 3) := by decide +kernel
theorem d_Bm_share_10 : decode b_Bm_share 10 = .ok (.ifCond .eq 26, 3) := by decide +kernel
theorem d_Bm_share_13 : decode b_Bm_share 13 = .ok (.iload_n 1, 1) := by decide +kernel
theorem d_Bm_share_14 : decode b_Bm_share 14 = .ok (.iconst 0, 1) := by decide +kernel
theorem d_Bm_share_15 : decode b_Bm_share 15 = .ok (.aload_n 0, 1) := by decide +kernel
theorem d_Bm_share_16 : decode b_Bm_share 16 = .ok (.getfield 211, 3) := by decide +kernel
theorem d_Bm_share_19 : decode b_Bm_share 19 = .ok (.iconst 1, 1) := by decide +kernel
theorem d_Bm_share_20 : decode b_Bm_share 20 = .ok (.isub, 1) := by decide +kernel
theorem d_Bm_share_21 : decode b_Bm_share 21 = .ok (.invokestatic 203, 3) := by decide +kernel
theorem d_Bm_share_24 : decode b_Bm_share 24 = .ok (.ifCond .eq 16, 3) := by decide +kernel
theorem d_Bm_share_27 : decode b_Bm_share 27 = .ok (.aload_n 0, 1) := by decide +kernel
theorem d_Bm_share_28 : decode b_Bm_share 28 = .ok (.getfield 26, 3) := by decide +kernel
theorem d_Bm_share_31 : decode b_Bm_share 31 = .ok (.iload_n 1, 1) := by decide +kernel
theorem d_Bm_share_32 : decode b_Bm_share 32 = .ok (.iaload, 1) := by decide +kernel
theorem d_Bm_share_33 : decode b_Bm_share 33 = .ok (.ifCond .lt 7, 3) := by decide +kernel
theorem d_Bm_share_36 : decode b_Bm_share 36 = .ok (.iconst 1, 1) := by decide +kernel
theorem d_Bm_share_37 : decode b_Bm_share 37 = .ok (.goto 4, 3) := by decide +kernel
theorem d_Bm_share_40 : decode b_Bm_share 40 = .ok (.iconst 0, 1) := by decide +kernel
theorem d_Bm_share_41 : decode b_Bm_share 41 = .ok (.iconst 1, 1) := by decide +kernel
theorem d_Bm_share_42 : decode b_Bm_share 42 = .ok (.invokevirtual 207, 3) := by decide +kernel
theorem d_Bm_share_45 : decode b_Bm_share 45 = .ok (.ifCond .ne 53, 3) := by decide +kernel
theorem d_Bm_share_48 : decode b_Bm_share 48 = .ok (.aload_n 0, 1) := by decide +kernel
theorem d_Bm_share_49 : decode b_Bm_share 49 = .ok (.iload_n 1, 1) := by decide +kernel
theorem d_Bm_share_50 : decode b_Bm_share 50 = .ok (.iconst 0, 1) := by decide +kernel
theorem d_Bm_share_51 : decode b_Bm_share 51 = .ok (.aload_n 0, 1) := by decide +kernel
theorem d_Bm_share_52 : decode b_Bm_share 52 = .ok (.getfield 211, 3) := by decide +kernel
theorem d_Bm_share_55 : decode b_Bm_share 55 = .ok (.iconst 1, 1) := by decide +kernel
theorem d_Bm_share_56 : decode b_Bm_share 56 = .ok (.isub, 1) := by decide +kernel
theorem d_Bm_share_57 : decode b_Bm_share 57 = .ok (.invokestatic 203, 3) := by decide +kernel
theorem d_Bm_share_60 : decode b_Bm_share 60 = .ok (.ifCond .eq 26, 3) := by decide +kernel
theorem d_Bm_share_63 : decode b_Bm_share 63 = .ok (.aload_n 0, 1) := by decide +kernel
theorem d_Bm_share_64 : decode b_Bm_share 64 = .ok (.iload_n 1, 1) := by decide +kernel
theorem d_Bm_share_65 : decode b_Bm_share 65 = .ok (.lload_n 2, 1) := by decide +kernel
theorem d_Bm_share_66 : decode b_Bm_share 66 = .ok (.lload 4, 2) := by decide +kernel
theorem d_Bm_share_68 : decode b_Bm_share 68 = .ok (.lload 6, 2) := by decide +kernel
theorem d_Bm_share_70 : decode b_Bm_share 70 = .ok (.aload_n 0, 1) := by decide +kernel
theorem d_Bm_share_71 : decode b_Bm_share 71 = .ok (.getfield 119, 3) := by decide +kernel
theorem d_Bm_share_74 : decode b_Bm_share 74 = .ok (.iload_n 1, 1) := by decide +kernel
theorem d_Bm_share_75 : decode b_Bm_share 75 = .ok (.laload, 1) := by decide +kernel
theorem d_Bm_share_76 : decode b_Bm_share 76 = .ok (.aload_n 0, 1) := by decide +kernel
theorem d_Bm_share_77 : decode b_Bm_share 77 = .ok (.getfield 227, 3) := by decide +kernel
theorem d_Bm_share_80 : decode b_Bm_share 80 = .ok (.invokevirtual 294, 3) := by decide +kernel
theorem d_Bm_share_83 : decode b_Bm_share 83 = .ok (.ifCond .ne 7, 3) := by decide +kernel
theorem d_Bm_share_86 : decode b_Bm_share 86 = .ok (.iconst 1, 1) := by decide +kernel
theorem d_Bm_share_87 : decode b_Bm_share 87 = .ok (.goto 4, 3) := by decide +kernel
theorem d_Bm_share_90 : decode b_Bm_share 90 = .ok (.iconst 0, 1) := by decide +kernel
theorem d_Bm_share_91 : decode b_Bm_share 91 = .ok (.iconst 2, 1) := by decide +kernel
theorem d_Bm_share_92 : decode b_Bm_share 92 = .ok (.invokevirtual 207, 3) := by decide +kernel
theorem d_Bm_share_95 : decode b_Bm_share 95 = .ok (.ifCond .eq 5, 3) := by decide +kernel
theorem d_Bm_share_98 : decode b_Bm_share 98 = .ok (.iconst 0, 1) := by decide +kernel
theorem d_Bm_share_99 : decode b_Bm_share 99 = .ok (.ireturn, 1) := by decide +kernel
theorem d_Bm_share_100 : decode b_Bm_share 100 = .ok (.aload_n 0, 1) := by decide +kernel
theorem d_Bm_share_101 : decode b_Bm_share 101 = .ok (.iload_n 1, 1) := by decide +kernel
theorem d_Bm_share_102 : decode b_Bm_share 102 = .ok (.lload_n 2, 1) := by decide +kernel
theorem d_Bm_share_103 : decode b_Bm_share 103 = .ok (.lload 4, 2) := by decide +kernel
theorem d_Bm_share_105 : decode b_Bm_share 105 = .ok (.lload 6, 2) := by decide +kernel
theorem d_Bm_share_107 : decode b_Bm_share 107 = .ok (.invokevirtual 298, 3) := by decide +kernel
theorem d_Bm_share_110 : decode b_Bm_share 110 = .ok (.ireturn, 1) := by decide +kernel
set_option maxHeartbeats 8000000 in
set_option maxRecDepth 100000 in
theorem c_Bm_share_1 (l : Launch) (dC : Nat → ClassId) (dI : Nat → Nat → Nat) (cJ cI : ClassId) (sz : Nat) (m0 : Nat) (e0 : Int32) (N n bc P Q G al pa pb : Nat) (cl : Int32) (a0 a1 a2 a3 a4 a5 a6 a7 a8 a9 b0 b1 oc b2 b3 b4 b5 : Nat) (bf sc st sf : Nat → Int32) (tf nf cf sh ky lf : Nat → Int64) (so ko : Nat → Nat) (x1 : Int32) (x2 x3 x4 : Int64) (hN : N ≤ 4) (hgr : 0 < N → gfx P Q G) (hcl : cl = 0 ∨ cl = 1) (hclN : cl = 1 → 0 < N) (hn : n ≤ 154) (hrs : rK 4 n so sf sh) (hky : ∀ i, i < N → cl = 1 → ky i = lN (ko i) ∧ ko i < P ∧ ko i ^ Q % P = 1) (hpa : pa < 2 ^ 61 ∧ (cl = 1 → pa < P)) (hC1 : sC1r N cl so x1) : Met l y_Bm_share w_Bm_share ({ frames := 7, cells := 0, slots := 0, locals := 224 }) (va_Pc [.ref m0, .int x1, .long x2, .long x3, .long x4] (fun U => U.heap.size = sz ∧ va_P (dC, dI) classes (mo_ws m0 e0 (nI N) (nI n) (nI bc) (lN P) (lN Q) (lN G) (lN al) (lN pa) (lN pb) cl a0 a1 a2 a3 a4 a5 a6 a7 a8 a9 b0 b1 oc b2 b3 b4 b5 ++ (iw_ws a7 cI 256 bf ++ (iw_ws a8 cI 64 sc ++ (iw_ws a9 cI 8 st ++ (iw_ws b0 cI 8 kS ++ (iw_ws b1 cI 64 kR ++ (jw_ws a2 cJ 4 tf ++ (jw_ws a0 cJ 1232 nf ++ (jw_ws a1 cJ 616 cf ++ (iw_ws a5 cI 4 sf ++ (jw_ws b4 cJ 4 sh ++ (jw_ws b2 cJ 4 ky ++ (jw_ws a3 cJ 16 lf))))))))))))) U.heap ∧ va_K (dC, dI) classes [(cJ, .long), (cI, .int)] U ∧ va_D (fun _ => True) (mo_ws m0 e0 (nI N) (nI n) (nI bc) (lN P) (lN Q) (lN G) (lN al) (lN pa) (lN pb) cl a0 a1 a2 a3 a4 a5 a6 a7 a8 a9 b0 b1 oc b2 b3 b4 b5 ++ (iw_ws a7 cI 256 bf ++ (iw_ws a8 cI 64 sc ++ (iw_ws a9 cI 8 st ++ (iw_ws b0 cI 8 kS ++ (iw_ws b1 cI 64 kR ++ (jw_ws a2 cJ 4 tf ++ (jw_ws a0 cJ 1232 nf ++ (jw_ws a1 cJ 616 cf ++ (iw_ws a5 cI 4 sf ++ (jw_ws b4 cJ 4 sh ++ (jw_ws b2 cJ 4 ky ++ (jw_ws a3 cJ 16 lf))))))))))))))) (va_Qi (fun (r : Int32) (_ : Unit) => True) (fun _ t => va_P (dC, dI) classes (mo_ws m0 1 (nI N) (nI n) (nI bc) (lN P) (lN Q) (lN G) (lN al) (lN pa) (lN pb) cl a0 a1 a2 a3 a4 a5 a6 a7 a8 a9 b0 b1 oc b2 b3 b4 b5 ++ (iw_ws a7 cI 256 bf ++ (iw_ws a8 cI 64 sc ++ (iw_ws a9 cI 8 st ++ (iw_ws b0 cI 8 kS ++ (iw_ws b1 cI 64 kR ++ (jw_ws a2 cJ 4 tf ++ (jw_ws a0 cJ 1232 nf ++ (jw_ws a1 cJ 616 cf ++ (iw_ws a5 cI 4 sf ++ (jw_ws b4 cJ 4 sh ++ (jw_ws b2 cJ 4 ky ++ (jw_ws a3 cJ 16 lf))))))))))))) t.heap ∧ va_K (dC, dI) classes [(cJ, .long), (cI, .int)] t ∧ va_D (va_A (mo_ws m0 e0 (nI N) (nI n) (nI bc) (lN P) (lN Q) (lN G) (lN al) (lN pa) (lN pb) cl a0 a1 a2 a3 a4 a5 a6 a7 a8 a9 b0 b1 oc b2 b3 b4 b5 ++ (iw_ws a7 cI 256 bf ++ (iw_ws a8 cI 64 sc ++ (iw_ws a9 cI 8 st ++ (iw_ws b0 cI 8 kS ++ (iw_ws b1 cI 64 kR ++ (jw_ws a2 cJ 4 tf ++ (jw_ws a0 cJ 1232 nf ++ (jw_ws a1 cJ 616 cf ++ (iw_ws a5 cI 4 sf ++ (jw_ws b4 cJ 4 sh ++ (jw_ws b2 cJ 4 ky ++ (jw_ws a3 cJ 16 lf))))))))))))) sz) (mo_ws m0 1 (nI N) (nI n) (nI bc) (lN P) (lN Q) (lN G) (lN al) (lN pa) (lN pb) cl a0 a1 a2 a3 a4 a5 a6 a7 a8 a9 b0 b1 oc b2 b3 b4 b5 ++ (iw_ws a7 cI 256 bf ++ (iw_ws a8 cI 64 sc ++ (iw_ws a9 cI 8 st ++ (iw_ws b0 cI 8 kS ++ (iw_ws b1 cI 64 kR ++ (jw_ws a2 cJ 4 tf ++ (jw_ws a0 cJ 1232 nf ++ (jw_ws a1 cJ 616 cf ++ (iw_ws a5 cI 4 sf ++ (jw_ws b4 cJ 4 sh ++ (jw_ws b2 cJ 4 ky ++ (jw_ws a3 cJ 16 lf)))))))))))))) (va_A (mo_ws m0 e0 (nI N) (nI n) (nI bc) (lN P) (lN Q) (lN G) (lN al) (lN pa) (lN pb) cl a0 a1 a2 a3 a4 a5 a6 a7 a8 a9 b0 b1 oc b2 b3 b4 b5 ++ (iw_ws a7 cI 256 bf ++ (iw_ws a8 cI 64 sc ++ (iw_ws a9 cI 8 st ++ (iw_ws b0 cI 8 kS ++ (iw_ws b1 cI 64 kR ++ (jw_ws a2 cJ 4 tf ++ (jw_ws a0 cJ 1232 nf ++ (jw_ws a1 cJ 616 cf ++ (iw_ws a5 cI 4 sf ++ (jw_ws b4 cJ 4 sh ++ (jw_ws b2 cJ 4 ky ++ (jw_ws a3 cJ 16 lf))))))))))))) sz)) 0 0 (va_A (mo_ws m0 e0 (nI N) (nI n) (nI bc) (lN P) (lN Q) (lN G) (lN al) (lN pa) (lN pb) cl a0 a1 a2 a3 a4 a5 a6 a7 a8 a9 b0 b1 oc b2 b3 b4 b5 ++ (iw_ws a7 cI 256 bf ++ (iw_ws a8 cI 64 sc ++ (iw_ws a9 cI 8 st ++ (iw_ws b0 cI 8 kS ++ (iw_ws b1 cI 64 kR ++ (jw_ws a2 cJ 4 tf ++ (jw_ws a0 cJ 1232 nf ++ (jw_ws a1 cJ 616 cf ++ (iw_ws a5 cI 4 sf ++ (jw_ws b4 cJ 4 sh ++ (jw_ws b2 cJ 4 ky ++ (jw_ws a3 cJ 16 lf))))))))))))) sz) := by
  refine Met.ofW (cc := b_Bm_share) (maxL := 8) (ret := (some .int)) (by decide) rfl ?_
  intro p e s m args below meth c s₁ Bd hml hv
  obtain ⟨rfl, hsz, hP, hK, hD0⟩ := hv
  have hx := Bd.exec
  have hb := Bd.bytes
  have hr := Bd.returns
  have hts := atoms_spec (ws := w_Bm_share) Bd.pre
  have hown : s.vm.findClass "BallotBoardModel" = some m.cls := findClass_of_methodNamed Bd.named
  have hlocks := Bd.notSynchronized
  subst hsz
  have hD := hD0.self (sz := s.heap.size)
  generalize hAe : va_A (mo_ws m0 e0 (nI N) (nI n) (nI bc) (lN P) (lN Q) (lN G) (lN al) (lN pa) (lN pb) cl a0 a1 a2 a3 a4 a5 a6 a7 a8 a9 b0 b1 oc b2 b3 b4 b5 ++ (iw_ws a7 cI 256 bf ++ (iw_ws a8 cI 64 sc ++ (iw_ws a9 cI 8 st ++ (iw_ws b0 cI 8 kS ++ (iw_ws b1 cI 64 kR ++ (jw_ws a2 cJ 4 tf ++ (jw_ws a0 cJ 1232 nf ++ (jw_ws a1 cJ 616 cf ++ (iw_ws a5 cI 4 sf ++ (jw_ws b4 cJ 4 sh ++ (jw_ws b2 cJ 4 ky ++ (jw_ws a3 cJ 16 lf))))))))))))) s.heap.size = A at hD ⊢
  have hA : ∀ q : Nat, s.heap.size ≤ q → A q := fun q h => by rw [← hAe]; exact Or.inr h
  have hS : va_S A s.heap s.heap [] := va_S.rf
  have hl := lv_entry ([.ref m0, .int x1, .long x2, .long x3, .long x4]) (n := 8) (Nat.le_of_ble_eq_true rfl)
  rw [lg_entry_eq]
  generalize (lg_sl ([.ref m0, .int x1, .long x2, .long x3, .long x4]) ++ List.replicate (8 - (lg_sl ([.ref m0, .int x1, .long x2, .long x3, .long x4])).length) Slot.unset).toArray = ls at hl ⊢
  have hl : lv_has ls 8 [(0, .ref m0), (1, .int x1), (2, .long x2), (4, .long x3), (6, .long x4)] := hl
  refine lv_aload_n hx hb d_Bm_share_0 rfl (lv_at hl 0 rfl) ?_
  refine lv_iconst (v := 0) hx hb d_Bm_share_1 (by decide) ?_
  refine va_put (D := (dC, dI)) (ci := 8) (v := .int 0) (ty := .int) (C := "BallotBoardModel") (T := F_Bm) (N := 28) hx hb hts (fun w9 h9 => List.mem_cons_of_mem _ (i_Bm w9 h9)) t_Bm t_Bm_ok n_Bm hown hK hP hD hS 0 rfl rfl 0 (by decide) (hts _ (List.mem_cons_of_mem _ gk_919)) (fun _ h9 => h9) rfl (by decide +kernel) rfl rfl (Nat.le_of_ble_eq_true rfl) d_Bm_share_2 (fun H locs hP hD hS => ?_)
  have hP : va_P (dC, dI) classes [(m0, .inr (8, [.int 0, .int (nI N), .int (nI n), .int (nI bc), .long (lN P), .long (lN Q), .long (lN G), .long (lN al), .long (lN pa), .long (lN pb), .int cl, .ref a0, .ref a1, .ref a2, .ref a3, .ref a4, .ref a5, .ref a6, .ref a7, .ref a8, .ref a9, .ref b0, .ref b1, .int (nI oc), .ref b2, .ref b3, .ref b4, .ref b5])), (a7, .inl (cI, 256, .inl bf)), (a8, .inl (cI, 64, .inl sc)), (a9, .inl (cI, 8, .inl st)), (b0, .inl (cI, 8, .inl kS)), (b1, .inl (cI, 64, .inl kR)), (a2, .inl (cJ, 4, .inr (.inl tf))), (a0, .inl (cJ, 1232, .inr (.inl nf))), (a1, .inl (cJ, 616, .inr (.inl cf))), (a5, .inl (cI, 4, .inl sf)), (b4, .inl (cJ, 4, .inr (.inl sh))), (b2, .inl (cJ, 4, .inr (.inl ky))), (a3, .inl (cJ, 16, .inr (.inl lf)))] H := hP
  have hD : va_D A [(m0, .inr (8, [.int 0, .int (nI N), .int (nI n), .int (nI bc), .long (lN P), .long (lN Q), .long (lN G), .long (lN al), .long (lN pa), .long (lN pb), .int cl, .ref a0, .ref a1, .ref a2, .ref a3, .ref a4, .ref a5, .ref a6, .ref a7, .ref a8, .ref a9, .ref b0, .ref b1, .int (nI oc), .ref b2, .ref b3, .ref b4, .ref b5])), (a7, .inl (cI, 256, .inl bf)), (a8, .inl (cI, 64, .inl sc)), (a9, .inl (cI, 8, .inl st)), (b0, .inl (cI, 8, .inl kS)), (b1, .inl (cI, 64, .inl kR)), (a2, .inl (cJ, 4, .inr (.inl tf))), (a0, .inl (cJ, 1232, .inr (.inl nf))), (a1, .inl (cJ, 616, .inr (.inl cf))), (a5, .inl (cI, 4, .inl sf)), (b4, .inl (cJ, 4, .inr (.inl sh))), (b2, .inl (cJ, 4, .inr (.inl ky))), (a3, .inl (cJ, 16, .inr (.inl lf)))] := hD
  refine lv_aload_n hx hb d_Bm_share_5 rfl (lv_at hl 0 rfl) ?_
  refine lv_aload_n hx hb d_Bm_share_6 rfl (lv_at hl 0 rfl) ?_
  refine va_get (D := (dC, dI)) (ci := 8) (v := .int cl) (C := "BallotBoardModel") (T := F_Bm) (N := 28) hx hb hts (fun w9 h9 => List.mem_cons_of_mem _ (i_Bm w9 h9)) hown hK hP 0 rfl rfl 10 (by decide) (hts _ (List.mem_cons_of_mem _ gk_929)) (fun _ h9 => h9) rfl d_Bm_share_7 ?_
  refine lv_if_eq (tgt := 36) hx hb d_Bm_share_10 (by decide) (fun c_1 => ?_) (fun c_1 => ?_)
  · -- taken
    have hcl0 : cl = 0 := c_1
    refine lv_iconst (v := 1) hx hb d_Bm_share_36 (by decide) ?_
    refine lv_goto (tgt := 41) hx hb d_Bm_share_37 (by decide) ?_
    refine lv_iconst (v := 1) hx hb d_Bm_share_41 (by decide) ?_
    have hPc := hP.sub (ws' := (mo_ws m0 0 (nI N) (nI n) (nI bc) (lN P) (lN Q) (lN G) (lN al) (lN pa) (lN pb) cl a0 a1 a2 a3 a4 a5 a6 a7 a8 a9 b0 b1 oc b2 b3 b4 b5)) [0] rfl
    have hDc := hD.sub (ws' := (mo_ws m0 0 (nI N) (nI n) (nI bc) (lN P) (lN Q) (lN G) (lN al) (lN pa) (lN pb) cl a0 a1 a2 a3 a4 a5 a6 a7 a8 a9 b0 b1 oc b2 b3 b4 b5)) [0] (by decide) rfl
    have hKc := hK.sub (tys' := [(cJ, .long), (cI, .int)]) [0, 1] rfl
    have hFc := va_free (wc := (mo_ws m0 0 (nI N) (nI n) (nI bc) (lN P) (lN Q) (lN G) (lN al) (lN pa) (lN pb) cl a0 a1 a2 a3 a4 a5 a6 a7 a8 a9 b0 b1 oc b2 b3 b4 b5)) hD hS hA [0] rfl
    refine va_calli (va_runV (As := [.int 1, .int 1]) (rest := []) ⟨hx, hb, hml, hown, hts⟩ (c_Bm_fails_1 l dC dI cJ cI H.size m0 (nI N) (nI n) (nI bc) (lN P) (lN Q) (lN G) (lN al) (lN pa) (lN pb) cl a0 a1 a2 a3 a4 a5 a6 a7 a8 a9 b0 b1 oc b2 b3 b4 b5 1 (by decide)) (cwV 2 hts (gw_V gk_1030 gk_1032 gp_27 gk_7 gk_1033) rfl rfl rfl (by decide +kernel) ⟨Nat.le_of_ble_eq_true rfl, Nat.le_of_ble_eq_true rfl⟩) ⟨fun a U g mk q => by obtain ⟨q0, q1, qP, qK, qD⟩ := q; exact ⟨q0, q1, qP, va_K.moved (u := U) (U := U.calling g mk a) (Vm.Alike.refl U.vm) qK, qD⟩, va_recv hK hP (ci := 8) (q0 := 0) rfl rfl, fun U hU hW => ⟨rfl, by rw [hU], by rw [hU]; exact hPc, va_K.moved hW.alike hKc, hDc.weaken (fun _ _ _ _ => trivial)⟩⟩ rfl rfl hl.1 rfl (lv_room (Nat.le_of_ble_eq_true rfl)) d_Bm_share_42 ⟨Nat.le_of_ble_eq_true rfl, Nat.le_of_ble_eq_true rfl⟩) hS (fun q _ h => hFc q h) hFc (fun r_2 u9 t9 H1 locs ht hvm hw hB hz1 hk1 hS => ?_)
    have hw : r_2 = 1 := hw
    subst hw
    obtain ⟨hP1, hK1, hD1⟩ := hB
    rw [ht] at hP1
    obtain ⟨hP, hD⟩ := va_join (wr := [(a7, .inl (cI, 256, .inl bf)), (a8, .inl (cI, 64, .inl sc)), (a9, .inl (cI, 8, .inl st)), (b0, .inl (cI, 8, .inl kS)), (b1, .inl (cI, 64, .inl kR)), (a2, .inl (cJ, 4, .inr (.inl tf))), (a0, .inl (cJ, 1232, .inr (.inl nf))), (a1, .inl (cJ, 616, .inr (.inl cf))), (a5, .inl (cI, 4, .inl sf)), (b4, .inl (cJ, 4, .inr (.inl sh))), (b2, .inl (cJ, 4, .inr (.inl ky))), (a3, .inl (cJ, 16, .inr (.inl lf)))]) (w1 := [(m0, .inr (8, [.int 1, .int (nI N), .int (nI n), .int (nI bc), .long (lN P), .long (lN Q), .long (lN G), .long (lN al), .long (lN pa), .long (lN pb), .int cl, .ref a0, .ref a1, .ref a2, .ref a3, .ref a4, .ref a5, .ref a6, .ref a7, .ref a8, .ref a9, .ref b0, .ref b1, .int (nI oc), .ref b2, .ref b3, .ref b4, .ref b5]))]) hP hD [0] [1, 2, 3, 4, 5, 6, 7, 8, 9, 10, 11, 12] rfl rfl (by decide) (by decide) hk1 hFc hP1 hD1
    have hP := hP.sub (ws' := [(m0, .inr (8, [.int 1, .int (nI N), .int (nI n), .int (nI bc), .long (lN P), .long (lN Q), .long (lN G), .long (lN al), .long (lN pa), .long (lN pb), .int cl, .ref a0, .ref a1, .ref a2, .ref a3, .ref a4, .ref a5, .ref a6, .ref a7, .ref a8, .ref a9, .ref b0, .ref b1, .int (nI oc), .ref b2, .ref b3, .ref b4, .ref b5])), (a7, .inl (cI, 256, .inl bf)), (a8, .inl (cI, 64, .inl sc)), (a9, .inl (cI, 8, .inl st)), (b0, .inl (cI, 8, .inl kS)), (b1, .inl (cI, 64, .inl kR)), (a2, .inl (cJ, 4, .inr (.inl tf))), (a0, .inl (cJ, 1232, .inr (.inl nf))), (a1, .inl (cJ, 616, .inr (.inl cf))), (a5, .inl (cI, 4, .inl sf)), (b4, .inl (cJ, 4, .inr (.inl sh))), (b2, .inl (cJ, 4, .inr (.inl ky))), (a3, .inl (cJ, 16, .inr (.inl lf)))]) [12, 0, 1, 2, 3, 4, 5, 6, 7, 8, 9, 10, 11] rfl
    have hD := hD.sub (ws' := [(m0, .inr (8, [.int 1, .int (nI N), .int (nI n), .int (nI bc), .long (lN P), .long (lN Q), .long (lN G), .long (lN al), .long (lN pa), .long (lN pb), .int cl, .ref a0, .ref a1, .ref a2, .ref a3, .ref a4, .ref a5, .ref a6, .ref a7, .ref a8, .ref a9, .ref b0, .ref b1, .int (nI oc), .ref b2, .ref b3, .ref b4, .ref b5])), (a7, .inl (cI, 256, .inl bf)), (a8, .inl (cI, 64, .inl sc)), (a9, .inl (cI, 8, .inl st)), (b0, .inl (cI, 8, .inl kS)), (b1, .inl (cI, 64, .inl kR)), (a2, .inl (cJ, 4, .inr (.inl tf))), (a0, .inl (cJ, 1232, .inr (.inl nf))), (a1, .inl (cJ, 616, .inr (.inl cf))), (a5, .inl (cI, 4, .inl sf)), (b4, .inl (cJ, 4, .inr (.inl sh))), (b2, .inl (cJ, 4, .inr (.inl ky))), (a3, .inl (cJ, 16, .inr (.inl lf)))]) [12, 0, 1, 2, 3, 4, 5, 6, 7, 8, 9, 10, 11] (by decide) rfl
    generalize H1 = H at hP hS ⊢
    refine lv_if_ne (tgt := 98) hx hb d_Bm_share_45 (by decide) (fun c_3 => ?_) (fun c_3 => ?_)
    · -- taken
      refine lv_iconst (v := 0) hx hb d_Bm_share_98 (by decide) ?_
      exact W.iret (v := 0) hx hb hr (fun t ht9 hW => ⟨⟨_, (), rfl, trivial, by rw [ht9]; exact hP, va_K.moved hW.alike hK, hD⟩, hS.F ht9⟩) hS.2.2 d_Bm_share_99
    · -- not taken
      exact absurd c_3 (by decide)
  · -- not taken
    have hcl1 : cl = 1 := hcl.resolve_left c_1
    have hN0 := hclN hcl1
    obtain ⟨hPQ, h61F, hQ3, hG2, hGP, hGQ⟩ := hgr hN0
    have hpaP := hpa.2 hcl1
    refine lv_iload_n hx hb d_Bm_share_13 rfl (lv_at hl 1 rfl) ?_
    refine lv_iconst (v := 0) hx hb d_Bm_share_14 (by decide) ?_
    refine lv_aload_n hx hb d_Bm_share_15 rfl (lv_at hl 0 rfl) ?_
    refine va_get (D := (dC, dI)) (ci := 8) (v := .int (nI N)) (C := "BallotBoardModel") (T := F_Bm) (N := 28) hx hb hts (fun w9 h9 => List.mem_cons_of_mem _ (i_Bm w9 h9)) hown hK hP 0 rfl rfl 1 (by decide) (hts _ (List.mem_cons_of_mem _ gk_920)) (fun _ h9 => h9) rfl d_Bm_share_16 ?_
    refine lv_iconst (v := 1) hx hb d_Bm_share_19 (by decide) ?_
    refine lv_isub hx hb d_Bm_share_20 ?_
    rw [show ((nI N) - 1 : Int32) = (nI (N - 1)) from nI_subI (b := 1) (by omega) rfl]
    refine va_calli (va_runS (As := [.int x1, .int 0, .int (nI (N - 1))]) (rest := [.ref m0]) ⟨hx, hb, hml, hown, hts⟩ (c_Bm_in l H x1 0 (nI (N - 1))) (cwS 3 hts (gw_S gk_1027 gk_1028 gk_7 gk_1029) rfl rfl rfl (by decide +kernel) ⟨Nat.le_of_ble_eq_true rfl, Nat.le_of_ble_eq_true rfl⟩) ⟨fun a U g mk q => q, fun U hU hW => ⟨rfl, hU⟩⟩ rfl rfl hl.1 rfl (lv_room (Nat.le_of_ble_eq_true rfl)) d_Bm_share_21 ⟨Nat.le_of_ble_eq_true rfl, Nat.le_of_ble_eq_true rfl⟩) hS (fun q _ h => h.elim) (fun q h => h.elim) (fun r21 u9 t9 H1 locs ht hvm hw hB hz1 hk1 hS => ?_)
    obtain rfl : H = H1 := hB.symm.trans ht
    have h21 : bz r21 (inN x1 N) := bz_in hN0 (by omega) rfl hw
    refine lv_if_eq (tgt := 40) hx hb d_Bm_share_24 (by decide) (fun c_4 => ?_) (fun c_4 => ?_)
    · -- taken
      exfalso
      have hni := bz_f h21 c_4
      rcases hC1 with h | ⟨I, e9, hI9, _⟩
      · exact h hcl1
      · exact hni ⟨I, e9, hI9⟩
    · -- not taken
      obtain ⟨I, rfl, hI⟩ := bz_t h21 c_4
      refine lv_aload_n hx hb d_Bm_share_27 rfl (lv_at hl 0 rfl) ?_
      refine va_get (D := (dC, dI)) (ci := 8) (v := .ref a5) (C := "BallotBoardModel") (T := F_Bm) (N := 28) hx hb hts (fun w9 h9 => List.mem_cons_of_mem _ (i_Bm w9 h9)) hown hK hP 0 rfl rfl 16 (by decide) (hts _ (List.mem_cons_of_mem _ gk_935)) (fun _ h9 => h9) rfl d_Bm_share_28 ?_
      refine lv_iload_n hx hb d_Bm_share_31 rfl (lv_at hl 1 rfl) ?_
      refine va_iald hx hb hK hP 9 1 rfl rfl (vp_in_nI (by omega) (by omega)) d_Bm_share_32 ?_
      rw [show (sf (nI I : Int32).toNatClampNeg : Int32) = sf I from by rw [nI_clamp (by omega)]]
      refine lv_if_lt (tgt := 40) hx hb d_Bm_share_33 (by decide) (fun c_5 => ?_) (fun c_5 => ?_)
      · -- taken
        exfalso
        have hk9 := (rK_neg hrs hn (show I < 4 by omega)).mp c_5
        rcases hC1 with h | ⟨J, e9, hJ9, hk8⟩
        · exact h hcl1
        · have e8 := nI_inj (by omega) (by omega) e9
          subst e8
          exact hk8 hk9
      · -- not taken
        have hk9 := c_5
        refine lv_iconst (v := 1) hx hb d_Bm_share_36 (by decide) ?_
        refine lv_goto (tgt := 41) hx hb d_Bm_share_37 (by decide) ?_
        refine lv_iconst (v := 1) hx hb d_Bm_share_41 (by decide) ?_
        have hPc := hP.sub (ws' := (mo_ws m0 0 (nI N) (nI n) (nI bc) (lN P) (lN Q) (lN G) (lN al) (lN pa) (lN pb) cl a0 a1 a2 a3 a4 a5 a6 a7 a8 a9 b0 b1 oc b2 b3 b4 b5)) [0] rfl
        have hDc := hD.sub (ws' := (mo_ws m0 0 (nI N) (nI n) (nI bc) (lN P) (lN Q) (lN G) (lN al) (lN pa) (lN pb) cl a0 a1 a2 a3 a4 a5 a6 a7 a8 a9 b0 b1 oc b2 b3 b4 b5)) [0] (by decide) rfl
        have hKc := hK.sub (tys' := [(cJ, .long), (cI, .int)]) [0, 1] rfl
        have hFc := va_free (wc := (mo_ws m0 0 (nI N) (nI n) (nI bc) (lN P) (lN Q) (lN G) (lN al) (lN pa) (lN pb) cl a0 a1 a2 a3 a4 a5 a6 a7 a8 a9 b0 b1 oc b2 b3 b4 b5)) hD hS hA [0] rfl
        refine va_calli (va_runV (As := [.int 1, .int 1]) (rest := []) ⟨hx, hb, hml, hown, hts⟩ (c_Bm_fails_1 l dC dI cJ cI H.size m0 (nI N) (nI n) (nI bc) (lN P) (lN Q) (lN G) (lN al) (lN pa) (lN pb) cl a0 a1 a2 a3 a4 a5 a6 a7 a8 a9 b0 b1 oc b2 b3 b4 b5 1 (by decide)) (cwV 2 hts (gw_V gk_1030 gk_1032 gp_27 gk_7 gk_1033) rfl rfl rfl (by decide +kernel) ⟨Nat.le_of_ble_eq_true rfl, Nat.le_of_ble_eq_true rfl⟩) ⟨fun a U g mk q => by obtain ⟨q0, q1, qP, qK, qD⟩ := q; exact ⟨q0, q1, qP, va_K.moved (u := U) (U := U.calling g mk a) (Vm.Alike.refl U.vm) qK, qD⟩, va_recv hK hP (ci := 8) (q0 := 0) rfl rfl, fun U hU hW => ⟨rfl, by rw [hU], by rw [hU]; exact hPc, va_K.moved hW.alike hKc, hDc.weaken (fun _ _ _ _ => trivial)⟩⟩ rfl rfl hl.1 rfl (lv_room (Nat.le_of_ble_eq_true rfl)) d_Bm_share_42 ⟨Nat.le_of_ble_eq_true rfl, Nat.le_of_ble_eq_true rfl⟩) hS (fun q _ h => hFc q h) hFc (fun r_6 u9 t9 H1 locs ht hvm hw hB hz1 hk1 hS => ?_)
        have hw : r_6 = 1 := hw
        subst hw
        obtain ⟨hP1, hK1, hD1⟩ := hB
        rw [ht] at hP1
        obtain ⟨hP, hD⟩ := va_join (wr := [(a7, .inl (cI, 256, .inl bf)), (a8, .inl (cI, 64, .inl sc)), (a9, .inl (cI, 8, .inl st)), (b0, .inl (cI, 8, .inl kS)), (b1, .inl (cI, 64, .inl kR)), (a2, .inl (cJ, 4, .inr (.inl tf))), (a0, .inl (cJ, 1232, .inr (.inl nf))), (a1, .inl (cJ, 616, .inr (.inl cf))), (a5, .inl (cI, 4, .inl sf)), (b4, .inl (cJ, 4, .inr (.inl sh))), (b2, .inl (cJ, 4, .inr (.inl ky))), (a3, .inl (cJ, 16, .inr (.inl lf)))]) (w1 := [(m0, .inr (8, [.int 1, .int (nI N), .int (nI n), .int (nI bc), .long (lN P), .long (lN Q), .long (lN G), .long (lN al), .long (lN pa), .long (lN pb), .int cl, .ref a0, .ref a1, .ref a2, .ref a3, .ref a4, .ref a5, .ref a6, .ref a7, .ref a8, .ref a9, .ref b0, .ref b1, .int (nI oc), .ref b2, .ref b3, .ref b4, .ref b5]))]) hP hD [0] [1, 2, 3, 4, 5, 6, 7, 8, 9, 10, 11, 12] rfl rfl (by decide) (by decide) hk1 hFc hP1 hD1
        have hP := hP.sub (ws' := [(m0, .inr (8, [.int 1, .int (nI N), .int (nI n), .int (nI bc), .long (lN P), .long (lN Q), .long (lN G), .long (lN al), .long (lN pa), .long (lN pb), .int cl, .ref a0, .ref a1, .ref a2, .ref a3, .ref a4, .ref a5, .ref a6, .ref a7, .ref a8, .ref a9, .ref b0, .ref b1, .int (nI oc), .ref b2, .ref b3, .ref b4, .ref b5])), (a7, .inl (cI, 256, .inl bf)), (a8, .inl (cI, 64, .inl sc)), (a9, .inl (cI, 8, .inl st)), (b0, .inl (cI, 8, .inl kS)), (b1, .inl (cI, 64, .inl kR)), (a2, .inl (cJ, 4, .inr (.inl tf))), (a0, .inl (cJ, 1232, .inr (.inl nf))), (a1, .inl (cJ, 616, .inr (.inl cf))), (a5, .inl (cI, 4, .inl sf)), (b4, .inl (cJ, 4, .inr (.inl sh))), (b2, .inl (cJ, 4, .inr (.inl ky))), (a3, .inl (cJ, 16, .inr (.inl lf)))]) [12, 0, 1, 2, 3, 4, 5, 6, 7, 8, 9, 10, 11] rfl
        have hD := hD.sub (ws' := [(m0, .inr (8, [.int 1, .int (nI N), .int (nI n), .int (nI bc), .long (lN P), .long (lN Q), .long (lN G), .long (lN al), .long (lN pa), .long (lN pb), .int cl, .ref a0, .ref a1, .ref a2, .ref a3, .ref a4, .ref a5, .ref a6, .ref a7, .ref a8, .ref a9, .ref b0, .ref b1, .int (nI oc), .ref b2, .ref b3, .ref b4, .ref b5])), (a7, .inl (cI, 256, .inl bf)), (a8, .inl (cI, 64, .inl sc)), (a9, .inl (cI, 8, .inl st)), (b0, .inl (cI, 8, .inl kS)), (b1, .inl (cI, 64, .inl kR)), (a2, .inl (cJ, 4, .inr (.inl tf))), (a0, .inl (cJ, 1232, .inr (.inl nf))), (a1, .inl (cJ, 616, .inr (.inl cf))), (a5, .inl (cI, 4, .inl sf)), (b4, .inl (cJ, 4, .inr (.inl sh))), (b2, .inl (cJ, 4, .inr (.inl ky))), (a3, .inl (cJ, 16, .inr (.inl lf)))]) [12, 0, 1, 2, 3, 4, 5, 6, 7, 8, 9, 10, 11] (by decide) rfl
        generalize H1 = H at hP hS ⊢
        refine lv_if_ne (tgt := 98) hx hb d_Bm_share_45 (by decide) (fun c_7 => ?_) (fun c_7 => ?_)
        · -- taken
          refine lv_iconst (v := 0) hx hb d_Bm_share_98 (by decide) ?_
          exact W.iret (v := 0) hx hb hr (fun t ht9 hW => ⟨⟨_, (), rfl, trivial, by rw [ht9]; exact hP, va_K.moved hW.alike hK, hD⟩, hS.F ht9⟩) hS.2.2 d_Bm_share_99
        · -- not taken
          exact absurd c_7 (by decide)
set_option maxHeartbeats 8000000 in
set_option maxRecDepth 100000 in
theorem c_Bm_share_2 (l : Launch) (dC : Nat → ClassId) (dI : Nat → Nat → Nat) (cJ cI : ClassId) (sz : Nat) (m0 : Nat) (e0 : Int32) (N n bc P Q G al pa pb : Nat) (cl : Int32) (a0 a1 a2 a3 a4 a5 a6 a7 a8 a9 b0 b1 oc b2 b3 b4 b5 : Nat) (bf sc st sf : Nat → Int32) (tf nf cf sh ky lf : Nat → Int64) (so ko : Nat → Nat) (x1 : Int32) (x2 x3 x4 : Int64) (hN : N ≤ 4) (hgr : 0 < N → gfx P Q G) (hcl : cl = 0 ∨ cl = 1) (hclN : cl = 1 → 0 < N) (hn : n ≤ 154) (hrs : rK 4 n so sf sh) (hky : ∀ i, i < N → cl = 1 → ky i = lN (ko i) ∧ ko i < P ∧ ko i ^ Q % P = 1) (hpa : pa < 2 ^ 61 ∧ (cl = 1 → pa < P)) (hC1 : ¬ sC1r N cl so x1) (hC2 : sC2r P Q G pa N ko x1 x2 x3 x4) : Met l y_Bm_share w_Bm_share ({ frames := 7, cells := 0, slots := 0, locals := 224 }) (va_Pc [.ref m0, .int x1, .long x2, .long x3, .long x4] (fun U => U.heap.size = sz ∧ va_P (dC, dI) classes (mo_ws m0 e0 (nI N) (nI n) (nI bc) (lN P) (lN Q) (lN G) (lN al) (lN pa) (lN pb) cl a0 a1 a2 a3 a4 a5 a6 a7 a8 a9 b0 b1 oc b2 b3 b4 b5 ++ (iw_ws a7 cI 256 bf ++ (iw_ws a8 cI 64 sc ++ (iw_ws a9 cI 8 st ++ (iw_ws b0 cI 8 kS ++ (iw_ws b1 cI 64 kR ++ (jw_ws a2 cJ 4 tf ++ (jw_ws a0 cJ 1232 nf ++ (jw_ws a1 cJ 616 cf ++ (iw_ws a5 cI 4 sf ++ (jw_ws b4 cJ 4 sh ++ (jw_ws b2 cJ 4 ky ++ (jw_ws a3 cJ 16 lf))))))))))))) U.heap ∧ va_K (dC, dI) classes [(cJ, .long), (cI, .int)] U ∧ va_D (fun _ => True) (mo_ws m0 e0 (nI N) (nI n) (nI bc) (lN P) (lN Q) (lN G) (lN al) (lN pa) (lN pb) cl a0 a1 a2 a3 a4 a5 a6 a7 a8 a9 b0 b1 oc b2 b3 b4 b5 ++ (iw_ws a7 cI 256 bf ++ (iw_ws a8 cI 64 sc ++ (iw_ws a9 cI 8 st ++ (iw_ws b0 cI 8 kS ++ (iw_ws b1 cI 64 kR ++ (jw_ws a2 cJ 4 tf ++ (jw_ws a0 cJ 1232 nf ++ (jw_ws a1 cJ 616 cf ++ (iw_ws a5 cI 4 sf ++ (jw_ws b4 cJ 4 sh ++ (jw_ws b2 cJ 4 ky ++ (jw_ws a3 cJ 16 lf))))))))))))))) (va_Qi (fun (r : Int32) (u9 : DU × (Nat → Int64)) => True) (fun u9 t => va_P (dC, dI) classes (mo_ws m0 2 (nI N) (nI n) (nI bc) (lN P) (lN Q) (lN G) (lN al) (lN pa) (lN pb) cl a0 a1 a2 a3 a4 a5 a6 a7 a8 a9 b0 b1 u9.1.2.2.2.2 b2 b3 b4 b5 ++ (iw_ws a7 cI 256 u9.1.1 ++ (iw_ws a8 cI 64 u9.1.2.1 ++ (iw_ws a9 cI 8 u9.1.2.2.1 ++ (iw_ws b0 cI 8 kS ++ (iw_ws b1 cI 64 kR ++ (jw_ws a2 cJ 4 u9.1.2.2.2.1 ++ (jw_ws a0 cJ 1232 nf ++ (jw_ws a1 cJ 616 cf ++ (iw_ws a5 cI 4 sf ++ (jw_ws b4 cJ 4 sh ++ (jw_ws b2 cJ 4 ky ++ (jw_ws a3 cJ 16 u9.2))))))))))))) t.heap ∧ va_K (dC, dI) classes [(cJ, .long), (cI, .int)] t ∧ va_D (va_A (mo_ws m0 e0 (nI N) (nI n) (nI bc) (lN P) (lN Q) (lN G) (lN al) (lN pa) (lN pb) cl a0 a1 a2 a3 a4 a5 a6 a7 a8 a9 b0 b1 oc b2 b3 b4 b5 ++ (iw_ws a7 cI 256 bf ++ (iw_ws a8 cI 64 sc ++ (iw_ws a9 cI 8 st ++ (iw_ws b0 cI 8 kS ++ (iw_ws b1 cI 64 kR ++ (jw_ws a2 cJ 4 tf ++ (jw_ws a0 cJ 1232 nf ++ (jw_ws a1 cJ 616 cf ++ (iw_ws a5 cI 4 sf ++ (jw_ws b4 cJ 4 sh ++ (jw_ws b2 cJ 4 ky ++ (jw_ws a3 cJ 16 lf))))))))))))) sz) (mo_ws m0 2 (nI N) (nI n) (nI bc) (lN P) (lN Q) (lN G) (lN al) (lN pa) (lN pb) cl a0 a1 a2 a3 a4 a5 a6 a7 a8 a9 b0 b1 u9.1.2.2.2.2 b2 b3 b4 b5 ++ (iw_ws a7 cI 256 u9.1.1 ++ (iw_ws a8 cI 64 u9.1.2.1 ++ (iw_ws a9 cI 8 u9.1.2.2.1 ++ (iw_ws b0 cI 8 kS ++ (iw_ws b1 cI 64 kR ++ (jw_ws a2 cJ 4 u9.1.2.2.2.1 ++ (jw_ws a0 cJ 1232 nf ++ (jw_ws a1 cJ 616 cf ++ (iw_ws a5 cI 4 sf ++ (jw_ws b4 cJ 4 sh ++ (jw_ws b2 cJ 4 ky ++ (jw_ws a3 cJ 16 u9.2)))))))))))))) (va_A (mo_ws m0 e0 (nI N) (nI n) (nI bc) (lN P) (lN Q) (lN G) (lN al) (lN pa) (lN pb) cl a0 a1 a2 a3 a4 a5 a6 a7 a8 a9 b0 b1 oc b2 b3 b4 b5 ++ (iw_ws a7 cI 256 bf ++ (iw_ws a8 cI 64 sc ++ (iw_ws a9 cI 8 st ++ (iw_ws b0 cI 8 kS ++ (iw_ws b1 cI 64 kR ++ (jw_ws a2 cJ 4 tf ++ (jw_ws a0 cJ 1232 nf ++ (jw_ws a1 cJ 616 cf ++ (iw_ws a5 cI 4 sf ++ (jw_ws b4 cJ 4 sh ++ (jw_ws b2 cJ 4 ky ++ (jw_ws a3 cJ 16 lf))))))))))))) sz)) 0 0 (va_A (mo_ws m0 e0 (nI N) (nI n) (nI bc) (lN P) (lN Q) (lN G) (lN al) (lN pa) (lN pb) cl a0 a1 a2 a3 a4 a5 a6 a7 a8 a9 b0 b1 oc b2 b3 b4 b5 ++ (iw_ws a7 cI 256 bf ++ (iw_ws a8 cI 64 sc ++ (iw_ws a9 cI 8 st ++ (iw_ws b0 cI 8 kS ++ (iw_ws b1 cI 64 kR ++ (jw_ws a2 cJ 4 tf ++ (jw_ws a0 cJ 1232 nf ++ (jw_ws a1 cJ 616 cf ++ (iw_ws a5 cI 4 sf ++ (jw_ws b4 cJ 4 sh ++ (jw_ws b2 cJ 4 ky ++ (jw_ws a3 cJ 16 lf))))))))))))) sz) := by
  refine Met.ofW (cc := b_Bm_share) (maxL := 8) (ret := (some .int)) (by decide) rfl ?_
  intro p e s m args below meth c s₁ Bd hml hv
  obtain ⟨rfl, hsz, hP, hK, hD0⟩ := hv
  have hx := Bd.exec
  have hb := Bd.bytes
  have hr := Bd.returns
  have hts := atoms_spec (ws := w_Bm_share) Bd.pre
  have hown : s.vm.findClass "BallotBoardModel" = some m.cls := findClass_of_methodNamed Bd.named
  have hlocks := Bd.notSynchronized
  subst hsz
  have hD := hD0.self (sz := s.heap.size)
  generalize hAe : va_A (mo_ws m0 e0 (nI N) (nI n) (nI bc) (lN P) (lN Q) (lN G) (lN al) (lN pa) (lN pb) cl a0 a1 a2 a3 a4 a5 a6 a7 a8 a9 b0 b1 oc b2 b3 b4 b5 ++ (iw_ws a7 cI 256 bf ++ (iw_ws a8 cI 64 sc ++ (iw_ws a9 cI 8 st ++ (iw_ws b0 cI 8 kS ++ (iw_ws b1 cI 64 kR ++ (jw_ws a2 cJ 4 tf ++ (jw_ws a0 cJ 1232 nf ++ (jw_ws a1 cJ 616 cf ++ (iw_ws a5 cI 4 sf ++ (jw_ws b4 cJ 4 sh ++ (jw_ws b2 cJ 4 ky ++ (jw_ws a3 cJ 16 lf))))))))))))) s.heap.size = A at hD ⊢
  have hA : ∀ q : Nat, s.heap.size ≤ q → A q := fun q h => by rw [← hAe]; exact Or.inr h
  have hS : va_S A s.heap s.heap [] := va_S.rf
  have hl := lv_entry ([.ref m0, .int x1, .long x2, .long x3, .long x4]) (n := 8) (Nat.le_of_ble_eq_true rfl)
  rw [lg_entry_eq]
  generalize (lg_sl ([.ref m0, .int x1, .long x2, .long x3, .long x4]) ++ List.replicate (8 - (lg_sl ([.ref m0, .int x1, .long x2, .long x3, .long x4])).length) Slot.unset).toArray = ls at hl ⊢
  have hl : lv_has ls 8 [(0, .ref m0), (1, .int x1), (2, .long x2), (4, .long x3), (6, .long x4)] := hl
  refine lv_aload_n hx hb d_Bm_share_0 rfl (lv_at hl 0 rfl) ?_
  refine lv_iconst (v := 0) hx hb d_Bm_share_1 (by decide) ?_
  refine va_put (D := (dC, dI)) (ci := 8) (v := .int 0) (ty := .int) (C := "BallotBoardModel") (T := F_Bm) (N := 28) hx hb hts (fun w9 h9 => List.mem_cons_of_mem _ (i_Bm w9 h9)) t_Bm t_Bm_ok n_Bm hown hK hP hD hS 0 rfl rfl 0 (by decide) (hts _ (List.mem_cons_of_mem _ gk_919)) (fun _ h9 => h9) rfl (by decide +kernel) rfl rfl (Nat.le_of_ble_eq_true rfl) d_Bm_share_2 (fun H locs hP hD hS => ?_)
  have hP : va_P (dC, dI) classes [(m0, .inr (8, [.int 0, .int (nI N), .int (nI n), .int (nI bc), .long (lN P), .long (lN Q), .long (lN G), .long (lN al), .long (lN pa), .long (lN pb), .int cl, .ref a0, .ref a1, .ref a2, .ref a3, .ref a4, .ref a5, .ref a6, .ref a7, .ref a8, .ref a9, .ref b0, .ref b1, .int (nI oc), .ref b2, .ref b3, .ref b4, .ref b5])), (a7, .inl (cI, 256, .inl bf)), (a8, .inl (cI, 64, .inl sc)), (a9, .inl (cI, 8, .inl st)), (b0, .inl (cI, 8, .inl kS)), (b1, .inl (cI, 64, .inl kR)), (a2, .inl (cJ, 4, .inr (.inl tf))), (a0, .inl (cJ, 1232, .inr (.inl nf))), (a1, .inl (cJ, 616, .inr (.inl cf))), (a5, .inl (cI, 4, .inl sf)), (b4, .inl (cJ, 4, .inr (.inl sh))), (b2, .inl (cJ, 4, .inr (.inl ky))), (a3, .inl (cJ, 16, .inr (.inl lf)))] H := hP
  have hD : va_D A [(m0, .inr (8, [.int 0, .int (nI N), .int (nI n), .int (nI bc), .long (lN P), .long (lN Q), .long (lN G), .long (lN al), .long (lN pa), .long (lN pb), .int cl, .ref a0, .ref a1, .ref a2, .ref a3, .ref a4, .ref a5, .ref a6, .ref a7, .ref a8, .ref a9, .ref b0, .ref b1, .int (nI oc), .ref b2, .ref b3, .ref b4, .ref b5])), (a7, .inl (cI, 256, .inl bf)), (a8, .inl (cI, 64, .inl sc)), (a9, .inl (cI, 8, .inl st)), (b0, .inl (cI, 8, .inl kS)), (b1, .inl (cI, 64, .inl kR)), (a2, .inl (cJ, 4, .inr (.inl tf))), (a0, .inl (cJ, 1232, .inr (.inl nf))), (a1, .inl (cJ, 616, .inr (.inl cf))), (a5, .inl (cI, 4, .inl sf)), (b4, .inl (cJ, 4, .inr (.inl sh))), (b2, .inl (cJ, 4, .inr (.inl ky))), (a3, .inl (cJ, 16, .inr (.inl lf)))] := hD
  refine lv_aload_n hx hb d_Bm_share_5 rfl (lv_at hl 0 rfl) ?_
  refine lv_aload_n hx hb d_Bm_share_6 rfl (lv_at hl 0 rfl) ?_
  refine va_get (D := (dC, dI)) (ci := 8) (v := .int cl) (C := "BallotBoardModel") (T := F_Bm) (N := 28) hx hb hts (fun w9 h9 => List.mem_cons_of_mem _ (i_Bm w9 h9)) hown hK hP 0 rfl rfl 10 (by decide) (hts _ (List.mem_cons_of_mem _ gk_929)) (fun _ h9 => h9) rfl d_Bm_share_7 ?_
  refine lv_if_eq (tgt := 36) hx hb d_Bm_share_10 (by decide) (fun c_1 => ?_) (fun c_1 => ?_)
  · -- taken
    exact absurd (Or.inl (by rw [c_1]; decide)) hC1
  · -- not taken
    have hcl1 : cl = 1 := hcl.resolve_left c_1
    have hN0 := hclN hcl1
    obtain ⟨hPQ, h61F, hQ3, hG2, hGP, hGQ⟩ := hgr hN0
    have hpaP := hpa.2 hcl1
    refine lv_iload_n hx hb d_Bm_share_13 rfl (lv_at hl 1 rfl) ?_
    refine lv_iconst (v := 0) hx hb d_Bm_share_14 (by decide) ?_
    refine lv_aload_n hx hb d_Bm_share_15 rfl (lv_at hl 0 rfl) ?_
    refine va_get (D := (dC, dI)) (ci := 8) (v := .int (nI N)) (C := "BallotBoardModel") (T := F_Bm) (N := 28) hx hb hts (fun w9 h9 => List.mem_cons_of_mem _ (i_Bm w9 h9)) hown hK hP 0 rfl rfl 1 (by decide) (hts _ (List.mem_cons_of_mem _ gk_920)) (fun _ h9 => h9) rfl d_Bm_share_16 ?_
    refine lv_iconst (v := 1) hx hb d_Bm_share_19 (by decide) ?_
    refine lv_isub hx hb d_Bm_share_20 ?_
    rw [show ((nI N) - 1 : Int32) = (nI (N - 1)) from nI_subI (b := 1) (by omega) rfl]
    refine va_calli (va_runS (As := [.int x1, .int 0, .int (nI (N - 1))]) (rest := [.ref m0]) ⟨hx, hb, hml, hown, hts⟩ (c_Bm_in l H x1 0 (nI (N - 1))) (cwS 3 hts (gw_S gk_1027 gk_1028 gk_7 gk_1029) rfl rfl rfl (by decide +kernel) ⟨Nat.le_of_ble_eq_true rfl, Nat.le_of_ble_eq_true rfl⟩) ⟨fun a U g mk q => q, fun U hU hW => ⟨rfl, hU⟩⟩ rfl rfl hl.1 rfl (lv_room (Nat.le_of_ble_eq_true rfl)) d_Bm_share_21 ⟨Nat.le_of_ble_eq_true rfl, Nat.le_of_ble_eq_true rfl⟩) hS (fun q _ h => h.elim) (fun q h => h.elim) (fun r21 u9 t9 H1 locs ht hvm hw hB hz1 hk1 hS => ?_)
    obtain rfl : H = H1 := hB.symm.trans ht
    have h21 : bz r21 (inN x1 N) := bz_in hN0 (by omega) rfl hw
    refine lv_if_eq (tgt := 40) hx hb d_Bm_share_24 (by decide) (fun c_2 => ?_) (fun c_2 => ?_)
    · -- taken
      have hni := bz_f h21 c_2
      refine lv_iconst (v := 0) hx hb d_Bm_share_40 (by decide) ?_
      refine lv_iconst (v := 1) hx hb d_Bm_share_41 (by decide) ?_
      have hPc := hP.sub (ws' := (mo_ws m0 0 (nI N) (nI n) (nI bc) (lN P) (lN Q) (lN G) (lN al) (lN pa) (lN pb) cl a0 a1 a2 a3 a4 a5 a6 a7 a8 a9 b0 b1 oc b2 b3 b4 b5)) [0] rfl
      have hDc := hD.sub (ws' := (mo_ws m0 0 (nI N) (nI n) (nI bc) (lN P) (lN Q) (lN G) (lN al) (lN pa) (lN pb) cl a0 a1 a2 a3 a4 a5 a6 a7 a8 a9 b0 b1 oc b2 b3 b4 b5)) [0] (by decide) rfl
      have hKc := hK.sub (tys' := [(cJ, .long), (cI, .int)]) [0, 1] rfl
      have hFc := va_free (wc := (mo_ws m0 0 (nI N) (nI n) (nI bc) (lN P) (lN Q) (lN G) (lN al) (lN pa) (lN pb) cl a0 a1 a2 a3 a4 a5 a6 a7 a8 a9 b0 b1 oc b2 b3 b4 b5)) hD hS hA [0] rfl
      refine va_calli (va_runV (As := [.int 0, .int 1]) (rest := []) ⟨hx, hb, hml, hown, hts⟩ (c_Bm_fails_0 l dC dI cJ cI H.size m0 (nI N) (nI n) (nI bc) (lN P) (lN Q) (lN G) (lN al) (lN pa) (lN pb) cl a0 a1 a2 a3 a4 a5 a6 a7 a8 a9 b0 b1 oc b2 b3 b4 b5 1) (cwV 2 hts (gw_V gk_1030 gk_1032 gp_27 gk_7 gk_1033) rfl rfl rfl (by decide +kernel) ⟨Nat.le_of_ble_eq_true rfl, Nat.le_of_ble_eq_true rfl⟩) ⟨fun a U g mk q => by obtain ⟨q0, q1, qP, qK, qD⟩ := q; exact ⟨q0, q1, qP, va_K.moved (u := U) (U := U.calling g mk a) (Vm.Alike.refl U.vm) qK, qD⟩, va_recv hK hP (ci := 8) (q0 := 0) rfl rfl, fun U hU hW => ⟨rfl, by rw [hU], by rw [hU]; exact hPc, va_K.moved hW.alike hKc, hDc.weaken (fun _ _ _ _ => trivial)⟩⟩ rfl rfl hl.1 rfl (lv_room (Nat.le_of_ble_eq_true rfl)) d_Bm_share_42 ⟨Nat.le_of_ble_eq_true rfl, Nat.le_of_ble_eq_true rfl⟩) hS (fun q _ h => hFc q h) hFc (fun r_3 u9 t9 H1 locs ht hvm hw hB hz1 hk1 hS => ?_)
      have hw : r_3 = 0 := hw
      subst hw
      obtain ⟨hP1, hK1, hD1⟩ := hB
      rw [ht] at hP1
      obtain ⟨hP, hD⟩ := va_join (wr := [(a7, .inl (cI, 256, .inl bf)), (a8, .inl (cI, 64, .inl sc)), (a9, .inl (cI, 8, .inl st)), (b0, .inl (cI, 8, .inl kS)), (b1, .inl (cI, 64, .inl kR)), (a2, .inl (cJ, 4, .inr (.inl tf))), (a0, .inl (cJ, 1232, .inr (.inl nf))), (a1, .inl (cJ, 616, .inr (.inl cf))), (a5, .inl (cI, 4, .inl sf)), (b4, .inl (cJ, 4, .inr (.inl sh))), (b2, .inl (cJ, 4, .inr (.inl ky))), (a3, .inl (cJ, 16, .inr (.inl lf)))]) (w1 := [(m0, .inr (8, [.int 0, .int (nI N), .int (nI n), .int (nI bc), .long (lN P), .long (lN Q), .long (lN G), .long (lN al), .long (lN pa), .long (lN pb), .int cl, .ref a0, .ref a1, .ref a2, .ref a3, .ref a4, .ref a5, .ref a6, .ref a7, .ref a8, .ref a9, .ref b0, .ref b1, .int (nI oc), .ref b2, .ref b3, .ref b4, .ref b5]))]) hP hD [0] [1, 2, 3, 4, 5, 6, 7, 8, 9, 10, 11, 12] rfl rfl (by decide) (by decide) hk1 hFc hP1 hD1
      have hP := hP.sub (ws' := [(m0, .inr (8, [.int 0, .int (nI N), .int (nI n), .int (nI bc), .long (lN P), .long (lN Q), .long (lN G), .long (lN al), .long (lN pa), .long (lN pb), .int cl, .ref a0, .ref a1, .ref a2, .ref a3, .ref a4, .ref a5, .ref a6, .ref a7, .ref a8, .ref a9, .ref b0, .ref b1, .int (nI oc), .ref b2, .ref b3, .ref b4, .ref b5])), (a7, .inl (cI, 256, .inl bf)), (a8, .inl (cI, 64, .inl sc)), (a9, .inl (cI, 8, .inl st)), (b0, .inl (cI, 8, .inl kS)), (b1, .inl (cI, 64, .inl kR)), (a2, .inl (cJ, 4, .inr (.inl tf))), (a0, .inl (cJ, 1232, .inr (.inl nf))), (a1, .inl (cJ, 616, .inr (.inl cf))), (a5, .inl (cI, 4, .inl sf)), (b4, .inl (cJ, 4, .inr (.inl sh))), (b2, .inl (cJ, 4, .inr (.inl ky))), (a3, .inl (cJ, 16, .inr (.inl lf)))]) [12, 0, 1, 2, 3, 4, 5, 6, 7, 8, 9, 10, 11] rfl
      have hD := hD.sub (ws' := [(m0, .inr (8, [.int 0, .int (nI N), .int (nI n), .int (nI bc), .long (lN P), .long (lN Q), .long (lN G), .long (lN al), .long (lN pa), .long (lN pb), .int cl, .ref a0, .ref a1, .ref a2, .ref a3, .ref a4, .ref a5, .ref a6, .ref a7, .ref a8, .ref a9, .ref b0, .ref b1, .int (nI oc), .ref b2, .ref b3, .ref b4, .ref b5])), (a7, .inl (cI, 256, .inl bf)), (a8, .inl (cI, 64, .inl sc)), (a9, .inl (cI, 8, .inl st)), (b0, .inl (cI, 8, .inl kS)), (b1, .inl (cI, 64, .inl kR)), (a2, .inl (cJ, 4, .inr (.inl tf))), (a0, .inl (cJ, 1232, .inr (.inl nf))), (a1, .inl (cJ, 616, .inr (.inl cf))), (a5, .inl (cI, 4, .inl sf)), (b4, .inl (cJ, 4, .inr (.inl sh))), (b2, .inl (cJ, 4, .inr (.inl ky))), (a3, .inl (cJ, 16, .inr (.inl lf)))]) [12, 0, 1, 2, 3, 4, 5, 6, 7, 8, 9, 10, 11] (by decide) rfl
      generalize H1 = H at hP hS ⊢
      refine lv_if_ne (tgt := 98) hx hb d_Bm_share_45 (by decide) (fun c_4 => ?_) (fun c_4 => ?_)
      · -- taken
        exact absurd rfl c_4
      · -- not taken
        refine lv_aload_n hx hb d_Bm_share_48 rfl (lv_at hl 0 rfl) ?_
        refine lv_iload_n hx hb d_Bm_share_49 rfl (lv_at hl 1 rfl) ?_
        refine lv_iconst (v := 0) hx hb d_Bm_share_50 (by decide) ?_
        refine lv_aload_n hx hb d_Bm_share_51 rfl (lv_at hl 0 rfl) ?_
        refine va_get (D := (dC, dI)) (ci := 8) (v := .int (nI N)) (C := "BallotBoardModel") (T := F_Bm) (N := 28) hx hb hts (fun w9 h9 => List.mem_cons_of_mem _ (i_Bm w9 h9)) hown hK hP 0 rfl rfl 1 (by decide) (hts _ (List.mem_cons_of_mem _ gk_920)) (fun _ h9 => h9) rfl d_Bm_share_52 ?_
        refine lv_iconst (v := 1) hx hb d_Bm_share_55 (by decide) ?_
        refine lv_isub hx hb d_Bm_share_56 ?_
        rw [show ((nI N) - 1 : Int32) = (nI (N - 1)) from nI_subI (b := 1) (by omega) rfl]
        refine va_calli (va_runS (As := [.int x1, .int 0, .int (nI (N - 1))]) (rest := [.ref m0]) ⟨hx, hb, hml, hown, hts⟩ (c_Bm_in l H x1 0 (nI (N - 1))) (cwS 3 hts (gw_S gk_1027 gk_1028 gk_7 gk_1029) rfl rfl rfl (by decide +kernel) ⟨Nat.le_of_ble_eq_true rfl, Nat.le_of_ble_eq_true rfl⟩) ⟨fun a U g mk q => q, fun U hU hW => ⟨rfl, hU⟩⟩ rfl rfl hl.1 rfl (lv_room (Nat.le_of_ble_eq_true rfl)) d_Bm_share_57 ⟨Nat.le_of_ble_eq_true rfl, Nat.le_of_ble_eq_true rfl⟩) hS (fun q _ h => h.elim) (fun q h => h.elim) (fun r57 u9 t9 H1 locs ht hvm hw hB hz1 hk1 hS => ?_)
        obtain rfl : H = H1 := hB.symm.trans ht
        have h57 : bz r57 (inN x1 N) := bz_in hN0 (by omega) rfl hw
        refine lv_if_eq (tgt := 86) hx hb d_Bm_share_60 (by decide) (fun c_5 => ?_) (fun c_5 => ?_)
        · -- taken
          have hni2 := bz_f h57 c_5
          refine lv_iconst (v := 1) hx hb d_Bm_share_86 (by decide) ?_
          refine lv_goto (tgt := 91) hx hb d_Bm_share_87 (by decide) ?_
          refine lv_iconst (v := 2) hx hb d_Bm_share_91 (by decide) ?_
          have hPc := hP.sub (ws' := (mo_ws m0 0 (nI N) (nI n) (nI bc) (lN P) (lN Q) (lN G) (lN al) (lN pa) (lN pb) cl a0 a1 a2 a3 a4 a5 a6 a7 a8 a9 b0 b1 oc b2 b3 b4 b5)) [0] rfl
          have hDc := hD.sub (ws' := (mo_ws m0 0 (nI N) (nI n) (nI bc) (lN P) (lN Q) (lN G) (lN al) (lN pa) (lN pb) cl a0 a1 a2 a3 a4 a5 a6 a7 a8 a9 b0 b1 oc b2 b3 b4 b5)) [0] (by decide) rfl
          have hKc := hK.sub (tys' := [(cJ, .long), (cI, .int)]) [0, 1] rfl
          have hFc := va_free (wc := (mo_ws m0 0 (nI N) (nI n) (nI bc) (lN P) (lN Q) (lN G) (lN al) (lN pa) (lN pb) cl a0 a1 a2 a3 a4 a5 a6 a7 a8 a9 b0 b1 oc b2 b3 b4 b5)) hD hS hA [0] rfl
          refine va_calli (va_runV (As := [.int 1, .int 2]) (rest := []) ⟨hx, hb, hml, hown, hts⟩ (c_Bm_fails_1 l dC dI cJ cI H.size m0 (nI N) (nI n) (nI bc) (lN P) (lN Q) (lN G) (lN al) (lN pa) (lN pb) cl a0 a1 a2 a3 a4 a5 a6 a7 a8 a9 b0 b1 oc b2 b3 b4 b5 2 (by decide)) (cwV 2 hts (gw_V gk_1030 gk_1032 gp_27 gk_7 gk_1033) rfl rfl rfl (by decide +kernel) ⟨Nat.le_of_ble_eq_true rfl, Nat.le_of_ble_eq_true rfl⟩) ⟨fun a U g mk q => by obtain ⟨q0, q1, qP, qK, qD⟩ := q; exact ⟨q0, q1, qP, va_K.moved (u := U) (U := U.calling g mk a) (Vm.Alike.refl U.vm) qK, qD⟩, va_recv hK hP (ci := 8) (q0 := 0) rfl rfl, fun U hU hW => ⟨rfl, by rw [hU], by rw [hU]; exact hPc, va_K.moved hW.alike hKc, hDc.weaken (fun _ _ _ _ => trivial)⟩⟩ rfl rfl hl.1 rfl (lv_room (Nat.le_of_ble_eq_true rfl)) d_Bm_share_92 ⟨Nat.le_of_ble_eq_true rfl, Nat.le_of_ble_eq_true rfl⟩) hS (fun q _ h => hFc q h) hFc (fun r_6 u9 t9 H1 locs ht hvm hw hB hz1 hk1 hS => ?_)
          have hw : r_6 = 1 := hw
          subst hw
          obtain ⟨hP1, hK1, hD1⟩ := hB
          rw [ht] at hP1
          obtain ⟨hP, hD⟩ := va_join (wr := [(a7, .inl (cI, 256, .inl bf)), (a8, .inl (cI, 64, .inl sc)), (a9, .inl (cI, 8, .inl st)), (b0, .inl (cI, 8, .inl kS)), (b1, .inl (cI, 64, .inl kR)), (a2, .inl (cJ, 4, .inr (.inl tf))), (a0, .inl (cJ, 1232, .inr (.inl nf))), (a1, .inl (cJ, 616, .inr (.inl cf))), (a5, .inl (cI, 4, .inl sf)), (b4, .inl (cJ, 4, .inr (.inl sh))), (b2, .inl (cJ, 4, .inr (.inl ky))), (a3, .inl (cJ, 16, .inr (.inl lf)))]) (w1 := [(m0, .inr (8, [.int 2, .int (nI N), .int (nI n), .int (nI bc), .long (lN P), .long (lN Q), .long (lN G), .long (lN al), .long (lN pa), .long (lN pb), .int cl, .ref a0, .ref a1, .ref a2, .ref a3, .ref a4, .ref a5, .ref a6, .ref a7, .ref a8, .ref a9, .ref b0, .ref b1, .int (nI oc), .ref b2, .ref b3, .ref b4, .ref b5]))]) hP hD [0] [1, 2, 3, 4, 5, 6, 7, 8, 9, 10, 11, 12] rfl rfl (by decide) (by decide) hk1 hFc hP1 hD1
          have hP := hP.sub (ws' := [(m0, .inr (8, [.int 2, .int (nI N), .int (nI n), .int (nI bc), .long (lN P), .long (lN Q), .long (lN G), .long (lN al), .long (lN pa), .long (lN pb), .int cl, .ref a0, .ref a1, .ref a2, .ref a3, .ref a4, .ref a5, .ref a6, .ref a7, .ref a8, .ref a9, .ref b0, .ref b1, .int (nI oc), .ref b2, .ref b3, .ref b4, .ref b5])), (a7, .inl (cI, 256, .inl bf)), (a8, .inl (cI, 64, .inl sc)), (a9, .inl (cI, 8, .inl st)), (b0, .inl (cI, 8, .inl kS)), (b1, .inl (cI, 64, .inl kR)), (a2, .inl (cJ, 4, .inr (.inl tf))), (a0, .inl (cJ, 1232, .inr (.inl nf))), (a1, .inl (cJ, 616, .inr (.inl cf))), (a5, .inl (cI, 4, .inl sf)), (b4, .inl (cJ, 4, .inr (.inl sh))), (b2, .inl (cJ, 4, .inr (.inl ky))), (a3, .inl (cJ, 16, .inr (.inl lf)))]) [12, 0, 1, 2, 3, 4, 5, 6, 7, 8, 9, 10, 11] rfl
          have hD := hD.sub (ws' := [(m0, .inr (8, [.int 2, .int (nI N), .int (nI n), .int (nI bc), .long (lN P), .long (lN Q), .long (lN G), .long (lN al), .long (lN pa), .long (lN pb), .int cl, .ref a0, .ref a1, .ref a2, .ref a3, .ref a4, .ref a5, .ref a6, .ref a7, .ref a8, .ref a9, .ref b0, .ref b1, .int (nI oc), .ref b2, .ref b3, .ref b4, .ref b5])), (a7, .inl (cI, 256, .inl bf)), (a8, .inl (cI, 64, .inl sc)), (a9, .inl (cI, 8, .inl st)), (b0, .inl (cI, 8, .inl kS)), (b1, .inl (cI, 64, .inl kR)), (a2, .inl (cJ, 4, .inr (.inl tf))), (a0, .inl (cJ, 1232, .inr (.inl nf))), (a1, .inl (cJ, 616, .inr (.inl cf))), (a5, .inl (cI, 4, .inl sf)), (b4, .inl (cJ, 4, .inr (.inl sh))), (b2, .inl (cJ, 4, .inr (.inl ky))), (a3, .inl (cJ, 16, .inr (.inl lf)))]) [12, 0, 1, 2, 3, 4, 5, 6, 7, 8, 9, 10, 11] (by decide) rfl
          generalize H1 = H at hP hS ⊢
          refine lv_if_eq (tgt := 100) hx hb d_Bm_share_95 (by decide) (fun c_7 => ?_) (fun c_7 => ?_)
          · -- taken
            exact absurd c_7 (by decide)
          · -- not taken
            refine lv_iconst (v := 0) hx hb d_Bm_share_98 (by decide) ?_
            exact W.iret (v := 0) hx hb hr (fun t ht9 hW => ⟨⟨_, ((bf, sc, st, tf, oc), lf), rfl, trivial, by rw [ht9]; exact hP, va_K.moved hW.alike hK, hD⟩, hS.F ht9⟩) hS.2.2 d_Bm_share_99
        · -- not taken
          exact absurd (bz_t h57 c_5) hni
    · -- not taken
      obtain ⟨I, rfl, hI⟩ := bz_t h21 c_2
      refine lv_aload_n hx hb d_Bm_share_27 rfl (lv_at hl 0 rfl) ?_
      refine va_get (D := (dC, dI)) (ci := 8) (v := .ref a5) (C := "BallotBoardModel") (T := F_Bm) (N := 28) hx hb hts (fun w9 h9 => List.mem_cons_of_mem _ (i_Bm w9 h9)) hown hK hP 0 rfl rfl 16 (by decide) (hts _ (List.mem_cons_of_mem _ gk_935)) (fun _ h9 => h9) rfl d_Bm_share_28 ?_
      refine lv_iload_n hx hb d_Bm_share_31 rfl (lv_at hl 1 rfl) ?_
      refine va_iald hx hb hK hP 9 1 rfl rfl (vp_in_nI (by omega) (by omega)) d_Bm_share_32 ?_
      rw [show (sf (nI I : Int32).toNatClampNeg : Int32) = sf I from by rw [nI_clamp (by omega)]]
      refine lv_if_lt (tgt := 40) hx hb d_Bm_share_33 (by decide) (fun c_8 => ?_) (fun c_8 => ?_)
      · -- taken
        have hk9 : so I = 0 := (rK_neg hrs hn (show I < 4 by omega)).mp c_8
        refine lv_iconst (v := 0) hx hb d_Bm_share_40 (by decide) ?_
        refine lv_iconst (v := 1) hx hb d_Bm_share_41 (by decide) ?_
        have hPc := hP.sub (ws' := (mo_ws m0 0 (nI N) (nI n) (nI bc) (lN P) (lN Q) (lN G) (lN al) (lN pa) (lN pb) cl a0 a1 a2 a3 a4 a5 a6 a7 a8 a9 b0 b1 oc b2 b3 b4 b5)) [0] rfl
        have hDc := hD.sub (ws' := (mo_ws m0 0 (nI N) (nI n) (nI bc) (lN P) (lN Q) (lN G) (lN al) (lN pa) (lN pb) cl a0 a1 a2 a3 a4 a5 a6 a7 a8 a9 b0 b1 oc b2 b3 b4 b5)) [0] (by decide) rfl
        have hKc := hK.sub (tys' := [(cJ, .long), (cI, .int)]) [0, 1] rfl
        have hFc := va_free (wc := (mo_ws m0 0 (nI N) (nI n) (nI bc) (lN P) (lN Q) (lN G) (lN al) (lN pa) (lN pb) cl a0 a1 a2 a3 a4 a5 a6 a7 a8 a9 b0 b1 oc b2 b3 b4 b5)) hD hS hA [0] rfl
        refine va_calli (va_runV (As := [.int 0, .int 1]) (rest := []) ⟨hx, hb, hml, hown, hts⟩ (c_Bm_fails_0 l dC dI cJ cI H.size m0 (nI N) (nI n) (nI bc) (lN P) (lN Q) (lN G) (lN al) (lN pa) (lN pb) cl a0 a1 a2 a3 a4 a5 a6 a7 a8 a9 b0 b1 oc b2 b3 b4 b5 1) (cwV 2 hts (gw_V gk_1030 gk_1032 gp_27 gk_7 gk_1033) rfl rfl rfl (by decide +kernel) ⟨Nat.le_of_ble_eq_true rfl, Nat.le_of_ble_eq_true rfl⟩) ⟨fun a U g mk q => by obtain ⟨q0, q1, qP, qK, qD⟩ := q; exact ⟨q0, q1, qP, va_K.moved (u := U) (U := U.calling g mk a) (Vm.Alike.refl U.vm) qK, qD⟩, va_recv hK hP (ci := 8) (q0 := 0) rfl rfl, fun U hU hW => ⟨rfl, by rw [hU], by rw [hU]; exact hPc, va_K.moved hW.alike hKc, hDc.weaken (fun _ _ _ _ => trivial)⟩⟩ rfl rfl hl.1 rfl (lv_room (Nat.le_of_ble_eq_true rfl)) d_Bm_share_42 ⟨Nat.le_of_ble_eq_true rfl, Nat.le_of_ble_eq_true rfl⟩) hS (fun q _ h => hFc q h) hFc (fun r_9 u9 t9 H1 locs ht hvm hw hB hz1 hk1 hS => ?_)
        have hw : r_9 = 0 := hw
        subst hw
        obtain ⟨hP1, hK1, hD1⟩ := hB
        rw [ht] at hP1
        obtain ⟨hP, hD⟩ := va_join (wr := [(a7, .inl (cI, 256, .inl bf)), (a8, .inl (cI, 64, .inl sc)), (a9, .inl (cI, 8, .inl st)), (b0, .inl (cI, 8, .inl kS)), (b1, .inl (cI, 64, .inl kR)), (a2, .inl (cJ, 4, .inr (.inl tf))), (a0, .inl (cJ, 1232, .inr (.inl nf))), (a1, .inl (cJ, 616, .inr (.inl cf))), (a5, .inl (cI, 4, .inl sf)), (b4, .inl (cJ, 4, .inr (.inl sh))), (b2, .inl (cJ, 4, .inr (.inl ky))), (a3, .inl (cJ, 16, .inr (.inl lf)))]) (w1 := [(m0, .inr (8, [.int 0, .int (nI N), .int (nI n), .int (nI bc), .long (lN P), .long (lN Q), .long (lN G), .long (lN al), .long (lN pa), .long (lN pb), .int cl, .ref a0, .ref a1, .ref a2, .ref a3, .ref a4, .ref a5, .ref a6, .ref a7, .ref a8, .ref a9, .ref b0, .ref b1, .int (nI oc), .ref b2, .ref b3, .ref b4, .ref b5]))]) hP hD [0] [1, 2, 3, 4, 5, 6, 7, 8, 9, 10, 11, 12] rfl rfl (by decide) (by decide) hk1 hFc hP1 hD1
        have hP := hP.sub (ws' := [(m0, .inr (8, [.int 0, .int (nI N), .int (nI n), .int (nI bc), .long (lN P), .long (lN Q), .long (lN G), .long (lN al), .long (lN pa), .long (lN pb), .int cl, .ref a0, .ref a1, .ref a2, .ref a3, .ref a4, .ref a5, .ref a6, .ref a7, .ref a8, .ref a9, .ref b0, .ref b1, .int (nI oc), .ref b2, .ref b3, .ref b4, .ref b5])), (a7, .inl (cI, 256, .inl bf)), (a8, .inl (cI, 64, .inl sc)), (a9, .inl (cI, 8, .inl st)), (b0, .inl (cI, 8, .inl kS)), (b1, .inl (cI, 64, .inl kR)), (a2, .inl (cJ, 4, .inr (.inl tf))), (a0, .inl (cJ, 1232, .inr (.inl nf))), (a1, .inl (cJ, 616, .inr (.inl cf))), (a5, .inl (cI, 4, .inl sf)), (b4, .inl (cJ, 4, .inr (.inl sh))), (b2, .inl (cJ, 4, .inr (.inl ky))), (a3, .inl (cJ, 16, .inr (.inl lf)))]) [12, 0, 1, 2, 3, 4, 5, 6, 7, 8, 9, 10, 11] rfl
        have hD := hD.sub (ws' := [(m0, .inr (8, [.int 0, .int (nI N), .int (nI n), .int (nI bc), .long (lN P), .long (lN Q), .long (lN G), .long (lN al), .long (lN pa), .long (lN pb), .int cl, .ref a0, .ref a1, .ref a2, .ref a3, .ref a4, .ref a5, .ref a6, .ref a7, .ref a8, .ref a9, .ref b0, .ref b1, .int (nI oc), .ref b2, .ref b3, .ref b4, .ref b5])), (a7, .inl (cI, 256, .inl bf)), (a8, .inl (cI, 64, .inl sc)), (a9, .inl (cI, 8, .inl st)), (b0, .inl (cI, 8, .inl kS)), (b1, .inl (cI, 64, .inl kR)), (a2, .inl (cJ, 4, .inr (.inl tf))), (a0, .inl (cJ, 1232, .inr (.inl nf))), (a1, .inl (cJ, 616, .inr (.inl cf))), (a5, .inl (cI, 4, .inl sf)), (b4, .inl (cJ, 4, .inr (.inl sh))), (b2, .inl (cJ, 4, .inr (.inl ky))), (a3, .inl (cJ, 16, .inr (.inl lf)))]) [12, 0, 1, 2, 3, 4, 5, 6, 7, 8, 9, 10, 11] (by decide) rfl
        generalize H1 = H at hP hS ⊢
        refine lv_if_ne (tgt := 98) hx hb d_Bm_share_45 (by decide) (fun c_10 => ?_) (fun c_10 => ?_)
        · -- taken
          exact absurd rfl c_10
        · -- not taken
          refine lv_aload_n hx hb d_Bm_share_48 rfl (lv_at hl 0 rfl) ?_
          refine lv_iload_n hx hb d_Bm_share_49 rfl (lv_at hl 1 rfl) ?_
          refine lv_iconst (v := 0) hx hb d_Bm_share_50 (by decide) ?_
          refine lv_aload_n hx hb d_Bm_share_51 rfl (lv_at hl 0 rfl) ?_
          refine va_get (D := (dC, dI)) (ci := 8) (v := .int (nI N)) (C := "BallotBoardModel") (T := F_Bm) (N := 28) hx hb hts (fun w9 h9 => List.mem_cons_of_mem _ (i_Bm w9 h9)) hown hK hP 0 rfl rfl 1 (by decide) (hts _ (List.mem_cons_of_mem _ gk_920)) (fun _ h9 => h9) rfl d_Bm_share_52 ?_
          refine lv_iconst (v := 1) hx hb d_Bm_share_55 (by decide) ?_
          refine lv_isub hx hb d_Bm_share_56 ?_
          rw [show ((nI N) - 1 : Int32) = (nI (N - 1)) from nI_subI (b := 1) (by omega) rfl]
          refine va_calli (va_runS (As := [.int (nI I), .int 0, .int (nI (N - 1))]) (rest := [.ref m0]) ⟨hx, hb, hml, hown, hts⟩ (c_Bm_in l H (nI I) 0 (nI (N - 1))) (cwS 3 hts (gw_S gk_1027 gk_1028 gk_7 gk_1029) rfl rfl rfl (by decide +kernel) ⟨Nat.le_of_ble_eq_true rfl, Nat.le_of_ble_eq_true rfl⟩) ⟨fun a U g mk q => q, fun U hU hW => ⟨rfl, hU⟩⟩ rfl rfl hl.1 rfl (lv_room (Nat.le_of_ble_eq_true rfl)) d_Bm_share_57 ⟨Nat.le_of_ble_eq_true rfl, Nat.le_of_ble_eq_true rfl⟩) hS (fun q _ h => h.elim) (fun q h => h.elim) (fun r57 u9 t9 H1 locs ht hvm hw hB hz1 hk1 hS => ?_)
          obtain rfl : H = H1 := hB.symm.trans ht
          have h57 : bz r57 (inN (nI I) N) := bz_in hN0 (by omega) rfl hw
          refine lv_if_eq (tgt := 86) hx hb d_Bm_share_60 (by decide) (fun c_11 => ?_) (fun c_11 => ?_)
          · -- taken
            exact absurd ⟨I, rfl, hI⟩ (bz_f h57 c_11)
          · -- not taken
            have hin2 := bz_t h57 c_11
            refine lv_aload_n hx hb d_Bm_share_63 rfl (lv_at hl 0 rfl) ?_
            refine lv_iload_n hx hb d_Bm_share_64 rfl (lv_at hl 1 rfl) ?_
            refine lv_lload_n hx hb d_Bm_share_65 rfl (lv_at hl 2 rfl) ?_
            refine lv_lload hx hb d_Bm_share_66 (lv_at hl 3 rfl) ?_
            refine lv_lload hx hb d_Bm_share_68 (lv_at hl 4 rfl) ?_
            refine lv_aload_n hx hb d_Bm_share_70 rfl (lv_at hl 0 rfl) ?_
            refine va_get (D := (dC, dI)) (ci := 8) (v := .ref b2) (C := "BallotBoardModel") (T := F_Bm) (N := 28) hx hb hts (fun w9 h9 => List.mem_cons_of_mem _ (i_Bm w9 h9)) hown hK hP 0 rfl rfl 24 (by decide) (hts _ (List.mem_cons_of_mem _ gk_943)) (fun _ h9 => h9) rfl d_Bm_share_71 ?_
            refine lv_iload_n hx hb d_Bm_share_74 rfl (lv_at hl 1 rfl) ?_
            refine va_lald hx hb hK hP 11 0 rfl rfl (vp_in_nI (by omega) (by omega)) d_Bm_share_75 ?_
            rw [show (ky (nI I : Int32).toNatClampNeg : Int64) = ky I from by rw [nI_clamp (by omega)]]
            rw [show (ky I : Int64) = (lN (ko I)) from (hky I hI hcl1).1]
            refine lv_aload_n hx hb d_Bm_share_76 rfl (lv_at hl 0 rfl) ?_
            refine va_get (D := (dC, dI)) (ci := 8) (v := .long (lN pa)) (C := "BallotBoardModel") (T := F_Bm) (N := 28) hx hb hts (fun w9 h9 => List.mem_cons_of_mem _ (i_Bm w9 h9)) hown hK hP 0 rfl rfl 8 (by decide) (hts _ (List.mem_cons_of_mem _ gk_927)) (fun _ h9 => h9) rfl d_Bm_share_77 ?_
            have hPc := hP.sub (ws' := (mo_ws m0 0 (nI N) (nI n) (nI bc) (lN P) (lN Q) (lN G) (lN al) (lN pa) (lN pb) cl a0 a1 a2 a3 a4 a5 a6 a7 a8 a9 b0 b1 oc b2 b3 b4 b5 ++ (iw_ws a7 cI 256 bf ++ (iw_ws a8 cI 64 sc ++ (iw_ws a9 cI 8 st ++ (iw_ws b0 cI 8 kS ++ (iw_ws b1 cI 64 kR ++ (jw_ws a2 cJ 4 tf ++ (jw_ws a3 cJ 16 lf))))))))) [0, 1, 2, 3, 4, 5, 6, 12] rfl
            have hDc := hD.sub (ws' := (mo_ws m0 0 (nI N) (nI n) (nI bc) (lN P) (lN Q) (lN G) (lN al) (lN pa) (lN pb) cl a0 a1 a2 a3 a4 a5 a6 a7 a8 a9 b0 b1 oc b2 b3 b4 b5 ++ (iw_ws a7 cI 256 bf ++ (iw_ws a8 cI 64 sc ++ (iw_ws a9 cI 8 st ++ (iw_ws b0 cI 8 kS ++ (iw_ws b1 cI 64 kR ++ (jw_ws a2 cJ 4 tf ++ (jw_ws a3 cJ 16 lf))))))))) [0, 1, 2, 3, 4, 5, 6, 12] (by decide) rfl
            have hKc := hK.sub (tys' := [(cJ, .long), (cI, .int)]) [0, 1] rfl
            have hFc := va_free (wc := (mo_ws m0 0 (nI N) (nI n) (nI bc) (lN P) (lN Q) (lN G) (lN al) (lN pa) (lN pb) cl a0 a1 a2 a3 a4 a5 a6 a7 a8 a9 b0 b1 oc b2 b3 b4 b5 ++ (iw_ws a7 cI 256 bf ++ (iw_ws a8 cI 64 sc ++ (iw_ws a9 cI 8 st ++ (iw_ws b0 cI 8 kS ++ (iw_ws b1 cI 64 kR ++ (jw_ws a2 cJ 4 tf ++ (jw_ws a3 cJ 16 lf))))))))) hD hS hA [0, 1, 2, 3, 4, 5, 6, 12] rfl
            refine va_calli (va_runV (As := [.int (nI I), .long x2, .long x3, .long x4, .long (lN (ko I)), .long (lN pa)]) (rest := [.ref m0]) ⟨hx, hb, hml, hown, hts⟩ (c_Bm_shareHolds l dC dI cJ cI H.size m0 0 (nI N) (nI n) (nI bc) (lN al) (lN pa) (lN pb) cl a0 a1 a2 a3 a4 a5 a6 a7 a8 a9 b0 b1 oc b2 b3 b4 b5 P Q G bf sc st tf lf I (ko I) pa x2 x3 x4 hPQ h61F hQ3 hG2 hGP hGQ (by omega) (hky I hI hcl1).2.1 (hky I hI hcl1).2.2 hpaP) (cwV 6 hts (gw_V gk_1153 gk_1155 gp_49 gk_7 gk_1156) rfl rfl rfl (by decide +kernel) ⟨Nat.le_of_ble_eq_true rfl, Nat.le_of_ble_eq_true rfl⟩) ⟨fun a U g mk q => by obtain ⟨q0, q1, qP, qK, qD⟩ := q; exact ⟨q0, q1, qP, va_K.moved (u := U) (U := U.calling g mk a) (Vm.Alike.refl U.vm) qK, qD⟩, va_recv hK hP (ci := 8) (q0 := 0) rfl rfl, fun U hU hW => ⟨rfl, by rw [hU], by rw [hU]; exact hPc, va_K.moved hW.alike hKc, hDc.weaken (fun _ _ _ _ => trivial)⟩⟩ rfl rfl hl.1 rfl (lv_room (Nat.le_of_ble_eq_true rfl)) d_Bm_share_80 ⟨Nat.le_of_ble_eq_true rfl, Nat.le_of_ble_eq_true rfl⟩) hS (fun q _ h => hFc q h) hFc (fun r_13 u9 t9 H1 locs ht hvm hw hB hz1 hk1 hS => ?_)
            obtain ⟨⟨gbk_12, gsk_12, gtk_12, gfk_12, gok_12⟩, glk_12⟩ := u9
            have hr_13 := hw
            obtain ⟨hP1, hK1, hD1⟩ := hB
            rw [ht] at hP1
            obtain ⟨hP, hD⟩ := va_join (wr := [(a0, .inl (cJ, 1232, .inr (.inl nf))), (a1, .inl (cJ, 616, .inr (.inl cf))), (a5, .inl (cI, 4, .inl sf)), (b4, .inl (cJ, 4, .inr (.inl sh))), (b2, .inl (cJ, 4, .inr (.inl ky)))]) (w1 := [(m0, .inr (8, [.int 0, .int (nI N), .int (nI n), .int (nI bc), .long (lN P), .long (lN Q), .long (lN G), .long (lN al), .long (lN pa), .long (lN pb), .int cl, .ref a0, .ref a1, .ref a2, .ref a3, .ref a4, .ref a5, .ref a6, .ref a7, .ref a8, .ref a9, .ref b0, .ref b1, .int (nI gok_12), .ref b2, .ref b3, .ref b4, .ref b5])), (a7, .inl (cI, 256, .inl gbk_12)), (a8, .inl (cI, 64, .inl gsk_12)), (a9, .inl (cI, 8, .inl gtk_12)), (b0, .inl (cI, 8, .inl kS)), (b1, .inl (cI, 64, .inl kR)), (a2, .inl (cJ, 4, .inr (.inl gfk_12))), (a3, .inl (cJ, 16, .inr (.inl glk_12)))]) hP hD [0, 1, 2, 3, 4, 5, 6, 12] [7, 8, 9, 10, 11] rfl rfl (by decide) (by decide) hk1 hFc hP1 hD1
            have hP := hP.sub (ws' := [(m0, .inr (8, [.int 0, .int (nI N), .int (nI n), .int (nI bc), .long (lN P), .long (lN Q), .long (lN G), .long (lN al), .long (lN pa), .long (lN pb), .int cl, .ref a0, .ref a1, .ref a2, .ref a3, .ref a4, .ref a5, .ref a6, .ref a7, .ref a8, .ref a9, .ref b0, .ref b1, .int (nI gok_12), .ref b2, .ref b3, .ref b4, .ref b5])), (a7, .inl (cI, 256, .inl gbk_12)), (a8, .inl (cI, 64, .inl gsk_12)), (a9, .inl (cI, 8, .inl gtk_12)), (b0, .inl (cI, 8, .inl kS)), (b1, .inl (cI, 64, .inl kR)), (a2, .inl (cJ, 4, .inr (.inl gfk_12))), (a0, .inl (cJ, 1232, .inr (.inl nf))), (a1, .inl (cJ, 616, .inr (.inl cf))), (a5, .inl (cI, 4, .inl sf)), (b4, .inl (cJ, 4, .inr (.inl sh))), (b2, .inl (cJ, 4, .inr (.inl ky))), (a3, .inl (cJ, 16, .inr (.inl glk_12)))]) [5, 6, 7, 8, 9, 10, 11, 0, 1, 2, 3, 4, 12] rfl
            have hD := hD.sub (ws' := [(m0, .inr (8, [.int 0, .int (nI N), .int (nI n), .int (nI bc), .long (lN P), .long (lN Q), .long (lN G), .long (lN al), .long (lN pa), .long (lN pb), .int cl, .ref a0, .ref a1, .ref a2, .ref a3, .ref a4, .ref a5, .ref a6, .ref a7, .ref a8, .ref a9, .ref b0, .ref b1, .int (nI gok_12), .ref b2, .ref b3, .ref b4, .ref b5])), (a7, .inl (cI, 256, .inl gbk_12)), (a8, .inl (cI, 64, .inl gsk_12)), (a9, .inl (cI, 8, .inl gtk_12)), (b0, .inl (cI, 8, .inl kS)), (b1, .inl (cI, 64, .inl kR)), (a2, .inl (cJ, 4, .inr (.inl gfk_12))), (a0, .inl (cJ, 1232, .inr (.inl nf))), (a1, .inl (cJ, 616, .inr (.inl cf))), (a5, .inl (cI, 4, .inl sf)), (b4, .inl (cJ, 4, .inr (.inl sh))), (b2, .inl (cJ, 4, .inr (.inl ky))), (a3, .inl (cJ, 16, .inr (.inl glk_12)))]) [5, 6, 7, 8, 9, 10, 11, 0, 1, 2, 3, 4, 12] (by decide) rfl
            generalize H1 = H at hP hS ⊢
            refine lv_if_ne (tgt := 90) hx hb d_Bm_share_83 (by decide) (fun c_14 => ?_) (fun c_14 => ?_)
            · -- taken
              exact absurd ⟨I, rfl, hI, bz_t hr_13 c_14⟩ hC2
            · -- not taken
              have bo_13 := bz_f hr_13 c_14
              refine lv_iconst (v := 1) hx hb d_Bm_share_86 (by decide) ?_
              refine lv_goto (tgt := 91) hx hb d_Bm_share_87 (by decide) ?_
              refine lv_iconst (v := 2) hx hb d_Bm_share_91 (by decide) ?_
              have hPc := hP.sub (ws' := (mo_ws m0 0 (nI N) (nI n) (nI bc) (lN P) (lN Q) (lN G) (lN al) (lN pa) (lN pb) cl a0 a1 a2 a3 a4 a5 a6 a7 a8 a9 b0 b1 gok_12 b2 b3 b4 b5)) [0] rfl
              have hDc := hD.sub (ws' := (mo_ws m0 0 (nI N) (nI n) (nI bc) (lN P) (lN Q) (lN G) (lN al) (lN pa) (lN pb) cl a0 a1 a2 a3 a4 a5 a6 a7 a8 a9 b0 b1 gok_12 b2 b3 b4 b5)) [0] (by decide) rfl
              have hKc := hK.sub (tys' := [(cJ, .long), (cI, .int)]) [0, 1] rfl
              have hFc := va_free (wc := (mo_ws m0 0 (nI N) (nI n) (nI bc) (lN P) (lN Q) (lN G) (lN al) (lN pa) (lN pb) cl a0 a1 a2 a3 a4 a5 a6 a7 a8 a9 b0 b1 gok_12 b2 b3 b4 b5)) hD hS hA [0] rfl
              refine va_calli (va_runV (As := [.int 1, .int 2]) (rest := []) ⟨hx, hb, hml, hown, hts⟩ (c_Bm_fails_1 l dC dI cJ cI H.size m0 (nI N) (nI n) (nI bc) (lN P) (lN Q) (lN G) (lN al) (lN pa) (lN pb) cl a0 a1 a2 a3 a4 a5 a6 a7 a8 a9 b0 b1 gok_12 b2 b3 b4 b5 2 (by decide)) (cwV 2 hts (gw_V gk_1030 gk_1032 gp_27 gk_7 gk_1033) rfl rfl rfl (by decide +kernel) ⟨Nat.le_of_ble_eq_true rfl, Nat.le_of_ble_eq_true rfl⟩) ⟨fun a U g mk q => by obtain ⟨q0, q1, qP, qK, qD⟩ := q; exact ⟨q0, q1, qP, va_K.moved (u := U) (U := U.calling g mk a) (Vm.Alike.refl U.vm) qK, qD⟩, va_recv hK hP (ci := 8) (q0 := 0) rfl rfl, fun U hU hW => ⟨rfl, by rw [hU], by rw [hU]; exact hPc, va_K.moved hW.alike hKc, hDc.weaken (fun _ _ _ _ => trivial)⟩⟩ rfl rfl hl.1 rfl (lv_room (Nat.le_of_ble_eq_true rfl)) d_Bm_share_92 ⟨Nat.le_of_ble_eq_true rfl, Nat.le_of_ble_eq_true rfl⟩) hS (fun q _ h => hFc q h) hFc (fun r_15 u9 t9 H1 locs ht hvm hw hB hz1 hk1 hS => ?_)
              have hw : r_15 = 1 := hw
              subst hw
              obtain ⟨hP1, hK1, hD1⟩ := hB
              rw [ht] at hP1
              obtain ⟨hP, hD⟩ := va_join (wr := [(a7, .inl (cI, 256, .inl gbk_12)), (a8, .inl (cI, 64, .inl gsk_12)), (a9, .inl (cI, 8, .inl gtk_12)), (b0, .inl (cI, 8, .inl kS)), (b1, .inl (cI, 64, .inl kR)), (a2, .inl (cJ, 4, .inr (.inl gfk_12))), (a0, .inl (cJ, 1232, .inr (.inl nf))), (a1, .inl (cJ, 616, .inr (.inl cf))), (a5, .inl (cI, 4, .inl sf)), (b4, .inl (cJ, 4, .inr (.inl sh))), (b2, .inl (cJ, 4, .inr (.inl ky))), (a3, .inl (cJ, 16, .inr (.inl glk_12)))]) (w1 := [(m0, .inr (8, [.int 2, .int (nI N), .int (nI n), .int (nI bc), .long (lN P), .long (lN Q), .long (lN G), .long (lN al), .long (lN pa), .long (lN pb), .int cl, .ref a0, .ref a1, .ref a2, .ref a3, .ref a4, .ref a5, .ref a6, .ref a7, .ref a8, .ref a9, .ref b0, .ref b1, .int (nI gok_12), .ref b2, .ref b3, .ref b4, .ref b5]))]) hP hD [0] [1, 2, 3, 4, 5, 6, 7, 8, 9, 10, 11, 12] rfl rfl (by decide) (by decide) hk1 hFc hP1 hD1
              have hP := hP.sub (ws' := [(m0, .inr (8, [.int 2, .int (nI N), .int (nI n), .int (nI bc), .long (lN P), .long (lN Q), .long (lN G), .long (lN al), .long (lN pa), .long (lN pb), .int cl, .ref a0, .ref a1, .ref a2, .ref a3, .ref a4, .ref a5, .ref a6, .ref a7, .ref a8, .ref a9, .ref b0, .ref b1, .int (nI gok_12), .ref b2, .ref b3, .ref b4, .ref b5])), (a7, .inl (cI, 256, .inl gbk_12)), (a8, .inl (cI, 64, .inl gsk_12)), (a9, .inl (cI, 8, .inl gtk_12)), (b0, .inl (cI, 8, .inl kS)), (b1, .inl (cI, 64, .inl kR)), (a2, .inl (cJ, 4, .inr (.inl gfk_12))), (a0, .inl (cJ, 1232, .inr (.inl nf))), (a1, .inl (cJ, 616, .inr (.inl cf))), (a5, .inl (cI, 4, .inl sf)), (b4, .inl (cJ, 4, .inr (.inl sh))), (b2, .inl (cJ, 4, .inr (.inl ky))), (a3, .inl (cJ, 16, .inr (.inl glk_12)))]) [12, 0, 1, 2, 3, 4, 5, 6, 7, 8, 9, 10, 11] rfl
              have hD := hD.sub (ws' := [(m0, .inr (8, [.int 2, .int (nI N), .int (nI n), .int (nI bc), .long (lN P), .long (lN Q), .long (lN G), .long (lN al), .long (lN pa), .long (lN pb), .int cl, .ref a0, .ref a1, .ref a2, .ref a3, .ref a4, .ref a5, .ref a6, .ref a7, .ref a8, .ref a9, .ref b0, .ref b1, .int (nI gok_12), .ref b2, .ref b3, .ref b4, .ref b5])), (a7, .inl (cI, 256, .inl gbk_12)), (a8, .inl (cI, 64, .inl gsk_12)), (a9, .inl (cI, 8, .inl gtk_12)), (b0, .inl (cI, 8, .inl kS)), (b1, .inl (cI, 64, .inl kR)), (a2, .inl (cJ, 4, .inr (.inl gfk_12))), (a0, .inl (cJ, 1232, .inr (.inl nf))), (a1, .inl (cJ, 616, .inr (.inl cf))), (a5, .inl (cI, 4, .inl sf)), (b4, .inl (cJ, 4, .inr (.inl sh))), (b2, .inl (cJ, 4, .inr (.inl ky))), (a3, .inl (cJ, 16, .inr (.inl glk_12)))]) [12, 0, 1, 2, 3, 4, 5, 6, 7, 8, 9, 10, 11] (by decide) rfl
              generalize H1 = H at hP hS ⊢
              refine lv_if_eq (tgt := 100) hx hb d_Bm_share_95 (by decide) (fun c_16 => ?_) (fun c_16 => ?_)
              · -- taken
                exact absurd c_16 (by decide)
              · -- not taken
                refine lv_iconst (v := 0) hx hb d_Bm_share_98 (by decide) ?_
                exact W.iret (v := 0) hx hb hr (fun t ht9 hW => ⟨⟨_, ((gbk_12, gsk_12, gtk_12, gfk_12, gok_12), glk_12), rfl, trivial, by rw [ht9]; exact hP, va_K.moved hW.alike hK, hD⟩, hS.F ht9⟩) hS.2.2 d_Bm_share_99
      · -- not taken
        exact absurd (Or.inr ⟨I, rfl, hI, fun h => c_8 ((rK_neg hrs hn (show I < 4 by omega)).mpr h)⟩) hC1
set_option maxHeartbeats 8000000 in
set_option maxRecDepth 100000 in
theorem c_Bm_share_0 (l : Launch) (dC : Nat → ClassId) (dI : Nat → Nat → Nat) (cJ cI : ClassId) (sz : Nat) (m0 : Nat) (e0 : Int32) (N n bc P Q G al pa pb : Nat) (cl : Int32) (a0 a1 a2 a3 a4 a5 a6 a7 a8 a9 b0 b1 oc b2 b3 b4 b5 : Nat) (bf sc st sf : Nat → Int32) (tf nf cf sh ky lf : Nat → Int64) (so ko : Nat → Nat) (I Y : Nat) (x3 x4 : Int64) (hN : N ≤ 4) (hgr : 0 < N → gfx P Q G) (hcl : cl = 0 ∨ cl = 1) (hclN : cl = 1 → 0 < N) (hn : n ≤ 154) (hrs : rK 4 n so sf sh) (hky : ∀ i, i < N → cl = 1 → ky i = lN (ko i) ∧ ko i < P ∧ ko i ^ Q % P = 1) (hpa : pa < 2 ^ 61 ∧ (cl = 1 → pa < P)) (hcl1 : cl = 1) (hI : I < N) (hs0 : so I = 0) (hn1 : n < 154) (hn0 : 0 < n) (hh : shaHd P Q G (ko I) pa I (lN Y) x3 x4) : Met l y_Bm_share w_Bm_share ({ frames := 7, cells := 0, slots := 0, locals := 224 }) (va_Pc [.ref m0, .int (nI I), .long (lN Y), .long x3, .long x4] (fun U => U.heap.size = sz ∧ va_P (dC, dI) classes (mo_ws m0 e0 (nI N) (nI n) (nI bc) (lN P) (lN Q) (lN G) (lN al) (lN pa) (lN pb) cl a0 a1 a2 a3 a4 a5 a6 a7 a8 a9 b0 b1 oc b2 b3 b4 b5 ++ (iw_ws a7 cI 256 bf ++ (iw_ws a8 cI 64 sc ++ (iw_ws a9 cI 8 st ++ (iw_ws b0 cI 8 kS ++ (iw_ws b1 cI 64 kR ++ (jw_ws a2 cJ 4 tf ++ (jw_ws a0 cJ 1232 nf ++ (jw_ws a1 cJ 616 cf ++ (iw_ws a5 cI 4 sf ++ (jw_ws b4 cJ 4 sh ++ (jw_ws b2 cJ 4 ky ++ (jw_ws a3 cJ 16 lf))))))))))))) U.heap ∧ va_K (dC, dI) classes [(cJ, .long), (cI, .int)] U ∧ va_D (fun _ => True) (mo_ws m0 e0 (nI N) (nI n) (nI bc) (lN P) (lN Q) (lN G) (lN al) (lN pa) (lN pb) cl a0 a1 a2 a3 a4 a5 a6 a7 a8 a9 b0 b1 oc b2 b3 b4 b5 ++ (iw_ws a7 cI 256 bf ++ (iw_ws a8 cI 64 sc ++ (iw_ws a9 cI 8 st ++ (iw_ws b0 cI 8 kS ++ (iw_ws b1 cI 64 kR ++ (jw_ws a2 cJ 4 tf ++ (jw_ws a0 cJ 1232 nf ++ (jw_ws a1 cJ 616 cf ++ (iw_ws a5 cI 4 sf ++ (jw_ws b4 cJ 4 sh ++ (jw_ws b2 cJ 4 ky ++ (jw_ws a3 cJ 16 lf))))))))))))))) (va_Qi (fun (r : Int32) (u9 : DU × (Nat → Int64)) => r = nI n) (fun u9 t => va_P (dC, dI) classes (mo_ws m0 0 (nI N) (nI (n + 1)) (nI bc) (lN P) (lN Q) (lN G) (lN al) (lN pa) (lN pb) cl a0 a1 a2 a3 a4 a5 a6 a7 a8 a9 b0 b1 u9.1.2.2.2.2 b2 b3 b4 b5 ++ (iw_ws a7 cI 256 u9.1.1 ++ (iw_ws a8 cI 64 u9.1.2.1 ++ (iw_ws a9 cI 8 u9.1.2.2.1 ++ (iw_ws b0 cI 8 kS ++ (iw_ws b1 cI 64 kR ++ (jw_ws a2 cJ 4 u9.1.2.2.2.1 ++ (jw_ws a0 cJ 1232 (w8 nf (8 * n) (lN 3) (lN I) (lN Y) x3 x4 0 0 0) ++ (jw_ws a1 cJ 616 (c4 cf (4 * n) (lkw [cf (4 * (n - 1) + 0), cf (4 * (n - 1) + 1), cf (4 * (n - 1) + 2), cf (4 * (n - 1) + 3), lN 3, lN I, lN Y, x3, x4])) ++ (iw_ws a5 cI 4 (upd sf I (nI n)) ++ (jw_ws b4 cJ 4 (vp_updL sh I (lN Y)) ++ (jw_ws b2 cJ 4 ky ++ (jw_ws a3 cJ 16 u9.2))))))))))))) t.heap ∧ va_K (dC, dI) classes [(cJ, .long), (cI, .int)] t ∧ va_D (va_A (mo_ws m0 e0 (nI N) (nI n) (nI bc) (lN P) (lN Q) (lN G) (lN al) (lN pa) (lN pb) cl a0 a1 a2 a3 a4 a5 a6 a7 a8 a9 b0 b1 oc b2 b3 b4 b5 ++ (iw_ws a7 cI 256 bf ++ (iw_ws a8 cI 64 sc ++ (iw_ws a9 cI 8 st ++ (iw_ws b0 cI 8 kS ++ (iw_ws b1 cI 64 kR ++ (jw_ws a2 cJ 4 tf ++ (jw_ws a0 cJ 1232 nf ++ (jw_ws a1 cJ 616 cf ++ (iw_ws a5 cI 4 sf ++ (jw_ws b4 cJ 4 sh ++ (jw_ws b2 cJ 4 ky ++ (jw_ws a3 cJ 16 lf))))))))))))) sz) (mo_ws m0 0 (nI N) (nI (n + 1)) (nI bc) (lN P) (lN Q) (lN G) (lN al) (lN pa) (lN pb) cl a0 a1 a2 a3 a4 a5 a6 a7 a8 a9 b0 b1 u9.1.2.2.2.2 b2 b3 b4 b5 ++ (iw_ws a7 cI 256 u9.1.1 ++ (iw_ws a8 cI 64 u9.1.2.1 ++ (iw_ws a9 cI 8 u9.1.2.2.1 ++ (iw_ws b0 cI 8 kS ++ (iw_ws b1 cI 64 kR ++ (jw_ws a2 cJ 4 u9.1.2.2.2.1 ++ (jw_ws a0 cJ 1232 (w8 nf (8 * n) (lN 3) (lN I) (lN Y) x3 x4 0 0 0) ++ (jw_ws a1 cJ 616 (c4 cf (4 * n) (lkw [cf (4 * (n - 1) + 0), cf (4 * (n - 1) + 1), cf (4 * (n - 1) + 2), cf (4 * (n - 1) + 3), lN 3, lN I, lN Y, x3, x4])) ++ (iw_ws a5 cI 4 (upd sf I (nI n)) ++ (jw_ws b4 cJ 4 (vp_updL sh I (lN Y)) ++ (jw_ws b2 cJ 4 ky ++ (jw_ws a3 cJ 16 u9.2)))))))))))))) (va_A (mo_ws m0 e0 (nI N) (nI n) (nI bc) (lN P) (lN Q) (lN G) (lN al) (lN pa) (lN pb) cl a0 a1 a2 a3 a4 a5 a6 a7 a8 a9 b0 b1 oc b2 b3 b4 b5 ++ (iw_ws a7 cI 256 bf ++ (iw_ws a8 cI 64 sc ++ (iw_ws a9 cI 8 st ++ (iw_ws b0 cI 8 kS ++ (iw_ws b1 cI 64 kR ++ (jw_ws a2 cJ 4 tf ++ (jw_ws a0 cJ 1232 nf ++ (jw_ws a1 cJ 616 cf ++ (iw_ws a5 cI 4 sf ++ (jw_ws b4 cJ 4 sh ++ (jw_ws b2 cJ 4 ky ++ (jw_ws a3 cJ 16 lf))))))))))))) sz)) 0 0 (va_A (mo_ws m0 e0 (nI N) (nI n) (nI bc) (lN P) (lN Q) (lN G) (lN al) (lN pa) (lN pb) cl a0 a1 a2 a3 a4 a5 a6 a7 a8 a9 b0 b1 oc b2 b3 b4 b5 ++ (iw_ws a7 cI 256 bf ++ (iw_ws a8 cI 64 sc ++ (iw_ws a9 cI 8 st ++ (iw_ws b0 cI 8 kS ++ (iw_ws b1 cI 64 kR ++ (jw_ws a2 cJ 4 tf ++ (jw_ws a0 cJ 1232 nf ++ (jw_ws a1 cJ 616 cf ++ (iw_ws a5 cI 4 sf ++ (jw_ws b4 cJ 4 sh ++ (jw_ws b2 cJ 4 ky ++ (jw_ws a3 cJ 16 lf))))))))))))) sz) := by
  refine Met.ofW (cc := b_Bm_share) (maxL := 8) (ret := (some .int)) (by decide) rfl ?_
  intro p e s m args below meth c s₁ Bd hml hv
  obtain ⟨rfl, hsz, hP, hK, hD0⟩ := hv
  have hx := Bd.exec
  have hb := Bd.bytes
  have hr := Bd.returns
  have hts := atoms_spec (ws := w_Bm_share) Bd.pre
  have hown : s.vm.findClass "BallotBoardModel" = some m.cls := findClass_of_methodNamed Bd.named
  have hlocks := Bd.notSynchronized
  subst hsz
  have hD := hD0.self (sz := s.heap.size)
  generalize hAe : va_A (mo_ws m0 e0 (nI N) (nI n) (nI bc) (lN P) (lN Q) (lN G) (lN al) (lN pa) (lN pb) cl a0 a1 a2 a3 a4 a5 a6 a7 a8 a9 b0 b1 oc b2 b3 b4 b5 ++ (iw_ws a7 cI 256 bf ++ (iw_ws a8 cI 64 sc ++ (iw_ws a9 cI 8 st ++ (iw_ws b0 cI 8 kS ++ (iw_ws b1 cI 64 kR ++ (jw_ws a2 cJ 4 tf ++ (jw_ws a0 cJ 1232 nf ++ (jw_ws a1 cJ 616 cf ++ (iw_ws a5 cI 4 sf ++ (jw_ws b4 cJ 4 sh ++ (jw_ws b2 cJ 4 ky ++ (jw_ws a3 cJ 16 lf))))))))))))) s.heap.size = A at hD ⊢
  have hA : ∀ q : Nat, s.heap.size ≤ q → A q := fun q h => by rw [← hAe]; exact Or.inr h
  have hS : va_S A s.heap s.heap [] := va_S.rf
  have hl := lv_entry ([.ref m0, .int (nI I), .long (lN Y), .long x3, .long x4]) (n := 8) (Nat.le_of_ble_eq_true rfl)
  rw [lg_entry_eq]
  generalize (lg_sl ([.ref m0, .int (nI I), .long (lN Y), .long x3, .long x4]) ++ List.replicate (8 - (lg_sl ([.ref m0, .int (nI I), .long (lN Y), .long x3, .long x4])).length) Slot.unset).toArray = ls at hl ⊢
  have hl : lv_has ls 8 [(0, .ref m0), (1, .int (nI I)), (2, .long (lN Y)), (4, .long x3), (6, .long x4)] := hl
  have hN0 := hclN hcl1
  obtain ⟨hPQ, h61F, hQ3, hG2, hGP, hGQ⟩ := hgr hN0
  have hpaP := hpa.2 hcl1
  refine lv_aload_n hx hb d_Bm_share_0 rfl (lv_at hl 0 rfl) ?_
  refine lv_iconst (v := 0) hx hb d_Bm_share_1 (by decide) ?_
  refine va_put (D := (dC, dI)) (ci := 8) (v := .int 0) (ty := .int) (C := "BallotBoardModel") (T := F_Bm) (N := 28) hx hb hts (fun w9 h9 => List.mem_cons_of_mem _ (i_Bm w9 h9)) t_Bm t_Bm_ok n_Bm hown hK hP hD hS 0 rfl rfl 0 (by decide) (hts _ (List.mem_cons_of_mem _ gk_919)) (fun _ h9 => h9) rfl (by decide +kernel) rfl rfl (Nat.le_of_ble_eq_true rfl) d_Bm_share_2 (fun H locs hP hD hS => ?_)
  have hP : va_P (dC, dI) classes [(m0, .inr (8, [.int 0, .int (nI N), .int (nI n), .int (nI bc), .long (lN P), .long (lN Q), .long (lN G), .long (lN al), .long (lN pa), .long (lN pb), .int cl, .ref a0, .ref a1, .ref a2, .ref a3, .ref a4, .ref a5, .ref a6, .ref a7, .ref a8, .ref a9, .ref b0, .ref b1, .int (nI oc), .ref b2, .ref b3, .ref b4, .ref b5])), (a7, .inl (cI, 256, .inl bf)), (a8, .inl (cI, 64, .inl sc)), (a9, .inl (cI, 8, .inl st)), (b0, .inl (cI, 8, .inl kS)), (b1, .inl (cI, 64, .inl kR)), (a2, .inl (cJ, 4, .inr (.inl tf))), (a0, .inl (cJ, 1232, .inr (.inl nf))), (a1, .inl (cJ, 616, .inr (.inl cf))), (a5, .inl (cI, 4, .inl sf)), (b4, .inl (cJ, 4, .inr (.inl sh))), (b2, .inl (cJ, 4, .inr (.inl ky))), (a3, .inl (cJ, 16, .inr (.inl lf)))] H := hP
  have hD : va_D A [(m0, .inr (8, [.int 0, .int (nI N), .int (nI n), .int (nI bc), .long (lN P), .long (lN Q), .long (lN G), .long (lN al), .long (lN pa), .long (lN pb), .int cl, .ref a0, .ref a1, .ref a2, .ref a3, .ref a4, .ref a5, .ref a6, .ref a7, .ref a8, .ref a9, .ref b0, .ref b1, .int (nI oc), .ref b2, .ref b3, .ref b4, .ref b5])), (a7, .inl (cI, 256, .inl bf)), (a8, .inl (cI, 64, .inl sc)), (a9, .inl (cI, 8, .inl st)), (b0, .inl (cI, 8, .inl kS)), (b1, .inl (cI, 64, .inl kR)), (a2, .inl (cJ, 4, .inr (.inl tf))), (a0, .inl (cJ, 1232, .inr (.inl nf))), (a1, .inl (cJ, 616, .inr (.inl cf))), (a5, .inl (cI, 4, .inl sf)), (b4, .inl (cJ, 4, .inr (.inl sh))), (b2, .inl (cJ, 4, .inr (.inl ky))), (a3, .inl (cJ, 16, .inr (.inl lf)))] := hD
  refine lv_aload_n hx hb d_Bm_share_5 rfl (lv_at hl 0 rfl) ?_
  refine lv_aload_n hx hb d_Bm_share_6 rfl (lv_at hl 0 rfl) ?_
  refine va_get (D := (dC, dI)) (ci := 8) (v := .int cl) (C := "BallotBoardModel") (T := F_Bm) (N := 28) hx hb hts (fun w9 h9 => List.mem_cons_of_mem _ (i_Bm w9 h9)) hown hK hP 0 rfl rfl 10 (by decide) (hts _ (List.mem_cons_of_mem _ gk_929)) (fun _ h9 => h9) rfl d_Bm_share_7 ?_
  refine lv_if_eq (tgt := 36) hx hb d_Bm_share_10 (by decide) (fun c_1 => ?_) (fun c_1 => ?_)
  · -- taken
    exact absurd (hcl1.symm.trans c_1) (by decide)
  · -- not taken
    refine lv_iload_n hx hb d_Bm_share_13 rfl (lv_at hl 1 rfl) ?_
    refine lv_iconst (v := 0) hx hb d_Bm_share_14 (by decide) ?_
    refine lv_aload_n hx hb d_Bm_share_15 rfl (lv_at hl 0 rfl) ?_
    refine va_get (D := (dC, dI)) (ci := 8) (v := .int (nI N)) (C := "BallotBoardModel") (T := F_Bm) (N := 28) hx hb hts (fun w9 h9 => List.mem_cons_of_mem _ (i_Bm w9 h9)) hown hK hP 0 rfl rfl 1 (by decide) (hts _ (List.mem_cons_of_mem _ gk_920)) (fun _ h9 => h9) rfl d_Bm_share_16 ?_
    refine lv_iconst (v := 1) hx hb d_Bm_share_19 (by decide) ?_
    refine lv_isub hx hb d_Bm_share_20 ?_
    rw [show ((nI N) - 1 : Int32) = (nI (N - 1)) from nI_subI (b := 1) (by omega) rfl]
    refine va_calli (va_runS (As := [.int (nI I), .int 0, .int (nI (N - 1))]) (rest := [.ref m0]) ⟨hx, hb, hml, hown, hts⟩ (c_Bm_in l H (nI I) 0 (nI (N - 1))) (cwS 3 hts (gw_S gk_1027 gk_1028 gk_7 gk_1029) rfl rfl rfl (by decide +kernel) ⟨Nat.le_of_ble_eq_true rfl, Nat.le_of_ble_eq_true rfl⟩) ⟨fun a U g mk q => q, fun U hU hW => ⟨rfl, hU⟩⟩ rfl rfl hl.1 rfl (lv_room (Nat.le_of_ble_eq_true rfl)) d_Bm_share_21 ⟨Nat.le_of_ble_eq_true rfl, Nat.le_of_ble_eq_true rfl⟩) hS (fun q _ h => h.elim) (fun q h => h.elim) (fun r21 u9 t9 H1 locs ht hvm hw hB hz1 hk1 hS => ?_)
    obtain rfl : H = H1 := hB.symm.trans ht
    have h21 : bz r21 (inN (nI I) N) := bz_in hN0 (by omega) rfl hw
    refine lv_if_eq (tgt := 40) hx hb d_Bm_share_24 (by decide) (fun c_2 => ?_) (fun c_2 => ?_)
    · -- taken
      exact absurd (⟨I, rfl, hI⟩ : inN (nI I) N) (bz_f h21 c_2)
    · -- not taken
      have bo21 := bz_t h21 c_2
      refine lv_aload_n hx hb d_Bm_share_27 rfl (lv_at hl 0 rfl) ?_
      refine va_get (D := (dC, dI)) (ci := 8) (v := .ref a5) (C := "BallotBoardModel") (T := F_Bm) (N := 28) hx hb hts (fun w9 h9 => List.mem_cons_of_mem _ (i_Bm w9 h9)) hown hK hP 0 rfl rfl 16 (by decide) (hts _ (List.mem_cons_of_mem _ gk_935)) (fun _ h9 => h9) rfl d_Bm_share_28 ?_
      refine lv_iload_n hx hb d_Bm_share_31 rfl (lv_at hl 1 rfl) ?_
      refine va_iald hx hb hK hP 9 1 rfl rfl (vp_in_nI (by omega) (by omega)) d_Bm_share_32 ?_
      rw [show (sf (nI I : Int32).toNatClampNeg : Int32) = sf I from by rw [nI_clamp (by omega)]]
      refine lv_if_lt (tgt := 40) hx hb d_Bm_share_33 (by decide) (fun c_3 => ?_) (fun c_3 => ?_)
      · -- taken
        refine lv_iconst (v := 0) hx hb d_Bm_share_40 (by decide) ?_
        refine lv_iconst (v := 1) hx hb d_Bm_share_41 (by decide) ?_
        have hPc := hP.sub (ws' := (mo_ws m0 0 (nI N) (nI n) (nI bc) (lN P) (lN Q) (lN G) (lN al) (lN pa) (lN pb) cl a0 a1 a2 a3 a4 a5 a6 a7 a8 a9 b0 b1 oc b2 b3 b4 b5)) [0] rfl
        have hDc := hD.sub (ws' := (mo_ws m0 0 (nI N) (nI n) (nI bc) (lN P) (lN Q) (lN G) (lN al) (lN pa) (lN pb) cl a0 a1 a2 a3 a4 a5 a6 a7 a8 a9 b0 b1 oc b2 b3 b4 b5)) [0] (by decide) rfl
        have hKc := hK.sub (tys' := [(cJ, .long), (cI, .int)]) [0, 1] rfl
        have hFc := va_free (wc := (mo_ws m0 0 (nI N) (nI n) (nI bc) (lN P) (lN Q) (lN G) (lN al) (lN pa) (lN pb) cl a0 a1 a2 a3 a4 a5 a6 a7 a8 a9 b0 b1 oc b2 b3 b4 b5)) hD hS hA [0] rfl
        refine va_calli (va_runV (As := [.int 0, .int 1]) (rest := []) ⟨hx, hb, hml, hown, hts⟩ (c_Bm_fails_0 l dC dI cJ cI H.size m0 (nI N) (nI n) (nI bc) (lN P) (lN Q) (lN G) (lN al) (lN pa) (lN pb) cl a0 a1 a2 a3 a4 a5 a6 a7 a8 a9 b0 b1 oc b2 b3 b4 b5 1) (cwV 2 hts (gw_V gk_1030 gk_1032 gp_27 gk_7 gk_1033) rfl rfl rfl (by decide +kernel) ⟨Nat.le_of_ble_eq_true rfl, Nat.le_of_ble_eq_true rfl⟩) ⟨fun a U g mk q => by obtain ⟨q0, q1, qP, qK, qD⟩ := q; exact ⟨q0, q1, qP, va_K.moved (u := U) (U := U.calling g mk a) (Vm.Alike.refl U.vm) qK, qD⟩, va_recv hK hP (ci := 8) (q0 := 0) rfl rfl, fun U hU hW => ⟨rfl, by rw [hU], by rw [hU]; exact hPc, va_K.moved hW.alike hKc, hDc.weaken (fun _ _ _ _ => trivial)⟩⟩ rfl rfl hl.1 rfl (lv_room (Nat.le_of_ble_eq_true rfl)) d_Bm_share_42 ⟨Nat.le_of_ble_eq_true rfl, Nat.le_of_ble_eq_true rfl⟩) hS (fun q _ h => hFc q h) hFc (fun r_4 u9 t9 H1 locs ht hvm hw hB hz1 hk1 hS => ?_)
        have hw : r_4 = 0 := hw
        subst hw
        obtain ⟨hP1, hK1, hD1⟩ := hB
        rw [ht] at hP1
        obtain ⟨hP, hD⟩ := va_join (wr := [(a7, .inl (cI, 256, .inl bf)), (a8, .inl (cI, 64, .inl sc)), (a9, .inl (cI, 8, .inl st)), (b0, .inl (cI, 8, .inl kS)), (b1, .inl (cI, 64, .inl kR)), (a2, .inl (cJ, 4, .inr (.inl tf))), (a0, .inl (cJ, 1232, .inr (.inl nf))), (a1, .inl (cJ, 616, .inr (.inl cf))), (a5, .inl (cI, 4, .inl sf)), (b4, .inl (cJ, 4, .inr (.inl sh))), (b2, .inl (cJ, 4, .inr (.inl ky))), (a3, .inl (cJ, 16, .inr (.inl lf)))]) (w1 := [(m0, .inr (8, [.int 0, .int (nI N), .int (nI n), .int (nI bc), .long (lN P), .long (lN Q), .long (lN G), .long (lN al), .long (lN pa), .long (lN pb), .int cl, .ref a0, .ref a1, .ref a2, .ref a3, .ref a4, .ref a5, .ref a6, .ref a7, .ref a8, .ref a9, .ref b0, .ref b1, .int (nI oc), .ref b2, .ref b3, .ref b4, .ref b5]))]) hP hD [0] [1, 2, 3, 4, 5, 6, 7, 8, 9, 10, 11, 12] rfl rfl (by decide) (by decide) hk1 hFc hP1 hD1
        have hP := hP.sub (ws' := [(m0, .inr (8, [.int 0, .int (nI N), .int (nI n), .int (nI bc), .long (lN P), .long (lN Q), .long (lN G), .long (lN al), .long (lN pa), .long (lN pb), .int cl, .ref a0, .ref a1, .ref a2, .ref a3, .ref a4, .ref a5, .ref a6, .ref a7, .ref a8, .ref a9, .ref b0, .ref b1, .int (nI oc), .ref b2, .ref b3, .ref b4, .ref b5])), (a7, .inl (cI, 256, .inl bf)), (a8, .inl (cI, 64, .inl sc)), (a9, .inl (cI, 8, .inl st)), (b0, .inl (cI, 8, .inl kS)), (b1, .inl (cI, 64, .inl kR)), (a2, .inl (cJ, 4, .inr (.inl tf))), (a0, .inl (cJ, 1232, .inr (.inl nf))), (a1, .inl (cJ, 616, .inr (.inl cf))), (a5, .inl (cI, 4, .inl sf)), (b4, .inl (cJ, 4, .inr (.inl sh))), (b2, .inl (cJ, 4, .inr (.inl ky))), (a3, .inl (cJ, 16, .inr (.inl lf)))]) [12, 0, 1, 2, 3, 4, 5, 6, 7, 8, 9, 10, 11] rfl
        have hD := hD.sub (ws' := [(m0, .inr (8, [.int 0, .int (nI N), .int (nI n), .int (nI bc), .long (lN P), .long (lN Q), .long (lN G), .long (lN al), .long (lN pa), .long (lN pb), .int cl, .ref a0, .ref a1, .ref a2, .ref a3, .ref a4, .ref a5, .ref a6, .ref a7, .ref a8, .ref a9, .ref b0, .ref b1, .int (nI oc), .ref b2, .ref b3, .ref b4, .ref b5])), (a7, .inl (cI, 256, .inl bf)), (a8, .inl (cI, 64, .inl sc)), (a9, .inl (cI, 8, .inl st)), (b0, .inl (cI, 8, .inl kS)), (b1, .inl (cI, 64, .inl kR)), (a2, .inl (cJ, 4, .inr (.inl tf))), (a0, .inl (cJ, 1232, .inr (.inl nf))), (a1, .inl (cJ, 616, .inr (.inl cf))), (a5, .inl (cI, 4, .inl sf)), (b4, .inl (cJ, 4, .inr (.inl sh))), (b2, .inl (cJ, 4, .inr (.inl ky))), (a3, .inl (cJ, 16, .inr (.inl lf)))]) [12, 0, 1, 2, 3, 4, 5, 6, 7, 8, 9, 10, 11] (by decide) rfl
        generalize H1 = H at hP hS ⊢
        refine lv_if_ne (tgt := 98) hx hb d_Bm_share_45 (by decide) (fun c_5 => ?_) (fun c_5 => ?_)
        · -- taken
          exact absurd rfl c_5
        · -- not taken
          refine lv_aload_n hx hb d_Bm_share_48 rfl (lv_at hl 0 rfl) ?_
          refine lv_iload_n hx hb d_Bm_share_49 rfl (lv_at hl 1 rfl) ?_
          refine lv_iconst (v := 0) hx hb d_Bm_share_50 (by decide) ?_
          refine lv_aload_n hx hb d_Bm_share_51 rfl (lv_at hl 0 rfl) ?_
          refine va_get (D := (dC, dI)) (ci := 8) (v := .int (nI N)) (C := "BallotBoardModel") (T := F_Bm) (N := 28) hx hb hts (fun w9 h9 => List.mem_cons_of_mem _ (i_Bm w9 h9)) hown hK hP 0 rfl rfl 1 (by decide) (hts _ (List.mem_cons_of_mem _ gk_920)) (fun _ h9 => h9) rfl d_Bm_share_52 ?_
          refine lv_iconst (v := 1) hx hb d_Bm_share_55 (by decide) ?_
          refine lv_isub hx hb d_Bm_share_56 ?_
          rw [show ((nI N) - 1 : Int32) = (nI (N - 1)) from nI_subI (b := 1) (by omega) rfl]
          refine va_calli (va_runS (As := [.int (nI I), .int 0, .int (nI (N - 1))]) (rest := [.ref m0]) ⟨hx, hb, hml, hown, hts⟩ (c_Bm_in l H (nI I) 0 (nI (N - 1))) (cwS 3 hts (gw_S gk_1027 gk_1028 gk_7 gk_1029) rfl rfl rfl (by decide +kernel) ⟨Nat.le_of_ble_eq_true rfl, Nat.le_of_ble_eq_true rfl⟩) ⟨fun a U g mk q => q, fun U hU hW => ⟨rfl, hU⟩⟩ rfl rfl hl.1 rfl (lv_room (Nat.le_of_ble_eq_true rfl)) d_Bm_share_57 ⟨Nat.le_of_ble_eq_true rfl, Nat.le_of_ble_eq_true rfl⟩) hS (fun q _ h => h.elim) (fun q h => h.elim) (fun r57 u9 t9 H1 locs ht hvm hw hB hz1 hk1 hS => ?_)
          obtain rfl : H = H1 := hB.symm.trans ht
          have h57 : bz r57 (inN (nI I) N) := bz_in hN0 (by omega) rfl hw
          refine lv_if_eq (tgt := 86) hx hb d_Bm_share_60 (by decide) (fun c_6 => ?_) (fun c_6 => ?_)
          · -- taken
            exact absurd (⟨I, rfl, hI⟩ : inN (nI I) N) (bz_f h57 c_6)
          · -- not taken
            have bo57 := bz_t h57 c_6
            refine lv_aload_n hx hb d_Bm_share_63 rfl (lv_at hl 0 rfl) ?_
            refine lv_iload_n hx hb d_Bm_share_64 rfl (lv_at hl 1 rfl) ?_
            refine lv_lload_n hx hb d_Bm_share_65 rfl (lv_at hl 2 rfl) ?_
            refine lv_lload hx hb d_Bm_share_66 (lv_at hl 3 rfl) ?_
            refine lv_lload hx hb d_Bm_share_68 (lv_at hl 4 rfl) ?_
            refine lv_aload_n hx hb d_Bm_share_70 rfl (lv_at hl 0 rfl) ?_
            refine va_get (D := (dC, dI)) (ci := 8) (v := .ref b2) (C := "BallotBoardModel") (T := F_Bm) (N := 28) hx hb hts (fun w9 h9 => List.mem_cons_of_mem _ (i_Bm w9 h9)) hown hK hP 0 rfl rfl 24 (by decide) (hts _ (List.mem_cons_of_mem _ gk_943)) (fun _ h9 => h9) rfl d_Bm_share_71 ?_
            refine lv_iload_n hx hb d_Bm_share_74 rfl (lv_at hl 1 rfl) ?_
            refine va_lald hx hb hK hP 11 0 rfl rfl (vp_in_nI (by omega) (by omega)) d_Bm_share_75 ?_
            rw [show (ky (nI I : Int32).toNatClampNeg : Int64) = ky I from by rw [nI_clamp (by omega)]]
            rw [show (ky I : Int64) = (lN (ko I)) from (hky I hI hcl1).1]
            refine lv_aload_n hx hb d_Bm_share_76 rfl (lv_at hl 0 rfl) ?_
            refine va_get (D := (dC, dI)) (ci := 8) (v := .long (lN pa)) (C := "BallotBoardModel") (T := F_Bm) (N := 28) hx hb hts (fun w9 h9 => List.mem_cons_of_mem _ (i_Bm w9 h9)) hown hK hP 0 rfl rfl 8 (by decide) (hts _ (List.mem_cons_of_mem _ gk_927)) (fun _ h9 => h9) rfl d_Bm_share_77 ?_
            have hPc := hP.sub (ws' := (mo_ws m0 0 (nI N) (nI n) (nI bc) (lN P) (lN Q) (lN G) (lN al) (lN pa) (lN pb) cl a0 a1 a2 a3 a4 a5 a6 a7 a8 a9 b0 b1 oc b2 b3 b4 b5 ++ (iw_ws a7 cI 256 bf ++ (iw_ws a8 cI 64 sc ++ (iw_ws a9 cI 8 st ++ (iw_ws b0 cI 8 kS ++ (iw_ws b1 cI 64 kR ++ (jw_ws a2 cJ 4 tf ++ (jw_ws a3 cJ 16 lf))))))))) [0, 1, 2, 3, 4, 5, 6, 12] rfl
            have hDc := hD.sub (ws' := (mo_ws m0 0 (nI N) (nI n) (nI bc) (lN P) (lN Q) (lN G) (lN al) (lN pa) (lN pb) cl a0 a1 a2 a3 a4 a5 a6 a7 a8 a9 b0 b1 oc b2 b3 b4 b5 ++ (iw_ws a7 cI 256 bf ++ (iw_ws a8 cI 64 sc ++ (iw_ws a9 cI 8 st ++ (iw_ws b0 cI 8 kS ++ (iw_ws b1 cI 64 kR ++ (jw_ws a2 cJ 4 tf ++ (jw_ws a3 cJ 16 lf))))))))) [0, 1, 2, 3, 4, 5, 6, 12] (by decide) rfl
            have hKc := hK.sub (tys' := [(cJ, .long), (cI, .int)]) [0, 1] rfl
            have hFc := va_free (wc := (mo_ws m0 0 (nI N) (nI n) (nI bc) (lN P) (lN Q) (lN G) (lN al) (lN pa) (lN pb) cl a0 a1 a2 a3 a4 a5 a6 a7 a8 a9 b0 b1 oc b2 b3 b4 b5 ++ (iw_ws a7 cI 256 bf ++ (iw_ws a8 cI 64 sc ++ (iw_ws a9 cI 8 st ++ (iw_ws b0 cI 8 kS ++ (iw_ws b1 cI 64 kR ++ (jw_ws a2 cJ 4 tf ++ (jw_ws a3 cJ 16 lf))))))))) hD hS hA [0, 1, 2, 3, 4, 5, 6, 12] rfl
            refine va_calli (va_runV (As := [.int (nI I), .long (lN Y), .long x3, .long x4, .long (lN (ko I)), .long (lN pa)]) (rest := [.ref m0]) ⟨hx, hb, hml, hown, hts⟩ (c_Bm_shareHolds l dC dI cJ cI H.size m0 0 (nI N) (nI n) (nI bc) (lN al) (lN pa) (lN pb) cl a0 a1 a2 a3 a4 a5 a6 a7 a8 a9 b0 b1 oc b2 b3 b4 b5 P Q G bf sc st tf lf I (ko I) pa (lN Y) x3 x4 hPQ h61F hQ3 hG2 hGP hGQ (by omega) (hky I hI hcl1).2.1 (hky I hI hcl1).2.2 hpaP) (cwV 6 hts (gw_V gk_1153 gk_1155 gp_49 gk_7 gk_1156) rfl rfl rfl (by decide +kernel) ⟨Nat.le_of_ble_eq_true rfl, Nat.le_of_ble_eq_true rfl⟩) ⟨fun a U g mk q => by obtain ⟨q0, q1, qP, qK, qD⟩ := q; exact ⟨q0, q1, qP, va_K.moved (u := U) (U := U.calling g mk a) (Vm.Alike.refl U.vm) qK, qD⟩, va_recv hK hP (ci := 8) (q0 := 0) rfl rfl, fun U hU hW => ⟨rfl, by rw [hU], by rw [hU]; exact hPc, va_K.moved hW.alike hKc, hDc.weaken (fun _ _ _ _ => trivial)⟩⟩ rfl rfl hl.1 rfl (lv_room (Nat.le_of_ble_eq_true rfl)) d_Bm_share_80 ⟨Nat.le_of_ble_eq_true rfl, Nat.le_of_ble_eq_true rfl⟩) hS (fun q _ h => hFc q h) hFc (fun r_8 u9 t9 H1 locs ht hvm hw hB hz1 hk1 hS => ?_)
            obtain ⟨⟨gbk_7, gsk_7, gtk_7, gfk_7, gok_7⟩, glk_7⟩ := u9
            have hr_8 := hw
            obtain ⟨hP1, hK1, hD1⟩ := hB
            rw [ht] at hP1
            obtain ⟨hP, hD⟩ := va_join (wr := [(a0, .inl (cJ, 1232, .inr (.inl nf))), (a1, .inl (cJ, 616, .inr (.inl cf))), (a5, .inl (cI, 4, .inl sf)), (b4, .inl (cJ, 4, .inr (.inl sh))), (b2, .inl (cJ, 4, .inr (.inl ky)))]) (w1 := [(m0, .inr (8, [.int 0, .int (nI N), .int (nI n), .int (nI bc), .long (lN P), .long (lN Q), .long (lN G), .long (lN al), .long (lN pa), .long (lN pb), .int cl, .ref a0, .ref a1, .ref a2, .ref a3, .ref a4, .ref a5, .ref a6, .ref a7, .ref a8, .ref a9, .ref b0, .ref b1, .int (nI gok_7), .ref b2, .ref b3, .ref b4, .ref b5])), (a7, .inl (cI, 256, .inl gbk_7)), (a8, .inl (cI, 64, .inl gsk_7)), (a9, .inl (cI, 8, .inl gtk_7)), (b0, .inl (cI, 8, .inl kS)), (b1, .inl (cI, 64, .inl kR)), (a2, .inl (cJ, 4, .inr (.inl gfk_7))), (a3, .inl (cJ, 16, .inr (.inl glk_7)))]) hP hD [0, 1, 2, 3, 4, 5, 6, 12] [7, 8, 9, 10, 11] rfl rfl (by decide) (by decide) hk1 hFc hP1 hD1
            have hP := hP.sub (ws' := [(m0, .inr (8, [.int 0, .int (nI N), .int (nI n), .int (nI bc), .long (lN P), .long (lN Q), .long (lN G), .long (lN al), .long (lN pa), .long (lN pb), .int cl, .ref a0, .ref a1, .ref a2, .ref a3, .ref a4, .ref a5, .ref a6, .ref a7, .ref a8, .ref a9, .ref b0, .ref b1, .int (nI gok_7), .ref b2, .ref b3, .ref b4, .ref b5])), (a7, .inl (cI, 256, .inl gbk_7)), (a8, .inl (cI, 64, .inl gsk_7)), (a9, .inl (cI, 8, .inl gtk_7)), (b0, .inl (cI, 8, .inl kS)), (b1, .inl (cI, 64, .inl kR)), (a2, .inl (cJ, 4, .inr (.inl gfk_7))), (a0, .inl (cJ, 1232, .inr (.inl nf))), (a1, .inl (cJ, 616, .inr (.inl cf))), (a5, .inl (cI, 4, .inl sf)), (b4, .inl (cJ, 4, .inr (.inl sh))), (b2, .inl (cJ, 4, .inr (.inl ky))), (a3, .inl (cJ, 16, .inr (.inl glk_7)))]) [5, 6, 7, 8, 9, 10, 11, 0, 1, 2, 3, 4, 12] rfl
            have hD := hD.sub (ws' := [(m0, .inr (8, [.int 0, .int (nI N), .int (nI n), .int (nI bc), .long (lN P), .long (lN Q), .long (lN G), .long (lN al), .long (lN pa), .long (lN pb), .int cl, .ref a0, .ref a1, .ref a2, .ref a3, .ref a4, .ref a5, .ref a6, .ref a7, .ref a8, .ref a9, .ref b0, .ref b1, .int (nI gok_7), .ref b2, .ref b3, .ref b4, .ref b5])), (a7, .inl (cI, 256, .inl gbk_7)), (a8, .inl (cI, 64, .inl gsk_7)), (a9, .inl (cI, 8, .inl gtk_7)), (b0, .inl (cI, 8, .inl kS)), (b1, .inl (cI, 64, .inl kR)), (a2, .inl (cJ, 4, .inr (.inl gfk_7))), (a0, .inl (cJ, 1232, .inr (.inl nf))), (a1, .inl (cJ, 616, .inr (.inl cf))), (a5, .inl (cI, 4, .inl sf)), (b4, .inl (cJ, 4, .inr (.inl sh))), (b2, .inl (cJ, 4, .inr (.inl ky))), (a3, .inl (cJ, 16, .inr (.inl glk_7)))]) [5, 6, 7, 8, 9, 10, 11, 0, 1, 2, 3, 4, 12] (by decide) rfl
            generalize H1 = H at hP hS ⊢
            refine lv_if_ne (tgt := 90) hx hb d_Bm_share_83 (by decide) (fun c_9 => ?_) (fun c_9 => ?_)
            · -- taken
              have bo_8 := bz_t hr_8 c_9
              refine lv_iconst (v := 0) hx hb d_Bm_share_90 (by decide) ?_
              refine lv_iconst (v := 2) hx hb d_Bm_share_91 (by decide) ?_
              have hPc := hP.sub (ws' := (mo_ws m0 0 (nI N) (nI n) (nI bc) (lN P) (lN Q) (lN G) (lN al) (lN pa) (lN pb) cl a0 a1 a2 a3 a4 a5 a6 a7 a8 a9 b0 b1 gok_7 b2 b3 b4 b5)) [0] rfl
              have hDc := hD.sub (ws' := (mo_ws m0 0 (nI N) (nI n) (nI bc) (lN P) (lN Q) (lN G) (lN al) (lN pa) (lN pb) cl a0 a1 a2 a3 a4 a5 a6 a7 a8 a9 b0 b1 gok_7 b2 b3 b4 b5)) [0] (by decide) rfl
              have hKc := hK.sub (tys' := [(cJ, .long), (cI, .int)]) [0, 1] rfl
              have hFc := va_free (wc := (mo_ws m0 0 (nI N) (nI n) (nI bc) (lN P) (lN Q) (lN G) (lN al) (lN pa) (lN pb) cl a0 a1 a2 a3 a4 a5 a6 a7 a8 a9 b0 b1 gok_7 b2 b3 b4 b5)) hD hS hA [0] rfl
              refine va_calli (va_runV (As := [.int 0, .int 2]) (rest := []) ⟨hx, hb, hml, hown, hts⟩ (c_Bm_fails_0 l dC dI cJ cI H.size m0 (nI N) (nI n) (nI bc) (lN P) (lN Q) (lN G) (lN al) (lN pa) (lN pb) cl a0 a1 a2 a3 a4 a5 a6 a7 a8 a9 b0 b1 gok_7 b2 b3 b4 b5 2) (cwV 2 hts (gw_V gk_1030 gk_1032 gp_27 gk_7 gk_1033) rfl rfl rfl (by decide +kernel) ⟨Nat.le_of_ble_eq_true rfl, Nat.le_of_ble_eq_true rfl⟩) ⟨fun a U g mk q => by obtain ⟨q0, q1, qP, qK, qD⟩ := q; exact ⟨q0, q1, qP, va_K.moved (u := U) (U := U.calling g mk a) (Vm.Alike.refl U.vm) qK, qD⟩, va_recv hK hP (ci := 8) (q0 := 0) rfl rfl, fun U hU hW => ⟨rfl, by rw [hU], by rw [hU]; exact hPc, va_K.moved hW.alike hKc, hDc.weaken (fun _ _ _ _ => trivial)⟩⟩ rfl rfl hl.1 rfl (lv_room (Nat.le_of_ble_eq_true rfl)) d_Bm_share_92 ⟨Nat.le_of_ble_eq_true rfl, Nat.le_of_ble_eq_true rfl⟩) hS (fun q _ h => hFc q h) hFc (fun r_10 u9 t9 H1 locs ht hvm hw hB hz1 hk1 hS => ?_)
              have hw : r_10 = 0 := hw
              subst hw
              obtain ⟨hP1, hK1, hD1⟩ := hB
              rw [ht] at hP1
              obtain ⟨hP, hD⟩ := va_join (wr := [(a7, .inl (cI, 256, .inl gbk_7)), (a8, .inl (cI, 64, .inl gsk_7)), (a9, .inl (cI, 8, .inl gtk_7)), (b0, .inl (cI, 8, .inl kS)), (b1, .inl (cI, 64, .inl kR)), (a2, .inl (cJ, 4, .inr (.inl gfk_7))), (a0, .inl (cJ, 1232, .inr (.inl nf))), (a1, .inl (cJ, 616, .inr (.inl cf))), (a5, .inl (cI, 4, .inl sf)), (b4, .inl (cJ, 4, .inr (.inl sh))), (b2, .inl (cJ, 4, .inr (.inl ky))), (a3, .inl (cJ, 16, .inr (.inl glk_7)))]) (w1 := [(m0, .inr (8, [.int 0, .int (nI N), .int (nI n), .int (nI bc), .long (lN P), .long (lN Q), .long (lN G), .long (lN al), .long (lN pa), .long (lN pb), .int cl, .ref a0, .ref a1, .ref a2, .ref a3, .ref a4, .ref a5, .ref a6, .ref a7, .ref a8, .ref a9, .ref b0, .ref b1, .int (nI gok_7), .ref b2, .ref b3, .ref b4, .ref b5]))]) hP hD [0] [1, 2, 3, 4, 5, 6, 7, 8, 9, 10, 11, 12] rfl rfl (by decide) (by decide) hk1 hFc hP1 hD1
              have hP := hP.sub (ws' := [(m0, .inr (8, [.int 0, .int (nI N), .int (nI n), .int (nI bc), .long (lN P), .long (lN Q), .long (lN G), .long (lN al), .long (lN pa), .long (lN pb), .int cl, .ref a0, .ref a1, .ref a2, .ref a3, .ref a4, .ref a5, .ref a6, .ref a7, .ref a8, .ref a9, .ref b0, .ref b1, .int (nI gok_7), .ref b2, .ref b3, .ref b4, .ref b5])), (a7, .inl (cI, 256, .inl gbk_7)), (a8, .inl (cI, 64, .inl gsk_7)), (a9, .inl (cI, 8, .inl gtk_7)), (b0, .inl (cI, 8, .inl kS)), (b1, .inl (cI, 64, .inl kR)), (a2, .inl (cJ, 4, .inr (.inl gfk_7))), (a0, .inl (cJ, 1232, .inr (.inl nf))), (a1, .inl (cJ, 616, .inr (.inl cf))), (a5, .inl (cI, 4, .inl sf)), (b4, .inl (cJ, 4, .inr (.inl sh))), (b2, .inl (cJ, 4, .inr (.inl ky))), (a3, .inl (cJ, 16, .inr (.inl glk_7)))]) [12, 0, 1, 2, 3, 4, 5, 6, 7, 8, 9, 10, 11] rfl
              have hD := hD.sub (ws' := [(m0, .inr (8, [.int 0, .int (nI N), .int (nI n), .int (nI bc), .long (lN P), .long (lN Q), .long (lN G), .long (lN al), .long (lN pa), .long (lN pb), .int cl, .ref a0, .ref a1, .ref a2, .ref a3, .ref a4, .ref a5, .ref a6, .ref a7, .ref a8, .ref a9, .ref b0, .ref b1, .int (nI gok_7), .ref b2, .ref b3, .ref b4, .ref b5])), (a7, .inl (cI, 256, .inl gbk_7)), (a8, .inl (cI, 64, .inl gsk_7)), (a9, .inl (cI, 8, .inl gtk_7)), (b0, .inl (cI, 8, .inl kS)), (b1, .inl (cI, 64, .inl kR)), (a2, .inl (cJ, 4, .inr (.inl gfk_7))), (a0, .inl (cJ, 1232, .inr (.inl nf))), (a1, .inl (cJ, 616, .inr (.inl cf))), (a5, .inl (cI, 4, .inl sf)), (b4, .inl (cJ, 4, .inr (.inl sh))), (b2, .inl (cJ, 4, .inr (.inl ky))), (a3, .inl (cJ, 16, .inr (.inl glk_7)))]) [12, 0, 1, 2, 3, 4, 5, 6, 7, 8, 9, 10, 11] (by decide) rfl
              generalize H1 = H at hP hS ⊢
              refine lv_if_eq (tgt := 100) hx hb d_Bm_share_95 (by decide) (fun c_11 => ?_) (fun c_11 => ?_)
              · -- taken
                refine lv_aload_n hx hb d_Bm_share_100 rfl (lv_at hl 0 rfl) ?_
                refine lv_iload_n hx hb d_Bm_share_101 rfl (lv_at hl 1 rfl) ?_
                refine lv_lload_n hx hb d_Bm_share_102 rfl (lv_at hl 2 rfl) ?_
                refine lv_lload hx hb d_Bm_share_103 (lv_at hl 3 rfl) ?_
                refine lv_lload hx hb d_Bm_share_105 (lv_at hl 4 rfl) ?_
                have hPc := hP.sub (ws' := (mo_ws m0 0 (nI N) (nI n) (nI bc) (lN P) (lN Q) (lN G) (lN al) (lN pa) (lN pb) cl a0 a1 a2 a3 a4 a5 a6 a7 a8 a9 b0 b1 gok_7 b2 b3 b4 b5 ++ (iw_ws a7 cI 256 gbk_7 ++ (iw_ws a8 cI 64 gsk_7 ++ (iw_ws a9 cI 8 gtk_7 ++ (iw_ws b0 cI 8 kS ++ (iw_ws b1 cI 64 kR ++ (jw_ws a2 cJ 4 gfk_7 ++ (jw_ws a0 cJ 1232 nf ++ (jw_ws a1 cJ 616 cf ++ (iw_ws a5 cI 4 sf ++ (jw_ws b4 cJ 4 sh)))))))))))) [0, 1, 2, 3, 4, 5, 6, 7, 8, 9, 10] rfl
                have hDc := hD.sub (ws' := (mo_ws m0 0 (nI N) (nI n) (nI bc) (lN P) (lN Q) (lN G) (lN al) (lN pa) (lN pb) cl a0 a1 a2 a3 a4 a5 a6 a7 a8 a9 b0 b1 gok_7 b2 b3 b4 b5 ++ (iw_ws a7 cI 256 gbk_7 ++ (iw_ws a8 cI 64 gsk_7 ++ (iw_ws a9 cI 8 gtk_7 ++ (iw_ws b0 cI 8 kS ++ (iw_ws b1 cI 64 kR ++ (jw_ws a2 cJ 4 gfk_7 ++ (jw_ws a0 cJ 1232 nf ++ (jw_ws a1 cJ 616 cf ++ (iw_ws a5 cI 4 sf ++ (jw_ws b4 cJ 4 sh)))))))))))) [0, 1, 2, 3, 4, 5, 6, 7, 8, 9, 10] (by decide) rfl
                have hKc := hK.sub (tys' := [(cJ, .long), (cI, .int)]) [0, 1] rfl
                have hFc := va_free (wc := (mo_ws m0 0 (nI N) (nI n) (nI bc) (lN P) (lN Q) (lN G) (lN al) (lN pa) (lN pb) cl a0 a1 a2 a3 a4 a5 a6 a7 a8 a9 b0 b1 gok_7 b2 b3 b4 b5 ++ (iw_ws a7 cI 256 gbk_7 ++ (iw_ws a8 cI 64 gsk_7 ++ (iw_ws a9 cI 8 gtk_7 ++ (iw_ws b0 cI 8 kS ++ (iw_ws b1 cI 64 kR ++ (jw_ws a2 cJ 4 gfk_7 ++ (jw_ws a0 cJ 1232 nf ++ (jw_ws a1 cJ 616 cf ++ (iw_ws a5 cI 4 sf ++ (jw_ws b4 cJ 4 sh)))))))))))) hD hS hA [0, 1, 2, 3, 4, 5, 6, 7, 8, 9, 10] rfl
                refine va_calli (va_runV (As := [.int (nI I), .long (lN Y), .long x3, .long x4]) (rest := []) ⟨hx, hb, hml, hown, hts⟩ (c_Bm_putShare l dC dI cJ cI H.size m0 0 N n bc P Q G al pa pb cl a0 a1 a2 a3 a4 a5 a6 a7 a8 a9 b0 b1 gok_7 b2 b3 b4 b5 gbk_7 gsk_7 gtk_7 sf gfk_7 nf cf sh I Y x3 x4 (by omega) hn0 (by omega)) (cwV 4 hts (gw_V gk_1162 gk_1164 gp_51 gk_7 gk_1165) rfl rfl rfl (by decide +kernel) ⟨Nat.le_of_ble_eq_true rfl, Nat.le_of_ble_eq_true rfl⟩) ⟨fun a U g mk q => by obtain ⟨q0, q1, qP, qK, qD⟩ := q; exact ⟨q0, q1, qP, va_K.moved (u := U) (U := U.calling g mk a) (Vm.Alike.refl U.vm) qK, qD⟩, va_recv hK hP (ci := 8) (q0 := 0) rfl rfl, fun U hU hW => ⟨rfl, by rw [hU], by rw [hU]; exact hPc, va_K.moved hW.alike hKc, hDc.weaken (fun _ _ _ _ => trivial)⟩⟩ rfl rfl hl.1 rfl (lv_room (Nat.le_of_ble_eq_true rfl)) d_Bm_share_107 ⟨Nat.le_of_ble_eq_true rfl, Nat.le_of_ble_eq_true rfl⟩) hS (fun q _ h => hFc q h) hFc (fun r_13 u9 t9 H1 locs ht hvm hw hB hz1 hk1 hS => ?_)
                obtain ⟨gbk_12, gsk_12, gtk_12, gfk_12, gok_12⟩ := u9
                have hw : r_13 = nI n := hw
                subst hw
                obtain ⟨hP1, hK1, hD1⟩ := hB
                rw [ht] at hP1
                obtain ⟨hP, hD⟩ := va_join (wr := [(b2, .inl (cJ, 4, .inr (.inl ky))), (a3, .inl (cJ, 16, .inr (.inl glk_7)))]) (w1 := [(m0, .inr (8, [.int 0, .int (nI N), .int (nI (n + 1)), .int (nI bc), .long (lN P), .long (lN Q), .long (lN G), .long (lN al), .long (lN pa), .long (lN pb), .int cl, .ref a0, .ref a1, .ref a2, .ref a3, .ref a4, .ref a5, .ref a6, .ref a7, .ref a8, .ref a9, .ref b0, .ref b1, .int (nI gok_12), .ref b2, .ref b3, .ref b4, .ref b5])), (a7, .inl (cI, 256, .inl gbk_12)), (a8, .inl (cI, 64, .inl gsk_12)), (a9, .inl (cI, 8, .inl gtk_12)), (b0, .inl (cI, 8, .inl kS)), (b1, .inl (cI, 64, .inl kR)), (a2, .inl (cJ, 4, .inr (.inl gfk_12))), (a0, .inl (cJ, 1232, .inr (.inl (w8 nf (8 * n) (lN 3) (lN I) (lN Y) x3 x4 0 0 0)))), (a1, .inl (cJ, 616, .inr (.inl (c4 cf (4 * n) (lkw [cf (4 * (n - 1) + 0), cf (4 * (n - 1) + 1), cf (4 * (n - 1) + 2), cf (4 * (n - 1) + 3), lN 3, lN I, lN Y, x3, x4]))))), (a5, .inl (cI, 4, .inl (upd sf I (nI n)))), (b4, .inl (cJ, 4, .inr (.inl (vp_updL sh I (lN Y)))))]) hP hD [0, 1, 2, 3, 4, 5, 6, 7, 8, 9, 10] [11, 12] rfl rfl (by decide) (by decide) hk1 hFc hP1 hD1
                have hP := hP.sub (ws' := [(m0, .inr (8, [.int 0, .int (nI N), .int (nI (n + 1)), .int (nI bc), .long (lN P), .long (lN Q), .long (lN G), .long (lN al), .long (lN pa), .long (lN pb), .int cl, .ref a0, .ref a1, .ref a2, .ref a3, .ref a4, .ref a5, .ref a6, .ref a7, .ref a8, .ref a9, .ref b0, .ref b1, .int (nI gok_12), .ref b2, .ref b3, .ref b4, .ref b5])), (a7, .inl (cI, 256, .inl gbk_12)), (a8, .inl (cI, 64, .inl gsk_12)), (a9, .inl (cI, 8, .inl gtk_12)), (b0, .inl (cI, 8, .inl kS)), (b1, .inl (cI, 64, .inl kR)), (a2, .inl (cJ, 4, .inr (.inl gfk_12))), (a0, .inl (cJ, 1232, .inr (.inl (w8 nf (8 * n) (lN 3) (lN I) (lN Y) x3 x4 0 0 0)))), (a1, .inl (cJ, 616, .inr (.inl (c4 cf (4 * n) (lkw [cf (4 * (n - 1) + 0), cf (4 * (n - 1) + 1), cf (4 * (n - 1) + 2), cf (4 * (n - 1) + 3), lN 3, lN I, lN Y, x3, x4]))))), (a5, .inl (cI, 4, .inl (upd sf I (nI n)))), (b4, .inl (cJ, 4, .inr (.inl (vp_updL sh I (lN Y))))), (b2, .inl (cJ, 4, .inr (.inl ky))), (a3, .inl (cJ, 16, .inr (.inl glk_7)))]) [2, 3, 4, 5, 6, 7, 8, 9, 10, 11, 12, 0, 1] rfl
                have hD := hD.sub (ws' := [(m0, .inr (8, [.int 0, .int (nI N), .int (nI (n + 1)), .int (nI bc), .long (lN P), .long (lN Q), .long (lN G), .long (lN al), .long (lN pa), .long (lN pb), .int cl, .ref a0, .ref a1, .ref a2, .ref a3, .ref a4, .ref a5, .ref a6, .ref a7, .ref a8, .ref a9, .ref b0, .ref b1, .int (nI gok_12), .ref b2, .ref b3, .ref b4, .ref b5])), (a7, .inl (cI, 256, .inl gbk_12)), (a8, .inl (cI, 64, .inl gsk_12)), (a9, .inl (cI, 8, .inl gtk_12)), (b0, .inl (cI, 8, .inl kS)), (b1, .inl (cI, 64, .inl kR)), (a2, .inl (cJ, 4, .inr (.inl gfk_12))), (a0, .inl (cJ, 1232, .inr (.inl (w8 nf (8 * n) (lN 3) (lN I) (lN Y) x3 x4 0 0 0)))), (a1, .inl (cJ, 616, .inr (.inl (c4 cf (4 * n) (lkw [cf (4 * (n - 1) + 0), cf (4 * (n - 1) + 1), cf (4 * (n - 1) + 2), cf (4 * (n - 1) + 3), lN 3, lN I, lN Y, x3, x4]))))), (a5, .inl (cI, 4, .inl (upd sf I (nI n)))), (b4, .inl (cJ, 4, .inr (.inl (vp_updL sh I (lN Y))))), (b2, .inl (cJ, 4, .inr (.inl ky))), (a3, .inl (cJ, 16, .inr (.inl glk_7)))]) [2, 3, 4, 5, 6, 7, 8, 9, 10, 11, 12, 0, 1] (by decide) rfl
                generalize H1 = H at hP hS ⊢
                exact W.iret (v := (nI n)) hx hb hr (fun t ht9 hW => ⟨⟨_, ((gbk_12, gsk_12, gtk_12, gfk_12, gok_12), glk_7), rfl, rfl, by rw [ht9]; exact hP, va_K.moved hW.alike hK, hD⟩, hS.F ht9⟩) hS.2.2 d_Bm_share_110
              · -- not taken
                exact absurd rfl c_11
            · -- not taken
              exact absurd hh (bz_f hr_8 c_9)
      · -- not taken
        exact absurd ((rK_neg hrs hn (show I < 4 by omega)).mpr hs0) c_3
abbrev b_Bm_makeShare : ByteArray := prog_10_method_42_code
abbrev y_Bm_makeShare : MethodName := ⟨"BallotBoardModel", "makeShare", "(IJJ)I"⟩
abbrev w_Bm_makeShare : List Cond := .code y_Bm_makeShare b_Bm_makeShare 12 (some .int) :: gw
theorem d_Bm_makeShare_0 : decode b_Bm_makeShare 0 = .ok (.aload_n 0, 1) := by decide +kernel
theorem d_Bm_makeShare_1 : decode b_Bm_makeShare 1 = .ok (.iconst 0, 1) := by decide +kernel
theorem d_Bm_makeShare_2 : decode b_Bm_makeShare 2 = .ok (.putfield 131, 3) := by decide +kernel
theorem d_Bm_makeShare_5 : decode b_Bm_makeShare 5 = .ok (.aload_n 0, 1) := by decide +kernel
theorem d_Bm_makeShare_6 : decode b_Bm_makeShare 6 = .ok (.aload_n 0, 1) := by decide +kernel
theorem d_Bm_makeShare_7 : decode b_Bm_makeShare 7 = .ok (.getfield 220, 3) := by decide +kernel
theorem d_Bm_makeShare_10 : decode b_Bm_makeShare 10 = .ok (.ifCond .eq 26, 3) := by decide +kernel
theorem d_Bm_makeShare_13 : decode b_Bm_makeShare 13 = .ok (.iload_n 1, 1) := by decide +kernel
theorem d_Bm_makeShare_14 : decode b_Bm_makeShare 14 = .ok (.iconst 0, 1) := by decide +kernel
theorem d_Bm_makeShare_15 : decode b_Bm_makeShare 15 = .ok (.aload_n 0, 1) := by decide +kernel
theorem d_Bm_makeShare_16 : decode b_Bm_makeShare 16 = .ok (.getfield 211, 3) := by decide +kernel
theorem d_Bm_makeShare_19 : decode b_Bm_makeShare 19 = .ok (.iconst 1, 1) := by decide +kernel
theorem d_Bm_makeShare_20 : decode b_Bm_makeShare 20 = .ok (.isub, 1) := by decide +kernel
theorem d_Bm_makeShare_21 : decode b_Bm_makeShare 21 = .ok (.invokestatic 203, 3) := by decide +kernel
theorem d_Bm_makeShare_24 : decode b_Bm_makeShare 24 = .ok (.ifCond .eq 16, 3) := by decide +kernel
theorem d_Bm_makeShare_27 : decode b_Bm_makeShare 27 = .ok (.aload_n 0, 1) := by decide +kernel
theorem d_Bm_makeShare_28 : decode b_Bm_makeShare 28 = .ok (.getfield 26, 3) := by decide +kernel
theorem d_Bm_makeShare_31 : decode b_Bm_makeShare 31 = .ok (.iload_n 1, 1) := by decide +kernel
theorem d_Bm_makeShare_32 : decode b_Bm_makeShare 32 = .ok (.iaload, 1) := by decide +kernel
theorem d_Bm_makeShare_33 : decode b_Bm_makeShare 33 = .ok (.ifCond .lt 7, 3) := by decide +kernel
theorem d_Bm_makeShare_36 : decode b_Bm_makeShare 36 = .ok (.iconst 1, 1) := by decide +kernel
theorem d_Bm_makeShare_37 : decode b_Bm_makeShare 37 = .ok (.goto 4, 3) := by decide +kernel
theorem d_Bm_makeShare_40 : decode b_Bm_makeShare 40 = .ok (.iconst 0, 1) := by decide +kernel
theorem d_Bm_makeShare_41 : decode b_Bm_makeShare 41 = .ok (.iconst 1, 1) := by decide +kernel
theorem d_Bm_makeShare_42 : decode b_Bm_makeShare 42 = .ok (.invokevirtual 207, 3) := by decide +kernel
theorem d_Bm_makeShare_45 : decode b_Bm_makeShare 45 = .ok (.ifCond .ne 47, 3) := by decide +kernel
theorem d_Bm_makeShare_48 : decode b_Bm_makeShare 48 = .ok (.aload_n 0, 1) := by decide +kernel
theorem d_Bm_makeShare_49 : decode b_Bm_makeShare 49 = .ok (.iload_n 1, 1) := by decide +kernel
theorem d_Bm_makeShare_50 : decode b_Bm_makeShare 50 = .ok (.iconst 0, 1) := by decide +kernel
theorem d_Bm_makeShare_51 : decode b_Bm_makeShare 51 = .ok (.aload_n 0, 1) := by decide +kernel
theorem d_Bm_makeShare_52 : decode b_Bm_makeShare 52 = .ok (.getfield 211, 3) := by decide +kernel
theorem d_Bm_makeShare_55 : decode b_Bm_makeShare 55 = .ok (.iconst 1, 1) := by decide +kernel
theorem d_Bm_makeShare_56 : decode b_Bm_makeShare 56 = .ok (.isub, 1) := by decide +kernel
theorem d_Bm_makeShare_57 : decode b_Bm_makeShare 57 = .ok (.invokestatic 203, 3) := by decide +kernel
theorem d_Bm_makeShare_60 : decode b_Bm_makeShare 60 = .ok (.ifCond .eq 20, 3) := by decide +kernel
theorem d_Bm_makeShare_63 : decode b_Bm_makeShare 63 = .ok (.aload_n 0, 1) := by decide +kernel
theorem d_Bm_makeShare_64 : decode b_Bm_makeShare 64 = .ok (.lload_n 2, 1) := by decide +kernel
theorem d_Bm_makeShare_65 : decode b_Bm_makeShare 65 = .ok (.invokevirtual 244, 3) := by decide +kernel
theorem d_Bm_makeShare_68 : decode b_Bm_makeShare 68 = .ok (.ifCond .eq 12, 3) := by decide +kernel
theorem d_Bm_makeShare_71 : decode b_Bm_makeShare 71 = .ok (.aload_n 0, 1) := by decide +kernel
theorem d_Bm_makeShare_72 : decode b_Bm_makeShare 72 = .ok (.lload 4, 2) := by decide +kernel
theorem d_Bm_makeShare_74 : decode b_Bm_makeShare 74 = .ok (.invokevirtual 244, 3) := by decide +kernel
theorem d_Bm_makeShare_77 : decode b_Bm_makeShare 77 = .ok (.ifCond .ne 7, 3) := by decide +kernel
theorem d_Bm_makeShare_80 : decode b_Bm_makeShare 80 = .ok (.iconst 1, 1) := by decide +kernel
theorem d_Bm_makeShare_81 : decode b_Bm_makeShare 81 = .ok (.goto 4, 3) := by decide +kernel
theorem d_Bm_makeShare_84 : decode b_Bm_makeShare 84 = .ok (.iconst 0, 1) := by decide +kernel
theorem d_Bm_makeShare_85 : decode b_Bm_makeShare 85 = .ok (.iconst 2, 1) := by decide +kernel
theorem d_Bm_makeShare_86 : decode b_Bm_makeShare 86 = .ok (.invokevirtual 207, 3) := by decide +kernel
theorem d_Bm_makeShare_89 : decode b_Bm_makeShare 89 = .ok (.ifCond .eq 5, 3) := by decide +kernel
theorem d_Bm_makeShare_92 : decode b_Bm_makeShare 92 = .ok (.iconst 0, 1) := by decide +kernel
theorem d_Bm_makeShare_93 : decode b_Bm_makeShare 93 = .ok (.ireturn, 1) := by decide +kernel
theorem d_Bm_makeShare_94 : decode b_Bm_makeShare 94 = .ok (.aload_n 0, 1) := by decide +kernel
theorem d_Bm_makeShare_95 : decode b_Bm_makeShare 95 = .ok (.aload_n 0, 1) := by decide +kernel
theorem d_Bm_makeShare_96 : decode b_Bm_makeShare 96 = .ok (.getfield 227, 3) := by decide +kernel
theorem d_Bm_makeShare_99 : decode b_Bm_makeShare 99 = .ok (.lload_n 2, 1) := by decide +kernel
theorem d_Bm_makeShare_100 : decode b_Bm_makeShare 100 = .ok (.invokevirtual 171, 3) := by decide +kernel
theorem d_Bm_makeShare_103 : decode b_Bm_makeShare 103 = .ok (.lstore 6, 2) := by decide +kernel
theorem d_Bm_makeShare_105 : decode b_Bm_makeShare 105 = .ok (.aload_n 0, 1) := by decide +kernel
theorem d_Bm_makeShare_106 : decode b_Bm_makeShare 106 = .ok (.ldc2_w 288, 3) := by decide +kernel
theorem d_Bm_makeShare_109 : decode b_Bm_makeShare 109 = .ok (.iload_n 1, 1) := by decide +kernel
theorem d_Bm_makeShare_110 : decode b_Bm_makeShare 110 = .ok (.i2l, 1) := by decide +kernel
theorem d_Bm_makeShare_111 : decode b_Bm_makeShare 111 = .ok (.aload_n 0, 1) := by decide +kernel
theorem d_Bm_makeShare_112 : decode b_Bm_makeShare 112 = .ok (.getfield 227, 3) := by decide +kernel
theorem d_Bm_makeShare_115 : decode b_Bm_makeShare 115 = .ok (.lload 6, 2) := by decide +kernel
theorem d_Bm_makeShare_117 : decode b_Bm_makeShare 117 = .ok (.aload_n 0, 1) := by decide +kernel
theorem d_Bm_makeShare_118 : decode b_Bm_makeShare 118 = .ok (.aload_n 0, 1) := by decide +kernel
theorem d_Bm_makeShare_119 : decode b_Bm_makeShare 119 = .ok (.getfield 180, 3) := by decide +kernel
theorem d_Bm_makeShare_122 : decode b_Bm_makeShare 122 = .ok (.lload 4, 2) := by decide +kernel
theorem d_Bm_makeShare_124 : decode b_Bm_makeShare 124 = .ok (.invokevirtual 171, 3) := by decide +kernel
theorem d_Bm_makeShare_127 : decode b_Bm_makeShare 127 = .ok (.aload_n 0, 1) := by decide +kernel
theorem d_Bm_makeShare_128 : decode b_Bm_makeShare 128 = .ok (.aload_n 0, 1) := by decide +kernel
theorem d_Bm_makeShare_129 : decode b_Bm_makeShare 129 = .ok (.getfield 227, 3) := by decide +kernel
theorem d_Bm_makeShare_132 : decode b_Bm_makeShare 132 = .ok (.lload 4, 2) := by decide +kernel
theorem d_Bm_makeShare_134 : decode b_Bm_makeShare 134 = .ok (.invokevirtual 171, 3) := by decide +kernel
theorem d_Bm_makeShare_137 : decode b_Bm_makeShare 137 = .ok (.invokevirtual 290, 3) := by decide +kernel
theorem d_Bm_makeShare_140 : decode b_Bm_makeShare 140 = .ok (.lstore 8, 2) := by decide +kernel
theorem d_Bm_makeShare_142 : decode b_Bm_makeShare 142 = .ok (.lload 4, 2) := by decide +kernel
theorem d_Bm_makeShare_144 : decode b_Bm_makeShare 144 = .ok (.lload 8, 2) := by decide +kernel
theorem d_Bm_makeShare_146 : decode b_Bm_makeShare 146 = .ok (.lload_n 2, 1) := by decide +kernel
theorem d_Bm_makeShare_147 : decode b_Bm_makeShare 147 = .ok (.aload_n 0, 1) := by decide +kernel
theorem d_Bm_makeShare_148 : decode b_Bm_makeShare 148 = .ok (.getfield 168, 3) := by decide +kernel
theorem d_Bm_makeShare_151 : decode b_Bm_makeShare 151 = .ok (.invokestatic 156, 3) := by decide +kernel
theorem d_Bm_makeShare_154 : decode b_Bm_makeShare 154 = .ok (.aload_n 0, 1) := by decide +kernel
theorem d_Bm_makeShare_155 : decode b_Bm_makeShare 155 = .ok (.getfield 168, 3) := by decide +kernel
theorem d_Bm_makeShare_158 : decode b_Bm_makeShare 158 = .ok (.invokestatic 152, 3) := by decide +kernel
theorem d_Bm_makeShare_161 : decode b_Bm_makeShare 161 = .ok (.lstore 10, 2) := by decide +kernel
theorem d_Bm_makeShare_163 : decode b_Bm_makeShare 163 = .ok (.aload_n 0, 1) := by decide +kernel
theorem d_Bm_makeShare_164 : decode b_Bm_makeShare 164 = .ok (.aload_n 0, 1) := by decide +kernel
theorem d_Bm_makeShare_165 : decode b_Bm_makeShare 165 = .ok (.iload_n 1, 1) := by decide +kernel
theorem d_Bm_makeShare_166 : decode b_Bm_makeShare 166 = .ok (.lload 6, 2) := by decide +kernel
theorem d_Bm_makeShare_168 : decode b_Bm_makeShare 168 = .ok (.lload 8, 2) := by decide +kernel
theorem d_Bm_makeShare_170 : decode b_Bm_makeShare 170 = .ok (.lload 10, 2) := by decide +kernel
theorem d_Bm_makeShare_172 : decode b_Bm_makeShare 172 = .ok (.aload_n 0, 1) := by decide +kernel
theorem d_Bm_makeShare_173 : decode b_Bm_makeShare 173 = .ok (.getfield 119, 3) := by decide +kernel
theorem d_Bm_makeShare_176 : decode b_Bm_makeShare 176 = .ok (.iload_n 1, 1) := by decide +kernel
theorem d_Bm_makeShare_177 : decode b_Bm_makeShare 177 = .ok (.laload, 1) := by decide +kernel
theorem d_Bm_makeShare_178 : decode b_Bm_makeShare 178 = .ok (.aload_n 0, 1) := by decide +kernel
theorem d_Bm_makeShare_179 : decode b_Bm_makeShare 179 = .ok (.getfield 227, 3) := by decide +kernel
theorem d_Bm_makeShare_182 : decode b_Bm_makeShare 182 = .ok (.invokevirtual 294, 3) := by decide +kernel
theorem d_Bm_makeShare_185 : decode b_Bm_makeShare 185 = .ok (.ifCond .ne 7, 3) := by decide +kernel
theorem d_Bm_makeShare_188 : decode b_Bm_makeShare 188 = .ok (.iconst 1, 1) := by decide +kernel
theorem d_Bm_makeShare_189 : decode b_Bm_makeShare 189 = .ok (.goto 4, 3) := by decide +kernel
theorem d_Bm_makeShare_192 : decode b_Bm_makeShare 192 = .ok (.iconst 0, 1) := by decide +kernel
theorem d_Bm_makeShare_193 : decode b_Bm_makeShare 193 = .ok (.iconst 2, 1) := by decide +kernel
theorem d_Bm_makeShare_194 : decode b_Bm_makeShare 194 = .ok (.invokevirtual 207, 3) := by decide +kernel
theorem d_Bm_makeShare_197 : decode b_Bm_makeShare 197 = .ok (.ifCond .eq 5, 3) := by decide +kernel
theorem d_Bm_makeShare_200 : decode b_Bm_makeShare 200 = .ok (.iconst 0, 1) := by decide +kernel
theorem d_Bm_makeShare_201 : decode b_Bm_makeShare 201 = .ok (.ireturn, 1) := by decide +kernel
theorem d_Bm_makeShare_202 : decode b_Bm_makeShare 202 = .ok (.aload_n 0, 1) := by decide +kernel
theorem d_Bm_makeShare_203 : decode b_Bm_makeShare 203 = .ok (.iload_n 1, 1) := by decide +kernel
theorem d_Bm_makeShare_204 : decode b_Bm_makeShare 204 = .ok (.lload 6, 2) := by decide +kernel
theorem d_Bm_makeShare_206 : decode b_Bm_makeShare 206 = .ok (.lload 8, 2) := by decide +kernel
theorem d_Bm_makeShare_208 : decode b_Bm_makeShare 208 = .ok (.lload 10, 2) := by decide +kernel
theorem d_Bm_makeShare_210 : decode b_Bm_makeShare 210 = .ok (.invokevirtual 298, 3) := by decide +kernel
theorem d_Bm_makeShare_213 : decode b_Bm_makeShare 213 = .ok (.ireturn, 1) := by decide +kernel
set_option maxHeartbeats 8000000 in
set_option maxRecDepth 100000 in
theorem c_Bm_makeShare_1 (l : Launch) (dC : Nat → ClassId) (dI : Nat → Nat → Nat) (cJ cI : ClassId) (sz : Nat) (m0 : Nat) (e0 : Int32) (N n bc P Q G al pa pb : Nat) (cl : Int32) (a0 a1 a2 a3 a4 a5 a6 a7 a8 a9 b0 b1 oc b2 b3 b4 b5 : Nat) (bf sc st sf : Nat → Int32) (tf nf cf sh ky lf : Nat → Int64) (so ko : Nat → Nat) (x1 : Int32) (x2 x3 : Int64) (hN : N ≤ 4) (hgr : 0 < N → gfx P Q G) (hcl : cl = 0 ∨ cl = 1) (hclN : cl = 1 → 0 < N) (hn : n ≤ 154) (hrs : rK 4 n so sf sh) (hky : ∀ i, i < N → cl = 1 → ky i = lN (ko i) ∧ ko i < P ∧ ko i ^ Q % P = 1) (hpa : pa < 2 ^ 61 ∧ (cl = 1 → pa < P)) (hC1 : sC1r N cl so x1) : Met l y_Bm_makeShare w_Bm_makeShare ({ frames := 7, cells := 0, slots := 0, locals := 224 }) (va_Pc [.ref m0, .int x1, .long x2, .long x3] (fun U => U.heap.size = sz ∧ va_P (dC, dI) classes (mo_ws m0 e0 (nI N) (nI n) (nI bc) (lN P) (lN Q) (lN G) (lN al) (lN pa) (lN pb) cl a0 a1 a2 a3 a4 a5 a6 a7 a8 a9 b0 b1 oc b2 b3 b4 b5 ++ (iw_ws a7 cI 256 bf ++ (iw_ws a8 cI 64 sc ++ (iw_ws a9 cI 8 st ++ (iw_ws b0 cI 8 kS ++ (iw_ws b1 cI 64 kR ++ (jw_ws a2 cJ 4 tf ++ (jw_ws a0 cJ 1232 nf ++ (jw_ws a1 cJ 616 cf ++ (iw_ws a5 cI 4 sf ++ (jw_ws b4 cJ 4 sh ++ (jw_ws b2 cJ 4 ky ++ (jw_ws a3 cJ 16 lf))))))))))))) U.heap ∧ va_K (dC, dI) classes [(cJ, .long), (cI, .int)] U ∧ va_D (fun _ => True) (mo_ws m0 e0 (nI N) (nI n) (nI bc) (lN P) (lN Q) (lN G) (lN al) (lN pa) (lN pb) cl a0 a1 a2 a3 a4 a5 a6 a7 a8 a9 b0 b1 oc b2 b3 b4 b5 ++ (iw_ws a7 cI 256 bf ++ (iw_ws a8 cI 64 sc ++ (iw_ws a9 cI 8 st ++ (iw_ws b0 cI 8 kS ++ (iw_ws b1 cI 64 kR ++ (jw_ws a2 cJ 4 tf ++ (jw_ws a0 cJ 1232 nf ++ (jw_ws a1 cJ 616 cf ++ (iw_ws a5 cI 4 sf ++ (jw_ws b4 cJ 4 sh ++ (jw_ws b2 cJ 4 ky ++ (jw_ws a3 cJ 16 lf))))))))))))))) (va_Qi (fun (r : Int32) (_ : Unit) => True) (fun _ t => va_P (dC, dI) classes (mo_ws m0 1 (nI N) (nI n) (nI bc) (lN P) (lN Q) (lN G) (lN al) (lN pa) (lN pb) cl a0 a1 a2 a3 a4 a5 a6 a7 a8 a9 b0 b1 oc b2 b3 b4 b5 ++ (iw_ws a7 cI 256 bf ++ (iw_ws a8 cI 64 sc ++ (iw_ws a9 cI 8 st ++ (iw_ws b0 cI 8 kS ++ (iw_ws b1 cI 64 kR ++ (jw_ws a2 cJ 4 tf ++ (jw_ws a0 cJ 1232 nf ++ (jw_ws a1 cJ 616 cf ++ (iw_ws a5 cI 4 sf ++ (jw_ws b4 cJ 4 sh ++ (jw_ws b2 cJ 4 ky ++ (jw_ws a3 cJ 16 lf))))))))))))) t.heap ∧ va_K (dC, dI) classes [(cJ, .long), (cI, .int)] t ∧ va_D (va_A (mo_ws m0 e0 (nI N) (nI n) (nI bc) (lN P) (lN Q) (lN G) (lN al) (lN pa) (lN pb) cl a0 a1 a2 a3 a4 a5 a6 a7 a8 a9 b0 b1 oc b2 b3 b4 b5 ++ (iw_ws a7 cI 256 bf ++ (iw_ws a8 cI 64 sc ++ (iw_ws a9 cI 8 st ++ (iw_ws b0 cI 8 kS ++ (iw_ws b1 cI 64 kR ++ (jw_ws a2 cJ 4 tf ++ (jw_ws a0 cJ 1232 nf ++ (jw_ws a1 cJ 616 cf ++ (iw_ws a5 cI 4 sf ++ (jw_ws b4 cJ 4 sh ++ (jw_ws b2 cJ 4 ky ++ (jw_ws a3 cJ 16 lf))))))))))))) sz) (mo_ws m0 1 (nI N) (nI n) (nI bc) (lN P) (lN Q) (lN G) (lN al) (lN pa) (lN pb) cl a0 a1 a2 a3 a4 a5 a6 a7 a8 a9 b0 b1 oc b2 b3 b4 b5 ++ (iw_ws a7 cI 256 bf ++ (iw_ws a8 cI 64 sc ++ (iw_ws a9 cI 8 st ++ (iw_ws b0 cI 8 kS ++ (iw_ws b1 cI 64 kR ++ (jw_ws a2 cJ 4 tf ++ (jw_ws a0 cJ 1232 nf ++ (jw_ws a1 cJ 616 cf ++ (iw_ws a5 cI 4 sf ++ (jw_ws b4 cJ 4 sh ++ (jw_ws b2 cJ 4 ky ++ (jw_ws a3 cJ 16 lf)))))))))))))) (va_A (mo_ws m0 e0 (nI N) (nI n) (nI bc) (lN P) (lN Q) (lN G) (lN al) (lN pa) (lN pb) cl a0 a1 a2 a3 a4 a5 a6 a7 a8 a9 b0 b1 oc b2 b3 b4 b5 ++ (iw_ws a7 cI 256 bf ++ (iw_ws a8 cI 64 sc ++ (iw_ws a9 cI 8 st ++ (iw_ws b0 cI 8 kS ++ (iw_ws b1 cI 64 kR ++ (jw_ws a2 cJ 4 tf ++ (jw_ws a0 cJ 1232 nf ++ (jw_ws a1 cJ 616 cf ++ (iw_ws a5 cI 4 sf ++ (jw_ws b4 cJ 4 sh ++ (jw_ws b2 cJ 4 ky ++ (jw_ws a3 cJ 16 lf))))))))))))) sz)) 0 0 (va_A (mo_ws m0 e0 (nI N) (nI n) (nI bc) (lN P) (lN Q) (lN G) (lN al) (lN pa) (lN pb) cl a0 a1 a2 a3 a4 a5 a6 a7 a8 a9 b0 b1 oc b2 b3 b4 b5 ++ (iw_ws a7 cI 256 bf ++ (iw_ws a8 cI 64 sc ++ (iw_ws a9 cI 8 st ++ (iw_ws b0 cI 8 kS ++ (iw_ws b1 cI 64 kR ++ (jw_ws a2 cJ 4 tf ++ (jw_ws a0 cJ 1232 nf ++ (jw_ws a1 cJ 616 cf ++ (iw_ws a5 cI 4 sf ++ (jw_ws b4 cJ 4 sh ++ (jw_ws b2 cJ 4 ky ++ (jw_ws a3 cJ 16 lf))))))))))))) sz) := by
  refine Met.ofW (cc := b_Bm_makeShare) (maxL := 12) (ret := (some .int)) (by decide) rfl ?_
  intro p e s m args below meth c s₁ Bd hml hv
  obtain ⟨rfl, hsz, hP, hK, hD0⟩ := hv
  have hx := Bd.exec
  have hb := Bd.bytes
  have hr := Bd.returns
  have hts := atoms_spec (ws := w_Bm_makeShare) Bd.pre
  have hown : s.vm.findClass "BallotBoardModel" = some m.cls := findClass_of_methodNamed Bd.named
  have hlocks := Bd.notSynchronized
  subst hsz
  have hD := hD0.self (sz := s.heap.size)
  generalize hAe : va_A (mo_ws m0 e0 (nI N) (nI n) (nI bc) (lN P) (lN Q) (lN G) (lN al) (lN pa) (lN pb) cl a0 a1 a2 a3 a4 a5 a6 a7 a8 a9 b0 b1 oc b2 b3 b4 b5 ++ (iw_ws a7 cI 256 bf ++ (iw_ws a8 cI 64 sc ++ (iw_ws a9 cI 8 st ++ (iw_ws b0 cI 8 kS ++ (iw_ws b1 cI 64 kR ++ (jw_ws a2 cJ 4 tf ++ (jw_ws a0 cJ 1232 nf ++ (jw_ws a1 cJ 616 cf ++ (iw_ws a5 cI 4 sf ++ (jw_ws b4 cJ 4 sh ++ (jw_ws b2 cJ 4 ky ++ (jw_ws a3 cJ 16 lf))))))))))))) s.heap.size = A at hD ⊢
  have hA : ∀ q : Nat, s.heap.size ≤ q → A q := fun q h => by rw [← hAe]; exact Or.inr h
  have hS : va_S A s.heap s.heap [] := va_S.rf
  have hl := lv_entry ([.ref m0, .int x1, .long x2, .long x3]) (n := 12) (Nat.le_of_ble_eq_true rfl)
  rw [lg_entry_eq]
  generalize (lg_sl ([.ref m0, .int x1, .long x2, .long x3]) ++ List.replicate (12 - (lg_sl ([.ref m0, .int x1, .long x2, .long x3])).length) Slot.unset).toArray = ls at hl ⊢
  have hl : lv_has ls 12 [(0, .ref m0), (1, .int x1), (2, .long x2), (4, .long x3)] := hl
  refine lv_aload_n hx hb d_Bm_makeShare_0 rfl (lv_at hl 0 rfl) ?_
  refine lv_iconst (v := 0) hx hb d_Bm_makeShare_1 (by decide) ?_
  refine va_put (D := (dC, dI)) (ci := 8) (v := .int 0) (ty := .int) (C := "BallotBoardModel") (T := F_Bm) (N := 28) hx hb hts (fun w9 h9 => List.mem_cons_of_mem _ (i_Bm w9 h9)) t_Bm t_Bm_ok n_Bm hown hK hP hD hS 0 rfl rfl 0 (by decide) (hts _ (List.mem_cons_of_mem _ gk_919)) (fun _ h9 => h9) rfl (by decide +kernel) rfl rfl (Nat.le_of_ble_eq_true rfl) d_Bm_makeShare_2 (fun H locs hP hD hS => ?_)
  have hP : va_P (dC, dI) classes [(m0, .inr (8, [.int 0, .int (nI N), .int (nI n), .int (nI bc), .long (lN P), .long (lN Q), .long (lN G), .long (lN al), .long (lN pa), .long (lN pb), .int cl, .ref a0, .ref a1, .ref a2, .ref a3, .ref a4, .ref a5, .ref a6, .ref a7, .ref a8, .ref a9, .ref b0, .ref b1, .int (nI oc), .ref b2, .ref b3, .ref b4, .ref b5])), (a7, .inl (cI, 256, .inl bf)), (a8, .inl (cI, 64, .inl sc)), (a9, .inl (cI, 8, .inl st)), (b0, .inl (cI, 8, .inl kS)), (b1, .inl (cI, 64, .inl kR)), (a2, .inl (cJ, 4, .inr (.inl tf))), (a0, .inl (cJ, 1232, .inr (.inl nf))), (a1, .inl (cJ, 616, .inr (.inl cf))), (a5, .inl (cI, 4, .inl sf)), (b4, .inl (cJ, 4, .inr (.inl sh))), (b2, .inl (cJ, 4, .inr (.inl ky))), (a3, .inl (cJ, 16, .inr (.inl lf)))] H := hP
  have hD : va_D A [(m0, .inr (8, [.int 0, .int (nI N), .int (nI n), .int (nI bc), .long (lN P), .long (lN Q), .long (lN G), .long (lN al), .long (lN pa), .long (lN pb), .int cl, .ref a0, .ref a1, .ref a2, .ref a3, .ref a4, .ref a5, .ref a6, .ref a7, .ref a8, .ref a9, .ref b0, .ref b1, .int (nI oc), .ref b2, .ref b3, .ref b4, .ref b5])), (a7, .inl (cI, 256, .inl bf)), (a8, .inl (cI, 64, .inl sc)), (a9, .inl (cI, 8, .inl st)), (b0, .inl (cI, 8, .inl kS)), (b1, .inl (cI, 64, .inl kR)), (a2, .inl (cJ, 4, .inr (.inl tf))), (a0, .inl (cJ, 1232, .inr (.inl nf))), (a1, .inl (cJ, 616, .inr (.inl cf))), (a5, .inl (cI, 4, .inl sf)), (b4, .inl (cJ, 4, .inr (.inl sh))), (b2, .inl (cJ, 4, .inr (.inl ky))), (a3, .inl (cJ, 16, .inr (.inl lf)))] := hD
  refine lv_aload_n hx hb d_Bm_makeShare_5 rfl (lv_at hl 0 rfl) ?_
  refine lv_aload_n hx hb d_Bm_makeShare_6 rfl (lv_at hl 0 rfl) ?_
  refine va_get (D := (dC, dI)) (ci := 8) (v := .int cl) (C := "BallotBoardModel") (T := F_Bm) (N := 28) hx hb hts (fun w9 h9 => List.mem_cons_of_mem _ (i_Bm w9 h9)) hown hK hP 0 rfl rfl 10 (by decide) (hts _ (List.mem_cons_of_mem _ gk_929)) (fun _ h9 => h9) rfl d_Bm_makeShare_7 ?_
  refine lv_if_eq (tgt := 36) hx hb d_Bm_makeShare_10 (by decide) (fun c_1 => ?_) (fun c_1 => ?_)
  · -- taken
    have hcl0 : cl = 0 := c_1
    refine lv_iconst (v := 1) hx hb d_Bm_makeShare_36 (by decide) ?_
    refine lv_goto (tgt := 41) hx hb d_Bm_makeShare_37 (by decide) ?_
    refine lv_iconst (v := 1) hx hb d_Bm_makeShare_41 (by decide) ?_
    have hPc := hP.sub (ws' := (mo_ws m0 0 (nI N) (nI n) (nI bc) (lN P) (lN Q) (lN G) (lN al) (lN pa) (lN pb) cl a0 a1 a2 a3 a4 a5 a6 a7 a8 a9 b0 b1 oc b2 b3 b4 b5)) [0] rfl
    have hDc := hD.sub (ws' := (mo_ws m0 0 (nI N) (nI n) (nI bc) (lN P) (lN Q) (lN G) (lN al) (lN pa) (lN pb) cl a0 a1 a2 a3 a4 a5 a6 a7 a8 a9 b0 b1 oc b2 b3 b4 b5)) [0] (by decide) rfl
    have hKc := hK.sub (tys' := [(cJ, .long), (cI, .int)]) [0, 1] rfl
    have hFc := va_free (wc := (mo_ws m0 0 (nI N) (nI n) (nI bc) (lN P) (lN Q) (lN G) (lN al) (lN pa) (lN pb) cl a0 a1 a2 a3 a4 a5 a6 a7 a8 a9 b0 b1 oc b2 b3 b4 b5)) hD hS hA [0] rfl
    refine va_calli (va_runV (As := [.int 1, .int 1]) (rest := []) ⟨hx, hb, hml, hown, hts⟩ (c_Bm_fails_1 l dC dI cJ cI H.size m0 (nI N) (nI n) (nI bc) (lN P) (lN Q) (lN G) (lN al) (lN pa) (lN pb) cl a0 a1 a2 a3 a4 a5 a6 a7 a8 a9 b0 b1 oc b2 b3 b4 b5 1 (by decide)) (cwV 2 hts (gw_V gk_1030 gk_1032 gp_27 gk_7 gk_1033) rfl rfl rfl (by decide +kernel) ⟨Nat.le_of_ble_eq_true rfl, Nat.le_of_ble_eq_true rfl⟩) ⟨fun a U g mk q => by obtain ⟨q0, q1, qP, qK, qD⟩ := q; exact ⟨q0, q1, qP, va_K.moved (u := U) (U := U.calling g mk a) (Vm.Alike.refl U.vm) qK, qD⟩, va_recv hK hP (ci := 8) (q0 := 0) rfl rfl, fun U hU hW => ⟨rfl, by rw [hU], by rw [hU]; exact hPc, va_K.moved hW.alike hKc, hDc.weaken (fun _ _ _ _ => trivial)⟩⟩ rfl rfl hl.1 rfl (lv_room (Nat.le_of_ble_eq_true rfl)) d_Bm_makeShare_42 ⟨Nat.le_of_ble_eq_true rfl, Nat.le_of_ble_eq_true rfl⟩) hS (fun q _ h => hFc q h) hFc (fun r_2 u9 t9 H1 locs ht hvm hw hB hz1 hk1 hS => ?_)
    have hw : r_2 = 1 := hw
    subst hw
    obtain ⟨hP1, hK1, hD1⟩ := hB
    rw [ht] at hP1
    obtain ⟨hP, hD⟩ := va_join (wr := [(a7, .inl (cI, 256, .inl bf)), (a8, .inl (cI, 64, .inl sc)), (a9, .inl (cI, 8, .inl st)), (b0, .inl (cI, 8, .inl kS)), (b1, .inl (cI, 64, .inl kR)), (a2, .inl (cJ, 4, .inr (.inl tf))), (a0, .inl (cJ, 1232, .inr (.inl nf))), (a1, .inl (cJ, 616, .inr (.inl cf))), (a5, .inl (cI, 4, .inl sf)), (b4, .inl (cJ, 4, .inr (.inl sh))), (b2, .inl (cJ, 4, .inr (.inl ky))), (a3, .inl (cJ, 16, .inr (.inl lf)))]) (w1 := [(m0, .inr (8, [.int 1, .int (nI N), .int (nI n), .int (nI bc), .long (lN P), .long (lN Q), .long (lN G), .long (lN al), .long (lN pa), .long (lN pb), .int cl, .ref a0, .ref a1, .ref a2, .ref a3, .ref a4, .ref a5, .ref a6, .ref a7, .ref a8, .ref a9, .ref b0, .ref b1, .int (nI oc), .ref b2, .ref b3, .ref b4, .ref b5]))]) hP hD [0] [1, 2, 3, 4, 5, 6, 7, 8, 9, 10, 11, 12] rfl rfl (by decide) (by decide) hk1 hFc hP1 hD1
    have hP := hP.sub (ws' := [(m0, .inr (8, [.int 1, .int (nI N), .int (nI n), .int (nI bc), .long (lN P), .long (lN Q), .long (lN G), .long (lN al), .long (lN pa), .long (lN pb), .int cl, .ref a0, .ref a1, .ref a2, .ref a3, .ref a4, .ref a5, .ref a6, .ref a7, .ref a8, .ref a9, .ref b0, .ref b1, .int (nI oc), .ref b2, .ref b3, .ref b4, .ref b5])), (a7, .inl (cI, 256, .inl bf)), (a8, .inl (cI, 64, .inl sc)), (a9, .inl (cI, 8, .inl st)), (b0, .inl (cI, 8, .inl kS)), (b1, .inl (cI, 64, .inl kR)), (a2, .inl (cJ, 4, .inr (.inl tf))), (a0, .inl (cJ, 1232, .inr (.inl nf))), (a1, .inl (cJ, 616, .inr (.inl cf))), (a5, .inl (cI, 4, .inl sf)), (b4, .inl (cJ, 4, .inr (.inl sh))), (b2, .inl (cJ, 4, .inr (.inl ky))), (a3, .inl (cJ, 16, .inr (.inl lf)))]) [12, 0, 1, 2, 3, 4, 5, 6, 7, 8, 9, 10, 11] rfl
    have hD := hD.sub (ws' := [(m0, .inr (8, [.int 1, .int (nI N), .int (nI n), .int (nI bc), .long (lN P), .long (lN Q), .long (lN G), .long (lN al), .long (lN pa), .long (lN pb), .int cl, .ref a0, .ref a1, .ref a2, .ref a3, .ref a4, .ref a5, .ref a6, .ref a7, .ref a8, .ref a9, .ref b0, .ref b1, .int (nI oc), .ref b2, .ref b3, .ref b4, .ref b5])), (a7, .inl (cI, 256, .inl bf)), (a8, .inl (cI, 64, .inl sc)), (a9, .inl (cI, 8, .inl st)), (b0, .inl (cI, 8, .inl kS)), (b1, .inl (cI, 64, .inl kR)), (a2, .inl (cJ, 4, .inr (.inl tf))), (a0, .inl (cJ, 1232, .inr (.inl nf))), (a1, .inl (cJ, 616, .inr (.inl cf))), (a5, .inl (cI, 4, .inl sf)), (b4, .inl (cJ, 4, .inr (.inl sh))), (b2, .inl (cJ, 4, .inr (.inl ky))), (a3, .inl (cJ, 16, .inr (.inl lf)))]) [12, 0, 1, 2, 3, 4, 5, 6, 7, 8, 9, 10, 11] (by decide) rfl
    generalize H1 = H at hP hS ⊢
    refine lv_if_ne (tgt := 92) hx hb d_Bm_makeShare_45 (by decide) (fun c_3 => ?_) (fun c_3 => ?_)
    · -- taken
      refine lv_iconst (v := 0) hx hb d_Bm_makeShare_92 (by decide) ?_
      exact W.iret (v := 0) hx hb hr (fun t ht9 hW => ⟨⟨_, (), rfl, trivial, by rw [ht9]; exact hP, va_K.moved hW.alike hK, hD⟩, hS.F ht9⟩) hS.2.2 d_Bm_makeShare_93
    · -- not taken
      exact absurd c_3 (by decide)
  · -- not taken
    have hcl1 : cl = 1 := hcl.resolve_left c_1
    have hN0 := hclN hcl1
    obtain ⟨hPQ, h61F, hQ3, hG2, hGP, hGQ⟩ := hgr hN0
    have hpaP := hpa.2 hcl1
    refine lv_iload_n hx hb d_Bm_makeShare_13 rfl (lv_at hl 1 rfl) ?_
    refine lv_iconst (v := 0) hx hb d_Bm_makeShare_14 (by decide) ?_
    refine lv_aload_n hx hb d_Bm_makeShare_15 rfl (lv_at hl 0 rfl) ?_
    refine va_get (D := (dC, dI)) (ci := 8) (v := .int (nI N)) (C := "BallotBoardModel") (T := F_Bm) (N := 28) hx hb hts (fun w9 h9 => List.mem_cons_of_mem _ (i_Bm w9 h9)) hown hK hP 0 rfl rfl 1 (by decide) (hts _ (List.mem_cons_of_mem _ gk_920)) (fun _ h9 => h9) rfl d_Bm_makeShare_16 ?_
    refine lv_iconst (v := 1) hx hb d_Bm_makeShare_19 (by decide) ?_
    refine lv_isub hx hb d_Bm_makeShare_20 ?_
    rw [show ((nI N) - 1 : Int32) = (nI (N - 1)) from nI_subI (b := 1) (by omega) rfl]
    refine va_calli (va_runS (As := [.int x1, .int 0, .int (nI (N - 1))]) (rest := [.ref m0]) ⟨hx, hb, hml, hown, hts⟩ (c_Bm_in l H x1 0 (nI (N - 1))) (cwS 3 hts (gw_S gk_1027 gk_1028 gk_7 gk_1029) rfl rfl rfl (by decide +kernel) ⟨Nat.le_of_ble_eq_true rfl, Nat.le_of_ble_eq_true rfl⟩) ⟨fun a U g mk q => q, fun U hU hW => ⟨rfl, hU⟩⟩ rfl rfl hl.1 rfl (lv_room (Nat.le_of_ble_eq_true rfl)) d_Bm_makeShare_21 ⟨Nat.le_of_ble_eq_true rfl, Nat.le_of_ble_eq_true rfl⟩) hS (fun q _ h => h.elim) (fun q h => h.elim) (fun r21 u9 t9 H1 locs ht hvm hw hB hz1 hk1 hS => ?_)
    obtain rfl : H = H1 := hB.symm.trans ht
    have h21 : bz r21 (inN x1 N) := bz_in hN0 (by omega) rfl hw
    refine lv_if_eq (tgt := 40) hx hb d_Bm_makeShare_24 (by decide) (fun c_4 => ?_) (fun c_4 => ?_)
    · -- taken
      exfalso
      have hni := bz_f h21 c_4
      rcases hC1 with h | ⟨I, e9, hI9, _⟩
      · exact h hcl1
      · exact hni ⟨I, e9, hI9⟩
    · -- not taken
      obtain ⟨I, rfl, hI⟩ := bz_t h21 c_4
      refine lv_aload_n hx hb d_Bm_makeShare_27 rfl (lv_at hl 0 rfl) ?_
      refine va_get (D := (dC, dI)) (ci := 8) (v := .ref a5) (C := "BallotBoardModel") (T := F_Bm) (N := 28) hx hb hts (fun w9 h9 => List.mem_cons_of_mem _ (i_Bm w9 h9)) hown hK hP 0 rfl rfl 16 (by decide) (hts _ (List.mem_cons_of_mem _ gk_935)) (fun _ h9 => h9) rfl d_Bm_makeShare_28 ?_
      refine lv_iload_n hx hb d_Bm_makeShare_31 rfl (lv_at hl 1 rfl) ?_
      refine va_iald hx hb hK hP 9 1 rfl rfl (vp_in_nI (by omega) (by omega)) d_Bm_makeShare_32 ?_
      rw [show (sf (nI I : Int32).toNatClampNeg : Int32) = sf I from by rw [nI_clamp (by omega)]]
      refine lv_if_lt (tgt := 40) hx hb d_Bm_makeShare_33 (by decide) (fun c_5 => ?_) (fun c_5 => ?_)
      · -- taken
        exfalso
        have hk9 := (rK_neg hrs hn (show I < 4 by omega)).mp c_5
        rcases hC1 with h | ⟨J, e9, hJ9, hk8⟩
        · exact h hcl1
        · have e8 := nI_inj (by omega) (by omega) e9
          subst e8
          exact hk8 hk9
      · -- not taken
        have hk9 := c_5
        refine lv_iconst (v := 1) hx hb d_Bm_makeShare_36 (by decide) ?_
        refine lv_goto (tgt := 41) hx hb d_Bm_makeShare_37 (by decide) ?_
        refine lv_iconst (v := 1) hx hb d_Bm_makeShare_41 (by decide) ?_
        have hPc := hP.sub (ws' := (mo_ws m0 0 (nI N) (nI n) (nI bc) (lN P) (lN Q) (lN G) (lN al) (lN pa) (lN pb) cl a0 a1 a2 a3 a4 a5 a6 a7 a8 a9 b0 b1 oc b2 b3 b4 b5)) [0] rfl
        have hDc := hD.sub (ws' := (mo_ws m0 0 (nI N) (nI n) (nI bc) (lN P) (lN Q) (lN G) (lN al) (lN pa) (lN pb) cl a0 a1 a2 a3 a4 a5 a6 a7 a8 a9 b0 b1 oc b2 b3 b4 b5)) [0] (by decide) rfl
        have hKc := hK.sub (tys' := [(cJ, .long), (cI, .int)]) [0, 1] rfl
        have hFc := va_free (wc := (mo_ws m0 0 (nI N) (nI n) (nI bc) (lN P) (lN Q) (lN G) (lN al) (lN pa) (lN pb) cl a0 a1 a2 a3 a4 a5 a6 a7 a8 a9 b0 b1 oc b2 b3 b4 b5)) hD hS hA [0] rfl
        refine va_calli (va_runV (As := [.int 1, .int 1]) (rest := []) ⟨hx, hb, hml, hown, hts⟩ (c_Bm_fails_1 l dC dI cJ cI H.size m0 (nI N) (nI n) (nI bc) (lN P) (lN Q) (lN G) (lN al) (lN pa) (lN pb) cl a0 a1 a2 a3 a4 a5 a6 a7 a8 a9 b0 b1 oc b2 b3 b4 b5 1 (by decide)) (cwV 2 hts (gw_V gk_1030 gk_1032 gp_27 gk_7 gk_1033) rfl rfl rfl (by decide +kernel) ⟨Nat.le_of_ble_eq_true rfl, Nat.le_of_ble_eq_true rfl⟩) ⟨fun a U g mk q => by obtain ⟨q0, q1, qP, qK, qD⟩ := q; exact ⟨q0, q1, qP, va_K.moved (u := U) (U := U.calling g mk a) (Vm.Alike.refl U.vm) qK, qD⟩, va_recv hK hP (ci := 8) (q0 := 0) rfl rfl, fun U hU hW => ⟨rfl, by rw [hU], by rw [hU]; exact hPc, va_K.moved hW.alike hKc, hDc.weaken (fun _ _ _ _ => trivial)⟩⟩ rfl rfl hl.1 rfl (lv_room (Nat.le_of_ble_eq_true rfl)) d_Bm_makeShare_42 ⟨Nat.le_of_ble_eq_true rfl, Nat.le_of_ble_eq_true rfl⟩) hS (fun q _ h => hFc q h) hFc (fun r_6 u9 t9 H1 locs ht hvm hw hB hz1 hk1 hS => ?_)
        have hw : r_6 = 1 := hw
        subst hw
        obtain ⟨hP1, hK1, hD1⟩ := hB
        rw [ht] at hP1
        obtain ⟨hP, hD⟩ := va_join (wr := [(a7, .inl (cI, 256, .inl bf)), (a8, .inl (cI, 64, .inl sc)), (a9, .inl (cI, 8, .inl st)), (b0, .inl (cI, 8, .inl kS)), (b1, .inl (cI, 64, .inl kR)), (a2, .inl (cJ, 4, .inr (.inl tf))), (a0, .inl (cJ, 1232, .inr (.inl nf))), (a1, .inl (cJ, 616, .inr (.inl cf))), (a5, .inl (cI, 4, .inl sf)), (b4, .inl (cJ, 4, .inr (.inl sh))), (b2, .inl (cJ, 4, .inr (.inl ky))), (a3, .inl (cJ, 16, .inr (.inl lf)))]) (w1 := [(m0, .inr (8, [.int 1, .int (nI N), .int (nI n), .int (nI bc), .long (lN P), .long (lN Q), .long (lN G), .long (lN al), .long (lN pa), .long (lN pb), .int cl, .ref a0, .ref a1, .ref a2, .ref a3, .ref a4, .ref a5, .ref a6, .ref a7, .ref a8, .ref a9, .ref b0, .ref b1, .int (nI oc), .ref b2, .ref b3, .ref b4, .ref b5]))]) hP hD [0] [1, 2, 3, 4, 5, 6, 7, 8, 9, 10, 11, 12] rfl rfl (by decide) (by decide) hk1 hFc hP1 hD1
        have hP := hP.sub (ws' := [(m0, .inr (8, [.int 1, .int (nI N), .int (nI n), .int (nI bc), .long (lN P), .long (lN Q), .long (lN G), .long (lN al), .long (lN pa), .long (lN pb), .int cl, .ref a0, .ref a1, .ref a2, .ref a3, .ref a4, .ref a5, .ref a6, .ref a7, .ref a8, .ref a9, .ref b0, .ref b1, .int (nI oc), .ref b2, .ref b3, .ref b4, .ref b5])), (a7, .inl (cI, 256, .inl bf)), (a8, .inl (cI, 64, .inl sc)), (a9, .inl (cI, 8, .inl st)), (b0, .inl (cI, 8, .inl kS)), (b1, .inl (cI, 64, .inl kR)), (a2, .inl (cJ, 4, .inr (.inl tf))), (a0, .inl (cJ, 1232, .inr (.inl nf))), (a1, .inl (cJ, 616, .inr (.inl cf))), (a5, .inl (cI, 4, .inl sf)), (b4, .inl (cJ, 4, .inr (.inl sh))), (b2, .inl (cJ, 4, .inr (.inl ky))), (a3, .inl (cJ, 16, .inr (.inl lf)))]) [12, 0, 1, 2, 3, 4, 5, 6, 7, 8, 9, 10, 11] rfl
        have hD := hD.sub (ws' := [(m0, .inr (8, [.int 1, .int (nI N), .int (nI n), .int (nI bc), .long (lN P), .long (lN Q), .long (lN G), .long (lN al), .long (lN pa), .long (lN pb), .int cl, .ref a0, .ref a1, .ref a2, .ref a3, .ref a4, .ref a5, .ref a6, .ref a7, .ref a8, .ref a9, .ref b0, .ref b1, .int (nI oc), .ref b2, .ref b3, .ref b4, .ref b5])), (a7, .inl (cI, 256, .inl bf)), (a8, .inl (cI, 64, .inl sc)), (a9, .inl (cI, 8, .inl st)), (b0, .inl (cI, 8, .inl kS)), (b1, .inl (cI, 64, .inl kR)), (a2, .inl (cJ, 4, .inr (.inl tf))), (a0, .inl (cJ, 1232, .inr (.inl nf))), (a1, .inl (cJ, 616, .inr (.inl cf))), (a5, .inl (cI, 4, .inl sf)), (b4, .inl (cJ, 4, .inr (.inl sh))), (b2, .inl (cJ, 4, .inr (.inl ky))), (a3, .inl (cJ, 16, .inr (.inl lf)))]) [12, 0, 1, 2, 3, 4, 5, 6, 7, 8, 9, 10, 11] (by decide) rfl
        generalize H1 = H at hP hS ⊢
        refine lv_if_ne (tgt := 92) hx hb d_Bm_makeShare_45 (by decide) (fun c_7 => ?_) (fun c_7 => ?_)
        · -- taken
          refine lv_iconst (v := 0) hx hb d_Bm_makeShare_92 (by decide) ?_
          exact W.iret (v := 0) hx hb hr (fun t ht9 hW => ⟨⟨_, (), rfl, trivial, by rw [ht9]; exact hP, va_K.moved hW.alike hK, hD⟩, hS.F ht9⟩) hS.2.2 d_Bm_makeShare_93
        · -- not taken
          exact absurd c_7 (by decide)
set_option maxHeartbeats 8000000 in
set_option maxRecDepth 100000 in
theorem c_Bm_makeShare_2 (l : Launch) (dC : Nat → ClassId) (dI : Nat → Nat → Nat) (cJ cI : ClassId) (sz : Nat) (m0 : Nat) (e0 : Int32) (N n bc P Q G al pa pb : Nat) (cl : Int32) (a0 a1 a2 a3 a4 a5 a6 a7 a8 a9 b0 b1 oc b2 b3 b4 b5 : Nat) (bf sc st sf : Nat → Int32) (tf nf cf sh ky lf : Nat → Int64) (so ko : Nat → Nat) (x1 : Int32) (x2 x3 : Int64) (hN : N ≤ 4) (hgr : 0 < N → gfx P Q G) (hcl : cl = 0 ∨ cl = 1) (hclN : cl = 1 → 0 < N) (hn : n ≤ 154) (hrs : rK 4 n so sf sh) (hky : ∀ i, i < N → cl = 1 → ky i = lN (ko i) ∧ ko i < P ∧ ko i ^ Q % P = 1) (hpa : pa < 2 ^ 61 ∧ (cl = 1 → pa < P)) (hC1 : ¬ sC1r N cl so x1) (hC2 : kC2r Q N x1 x2 x3) : Met l y_Bm_makeShare w_Bm_makeShare ({ frames := 7, cells := 0, slots := 0, locals := 224 }) (va_Pc [.ref m0, .int x1, .long x2, .long x3] (fun U => U.heap.size = sz ∧ va_P (dC, dI) classes (mo_ws m0 e0 (nI N) (nI n) (nI bc) (lN P) (lN Q) (lN G) (lN al) (lN pa) (lN pb) cl a0 a1 a2 a3 a4 a5 a6 a7 a8 a9 b0 b1 oc b2 b3 b4 b5 ++ (iw_ws a7 cI 256 bf ++ (iw_ws a8 cI 64 sc ++ (iw_ws a9 cI 8 st ++ (iw_ws b0 cI 8 kS ++ (iw_ws b1 cI 64 kR ++ (jw_ws a2 cJ 4 tf ++ (jw_ws a0 cJ 1232 nf ++ (jw_ws a1 cJ 616 cf ++ (iw_ws a5 cI 4 sf ++ (jw_ws b4 cJ 4 sh ++ (jw_ws b2 cJ 4 ky ++ (jw_ws a3 cJ 16 lf))))))))))))) U.heap ∧ va_K (dC, dI) classes [(cJ, .long), (cI, .int)] U ∧ va_D (fun _ => True) (mo_ws m0 e0 (nI N) (nI n) (nI bc) (lN P) (lN Q) (lN G) (lN al) (lN pa) (lN pb) cl a0 a1 a2 a3 a4 a5 a6 a7 a8 a9 b0 b1 oc b2 b3 b4 b5 ++ (iw_ws a7 cI 256 bf ++ (iw_ws a8 cI 64 sc ++ (iw_ws a9 cI 8 st ++ (iw_ws b0 cI 8 kS ++ (iw_ws b1 cI 64 kR ++ (jw_ws a2 cJ 4 tf ++ (jw_ws a0 cJ 1232 nf ++ (jw_ws a1 cJ 616 cf ++ (iw_ws a5 cI 4 sf ++ (jw_ws b4 cJ 4 sh ++ (jw_ws b2 cJ 4 ky ++ (jw_ws a3 cJ 16 lf))))))))))))))) (va_Qi (fun (r : Int32) (_ : Unit) => True) (fun _ t => va_P (dC, dI) classes (mo_ws m0 2 (nI N) (nI n) (nI bc) (lN P) (lN Q) (lN G) (lN al) (lN pa) (lN pb) cl a0 a1 a2 a3 a4 a5 a6 a7 a8 a9 b0 b1 oc b2 b3 b4 b5 ++ (iw_ws a7 cI 256 bf ++ (iw_ws a8 cI 64 sc ++ (iw_ws a9 cI 8 st ++ (iw_ws b0 cI 8 kS ++ (iw_ws b1 cI 64 kR ++ (jw_ws a2 cJ 4 tf ++ (jw_ws a0 cJ 1232 nf ++ (jw_ws a1 cJ 616 cf ++ (iw_ws a5 cI 4 sf ++ (jw_ws b4 cJ 4 sh ++ (jw_ws b2 cJ 4 ky ++ (jw_ws a3 cJ 16 lf))))))))))))) t.heap ∧ va_K (dC, dI) classes [(cJ, .long), (cI, .int)] t ∧ va_D (va_A (mo_ws m0 e0 (nI N) (nI n) (nI bc) (lN P) (lN Q) (lN G) (lN al) (lN pa) (lN pb) cl a0 a1 a2 a3 a4 a5 a6 a7 a8 a9 b0 b1 oc b2 b3 b4 b5 ++ (iw_ws a7 cI 256 bf ++ (iw_ws a8 cI 64 sc ++ (iw_ws a9 cI 8 st ++ (iw_ws b0 cI 8 kS ++ (iw_ws b1 cI 64 kR ++ (jw_ws a2 cJ 4 tf ++ (jw_ws a0 cJ 1232 nf ++ (jw_ws a1 cJ 616 cf ++ (iw_ws a5 cI 4 sf ++ (jw_ws b4 cJ 4 sh ++ (jw_ws b2 cJ 4 ky ++ (jw_ws a3 cJ 16 lf))))))))))))) sz) (mo_ws m0 2 (nI N) (nI n) (nI bc) (lN P) (lN Q) (lN G) (lN al) (lN pa) (lN pb) cl a0 a1 a2 a3 a4 a5 a6 a7 a8 a9 b0 b1 oc b2 b3 b4 b5 ++ (iw_ws a7 cI 256 bf ++ (iw_ws a8 cI 64 sc ++ (iw_ws a9 cI 8 st ++ (iw_ws b0 cI 8 kS ++ (iw_ws b1 cI 64 kR ++ (jw_ws a2 cJ 4 tf ++ (jw_ws a0 cJ 1232 nf ++ (jw_ws a1 cJ 616 cf ++ (iw_ws a5 cI 4 sf ++ (jw_ws b4 cJ 4 sh ++ (jw_ws b2 cJ 4 ky ++ (jw_ws a3 cJ 16 lf)))))))))))))) (va_A (mo_ws m0 e0 (nI N) (nI n) (nI bc) (lN P) (lN Q) (lN G) (lN al) (lN pa) (lN pb) cl a0 a1 a2 a3 a4 a5 a6 a7 a8 a9 b0 b1 oc b2 b3 b4 b5 ++ (iw_ws a7 cI 256 bf ++ (iw_ws a8 cI 64 sc ++ (iw_ws a9 cI 8 st ++ (iw_ws b0 cI 8 kS ++ (iw_ws b1 cI 64 kR ++ (jw_ws a2 cJ 4 tf ++ (jw_ws a0 cJ 1232 nf ++ (jw_ws a1 cJ 616 cf ++ (iw_ws a5 cI 4 sf ++ (jw_ws b4 cJ 4 sh ++ (jw_ws b2 cJ 4 ky ++ (jw_ws a3 cJ 16 lf))))))))))))) sz)) 0 0 (va_A (mo_ws m0 e0 (nI N) (nI n) (nI bc) (lN P) (lN Q) (lN G) (lN al) (lN pa) (lN pb) cl a0 a1 a2 a3 a4 a5 a6 a7 a8 a9 b0 b1 oc b2 b3 b4 b5 ++ (iw_ws a7 cI 256 bf ++ (iw_ws a8 cI 64 sc ++ (iw_ws a9 cI 8 st ++ (iw_ws b0 cI 8 kS ++ (iw_ws b1 cI 64 kR ++ (jw_ws a2 cJ 4 tf ++ (jw_ws a0 cJ 1232 nf ++ (jw_ws a1 cJ 616 cf ++ (iw_ws a5 cI 4 sf ++ (jw_ws b4 cJ 4 sh ++ (jw_ws b2 cJ 4 ky ++ (jw_ws a3 cJ 16 lf))))))))))))) sz) := by
  refine Met.ofW (cc := b_Bm_makeShare) (maxL := 12) (ret := (some .int)) (by decide) rfl ?_
  intro p e s m args below meth c s₁ Bd hml hv
  obtain ⟨rfl, hsz, hP, hK, hD0⟩ := hv
  have hx := Bd.exec
  have hb := Bd.bytes
  have hr := Bd.returns
  have hts := atoms_spec (ws := w_Bm_makeShare) Bd.pre
  have hown : s.vm.findClass "BallotBoardModel" = some m.cls := findClass_of_methodNamed Bd.named
  have hlocks := Bd.notSynchronized
  subst hsz
  have hD := hD0.self (sz := s.heap.size)
  generalize hAe : va_A (mo_ws m0 e0 (nI N) (nI n) (nI bc) (lN P) (lN Q) (lN G) (lN al) (lN pa) (lN pb) cl a0 a1 a2 a3 a4 a5 a6 a7 a8 a9 b0 b1 oc b2 b3 b4 b5 ++ (iw_ws a7 cI 256 bf ++ (iw_ws a8 cI 64 sc ++ (iw_ws a9 cI 8 st ++ (iw_ws b0 cI 8 kS ++ (iw_ws b1 cI 64 kR ++ (jw_ws a2 cJ 4 tf ++ (jw_ws a0 cJ 1232 nf ++ (jw_ws a1 cJ 616 cf ++ (iw_ws a5 cI 4 sf ++ (jw_ws b4 cJ 4 sh ++ (jw_ws b2 cJ 4 ky ++ (jw_ws a3 cJ 16 lf))))))))))))) s.heap.size = A at hD ⊢
  have hA : ∀ q : Nat, s.heap.size ≤ q → A q := fun q h => by rw [← hAe]; exact Or.inr h
  have hS : va_S A s.heap s.heap [] := va_S.rf
  have hl := lv_entry ([.ref m0, .int x1, .long x2, .long x3]) (n := 12) (Nat.le_of_ble_eq_true rfl)
  rw [lg_entry_eq]
  generalize (lg_sl ([.ref m0, .int x1, .long x2, .long x3]) ++ List.replicate (12 - (lg_sl ([.ref m0, .int x1, .long x2, .long x3])).length) Slot.unset).toArray = ls at hl ⊢
  have hl : lv_has ls 12 [(0, .ref m0), (1, .int x1), (2, .long x2), (4, .long x3)] := hl
  refine lv_aload_n hx hb d_Bm_makeShare_0 rfl (lv_at hl 0 rfl) ?_
  refine lv_iconst (v := 0) hx hb d_Bm_makeShare_1 (by decide) ?_
  refine va_put (D := (dC, dI)) (ci := 8) (v := .int 0) (ty := .int) (C := "BallotBoardModel") (T := F_Bm) (N := 28) hx hb hts (fun w9 h9 => List.mem_cons_of_mem _ (i_Bm w9 h9)) t_Bm t_Bm_ok n_Bm hown hK hP hD hS 0 rfl rfl 0 (by decide) (hts _ (List.mem_cons_of_mem _ gk_919)) (fun _ h9 => h9) rfl (by decide +kernel) rfl rfl (Nat.le_of_ble_eq_true rfl) d_Bm_makeShare_2 (fun H locs hP hD hS => ?_)
  have hP : va_P (dC, dI) classes [(m0, .inr (8, [.int 0, .int (nI N), .int (nI n), .int (nI bc), .long (lN P), .long (lN Q), .long (lN G), .long (lN al), .long (lN pa), .long (lN pb), .int cl, .ref a0, .ref a1, .ref a2, .ref a3, .ref a4, .ref a5, .ref a6, .ref a7, .ref a8, .ref a9, .ref b0, .ref b1, .int (nI oc), .ref b2, .ref b3, .ref b4, .ref b5])), (a7, .inl (cI, 256, .inl bf)), (a8, .inl (cI, 64, .inl sc)), (a9, .inl (cI, 8, .inl st)), (b0, .inl (cI, 8, .inl kS)), (b1, .inl (cI, 64, .inl kR)), (a2, .inl (cJ, 4, .inr (.inl tf))), (a0, .inl (cJ, 1232, .inr (.inl nf))), (a1, .inl (cJ, 616, .inr (.inl cf))), (a5, .inl (cI, 4, .inl sf)), (b4, .inl (cJ, 4, .inr (.inl sh))), (b2, .inl (cJ, 4, .inr (.inl ky))), (a3, .inl (cJ, 16, .inr (.inl lf)))] H := hP
  have hD : va_D A [(m0, .inr (8, [.int 0, .int (nI N), .int (nI n), .int (nI bc), .long (lN P), .long (lN Q), .long (lN G), .long (lN al), .long (lN pa), .long (lN pb), .int cl, .ref a0, .ref a1, .ref a2, .ref a3, .ref a4, .ref a5, .ref a6, .ref a7, .ref a8, .ref a9, .ref b0, .ref b1, .int (nI oc), .ref b2, .ref b3, .ref b4, .ref b5])), (a7, .inl (cI, 256, .inl bf)), (a8, .inl (cI, 64, .inl sc)), (a9, .inl (cI, 8, .inl st)), (b0, .inl (cI, 8, .inl kS)), (b1, .inl (cI, 64, .inl kR)), (a2, .inl (cJ, 4, .inr (.inl tf))), (a0, .inl (cJ, 1232, .inr (.inl nf))), (a1, .inl (cJ, 616, .inr (.inl cf))), (a5, .inl (cI, 4, .inl sf)), (b4, .inl (cJ, 4, .inr (.inl sh))), (b2, .inl (cJ, 4, .inr (.inl ky))), (a3, .inl (cJ, 16, .inr (.inl lf)))] := hD
  refine lv_aload_n hx hb d_Bm_makeShare_5 rfl (lv_at hl 0 rfl) ?_
  refine lv_aload_n hx hb d_Bm_makeShare_6 rfl (lv_at hl 0 rfl) ?_
  refine va_get (D := (dC, dI)) (ci := 8) (v := .int cl) (C := "BallotBoardModel") (T := F_Bm) (N := 28) hx hb hts (fun w9 h9 => List.mem_cons_of_mem _ (i_Bm w9 h9)) hown hK hP 0 rfl rfl 10 (by decide) (hts _ (List.mem_cons_of_mem _ gk_929)) (fun _ h9 => h9) rfl d_Bm_makeShare_7 ?_
  refine lv_if_eq (tgt := 36) hx hb d_Bm_makeShare_10 (by decide) (fun c_1 => ?_) (fun c_1 => ?_)
  · -- taken
    exact absurd (Or.inl (by rw [c_1]; decide)) hC1
  · -- not taken
    have hcl1 : cl = 1 := hcl.resolve_left c_1
    have hN0 := hclN hcl1
    obtain ⟨hPQ, h61F, hQ3, hG2, hGP, hGQ⟩ := hgr hN0
    have hpaP := hpa.2 hcl1
    refine lv_iload_n hx hb d_Bm_makeShare_13 rfl (lv_at hl 1 rfl) ?_
    refine lv_iconst (v := 0) hx hb d_Bm_makeShare_14 (by decide) ?_
    refine lv_aload_n hx hb d_Bm_makeShare_15 rfl (lv_at hl 0 rfl) ?_
    refine va_get (D := (dC, dI)) (ci := 8) (v := .int (nI N)) (C := "BallotBoardModel") (T := F_Bm) (N := 28) hx hb hts (fun w9 h9 => List.mem_cons_of_mem _ (i_Bm w9 h9)) hown hK hP 0 rfl rfl 1 (by decide) (hts _ (List.mem_cons_of_mem _ gk_920)) (fun _ h9 => h9) rfl d_Bm_makeShare_16 ?_
    refine lv_iconst (v := 1) hx hb d_Bm_makeShare_19 (by decide) ?_
    refine lv_isub hx hb d_Bm_makeShare_20 ?_
    rw [show ((nI N) - 1 : Int32) = (nI (N - 1)) from nI_subI (b := 1) (by omega) rfl]
    refine va_calli (va_runS (As := [.int x1, .int 0, .int (nI (N - 1))]) (rest := [.ref m0]) ⟨hx, hb, hml, hown, hts⟩ (c_Bm_in l H x1 0 (nI (N - 1))) (cwS 3 hts (gw_S gk_1027 gk_1028 gk_7 gk_1029) rfl rfl rfl (by decide +kernel) ⟨Nat.le_of_ble_eq_true rfl, Nat.le_of_ble_eq_true rfl⟩) ⟨fun a U g mk q => q, fun U hU hW => ⟨rfl, hU⟩⟩ rfl rfl hl.1 rfl (lv_room (Nat.le_of_ble_eq_true rfl)) d_Bm_makeShare_21 ⟨Nat.le_of_ble_eq_true rfl, Nat.le_of_ble_eq_true rfl⟩) hS (fun q _ h => h.elim) (fun q h => h.elim) (fun r21 u9 t9 H1 locs ht hvm hw hB hz1 hk1 hS => ?_)
    obtain rfl : H = H1 := hB.symm.trans ht
    have h21 : bz r21 (inN x1 N) := bz_in hN0 (by omega) rfl hw
    refine lv_if_eq (tgt := 40) hx hb d_Bm_makeShare_24 (by decide) (fun c_2 => ?_) (fun c_2 => ?_)
    · -- taken
      have hni := bz_f h21 c_2
      refine lv_iconst (v := 0) hx hb d_Bm_makeShare_40 (by decide) ?_
      refine lv_iconst (v := 1) hx hb d_Bm_makeShare_41 (by decide) ?_
      have hPc := hP.sub (ws' := (mo_ws m0 0 (nI N) (nI n) (nI bc) (lN P) (lN Q) (lN G) (lN al) (lN pa) (lN pb) cl a0 a1 a2 a3 a4 a5 a6 a7 a8 a9 b0 b1 oc b2 b3 b4 b5)) [0] rfl
      have hDc := hD.sub (ws' := (mo_ws m0 0 (nI N) (nI n) (nI bc) (lN P) (lN Q) (lN G) (lN al) (lN pa) (lN pb) cl a0 a1 a2 a3 a4 a5 a6 a7 a8 a9 b0 b1 oc b2 b3 b4 b5)) [0] (by decide) rfl
      have hKc := hK.sub (tys' := [(cJ, .long), (cI, .int)]) [0, 1] rfl
      have hFc := va_free (wc := (mo_ws m0 0 (nI N) (nI n) (nI bc) (lN P) (lN Q) (lN G) (lN al) (lN pa) (lN pb) cl a0 a1 a2 a3 a4 a5 a6 a7 a8 a9 b0 b1 oc b2 b3 b4 b5)) hD hS hA [0] rfl
      refine va_calli (va_runV (As := [.int 0, .int 1]) (rest := []) ⟨hx, hb, hml, hown, hts⟩ (c_Bm_fails_0 l dC dI cJ cI H.size m0 (nI N) (nI n) (nI bc) (lN P) (lN Q) (lN G) (lN al) (lN pa) (lN pb) cl a0 a1 a2 a3 a4 a5 a6 a7 a8 a9 b0 b1 oc b2 b3 b4 b5 1) (cwV 2 hts (gw_V gk_1030 gk_1032 gp_27 gk_7 gk_1033) rfl rfl rfl (by decide +kernel) ⟨Nat.le_of_ble_eq_true rfl, Nat.le_of_ble_eq_true rfl⟩) ⟨fun a U g mk q => by obtain ⟨q0, q1, qP, qK, qD⟩ := q; exact ⟨q0, q1, qP, va_K.moved (u := U) (U := U.calling g mk a) (Vm.Alike.refl U.vm) qK, qD⟩, va_recv hK hP (ci := 8) (q0 := 0) rfl rfl, fun U hU hW => ⟨rfl, by rw [hU], by rw [hU]; exact hPc, va_K.moved hW.alike hKc, hDc.weaken (fun _ _ _ _ => trivial)⟩⟩ rfl rfl hl.1 rfl (lv_room (Nat.le_of_ble_eq_true rfl)) d_Bm_makeShare_42 ⟨Nat.le_of_ble_eq_true rfl, Nat.le_of_ble_eq_true rfl⟩) hS (fun q _ h => hFc q h) hFc (fun r_3 u9 t9 H1 locs ht hvm hw hB hz1 hk1 hS => ?_)
      have hw : r_3 = 0 := hw
      subst hw
      obtain ⟨hP1, hK1, hD1⟩ := hB
      rw [ht] at hP1
      obtain ⟨hP, hD⟩ := va_join (wr := [(a7, .inl (cI, 256, .inl bf)), (a8, .inl (cI, 64, .inl sc)), (a9, .inl (cI, 8, .inl st)), (b0, .inl (cI, 8, .inl kS)), (b1, .inl (cI, 64, .inl kR)), (a2, .inl (cJ, 4, .inr (.inl tf))), (a0, .inl (cJ, 1232, .inr (.inl nf))), (a1, .inl (cJ, 616, .inr (.inl cf))), (a5, .inl (cI, 4, .inl sf)), (b4, .inl (cJ, 4, .inr (.inl sh))), (b2, .inl (cJ, 4, .inr (.inl ky))), (a3, .inl (cJ, 16, .inr (.inl lf)))]) (w1 := [(m0, .inr (8, [.int 0, .int (nI N), .int (nI n), .int (nI bc), .long (lN P), .long (lN Q), .long (lN G), .long (lN al), .long (lN pa), .long (lN pb), .int cl, .ref a0, .ref a1, .ref a2, .ref a3, .ref a4, .ref a5, .ref a6, .ref a7, .ref a8, .ref a9, .ref b0, .ref b1, .int (nI oc), .ref b2, .ref b3, .ref b4, .ref b5]))]) hP hD [0] [1, 2, 3, 4, 5, 6, 7, 8, 9, 10, 11, 12] rfl rfl (by decide) (by decide) hk1 hFc hP1 hD1
      have hP := hP.sub (ws' := [(m0, .inr (8, [.int 0, .int (nI N), .int (nI n), .int (nI bc), .long (lN P), .long (lN Q), .long (lN G), .long (lN al), .long (lN pa), .long (lN pb), .int cl, .ref a0, .ref a1, .ref a2, .ref a3, .ref a4, .ref a5, .ref a6, .ref a7, .ref a8, .ref a9, .ref b0, .ref b1, .int (nI oc), .ref b2, .ref b3, .ref b4, .ref b5])), (a7, .inl (cI, 256, .inl bf)), (a8, .inl (cI, 64, .inl sc)), (a9, .inl (cI, 8, .inl st)), (b0, .inl (cI, 8, .inl kS)), (b1, .inl (cI, 64, .inl kR)), (a2, .inl (cJ, 4, .inr (.inl tf))), (a0, .inl (cJ, 1232, .inr (.inl nf))), (a1, .inl (cJ, 616, .inr (.inl cf))), (a5, .inl (cI, 4, .inl sf)), (b4, .inl (cJ, 4, .inr (.inl sh))), (b2, .inl (cJ, 4, .inr (.inl ky))), (a3, .inl (cJ, 16, .inr (.inl lf)))]) [12, 0, 1, 2, 3, 4, 5, 6, 7, 8, 9, 10, 11] rfl
      have hD := hD.sub (ws' := [(m0, .inr (8, [.int 0, .int (nI N), .int (nI n), .int (nI bc), .long (lN P), .long (lN Q), .long (lN G), .long (lN al), .long (lN pa), .long (lN pb), .int cl, .ref a0, .ref a1, .ref a2, .ref a3, .ref a4, .ref a5, .ref a6, .ref a7, .ref a8, .ref a9, .ref b0, .ref b1, .int (nI oc), .ref b2, .ref b3, .ref b4, .ref b5])), (a7, .inl (cI, 256, .inl bf)), (a8, .inl (cI, 64, .inl sc)), (a9, .inl (cI, 8, .inl st)), (b0, .inl (cI, 8, .inl kS)), (b1, .inl (cI, 64, .inl kR)), (a2, .inl (cJ, 4, .inr (.inl tf))), (a0, .inl (cJ, 1232, .inr (.inl nf))), (a1, .inl (cJ, 616, .inr (.inl cf))), (a5, .inl (cI, 4, .inl sf)), (b4, .inl (cJ, 4, .inr (.inl sh))), (b2, .inl (cJ, 4, .inr (.inl ky))), (a3, .inl (cJ, 16, .inr (.inl lf)))]) [12, 0, 1, 2, 3, 4, 5, 6, 7, 8, 9, 10, 11] (by decide) rfl
      generalize H1 = H at hP hS ⊢
      refine lv_if_ne (tgt := 92) hx hb d_Bm_makeShare_45 (by decide) (fun c_4 => ?_) (fun c_4 => ?_)
      · -- taken
        exact absurd rfl c_4
      · -- not taken
        refine lv_aload_n hx hb d_Bm_makeShare_48 rfl (lv_at hl 0 rfl) ?_
        refine lv_iload_n hx hb d_Bm_makeShare_49 rfl (lv_at hl 1 rfl) ?_
        refine lv_iconst (v := 0) hx hb d_Bm_makeShare_50 (by decide) ?_
        refine lv_aload_n hx hb d_Bm_makeShare_51 rfl (lv_at hl 0 rfl) ?_
        refine va_get (D := (dC, dI)) (ci := 8) (v := .int (nI N)) (C := "BallotBoardModel") (T := F_Bm) (N := 28) hx hb hts (fun w9 h9 => List.mem_cons_of_mem _ (i_Bm w9 h9)) hown hK hP 0 rfl rfl 1 (by decide) (hts _ (List.mem_cons_of_mem _ gk_920)) (fun _ h9 => h9) rfl d_Bm_makeShare_52 ?_
        refine lv_iconst (v := 1) hx hb d_Bm_makeShare_55 (by decide) ?_
        refine lv_isub hx hb d_Bm_makeShare_56 ?_
        rw [show ((nI N) - 1 : Int32) = (nI (N - 1)) from nI_subI (b := 1) (by omega) rfl]
        refine va_calli (va_runS (As := [.int x1, .int 0, .int (nI (N - 1))]) (rest := [.ref m0]) ⟨hx, hb, hml, hown, hts⟩ (c_Bm_in l H x1 0 (nI (N - 1))) (cwS 3 hts (gw_S gk_1027 gk_1028 gk_7 gk_1029) rfl rfl rfl (by decide +kernel) ⟨Nat.le_of_ble_eq_true rfl, Nat.le_of_ble_eq_true rfl⟩) ⟨fun a U g mk q => q, fun U hU hW => ⟨rfl, hU⟩⟩ rfl rfl hl.1 rfl (lv_room (Nat.le_of_ble_eq_true rfl)) d_Bm_makeShare_57 ⟨Nat.le_of_ble_eq_true rfl, Nat.le_of_ble_eq_true rfl⟩) hS (fun q _ h => h.elim) (fun q h => h.elim) (fun r57 u9 t9 H1 locs ht hvm hw hB hz1 hk1 hS => ?_)
        obtain rfl : H = H1 := hB.symm.trans ht
        have h57 : bz r57 (inN x1 N) := bz_in hN0 (by omega) rfl hw
        refine lv_if_eq (tgt := 80) hx hb d_Bm_makeShare_60 (by decide) (fun c_5 => ?_) (fun c_5 => ?_)
        · -- taken
          have hni2 := bz_f h57 c_5
          refine lv_iconst (v := 1) hx hb d_Bm_makeShare_80 (by decide) ?_
          refine lv_goto (tgt := 85) hx hb d_Bm_makeShare_81 (by decide) ?_
          refine lv_iconst (v := 2) hx hb d_Bm_makeShare_85 (by decide) ?_
          have hPc := hP.sub (ws' := (mo_ws m0 0 (nI N) (nI n) (nI bc) (lN P) (lN Q) (lN G) (lN al) (lN pa) (lN pb) cl a0 a1 a2 a3 a4 a5 a6 a7 a8 a9 b0 b1 oc b2 b3 b4 b5)) [0] rfl
          have hDc := hD.sub (ws' := (mo_ws m0 0 (nI N) (nI n) (nI bc) (lN P) (lN Q) (lN G) (lN al) (lN pa) (lN pb) cl a0 a1 a2 a3 a4 a5 a6 a7 a8 a9 b0 b1 oc b2 b3 b4 b5)) [0] (by decide) rfl
          have hKc := hK.sub (tys' := [(cJ, .long), (cI, .int)]) [0, 1] rfl
          have hFc := va_free (wc := (mo_ws m0 0 (nI N) (nI n) (nI bc) (lN P) (lN Q) (lN G) (lN al) (lN pa) (lN pb) cl a0 a1 a2 a3 a4 a5 a6 a7 a8 a9 b0 b1 oc b2 b3 b4 b5)) hD hS hA [0] rfl
          refine va_calli (va_runV (As := [.int 1, .int 2]) (rest := []) ⟨hx, hb, hml, hown, hts⟩ (c_Bm_fails_1 l dC dI cJ cI H.size m0 (nI N) (nI n) (nI bc) (lN P) (lN Q) (lN G) (lN al) (lN pa) (lN pb) cl a0 a1 a2 a3 a4 a5 a6 a7 a8 a9 b0 b1 oc b2 b3 b4 b5 2 (by decide)) (cwV 2 hts (gw_V gk_1030 gk_1032 gp_27 gk_7 gk_1033) rfl rfl rfl (by decide +kernel) ⟨Nat.le_of_ble_eq_true rfl, Nat.le_of_ble_eq_true rfl⟩) ⟨fun a U g mk q => by obtain ⟨q0, q1, qP, qK, qD⟩ := q; exact ⟨q0, q1, qP, va_K.moved (u := U) (U := U.calling g mk a) (Vm.Alike.refl U.vm) qK, qD⟩, va_recv hK hP (ci := 8) (q0 := 0) rfl rfl, fun U hU hW => ⟨rfl, by rw [hU], by rw [hU]; exact hPc, va_K.moved hW.alike hKc, hDc.weaken (fun _ _ _ _ => trivial)⟩⟩ rfl rfl hl.1 rfl (lv_room (Nat.le_of_ble_eq_true rfl)) d_Bm_makeShare_86 ⟨Nat.le_of_ble_eq_true rfl, Nat.le_of_ble_eq_true rfl⟩) hS (fun q _ h => hFc q h) hFc (fun r_6 u9 t9 H1 locs ht hvm hw hB hz1 hk1 hS => ?_)
          have hw : r_6 = 1 := hw
          subst hw
          obtain ⟨hP1, hK1, hD1⟩ := hB
          rw [ht] at hP1
          obtain ⟨hP, hD⟩ := va_join (wr := [(a7, .inl (cI, 256, .inl bf)), (a8, .inl (cI, 64, .inl sc)), (a9, .inl (cI, 8, .inl st)), (b0, .inl (cI, 8, .inl kS)), (b1, .inl (cI, 64, .inl kR)), (a2, .inl (cJ, 4, .inr (.inl tf))), (a0, .inl (cJ, 1232, .inr (.inl nf))), (a1, .inl (cJ, 616, .inr (.inl cf))), (a5, .inl (cI, 4, .inl sf)), (b4, .inl (cJ, 4, .inr (.inl sh))), (b2, .inl (cJ, 4, .inr (.inl ky))), (a3, .inl (cJ, 16, .inr (.inl lf)))]) (w1 := [(m0, .inr (8, [.int 2, .int (nI N), .int (nI n), .int (nI bc), .long (lN P), .long (lN Q), .long (lN G), .long (lN al), .long (lN pa), .long (lN pb), .int cl, .ref a0, .ref a1, .ref a2, .ref a3, .ref a4, .ref a5, .ref a6, .ref a7, .ref a8, .ref a9, .ref b0, .ref b1, .int (nI oc), .ref b2, .ref b3, .ref b4, .ref b5]))]) hP hD [0] [1, 2, 3, 4, 5, 6, 7, 8, 9, 10, 11, 12] rfl rfl (by decide) (by decide) hk1 hFc hP1 hD1
          have hP := hP.sub (ws' := [(m0, .inr (8, [.int 2, .int (nI N), .int (nI n), .int (nI bc), .long (lN P), .long (lN Q), .long (lN G), .long (lN al), .long (lN pa), .long (lN pb), .int cl, .ref a0, .ref a1, .ref a2, .ref a3, .ref a4, .ref a5, .ref a6, .ref a7, .ref a8, .ref a9, .ref b0, .ref b1, .int (nI oc), .ref b2, .ref b3, .ref b4, .ref b5])), (a7, .inl (cI, 256, .inl bf)), (a8, .inl (cI, 64, .inl sc)), (a9, .inl (cI, 8, .inl st)), (b0, .inl (cI, 8, .inl kS)), (b1, .inl (cI, 64, .inl kR)), (a2, .inl (cJ, 4, .inr (.inl tf))), (a0, .inl (cJ, 1232, .inr (.inl nf))), (a1, .inl (cJ, 616, .inr (.inl cf))), (a5, .inl (cI, 4, .inl sf)), (b4, .inl (cJ, 4, .inr (.inl sh))), (b2, .inl (cJ, 4, .inr (.inl ky))), (a3, .inl (cJ, 16, .inr (.inl lf)))]) [12, 0, 1, 2, 3, 4, 5, 6, 7, 8, 9, 10, 11] rfl
          have hD := hD.sub (ws' := [(m0, .inr (8, [.int 2, .int (nI N), .int (nI n), .int (nI bc), .long (lN P), .long (lN Q), .long (lN G), .long (lN al), .long (lN pa), .long (lN pb), .int cl, .ref a0, .ref a1, .ref a2, .ref a3, .ref a4, .ref a5, .ref a6, .ref a7, .ref a8, .ref a9, .ref b0, .ref b1, .int (nI oc), .ref b2, .ref b3, .ref b4, .ref b5])), (a7, .inl (cI, 256, .inl bf)), (a8, .inl (cI, 64, .inl sc)), (a9, .inl (cI, 8, .inl st)), (b0, .inl (cI, 8, .inl kS)), (b1, .inl (cI, 64, .inl kR)), (a2, .inl (cJ, 4, .inr (.inl tf))), (a0, .inl (cJ, 1232, .inr (.inl nf))), (a1, .inl (cJ, 616, .inr (.inl cf))), (a5, .inl (cI, 4, .inl sf)), (b4, .inl (cJ, 4, .inr (.inl sh))), (b2, .inl (cJ, 4, .inr (.inl ky))), (a3, .inl (cJ, 16, .inr (.inl lf)))]) [12, 0, 1, 2, 3, 4, 5, 6, 7, 8, 9, 10, 11] (by decide) rfl
          generalize H1 = H at hP hS ⊢
          refine lv_if_eq (tgt := 94) hx hb d_Bm_makeShare_89 (by decide) (fun c_7 => ?_) (fun c_7 => ?_)
          · -- taken
            exact absurd c_7 (by decide)
          · -- not taken
            refine lv_iconst (v := 0) hx hb d_Bm_makeShare_92 (by decide) ?_
            exact W.iret (v := 0) hx hb hr (fun t ht9 hW => ⟨⟨_, (), rfl, trivial, by rw [ht9]; exact hP, va_K.moved hW.alike hK, hD⟩, hS.F ht9⟩) hS.2.2 d_Bm_makeShare_93
        · -- not taken
          exact absurd (bz_t h57 c_5) hni
    · -- not taken
      obtain ⟨I, rfl, hI⟩ := bz_t h21 c_2
      refine lv_aload_n hx hb d_Bm_makeShare_27 rfl (lv_at hl 0 rfl) ?_
      refine va_get (D := (dC, dI)) (ci := 8) (v := .ref a5) (C := "BallotBoardModel") (T := F_Bm) (N := 28) hx hb hts (fun w9 h9 => List.mem_cons_of_mem _ (i_Bm w9 h9)) hown hK hP 0 rfl rfl 16 (by decide) (hts _ (List.mem_cons_of_mem _ gk_935)) (fun _ h9 => h9) rfl d_Bm_makeShare_28 ?_
      refine lv_iload_n hx hb d_Bm_makeShare_31 rfl (lv_at hl 1 rfl) ?_
      refine va_iald hx hb hK hP 9 1 rfl rfl (vp_in_nI (by omega) (by omega)) d_Bm_makeShare_32 ?_
      rw [show (sf (nI I : Int32).toNatClampNeg : Int32) = sf I from by rw [nI_clamp (by omega)]]
      refine lv_if_lt (tgt := 40) hx hb d_Bm_makeShare_33 (by decide) (fun c_8 => ?_) (fun c_8 => ?_)
      · -- taken
        have hk9 : so I = 0 := (rK_neg hrs hn (show I < 4 by omega)).mp c_8
        refine lv_iconst (v := 0) hx hb d_Bm_makeShare_40 (by decide) ?_
        refine lv_iconst (v := 1) hx hb d_Bm_makeShare_41 (by decide) ?_
        have hPc := hP.sub (ws' := (mo_ws m0 0 (nI N) (nI n) (nI bc) (lN P) (lN Q) (lN G) (lN al) (lN pa) (lN pb) cl a0 a1 a2 a3 a4 a5 a6 a7 a8 a9 b0 b1 oc b2 b3 b4 b5)) [0] rfl
        have hDc := hD.sub (ws' := (mo_ws m0 0 (nI N) (nI n) (nI bc) (lN P) (lN Q) (lN G) (lN al) (lN pa) (lN pb) cl a0 a1 a2 a3 a4 a5 a6 a7 a8 a9 b0 b1 oc b2 b3 b4 b5)) [0] (by decide) rfl
        have hKc := hK.sub (tys' := [(cJ, .long), (cI, .int)]) [0, 1] rfl
        have hFc := va_free (wc := (mo_ws m0 0 (nI N) (nI n) (nI bc) (lN P) (lN Q) (lN G) (lN al) (lN pa) (lN pb) cl a0 a1 a2 a3 a4 a5 a6 a7 a8 a9 b0 b1 oc b2 b3 b4 b5)) hD hS hA [0] rfl
        refine va_calli (va_runV (As := [.int 0, .int 1]) (rest := []) ⟨hx, hb, hml, hown, hts⟩ (c_Bm_fails_0 l dC dI cJ cI H.size m0 (nI N) (nI n) (nI bc) (lN P) (lN Q) (lN G) (lN al) (lN pa) (lN pb) cl a0 a1 a2 a3 a4 a5 a6 a7 a8 a9 b0 b1 oc b2 b3 b4 b5 1) (cwV 2 hts (gw_V gk_1030 gk_1032 gp_27 gk_7 gk_1033) rfl rfl rfl (by decide +kernel) ⟨Nat.le_of_ble_eq_true rfl, Nat.le_of_ble_eq_true rfl⟩) ⟨fun a U g mk q => by obtain ⟨q0, q1, qP, qK, qD⟩ := q; exact ⟨q0, q1, qP, va_K.moved (u := U) (U := U.calling g mk a) (Vm.Alike.refl U.vm) qK, qD⟩, va_recv hK hP (ci := 8) (q0 := 0) rfl rfl, fun U hU hW => ⟨rfl, by rw [hU], by rw [hU]; exact hPc, va_K.moved hW.alike hKc, hDc.weaken (fun _ _ _ _ => trivial)⟩⟩ rfl rfl hl.1 rfl (lv_room (Nat.le_of_ble_eq_true rfl)) d_Bm_makeShare_42 ⟨Nat.le_of_ble_eq_true rfl, Nat.le_of_ble_eq_true rfl⟩) hS (fun q _ h => hFc q h) hFc (fun r_9 u9 t9 H1 locs ht hvm hw hB hz1 hk1 hS => ?_)
        have hw : r_9 = 0 := hw
        subst hw
        obtain ⟨hP1, hK1, hD1⟩ := hB
        rw [ht] at hP1
        obtain ⟨hP, hD⟩ := va_join (wr := [(a7, .inl (cI, 256, .inl bf)), (a8, .inl (cI, 64, .inl sc)), (a9, .inl (cI, 8, .inl st)), (b0, .inl (cI, 8, .inl kS)), (b1, .inl (cI, 64, .inl kR)), (a2, .inl (cJ, 4, .inr (.inl tf))), (a0, .inl (cJ, 1232, .inr (.inl nf))), (a1, .inl (cJ, 616, .inr (.inl cf))), (a5, .inl (cI, 4, .inl sf)), (b4, .inl (cJ, 4, .inr (.inl sh))), (b2, .inl (cJ, 4, .inr (.inl ky))), (a3, .inl (cJ, 16, .inr (.inl lf)))]) (w1 := [(m0, .inr (8, [.int 0, .int (nI N), .int (nI n), .int (nI bc), .long (lN P), .long (lN Q), .long (lN G), .long (lN al), .long (lN pa), .long (lN pb), .int cl, .ref a0, .ref a1, .ref a2, .ref a3, .ref a4, .ref a5, .ref a6, .ref a7, .ref a8, .ref a9, .ref b0, .ref b1, .int (nI oc), .ref b2, .ref b3, .ref b4, .ref b5]))]) hP hD [0] [1, 2, 3, 4, 5, 6, 7, 8, 9, 10, 11, 12] rfl rfl (by decide) (by decide) hk1 hFc hP1 hD1
        have hP := hP.sub (ws' := [(m0, .inr (8, [.int 0, .int (nI N), .int (nI n), .int (nI bc), .long (lN P), .long (lN Q), .long (lN G), .long (lN al), .long (lN pa), .long (lN pb), .int cl, .ref a0, .ref a1, .ref a2, .ref a3, .ref a4, .ref a5, .ref a6, .ref a7, .ref a8, .ref a9, .ref b0, .ref b1, .int (nI oc), .ref b2, .ref b3, .ref b4, .ref b5])), (a7, .inl (cI, 256, .inl bf)), (a8, .inl (cI, 64, .inl sc)), (a9, .inl (cI, 8, .inl st)), (b0, .inl (cI, 8, .inl kS)), (b1, .inl (cI, 64, .inl kR)), (a2, .inl (cJ, 4, .inr (.inl tf))), (a0, .inl (cJ, 1232, .inr (.inl nf))), (a1, .inl (cJ, 616, .inr (.inl cf))), (a5, .inl (cI, 4, .inl sf)), (b4, .inl (cJ, 4, .inr (.inl sh))), (b2, .inl (cJ, 4, .inr (.inl ky))), (a3, .inl (cJ, 16, .inr (.inl lf)))]) [12, 0, 1, 2, 3, 4, 5, 6, 7, 8, 9, 10, 11] rfl
        have hD := hD.sub (ws' := [(m0, .inr (8, [.int 0, .int (nI N), .int (nI n), .int (nI bc), .long (lN P), .long (lN Q), .long (lN G), .long (lN al), .long (lN pa), .long (lN pb), .int cl, .ref a0, .ref a1, .ref a2, .ref a3, .ref a4, .ref a5, .ref a6, .ref a7, .ref a8, .ref a9, .ref b0, .ref b1, .int (nI oc), .ref b2, .ref b3, .ref b4, .ref b5])), (a7, .inl (cI, 256, .inl bf)), (a8, .inl (cI, 64, .inl sc)), (a9, .inl (cI, 8, .inl st)), (b0, .inl (cI, 8, .inl kS)), (b1, .inl (cI, 64, .inl kR)), (a2, .inl (cJ, 4, .inr (.inl tf))), (a0, .inl (cJ, 1232, .inr (.inl nf))), (a1, .inl (cJ, 616, .inr (.inl cf))), (a5, .inl (cI, 4, .inl sf)), (b4, .inl (cJ, 4, .inr (.inl sh))), (b2, .inl (cJ, 4, .inr (.inl ky))), (a3, .inl (cJ, 16, .inr (.inl lf)))]) [12, 0, 1, 2, 3, 4, 5, 6, 7, 8, 9, 10, 11] (by decide) rfl
        generalize H1 = H at hP hS ⊢
        refine lv_if_ne (tgt := 92) hx hb d_Bm_makeShare_45 (by decide) (fun c_10 => ?_) (fun c_10 => ?_)
        · -- taken
          exact absurd rfl c_10
        · -- not taken
          refine lv_aload_n hx hb d_Bm_makeShare_48 rfl (lv_at hl 0 rfl) ?_
          refine lv_iload_n hx hb d_Bm_makeShare_49 rfl (lv_at hl 1 rfl) ?_
          refine lv_iconst (v := 0) hx hb d_Bm_makeShare_50 (by decide) ?_
          refine lv_aload_n hx hb d_Bm_makeShare_51 rfl (lv_at hl 0 rfl) ?_
          refine va_get (D := (dC, dI)) (ci := 8) (v := .int (nI N)) (C := "BallotBoardModel") (T := F_Bm) (N := 28) hx hb hts (fun w9 h9 => List.mem_cons_of_mem _ (i_Bm w9 h9)) hown hK hP 0 rfl rfl 1 (by decide) (hts _ (List.mem_cons_of_mem _ gk_920)) (fun _ h9 => h9) rfl d_Bm_makeShare_52 ?_
          refine lv_iconst (v := 1) hx hb d_Bm_makeShare_55 (by decide) ?_
          refine lv_isub hx hb d_Bm_makeShare_56 ?_
          rw [show ((nI N) - 1 : Int32) = (nI (N - 1)) from nI_subI (b := 1) (by omega) rfl]
          refine va_calli (va_runS (As := [.int (nI I), .int 0, .int (nI (N - 1))]) (rest := [.ref m0]) ⟨hx, hb, hml, hown, hts⟩ (c_Bm_in l H (nI I) 0 (nI (N - 1))) (cwS 3 hts (gw_S gk_1027 gk_1028 gk_7 gk_1029) rfl rfl rfl (by decide +kernel) ⟨Nat.le_of_ble_eq_true rfl, Nat.le_of_ble_eq_true rfl⟩) ⟨fun a U g mk q => q, fun U hU hW => ⟨rfl, hU⟩⟩ rfl rfl hl.1 rfl (lv_room (Nat.le_of_ble_eq_true rfl)) d_Bm_makeShare_57 ⟨Nat.le_of_ble_eq_true rfl, Nat.le_of_ble_eq_true rfl⟩) hS (fun q _ h => h.elim) (fun q h => h.elim) (fun r57 u9 t9 H1 locs ht hvm hw hB hz1 hk1 hS => ?_)
          obtain rfl : H = H1 := hB.symm.trans ht
          have h57 : bz r57 (inN (nI I) N) := bz_in hN0 (by omega) rfl hw
          refine lv_if_eq (tgt := 80) hx hb d_Bm_makeShare_60 (by decide) (fun c_11 => ?_) (fun c_11 => ?_)
          · -- taken
            exact absurd ⟨I, rfl, hI⟩ (bz_f h57 c_11)
          · -- not taken
            have hin2 := bz_t h57 c_11
            refine lv_aload_n hx hb d_Bm_makeShare_63 rfl (lv_at hl 0 rfl) ?_
            refine lv_lload_n hx hb d_Bm_makeShare_64 rfl (lv_at hl 2 rfl) ?_
            have hPc := hP.sub (ws' := (mo_ws m0 0 (nI N) (nI n) (nI bc) (lN P) (lN Q) (lN G) (lN al) (lN pa) (lN pb) cl a0 a1 a2 a3 a4 a5 a6 a7 a8 a9 b0 b1 oc b2 b3 b4 b5)) [0] rfl
            have hKc := hK.sub (tys' := [(cJ, .long), (cI, .int)]) [0, 1] rfl
            refine va_calli (va_runV (As := [.long x2]) (rest := [.ref m0]) ⟨hx, hb, hml, hown, hts⟩ (c_Bm_isExponent l H dC dI cJ cI m0 0 (nI N) (nI n) (nI bc) (lN al) (lN pa) (lN pb) cl a0 a1 a2 a3 a4 a5 a6 a7 a8 a9 b0 b1 oc b2 b3 b4 b5 P Q G x2 hPc hPQ h61F hQ3 ) (cwV 1 hts (gw_V gk_1042 gk_1044 gp_29 gk_7 gk_1045) rfl rfl rfl (by decide +kernel) ⟨Nat.le_of_ble_eq_true rfl, Nat.le_of_ble_eq_true rfl⟩) ⟨fun a U g mk q => ⟨q.1, q.2.1, va_K.moved (u := U) (U := U.calling g mk a) (Vm.Alike.refl U.vm) q.2.2⟩, va_recv hK hP (ci := 8) (q0 := 0) rfl rfl, fun U hU hW => ⟨rfl, hU, va_K.moved hW.alike hKc⟩⟩ rfl rfl hl.1 rfl (lv_room (Nat.le_of_ble_eq_true rfl)) d_Bm_makeShare_65 ⟨Nat.le_of_ble_eq_true rfl, Nat.le_of_ble_eq_true rfl⟩) hS (fun q _ h => h.elim) (fun q h => h.elim) (fun r65 u9 t9 H1 locs ht hvm hw hB hz1 hk1 hS => ?_)
            obtain rfl : H = H1 := hB.symm.trans ht
            have h65 := hw
            refine lv_if_eq (tgt := 80) hx hb d_Bm_makeShare_68 (by decide) (fun c_12 => ?_) (fun c_12 => ?_)
            · -- taken
              have bo65 := bz_f h65 c_12
              refine lv_iconst (v := 1) hx hb d_Bm_makeShare_80 (by decide) ?_
              refine lv_goto (tgt := 85) hx hb d_Bm_makeShare_81 (by decide) ?_
              refine lv_iconst (v := 2) hx hb d_Bm_makeShare_85 (by decide) ?_
              have hPc := hP.sub (ws' := (mo_ws m0 0 (nI N) (nI n) (nI bc) (lN P) (lN Q) (lN G) (lN al) (lN pa) (lN pb) cl a0 a1 a2 a3 a4 a5 a6 a7 a8 a9 b0 b1 oc b2 b3 b4 b5)) [0] rfl
              have hDc := hD.sub (ws' := (mo_ws m0 0 (nI N) (nI n) (nI bc) (lN P) (lN Q) (lN G) (lN al) (lN pa) (lN pb) cl a0 a1 a2 a3 a4 a5 a6 a7 a8 a9 b0 b1 oc b2 b3 b4 b5)) [0] (by decide) rfl
              have hKc := hK.sub (tys' := [(cJ, .long), (cI, .int)]) [0, 1] rfl
              have hFc := va_free (wc := (mo_ws m0 0 (nI N) (nI n) (nI bc) (lN P) (lN Q) (lN G) (lN al) (lN pa) (lN pb) cl a0 a1 a2 a3 a4 a5 a6 a7 a8 a9 b0 b1 oc b2 b3 b4 b5)) hD hS hA [0] rfl
              refine va_calli (va_runV (As := [.int 1, .int 2]) (rest := []) ⟨hx, hb, hml, hown, hts⟩ (c_Bm_fails_1 l dC dI cJ cI H.size m0 (nI N) (nI n) (nI bc) (lN P) (lN Q) (lN G) (lN al) (lN pa) (lN pb) cl a0 a1 a2 a3 a4 a5 a6 a7 a8 a9 b0 b1 oc b2 b3 b4 b5 2 (by decide)) (cwV 2 hts (gw_V gk_1030 gk_1032 gp_27 gk_7 gk_1033) rfl rfl rfl (by decide +kernel) ⟨Nat.le_of_ble_eq_true rfl, Nat.le_of_ble_eq_true rfl⟩) ⟨fun a U g mk q => by obtain ⟨q0, q1, qP, qK, qD⟩ := q; exact ⟨q0, q1, qP, va_K.moved (u := U) (U := U.calling g mk a) (Vm.Alike.refl U.vm) qK, qD⟩, va_recv hK hP (ci := 8) (q0 := 0) rfl rfl, fun U hU hW => ⟨rfl, by rw [hU], by rw [hU]; exact hPc, va_K.moved hW.alike hKc, hDc.weaken (fun _ _ _ _ => trivial)⟩⟩ rfl rfl hl.1 rfl (lv_room (Nat.le_of_ble_eq_true rfl)) d_Bm_makeShare_86 ⟨Nat.le_of_ble_eq_true rfl, Nat.le_of_ble_eq_true rfl⟩) hS (fun q _ h => hFc q h) hFc (fun r_13 u9 t9 H1 locs ht hvm hw hB hz1 hk1 hS => ?_)
              have hw : r_13 = 1 := hw
              subst hw
              obtain ⟨hP1, hK1, hD1⟩ := hB
              rw [ht] at hP1
              obtain ⟨hP, hD⟩ := va_join (wr := [(a7, .inl (cI, 256, .inl bf)), (a8, .inl (cI, 64, .inl sc)), (a9, .inl (cI, 8, .inl st)), (b0, .inl (cI, 8, .inl kS)), (b1, .inl (cI, 64, .inl kR)), (a2, .inl (cJ, 4, .inr (.inl tf))), (a0, .inl (cJ, 1232, .inr (.inl nf))), (a1, .inl (cJ, 616, .inr (.inl cf))), (a5, .inl (cI, 4, .inl sf)), (b4, .inl (cJ, 4, .inr (.inl sh))), (b2, .inl (cJ, 4, .inr (.inl ky))), (a3, .inl (cJ, 16, .inr (.inl lf)))]) (w1 := [(m0, .inr (8, [.int 2, .int (nI N), .int (nI n), .int (nI bc), .long (lN P), .long (lN Q), .long (lN G), .long (lN al), .long (lN pa), .long (lN pb), .int cl, .ref a0, .ref a1, .ref a2, .ref a3, .ref a4, .ref a5, .ref a6, .ref a7, .ref a8, .ref a9, .ref b0, .ref b1, .int (nI oc), .ref b2, .ref b3, .ref b4, .ref b5]))]) hP hD [0] [1, 2, 3, 4, 5, 6, 7, 8, 9, 10, 11, 12] rfl rfl (by decide) (by decide) hk1 hFc hP1 hD1
              have hP := hP.sub (ws' := [(m0, .inr (8, [.int 2, .int (nI N), .int (nI n), .int (nI bc), .long (lN P), .long (lN Q), .long (lN G), .long (lN al), .long (lN pa), .long (lN pb), .int cl, .ref a0, .ref a1, .ref a2, .ref a3, .ref a4, .ref a5, .ref a6, .ref a7, .ref a8, .ref a9, .ref b0, .ref b1, .int (nI oc), .ref b2, .ref b3, .ref b4, .ref b5])), (a7, .inl (cI, 256, .inl bf)), (a8, .inl (cI, 64, .inl sc)), (a9, .inl (cI, 8, .inl st)), (b0, .inl (cI, 8, .inl kS)), (b1, .inl (cI, 64, .inl kR)), (a2, .inl (cJ, 4, .inr (.inl tf))), (a0, .inl (cJ, 1232, .inr (.inl nf))), (a1, .inl (cJ, 616, .inr (.inl cf))), (a5, .inl (cI, 4, .inl sf)), (b4, .inl (cJ, 4, .inr (.inl sh))), (b2, .inl (cJ, 4, .inr (.inl ky))), (a3, .inl (cJ, 16, .inr (.inl lf)))]) [12, 0, 1, 2, 3, 4, 5, 6, 7, 8, 9, 10, 11] rfl
              have hD := hD.sub (ws' := [(m0, .inr (8, [.int 2, .int (nI N), .int (nI n), .int (nI bc), .long (lN P), .long (lN Q), .long (lN G), .long (lN al), .long (lN pa), .long (lN pb), .int cl, .ref a0, .ref a1, .ref a2, .ref a3, .ref a4, .ref a5, .ref a6, .ref a7, .ref a8, .ref a9, .ref b0, .ref b1, .int (nI oc), .ref b2, .ref b3, .ref b4, .ref b5])), (a7, .inl (cI, 256, .inl bf)), (a8, .inl (cI, 64, .inl sc)), (a9, .inl (cI, 8, .inl st)), (b0, .inl (cI, 8, .inl kS)), (b1, .inl (cI, 64, .inl kR)), (a2, .inl (cJ, 4, .inr (.inl tf))), (a0, .inl (cJ, 1232, .inr (.inl nf))), (a1, .inl (cJ, 616, .inr (.inl cf))), (a5, .inl (cI, 4, .inl sf)), (b4, .inl (cJ, 4, .inr (.inl sh))), (b2, .inl (cJ, 4, .inr (.inl ky))), (a3, .inl (cJ, 16, .inr (.inl lf)))]) [12, 0, 1, 2, 3, 4, 5, 6, 7, 8, 9, 10, 11] (by decide) rfl
              generalize H1 = H at hP hS ⊢
              refine lv_if_eq (tgt := 94) hx hb d_Bm_makeShare_89 (by decide) (fun c_14 => ?_) (fun c_14 => ?_)
              · -- taken
                exact absurd c_14 (by decide)
              · -- not taken
                refine lv_iconst (v := 0) hx hb d_Bm_makeShare_92 (by decide) ?_
                exact W.iret (v := 0) hx hb hr (fun t ht9 hW => ⟨⟨_, (), rfl, trivial, by rw [ht9]; exact hP, va_K.moved hW.alike hK, hD⟩, hS.F ht9⟩) hS.2.2 d_Bm_makeShare_93
            · -- not taken
              have bo65 := bz_t h65 c_12
              refine lv_aload_n hx hb d_Bm_makeShare_71 rfl (lv_at hl 0 rfl) ?_
              refine lv_lload hx hb d_Bm_makeShare_72 (lv_at hl 3 rfl) ?_
              have hPc := hP.sub (ws' := (mo_ws m0 0 (nI N) (nI n) (nI bc) (lN P) (lN Q) (lN G) (lN al) (lN pa) (lN pb) cl a0 a1 a2 a3 a4 a5 a6 a7 a8 a9 b0 b1 oc b2 b3 b4 b5)) [0] rfl
              have hKc := hK.sub (tys' := [(cJ, .long), (cI, .int)]) [0, 1] rfl
              refine va_calli (va_runV (As := [.long x3]) (rest := [.ref m0]) ⟨hx, hb, hml, hown, hts⟩ (c_Bm_isExponent l H dC dI cJ cI m0 0 (nI N) (nI n) (nI bc) (lN al) (lN pa) (lN pb) cl a0 a1 a2 a3 a4 a5 a6 a7 a8 a9 b0 b1 oc b2 b3 b4 b5 P Q G x3 hPc hPQ h61F hQ3 ) (cwV 1 hts (gw_V gk_1042 gk_1044 gp_29 gk_7 gk_1045) rfl rfl rfl (by decide +kernel) ⟨Nat.le_of_ble_eq_true rfl, Nat.le_of_ble_eq_true rfl⟩) ⟨fun a U g mk q => ⟨q.1, q.2.1, va_K.moved (u := U) (U := U.calling g mk a) (Vm.Alike.refl U.vm) q.2.2⟩, va_recv hK hP (ci := 8) (q0 := 0) rfl rfl, fun U hU hW => ⟨rfl, hU, va_K.moved hW.alike hKc⟩⟩ rfl rfl hl.1 rfl (lv_room (Nat.le_of_ble_eq_true rfl)) d_Bm_makeShare_74 ⟨Nat.le_of_ble_eq_true rfl, Nat.le_of_ble_eq_true rfl⟩) hS (fun q _ h => h.elim) (fun q h => h.elim) (fun r74 u9 t9 H1 locs ht hvm hw hB hz1 hk1 hS => ?_)
              obtain rfl : H = H1 := hB.symm.trans ht
              have h74 := hw
              refine lv_if_ne (tgt := 84) hx hb d_Bm_makeShare_77 (by decide) (fun c_15 => ?_) (fun c_15 => ?_)
              · -- taken
                exact absurd ⟨⟨I, rfl, hI⟩, bo65, bz_t h74 c_15⟩ hC2
              · -- not taken
                have bo74 := bz_f h74 c_15
                refine lv_iconst (v := 1) hx hb d_Bm_makeShare_80 (by decide) ?_
                refine lv_goto (tgt := 85) hx hb d_Bm_makeShare_81 (by decide) ?_
                refine lv_iconst (v := 2) hx hb d_Bm_makeShare_85 (by decide) ?_
                have hPc := hP.sub (ws' := (mo_ws m0 0 (nI N) (nI n) (nI bc) (lN P) (lN Q) (lN G) (lN al) (lN pa) (lN pb) cl a0 a1 a2 a3 a4 a5 a6 a7 a8 a9 b0 b1 oc b2 b3 b4 b5)) [0] rfl
                have hDc := hD.sub (ws' := (mo_ws m0 0 (nI N) (nI n) (nI bc) (lN P) (lN Q) (lN G) (lN al) (lN pa) (lN pb) cl a0 a1 a2 a3 a4 a5 a6 a7 a8 a9 b0 b1 oc b2 b3 b4 b5)) [0] (by decide) rfl
                have hKc := hK.sub (tys' := [(cJ, .long), (cI, .int)]) [0, 1] rfl
                have hFc := va_free (wc := (mo_ws m0 0 (nI N) (nI n) (nI bc) (lN P) (lN Q) (lN G) (lN al) (lN pa) (lN pb) cl a0 a1 a2 a3 a4 a5 a6 a7 a8 a9 b0 b1 oc b2 b3 b4 b5)) hD hS hA [0] rfl
                refine va_calli (va_runV (As := [.int 1, .int 2]) (rest := []) ⟨hx, hb, hml, hown, hts⟩ (c_Bm_fails_1 l dC dI cJ cI H.size m0 (nI N) (nI n) (nI bc) (lN P) (lN Q) (lN G) (lN al) (lN pa) (lN pb) cl a0 a1 a2 a3 a4 a5 a6 a7 a8 a9 b0 b1 oc b2 b3 b4 b5 2 (by decide)) (cwV 2 hts (gw_V gk_1030 gk_1032 gp_27 gk_7 gk_1033) rfl rfl rfl (by decide +kernel) ⟨Nat.le_of_ble_eq_true rfl, Nat.le_of_ble_eq_true rfl⟩) ⟨fun a U g mk q => by obtain ⟨q0, q1, qP, qK, qD⟩ := q; exact ⟨q0, q1, qP, va_K.moved (u := U) (U := U.calling g mk a) (Vm.Alike.refl U.vm) qK, qD⟩, va_recv hK hP (ci := 8) (q0 := 0) rfl rfl, fun U hU hW => ⟨rfl, by rw [hU], by rw [hU]; exact hPc, va_K.moved hW.alike hKc, hDc.weaken (fun _ _ _ _ => trivial)⟩⟩ rfl rfl hl.1 rfl (lv_room (Nat.le_of_ble_eq_true rfl)) d_Bm_makeShare_86 ⟨Nat.le_of_ble_eq_true rfl, Nat.le_of_ble_eq_true rfl⟩) hS (fun q _ h => hFc q h) hFc (fun r_16 u9 t9 H1 locs ht hvm hw hB hz1 hk1 hS => ?_)
                have hw : r_16 = 1 := hw
                subst hw
                obtain ⟨hP1, hK1, hD1⟩ := hB
                rw [ht] at hP1
                obtain ⟨hP, hD⟩ := va_join (wr := [(a7, .inl (cI, 256, .inl bf)), (a8, .inl (cI, 64, .inl sc)), (a9, .inl (cI, 8, .inl st)), (b0, .inl (cI, 8, .inl kS)), (b1, .inl (cI, 64, .inl kR)), (a2, .inl (cJ, 4, .inr (.inl tf))), (a0, .inl (cJ, 1232, .inr (.inl nf))), (a1, .inl (cJ, 616, .inr (.inl cf))), (a5, .inl (cI, 4, .inl sf)), (b4, .inl (cJ, 4, .inr (.inl sh))), (b2, .inl (cJ, 4, .inr (.inl ky))), (a3, .inl (cJ, 16, .inr (.inl lf)))]) (w1 := [(m0, .inr (8, [.int 2, .int (nI N), .int (nI n), .int (nI bc), .long (lN P), .long (lN Q), .long (lN G), .long (lN al), .long (lN pa), .long (lN pb), .int cl, .ref a0, .ref a1, .ref a2, .ref a3, .ref a4, .ref a5, .ref a6, .ref a7, .ref a8, .ref a9, .ref b0, .ref b1, .int (nI oc), .ref b2, .ref b3, .ref b4, .ref b5]))]) hP hD [0] [1, 2, 3, 4, 5, 6, 7, 8, 9, 10, 11, 12] rfl rfl (by decide) (by decide) hk1 hFc hP1 hD1
                have hP := hP.sub (ws' := [(m0, .inr (8, [.int 2, .int (nI N), .int (nI n), .int (nI bc), .long (lN P), .long (lN Q), .long (lN G), .long (lN al), .long (lN pa), .long (lN pb), .int cl, .ref a0, .ref a1, .ref a2, .ref a3, .ref a4, .ref a5, .ref a6, .ref a7, .ref a8, .ref a9, .ref b0, .ref b1, .int (nI oc), .ref b2, .ref b3, .ref b4, .ref b5])), (a7, .inl (cI, 256, .inl bf)), (a8, .inl (cI, 64, .inl sc)), (a9, .inl (cI, 8, .inl st)), (b0, .inl (cI, 8, .inl kS)), (b1, .inl (cI, 64, .inl kR)), (a2, .inl (cJ, 4, .inr (.inl tf))), (a0, .inl (cJ, 1232, .inr (.inl nf))), (a1, .inl (cJ, 616, .inr (.inl cf))), (a5, .inl (cI, 4, .inl sf)), (b4, .inl (cJ, 4, .inr (.inl sh))), (b2, .inl (cJ, 4, .inr (.inl ky))), (a3, .inl (cJ, 16, .inr (.inl lf)))]) [12, 0, 1, 2, 3, 4, 5, 6, 7, 8, 9, 10, 11] rfl
                have hD := hD.sub (ws' := [(m0, .inr (8, [.int 2, .int (nI N), .int (nI n), .int (nI bc), .long (lN P), .long (lN Q), .long (lN G), .long (lN al), .long (lN pa), .long (lN pb), .int cl, .ref a0, .ref a1, .ref a2, .ref a3, .ref a4, .ref a5, .ref a6, .ref a7, .ref a8, .ref a9, .ref b0, .ref b1, .int (nI oc), .ref b2, .ref b3, .ref b4, .ref b5])), (a7, .inl (cI, 256, .inl bf)), (a8, .inl (cI, 64, .inl sc)), (a9, .inl (cI, 8, .inl st)), (b0, .inl (cI, 8, .inl kS)), (b1, .inl (cI, 64, .inl kR)), (a2, .inl (cJ, 4, .inr (.inl tf))), (a0, .inl (cJ, 1232, .inr (.inl nf))), (a1, .inl (cJ, 616, .inr (.inl cf))), (a5, .inl (cI, 4, .inl sf)), (b4, .inl (cJ, 4, .inr (.inl sh))), (b2, .inl (cJ, 4, .inr (.inl ky))), (a3, .inl (cJ, 16, .inr (.inl lf)))]) [12, 0, 1, 2, 3, 4, 5, 6, 7, 8, 9, 10, 11] (by decide) rfl
                generalize H1 = H at hP hS ⊢
                refine lv_if_eq (tgt := 94) hx hb d_Bm_makeShare_89 (by decide) (fun c_17 => ?_) (fun c_17 => ?_)
                · -- taken
                  exact absurd c_17 (by decide)
                · -- not taken
                  refine lv_iconst (v := 0) hx hb d_Bm_makeShare_92 (by decide) ?_
                  exact W.iret (v := 0) hx hb hr (fun t ht9 hW => ⟨⟨_, (), rfl, trivial, by rw [ht9]; exact hP, va_K.moved hW.alike hK, hD⟩, hS.F ht9⟩) hS.2.2 d_Bm_makeShare_93
      · -- not taken
        exact absurd (Or.inr ⟨I, rfl, hI, fun h => c_8 ((rK_neg hrs hn (show I < 4 by omega)).mpr h)⟩) hC1
set_option maxHeartbeats 8000000 in
set_option maxRecDepth 100000 in
theorem c_Bm_makeShare_3 (l : Launch) (dC : Nat → ClassId) (dI : Nat → Nat → Nat) (cJ cI : ClassId) (sz : Nat) (m0 : Nat) (e0 : Int32) (N n bc P Q G al pa pb : Nat) (cl : Int32) (a0 a1 a2 a3 a4 a5 a6 a7 a8 a9 b0 b1 oc b2 b3 b4 b5 : Nat) (bf sc st sf : Nat → Int32) (tf nf cf sh ky lf : Nat → Int64) (so ko : Nat → Nat) (I X1 W1 : Nat) (hN : N ≤ 4) (hgr : 0 < N → gfx P Q G) (hcl : cl = 0 ∨ cl = 1) (hclN : cl = 1 → 0 < N) (hn : n ≤ 154) (hrs : rK 4 n so sf sh) (hky : ∀ i, i < N → cl = 1 → ky i = lN (ko i) ∧ ko i < P ∧ ko i ^ Q % P = 1) (hpa : pa < 2 ^ 61 ∧ (cl = 1 → pa < P)) (hcl1 : cl = 1) (hI : I < N) (hs0 : so I = 0) (hn1 : n < 154) (hn0 : 0 < n) (hX9 : X1 < Q) (hW9 : W1 < Q) (hh : ¬ shaHd P Q G (ko I) pa I (lN (pa ^ X1 % P)) (lN (shcR P Q G pa I X1 W1)) (lN ((W1 + (shcR P Q G pa I X1 W1) * X1 % Q) % Q))) : Met l y_Bm_makeShare w_Bm_makeShare ({ frames := 7, cells := 0, slots := 0, locals := 224 }) (va_Pc [.ref m0, .int (nI I), .long (lN X1), .long (lN W1)] (fun U => U.heap.size = sz ∧ va_P (dC, dI) classes (mo_ws m0 e0 (nI N) (nI n) (nI bc) (lN P) (lN Q) (lN G) (lN al) (lN pa) (lN pb) cl a0 a1 a2 a3 a4 a5 a6 a7 a8 a9 b0 b1 oc b2 b3 b4 b5 ++ (iw_ws a7 cI 256 bf ++ (iw_ws a8 cI 64 sc ++ (iw_ws a9 cI 8 st ++ (iw_ws b0 cI 8 kS ++ (iw_ws b1 cI 64 kR ++ (jw_ws a2 cJ 4 tf ++ (jw_ws a0 cJ 1232 nf ++ (jw_ws a1 cJ 616 cf ++ (iw_ws a5 cI 4 sf ++ (jw_ws b4 cJ 4 sh ++ (jw_ws b2 cJ 4 ky ++ (jw_ws a3 cJ 16 lf))))))))))))) U.heap ∧ va_K (dC, dI) classes [(cJ, .long), (cI, .int)] U ∧ va_D (fun _ => True) (mo_ws m0 e0 (nI N) (nI n) (nI bc) (lN P) (lN Q) (lN G) (lN al) (lN pa) (lN pb) cl a0 a1 a2 a3 a4 a5 a6 a7 a8 a9 b0 b1 oc b2 b3 b4 b5 ++ (iw_ws a7 cI 256 bf ++ (iw_ws a8 cI 64 sc ++ (iw_ws a9 cI 8 st ++ (iw_ws b0 cI 8 kS ++ (iw_ws b1 cI 64 kR ++ (jw_ws a2 cJ 4 tf ++ (jw_ws a0 cJ 1232 nf ++ (jw_ws a1 cJ 616 cf ++ (iw_ws a5 cI 4 sf ++ (jw_ws b4 cJ 4 sh ++ (jw_ws b2 cJ 4 ky ++ (jw_ws a3 cJ 16 lf))))))))))))))) (va_Qi (fun (r : Int32) (u9 : DU × (Nat → Int64)) => True) (fun u9 t => va_P (dC, dI) classes (mo_ws m0 2 (nI N) (nI n) (nI bc) (lN P) (lN Q) (lN G) (lN al) (lN pa) (lN pb) cl a0 a1 a2 a3 a4 a5 a6 a7 a8 a9 b0 b1 u9.1.2.2.2.2 b2 b3 b4 b5 ++ (iw_ws a7 cI 256 u9.1.1 ++ (iw_ws a8 cI 64 u9.1.2.1 ++ (iw_ws a9 cI 8 u9.1.2.2.1 ++ (iw_ws b0 cI 8 kS ++ (iw_ws b1 cI 64 kR ++ (jw_ws a2 cJ 4 u9.1.2.2.2.1 ++ (jw_ws a0 cJ 1232 nf ++ (jw_ws a1 cJ 616 cf ++ (iw_ws a5 cI 4 sf ++ (jw_ws b4 cJ 4 sh ++ (jw_ws b2 cJ 4 ky ++ (jw_ws a3 cJ 16 u9.2))))))))))))) t.heap ∧ va_K (dC, dI) classes [(cJ, .long), (cI, .int)] t ∧ va_D (va_A (mo_ws m0 e0 (nI N) (nI n) (nI bc) (lN P) (lN Q) (lN G) (lN al) (lN pa) (lN pb) cl a0 a1 a2 a3 a4 a5 a6 a7 a8 a9 b0 b1 oc b2 b3 b4 b5 ++ (iw_ws a7 cI 256 bf ++ (iw_ws a8 cI 64 sc ++ (iw_ws a9 cI 8 st ++ (iw_ws b0 cI 8 kS ++ (iw_ws b1 cI 64 kR ++ (jw_ws a2 cJ 4 tf ++ (jw_ws a0 cJ 1232 nf ++ (jw_ws a1 cJ 616 cf ++ (iw_ws a5 cI 4 sf ++ (jw_ws b4 cJ 4 sh ++ (jw_ws b2 cJ 4 ky ++ (jw_ws a3 cJ 16 lf))))))))))))) sz) (mo_ws m0 2 (nI N) (nI n) (nI bc) (lN P) (lN Q) (lN G) (lN al) (lN pa) (lN pb) cl a0 a1 a2 a3 a4 a5 a6 a7 a8 a9 b0 b1 u9.1.2.2.2.2 b2 b3 b4 b5 ++ (iw_ws a7 cI 256 u9.1.1 ++ (iw_ws a8 cI 64 u9.1.2.1 ++ (iw_ws a9 cI 8 u9.1.2.2.1 ++ (iw_ws b0 cI 8 kS ++ (iw_ws b1 cI 64 kR ++ (jw_ws a2 cJ 4 u9.1.2.2.2.1 ++ (jw_ws a0 cJ 1232 nf ++ (jw_ws a1 cJ 616 cf ++ (iw_ws a5 cI 4 sf ++ (jw_ws b4 cJ 4 sh ++ (jw_ws b2 cJ 4 ky ++ (jw_ws a3 cJ 16 u9.2)))))))))))))) (va_A (mo_ws m0 e0 (nI N) (nI n) (nI bc) (lN P) (lN Q) (lN G) (lN al) (lN pa) (lN pb) cl a0 a1 a2 a3 a4 a5 a6 a7 a8 a9 b0 b1 oc b2 b3 b4 b5 ++ (iw_ws a7 cI 256 bf ++ (iw_ws a8 cI 64 sc ++ (iw_ws a9 cI 8 st ++ (iw_ws b0 cI 8 kS ++ (iw_ws b1 cI 64 kR ++ (jw_ws a2 cJ 4 tf ++ (jw_ws a0 cJ 1232 nf ++ (jw_ws a1 cJ 616 cf ++ (iw_ws a5 cI 4 sf ++ (jw_ws b4 cJ 4 sh ++ (jw_ws b2 cJ 4 ky ++ (jw_ws a3 cJ 16 lf))))))))))))) sz)) 0 0 (va_A (mo_ws m0 e0 (nI N) (nI n) (nI bc) (lN P) (lN Q) (lN G) (lN al) (lN pa) (lN pb) cl a0 a1 a2 a3 a4 a5 a6 a7 a8 a9 b0 b1 oc b2 b3 b4 b5 ++ (iw_ws a7 cI 256 bf ++ (iw_ws a8 cI 64 sc ++ (iw_ws a9 cI 8 st ++ (iw_ws b0 cI 8 kS ++ (iw_ws b1 cI 64 kR ++ (jw_ws a2 cJ 4 tf ++ (jw_ws a0 cJ 1232 nf ++ (jw_ws a1 cJ 616 cf ++ (iw_ws a5 cI 4 sf ++ (jw_ws b4 cJ 4 sh ++ (jw_ws b2 cJ 4 ky ++ (jw_ws a3 cJ 16 lf))))))))))))) sz) := by
  refine Met.ofW (cc := b_Bm_makeShare) (maxL := 12) (ret := (some .int)) (by decide) rfl ?_
  intro p e s m args below meth c s₁ Bd hml hv
  obtain ⟨rfl, hsz, hP, hK, hD0⟩ := hv
  have hx := Bd.exec
  have hb := Bd.bytes
  have hr := Bd.returns
  have hts := atoms_spec (ws := w_Bm_makeShare) Bd.pre
  have hown : s.vm.findClass "BallotBoardModel" = some m.cls := findClass_of_methodNamed Bd.named
  have hlocks := Bd.notSynchronized
  subst hsz
  have hD := hD0.self (sz := s.heap.size)
  generalize hAe : va_A (mo_ws m0 e0 (nI N) (nI n) (nI bc) (lN P) (lN Q) (lN G) (lN al) (lN pa) (lN pb) cl a0 a1 a2 a3 a4 a5 a6 a7 a8 a9 b0 b1 oc b2 b3 b4 b5 ++ (iw_ws a7 cI 256 bf ++ (iw_ws a8 cI 64 sc ++ (iw_ws a9 cI 8 st ++ (iw_ws b0 cI 8 kS ++ (iw_ws b1 cI 64 kR ++ (jw_ws a2 cJ 4 tf ++ (jw_ws a0 cJ 1232 nf ++ (jw_ws a1 cJ 616 cf ++ (iw_ws a5 cI 4 sf ++ (jw_ws b4 cJ 4 sh ++ (jw_ws b2 cJ 4 ky ++ (jw_ws a3 cJ 16 lf))))))))))))) s.heap.size = A at hD ⊢
  have hA : ∀ q : Nat, s.heap.size ≤ q → A q := fun q h => by rw [← hAe]; exact Or.inr h
  have hS : va_S A s.heap s.heap [] := va_S.rf
  have hl := lv_entry ([.ref m0, .int (nI I), .long (lN X1), .long (lN W1)]) (n := 12) (Nat.le_of_ble_eq_true rfl)
  rw [lg_entry_eq]
  generalize (lg_sl ([.ref m0, .int (nI I), .long (lN X1), .long (lN W1)]) ++ List.replicate (12 - (lg_sl ([.ref m0, .int (nI I), .long (lN X1), .long (lN W1)])).length) Slot.unset).toArray = ls at hl ⊢
  have hl : lv_has ls 12 [(0, .ref m0), (1, .int (nI I)), (2, .long (lN X1)), (4, .long (lN W1))] := hl
  have hN0 := hclN hcl1
  obtain ⟨hPQ, h61F, hQ3, hG2, hGP, hGQ⟩ := hgr hN0
  have hpaP := hpa.2 hcl1
  refine lv_aload_n hx hb d_Bm_makeShare_0 rfl (lv_at hl 0 rfl) ?_
  refine lv_iconst (v := 0) hx hb d_Bm_makeShare_1 (by decide) ?_
  refine va_put (D := (dC, dI)) (ci := 8) (v := .int 0) (ty := .int) (C := "BallotBoardModel") (T := F_Bm) (N := 28) hx hb hts (fun w9 h9 => List.mem_cons_of_mem _ (i_Bm w9 h9)) t_Bm t_Bm_ok n_Bm hown hK hP hD hS 0 rfl rfl 0 (by decide) (hts _ (List.mem_cons_of_mem _ gk_919)) (fun _ h9 => h9) rfl (by decide +kernel) rfl rfl (Nat.le_of_ble_eq_true rfl) d_Bm_makeShare_2 (fun H locs hP hD hS => ?_)
  have hP : va_P (dC, dI) classes [(m0, .inr (8, [.int 0, .int (nI N), .int (nI n), .int (nI bc), .long (lN P), .long (lN Q), .long (lN G), .long (lN al), .long (lN pa), .long (lN pb), .int cl, .ref a0, .ref a1, .ref a2, .ref a3, .ref a4, .ref a5, .ref a6, .ref a7, .ref a8, .ref a9, .ref b0, .ref b1, .int (nI oc), .ref b2, .ref b3, .ref b4, .ref b5])), (a7, .inl (cI, 256, .inl bf)), (a8, .inl (cI, 64, .inl sc)), (a9, .inl (cI, 8, .inl st)), (b0, .inl (cI, 8, .inl kS)), (b1, .inl (cI, 64, .inl kR)), (a2, .inl (cJ, 4, .inr (.inl tf))), (a0, .inl (cJ, 1232, .inr (.inl nf))), (a1, .inl (cJ, 616, .inr (.inl cf))), (a5, .inl (cI, 4, .inl sf)), (b4, .inl (cJ, 4, .inr (.inl sh))), (b2, .inl (cJ, 4, .inr (.inl ky))), (a3, .inl (cJ, 16, .inr (.inl lf)))] H := hP
  have hD : va_D A [(m0, .inr (8, [.int 0, .int (nI N), .int (nI n), .int (nI bc), .long (lN P), .long (lN Q), .long (lN G), .long (lN al), .long (lN pa), .long (lN pb), .int cl, .ref a0, .ref a1, .ref a2, .ref a3, .ref a4, .ref a5, .ref a6, .ref a7, .ref a8, .ref a9, .ref b0, .ref b1, .int (nI oc), .ref b2, .ref b3, .ref b4, .ref b5])), (a7, .inl (cI, 256, .inl bf)), (a8, .inl (cI, 64, .inl sc)), (a9, .inl (cI, 8, .inl st)), (b0, .inl (cI, 8, .inl kS)), (b1, .inl (cI, 64, .inl kR)), (a2, .inl (cJ, 4, .inr (.inl tf))), (a0, .inl (cJ, 1232, .inr (.inl nf))), (a1, .inl (cJ, 616, .inr (.inl cf))), (a5, .inl (cI, 4, .inl sf)), (b4, .inl (cJ, 4, .inr (.inl sh))), (b2, .inl (cJ, 4, .inr (.inl ky))), (a3, .inl (cJ, 16, .inr (.inl lf)))] := hD
  refine lv_aload_n hx hb d_Bm_makeShare_5 rfl (lv_at hl 0 rfl) ?_
  refine lv_aload_n hx hb d_Bm_makeShare_6 rfl (lv_at hl 0 rfl) ?_
  refine va_get (D := (dC, dI)) (ci := 8) (v := .int cl) (C := "BallotBoardModel") (T := F_Bm) (N := 28) hx hb hts (fun w9 h9 => List.mem_cons_of_mem _ (i_Bm w9 h9)) hown hK hP 0 rfl rfl 10 (by decide) (hts _ (List.mem_cons_of_mem _ gk_929)) (fun _ h9 => h9) rfl d_Bm_makeShare_7 ?_
  refine lv_if_eq (tgt := 36) hx hb d_Bm_makeShare_10 (by decide) (fun c_1 => ?_) (fun c_1 => ?_)
  · -- taken
    exact absurd (hcl1.symm.trans c_1) (by decide)
  · -- not taken
    refine lv_iload_n hx hb d_Bm_makeShare_13 rfl (lv_at hl 1 rfl) ?_
    refine lv_iconst (v := 0) hx hb d_Bm_makeShare_14 (by decide) ?_
    refine lv_aload_n hx hb d_Bm_makeShare_15 rfl (lv_at hl 0 rfl) ?_
    refine va_get (D := (dC, dI)) (ci := 8) (v := .int (nI N)) (C := "BallotBoardModel") (T := F_Bm) (N := 28) hx hb hts (fun w9 h9 => List.mem_cons_of_mem _ (i_Bm w9 h9)) hown hK hP 0 rfl rfl 1 (by decide) (hts _ (List.mem_cons_of_mem _ gk_920)) (fun _ h9 => h9) rfl d_Bm_makeShare_16 ?_
    refine lv_iconst (v := 1) hx hb d_Bm_makeShare_19 (by decide) ?_
    refine lv_isub hx hb d_Bm_makeShare_20 ?_
    rw [show ((nI N) - 1 : Int32) = (nI (N - 1)) from nI_subI (b := 1) (by omega) rfl]
    refine va_calli (va_runS (As := [.int (nI I), .int 0, .int (nI (N - 1))]) (rest := [.ref m0]) ⟨hx, hb, hml, hown, hts⟩ (c_Bm_in l H (nI I) 0 (nI (N - 1))) (cwS 3 hts (gw_S gk_1027 gk_1028 gk_7 gk_1029) rfl rfl rfl (by decide +kernel) ⟨Nat.le_of_ble_eq_true rfl, Nat.le_of_ble_eq_true rfl⟩) ⟨fun a U g mk q => q, fun U hU hW => ⟨rfl, hU⟩⟩ rfl rfl hl.1 rfl (lv_room (Nat.le_of_ble_eq_true rfl)) d_Bm_makeShare_21 ⟨Nat.le_of_ble_eq_true rfl, Nat.le_of_ble_eq_true rfl⟩) hS (fun q _ h => h.elim) (fun q h => h.elim) (fun r21 u9 t9 H1 locs ht hvm hw hB hz1 hk1 hS => ?_)
    obtain rfl : H = H1 := hB.symm.trans ht
    have h21 : bz r21 (inN (nI I) N) := bz_in hN0 (by omega) rfl hw
    refine lv_if_eq (tgt := 40) hx hb d_Bm_makeShare_24 (by decide) (fun c_2 => ?_) (fun c_2 => ?_)
    · -- taken
      exact absurd (⟨I, rfl, hI⟩ : inN (nI I) N) (bz_f h21 c_2)
    · -- not taken
      have bo21 := bz_t h21 c_2
      refine lv_aload_n hx hb d_Bm_makeShare_27 rfl (lv_at hl 0 rfl) ?_
      refine va_get (D := (dC, dI)) (ci := 8) (v := .ref a5) (C := "BallotBoardModel") (T := F_Bm) (N := 28) hx hb hts (fun w9 h9 => List.mem_cons_of_mem _ (i_Bm w9 h9)) hown hK hP 0 rfl rfl 16 (by decide) (hts _ (List.mem_cons_of_mem _ gk_935)) (fun _ h9 => h9) rfl d_Bm_makeShare_28 ?_
      refine lv_iload_n hx hb d_Bm_makeShare_31 rfl (lv_at hl 1 rfl) ?_
      refine va_iald hx hb hK hP 9 1 rfl rfl (vp_in_nI (by omega) (by omega)) d_Bm_makeShare_32 ?_
      rw [show (sf (nI I : Int32).toNatClampNeg : Int32) = sf I from by rw [nI_clamp (by omega)]]
      refine lv_if_lt (tgt := 40) hx hb d_Bm_makeShare_33 (by decide) (fun c_3 => ?_) (fun c_3 => ?_)
      · -- taken
        refine lv_iconst (v := 0) hx hb d_Bm_makeShare_40 (by decide) ?_
        refine lv_iconst (v := 1) hx hb d_Bm_makeShare_41 (by decide) ?_
        have hPc := hP.sub (ws' := (mo_ws m0 0 (nI N) (nI n) (nI bc) (lN P) (lN Q) (lN G) (lN al) (lN pa) (lN pb) cl a0 a1 a2 a3 a4 a5 a6 a7 a8 a9 b0 b1 oc b2 b3 b4 b5)) [0] rfl
        have hDc := hD.sub (ws' := (mo_ws m0 0 (nI N) (nI n) (nI bc) (lN P) (lN Q) (lN G) (lN al) (lN pa) (lN pb) cl a0 a1 a2 a3 a4 a5 a6 a7 a8 a9 b0 b1 oc b2 b3 b4 b5)) [0] (by decide) rfl
        have hKc := hK.sub (tys' := [(cJ, .long), (cI, .int)]) [0, 1] rfl
        have hFc := va_free (wc := (mo_ws m0 0 (nI N) (nI n) (nI bc) (lN P) (lN Q) (lN G) (lN al) (lN pa) (lN pb) cl a0 a1 a2 a3 a4 a5 a6 a7 a8 a9 b0 b1 oc b2 b3 b4 b5)) hD hS hA [0] rfl
        refine va_calli (va_runV (As := [.int 0, .int 1]) (rest := []) ⟨hx, hb, hml, hown, hts⟩ (c_Bm_fails_0 l dC dI cJ cI H.size m0 (nI N) (nI n) (nI bc) (lN P) (lN Q) (lN G) (lN al) (lN pa) (lN pb) cl a0 a1 a2 a3 a4 a5 a6 a7 a8 a9 b0 b1 oc b2 b3 b4 b5 1) (cwV 2 hts (gw_V gk_1030 gk_1032 gp_27 gk_7 gk_1033) rfl rfl rfl (by decide +kernel) ⟨Nat.le_of_ble_eq_true rfl, Nat.le_of_ble_eq_true rfl⟩) ⟨fun a U g mk q => by obtain ⟨q0, q1, qP, qK, qD⟩ := q; exact ⟨q0, q1, qP, va_K.moved (u := U) (U := U.calling g mk a) (Vm.Alike.refl U.vm) qK, qD⟩, va_recv hK hP (ci := 8) (q0 := 0) rfl rfl, fun U hU hW => ⟨rfl, by rw [hU], by rw [hU]; exact hPc, va_K.moved hW.alike hKc, hDc.weaken (fun _ _ _ _ => trivial)⟩⟩ rfl rfl hl.1 rfl (lv_room (Nat.le_of_ble_eq_true rfl)) d_Bm_makeShare_42 ⟨Nat.le_of_ble_eq_true rfl, Nat.le_of_ble_eq_true rfl⟩) hS (fun q _ h => hFc q h) hFc (fun r_4 u9 t9 H1 locs ht hvm hw hB hz1 hk1 hS => ?_)
        have hw : r_4 = 0 := hw
        subst hw
        obtain ⟨hP1, hK1, hD1⟩ := hB
        rw [ht] at hP1
        obtain ⟨hP, hD⟩ := va_join (wr := [(a7, .inl (cI, 256, .inl bf)), (a8, .inl (cI, 64, .inl sc)), (a9, .inl (cI, 8, .inl st)), (b0, .inl (cI, 8, .inl kS)), (b1, .inl (cI, 64, .inl kR)), (a2, .inl (cJ, 4, .inr (.inl tf))), (a0, .inl (cJ, 1232, .inr (.inl nf))), (a1, .inl (cJ, 616, .inr (.inl cf))), (a5, .inl (cI, 4, .inl sf)), (b4, .inl (cJ, 4, .inr (.inl sh))), (b2, .inl (cJ, 4, .inr (.inl ky))), (a3, .inl (cJ, 16, .inr (.inl lf)))]) (w1 := [(m0, .inr (8, [.int 0, .int (nI N), .int (nI n), .int (nI bc), .long (lN P), .long (lN Q), .long (lN G), .long (lN al), .long (lN pa), .long (lN pb), .int cl, .ref a0, .ref a1, .ref a2, .ref a3, .ref a4, .ref a5, .ref a6, .ref a7, .ref a8, .ref a9, .ref b0, .ref b1, .int (nI oc), .ref b2, .ref b3, .ref b4, .ref b5]))]) hP hD [0] [1, 2, 3, 4, 5, 6, 7, 8, 9, 10, 11, 12] rfl rfl (by decide) (by decide) hk1 hFc hP1 hD1
        have hP := hP.sub (ws' := [(m0, .inr (8, [.int 0, .int (nI N), .int (nI n), .int (nI bc), .long (lN P), .long (lN Q), .long (lN G), .long (lN al), .long (lN pa), .long (lN pb), .int cl, .ref a0, .ref a1, .ref a2, .ref a3, .ref a4, .ref a5, .ref a6, .ref a7, .ref a8, .ref a9, .ref b0, .ref b1, .int (nI oc), .ref b2, .ref b3, .ref b4, .ref b5])), (a7, .inl (cI, 256, .inl bf)), (a8, .inl (cI, 64, .inl sc)), (a9, .inl (cI, 8, .inl st)), (b0, .inl (cI, 8, .inl kS)), (b1, .inl (cI, 64, .inl kR)), (a2, .inl (cJ, 4, .inr (.inl tf))), (a0, .inl (cJ, 1232, .inr (.inl nf))), (a1, .inl (cJ, 616, .inr (.inl cf))), (a5, .inl (cI, 4, .inl sf)), (b4, .inl (cJ, 4, .inr (.inl sh))), (b2, .inl (cJ, 4, .inr (.inl ky))), (a3, .inl (cJ, 16, .inr (.inl lf)))]) [12, 0, 1, 2, 3, 4, 5, 6, 7, 8, 9, 10, 11] rfl
        have hD := hD.sub (ws' := [(m0, .inr (8, [.int 0, .int (nI N), .int (nI n), .int (nI bc), .long (lN P), .long (lN Q), .long (lN G), .long (lN al), .long (lN pa), .long (lN pb), .int cl, .ref a0, .ref a1, .ref a2, .ref a3, .ref a4, .ref a5, .ref a6, .ref a7, .ref a8, .ref a9, .ref b0, .ref b1, .int (nI oc), .ref b2, .ref b3, .ref b4, .ref b5])), (a7, .inl (cI, 256, .inl bf)), (a8, .inl (cI, 64, .inl sc)), (a9, .inl (cI, 8, .inl st)), (b0, .inl (cI, 8, .inl kS)), (b1, .inl (cI, 64, .inl kR)), (a2, .inl (cJ, 4, .inr (.inl tf))), (a0, .inl (cJ, 1232, .inr (.inl nf))), (a1, .inl (cJ, 616, .inr (.inl cf))), (a5, .inl (cI, 4, .inl sf)), (b4, .inl (cJ, 4, .inr (.inl sh))), (b2, .inl (cJ, 4, .inr (.inl ky))), (a3, .inl (cJ, 16, .inr (.inl lf)))]) [12, 0, 1, 2, 3, 4, 5, 6, 7, 8, 9, 10, 11] (by decide) rfl
        generalize H1 = H at hP hS ⊢
        refine lv_if_ne (tgt := 92) hx hb d_Bm_makeShare_45 (by decide) (fun c_5 => ?_) (fun c_5 => ?_)
        · -- taken
          exact absurd rfl c_5
        · -- not taken
          refine lv_aload_n hx hb d_Bm_makeShare_48 rfl (lv_at hl 0 rfl) ?_
          refine lv_iload_n hx hb d_Bm_makeShare_49 rfl (lv_at hl 1 rfl) ?_
          refine lv_iconst (v := 0) hx hb d_Bm_makeShare_50 (by decide) ?_
          refine lv_aload_n hx hb d_Bm_makeShare_51 rfl (lv_at hl 0 rfl) ?_
          refine va_get (D := (dC, dI)) (ci := 8) (v := .int (nI N)) (C := "BallotBoardModel") (T := F_Bm) (N := 28) hx hb hts (fun w9 h9 => List.mem_cons_of_mem _ (i_Bm w9 h9)) hown hK hP 0 rfl rfl 1 (by decide) (hts _ (List.mem_cons_of_mem _ gk_920)) (fun _ h9 => h9) rfl d_Bm_makeShare_52 ?_
          refine lv_iconst (v := 1) hx hb d_Bm_makeShare_55 (by decide) ?_
          refine lv_isub hx hb d_Bm_makeShare_56 ?_
          rw [show ((nI N) - 1 : Int32) = (nI (N - 1)) from nI_subI (b := 1) (by omega) rfl]
          refine va_calli (va_runS (As := [.int (nI I), .int 0, .int (nI (N - 1))]) (rest := [.ref m0]) ⟨hx, hb, hml, hown, hts⟩ (c_Bm_in l H (nI I) 0 (nI (N - 1))) (cwS 3 hts (gw_S gk_1027 gk_1028 gk_7 gk_1029) rfl rfl rfl (by decide +kernel) ⟨Nat.le_of_ble_eq_true rfl, Nat.le_of_ble_eq_true rfl⟩) ⟨fun a U g mk q => q, fun U hU hW => ⟨rfl, hU⟩⟩ rfl rfl hl.1 rfl (lv_room (Nat.le_of_ble_eq_true rfl)) d_Bm_makeShare_57 ⟨Nat.le_of_ble_eq_true rfl, Nat.le_of_ble_eq_true rfl⟩) hS (fun q _ h => h.elim) (fun q h => h.elim) (fun r57 u9 t9 H1 locs ht hvm hw hB hz1 hk1 hS => ?_)
          obtain rfl : H = H1 := hB.symm.trans ht
          have h57 : bz r57 (inN (nI I) N) := bz_in hN0 (by omega) rfl hw
          refine lv_if_eq (tgt := 80) hx hb d_Bm_makeShare_60 (by decide) (fun c_6 => ?_) (fun c_6 => ?_)
          · -- taken
            exact absurd (⟨I, rfl, hI⟩ : inN (nI I) N) (bz_f h57 c_6)
          · -- not taken
            have bo57 := bz_t h57 c_6
            refine lv_aload_n hx hb d_Bm_makeShare_63 rfl (lv_at hl 0 rfl) ?_
            refine lv_lload_n hx hb d_Bm_makeShare_64 rfl (lv_at hl 2 rfl) ?_
            have hPc := hP.sub (ws' := (mo_ws m0 0 (nI N) (nI n) (nI bc) (lN P) (lN Q) (lN G) (lN al) (lN pa) (lN pb) cl a0 a1 a2 a3 a4 a5 a6 a7 a8 a9 b0 b1 oc b2 b3 b4 b5)) [0] rfl
            have hKc := hK.sub (tys' := [(cJ, .long), (cI, .int)]) [0, 1] rfl
            refine va_calli (va_runV (As := [.long (lN X1)]) (rest := [.ref m0]) ⟨hx, hb, hml, hown, hts⟩ (c_Bm_isExponent l H dC dI cJ cI m0 0 (nI N) (nI n) (nI bc) (lN al) (lN pa) (lN pb) cl a0 a1 a2 a3 a4 a5 a6 a7 a8 a9 b0 b1 oc b2 b3 b4 b5 P Q G (lN X1) hPc hPQ h61F hQ3 ) (cwV 1 hts (gw_V gk_1042 gk_1044 gp_29 gk_7 gk_1045) rfl rfl rfl (by decide +kernel) ⟨Nat.le_of_ble_eq_true rfl, Nat.le_of_ble_eq_true rfl⟩) ⟨fun a U g mk q => ⟨q.1, q.2.1, va_K.moved (u := U) (U := U.calling g mk a) (Vm.Alike.refl U.vm) q.2.2⟩, va_recv hK hP (ci := 8) (q0 := 0) rfl rfl, fun U hU hW => ⟨rfl, hU, va_K.moved hW.alike hKc⟩⟩ rfl rfl hl.1 rfl (lv_room (Nat.le_of_ble_eq_true rfl)) d_Bm_makeShare_65 ⟨Nat.le_of_ble_eq_true rfl, Nat.le_of_ble_eq_true rfl⟩) hS (fun q _ h => h.elim) (fun q h => h.elim) (fun r65 u9 t9 H1 locs ht hvm hw hB hz1 hk1 hS => ?_)
            obtain rfl : H = H1 := hB.symm.trans ht
            have h65 := hw
            refine lv_if_eq (tgt := 80) hx hb d_Bm_makeShare_68 (by decide) (fun c_7 => ?_) (fun c_7 => ?_)
            · -- taken
              exact absurd ⟨X1, rfl, hX9⟩ (bz_f h65 c_7)
            · -- not taken
              have bo65 := bz_t h65 c_7
              refine lv_aload_n hx hb d_Bm_makeShare_71 rfl (lv_at hl 0 rfl) ?_
              refine lv_lload hx hb d_Bm_makeShare_72 (lv_at hl 3 rfl) ?_
              have hPc := hP.sub (ws' := (mo_ws m0 0 (nI N) (nI n) (nI bc) (lN P) (lN Q) (lN G) (lN al) (lN pa) (lN pb) cl a0 a1 a2 a3 a4 a5 a6 a7 a8 a9 b0 b1 oc b2 b3 b4 b5)) [0] rfl
              have hKc := hK.sub (tys' := [(cJ, .long), (cI, .int)]) [0, 1] rfl
              refine va_calli (va_runV (As := [.long (lN W1)]) (rest := [.ref m0]) ⟨hx, hb, hml, hown, hts⟩ (c_Bm_isExponent l H dC dI cJ cI m0 0 (nI N) (nI n) (nI bc) (lN al) (lN pa) (lN pb) cl a0 a1 a2 a3 a4 a5 a6 a7 a8 a9 b0 b1 oc b2 b3 b4 b5 P Q G (lN W1) hPc hPQ h61F hQ3 ) (cwV 1 hts (gw_V gk_1042 gk_1044 gp_29 gk_7 gk_1045) rfl rfl rfl (by decide +kernel) ⟨Nat.le_of_ble_eq_true rfl, Nat.le_of_ble_eq_true rfl⟩) ⟨fun a U g mk q => ⟨q.1, q.2.1, va_K.moved (u := U) (U := U.calling g mk a) (Vm.Alike.refl U.vm) q.2.2⟩, va_recv hK hP (ci := 8) (q0 := 0) rfl rfl, fun U hU hW => ⟨rfl, hU, va_K.moved hW.alike hKc⟩⟩ rfl rfl hl.1 rfl (lv_room (Nat.le_of_ble_eq_true rfl)) d_Bm_makeShare_74 ⟨Nat.le_of_ble_eq_true rfl, Nat.le_of_ble_eq_true rfl⟩) hS (fun q _ h => h.elim) (fun q h => h.elim) (fun r74 u9 t9 H1 locs ht hvm hw hB hz1 hk1 hS => ?_)
              obtain rfl : H = H1 := hB.symm.trans ht
              have h74 := hw
              refine lv_if_ne (tgt := 84) hx hb d_Bm_makeShare_77 (by decide) (fun c_8 => ?_) (fun c_8 => ?_)
              · -- taken
                have bo74 := bz_t h74 c_8
                refine lv_iconst (v := 0) hx hb d_Bm_makeShare_84 (by decide) ?_
                refine lv_iconst (v := 2) hx hb d_Bm_makeShare_85 (by decide) ?_
                have hPc := hP.sub (ws' := (mo_ws m0 0 (nI N) (nI n) (nI bc) (lN P) (lN Q) (lN G) (lN al) (lN pa) (lN pb) cl a0 a1 a2 a3 a4 a5 a6 a7 a8 a9 b0 b1 oc b2 b3 b4 b5)) [0] rfl
                have hDc := hD.sub (ws' := (mo_ws m0 0 (nI N) (nI n) (nI bc) (lN P) (lN Q) (lN G) (lN al) (lN pa) (lN pb) cl a0 a1 a2 a3 a4 a5 a6 a7 a8 a9 b0 b1 oc b2 b3 b4 b5)) [0] (by decide) rfl
                have hKc := hK.sub (tys' := [(cJ, .long), (cI, .int)]) [0, 1] rfl
                have hFc := va_free (wc := (mo_ws m0 0 (nI N) (nI n) (nI bc) (lN P) (lN Q) (lN G) (lN al) (lN pa) (lN pb) cl a0 a1 a2 a3 a4 a5 a6 a7 a8 a9 b0 b1 oc b2 b3 b4 b5)) hD hS hA [0] rfl
                refine va_calli (va_runV (As := [.int 0, .int 2]) (rest := []) ⟨hx, hb, hml, hown, hts⟩ (c_Bm_fails_0 l dC dI cJ cI H.size m0 (nI N) (nI n) (nI bc) (lN P) (lN Q) (lN G) (lN al) (lN pa) (lN pb) cl a0 a1 a2 a3 a4 a5 a6 a7 a8 a9 b0 b1 oc b2 b3 b4 b5 2) (cwV 2 hts (gw_V gk_1030 gk_1032 gp_27 gk_7 gk_1033) rfl rfl rfl (by decide +kernel) ⟨Nat.le_of_ble_eq_true rfl, Nat.le_of_ble_eq_true rfl⟩) ⟨fun a U g mk q => by obtain ⟨q0, q1, qP, qK, qD⟩ := q; exact ⟨q0, q1, qP, va_K.moved (u := U) (U := U.calling g mk a) (Vm.Alike.refl U.vm) qK, qD⟩, va_recv hK hP (ci := 8) (q0 := 0) rfl rfl, fun U hU hW => ⟨rfl, by rw [hU], by rw [hU]; exact hPc, va_K.moved hW.alike hKc, hDc.weaken (fun _ _ _ _ => trivial)⟩⟩ rfl rfl hl.1 rfl (lv_room (Nat.le_of_ble_eq_true rfl)) d_Bm_makeShare_86 ⟨Nat.le_of_ble_eq_true rfl, Nat.le_of_ble_eq_true rfl⟩) hS (fun q _ h => hFc q h) hFc (fun r_9 u9 t9 H1 locs ht hvm hw hB hz1 hk1 hS => ?_)
                have hw : r_9 = 0 := hw
                subst hw
                obtain ⟨hP1, hK1, hD1⟩ := hB
                rw [ht] at hP1
                obtain ⟨hP, hD⟩ := va_join (wr := [(a7, .inl (cI, 256, .inl bf)), (a8, .inl (cI, 64, .inl sc)), (a9, .inl (cI, 8, .inl st)), (b0, .inl (cI, 8, .inl kS)), (b1, .inl (cI, 64, .inl kR)), (a2, .inl (cJ, 4, .inr (.inl tf))), (a0, .inl (cJ, 1232, .inr (.inl nf))), (a1, .inl (cJ, 616, .inr (.inl cf))), (a5, .inl (cI, 4, .inl sf)), (b4, .inl (cJ, 4, .inr (.inl sh))), (b2, .inl (cJ, 4, .inr (.inl ky))), (a3, .inl (cJ, 16, .inr (.inl lf)))]) (w1 := [(m0, .inr (8, [.int 0, .int (nI N), .int (nI n), .int (nI bc), .long (lN P), .long (lN Q), .long (lN G), .long (lN al), .long (lN pa), .long (lN pb), .int cl, .ref a0, .ref a1, .ref a2, .ref a3, .ref a4, .ref a5, .ref a6, .ref a7, .ref a8, .ref a9, .ref b0, .ref b1, .int (nI oc), .ref b2, .ref b3, .ref b4, .ref b5]))]) hP hD [0] [1, 2, 3, 4, 5, 6, 7, 8, 9, 10, 11, 12] rfl rfl (by decide) (by decide) hk1 hFc hP1 hD1
                have hP := hP.sub (ws' := [(m0, .inr (8, [.int 0, .int (nI N), .int (nI n), .int (nI bc), .long (lN P), .long (lN Q), .long (lN G), .long (lN al), .long (lN pa), .long (lN pb), .int cl, .ref a0, .ref a1, .ref a2, .ref a3, .ref a4, .ref a5, .ref a6, .ref a7, .ref a8, .ref a9, .ref b0, .ref b1, .int (nI oc), .ref b2, .ref b3, .ref b4, .ref b5])), (a7, .inl (cI, 256, .inl bf)), (a8, .inl (cI, 64, .inl sc)), (a9, .inl (cI, 8, .inl st)), (b0, .inl (cI, 8, .inl kS)), (b1, .inl (cI, 64, .inl kR)), (a2, .inl (cJ, 4, .inr (.inl tf))), (a0, .inl (cJ, 1232, .inr (.inl nf))), (a1, .inl (cJ, 616, .inr (.inl cf))), (a5, .inl (cI, 4, .inl sf)), (b4, .inl (cJ, 4, .inr (.inl sh))), (b2, .inl (cJ, 4, .inr (.inl ky))), (a3, .inl (cJ, 16, .inr (.inl lf)))]) [12, 0, 1, 2, 3, 4, 5, 6, 7, 8, 9, 10, 11] rfl
                have hD := hD.sub (ws' := [(m0, .inr (8, [.int 0, .int (nI N), .int (nI n), .int (nI bc), .long (lN P), .long (lN Q), .long (lN G), .long (lN al), .long (lN pa), .long (lN pb), .int cl, .ref a0, .ref a1, .ref a2, .ref a3, .ref a4, .ref a5, .ref a6, .ref a7, .ref a8, .ref a9, .ref b0, .ref b1, .int (nI oc), .ref b2, .ref b3, .ref b4, .ref b5])), (a7, .inl (cI, 256, .inl bf)), (a8, .inl (cI, 64, .inl sc)), (a9, .inl (cI, 8, .inl st)), (b0, .inl (cI, 8, .inl kS)), (b1, .inl (cI, 64, .inl kR)), (a2, .inl (cJ, 4, .inr (.inl tf))), (a0, .inl (cJ, 1232, .inr (.inl nf))), (a1, .inl (cJ, 616, .inr (.inl cf))), (a5, .inl (cI, 4, .inl sf)), (b4, .inl (cJ, 4, .inr (.inl sh))), (b2, .inl (cJ, 4, .inr (.inl ky))), (a3, .inl (cJ, 16, .inr (.inl lf)))]) [12, 0, 1, 2, 3, 4, 5, 6, 7, 8, 9, 10, 11] (by decide) rfl
                generalize H1 = H at hP hS ⊢
                refine lv_if_eq (tgt := 94) hx hb d_Bm_makeShare_89 (by decide) (fun c_10 => ?_) (fun c_10 => ?_)
                · -- taken
                  refine lv_aload_n hx hb d_Bm_makeShare_94 rfl (lv_at hl 0 rfl) ?_
                  refine lv_aload_n hx hb d_Bm_makeShare_95 rfl (lv_at hl 0 rfl) ?_
                  refine va_get (D := (dC, dI)) (ci := 8) (v := .long (lN pa)) (C := "BallotBoardModel") (T := F_Bm) (N := 28) hx hb hts (fun w9 h9 => List.mem_cons_of_mem _ (i_Bm w9 h9)) hown hK hP 0 rfl rfl 8 (by decide) (hts _ (List.mem_cons_of_mem _ gk_927)) (fun _ h9 => h9) rfl d_Bm_makeShare_96 ?_
                  refine lv_lload_n hx hb d_Bm_makeShare_99 rfl (lv_at hl 2 rfl) ?_
                  have hPc := hP.sub (ws' := (mo_ws m0 0 (nI N) (nI n) (nI bc) (lN P) (lN Q) (lN G) (lN al) (lN pa) (lN pb) cl a0 a1 a2 a3 a4 a5 a6 a7 a8 a9 b0 b1 oc b2 b3 b4 b5)) [0] rfl
                  have hKc := hK.sub (tys' := [(cJ, .long), (cI, .int)]) [0, 1] rfl
                  refine va_calll (va_runV (As := [.long (lN pa), .long (lN X1)]) (rest := []) ⟨hx, hb, hml, hown, hts⟩ (c_Bm_power2 l H dC dI cJ cI m0 0 (nI N) (nI n) (nI bc) (lN al) (lN pa) (lN pb) cl a0 a1 a2 a3 a4 a5 a6 a7 a8 a9 b0 b1 oc b2 b3 b4 b5 P Q G pa X1 hPc hPQ h61F hQ3 hpaP (by omega)) (cwV 2 hts (gw_V gk_1050 gk_1052 gp_31 gk_7 gk_1053) rfl rfl rfl (by decide +kernel) ⟨Nat.le_of_ble_eq_true rfl, Nat.le_of_ble_eq_true rfl⟩) ⟨fun a U g mk q => ⟨q.1, q.2.1, va_K.moved (u := U) (U := U.calling g mk a) (Vm.Alike.refl U.vm) q.2.2⟩, va_recv hK hP (ci := 8) (q0 := 0) rfl rfl, fun U hU hW => ⟨rfl, hU, va_K.moved hW.alike hKc⟩⟩ rfl rfl hl.1 rfl (lv_room (Nat.le_of_ble_eq_true rfl)) d_Bm_makeShare_100 ⟨Nat.le_of_ble_eq_true rfl, Nat.le_of_ble_eq_true rfl⟩) hS (fun q _ h => h.elim) (fun q h => h.elim) (fun r100 u9 t9 H1 locs ht hvm hw hB hz1 hk1 hS => ?_)
                  obtain rfl : H = H1 := hB.symm.trans ht
                  have hw : r100 = lN (pa ^ X1 % P) := hw
                  subst hw
                  refine lv_lstore (lv' := [(6, .long (lN (pa ^ X1 % P))), (0, .ref m0), (1, .int (nI I)), (2, .long (lN X1)), (4, .long (lN W1))]) hx hb d_Bm_makeShare_103 hl (by decide) rfl (fun ls hl => ?_)
                  refine lv_aload_n hx hb d_Bm_makeShare_105 rfl (lv_at hl 1 rfl) ?_
                  refine lv_ldc2 (v := 3) hx hb hown (hts _ (List.mem_cons_of_mem _ gk_1157)) d_Bm_makeShare_106 ?_
                  refine lv_iload_n hx hb d_Bm_makeShare_109 rfl (lv_at hl 2 rfl) ?_
                  refine lv_i2l (v := (nI I : Int32).toInt64) hx hb d_Bm_makeShare_110 rfl ?_
                  rw [show ((nI I : Int32).toInt64 : Int64) = (lN I) from i2l_nI (by omega)]
                  refine lv_aload_n hx hb d_Bm_makeShare_111 rfl (lv_at hl 1 rfl) ?_
                  refine va_get (D := (dC, dI)) (ci := 8) (v := .long (lN pa)) (C := "BallotBoardModel") (T := F_Bm) (N := 28) hx hb hts (fun w9 h9 => List.mem_cons_of_mem _ (i_Bm w9 h9)) hown hK hP 0 rfl rfl 8 (by decide) (hts _ (List.mem_cons_of_mem _ gk_927)) (fun _ h9 => h9) rfl d_Bm_makeShare_112 ?_
                  refine lv_lload hx hb d_Bm_makeShare_115 (lv_at hl 0 rfl) ?_
                  refine lv_aload_n hx hb d_Bm_makeShare_117 rfl (lv_at hl 1 rfl) ?_
                  refine lv_aload_n hx hb d_Bm_makeShare_118 rfl (lv_at hl 1 rfl) ?_
                  refine va_get (D := (dC, dI)) (ci := 8) (v := .long (lN G)) (C := "BallotBoardModel") (T := F_Bm) (N := 28) hx hb hts (fun w9 h9 => List.mem_cons_of_mem _ (i_Bm w9 h9)) hown hK hP 0 rfl rfl 6 (by decide) (hts _ (List.mem_cons_of_mem _ gk_925)) (fun _ h9 => h9) rfl d_Bm_makeShare_119 ?_
                  refine lv_lload hx hb d_Bm_makeShare_122 (lv_at hl 4 rfl) ?_
                  have hPc := hP.sub (ws' := (mo_ws m0 0 (nI N) (nI n) (nI bc) (lN P) (lN Q) (lN G) (lN al) (lN pa) (lN pb) cl a0 a1 a2 a3 a4 a5 a6 a7 a8 a9 b0 b1 oc b2 b3 b4 b5)) [0] rfl
                  have hKc := hK.sub (tys' := [(cJ, .long), (cI, .int)]) [0, 1] rfl
                  refine va_calll (vw_runV (As := [.long (lN G), .long (lN W1)]) (rest := [.long (lN (pa ^ X1 % P)), .long (lN pa), .long (lN I), .long 3, .ref m0]) ⟨hx, hb, hml, hown, hts⟩ (c_Bm_power2 l H dC dI cJ cI m0 0 (nI N) (nI n) (nI bc) (lN al) (lN pa) (lN pb) cl a0 a1 a2 a3 a4 a5 a6 a7 a8 a9 b0 b1 oc b2 b3 b4 b5 P Q G G W1 hPc hPQ h61F hQ3 hGP (by omega)) (cwV 2 hts (gw_V gk_1050 gk_1052 gp_31 gk_7 gk_1053) rfl rfl rfl (by decide +kernel) ⟨Nat.le_of_ble_eq_true rfl, Nat.le_of_ble_eq_true rfl⟩) (Nat.le_of_ble_eq_true rfl) ⟨fun a U g mk q => ⟨q.1, q.2.1, va_K.moved (u := U) (U := U.calling g mk a) (Vm.Alike.refl U.vm) q.2.2⟩, va_recv hK hP (ci := 8) (q0 := 0) rfl rfl, fun U hU hW => ⟨rfl, hU, va_K.moved hW.alike hKc⟩⟩ rfl rfl hl.1 rfl (vw_room (Nat.le_of_ble_eq_true rfl)) d_Bm_makeShare_124 ⟨Nat.le_of_ble_eq_true rfl, Nat.le_of_ble_eq_true rfl⟩) hS (fun q _ h => h.elim) (fun q h => h.elim) (fun r124 u9 t9 H1 locs ht hvm hw hB hz1 hk1 hS => ?_)
                  obtain rfl : H = H1 := hB.symm.trans ht
                  have hw : r124 = lN (G ^ W1 % P) := hw
                  subst hw
                  refine lv_aload_n hx hb d_Bm_makeShare_127 rfl (lv_at hl 1 rfl) ?_
                  refine lv_aload_n hx hb d_Bm_makeShare_128 rfl (lv_at hl 1 rfl) ?_
                  refine va_get (D := (dC, dI)) (ci := 8) (v := .long (lN pa)) (C := "BallotBoardModel") (T := F_Bm) (N := 28) hx hb hts (fun w9 h9 => List.mem_cons_of_mem _ (i_Bm w9 h9)) hown hK hP 0 rfl rfl 8 (by decide) (hts _ (List.mem_cons_of_mem _ gk_927)) (fun _ h9 => h9) rfl d_Bm_makeShare_129 ?_
                  refine lv_lload hx hb d_Bm_makeShare_132 (lv_at hl 4 rfl) ?_
                  have hPc := hP.sub (ws' := (mo_ws m0 0 (nI N) (nI n) (nI bc) (lN P) (lN Q) (lN G) (lN al) (lN pa) (lN pb) cl a0 a1 a2 a3 a4 a5 a6 a7 a8 a9 b0 b1 oc b2 b3 b4 b5)) [0] rfl
                  have hKc := hK.sub (tys' := [(cJ, .long), (cI, .int)]) [0, 1] rfl
                  refine va_calll (vw_runV (As := [.long (lN pa), .long (lN W1)]) (rest := [.long (lN (G ^ W1 % P)), .long (lN (pa ^ X1 % P)), .long (lN pa), .long (lN I), .long 3, .ref m0]) ⟨hx, hb, hml, hown, hts⟩ (c_Bm_power2 l H dC dI cJ cI m0 0 (nI N) (nI n) (nI bc) (lN al) (lN pa) (lN pb) cl a0 a1 a2 a3 a4 a5 a6 a7 a8 a9 b0 b1 oc b2 b3 b4 b5 P Q G pa W1 hPc hPQ h61F hQ3 hpaP (by omega)) (cwV 2 hts (gw_V gk_1050 gk_1052 gp_31 gk_7 gk_1053) rfl rfl rfl (by decide +kernel) ⟨Nat.le_of_ble_eq_true rfl, Nat.le_of_ble_eq_true rfl⟩) (Nat.le_of_ble_eq_true rfl) ⟨fun a U g mk q => ⟨q.1, q.2.1, va_K.moved (u := U) (U := U.calling g mk a) (Vm.Alike.refl U.vm) q.2.2⟩, va_recv hK hP (ci := 8) (q0 := 0) rfl rfl, fun U hU hW => ⟨rfl, hU, va_K.moved hW.alike hKc⟩⟩ rfl rfl hl.1 rfl (vw_room (Nat.le_of_ble_eq_true rfl)) d_Bm_makeShare_134 ⟨Nat.le_of_ble_eq_true rfl, Nat.le_of_ble_eq_true rfl⟩) hS (fun q _ h => h.elim) (fun q h => h.elim) (fun r134 u9 t9 H1 locs ht hvm hw hB hz1 hk1 hS => ?_)
                  obtain rfl : H = H1 := hB.symm.trans ht
                  have hw : r134 = lN (pa ^ W1 % P) := hw
                  subst hw
                  have hPc := hP.sub (ws' := (mo_ws m0 0 (nI N) (nI n) (nI bc) (lN P) (lN Q) (lN G) (lN al) (lN pa) (lN pb) cl a0 a1 a2 a3 a4 a5 a6 a7 a8 a9 b0 b1 oc b2 b3 b4 b5 ++ (iw_ws a7 cI 256 bf ++ (iw_ws a8 cI 64 sc ++ (iw_ws a9 cI 8 st ++ (iw_ws b0 cI 8 kS ++ (iw_ws b1 cI 64 kR ++ (jw_ws a2 cJ 4 tf ++ (jw_ws a3 cJ 16 lf))))))))) [0, 1, 2, 3, 4, 5, 6, 12] rfl
                  have hDc := hD.sub (ws' := (mo_ws m0 0 (nI N) (nI n) (nI bc) (lN P) (lN Q) (lN G) (lN al) (lN pa) (lN pb) cl a0 a1 a2 a3 a4 a5 a6 a7 a8 a9 b0 b1 oc b2 b3 b4 b5 ++ (iw_ws a7 cI 256 bf ++ (iw_ws a8 cI 64 sc ++ (iw_ws a9 cI 8 st ++ (iw_ws b0 cI 8 kS ++ (iw_ws b1 cI 64 kR ++ (jw_ws a2 cJ 4 tf ++ (jw_ws a3 cJ 16 lf))))))))) [0, 1, 2, 3, 4, 5, 6, 12] (by decide) rfl
                  have hKc := hK.sub (tys' := [(cJ, .long), (cI, .int)]) [0, 1] rfl
                  have hFc := va_free (wc := (mo_ws m0 0 (nI N) (nI n) (nI bc) (lN P) (lN Q) (lN G) (lN al) (lN pa) (lN pb) cl a0 a1 a2 a3 a4 a5 a6 a7 a8 a9 b0 b1 oc b2 b3 b4 b5 ++ (iw_ws a7 cI 256 bf ++ (iw_ws a8 cI 64 sc ++ (iw_ws a9 cI 8 st ++ (iw_ws b0 cI 8 kS ++ (iw_ws b1 cI 64 kR ++ (jw_ws a2 cJ 4 tf ++ (jw_ws a3 cJ 16 lf))))))))) hD hS hA [0, 1, 2, 3, 4, 5, 6, 12] rfl
                  refine va_calll (va_runV (As := [.long 3, .long (lN I), .long (lN pa), .long (lN (pa ^ X1 % P)), .long (lN (G ^ W1 % P)), .long (lN (pa ^ W1 % P))]) (rest := []) ⟨hx, hb, hml, hown, hts⟩ (c_Bm_hash6 l dC dI cJ cI H.size m0 0 (nI N) (nI n) (nI bc) (lN al) (lN pa) (lN pb) cl a0 a1 a2 a3 a4 a5 a6 a7 a8 a9 b0 b1 oc b2 b3 b4 b5 P Q G bf sc st tf lf 3 (lN I) (lN pa) (lN (pa ^ X1 % P)) (lN (G ^ W1 % P)) (lN (pa ^ W1 % P)) hPQ h61F hQ3) (cwV 6 hts (gw_V gk_1158 gk_1160 gp_50 gk_7 gk_1161) rfl rfl rfl (by decide +kernel) ⟨Nat.le_of_ble_eq_true rfl, Nat.le_of_ble_eq_true rfl⟩) ⟨fun a U g mk q => by obtain ⟨q0, q1, qP, qK, qD⟩ := q; exact ⟨q0, q1, qP, va_K.moved (u := U) (U := U.calling g mk a) (Vm.Alike.refl U.vm) qK, qD⟩, va_recv hK hP (ci := 8) (q0 := 0) rfl rfl, fun U hU hW => ⟨rfl, by rw [hU], by rw [hU]; exact hPc, va_K.moved hW.alike hKc, hDc.weaken (fun _ _ _ _ => trivial)⟩⟩ rfl rfl hl.1 rfl (lv_room (Nat.le_of_ble_eq_true rfl)) d_Bm_makeShare_137 ⟨Nat.le_of_ble_eq_true rfl, Nat.le_of_ble_eq_true rfl⟩) hS (fun q _ h => hFc q h) hFc (fun r_12 u9 t9 H1 locs ht hvm hw hB hz1 hk1 hS => ?_)
                  obtain ⟨⟨gbk_11, gsk_11, gtk_11, gfk_11, gok_11⟩, glk_11⟩ := u9
                  have hw : r_12 = lN (hsh Q [lN P, lN G, 3, lN I, lN pa, lN (pa ^ X1 % P), lN (G ^ W1 % P), lN (pa ^ W1 % P)]) := hw
                  subst hw
                  obtain ⟨hP1, hK1, hD1⟩ := hB
                  rw [ht] at hP1
                  obtain ⟨hP, hD⟩ := va_join (wr := [(a0, .inl (cJ, 1232, .inr (.inl nf))), (a1, .inl (cJ, 616, .inr (.inl cf))), (a5, .inl (cI, 4, .inl sf)), (b4, .inl (cJ, 4, .inr (.inl sh))), (b2, .inl (cJ, 4, .inr (.inl ky)))]) (w1 := [(m0, .inr (8, [.int 0, .int (nI N), .int (nI n), .int (nI bc), .long (lN P), .long (lN Q), .long (lN G), .long (lN al), .long (lN pa), .long (lN pb), .int cl, .ref a0, .ref a1, .ref a2, .ref a3, .ref a4, .ref a5, .ref a6, .ref a7, .ref a8, .ref a9, .ref b0, .ref b1, .int (nI gok_11), .ref b2, .ref b3, .ref b4, .ref b5])), (a7, .inl (cI, 256, .inl gbk_11)), (a8, .inl (cI, 64, .inl gsk_11)), (a9, .inl (cI, 8, .inl gtk_11)), (b0, .inl (cI, 8, .inl kS)), (b1, .inl (cI, 64, .inl kR)), (a2, .inl (cJ, 4, .inr (.inl gfk_11))), (a3, .inl (cJ, 16, .inr (.inl glk_11)))]) hP hD [0, 1, 2, 3, 4, 5, 6, 12] [7, 8, 9, 10, 11] rfl rfl (by decide) (by decide) hk1 hFc hP1 hD1
                  have hP := hP.sub (ws' := [(m0, .inr (8, [.int 0, .int (nI N), .int (nI n), .int (nI bc), .long (lN P), .long (lN Q), .long (lN G), .long (lN al), .long (lN pa), .long (lN pb), .int cl, .ref a0, .ref a1, .ref a2, .ref a3, .ref a4, .ref a5, .ref a6, .ref a7, .ref a8, .ref a9, .ref b0, .ref b1, .int (nI gok_11), .ref b2, .ref b3, .ref b4, .ref b5])), (a7, .inl (cI, 256, .inl gbk_11)), (a8, .inl (cI, 64, .inl gsk_11)), (a9, .inl (cI, 8, .inl gtk_11)), (b0, .inl (cI, 8, .inl kS)), (b1, .inl (cI, 64, .inl kR)), (a2, .inl (cJ, 4, .inr (.inl gfk_11))), (a0, .inl (cJ, 1232, .inr (.inl nf))), (a1, .inl (cJ, 616, .inr (.inl cf))), (a5, .inl (cI, 4, .inl sf)), (b4, .inl (cJ, 4, .inr (.inl sh))), (b2, .inl (cJ, 4, .inr (.inl ky))), (a3, .inl (cJ, 16, .inr (.inl glk_11)))]) [5, 6, 7, 8, 9, 10, 11, 0, 1, 2, 3, 4, 12] rfl
                  have hD := hD.sub (ws' := [(m0, .inr (8, [.int 0, .int (nI N), .int (nI n), .int (nI bc), .long (lN P), .long (lN Q), .long (lN G), .long (lN al), .long (lN pa), .long (lN pb), .int cl, .ref a0, .ref a1, .ref a2, .ref a3, .ref a4, .ref a5, .ref a6, .ref a7, .ref a8, .ref a9, .ref b0, .ref b1, .int (nI gok_11), .ref b2, .ref b3, .ref b4, .ref b5])), (a7, .inl (cI, 256, .inl gbk_11)), (a8, .inl (cI, 64, .inl gsk_11)), (a9, .inl (cI, 8, .inl gtk_11)), (b0, .inl (cI, 8, .inl kS)), (b1, .inl (cI, 64, .inl kR)), (a2, .inl (cJ, 4, .inr (.inl gfk_11))), (a0, .inl (cJ, 1232, .inr (.inl nf))), (a1, .inl (cJ, 616, .inr (.inl cf))), (a5, .inl (cI, 4, .inl sf)), (b4, .inl (cJ, 4, .inr (.inl sh))), (b2, .inl (cJ, 4, .inr (.inl ky))), (a3, .inl (cJ, 16, .inr (.inl glk_11)))]) [5, 6, 7, 8, 9, 10, 11, 0, 1, 2, 3, 4, 12] (by decide) rfl
                  generalize H1 = H at hP hS ⊢
                  rw [show (lN (hsh Q [lN P, lN G, 3, lN I, lN pa, lN (pa ^ X1 % P), lN (G ^ W1 % P), lN (pa ^ W1 % P)]) : Int64) = (lN (shcR P Q G pa I X1 W1)) from rfl]
                  refine lv_lstore (lv' := [(8, .long (lN (shcR P Q G pa I X1 W1))), (6, .long (lN (pa ^ X1 % P))), (0, .ref m0), (1, .int (nI I)), (2, .long (lN X1)), (4, .long (lN W1))]) hx hb d_Bm_makeShare_140 hl (by decide) rfl (fun ls hl => ?_)
                  refine lv_lload hx hb d_Bm_makeShare_142 (lv_at hl 5 rfl) ?_
                  refine lv_lload hx hb d_Bm_makeShare_144 (lv_at hl 0 rfl) ?_
                  refine lv_lload_n hx hb d_Bm_makeShare_146 rfl (lv_at hl 4 rfl) ?_
                  refine lv_aload_n hx hb d_Bm_makeShare_147 rfl (lv_at hl 2 rfl) ?_
                  refine va_get (D := (dC, dI)) (ci := 8) (v := .long (lN Q)) (C := "BallotBoardModel") (T := F_Bm) (N := 28) hx hb hts (fun w9 h9 => List.mem_cons_of_mem _ (i_Bm w9 h9)) hown hK hP 0 rfl rfl 5 (by decide) (hts _ (List.mem_cons_of_mem _ gk_924)) (fun _ h9 => h9) rfl d_Bm_makeShare_148 ?_
                  refine va_calll (va_runS (As := [.long (lN (shcR P Q G pa I X1 W1)), .long (lN X1), .long (lN Q)]) (rest := [.long (lN W1)]) ⟨hx, hb, hml, hown, hts⟩ (c_Bm_product l H (shcR P Q G pa I X1 W1) X1 Q (hsh_lt (by omega) _) (by omega) (by omega)) (cwS 3 hts (gw_S gk_1021 gk_1022 gk_7 gk_1023) rfl rfl rfl (by decide +kernel) ⟨Nat.le_of_ble_eq_true rfl, Nat.le_of_ble_eq_true rfl⟩) ⟨fun a U g mk q => q, fun U hU hW => ⟨rfl, hU⟩⟩ rfl rfl hl.1 rfl (lv_room (Nat.le_of_ble_eq_true rfl)) d_Bm_makeShare_151 ⟨Nat.le_of_ble_eq_true rfl, Nat.le_of_ble_eq_true rfl⟩) hS (fun q _ h => h.elim) (fun q h => h.elim) (fun r151 u9 t9 H1 locs ht hvm hw hB hz1 hk1 hS => ?_)
                  obtain rfl : H = H1 := hB.symm.trans ht
                  have hw : r151 = lN ((shcR P Q G pa I X1 W1) * X1 % Q) := hw
                  subst hw
                  refine lv_aload_n hx hb d_Bm_makeShare_154 rfl (lv_at hl 2 rfl) ?_
                  refine va_get (D := (dC, dI)) (ci := 8) (v := .long (lN Q)) (C := "BallotBoardModel") (T := F_Bm) (N := 28) hx hb hts (fun w9 h9 => List.mem_cons_of_mem _ (i_Bm w9 h9)) hown hK hP 0 rfl rfl 5 (by decide) (hts _ (List.mem_cons_of_mem _ gk_924)) (fun _ h9 => h9) rfl d_Bm_makeShare_155 ?_
                  refine va_calll (va_runS (As := [.long (lN W1), .long (lN ((shcR P Q G pa I X1 W1) * X1 % Q)), .long (lN Q)]) (rest := []) ⟨hx, hb, hml, hown, hts⟩ (c_Bm_sum l H W1 ((shcR P Q G pa I X1 W1) * X1 % Q) Q hW9 (Nat.mod_lt _ (by omega)) (by omega)) (cwS 3 hts (gw_S gk_1024 gk_1025 gk_7 gk_1026) rfl rfl rfl (by decide +kernel) ⟨Nat.le_of_ble_eq_true rfl, Nat.le_of_ble_eq_true rfl⟩) ⟨fun a U g mk q => q, fun U hU hW => ⟨rfl, hU⟩⟩ rfl rfl hl.1 rfl (lv_room (Nat.le_of_ble_eq_true rfl)) d_Bm_makeShare_158 ⟨Nat.le_of_ble_eq_true rfl, Nat.le_of_ble_eq_true rfl⟩) hS (fun q _ h => h.elim) (fun q h => h.elim) (fun r158 u9 t9 H1 locs ht hvm hw hB hz1 hk1 hS => ?_)
                  obtain rfl : H = H1 := hB.symm.trans ht
                  have hw : r158 = lN ((W1 + ((shcR P Q G pa I X1 W1) * X1 % Q)) % Q) := hw
                  subst hw
                  refine lv_lstore (lv' := [(10, .long (lN ((W1 + ((shcR P Q G pa I X1 W1) * X1 % Q)) % Q))), (8, .long (lN (shcR P Q G pa I X1 W1))), (6, .long (lN (pa ^ X1 % P))), (0, .ref m0), (1, .int (nI I)), (2, .long (lN X1)), (4, .long (lN W1))]) hx hb d_Bm_makeShare_161 hl (by decide) rfl (fun ls hl => ?_)
                  refine lv_aload_n hx hb d_Bm_makeShare_163 rfl (lv_at hl 3 rfl) ?_
                  refine lv_aload_n hx hb d_Bm_makeShare_164 rfl (lv_at hl 3 rfl) ?_
                  refine lv_iload_n hx hb d_Bm_makeShare_165 rfl (lv_at hl 4 rfl) ?_
                  refine lv_lload hx hb d_Bm_makeShare_166 (lv_at hl 2 rfl) ?_
                  refine lv_lload hx hb d_Bm_makeShare_168 (lv_at hl 1 rfl) ?_
                  refine lv_lload hx hb d_Bm_makeShare_170 (lv_at hl 0 rfl) ?_
                  refine lv_aload_n hx hb d_Bm_makeShare_172 rfl (lv_at hl 3 rfl) ?_
                  refine va_get (D := (dC, dI)) (ci := 8) (v := .ref b2) (C := "BallotBoardModel") (T := F_Bm) (N := 28) hx hb hts (fun w9 h9 => List.mem_cons_of_mem _ (i_Bm w9 h9)) hown hK hP 0 rfl rfl 24 (by decide) (hts _ (List.mem_cons_of_mem _ gk_943)) (fun _ h9 => h9) rfl d_Bm_makeShare_173 ?_
                  refine lv_iload_n hx hb d_Bm_makeShare_176 rfl (lv_at hl 4 rfl) ?_
                  refine va_lald hx hb hK hP 11 0 rfl rfl (vp_in_nI (by omega) (by omega)) d_Bm_makeShare_177 ?_
                  rw [show (ky (nI I : Int32).toNatClampNeg : Int64) = ky I from by rw [nI_clamp (by omega)]]
                  rw [show (ky I : Int64) = (lN (ko I)) from (hky I hI hcl1).1]
                  refine lv_aload_n hx hb d_Bm_makeShare_178 rfl (lv_at hl 3 rfl) ?_
                  refine va_get (D := (dC, dI)) (ci := 8) (v := .long (lN pa)) (C := "BallotBoardModel") (T := F_Bm) (N := 28) hx hb hts (fun w9 h9 => List.mem_cons_of_mem _ (i_Bm w9 h9)) hown hK hP 0 rfl rfl 8 (by decide) (hts _ (List.mem_cons_of_mem _ gk_927)) (fun _ h9 => h9) rfl d_Bm_makeShare_179 ?_
                  have hPc := hP.sub (ws' := (mo_ws m0 0 (nI N) (nI n) (nI bc) (lN P) (lN Q) (lN G) (lN al) (lN pa) (lN pb) cl a0 a1 a2 a3 a4 a5 a6 a7 a8 a9 b0 b1 gok_11 b2 b3 b4 b5 ++ (iw_ws a7 cI 256 gbk_11 ++ (iw_ws a8 cI 64 gsk_11 ++ (iw_ws a9 cI 8 gtk_11 ++ (iw_ws b0 cI 8 kS ++ (iw_ws b1 cI 64 kR ++ (jw_ws a2 cJ 4 gfk_11 ++ (jw_ws a3 cJ 16 glk_11))))))))) [0, 1, 2, 3, 4, 5, 6, 12] rfl
                  have hDc := hD.sub (ws' := (mo_ws m0 0 (nI N) (nI n) (nI bc) (lN P) (lN Q) (lN G) (lN al) (lN pa) (lN pb) cl a0 a1 a2 a3 a4 a5 a6 a7 a8 a9 b0 b1 gok_11 b2 b3 b4 b5 ++ (iw_ws a7 cI 256 gbk_11 ++ (iw_ws a8 cI 64 gsk_11 ++ (iw_ws a9 cI 8 gtk_11 ++ (iw_ws b0 cI 8 kS ++ (iw_ws b1 cI 64 kR ++ (jw_ws a2 cJ 4 gfk_11 ++ (jw_ws a3 cJ 16 glk_11))))))))) [0, 1, 2, 3, 4, 5, 6, 12] (by decide) rfl
                  have hKc := hK.sub (tys' := [(cJ, .long), (cI, .int)]) [0, 1] rfl
                  have hFc := va_free (wc := (mo_ws m0 0 (nI N) (nI n) (nI bc) (lN P) (lN Q) (lN G) (lN al) (lN pa) (lN pb) cl a0 a1 a2 a3 a4 a5 a6 a7 a8 a9 b0 b1 gok_11 b2 b3 b4 b5 ++ (iw_ws a7 cI 256 gbk_11 ++ (iw_ws a8 cI 64 gsk_11 ++ (iw_ws a9 cI 8 gtk_11 ++ (iw_ws b0 cI 8 kS ++ (iw_ws b1 cI 64 kR ++ (jw_ws a2 cJ 4 gfk_11 ++ (jw_ws a3 cJ 16 glk_11))))))))) hD hS hA [0, 1, 2, 3, 4, 5, 6, 12] rfl
                  refine va_calli (va_runV (As := [.int (nI I), .long (lN (pa ^ X1 % P)), .long (lN (shcR P Q G pa I X1 W1)), .long (lN ((W1 + ((shcR P Q G pa I X1 W1) * X1 % Q)) % Q)), .long (lN (ko I)), .long (lN pa)]) (rest := [.ref m0]) ⟨hx, hb, hml, hown, hts⟩ (c_Bm_shareHolds l dC dI cJ cI H.size m0 0 (nI N) (nI n) (nI bc) (lN al) (lN pa) (lN pb) cl a0 a1 a2 a3 a4 a5 a6 a7 a8 a9 b0 b1 gok_11 b2 b3 b4 b5 P Q G gbk_11 gsk_11 gtk_11 gfk_11 glk_11 I (ko I) pa (lN (pa ^ X1 % P)) (lN (shcR P Q G pa I X1 W1)) (lN ((W1 + ((shcR P Q G pa I X1 W1) * X1 % Q)) % Q)) hPQ h61F hQ3 hG2 hGP hGQ (by omega) (hky I hI hcl1).2.1 (hky I hI hcl1).2.2 hpaP) (cwV 6 hts (gw_V gk_1153 gk_1155 gp_49 gk_7 gk_1156) rfl rfl rfl (by decide +kernel) ⟨Nat.le_of_ble_eq_true rfl, Nat.le_of_ble_eq_true rfl⟩) ⟨fun a U g mk q => by obtain ⟨q0, q1, qP, qK, qD⟩ := q; exact ⟨q0, q1, qP, va_K.moved (u := U) (U := U.calling g mk a) (Vm.Alike.refl U.vm) qK, qD⟩, va_recv hK hP (ci := 8) (q0 := 0) rfl rfl, fun U hU hW => ⟨rfl, by rw [hU], by rw [hU]; exact hPc, va_K.moved hW.alike hKc, hDc.weaken (fun _ _ _ _ => trivial)⟩⟩ rfl rfl hl.1 rfl (lv_room (Nat.le_of_ble_eq_true rfl)) d_Bm_makeShare_182 ⟨Nat.le_of_ble_eq_true rfl, Nat.le_of_ble_eq_true rfl⟩) hS (fun q _ h => hFc q h) hFc (fun r_14 u9 t9 H1 locs ht hvm hw hB hz1 hk1 hS => ?_)
                  obtain ⟨⟨gbk_13, gsk_13, gtk_13, gfk_13, gok_13⟩, glk_13⟩ := u9
                  have hr_14 := hw
                  obtain ⟨hP1, hK1, hD1⟩ := hB
                  rw [ht] at hP1
                  obtain ⟨hP, hD⟩ := va_join (wr := [(a0, .inl (cJ, 1232, .inr (.inl nf))), (a1, .inl (cJ, 616, .inr (.inl cf))), (a5, .inl (cI, 4, .inl sf)), (b4, .inl (cJ, 4, .inr (.inl sh))), (b2, .inl (cJ, 4, .inr (.inl ky)))]) (w1 := [(m0, .inr (8, [.int 0, .int (nI N), .int (nI n), .int (nI bc), .long (lN P), .long (lN Q), .long (lN G), .long (lN al), .long (lN pa), .long (lN pb), .int cl, .ref a0, .ref a1, .ref a2, .ref a3, .ref a4, .ref a5, .ref a6, .ref a7, .ref a8, .ref a9, .ref b0, .ref b1, .int (nI gok_13), .ref b2, .ref b3, .ref b4, .ref b5])), (a7, .inl (cI, 256, .inl gbk_13)), (a8, .inl (cI, 64, .inl gsk_13)), (a9, .inl (cI, 8, .inl gtk_13)), (b0, .inl (cI, 8, .inl kS)), (b1, .inl (cI, 64, .inl kR)), (a2, .inl (cJ, 4, .inr (.inl gfk_13))), (a3, .inl (cJ, 16, .inr (.inl glk_13)))]) hP hD [0, 1, 2, 3, 4, 5, 6, 12] [7, 8, 9, 10, 11] rfl rfl (by decide) (by decide) hk1 hFc hP1 hD1
                  have hP := hP.sub (ws' := [(m0, .inr (8, [.int 0, .int (nI N), .int (nI n), .int (nI bc), .long (lN P), .long (lN Q), .long (lN G), .long (lN al), .long (lN pa), .long (lN pb), .int cl, .ref a0, .ref a1, .ref a2, .ref a3, .ref a4, .ref a5, .ref a6, .ref a7, .ref a8, .ref a9, .ref b0, .ref b1, .int (nI gok_13), .ref b2, .ref b3, .ref b4, .ref b5])), (a7, .inl (cI, 256, .inl gbk_13)), (a8, .inl (cI, 64, .inl gsk_13)), (a9, .inl (cI, 8, .inl gtk_13)), (b0, .inl (cI, 8, .inl kS)), (b1, .inl (cI, 64, .inl kR)), (a2, .inl (cJ, 4, .inr (.inl gfk_13))), (a0, .inl (cJ, 1232, .inr (.inl nf))), (a1, .inl (cJ, 616, .inr (.inl cf))), (a5, .inl (cI, 4, .inl sf)), (b4, .inl (cJ, 4, .inr (.inl sh))), (b2, .inl (cJ, 4, .inr (.inl ky))), (a3, .inl (cJ, 16, .inr (.inl glk_13)))]) [5, 6, 7, 8, 9, 10, 11, 0, 1, 2, 3, 4, 12] rfl
                  have hD := hD.sub (ws' := [(m0, .inr (8, [.int 0, .int (nI N), .int (nI n), .int (nI bc), .long (lN P), .long (lN Q), .long (lN G), .long (lN al), .long (lN pa), .long (lN pb), .int cl, .ref a0, .ref a1, .ref a2, .ref a3, .ref a4, .ref a5, .ref a6, .ref a7, .ref a8, .ref a9, .ref b0, .ref b1, .int (nI gok_13), .ref b2, .ref b3, .ref b4, .ref b5])), (a7, .inl (cI, 256, .inl gbk_13)), (a8, .inl (cI, 64, .inl gsk_13)), (a9, .inl (cI, 8, .inl gtk_13)), (b0, .inl (cI, 8, .inl kS)), (b1, .inl (cI, 64, .inl kR)), (a2, .inl (cJ, 4, .inr (.inl gfk_13))), (a0, .inl (cJ, 1232, .inr (.inl nf))), (a1, .inl (cJ, 616, .inr (.inl cf))), (a5, .inl (cI, 4, .inl sf)), (b4, .inl (cJ, 4, .inr (.inl sh))), (b2, .inl (cJ, 4, .inr (.inl ky))), (a3, .inl (cJ, 16, .inr (.inl glk_13)))]) [5, 6, 7, 8, 9, 10, 11, 0, 1, 2, 3, 4, 12] (by decide) rfl
                  generalize H1 = H at hP hS ⊢
                  refine lv_if_ne (tgt := 192) hx hb d_Bm_makeShare_185 (by decide) (fun c_15 => ?_) (fun c_15 => ?_)
                  · -- taken
                    exact absurd (bz_t hr_14 c_15) hh
                  · -- not taken
                    have bo_14 := bz_f hr_14 c_15
                    refine lv_iconst (v := 1) hx hb d_Bm_makeShare_188 (by decide) ?_
                    refine lv_goto (tgt := 193) hx hb d_Bm_makeShare_189 (by decide) ?_
                    refine lv_iconst (v := 2) hx hb d_Bm_makeShare_193 (by decide) ?_
                    have hPc := hP.sub (ws' := (mo_ws m0 0 (nI N) (nI n) (nI bc) (lN P) (lN Q) (lN G) (lN al) (lN pa) (lN pb) cl a0 a1 a2 a3 a4 a5 a6 a7 a8 a9 b0 b1 gok_13 b2 b3 b4 b5)) [0] rfl
                    have hDc := hD.sub (ws' := (mo_ws m0 0 (nI N) (nI n) (nI bc) (lN P) (lN Q) (lN G) (lN al) (lN pa) (lN pb) cl a0 a1 a2 a3 a4 a5 a6 a7 a8 a9 b0 b1 gok_13 b2 b3 b4 b5)) [0] (by decide) rfl
                    have hKc := hK.sub (tys' := [(cJ, .long), (cI, .int)]) [0, 1] rfl
                    have hFc := va_free (wc := (mo_ws m0 0 (nI N) (nI n) (nI bc) (lN P) (lN Q) (lN G) (lN al) (lN pa) (lN pb) cl a0 a1 a2 a3 a4 a5 a6 a7 a8 a9 b0 b1 gok_13 b2 b3 b4 b5)) hD hS hA [0] rfl
                    refine va_calli (va_runV (As := [.int 1, .int 2]) (rest := []) ⟨hx, hb, hml, hown, hts⟩ (c_Bm_fails_1 l dC dI cJ cI H.size m0 (nI N) (nI n) (nI bc) (lN P) (lN Q) (lN G) (lN al) (lN pa) (lN pb) cl a0 a1 a2 a3 a4 a5 a6 a7 a8 a9 b0 b1 gok_13 b2 b3 b4 b5 2 (by decide)) (cwV 2 hts (gw_V gk_1030 gk_1032 gp_27 gk_7 gk_1033) rfl rfl rfl (by decide +kernel) ⟨Nat.le_of_ble_eq_true rfl, Nat.le_of_ble_eq_true rfl⟩) ⟨fun a U g mk q => by obtain ⟨q0, q1, qP, qK, qD⟩ := q; exact ⟨q0, q1, qP, va_K.moved (u := U) (U := U.calling g mk a) (Vm.Alike.refl U.vm) qK, qD⟩, va_recv hK hP (ci := 8) (q0 := 0) rfl rfl, fun U hU hW => ⟨rfl, by rw [hU], by rw [hU]; exact hPc, va_K.moved hW.alike hKc, hDc.weaken (fun _ _ _ _ => trivial)⟩⟩ rfl rfl hl.1 rfl (lv_room (Nat.le_of_ble_eq_true rfl)) d_Bm_makeShare_194 ⟨Nat.le_of_ble_eq_true rfl, Nat.le_of_ble_eq_true rfl⟩) hS (fun q _ h => hFc q h) hFc (fun r_16 u9 t9 H1 locs ht hvm hw hB hz1 hk1 hS => ?_)
                    have hw : r_16 = 1 := hw
                    subst hw
                    obtain ⟨hP1, hK1, hD1⟩ := hB
                    rw [ht] at hP1
                    obtain ⟨hP, hD⟩ := va_join (wr := [(a7, .inl (cI, 256, .inl gbk_13)), (a8, .inl (cI, 64, .inl gsk_13)), (a9, .inl (cI, 8, .inl gtk_13)), (b0, .inl (cI, 8, .inl kS)), (b1, .inl (cI, 64, .inl kR)), (a2, .inl (cJ, 4, .inr (.inl gfk_13))), (a0, .inl (cJ, 1232, .inr (.inl nf))), (a1, .inl (cJ, 616, .inr (.inl cf))), (a5, .inl (cI, 4, .inl sf)), (b4, .inl (cJ, 4, .inr (.inl sh))), (b2, .inl (cJ, 4, .inr (.inl ky))), (a3, .inl (cJ, 16, .inr (.inl glk_13)))]) (w1 := [(m0, .inr (8, [.int 2, .int (nI N), .int (nI n), .int (nI bc), .long (lN P), .long (lN Q), .long (lN G), .long (lN al), .long (lN pa), .long (lN pb), .int cl, .ref a0, .ref a1, .ref a2, .ref a3, .ref a4, .ref a5, .ref a6, .ref a7, .ref a8, .ref a9, .ref b0, .ref b1, .int (nI gok_13), .ref b2, .ref b3, .ref b4, .ref b5]))]) hP hD [0] [1, 2, 3, 4, 5, 6, 7, 8, 9, 10, 11, 12] rfl rfl (by decide) (by decide) hk1 hFc hP1 hD1
                    have hP := hP.sub (ws' := [(m0, .inr (8, [.int 2, .int (nI N), .int (nI n), .int (nI bc), .long (lN P), .long (lN Q), .long (lN G), .long (lN al), .long (lN pa), .long (lN pb), .int cl, .ref a0, .ref a1, .ref a2, .ref a3, .ref a4, .ref a5, .ref a6, .ref a7, .ref a8, .ref a9, .ref b0, .ref b1, .int (nI gok_13), .ref b2, .ref b3, .ref b4, .ref b5])), (a7, .inl (cI, 256, .inl gbk_13)), (a8, .inl (cI, 64, .inl gsk_13)), (a9, .inl (cI, 8, .inl gtk_13)), (b0, .inl (cI, 8, .inl kS)), (b1, .inl (cI, 64, .inl kR)), (a2, .inl (cJ, 4, .inr (.inl gfk_13))), (a0, .inl (cJ, 1232, .inr (.inl nf))), (a1, .inl (cJ, 616, .inr (.inl cf))), (a5, .inl (cI, 4, .inl sf)), (b4, .inl (cJ, 4, .inr (.inl sh))), (b2, .inl (cJ, 4, .inr (.inl ky))), (a3, .inl (cJ, 16, .inr (.inl glk_13)))]) [12, 0, 1, 2, 3, 4, 5, 6, 7, 8, 9, 10, 11] rfl
                    have hD := hD.sub (ws' := [(m0, .inr (8, [.int 2, .int (nI N), .int (nI n), .int (nI bc), .long (lN P), .long (lN Q), .long (lN G), .long (lN al), .long (lN pa), .long (lN pb), .int cl, .ref a0, .ref a1, .ref a2, .ref a3, .ref a4, .ref a5, .ref a6, .ref a7, .ref a8, .ref a9, .ref b0, .ref b1, .int (nI gok_13), .ref b2, .ref b3, .ref b4, .ref b5])), (a7, .inl (cI, 256, .inl gbk_13)), (a8, .inl (cI, 64, .inl gsk_13)), (a9, .inl (cI, 8, .inl gtk_13)), (b0, .inl (cI, 8, .inl kS)), (b1, .inl (cI, 64, .inl kR)), (a2, .inl (cJ, 4, .inr (.inl gfk_13))), (a0, .inl (cJ, 1232, .inr (.inl nf))), (a1, .inl (cJ, 616, .inr (.inl cf))), (a5, .inl (cI, 4, .inl sf)), (b4, .inl (cJ, 4, .inr (.inl sh))), (b2, .inl (cJ, 4, .inr (.inl ky))), (a3, .inl (cJ, 16, .inr (.inl glk_13)))]) [12, 0, 1, 2, 3, 4, 5, 6, 7, 8, 9, 10, 11] (by decide) rfl
                    generalize H1 = H at hP hS ⊢
                    refine lv_if_eq (tgt := 202) hx hb d_Bm_makeShare_197 (by decide) (fun c_17 => ?_) (fun c_17 => ?_)
                    · -- taken
                      exact absurd c_17 (by decide)
                    · -- not taken
                      refine lv_iconst (v := 0) hx hb d_Bm_makeShare_200 (by decide) ?_
                      exact W.iret (v := 0) hx hb hr (fun t ht9 hW => ⟨⟨_, ((gbk_13, gsk_13, gtk_13, gfk_13, gok_13), glk_13), rfl, trivial, by rw [ht9]; exact hP, va_K.moved hW.alike hK, hD⟩, hS.F ht9⟩) hS.2.2 d_Bm_makeShare_201
                · -- not taken
                  exact absurd rfl c_10
              · -- not taken
                exact absurd ⟨W1, rfl, hW9⟩ (bz_f h74 c_8)
      · -- not taken
        exact absurd ((rK_neg hrs hn (show I < 4 by omega)).mpr hs0) c_3
set_option maxHeartbeats 8000000 in
set_option maxRecDepth 100000 in
theorem c_Bm_makeShare_0 (l : Launch) (dC : Nat → ClassId) (dI : Nat → Nat → Nat) (cJ cI : ClassId) (sz : Nat) (m0 : Nat) (e0 : Int32) (N n bc P Q G al pa pb : Nat) (cl : Int32) (a0 a1 a2 a3 a4 a5 a6 a7 a8 a9 b0 b1 oc b2 b3 b4 b5 : Nat) (bf sc st sf : Nat → Int32) (tf nf cf sh ky lf : Nat → Int64) (so ko : Nat → Nat) (I X1 W1 : Nat) (hN : N ≤ 4) (hgr : 0 < N → gfx P Q G) (hcl : cl = 0 ∨ cl = 1) (hclN : cl = 1 → 0 < N) (hn : n ≤ 154) (hrs : rK 4 n so sf sh) (hky : ∀ i, i < N → cl = 1 → ky i = lN (ko i) ∧ ko i < P ∧ ko i ^ Q % P = 1) (hpa : pa < 2 ^ 61 ∧ (cl = 1 → pa < P)) (hcl1 : cl = 1) (hI : I < N) (hs0 : so I = 0) (hn1 : n < 154) (hn0 : 0 < n) (hX9 : X1 < Q) (hW9 : W1 < Q) (hh : shaHd P Q G (ko I) pa I (lN (pa ^ X1 % P)) (lN (shcR P Q G pa I X1 W1)) (lN ((W1 + (shcR P Q G pa I X1 W1) * X1 % Q) % Q))) : Met l y_Bm_makeShare w_Bm_makeShare ({ frames := 7, cells := 0, slots := 0, locals := 224 }) (va_Pc [.ref m0, .int (nI I), .long (lN X1), .long (lN W1)] (fun U => U.heap.size = sz ∧ va_P (dC, dI) classes (mo_ws m0 e0 (nI N) (nI n) (nI bc) (lN P) (lN Q) (lN G) (lN al) (lN pa) (lN pb) cl a0 a1 a2 a3 a4 a5 a6 a7 a8 a9 b0 b1 oc b2 b3 b4 b5 ++ (iw_ws a7 cI 256 bf ++ (iw_ws a8 cI 64 sc ++ (iw_ws a9 cI 8 st ++ (iw_ws b0 cI 8 kS ++ (iw_ws b1 cI 64 kR ++ (jw_ws a2 cJ 4 tf ++ (jw_ws a0 cJ 1232 nf ++ (jw_ws a1 cJ 616 cf ++ (iw_ws a5 cI 4 sf ++ (jw_ws b4 cJ 4 sh ++ (jw_ws b2 cJ 4 ky ++ (jw_ws a3 cJ 16 lf))))))))))))) U.heap ∧ va_K (dC, dI) classes [(cJ, .long), (cI, .int)] U ∧ va_D (fun _ => True) (mo_ws m0 e0 (nI N) (nI n) (nI bc) (lN P) (lN Q) (lN G) (lN al) (lN pa) (lN pb) cl a0 a1 a2 a3 a4 a5 a6 a7 a8 a9 b0 b1 oc b2 b3 b4 b5 ++ (iw_ws a7 cI 256 bf ++ (iw_ws a8 cI 64 sc ++ (iw_ws a9 cI 8 st ++ (iw_ws b0 cI 8 kS ++ (iw_ws b1 cI 64 kR ++ (jw_ws a2 cJ 4 tf ++ (jw_ws a0 cJ 1232 nf ++ (jw_ws a1 cJ 616 cf ++ (iw_ws a5 cI 4 sf ++ (jw_ws b4 cJ 4 sh ++ (jw_ws b2 cJ 4 ky ++ (jw_ws a3 cJ 16 lf))))))))))))))) (va_Qi (fun (r : Int32) (u9 : DU × (Nat → Int64)) => r = nI n) (fun u9 t => va_P (dC, dI) classes (mo_ws m0 0 (nI N) (nI (n + 1)) (nI bc) (lN P) (lN Q) (lN G) (lN al) (lN pa) (lN pb) cl a0 a1 a2 a3 a4 a5 a6 a7 a8 a9 b0 b1 u9.1.2.2.2.2 b2 b3 b4 b5 ++ (iw_ws a7 cI 256 u9.1.1 ++ (iw_ws a8 cI 64 u9.1.2.1 ++ (iw_ws a9 cI 8 u9.1.2.2.1 ++ (iw_ws b0 cI 8 kS ++ (iw_ws b1 cI 64 kR ++ (jw_ws a2 cJ 4 u9.1.2.2.2.1 ++ (jw_ws a0 cJ 1232 (w8 nf (8 * n) (lN 3) (lN I) (lN (pa ^ X1 % P)) (lN (shcR P Q G pa I X1 W1)) (lN ((W1 + (shcR P Q G pa I X1 W1) * X1 % Q) % Q)) 0 0 0) ++ (jw_ws a1 cJ 616 (c4 cf (4 * n) (lkw [cf (4 * (n - 1) + 0), cf (4 * (n - 1) + 1), cf (4 * (n - 1) + 2), cf (4 * (n - 1) + 3), lN 3, lN I, lN (pa ^ X1 % P), lN (shcR P Q G pa I X1 W1), lN ((W1 + (shcR P Q G pa I X1 W1) * X1 % Q) % Q)])) ++ (iw_ws a5 cI 4 (upd sf I (nI n)) ++ (jw_ws b4 cJ 4 (vp_updL sh I (lN (pa ^ X1 % P))) ++ (jw_ws b2 cJ 4 ky ++ (jw_ws a3 cJ 16 u9.2))))))))))))) t.heap ∧ va_K (dC, dI) classes [(cJ, .long), (cI, .int)] t ∧ va_D (va_A (mo_ws m0 e0 (nI N) (nI n) (nI bc) (lN P) (lN Q) (lN G) (lN al) (lN pa) (lN pb) cl a0 a1 a2 a3 a4 a5 a6 a7 a8 a9 b0 b1 oc b2 b3 b4 b5 ++ (iw_ws a7 cI 256 bf ++ (iw_ws a8 cI 64 sc ++ (iw_ws a9 cI 8 st ++ (iw_ws b0 cI 8 kS ++ (iw_ws b1 cI 64 kR ++ (jw_ws a2 cJ 4 tf ++ (jw_ws a0 cJ 1232 nf ++ (jw_ws a1 cJ 616 cf ++ (iw_ws a5 cI 4 sf ++ (jw_ws b4 cJ 4 sh ++ (jw_ws b2 cJ 4 ky ++ (jw_ws a3 cJ 16 lf))))))))))))) sz) (mo_ws m0 0 (nI N) (nI (n + 1)) (nI bc) (lN P) (lN Q) (lN G) (lN al) (lN pa) (lN pb) cl a0 a1 a2 a3 a4 a5 a6 a7 a8 a9 b0 b1 u9.1.2.2.2.2 b2 b3 b4 b5 ++ (iw_ws a7 cI 256 u9.1.1 ++ (iw_ws a8 cI 64 u9.1.2.1 ++ (iw_ws a9 cI 8 u9.1.2.2.1 ++ (iw_ws b0 cI 8 kS ++ (iw_ws b1 cI 64 kR ++ (jw_ws a2 cJ 4 u9.1.2.2.2.1 ++ (jw_ws a0 cJ 1232 (w8 nf (8 * n) (lN 3) (lN I) (lN (pa ^ X1 % P)) (lN (shcR P Q G pa I X1 W1)) (lN ((W1 + (shcR P Q G pa I X1 W1) * X1 % Q) % Q)) 0 0 0) ++ (jw_ws a1 cJ 616 (c4 cf (4 * n) (lkw [cf (4 * (n - 1) + 0), cf (4 * (n - 1) + 1), cf (4 * (n - 1) + 2), cf (4 * (n - 1) + 3), lN 3, lN I, lN (pa ^ X1 % P), lN (shcR P Q G pa I X1 W1), lN ((W1 + (shcR P Q G pa I X1 W1) * X1 % Q) % Q)])) ++ (iw_ws a5 cI 4 (upd sf I (nI n)) ++ (jw_ws b4 cJ 4 (vp_updL sh I (lN (pa ^ X1 % P))) ++ (jw_ws b2 cJ 4 ky ++ (jw_ws a3 cJ 16 u9.2)))))))))))))) (va_A (mo_ws m0 e0 (nI N) (nI n) (nI bc) (lN P) (lN Q) (lN G) (lN al) (lN pa) (lN pb) cl a0 a1 a2 a3 a4 a5 a6 a7 a8 a9 b0 b1 oc b2 b3 b4 b5 ++ (iw_ws a7 cI 256 bf ++ (iw_ws a8 cI 64 sc ++ (iw_ws a9 cI 8 st ++ (iw_ws b0 cI 8 kS ++ (iw_ws b1 cI 64 kR ++ (jw_ws a2 cJ 4 tf ++ (jw_ws a0 cJ 1232 nf ++ (jw_ws a1 cJ 616 cf ++ (iw_ws a5 cI 4 sf ++ (jw_ws b4 cJ 4 sh ++ (jw_ws b2 cJ 4 ky ++ (jw_ws a3 cJ 16 lf))))))))))))) sz)) 0 0 (va_A (mo_ws m0 e0 (nI N) (nI n) (nI bc) (lN P) (lN Q) (lN G) (lN al) (lN pa) (lN pb) cl a0 a1 a2 a3 a4 a5 a6 a7 a8 a9 b0 b1 oc b2 b3 b4 b5 ++ (iw_ws a7 cI 256 bf ++ (iw_ws a8 cI 64 sc ++ (iw_ws a9 cI 8 st ++ (iw_ws b0 cI 8 kS ++ (iw_ws b1 cI 64 kR ++ (jw_ws a2 cJ 4 tf ++ (jw_ws a0 cJ 1232 nf ++ (jw_ws a1 cJ 616 cf ++ (iw_ws a5 cI 4 sf ++ (jw_ws b4 cJ 4 sh ++ (jw_ws b2 cJ 4 ky ++ (jw_ws a3 cJ 16 lf))))))))))))) sz) := by
  refine Met.ofW (cc := b_Bm_makeShare) (maxL := 12) (ret := (some .int)) (by decide) rfl ?_
  intro p e s m args below meth c s₁ Bd hml hv
  obtain ⟨rfl, hsz, hP, hK, hD0⟩ := hv
  have hx := Bd.exec
  have hb := Bd.bytes
  have hr := Bd.returns
  have hts := atoms_spec (ws := w_Bm_makeShare) Bd.pre
  have hown : s.vm.findClass "BallotBoardModel" = some m.cls := findClass_of_methodNamed Bd.named
  have hlocks := Bd.notSynchronized
  subst hsz
  have hD := hD0.self (sz := s.heap.size)
  generalize hAe : va_A (mo_ws m0 e0 (nI N) (nI n) (nI bc) (lN P) (lN Q) (lN G) (lN al) (lN pa) (lN pb) cl a0 a1 a2 a3 a4 a5 a6 a7 a8 a9 b0 b1 oc b2 b3 b4 b5 ++ (iw_ws a7 cI 256 bf ++ (iw_ws a8 cI 64 sc ++ (iw_ws a9 cI 8 st ++ (iw_ws b0 cI 8 kS ++ (iw_ws b1 cI 64 kR ++ (jw_ws a2 cJ 4 tf ++ (jw_ws a0 cJ 1232 nf ++ (jw_ws a1 cJ 616 cf ++ (iw_ws a5 cI 4 sf ++ (jw_ws b4 cJ 4 sh ++ (jw_ws b2 cJ 4 ky ++ (jw_ws a3 cJ 16 lf))))))))))))) s.heap.size = A at hD ⊢
  have hA : ∀ q : Nat, s.heap.size ≤ q → A q := fun q h => by rw [← hAe]; exact Or.inr h
  have hS : va_S A s.heap s.heap [] := va_S.rf
  have hl := lv_entry ([.ref m0, .int (nI I), .long (lN X1), .long (lN W1)]) (n := 12) (Nat.le_of_ble_eq_true rfl)
  rw [lg_entry_eq]
  generalize (lg_sl ([.ref m0, .int (nI I), .long (lN X1), .long (lN W1)]) ++ List.replicate (12 - (lg_sl ([.ref m0, .int (nI I), .long (lN X1), .long (lN W1)])).length) Slot.unset).toArray = ls at hl ⊢
  have hl : lv_has ls 12 [(0, .ref m0), (1, .int (nI I)), (2, .long (lN X1)), (4, .long (lN W1))] := hl
  have hN0 := hclN hcl1
  obtain ⟨hPQ, h61F, hQ3, hG2, hGP, hGQ⟩ := hgr hN0
  have hpaP := hpa.2 hcl1
  refine lv_aload_n hx hb d_Bm_makeShare_0 rfl (lv_at hl 0 rfl) ?_
  refine lv_iconst (v := 0) hx hb d_Bm_makeShare_1 (by decide) ?_
  refine va_put (D := (dC, dI)) (ci := 8) (v := .int 0) (ty := .int) (C := "BallotBoardModel") (T := F_Bm) (N := 28) hx hb hts (fun w9 h9 => List.mem_cons_of_mem _ (i_Bm w9 h9)) t_Bm t_Bm_ok n_Bm hown hK hP hD hS 0 rfl rfl 0 (by decide) (hts _ (List.mem_cons_of_mem _ gk_919)) (fun _ h9 => h9) rfl (by decide +kernel) rfl rfl (Nat.le_of_ble_eq_true rfl) d_Bm_makeShare_2 (fun H locs hP hD hS => ?_)
  have hP : va_P (dC, dI) classes [(m0, .inr (8, [.int 0, .int (nI N), .int (nI n), .int (nI bc), .long (lN P), .long (lN Q), .long (lN G), .long (lN al), .long (lN pa), .long (lN pb), .int cl, .ref a0, .ref a1, .ref a2, .ref a3, .ref a4, .ref a5, .ref a6, .ref a7, .ref a8, .ref a9, .ref b0, .ref b1, .int (nI oc), .ref b2, .ref b3, .ref b4, .ref b5])), (a7, .inl (cI, 256, .inl bf)), (a8, .inl (cI, 64, .inl sc)), (a9, .inl (cI, 8, .inl st)), (b0, .inl (cI, 8, .inl kS)), (b1, .inl (cI, 64, .inl kR)), (a2, .inl (cJ, 4, .inr (.inl tf))), (a0, .inl (cJ, 1232, .inr (.inl nf))), (a1, .inl (cJ, 616, .inr (.inl cf))), (a5, .inl (cI, 4, .inl sf)), (b4, .inl (cJ, 4, .inr (.inl sh))), (b2, .inl (cJ, 4, .inr (.inl ky))), (a3, .inl (cJ, 16, .inr (.inl lf)))] H := hP
  have hD : va_D A [(m0, .inr (8, [.int 0, .int (nI N), .int (nI n), .int (nI bc), .long (lN P), .long (lN Q), .long (lN G), .long (lN al), .long (lN pa), .long (lN pb), .int cl, .ref a0, .ref a1, .ref a2, .ref a3, .ref a4, .ref a5, .ref a6, .ref a7, .ref a8, .ref a9, .ref b0, .ref b1, .int (nI oc), .ref b2, .ref b3, .ref b4, .ref b5])), (a7, .inl (cI, 256, .inl bf)), (a8, .inl (cI, 64, .inl sc)), (a9, .inl (cI, 8, .inl st)), (b0, .inl (cI, 8, .inl kS)), (b1, .inl (cI, 64, .inl kR)), (a2, .inl (cJ, 4, .inr (.inl tf))), (a0, .inl (cJ, 1232, .inr (.inl nf))), (a1, .inl (cJ, 616, .inr (.inl cf))), (a5, .inl (cI, 4, .inl sf)), (b4, .inl (cJ, 4, .inr (.inl sh))), (b2, .inl (cJ, 4, .inr (.inl ky))), (a3, .inl (cJ, 16, .inr (.inl lf)))] := hD
  refine lv_aload_n hx hb d_Bm_makeShare_5 rfl (lv_at hl 0 rfl) ?_
  refine lv_aload_n hx hb d_Bm_makeShare_6 rfl (lv_at hl 0 rfl) ?_
  refine va_get (D := (dC, dI)) (ci := 8) (v := .int cl) (C := "BallotBoardModel") (T := F_Bm) (N := 28) hx hb hts (fun w9 h9 => List.mem_cons_of_mem _ (i_Bm w9 h9)) hown hK hP 0 rfl rfl 10 (by decide) (hts _ (List.mem_cons_of_mem _ gk_929)) (fun _ h9 => h9) rfl d_Bm_makeShare_7 ?_
  refine lv_if_eq (tgt := 36) hx hb d_Bm_makeShare_10 (by decide) (fun c_1 => ?_) (fun c_1 => ?_)
  · -- taken
    exact absurd (hcl1.symm.trans c_1) (by decide)
  · -- not taken
    refine lv_iload_n hx hb d_Bm_makeShare_13 rfl (lv_at hl 1 rfl) ?_
    refine lv_iconst (v := 0) hx hb d_Bm_makeShare_14 (by decide) ?_
    refine lv_aload_n hx hb d_Bm_makeShare_15 rfl (lv_at hl 0 rfl) ?_
    refine va_get (D := (dC, dI)) (ci := 8) (v := .int (nI N)) (C := "BallotBoardModel") (T := F_Bm) (N := 28) hx hb hts (fun w9 h9 => List.mem_cons_of_mem _ (i_Bm w9 h9)) hown hK hP 0 rfl rfl 1 (by decide) (hts _ (List.mem_cons_of_mem _ gk_920)) (fun _ h9 => h9) rfl d_Bm_makeShare_16 ?_
    refine lv_iconst (v := 1) hx hb d_Bm_makeShare_19 (by decide) ?_
    refine lv_isub hx hb d_Bm_makeShare_20 ?_
    rw [show ((nI N) - 1 : Int32) = (nI (N - 1)) from nI_subI (b := 1) (by omega) rfl]
    refine va_calli (va_runS (As := [.int (nI I), .int 0, .int (nI (N - 1))]) (rest := [.ref m0]) ⟨hx, hb, hml, hown, hts⟩ (c_Bm_in l H (nI I) 0 (nI (N - 1))) (cwS 3 hts (gw_S gk_1027 gk_1028 gk_7 gk_1029) rfl rfl rfl (by decide +kernel) ⟨Nat.le_of_ble_eq_true rfl, Nat.le_of_ble_eq_true rfl⟩) ⟨fun a U g mk q => q, fun U hU hW => ⟨rfl, hU⟩⟩ rfl rfl hl.1 rfl (lv_room (Nat.le_of_ble_eq_true rfl)) d_Bm_makeShare_21 ⟨Nat.le_of_ble_eq_true rfl, Nat.le_of_ble_eq_true rfl⟩) hS (fun q _ h => h.elim) (fun q h => h.elim) (fun r21 u9 t9 H1 locs ht hvm hw hB hz1 hk1 hS => ?_)
    obtain rfl : H = H1 := hB.symm.trans ht
    have h21 : bz r21 (inN (nI I) N) := bz_in hN0 (by omega) rfl hw
    refine lv_if_eq (tgt := 40) hx hb d_Bm_makeShare_24 (by decide) (fun c_2 => ?_) (fun c_2 => ?_)
    · -- taken
      exact absurd (⟨I, rfl, hI⟩ : inN (nI I) N) (bz_f h21 c_2)
    · -- not taken
      have bo21 := bz_t h21 c_2
      refine lv_aload_n hx hb d_Bm_makeShare_27 rfl (lv_at hl 0 rfl) ?_
      refine va_get (D := (dC, dI)) (ci := 8) (v := .ref a5) (C := "BallotBoardModel") (T := F_Bm) (N := 28) hx hb hts (fun w9 h9 => List.mem_cons_of_mem _ (i_Bm w9 h9)) hown hK hP 0 rfl rfl 16 (by decide) (hts _ (List.mem_cons_of_mem _ gk_935)) (fun _ h9 => h9) rfl d_Bm_makeShare_28 ?_
      refine lv_iload_n hx hb d_Bm_makeShare_31 rfl (lv_at hl 1 rfl) ?_
      refine va_iald hx hb hK hP 9 1 rfl rfl (vp_in_nI (by omega) (by omega)) d_Bm_makeShare_32 ?_
      rw [show (sf (nI I : Int32).toNatClampNeg : Int32) = sf I from by rw [nI_clamp (by omega)]]
      refine lv_if_lt (tgt := 40) hx hb d_Bm_makeShare_33 (by decide) (fun c_3 => ?_) (fun c_3 => ?_)
      · -- taken
        refine lv_iconst (v := 0) hx hb d_Bm_makeShare_40 (by decide) ?_
        refine lv_iconst (v := 1) hx hb d_Bm_makeShare_41 (by decide) ?_
        have hPc := hP.sub (ws' := (mo_ws m0 0 (nI N) (nI n) (nI bc) (lN P) (lN Q) (lN G) (lN al) (lN pa) (lN pb) cl a0 a1 a2 a3 a4 a5 a6 a7 a8 a9 b0 b1 oc b2 b3 b4 b5)) [0] rfl
        have hDc := hD.sub (ws' := (mo_ws m0 0 (nI N) (nI n) (nI bc) (lN P) (lN Q) (lN G) (lN al) (lN pa) (lN pb) cl a0 a1 a2 a3 a4 a5 a6 a7 a8 a9 b0 b1 oc b2 b3 b4 b5)) [0] (by decide) rfl
        have hKc := hK.sub (tys' := [(cJ, .long), (cI, .int)]) [0, 1] rfl
        have hFc := va_free (wc := (mo_ws m0 0 (nI N) (nI n) (nI bc) (lN P) (lN Q) (lN G) (lN al) (lN pa) (lN pb) cl a0 a1 a2 a3 a4 a5 a6 a7 a8 a9 b0 b1 oc b2 b3 b4 b5)) hD hS hA [0] rfl
        refine va_calli (va_runV (As := [.int 0, .int 1]) (rest := []) ⟨hx, hb, hml, hown, hts⟩ (c_Bm_fails_0 l dC dI cJ cI H.size m0 (nI N) (nI n) (nI bc) (lN P) (lN Q) (lN G) (lN al) (lN pa) (lN pb) cl a0 a1 a2 a3 a4 a5 a6 a7 a8 a9 b0 b1 oc b2 b3 b4 b5 1) (cwV 2 hts (gw_V gk_1030 gk_1032 gp_27 gk_7 gk_1033) rfl rfl rfl (by decide +kernel) ⟨Nat.le_of_ble_eq_true rfl, Nat.le_of_ble_eq_true rfl⟩) ⟨fun a U g mk q => by obtain ⟨q0, q1, qP, qK, qD⟩ := q; exact ⟨q0, q1, qP, va_K.moved (u := U) (U := U.calling g mk a) (Vm.Alike.refl U.vm) qK, qD⟩, va_recv hK hP (ci := 8) (q0 := 0) rfl rfl, fun U hU hW => ⟨rfl, by rw [hU], by rw [hU]; exact hPc, va_K.moved hW.alike hKc, hDc.weaken (fun _ _ _ _ => trivial)⟩⟩ rfl rfl hl.1 rfl (lv_room (Nat.le_of_ble_eq_true rfl)) d_Bm_makeShare_42 ⟨Nat.le_of_ble_eq_true rfl, Nat.le_of_ble_eq_true rfl⟩) hS (fun q _ h => hFc q h) hFc (fun r_4 u9 t9 H1 locs ht hvm hw hB hz1 hk1 hS => ?_)
        have hw : r_4 = 0 := hw
        subst hw
        obtain ⟨hP1, hK1, hD1⟩ := hB
        rw [ht] at hP1
        obtain ⟨hP, hD⟩ := va_join (wr := [(a7, .inl (cI, 256, .inl bf)), (a8, .inl (cI, 64, .inl sc)), (a9, .inl (cI, 8, .inl st)), (b0, .inl (cI, 8, .inl kS)), (b1, .inl (cI, 64, .inl kR)), (a2, .inl (cJ, 4, .inr (.inl tf))), (a0, .inl (cJ, 1232, .inr (.inl nf))), (a1, .inl (cJ, 616, .inr (.inl cf))), (a5, .inl (cI, 4, .inl sf)), (b4, .inl (cJ, 4, .inr (.inl sh))), (b2, .inl (cJ, 4, .inr (.inl ky))), (a3, .inl (cJ, 16, .inr (.inl lf)))]) (w1 := [(m0, .inr (8, [.int 0, .int (nI N), .int (nI n), .int (nI bc), .long (lN P), .long (lN Q), .long (lN G), .long (lN al), .long (lN pa), .long (lN pb), .int cl, .ref a0, .ref a1, .ref a2, .ref a3, .ref a4, .ref a5, .ref a6, .ref a7, .ref a8, .ref a9, .ref b0, .ref b1, .int (nI oc), .ref b2, .ref b3, .ref b4, .ref b5]))]) hP hD [0] [1, 2, 3, 4, 5, 6, 7, 8, 9, 10, 11, 12] rfl rfl (by decide) (by decide) hk1 hFc hP1 hD1
        have hP := hP.sub (ws' := [(m0, .inr (8, [.int 0, .int (nI N), .int (nI n), .int (nI bc), .long (lN P), .long (lN Q), .long (lN G), .long (lN al), .long (lN pa), .long (lN pb), .int cl, .ref a0, .ref a1, .ref a2, .ref a3, .ref a4, .ref a5, .ref a6, .ref a7, .ref a8, .ref a9, .ref b0, .ref b1, .int (nI oc), .ref b2, .ref b3, .ref b4, .ref b5])), (a7, .inl (cI, 256, .inl bf)), (a8, .inl (cI, 64, .inl sc)), (a9, .inl (cI, 8, .inl st)), (b0, .inl (cI, 8, .inl kS)), (b1, .inl (cI, 64, .inl kR)), (a2, .inl (cJ, 4, .inr (.inl tf))), (a0, .inl (cJ, 1232, .inr (.inl nf))), (a1, .inl (cJ, 616, .inr (.inl cf))), (a5, .inl (cI, 4, .inl sf)), (b4, .inl (cJ, 4, .inr (.inl sh))), (b2, .inl (cJ, 4, .inr (.inl ky))), (a3, .inl (cJ, 16, .inr (.inl lf)))]) [12, 0, 1, 2, 3, 4, 5, 6, 7, 8, 9, 10, 11] rfl
        have hD := hD.sub (ws' := [(m0, .inr (8, [.int 0, .int (nI N), .int (nI n), .int (nI bc), .long (lN P), .long (lN Q), .long (lN G), .long (lN al), .long (lN pa), .long (lN pb), .int cl, .ref a0, .ref a1, .ref a2, .ref a3, .ref a4, .ref a5, .ref a6, .ref a7, .ref a8, .ref a9, .ref b0, .ref b1, .int (nI oc), .ref b2, .ref b3, .ref b4, .ref b5])), (a7, .inl (cI, 256, .inl bf)), (a8, .inl (cI, 64, .inl sc)), (a9, .inl (cI, 8, .inl st)), (b0, .inl (cI, 8, .inl kS)), (b1, .inl (cI, 64, .inl kR)), (a2, .inl (cJ, 4, .inr (.inl tf))), (a0, .inl (cJ, 1232, .inr (.inl nf))), (a1, .inl (cJ, 616, .inr (.inl cf))), (a5, .inl (cI, 4, .inl sf)), (b4, .inl (cJ, 4, .inr (.inl sh))), (b2, .inl (cJ, 4, .inr (.inl ky))), (a3, .inl (cJ, 16, .inr (.inl lf)))]) [12, 0, 1, 2, 3, 4, 5, 6, 7, 8, 9, 10, 11] (by decide) rfl
        generalize H1 = H at hP hS ⊢
        refine lv_if_ne (tgt := 92) hx hb d_Bm_makeShare_45 (by decide) (fun c_5 => ?_) (fun c_5 => ?_)
        · -- taken
          exact absurd rfl c_5
        · -- not taken
          refine lv_aload_n hx hb d_Bm_makeShare_48 rfl (lv_at hl 0 rfl) ?_
          refine lv_iload_n hx hb d_Bm_makeShare_49 rfl (lv_at hl 1 rfl) ?_
          refine lv_iconst (v := 0) hx hb d_Bm_makeShare_50 (by decide) ?_
          refine lv_aload_n hx hb d_Bm_makeShare_51 rfl (lv_at hl 0 rfl) ?_
          refine va_get (D := (dC, dI)) (ci := 8) (v := .int (nI N)) (C := "BallotBoardModel") (T := F_Bm) (N := 28) hx hb hts (fun w9 h9 => List.mem_cons_of_mem _ (i_Bm w9 h9)) hown hK hP 0 rfl rfl 1 (by decide) (hts _ (List.mem_cons_of_mem _ gk_920)) (fun _ h9 => h9) rfl d_Bm_makeShare_52 ?_
          refine lv_iconst (v := 1) hx hb d_Bm_makeShare_55 (by decide) ?_
          refine lv_isub hx hb d_Bm_makeShare_56 ?_
          rw [show ((nI N) - 1 : Int32) = (nI (N - 1)) from nI_subI (b := 1) (by omega) rfl]
          refine va_calli (va_runS (As := [.int (nI I), .int 0, .int (nI (N - 1))]) (rest := [.ref m0]) ⟨hx, hb, hml, hown, hts⟩ (c_Bm_in l H (nI I) 0 (nI (N - 1))) (cwS 3 hts (gw_S gk_1027 gk_1028 gk_7 gk_1029) rfl rfl rfl (by decide +kernel) ⟨Nat.le_of_ble_eq_true rfl, Nat.le_of_ble_eq_true rfl⟩) ⟨fun a U g mk q => q, fun U hU hW => ⟨rfl, hU⟩⟩ rfl rfl hl.1 rfl (lv_room (Nat.le_of_ble_eq_true rfl)) d_Bm_makeShare_57 ⟨Nat.le_of_ble_eq_true rfl, Nat.le_of_ble_eq_true rfl⟩) hS (fun q _ h => h.elim) (fun q h => h.elim) (fun r57 u9 t9 H1 locs ht hvm hw hB hz1 hk1 hS => ?_)
          obtain rfl : H = H1 := hB.symm.trans ht
          have h57 : bz r57 (inN (nI I) N) := bz_in hN0 (by omega) rfl hw
          refine lv_if_eq (tgt := 80) hx hb d_Bm_makeShare_60 (by decide) (fun c_6 => ?_) (fun c_6 => ?_)
          · -- taken
            exact absurd (⟨I, rfl, hI⟩ : inN (nI I) N) (bz_f h57 c_6)
          · -- not taken
            have bo57 := bz_t h57 c_6
            refine lv_aload_n hx hb d_Bm_makeShare_63 rfl (lv_at hl 0 rfl) ?_
            refine lv_lload_n hx hb d_Bm_makeShare_64 rfl (lv_at hl 2 rfl) ?_
            have hPc := hP.sub (ws' := (mo_ws m0 0 (nI N) (nI n) (nI bc) (lN P) (lN Q) (lN G) (lN al) (lN pa) (lN pb) cl a0 a1 a2 a3 a4 a5 a6 a7 a8 a9 b0 b1 oc b2 b3 b4 b5)) [0] rfl
            have hKc := hK.sub (tys' := [(cJ, .long), (cI, .int)]) [0, 1] rfl
            refine va_calli (va_runV (As := [.long (lN X1)]) (rest := [.ref m0]) ⟨hx, hb, hml, hown, hts⟩ (c_Bm_isExponent l H dC dI cJ cI m0 0 (nI N) (nI n) (nI bc) (lN al) (lN pa) (lN pb) cl a0 a1 a2 a3 a4 a5 a6 a7 a8 a9 b0 b1 oc b2 b3 b4 b5 P Q G (lN X1) hPc hPQ h61F hQ3 ) (cwV 1 hts (gw_V gk_1042 gk_1044 gp_29 gk_7 gk_1045) rfl rfl rfl (by decide +kernel) ⟨Nat.le_of_ble_eq_true rfl, Nat.le_of_ble_eq_true rfl⟩) ⟨fun a U g mk q => ⟨q.1, q.2.1, va_K.moved (u := U) (U := U.calling g mk a) (Vm.Alike.refl U.vm) q.2.2⟩, va_recv hK hP (ci := 8) (q0 := 0) rfl rfl, fun U hU hW => ⟨rfl, hU, va_K.moved hW.alike hKc⟩⟩ rfl rfl hl.1 rfl (lv_room (Nat.le_of_ble_eq_true rfl)) d_Bm_makeShare_65 ⟨Nat.le_of_ble_eq_true rfl, Nat.le_of_ble_eq_true rfl⟩) hS (fun q _ h => h.elim) (fun q h => h.elim) (fun r65 u9 t9 H1 locs ht hvm hw hB hz1 hk1 hS => ?_)
            obtain rfl : H = H1 := hB.symm.trans ht
            have h65 := hw
            refine lv_if_eq (tgt := 80) hx hb d_Bm_makeShare_68 (by decide) (fun c_7 => ?_) (fun c_7 => ?_)
            · -- taken
              exact absurd ⟨X1, rfl, hX9⟩ (bz_f h65 c_7)
            · -- not taken
              have bo65 := bz_t h65 c_7
              refine lv_aload_n hx hb d_Bm_makeShare_71 rfl (lv_at hl 0 rfl) ?_
              refine lv_lload hx hb d_Bm_makeShare_72 (lv_at hl 3 rfl) ?_
              have hPc := hP.sub (ws' := (mo_ws m0 0 (nI N) (nI n) (nI bc) (lN P) (lN Q) (lN G) (lN al) (lN pa) (lN pb) cl a0 a1 a2 a3 a4 a5 a6 a7 a8 a9 b0 b1 oc b2 b3 b4 b5)) [0] rfl
              have hKc := hK.sub (tys' := [(cJ, .long), (cI, .int)]) [0, 1] rfl
              refine va_calli (va_runV (As := [.long (lN W1)]) (rest := [.ref m0]) ⟨hx, hb, hml, hown, hts⟩ (c_Bm_isExponent l H dC dI cJ cI m0 0 (nI N) (nI n) (nI bc) (lN al) (lN pa) (lN pb) cl a0 a1 a2 a3 a4 a5 a6 a7 a8 a9 b0 b1 oc b2 b3 b4 b5 P Q G (lN W1) hPc hPQ h61F hQ3 ) (cwV 1 hts (gw_V gk_1042 gk_1044 gp_29 gk_7 gk_1045) rfl rfl rfl (by decide +kernel) ⟨Nat.le_of_ble_eq_true rfl, Nat.le_of_ble_eq_true rfl⟩) ⟨fun a U g mk q => ⟨q.1, q.2.1, va_K.moved (u := U) (U := U.calling g mk a) (Vm.Alike.refl U.vm) q.2.2⟩, va_recv hK hP (ci := 8) (q0 := 0) rfl rfl, fun U hU hW => ⟨rfl, hU, va_K.moved hW.alike hKc⟩⟩ rfl rfl hl.1 rfl (lv_room (Nat.le_of_ble_eq_true rfl)) d_Bm_makeShare_74 ⟨Nat.le_of_ble_eq_true rfl, Nat.le_of_ble_eq_true rfl⟩) hS (fun q _ h => h.elim) (fun q h => h.elim) (fun r74 u9 t9 H1 locs ht hvm hw hB hz1 hk1 hS => ?_)
              obtain rfl : H = H1 := hB.symm.trans ht
              have h74 := hw
              refine lv_if_ne (tgt := 84) hx hb d_Bm_makeShare_77 (by decide) (fun c_8 => ?_) (fun c_8 => ?_)
              · -- taken
                have bo74 := bz_t h74 c_8
                refine lv_iconst (v := 0) hx hb d_Bm_makeShare_84 (by decide) ?_
                refine lv_iconst (v := 2) hx hb d_Bm_makeShare_85 (by decide) ?_
                have hPc := hP.sub (ws' := (mo_ws m0 0 (nI N) (nI n) (nI bc) (lN P) (lN Q) (lN G) (lN al) (lN pa) (lN pb) cl a0 a1 a2 a3 a4 a5 a6 a7 a8 a9 b0 b1 oc b2 b3 b4 b5)) [0] rfl
                have hDc := hD.sub (ws' := (mo_ws m0 0 (nI N) (nI n) (nI bc) (lN P) (lN Q) (lN G) (lN al) (lN pa) (lN pb) cl a0 a1 a2 a3 a4 a5 a6 a7 a8 a9 b0 b1 oc b2 b3 b4 b5)) [0] (by decide) rfl
                have hKc := hK.sub (tys' := [(cJ, .long), (cI, .int)]) [0, 1] rfl
                have hFc := va_free (wc := (mo_ws m0 0 (nI N) (nI n) (nI bc) (lN P) (lN Q) (lN G) (lN al) (lN pa) (lN pb) cl a0 a1 a2 a3 a4 a5 a6 a7 a8 a9 b0 b1 oc b2 b3 b4 b5)) hD hS hA [0] rfl
                refine va_calli (va_runV (As := [.int 0, .int 2]) (rest := []) ⟨hx, hb, hml, hown, hts⟩ (c_Bm_fails_0 l dC dI cJ cI H.size m0 (nI N) (nI n) (nI bc) (lN P) (lN Q) (lN G) (lN al) (lN pa) (lN pb) cl a0 a1 a2 a3 a4 a5 a6 a7 a8 a9 b0 b1 oc b2 b3 b4 b5 2) (cwV 2 hts (gw_V gk_1030 gk_1032 gp_27 gk_7 gk_1033) rfl rfl rfl (by decide +kernel) ⟨Nat.le_of_ble_eq_true rfl, Nat.le_of_ble_eq_true rfl⟩) ⟨fun a U g mk q => by obtain ⟨q0, q1, qP, qK, qD⟩ := q; exact ⟨q0, q1, qP, va_K.moved (u := U) (U := U.calling g mk a) (Vm.Alike.refl U.vm) qK, qD⟩, va_recv hK hP (ci := 8) (q0 := 0) rfl rfl, fun U hU hW => ⟨rfl, by rw [hU], by rw [hU]; exact hPc, va_K.moved hW.alike hKc, hDc.weaken (fun _ _ _ _ => trivial)⟩⟩ rfl rfl hl.1 rfl (lv_room (Nat.le_of_ble_eq_true rfl)) d_Bm_makeShare_86 ⟨Nat.le_of_ble_eq_true rfl, Nat.le_of_ble_eq_true rfl⟩) hS (fun q _ h => hFc q h) hFc (fun r_9 u9 t9 H1 locs ht hvm hw hB hz1 hk1 hS => ?_)
                have hw : r_9 = 0 := hw
                subst hw
                obtain ⟨hP1, hK1, hD1⟩ := hB
                rw [ht] at hP1
                obtain ⟨hP, hD⟩ := va_join (wr := [(a7, .inl (cI, 256, .inl bf)), (a8, .inl (cI, 64, .inl sc)), (a9, .inl (cI, 8, .inl st)), (b0, .inl (cI, 8, .inl kS)), (b1, .inl (cI, 64, .inl kR)), (a2, .inl (cJ, 4, .inr (.inl tf))), (a0, .inl (cJ, 1232, .inr (.inl nf))), (a1, .inl (cJ, 616, .inr (.inl cf))), (a5, .inl (cI, 4, .inl sf)), (b4, .inl (cJ, 4, .inr (.inl sh))), (b2, .inl (cJ, 4, .inr (.inl ky))), (a3, .inl (cJ, 16, .inr (.inl lf)))]) (w1 := [(m0, .inr (8, [.int 0, .int (nI N), .int (nI n), .int (nI bc), .long (lN P), .long (lN Q), .long (lN G), .long (lN al), .long (lN pa), .long (lN pb), .int cl, .ref a0, .ref a1, .ref a2, .ref a3, .ref a4, .ref a5, .ref a6, .ref a7, .ref a8, .ref a9, .ref b0, .ref b1, .int (nI oc), .ref b2, .ref b3, .ref b4, .ref b5]))]) hP hD [0] [1, 2, 3, 4, 5, 6, 7, 8, 9, 10, 11, 12] rfl rfl (by decide) (by decide) hk1 hFc hP1 hD1
                have hP := hP.sub (ws' := [(m0, .inr (8, [.int 0, .int (nI N), .int (nI n), .int (nI bc), .long (lN P), .long (lN Q), .long (lN G), .long (lN al), .long (lN pa), .long (lN pb), .int cl, .ref a0, .ref a1, .ref a2, .ref a3, .ref a4, .ref a5, .ref a6, .ref a7, .ref a8, .ref a9, .ref b0, .ref b1, .int (nI oc), .ref b2, .ref b3, .ref b4, .ref b5])), (a7, .inl (cI, 256, .inl bf)), (a8, .inl (cI, 64, .inl sc)), (a9, .inl (cI, 8, .inl st)), (b0, .inl (cI, 8, .inl kS)), (b1, .inl (cI, 64, .inl kR)), (a2, .inl (cJ, 4, .inr (.inl tf))), (a0, .inl (cJ, 1232, .inr (.inl nf))), (a1, .inl (cJ, 616, .inr (.inl cf))), (a5, .inl (cI, 4, .inl sf)), (b4, .inl (cJ, 4, .inr (.inl sh))), (b2, .inl (cJ, 4, .inr (.inl ky))), (a3, .inl (cJ, 16, .inr (.inl lf)))]) [12, 0, 1, 2, 3, 4, 5, 6, 7, 8, 9, 10, 11] rfl
                have hD := hD.sub (ws' := [(m0, .inr (8, [.int 0, .int (nI N), .int (nI n), .int (nI bc), .long (lN P), .long (lN Q), .long (lN G), .long (lN al), .long (lN pa), .long (lN pb), .int cl, .ref a0, .ref a1, .ref a2, .ref a3, .ref a4, .ref a5, .ref a6, .ref a7, .ref a8, .ref a9, .ref b0, .ref b1, .int (nI oc), .ref b2, .ref b3, .ref b4, .ref b5])), (a7, .inl (cI, 256, .inl bf)), (a8, .inl (cI, 64, .inl sc)), (a9, .inl (cI, 8, .inl st)), (b0, .inl (cI, 8, .inl kS)), (b1, .inl (cI, 64, .inl kR)), (a2, .inl (cJ, 4, .inr (.inl tf))), (a0, .inl (cJ, 1232, .inr (.inl nf))), (a1, .inl (cJ, 616, .inr (.inl cf))), (a5, .inl (cI, 4, .inl sf)), (b4, .inl (cJ, 4, .inr (.inl sh))), (b2, .inl (cJ, 4, .inr (.inl ky))), (a3, .inl (cJ, 16, .inr (.inl lf)))]) [12, 0, 1, 2, 3, 4, 5, 6, 7, 8, 9, 10, 11] (by decide) rfl
                generalize H1 = H at hP hS ⊢
                refine lv_if_eq (tgt := 94) hx hb d_Bm_makeShare_89 (by decide) (fun c_10 => ?_) (fun c_10 => ?_)
                · -- taken
                  refine lv_aload_n hx hb d_Bm_makeShare_94 rfl (lv_at hl 0 rfl) ?_
                  refine lv_aload_n hx hb d_Bm_makeShare_95 rfl (lv_at hl 0 rfl) ?_
                  refine va_get (D := (dC, dI)) (ci := 8) (v := .long (lN pa)) (C := "BallotBoardModel") (T := F_Bm) (N := 28) hx hb hts (fun w9 h9 => List.mem_cons_of_mem _ (i_Bm w9 h9)) hown hK hP 0 rfl rfl 8 (by decide) (hts _ (List.mem_cons_of_mem _ gk_927)) (fun _ h9 => h9) rfl d_Bm_makeShare_96 ?_
                  refine lv_lload_n hx hb d_Bm_makeShare_99 rfl (lv_at hl 2 rfl) ?_
                  have hPc := hP.sub (ws' := (mo_ws m0 0 (nI N) (nI n) (nI bc) (lN P) (lN Q) (lN G) (lN al) (lN pa) (lN pb) cl a0 a1 a2 a3 a4 a5 a6 a7 a8 a9 b0 b1 oc b2 b3 b4 b5)) [0] rfl
                  have hKc := hK.sub (tys' := [(cJ, .long), (cI, .int)]) [0, 1] rfl
                  refine va_calll (va_runV (As := [.long (lN pa), .long (lN X1)]) (rest := []) ⟨hx, hb, hml, hown, hts⟩ (c_Bm_power2 l H dC dI cJ cI m0 0 (nI N) (nI n) (nI bc) (lN al) (lN pa) (lN pb) cl a0 a1 a2 a3 a4 a5 a6 a7 a8 a9 b0 b1 oc b2 b3 b4 b5 P Q G pa X1 hPc hPQ h61F hQ3 hpaP (by omega)) (cwV 2 hts (gw_V gk_1050 gk_1052 gp_31 gk_7 gk_1053) rfl rfl rfl (by decide +kernel) ⟨Nat.le_of_ble_eq_true rfl, Nat.le_of_ble_eq_true rfl⟩) ⟨fun a U g mk q => ⟨q.1, q.2.1, va_K.moved (u := U) (U := U.calling g mk a) (Vm.Alike.refl U.vm) q.2.2⟩, va_recv hK hP (ci := 8) (q0 := 0) rfl rfl, fun U hU hW => ⟨rfl, hU, va_K.moved hW.alike hKc⟩⟩ rfl rfl hl.1 rfl (lv_room (Nat.le_of_ble_eq_true rfl)) d_Bm_makeShare_100 ⟨Nat.le_of_ble_eq_true rfl, Nat.le_of_ble_eq_true rfl⟩) hS (fun q _ h => h.elim) (fun q h => h.elim) (fun r100 u9 t9 H1 locs ht hvm hw hB hz1 hk1 hS => ?_)
                  obtain rfl : H = H1 := hB.symm.trans ht
                  have hw : r100 = lN (pa ^ X1 % P) := hw
                  subst hw
                  refine lv_lstore (lv' := [(6, .long (lN (pa ^ X1 % P))), (0, .ref m0), (1, .int (nI I)), (2, .long (lN X1)), (4, .long (lN W1))]) hx hb d_Bm_makeShare_103 hl (by decide) rfl (fun ls hl => ?_)
                  refine lv_aload_n hx hb d_Bm_makeShare_105 rfl (lv_at hl 1 rfl) ?_
                  refine lv_ldc2 (v := 3) hx hb hown (hts _ (List.mem_cons_of_mem _ gk_1157)) d_Bm_makeShare_106 ?_
                  refine lv_iload_n hx hb d_Bm_makeShare_109 rfl (lv_at hl 2 rfl) ?_
                  refine lv_i2l (v := (nI I : Int32).toInt64) hx hb d_Bm_makeShare_110 rfl ?_
                  rw [show ((nI I : Int32).toInt64 : Int64) = (lN I) from i2l_nI (by omega)]
                  refine lv_aload_n hx hb d_Bm_makeShare_111 rfl (lv_at hl 1 rfl) ?_
                  refine va_get (D := (dC, dI)) (ci := 8) (v := .long (lN pa)) (C := "BallotBoardModel") (T := F_Bm) (N := 28) hx hb hts (fun w9 h9 => List.mem_cons_of_mem _ (i_Bm w9 h9)) hown hK hP 0 rfl rfl 8 (by decide) (hts _ (List.mem_cons_of_mem _ gk_927)) (fun _ h9 => h9) rfl d_Bm_makeShare_112 ?_
                  refine lv_lload hx hb d_Bm_makeShare_115 (lv_at hl 0 rfl) ?_
                  refine lv_aload_n hx hb d_Bm_makeShare_117 rfl (lv_at hl 1 rfl) ?_
                  refine lv_aload_n hx hb d_Bm_makeShare_118 rfl (lv_at hl 1 rfl) ?_
                  refine va_get (D := (dC, dI)) (ci := 8) (v := .long (lN G)) (C := "BallotBoardModel") (T := F_Bm) (N := 28) hx hb hts (fun w9 h9 => List.mem_cons_of_mem _ (i_Bm w9 h9)) hown hK hP 0 rfl rfl 6 (by decide) (hts _ (List.mem_cons_of_mem _ gk_925)) (fun _ h9 => h9) rfl d_Bm_makeShare_119 ?_
                  refine lv_lload hx hb d_Bm_makeShare_122 (lv_at hl 4 rfl) ?_
                  have hPc := hP.sub (ws' := (mo_ws m0 0 (nI N) (nI n) (nI bc) (lN P) (lN Q) (lN G) (lN al) (lN pa) (lN pb) cl a0 a1 a2 a3 a4 a5 a6 a7 a8 a9 b0 b1 oc b2 b3 b4 b5)) [0] rfl
                  have hKc := hK.sub (tys' := [(cJ, .long), (cI, .int)]) [0, 1] rfl
                  refine va_calll (vw_runV (As := [.long (lN G), .long (lN W1)]) (rest := [.long (lN (pa ^ X1 % P)), .long (lN pa), .long (lN I), .long 3, .ref m0]) ⟨hx, hb, hml, hown, hts⟩ (c_Bm_power2 l H dC dI cJ cI m0 0 (nI N) (nI n) (nI bc) (lN al) (lN pa) (lN pb) cl a0 a1 a2 a3 a4 a5 a6 a7 a8 a9 b0 b1 oc b2 b3 b4 b5 P Q G G W1 hPc hPQ h61F hQ3 hGP (by omega)) (cwV 2 hts (gw_V gk_1050 gk_1052 gp_31 gk_7 gk_1053) rfl rfl rfl (by decide +kernel) ⟨Nat.le_of_ble_eq_true rfl, Nat.le_of_ble_eq_true rfl⟩) (Nat.le_of_ble_eq_true rfl) ⟨fun a U g mk q => ⟨q.1, q.2.1, va_K.moved (u := U) (U := U.calling g mk a) (Vm.Alike.refl U.vm) q.2.2⟩, va_recv hK hP (ci := 8) (q0 := 0) rfl rfl, fun U hU hW => ⟨rfl, hU, va_K.moved hW.alike hKc⟩⟩ rfl rfl hl.1 rfl (vw_room (Nat.le_of_ble_eq_true rfl)) d_Bm_makeShare_124 ⟨Nat.le_of_ble_eq_true rfl, Nat.le_of_ble_eq_true rfl⟩) hS (fun q _ h => h.elim) (fun q h => h.elim) (fun r124 u9 t9 H1 locs ht hvm hw hB hz1 hk1 hS => ?_)
                  obtain rfl : H = H1 := hB.symm.trans ht
                  have hw : r124 = lN (G ^ W1 % P) := hw
                  subst hw
                  refine lv_aload_n hx hb d_Bm_makeShare_127 rfl (lv_at hl 1 rfl) ?_
                  refine lv_aload_n hx hb d_Bm_makeShare_128 rfl (lv_at hl 1 rfl) ?_
                  refine va_get (D := (dC, dI)) (ci := 8) (v := .long (lN pa)) (C := "BallotBoardModel") (T := F_Bm) (N := 28) hx hb hts (fun w9 h9 => List.mem_cons_of_mem _ (i_Bm w9 h9)) hown hK hP 0 rfl rfl 8 (by decide) (hts _ (List.mem_cons_of_mem _ gk_927)) (fun _ h9 => h9) rfl d_Bm_makeShare_129 ?_
                  refine lv_lload hx hb d_Bm_makeShare_132 (lv_at hl 4 rfl) ?_
                  have hPc := hP.sub (ws' := (mo_ws m0 0 (nI N) (nI n) (nI bc) (lN P) (lN Q) (lN G) (lN al) (lN pa) (lN pb) cl a0 a1 a2 a3 a4 a5 a6 a7 a8 a9 b0 b1 oc b2 b3 b4 b5)) [0] rfl
                  have hKc := hK.sub (tys' := [(cJ, .long), (cI, .int)]) [0, 1] rfl
                  refine va_calll (vw_runV (As := [.long (lN pa), .long (lN W1)]) (rest := [.long (lN (G ^ W1 % P)), .long (lN (pa ^ X1 % P)), .long (lN pa), .long (lN I), .long 3, .ref m0]) ⟨hx, hb, hml, hown, hts⟩ (c_Bm_power2 l H dC dI cJ cI m0 0 (nI N) (nI n) (nI bc) (lN al) (lN pa) (lN pb) cl a0 a1 a2 a3 a4 a5 a6 a7 a8 a9 b0 b1 oc b2 b3 b4 b5 P Q G pa W1 hPc hPQ h61F hQ3 hpaP (by omega)) (cwV 2 hts (gw_V gk_1050 gk_1052 gp_31 gk_7 gk_1053) rfl rfl rfl (by decide +kernel) ⟨Nat.le_of_ble_eq_true rfl, Nat.le_of_ble_eq_true rfl⟩) (Nat.le_of_ble_eq_true rfl) ⟨fun a U g mk q => ⟨q.1, q.2.1, va_K.moved (u := U) (U := U.calling g mk a) (Vm.Alike.refl U.vm) q.2.2⟩, va_recv hK hP (ci := 8) (q0 := 0) rfl rfl, fun U hU hW => ⟨rfl, hU, va_K.moved hW.alike hKc⟩⟩ rfl rfl hl.1 rfl (vw_room (Nat.le_of_ble_eq_true rfl)) d_Bm_makeShare_134 ⟨Nat.le_of_ble_eq_true rfl, Nat.le_of_ble_eq_true rfl⟩) hS (fun q _ h => h.elim) (fun q h => h.elim) (fun r134 u9 t9 H1 locs ht hvm hw hB hz1 hk1 hS => ?_)
                  obtain rfl : H = H1 := hB.symm.trans ht
                  have hw : r134 = lN (pa ^ W1 % P) := hw
                  subst hw
                  have hPc := hP.sub (ws' := (mo_ws m0 0 (nI N) (nI n) (nI bc) (lN P) (lN Q) (lN G) (lN al) (lN pa) (lN pb) cl a0 a1 a2 a3 a4 a5 a6 a7 a8 a9 b0 b1 oc b2 b3 b4 b5 ++ (iw_ws a7 cI 256 bf ++ (iw_ws a8 cI 64 sc ++ (iw_ws a9 cI 8 st ++ (iw_ws b0 cI 8 kS ++ (iw_ws b1 cI 64 kR ++ (jw_ws a2 cJ 4 tf ++ (jw_ws a3 cJ 16 lf))))))))) [0, 1, 2, 3, 4, 5, 6, 12] rfl
                  have hDc := hD.sub (ws' := (mo_ws m0 0 (nI N) (nI n) (nI bc) (lN P) (lN Q) (lN G) (lN al) (lN pa) (lN pb) cl a0 a1 a2 a3 a4 a5 a6 a7 a8 a9 b0 b1 oc b2 b3 b4 b5 ++ (iw_ws a7 cI 256 bf ++ (iw_ws a8 cI 64 sc ++ (iw_ws a9 cI 8 st ++ (iw_ws b0 cI 8 kS ++ (iw_ws b1 cI 64 kR ++ (jw_ws a2 cJ 4 tf ++ (jw_ws a3 cJ 16 lf))))))))) [0, 1, 2, 3, 4, 5, 6, 12] (by decide) rfl
                  have hKc := hK.sub (tys' := [(cJ, .long), (cI, .int)]) [0, 1] rfl
                  have hFc := va_free (wc := (mo_ws m0 0 (nI N) (nI n) (nI bc) (lN P) (lN Q) (lN G) (lN al) (lN pa) (lN pb) cl a0 a1 a2 a3 a4 a5 a6 a7 a8 a9 b0 b1 oc b2 b3 b4 b5 ++ (iw_ws a7 cI 256 bf ++ (iw_ws a8 cI 64 sc ++ (iw_ws a9 cI 8 st ++ (iw_ws b0 cI 8 kS ++ (iw_ws b1 cI 64 kR ++ (jw_ws a2 cJ 4 tf ++ (jw_ws a3 cJ 16 lf))))))))) hD hS hA [0, 1, 2, 3, 4, 5, 6, 12] rfl
                  refine va_calll (va_runV (As := [.long 3, .long (lN I), .long (lN pa), .long (lN (pa ^ X1 % P)), .long (lN (G ^ W1 % P)), .long (lN (pa ^ W1 % P))]) (rest := []) ⟨hx, hb, hml, hown, hts⟩ (c_Bm_hash6 l dC dI cJ cI H.size m0 0 (nI N) (nI n) (nI bc) (lN al) (lN pa) (lN pb) cl a0 a1 a2 a3 a4 a5 a6 a7 a8 a9 b0 b1 oc b2 b3 b4 b5 P Q G bf sc st tf lf 3 (lN I) (lN pa) (lN (pa ^ X1 % P)) (lN (G ^ W1 % P)) (lN (pa ^ W1 % P)) hPQ h61F hQ3) (cwV 6 hts (gw_V gk_1158 gk_1160 gp_50 gk_7 gk_1161) rfl rfl rfl (by decide +kernel) ⟨Nat.le_of_ble_eq_true rfl, Nat.le_of_ble_eq_true rfl⟩) ⟨fun a U g mk q => by obtain ⟨q0, q1, qP, qK, qD⟩ := q; exact ⟨q0, q1, qP, va_K.moved (u := U) (U := U.calling g mk a) (Vm.Alike.refl U.vm) qK, qD⟩, va_recv hK hP (ci := 8) (q0 := 0) rfl rfl, fun U hU hW => ⟨rfl, by rw [hU], by rw [hU]; exact hPc, va_K.moved hW.alike hKc, hDc.weaken (fun _ _ _ _ => trivial)⟩⟩ rfl rfl hl.1 rfl (lv_room (Nat.le_of_ble_eq_true rfl)) d_Bm_makeShare_137 ⟨Nat.le_of_ble_eq_true rfl, Nat.le_of_ble_eq_true rfl⟩) hS (fun q _ h => hFc q h) hFc (fun r_12 u9 t9 H1 locs ht hvm hw hB hz1 hk1 hS => ?_)
                  obtain ⟨⟨gbk_11, gsk_11, gtk_11, gfk_11, gok_11⟩, glk_11⟩ := u9
                  have hw : r_12 = lN (hsh Q [lN P, lN G, 3, lN I, lN pa, lN (pa ^ X1 % P), lN (G ^ W1 % P), lN (pa ^ W1 % P)]) := hw
                  subst hw
                  obtain ⟨hP1, hK1, hD1⟩ := hB
                  rw [ht] at hP1
                  obtain ⟨hP, hD⟩ := va_join (wr := [(a0, .inl (cJ, 1232, .inr (.inl nf))), (a1, .inl (cJ, 616, .inr (.inl cf))), (a5, .inl (cI, 4, .inl sf)), (b4, .inl (cJ, 4, .inr (.inl sh))), (b2, .inl (cJ, 4, .inr (.inl ky)))]) (w1 := [(m0, .inr (8, [.int 0, .int (nI N), .int (nI n), .int (nI bc), .long (lN P), .long (lN Q), .long (lN G), .long (lN al), .long (lN pa), .long (lN pb), .int cl, .ref a0, .ref a1, .ref a2, .ref a3, .ref a4, .ref a5, .ref a6, .ref a7, .ref a8, .ref a9, .ref b0, .ref b1, .int (nI gok_11), .ref b2, .ref b3, .ref b4, .ref b5])), (a7, .inl (cI, 256, .inl gbk_11)), (a8, .inl (cI, 64, .inl gsk_11)), (a9, .inl (cI, 8, .inl gtk_11)), (b0, .inl (cI, 8, .inl kS)), (b1, .inl (cI, 64, .inl kR)), (a2, .inl (cJ, 4, .inr (.inl gfk_11))), (a3, .inl (cJ, 16, .inr (.inl glk_11)))]) hP hD [0, 1, 2, 3, 4, 5, 6, 12] [7, 8, 9, 10, 11] rfl rfl (by decide) (by decide) hk1 hFc hP1 hD1
                  have hP := hP.sub (ws' := [(m0, .inr (8, [.int 0, .int (nI N), .int (nI n), .int (nI bc), .long (lN P), .long (lN Q), .long (lN G), .long (lN al), .long (lN pa), .long (lN pb), .int cl, .ref a0, .ref a1, .ref a2, .ref a3, .ref a4, .ref a5, .ref a6, .ref a7, .ref a8, .ref a9, .ref b0, .ref b1, .int (nI gok_11), .ref b2, .ref b3, .ref b4, .ref b5])), (a7, .inl (cI, 256, .inl gbk_11)), (a8, .inl (cI, 64, .inl gsk_11)), (a9, .inl (cI, 8, .inl gtk_11)), (b0, .inl (cI, 8, .inl kS)), (b1, .inl (cI, 64, .inl kR)), (a2, .inl (cJ, 4, .inr (.inl gfk_11))), (a0, .inl (cJ, 1232, .inr (.inl nf))), (a1, .inl (cJ, 616, .inr (.inl cf))), (a5, .inl (cI, 4, .inl sf)), (b4, .inl (cJ, 4, .inr (.inl sh))), (b2, .inl (cJ, 4, .inr (.inl ky))), (a3, .inl (cJ, 16, .inr (.inl glk_11)))]) [5, 6, 7, 8, 9, 10, 11, 0, 1, 2, 3, 4, 12] rfl
                  have hD := hD.sub (ws' := [(m0, .inr (8, [.int 0, .int (nI N), .int (nI n), .int (nI bc), .long (lN P), .long (lN Q), .long (lN G), .long (lN al), .long (lN pa), .long (lN pb), .int cl, .ref a0, .ref a1, .ref a2, .ref a3, .ref a4, .ref a5, .ref a6, .ref a7, .ref a8, .ref a9, .ref b0, .ref b1, .int (nI gok_11), .ref b2, .ref b3, .ref b4, .ref b5])), (a7, .inl (cI, 256, .inl gbk_11)), (a8, .inl (cI, 64, .inl gsk_11)), (a9, .inl (cI, 8, .inl gtk_11)), (b0, .inl (cI, 8, .inl kS)), (b1, .inl (cI, 64, .inl kR)), (a2, .inl (cJ, 4, .inr (.inl gfk_11))), (a0, .inl (cJ, 1232, .inr (.inl nf))), (a1, .inl (cJ, 616, .inr (.inl cf))), (a5, .inl (cI, 4, .inl sf)), (b4, .inl (cJ, 4, .inr (.inl sh))), (b2, .inl (cJ, 4, .inr (.inl ky))), (a3, .inl (cJ, 16, .inr (.inl glk_11)))]) [5, 6, 7, 8, 9, 10, 11, 0, 1, 2, 3, 4, 12] (by decide) rfl
                  generalize H1 = H at hP hS ⊢
                  rw [show (lN (hsh Q [lN P, lN G, 3, lN I, lN pa, lN (pa ^ X1 % P), lN (G ^ W1 % P), lN (pa ^ W1 % P)]) : Int64) = (lN (shcR P Q G pa I X1 W1)) from rfl]
                  refine lv_lstore (lv' := [(8, .long (lN (shcR P Q G pa I X1 W1))), (6, .long (lN (pa ^ X1 % P))), (0, .ref m0), (1, .int (nI I)), (2, .long (lN X1)), (4, .long (lN W1))]) hx hb d_Bm_makeShare_140 hl (by decide) rfl (fun ls hl => ?_)
                  refine lv_lload hx hb d_Bm_makeShare_142 (lv_at hl 5 rfl) ?_
                  refine lv_lload hx hb d_Bm_makeShare_144 (lv_at hl 0 rfl) ?_
                  refine lv_lload_n hx hb d_Bm_makeShare_146 rfl (lv_at hl 4 rfl) ?_
                  refine lv_aload_n hx hb d_Bm_makeShare_147 rfl (lv_at hl 2 rfl) ?_
                  refine va_get (D := (dC, dI)) (ci := 8) (v := .long (lN Q)) (C := "BallotBoardModel") (T := F_Bm) (N := 28) hx hb hts (fun w9 h9 => List.mem_cons_of_mem _ (i_Bm w9 h9)) hown hK hP 0 rfl rfl 5 (by decide) (hts _ (List.mem_cons_of_mem _ gk_924)) (fun _ h9 => h9) rfl d_Bm_makeShare_148 ?_
                  refine va_calll (va_runS (As := [.long (lN (shcR P Q G pa I X1 W1)), .long (lN X1), .long (lN Q)]) (rest := [.long (lN W1)]) ⟨hx, hb, hml, hown, hts⟩ (c_Bm_product l H (shcR P Q G pa I X1 W1) X1 Q (hsh_lt (by omega) _) (by omega) (by omega)) (cwS 3 hts (gw_S gk_1021 gk_1022 gk_7 gk_1023) rfl rfl rfl (by decide +kernel) ⟨Nat.le_of_ble_eq_true rfl, Nat.le_of_ble_eq_true rfl⟩) ⟨fun a U g mk q => q, fun U hU hW => ⟨rfl, hU⟩⟩ rfl rfl hl.1 rfl (lv_room (Nat.le_of_ble_eq_true rfl)) d_Bm_makeShare_151 ⟨Nat.le_of_ble_eq_true rfl, Nat.le_of_ble_eq_true rfl⟩) hS (fun q _ h => h.elim) (fun q h => h.elim) (fun r151 u9 t9 H1 locs ht hvm hw hB hz1 hk1 hS => ?_)
                  obtain rfl : H = H1 := hB.symm.trans ht
                  have hw : r151 = lN ((shcR P Q G pa I X1 W1) * X1 % Q) := hw
                  subst hw
                  refine lv_aload_n hx hb d_Bm_makeShare_154 rfl (lv_at hl 2 rfl) ?_
                  refine va_get (D := (dC, dI)) (ci := 8) (v := .long (lN Q)) (C := "BallotBoardModel") (T := F_Bm) (N := 28) hx hb hts (fun w9 h9 => List.mem_cons_of_mem _ (i_Bm w9 h9)) hown hK hP 0 rfl rfl 5 (by decide) (hts _ (List.mem_cons_of_mem _ gk_924)) (fun _ h9 => h9) rfl d_Bm_makeShare_155 ?_
                  refine va_calll (va_runS (As := [.long (lN W1), .long (lN ((shcR P Q G pa I X1 W1) * X1 % Q)), .long (lN Q)]) (rest := []) ⟨hx, hb, hml, hown, hts⟩ (c_Bm_sum l H W1 ((shcR P Q G pa I X1 W1) * X1 % Q) Q hW9 (Nat.mod_lt _ (by omega)) (by omega)) (cwS 3 hts (gw_S gk_1024 gk_1025 gk_7 gk_1026) rfl rfl rfl (by decide +kernel) ⟨Nat.le_of_ble_eq_true rfl, Nat.le_of_ble_eq_true rfl⟩) ⟨fun a U g mk q => q, fun U hU hW => ⟨rfl, hU⟩⟩ rfl rfl hl.1 rfl (lv_room (Nat.le_of_ble_eq_true rfl)) d_Bm_makeShare_158 ⟨Nat.le_of_ble_eq_true rfl, Nat.le_of_ble_eq_true rfl⟩) hS (fun q _ h => h.elim) (fun q h => h.elim) (fun r158 u9 t9 H1 locs ht hvm hw hB hz1 hk1 hS => ?_)
                  obtain rfl : H = H1 := hB.symm.trans ht
                  have hw : r158 = lN ((W1 + ((shcR P Q G pa I X1 W1) * X1 % Q)) % Q) := hw
                  subst hw
                  refine lv_lstore (lv' := [(10, .long (lN ((W1 + ((shcR P Q G pa I X1 W1) * X1 % Q)) % Q))), (8, .long (lN (shcR P Q G pa I X1 W1))), (6, .long (lN (pa ^ X1 % P))), (0, .ref m0), (1, .int (nI I)), (2, .long (lN X1)), (4, .long (lN W1))]) hx hb d_Bm_makeShare_161 hl (by decide) rfl (fun ls hl => ?_)
                  refine lv_aload_n hx hb d_Bm_makeShare_163 rfl (lv_at hl 3 rfl) ?_
                  refine lv_aload_n hx hb d_Bm_makeShare_164 rfl (lv_at hl 3 rfl) ?_
                  refine lv_iload_n hx hb d_Bm_makeShare_165 rfl (lv_at hl 4 rfl) ?_
                  refine lv_lload hx hb d_Bm_makeShare_166 (lv_at hl 2 rfl) ?_
                  refine lv_lload hx hb d_Bm_makeShare_168 (lv_at hl 1 rfl) ?_
                  refine lv_lload hx hb d_Bm_makeShare_170 (lv_at hl 0 rfl) ?_
                  refine lv_aload_n hx hb d_Bm_makeShare_172 rfl (lv_at hl 3 rfl) ?_
                  refine va_get (D := (dC, dI)) (ci := 8) (v := .ref b2) (C := "BallotBoardModel") (T := F_Bm) (N := 28) hx hb hts (fun w9 h9 => List.mem_cons_of_mem _ (i_Bm w9 h9)) hown hK hP 0 rfl rfl 24 (by decide) (hts _ (List.mem_cons_of_mem _ gk_943)) (fun _ h9 => h9) rfl d_Bm_makeShare_173 ?_
                  refine lv_iload_n hx hb d_Bm_makeShare_176 rfl (lv_at hl 4 rfl) ?_
                  refine va_lald hx hb hK hP 11 0 rfl rfl (vp_in_nI (by omega) (by omega)) d_Bm_makeShare_177 ?_
                  rw [show (ky (nI I : Int32).toNatClampNeg : Int64) = ky I from by rw [nI_clamp (by omega)]]
                  rw [show (ky I : Int64) = (lN (ko I)) from (hky I hI hcl1).1]
                  refine lv_aload_n hx hb d_Bm_makeShare_178 rfl (lv_at hl 3 rfl) ?_
                  refine va_get (D := (dC, dI)) (ci := 8) (v := .long (lN pa)) (C := "BallotBoardModel") (T := F_Bm) (N := 28) hx hb hts (fun w9 h9 => List.mem_cons_of_mem _ (i_Bm w9 h9)) hown hK hP 0 rfl rfl 8 (by decide) (hts _ (List.mem_cons_of_mem _ gk_927)) (fun _ h9 => h9) rfl d_Bm_makeShare_179 ?_
                  have hPc := hP.sub (ws' := (mo_ws m0 0 (nI N) (nI n) (nI bc) (lN P) (lN Q) (lN G) (lN al) (lN pa) (lN pb) cl a0 a1 a2 a3 a4 a5 a6 a7 a8 a9 b0 b1 gok_11 b2 b3 b4 b5 ++ (iw_ws a7 cI 256 gbk_11 ++ (iw_ws a8 cI 64 gsk_11 ++ (iw_ws a9 cI 8 gtk_11 ++ (iw_ws b0 cI 8 kS ++ (iw_ws b1 cI 64 kR ++ (jw_ws a2 cJ 4 gfk_11 ++ (jw_ws a3 cJ 16 glk_11))))))))) [0, 1, 2, 3, 4, 5, 6, 12] rfl
                  have hDc := hD.sub (ws' := (mo_ws m0 0 (nI N) (nI n) (nI bc) (lN P) (lN Q) (lN G) (lN al) (lN pa) (lN pb) cl a0 a1 a2 a3 a4 a5 a6 a7 a8 a9 b0 b1 gok_11 b2 b3 b4 b5 ++ (iw_ws a7 cI 256 gbk_11 ++ (iw_ws a8 cI 64 gsk_11 ++ (iw_ws a9 cI 8 gtk_11 ++ (iw_ws b0 cI 8 kS ++ (iw_ws b1 cI 64 kR ++ (jw_ws a2 cJ 4 gfk_11 ++ (jw_ws a3 cJ 16 glk_11))))))))) [0, 1, 2, 3, 4, 5, 6, 12] (by decide) rfl
                  have hKc := hK.sub (tys' := [(cJ, .long), (cI, .int)]) [0, 1] rfl
                  have hFc := va_free (wc := (mo_ws m0 0 (nI N) (nI n) (nI bc) (lN P) (lN Q) (lN G) (lN al) (lN pa) (lN pb) cl a0 a1 a2 a3 a4 a5 a6 a7 a8 a9 b0 b1 gok_11 b2 b3 b4 b5 ++ (iw_ws a7 cI 256 gbk_11 ++ (iw_ws a8 cI 64 gsk_11 ++ (iw_ws a9 cI 8 gtk_11 ++ (iw_ws b0 cI 8 kS ++ (iw_ws b1 cI 64 kR ++ (jw_ws a2 cJ 4 gfk_11 ++ (jw_ws a3 cJ 16 glk_11))))))))) hD hS hA [0, 1, 2, 3, 4, 5, 6, 12] rfl
                  refine va_calli (va_runV (As := [.int (nI I), .long (lN (pa ^ X1 % P)), .long (lN (shcR P Q G pa I X1 W1)), .long (lN ((W1 + ((shcR P Q G pa I X1 W1) * X1 % Q)) % Q)), .long (lN (ko I)), .long (lN pa)]) (rest := [.ref m0]) ⟨hx, hb, hml, hown, hts⟩ (c_Bm_shareHolds l dC dI cJ cI H.size m0 0 (nI N) (nI n) (nI bc) (lN al) (lN pa) (lN pb) cl a0 a1 a2 a3 a4 a5 a6 a7 a8 a9 b0 b1 gok_11 b2 b3 b4 b5 P Q G gbk_11 gsk_11 gtk_11 gfk_11 glk_11 I (ko I) pa (lN (pa ^ X1 % P)) (lN (shcR P Q G pa I X1 W1)) (lN ((W1 + ((shcR P Q G pa I X1 W1) * X1 % Q)) % Q)) hPQ h61F hQ3 hG2 hGP hGQ (by omega) (hky I hI hcl1).2.1 (hky I hI hcl1).2.2 hpaP) (cwV 6 hts (gw_V gk_1153 gk_1155 gp_49 gk_7 gk_1156) rfl rfl rfl (by decide +kernel) ⟨Nat.le_of_ble_eq_true rfl, Nat.le_of_ble_eq_true rfl⟩) ⟨fun a U g mk q => by obtain ⟨q0, q1, qP, qK, qD⟩ := q; exact ⟨q0, q1, qP, va_K.moved (u := U) (U := U.calling g mk a) (Vm.Alike.refl U.vm) qK, qD⟩, va_recv hK hP (ci := 8) (q0 := 0) rfl rfl, fun U hU hW => ⟨rfl, by rw [hU], by rw [hU]; exact hPc, va_K.moved hW.alike hKc, hDc.weaken (fun _ _ _ _ => trivial)⟩⟩ rfl rfl hl.1 rfl (lv_room (Nat.le_of_ble_eq_true rfl)) d_Bm_makeShare_182 ⟨Nat.le_of_ble_eq_true rfl, Nat.le_of_ble_eq_true rfl⟩) hS (fun q _ h => hFc q h) hFc (fun r_14 u9 t9 H1 locs ht hvm hw hB hz1 hk1 hS => ?_)
                  obtain ⟨⟨gbk_13, gsk_13, gtk_13, gfk_13, gok_13⟩, glk_13⟩ := u9
                  have hr_14 := hw
                  obtain ⟨hP1, hK1, hD1⟩ := hB
                  rw [ht] at hP1
                  obtain ⟨hP, hD⟩ := va_join (wr := [(a0, .inl (cJ, 1232, .inr (.inl nf))), (a1, .inl (cJ, 616, .inr (.inl cf))), (a5, .inl (cI, 4, .inl sf)), (b4, .inl (cJ, 4, .inr (.inl sh))), (b2, .inl (cJ, 4, .inr (.inl ky)))]) (w1 := [(m0, .inr (8, [.int 0, .int (nI N), .int (nI n), .int (nI bc), .long (lN P), .long (lN Q), .long (lN G), .long (lN al), .long (lN pa), .long (lN pb), .int cl, .ref a0, .ref a1, .ref a2, .ref a3, .ref a4, .ref a5, .ref a6, .ref a7, .ref a8, .ref a9, .ref b0, .ref b1, .int (nI gok_13), .ref b2, .ref b3, .ref b4, .ref b5])), (a7, .inl (cI, 256, .inl gbk_13)), (a8, .inl (cI, 64, .inl gsk_13)), (a9, .inl (cI, 8, .inl gtk_13)), (b0, .inl (cI, 8, .inl kS)), (b1, .inl (cI, 64, .inl kR)), (a2, .inl (cJ, 4, .inr (.inl gfk_13))), (a3, .inl (cJ, 16, .inr (.inl glk_13)))]) hP hD [0, 1, 2, 3, 4, 5, 6, 12] [7, 8, 9, 10, 11] rfl rfl (by decide) (by decide) hk1 hFc hP1 hD1
                  have hP := hP.sub (ws' := [(m0, .inr (8, [.int 0, .int (nI N), .int (nI n), .int (nI bc), .long (lN P), .long (lN Q), .long (lN G), .long (lN al), .long (lN pa), .long (lN pb), .int cl, .ref a0, .ref a1, .ref a2, .ref a3, .ref a4, .ref a5, .ref a6, .ref a7, .ref a8, .ref a9, .ref b0, .ref b1, .int (nI gok_13), .ref b2, .ref b3, .ref b4, .ref b5])), (a7, .inl (cI, 256, .inl gbk_13)), (a8, .inl (cI, 64, .inl gsk_13)), (a9, .inl (cI, 8, .inl gtk_13)), (b0, .inl (cI, 8, .inl kS)), (b1, .inl (cI, 64, .inl kR)), (a2, .inl (cJ, 4, .inr (.inl gfk_13))), (a0, .inl (cJ, 1232, .inr (.inl nf))), (a1, .inl (cJ, 616, .inr (.inl cf))), (a5, .inl (cI, 4, .inl sf)), (b4, .inl (cJ, 4, .inr (.inl sh))), (b2, .inl (cJ, 4, .inr (.inl ky))), (a3, .inl (cJ, 16, .inr (.inl glk_13)))]) [5, 6, 7, 8, 9, 10, 11, 0, 1, 2, 3, 4, 12] rfl
                  have hD := hD.sub (ws' := [(m0, .inr (8, [.int 0, .int (nI N), .int (nI n), .int (nI bc), .long (lN P), .long (lN Q), .long (lN G), .long (lN al), .long (lN pa), .long (lN pb), .int cl, .ref a0, .ref a1, .ref a2, .ref a3, .ref a4, .ref a5, .ref a6, .ref a7, .ref a8, .ref a9, .ref b0, .ref b1, .int (nI gok_13), .ref b2, .ref b3, .ref b4, .ref b5])), (a7, .inl (cI, 256, .inl gbk_13)), (a8, .inl (cI, 64, .inl gsk_13)), (a9, .inl (cI, 8, .inl gtk_13)), (b0, .inl (cI, 8, .inl kS)), (b1, .inl (cI, 64, .inl kR)), (a2, .inl (cJ, 4, .inr (.inl gfk_13))), (a0, .inl (cJ, 1232, .inr (.inl nf))), (a1, .inl (cJ, 616, .inr (.inl cf))), (a5, .inl (cI, 4, .inl sf)), (b4, .inl (cJ, 4, .inr (.inl sh))), (b2, .inl (cJ, 4, .inr (.inl ky))), (a3, .inl (cJ, 16, .inr (.inl glk_13)))]) [5, 6, 7, 8, 9, 10, 11, 0, 1, 2, 3, 4, 12] (by decide) rfl
                  generalize H1 = H at hP hS ⊢
                  refine lv_if_ne (tgt := 192) hx hb d_Bm_makeShare_185 (by decide) (fun c_15 => ?_) (fun c_15 => ?_)
                  · -- taken
                    have bo_14 := bz_t hr_14 c_15
                    refine lv_iconst (v := 0) hx hb d_Bm_makeShare_192 (by decide) ?_
                    refine lv_iconst (v := 2) hx hb d_Bm_makeShare_193 (by decide) ?_
                    have hPc := hP.sub (ws' := (mo_ws m0 0 (nI N) (nI n) (nI bc) (lN P) (lN Q) (lN G) (lN al) (lN pa) (lN pb) cl a0 a1 a2 a3 a4 a5 a6 a7 a8 a9 b0 b1 gok_13 b2 b3 b4 b5)) [0] rfl
                    have hDc := hD.sub (ws' := (mo_ws m0 0 (nI N) (nI n) (nI bc) (lN P) (lN Q) (lN G) (lN al) (lN pa) (lN pb) cl a0 a1 a2 a3 a4 a5 a6 a7 a8 a9 b0 b1 gok_13 b2 b3 b4 b5)) [0] (by decide) rfl
                    have hKc := hK.sub (tys' := [(cJ, .long), (cI, .int)]) [0, 1] rfl
                    have hFc := va_free (wc := (mo_ws m0 0 (nI N) (nI n) (nI bc) (lN P) (lN Q) (lN G) (lN al) (lN pa) (lN pb) cl a0 a1 a2 a3 a4 a5 a6 a7 a8 a9 b0 b1 gok_13 b2 b3 b4 b5)) hD hS hA [0] rfl
                    refine va_calli (va_runV (As := [.int 0, .int 2]) (rest := []) ⟨hx, hb, hml, hown, hts⟩ (c_Bm_fails_0 l dC dI cJ cI H.size m0 (nI N) (nI n) (nI bc) (lN P) (lN Q) (lN G) (lN al) (lN pa) (lN pb) cl a0 a1 a2 a3 a4 a5 a6 a7 a8 a9 b0 b1 gok_13 b2 b3 b4 b5 2) (cwV 2 hts (gw_V gk_1030 gk_1032 gp_27 gk_7 gk_1033) rfl rfl rfl (by decide +kernel) ⟨Nat.le_of_ble_eq_true rfl, Nat.le_of_ble_eq_true rfl⟩) ⟨fun a U g mk q => by obtain ⟨q0, q1, qP, qK, qD⟩ := q; exact ⟨q0, q1, qP, va_K.moved (u := U) (U := U.calling g mk a) (Vm.Alike.refl U.vm) qK, qD⟩, va_recv hK hP (ci := 8) (q0 := 0) rfl rfl, fun U hU hW => ⟨rfl, by rw [hU], by rw [hU]; exact hPc, va_K.moved hW.alike hKc, hDc.weaken (fun _ _ _ _ => trivial)⟩⟩ rfl rfl hl.1 rfl (lv_room (Nat.le_of_ble_eq_true rfl)) d_Bm_makeShare_194 ⟨Nat.le_of_ble_eq_true rfl, Nat.le_of_ble_eq_true rfl⟩) hS (fun q _ h => hFc q h) hFc (fun r_16 u9 t9 H1 locs ht hvm hw hB hz1 hk1 hS => ?_)
                    have hw : r_16 = 0 := hw
                    subst hw
                    obtain ⟨hP1, hK1, hD1⟩ := hB
                    rw [ht] at hP1
                    obtain ⟨hP, hD⟩ := va_join (wr := [(a7, .inl (cI, 256, .inl gbk_13)), (a8, .inl (cI, 64, .inl gsk_13)), (a9, .inl (cI, 8, .inl gtk_13)), (b0, .inl (cI, 8, .inl kS)), (b1, .inl (cI, 64, .inl kR)), (a2, .inl (cJ, 4, .inr (.inl gfk_13))), (a0, .inl (cJ, 1232, .inr (.inl nf))), (a1, .inl (cJ, 616, .inr (.inl cf))), (a5, .inl (cI, 4, .inl sf)), (b4, .inl (cJ, 4, .inr (.inl sh))), (b2, .inl (cJ, 4, .inr (.inl ky))), (a3, .inl (cJ, 16, .inr (.inl glk_13)))]) (w1 := [(m0, .inr (8, [.int 0, .int (nI N), .int (nI n), .int (nI bc), .long (lN P), .long (lN Q), .long (lN G), .long (lN al), .long (lN pa), .long (lN pb), .int cl, .ref a0, .ref a1, .ref a2, .ref a3, .ref a4, .ref a5, .ref a6, .ref a7, .ref a8, .ref a9, .ref b0, .ref b1, .int (nI gok_13), .ref b2, .ref b3, .ref b4, .ref b5]))]) hP hD [0] [1, 2, 3, 4, 5, 6, 7, 8, 9, 10, 11, 12] rfl rfl (by decide) (by decide) hk1 hFc hP1 hD1
                    have hP := hP.sub (ws' := [(m0, .inr (8, [.int 0, .int (nI N), .int (nI n), .int (nI bc), .long (lN P), .long (lN Q), .long (lN G), .long (lN al), .long (lN pa), .long (lN pb), .int cl, .ref a0, .ref a1, .ref a2, .ref a3, .ref a4, .ref a5, .ref a6, .ref a7, .ref a8, .ref a9, .ref b0, .ref b1, .int (nI gok_13), .ref b2, .ref b3, .ref b4, .ref b5])), (a7, .inl (cI, 256, .inl gbk_13)), (a8, .inl (cI, 64, .inl gsk_13)), (a9, .inl (cI, 8, .inl gtk_13)), (b0, .inl (cI, 8, .inl kS)), (b1, .inl (cI, 64, .inl kR)), (a2, .inl (cJ, 4, .inr (.inl gfk_13))), (a0, .inl (cJ, 1232, .inr (.inl nf))), (a1, .inl (cJ, 616, .inr (.inl cf))), (a5, .inl (cI, 4, .inl sf)), (b4, .inl (cJ, 4, .inr (.inl sh))), (b2, .inl (cJ, 4, .inr (.inl ky))), (a3, .inl (cJ, 16, .inr (.inl glk_13)))]) [12, 0, 1, 2, 3, 4, 5, 6, 7, 8, 9, 10, 11] rfl
                    have hD := hD.sub (ws' := [(m0, .inr (8, [.int 0, .int (nI N), .int (nI n), .int (nI bc), .long (lN P), .long (lN Q), .long (lN G), .long (lN al), .long (lN pa), .long (lN pb), .int cl, .ref a0, .ref a1, .ref a2, .ref a3, .ref a4, .ref a5, .ref a6, .ref a7, .ref a8, .ref a9, .ref b0, .ref b1, .int (nI gok_13), .ref b2, .ref b3, .ref b4, .ref b5])), (a7, .inl (cI, 256, .inl gbk_13)), (a8, .inl (cI, 64, .inl gsk_13)), (a9, .inl (cI, 8, .inl gtk_13)), (b0, .inl (cI, 8, .inl kS)), (b1, .inl (cI, 64, .inl kR)), (a2, .inl (cJ, 4, .inr (.inl gfk_13))), (a0, .inl (cJ, 1232, .inr (.inl nf))), (a1, .inl (cJ, 616, .inr (.inl cf))), (a5, .inl (cI, 4, .inl sf)), (b4, .inl (cJ, 4, .inr (.inl sh))), (b2, .inl (cJ, 4, .inr (.inl ky))), (a3, .inl (cJ, 16, .inr (.inl glk_13)))]) [12, 0, 1, 2, 3, 4, 5, 6, 7, 8, 9, 10, 11] (by decide) rfl
                    generalize H1 = H at hP hS ⊢
                    refine lv_if_eq (tgt := 202) hx hb d_Bm_makeShare_197 (by decide) (fun c_17 => ?_) (fun c_17 => ?_)
                    · -- taken
                      refine lv_aload_n hx hb d_Bm_makeShare_202 rfl (lv_at hl 3 rfl) ?_
                      refine lv_iload_n hx hb d_Bm_makeShare_203 rfl (lv_at hl 4 rfl) ?_
                      refine lv_lload hx hb d_Bm_makeShare_204 (lv_at hl 2 rfl) ?_
                      refine lv_lload hx hb d_Bm_makeShare_206 (lv_at hl 1 rfl) ?_
                      refine lv_lload hx hb d_Bm_makeShare_208 (lv_at hl 0 rfl) ?_
                      have hPc := hP.sub (ws' := (mo_ws m0 0 (nI N) (nI n) (nI bc) (lN P) (lN Q) (lN G) (lN al) (lN pa) (lN pb) cl a0 a1 a2 a3 a4 a5 a6 a7 a8 a9 b0 b1 gok_13 b2 b3 b4 b5 ++ (iw_ws a7 cI 256 gbk_13 ++ (iw_ws a8 cI 64 gsk_13 ++ (iw_ws a9 cI 8 gtk_13 ++ (iw_ws b0 cI 8 kS ++ (iw_ws b1 cI 64 kR ++ (jw_ws a2 cJ 4 gfk_13 ++ (jw_ws a0 cJ 1232 nf ++ (jw_ws a1 cJ 616 cf ++ (iw_ws a5 cI 4 sf ++ (jw_ws b4 cJ 4 sh)))))))))))) [0, 1, 2, 3, 4, 5, 6, 7, 8, 9, 10] rfl
                      have hDc := hD.sub (ws' := (mo_ws m0 0 (nI N) (nI n) (nI bc) (lN P) (lN Q) (lN G) (lN al) (lN pa) (lN pb) cl a0 a1 a2 a3 a4 a5 a6 a7 a8 a9 b0 b1 gok_13 b2 b3 b4 b5 ++ (iw_ws a7 cI 256 gbk_13 ++ (iw_ws a8 cI 64 gsk_13 ++ (iw_ws a9 cI 8 gtk_13 ++ (iw_ws b0 cI 8 kS ++ (iw_ws b1 cI 64 kR ++ (jw_ws a2 cJ 4 gfk_13 ++ (jw_ws a0 cJ 1232 nf ++ (jw_ws a1 cJ 616 cf ++ (iw_ws a5 cI 4 sf ++ (jw_ws b4 cJ 4 sh)))))))))))) [0, 1, 2, 3, 4, 5, 6, 7, 8, 9, 10] (by decide) rfl
                      have hKc := hK.sub (tys' := [(cJ, .long), (cI, .int)]) [0, 1] rfl
                      have hFc := va_free (wc := (mo_ws m0 0 (nI N) (nI n) (nI bc) (lN P) (lN Q) (lN G) (lN al) (lN pa) (lN pb) cl a0 a1 a2 a3 a4 a5 a6 a7 a8 a9 b0 b1 gok_13 b2 b3 b4 b5 ++ (iw_ws a7 cI 256 gbk_13 ++ (iw_ws a8 cI 64 gsk_13 ++ (iw_ws a9 cI 8 gtk_13 ++ (iw_ws b0 cI 8 kS ++ (iw_ws b1 cI 64 kR ++ (jw_ws a2 cJ 4 gfk_13 ++ (jw_ws a0 cJ 1232 nf ++ (jw_ws a1 cJ 616 cf ++ (iw_ws a5 cI 4 sf ++ (jw_ws b4 cJ 4 sh)))))))))))) hD hS hA [0, 1, 2, 3, 4, 5, 6, 7, 8, 9, 10] rfl
                      refine va_calli (va_runV (As := [.int (nI I), .long (lN (pa ^ X1 % P)), .long (lN (shcR P Q G pa I X1 W1)), .long (lN ((W1 + ((shcR P Q G pa I X1 W1) * X1 % Q)) % Q))]) (rest := []) ⟨hx, hb, hml, hown, hts⟩ (c_Bm_putShare l dC dI cJ cI H.size m0 0 N n bc P Q G al pa pb cl a0 a1 a2 a3 a4 a5 a6 a7 a8 a9 b0 b1 gok_13 b2 b3 b4 b5 gbk_13 gsk_13 gtk_13 sf gfk_13 nf cf sh I (pa ^ X1 % P) (lN (shcR P Q G pa I X1 W1)) (lN ((W1 + ((shcR P Q G pa I X1 W1) * X1 % Q)) % Q)) (by omega) hn0 (by omega)) (cwV 4 hts (gw_V gk_1162 gk_1164 gp_51 gk_7 gk_1165) rfl rfl rfl (by decide +kernel) ⟨Nat.le_of_ble_eq_true rfl, Nat.le_of_ble_eq_true rfl⟩) ⟨fun a U g mk q => by obtain ⟨q0, q1, qP, qK, qD⟩ := q; exact ⟨q0, q1, qP, va_K.moved (u := U) (U := U.calling g mk a) (Vm.Alike.refl U.vm) qK, qD⟩, va_recv hK hP (ci := 8) (q0 := 0) rfl rfl, fun U hU hW => ⟨rfl, by rw [hU], by rw [hU]; exact hPc, va_K.moved hW.alike hKc, hDc.weaken (fun _ _ _ _ => trivial)⟩⟩ rfl rfl hl.1 rfl (lv_room (Nat.le_of_ble_eq_true rfl)) d_Bm_makeShare_210 ⟨Nat.le_of_ble_eq_true rfl, Nat.le_of_ble_eq_true rfl⟩) hS (fun q _ h => hFc q h) hFc (fun r_19 u9 t9 H1 locs ht hvm hw hB hz1 hk1 hS => ?_)
                      obtain ⟨gbk_18, gsk_18, gtk_18, gfk_18, gok_18⟩ := u9
                      have hw : r_19 = nI n := hw
                      subst hw
                      obtain ⟨hP1, hK1, hD1⟩ := hB
                      rw [ht] at hP1
                      obtain ⟨hP, hD⟩ := va_join (wr := [(b2, .inl (cJ, 4, .inr (.inl ky))), (a3, .inl (cJ, 16, .inr (.inl glk_13)))]) (w1 := [(m0, .inr (8, [.int 0, .int (nI N), .int (nI (n + 1)), .int (nI bc), .long (lN P), .long (lN Q), .long (lN G), .long (lN al), .long (lN pa), .long (lN pb), .int cl, .ref a0, .ref a1, .ref a2, .ref a3, .ref a4, .ref a5, .ref a6, .ref a7, .ref a8, .ref a9, .ref b0, .ref b1, .int (nI gok_18), .ref b2, .ref b3, .ref b4, .ref b5])), (a7, .inl (cI, 256, .inl gbk_18)), (a8, .inl (cI, 64, .inl gsk_18)), (a9, .inl (cI, 8, .inl gtk_18)), (b0, .inl (cI, 8, .inl kS)), (b1, .inl (cI, 64, .inl kR)), (a2, .inl (cJ, 4, .inr (.inl gfk_18))), (a0, .inl (cJ, 1232, .inr (.inl (w8 nf (8 * n) (lN 3) (lN I) (lN (pa ^ X1 % P)) (lN (shcR P Q G pa I X1 W1)) (lN ((W1 + ((shcR P Q G pa I X1 W1) * X1 % Q)) % Q)) 0 0 0)))), (a1, .inl (cJ, 616, .inr (.inl (c4 cf (4 * n) (lkw [cf (4 * (n - 1) + 0), cf (4 * (n - 1) + 1), cf (4 * (n - 1) + 2), cf (4 * (n - 1) + 3), lN 3, lN I, lN (pa ^ X1 % P), lN (shcR P Q G pa I X1 W1), lN ((W1 + ((shcR P Q G pa I X1 W1) * X1 % Q)) % Q)]))))), (a5, .inl (cI, 4, .inl (upd sf I (nI n)))), (b4, .inl (cJ, 4, .inr (.inl (vp_updL sh I (lN (pa ^ X1 % P))))))]) hP hD [0, 1, 2, 3, 4, 5, 6, 7, 8, 9, 10] [11, 12] rfl rfl (by decide) (by decide) hk1 hFc hP1 hD1
                      have hP := hP.sub (ws' := [(m0, .inr (8, [.int 0, .int (nI N), .int (nI (n + 1)), .int (nI bc), .long (lN P), .long (lN Q), .long (lN G), .long (lN al), .long (lN pa), .long (lN pb), .int cl, .ref a0, .ref a1, .ref a2, .ref a3, .ref a4, .ref a5, .ref a6, .ref a7, .ref a8, .ref a9, .ref b0, .ref b1, .int (nI gok_18), .ref b2, .ref b3, .ref b4, .ref b5])), (a7, .inl (cI, 256, .inl gbk_18)), (a8, .inl (cI, 64, .inl gsk_18)), (a9, .inl (cI, 8, .inl gtk_18)), (b0, .inl (cI, 8, .inl kS)), (b1, .inl (cI, 64, .inl kR)), (a2, .inl (cJ, 4, .inr (.inl gfk_18))), (a0, .inl (cJ, 1232, .inr (.inl (w8 nf (8 * n) (lN 3) (lN I) (lN (pa ^ X1 % P)) (lN (shcR P Q G pa I X1 W1)) (lN ((W1 + ((shcR P Q G pa I X1 W1) * X1 % Q)) % Q)) 0 0 0)))), (a1, .inl (cJ, 616, .inr (.inl (c4 cf (4 * n) (lkw [cf (4 * (n - 1) + 0), cf (4 * (n - 1) + 1), cf (4 * (n - 1) + 2), cf (4 * (n - 1) + 3), lN 3, lN I, lN (pa ^ X1 % P), lN (shcR P Q G pa I X1 W1), lN ((W1 + ((shcR P Q G pa I X1 W1) * X1 % Q)) % Q)]))))), (a5, .inl (cI, 4, .inl (upd sf I (nI n)))), (b4, .inl (cJ, 4, .inr (.inl (vp_updL sh I (lN (pa ^ X1 % P)))))), (b2, .inl (cJ, 4, .inr (.inl ky))), (a3, .inl (cJ, 16, .inr (.inl glk_13)))]) [2, 3, 4, 5, 6, 7, 8, 9, 10, 11, 12, 0, 1] rfl
                      have hD := hD.sub (ws' := [(m0, .inr (8, [.int 0, .int (nI N), .int (nI (n + 1)), .int (nI bc), .long (lN P), .long (lN Q), .long (lN G), .long (lN al), .long (lN pa), .long (lN pb), .int cl, .ref a0, .ref a1, .ref a2, .ref a3, .ref a4, .ref a5, .ref a6, .ref a7, .ref a8, .ref a9, .ref b0, .ref b1, .int (nI gok_18), .ref b2, .ref b3, .ref b4, .ref b5])), (a7, .inl (cI, 256, .inl gbk_18)), (a8, .inl (cI, 64, .inl gsk_18)), (a9, .inl (cI, 8, .inl gtk_18)), (b0, .inl (cI, 8, .inl kS)), (b1, .inl (cI, 64, .inl kR)), (a2, .inl (cJ, 4, .inr (.inl gfk_18))), (a0, .inl (cJ, 1232, .inr (.inl (w8 nf (8 * n) (lN 3) (lN I) (lN (pa ^ X1 % P)) (lN (shcR P Q G pa I X1 W1)) (lN ((W1 + ((shcR P Q G pa I X1 W1) * X1 % Q)) % Q)) 0 0 0)))), (a1, .inl (cJ, 616, .inr (.inl (c4 cf (4 * n) (lkw [cf (4 * (n - 1) + 0), cf (4 * (n - 1) + 1), cf (4 * (n - 1) + 2), cf (4 * (n - 1) + 3), lN 3, lN I, lN (pa ^ X1 % P), lN (shcR P Q G pa I X1 W1), lN ((W1 + ((shcR P Q G pa I X1 W1) * X1 % Q)) % Q)]))))), (a5, .inl (cI, 4, .inl (upd sf I (nI n)))), (b4, .inl (cJ, 4, .inr (.inl (vp_updL sh I (lN (pa ^ X1 % P)))))), (b2, .inl (cJ, 4, .inr (.inl ky))), (a3, .inl (cJ, 16, .inr (.inl glk_13)))]) [2, 3, 4, 5, 6, 7, 8, 9, 10, 11, 12, 0, 1] (by decide) rfl
                      generalize H1 = H at hP hS ⊢
                      exact W.iret (v := (nI n)) hx hb hr (fun t ht9 hW => ⟨⟨_, ((gbk_18, gsk_18, gtk_18, gfk_18, gok_18), glk_13), rfl, rfl, by rw [ht9]; exact hP, va_K.moved hW.alike hK, hD⟩, hS.F ht9⟩) hS.2.2 d_Bm_makeShare_213
                    · -- not taken
                      exact absurd rfl c_17
                  · -- not taken
                    exact absurd hh (bz_f hr_14 c_15)
                · -- not taken
                  exact absurd rfl c_10
              · -- not taken
                exact absurd ⟨W1, rfl, hW9⟩ (bz_f h74 c_8)
      · -- not taken
        exact absurd ((rK_neg hrs hn (show I < 4 by omega)).mpr hs0) c_3
