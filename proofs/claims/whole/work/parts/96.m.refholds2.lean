set_option maxHeartbeats 8000000 in
set_option maxRecDepth 100000 in
theorem c_Bm_holds_2 (l : Launch) (dC : Nat → ClassId) (dI : Nat → Nat → Nat) (cJ cI : ClassId) (sz : Nat) (m0 : Nat) (e0 : Int32) (N n bc P Q G al pa pb : Nat) (cl : Int32) (a0 a1 a2 a3 a4 a5 a6 a7 a8 a9 b0 b1 oc b2 b3 b4 b5 : Nat) (bf sc st kf ct : Nat → Int32) (tf nf cf lf : Nat → Int64) (T0 : TS) (kd wh : Nat → Nat) (R Lk : Nat → Nat → Int64) (k : Nat) (hPQ : P = 2 * Q + 1) (h61F : P < 2 ^ 61) (hQ3 : 3 ≤ Q) (hG2 : 2 ≤ G) (hGP : G < P) (hGQ : G ^ Q % P = 1) (hN : N ≤ 4) (hN0 : 0 < N) (hwf : wfE n N kd wh R) (hE : EI n N kd wh) (hnf : ∀ e, e < n → ∀ j, j < wdt (kd e) → nf (8 * e + j) = R e j) (hcf : ∀ e, e < n → ∀ j, j < 4 → cf (4 * e + j) = Lk e j) (hkf : ∀ e, e < n → kd e = 1 → kf (wh e) = nI e) (h0k : tOk P N (tStart N T0)) (hk : k < n) (hkK : kd k = 2) (hk0 : 0 < k) (hall : ∀ i, i < k → hds P Q G N T0 kd wh R Lk i) (hCR : CR k (aud P N T0 kd wh R k) R ct) : Met l y_Bm_holds w_Bm_holds ({ frames := 7, cells := 0, slots := 0, locals := 236 }) (va_Pc [.ref m0, .int (nI k)] (fun U => U.heap.size = sz ∧ va_P (dC, dI) classes (mo_ws m0 e0 (nI N) (nI n) (nI bc) (lN P) (lN Q) (lN G) (lN al) (lN pa) (lN pb) cl a0 a1 a2 a3 a4 a5 a6 a7 a8 a9 b0 b1 oc b2 b3 b4 b5 ++ (iw_ws a7 cI 256 bf ++ (iw_ws a8 cI 64 sc ++ (iw_ws a9 cI 8 st ++ (iw_ws b0 cI 8 kS ++ (iw_ws b1 cI 64 kR ++ (jw_ws a2 cJ 4 tf ++ (jw_ws a0 cJ 1232 nf ++ (jw_ws a1 cJ 616 cf ++ (iw_ws a4 cI 4 kf ++ (iw_ws b5 cI 64 ct ++ (jw_ws a3 cJ 16 lf)))))))))))) U.heap ∧ va_K (dC, dI) classes [(cJ, .long), (cI, .int)] U ∧ va_D (fun _ => True) (mo_ws m0 e0 (nI N) (nI n) (nI bc) (lN P) (lN Q) (lN G) (lN al) (lN pa) (lN pb) cl a0 a1 a2 a3 a4 a5 a6 a7 a8 a9 b0 b1 oc b2 b3 b4 b5 ++ (iw_ws a7 cI 256 bf ++ (iw_ws a8 cI 64 sc ++ (iw_ws a9 cI 8 st ++ (iw_ws b0 cI 8 kS ++ (iw_ws b1 cI 64 kR ++ (jw_ws a2 cJ 4 tf ++ (jw_ws a0 cJ 1232 nf ++ (jw_ws a1 cJ 616 cf ++ (iw_ws a4 cI 4 kf ++ (iw_ws b5 cI 64 ct ++ (jw_ws a3 cJ 16 lf)))))))))))))) (va_Qi (fun (r : Int32) (u9 : DU × (Nat → Int64) × (Nat → Int32)) => bz r (hds P Q G N T0 kd wh R Lk k) ∧ (hds P Q G N T0 kd wh R Lk k → CR (k + 1) (aud P N T0 kd wh R (k + 1)) R u9.2.2)) (fun u9 t => va_P (dC, dI) classes (mo_ws m0 e0 (nI N) (nI n) (nI bc) (lN P) (lN Q) (lN G) (lN al) (lN pa) (lN pb) cl a0 a1 a2 a3 a4 a5 a6 a7 a8 a9 b0 b1 u9.1.2.2.2.2 b2 b3 b4 b5 ++ (iw_ws a7 cI 256 u9.1.1 ++ (iw_ws a8 cI 64 u9.1.2.1 ++ (iw_ws a9 cI 8 u9.1.2.2.1 ++ (iw_ws b0 cI 8 kS ++ (iw_ws b1 cI 64 kR ++ (jw_ws a2 cJ 4 u9.1.2.2.2.1 ++ (jw_ws a0 cJ 1232 nf ++ (jw_ws a1 cJ 616 cf ++ (iw_ws a4 cI 4 kf ++ (iw_ws b5 cI 64 u9.2.2 ++ (jw_ws a3 cJ 16 u9.2.1)))))))))))) t.heap ∧ va_K (dC, dI) classes [(cJ, .long), (cI, .int)] t ∧ va_D (va_A (mo_ws m0 e0 (nI N) (nI n) (nI bc) (lN P) (lN Q) (lN G) (lN al) (lN pa) (lN pb) cl a0 a1 a2 a3 a4 a5 a6 a7 a8 a9 b0 b1 oc b2 b3 b4 b5 ++ (iw_ws a7 cI 256 bf ++ (iw_ws a8 cI 64 sc ++ (iw_ws a9 cI 8 st ++ (iw_ws b0 cI 8 kS ++ (iw_ws b1 cI 64 kR ++ (jw_ws a2 cJ 4 tf ++ (jw_ws a0 cJ 1232 nf ++ (jw_ws a1 cJ 616 cf ++ (iw_ws a4 cI 4 kf ++ (iw_ws b5 cI 64 ct ++ (jw_ws a3 cJ 16 lf)))))))))))) sz) (mo_ws m0 e0 (nI N) (nI n) (nI bc) (lN P) (lN Q) (lN G) (lN al) (lN pa) (lN pb) cl a0 a1 a2 a3 a4 a5 a6 a7 a8 a9 b0 b1 u9.1.2.2.2.2 b2 b3 b4 b5 ++ (iw_ws a7 cI 256 u9.1.1 ++ (iw_ws a8 cI 64 u9.1.2.1 ++ (iw_ws a9 cI 8 u9.1.2.2.1 ++ (iw_ws b0 cI 8 kS ++ (iw_ws b1 cI 64 kR ++ (jw_ws a2 cJ 4 u9.1.2.2.2.1 ++ (jw_ws a0 cJ 1232 nf ++ (jw_ws a1 cJ 616 cf ++ (iw_ws a4 cI 4 kf ++ (iw_ws b5 cI 64 u9.2.2 ++ (jw_ws a3 cJ 16 u9.2.1))))))))))))) (va_A (mo_ws m0 e0 (nI N) (nI n) (nI bc) (lN P) (lN Q) (lN G) (lN al) (lN pa) (lN pb) cl a0 a1 a2 a3 a4 a5 a6 a7 a8 a9 b0 b1 oc b2 b3 b4 b5 ++ (iw_ws a7 cI 256 bf ++ (iw_ws a8 cI 64 sc ++ (iw_ws a9 cI 8 st ++ (iw_ws b0 cI 8 kS ++ (iw_ws b1 cI 64 kR ++ (jw_ws a2 cJ 4 tf ++ (jw_ws a0 cJ 1232 nf ++ (jw_ws a1 cJ 616 cf ++ (iw_ws a4 cI 4 kf ++ (iw_ws b5 cI 64 ct ++ (jw_ws a3 cJ 16 lf)))))))))))) sz)) 0 0 (va_A (mo_ws m0 e0 (nI N) (nI n) (nI bc) (lN P) (lN Q) (lN G) (lN al) (lN pa) (lN pb) cl a0 a1 a2 a3 a4 a5 a6 a7 a8 a9 b0 b1 oc b2 b3 b4 b5 ++ (iw_ws a7 cI 256 bf ++ (iw_ws a8 cI 64 sc ++ (iw_ws a9 cI 8 st ++ (iw_ws b0 cI 8 kS ++ (iw_ws b1 cI 64 kR ++ (jw_ws a2 cJ 4 tf ++ (jw_ws a0 cJ 1232 nf ++ (jw_ws a1 cJ 616 cf ++ (iw_ws a4 cI 4 kf ++ (iw_ws b5 cI 64 ct ++ (jw_ws a3 cJ 16 lf)))))))))))) sz) := by
  refine Met.ofW (cc := b_Bm_holds) (maxL := 6) (ret := (some .boolean)) (by decide) rfl ?_
  intro p e s m args below meth c s₁ Bd hml hv
  obtain ⟨rfl, hsz, hP, hK, hD0⟩ := hv
  have hx := Bd.exec
  have hb := Bd.bytes
  have hr := Bd.returns
  have hts := atoms_spec (ws := w_Bm_holds) Bd.pre
  have hown : s.vm.findClass "BallotBoardModel" = some m.cls := findClass_of_methodNamed Bd.named
  have hlocks := Bd.notSynchronized
  subst hsz
  have hD := hD0.self (sz := s.heap.size)
  generalize hAe : va_A (mo_ws m0 e0 (nI N) (nI n) (nI bc) (lN P) (lN Q) (lN G) (lN al) (lN pa) (lN pb) cl a0 a1 a2 a3 a4 a5 a6 a7 a8 a9 b0 b1 oc b2 b3 b4 b5 ++ (iw_ws a7 cI 256 bf ++ (iw_ws a8 cI 64 sc ++ (iw_ws a9 cI 8 st ++ (iw_ws b0 cI 8 kS ++ (iw_ws b1 cI 64 kR ++ (jw_ws a2 cJ 4 tf ++ (jw_ws a0 cJ 1232 nf ++ (jw_ws a1 cJ 616 cf ++ (iw_ws a4 cI 4 kf ++ (iw_ws b5 cI 64 ct ++ (jw_ws a3 cJ 16 lf)))))))))))) s.heap.size = A at hD ⊢
  have hA : ∀ q : Nat, s.heap.size ≤ q → A q := fun q h => by rw [← hAe]; exact Or.inr h
  have hS : va_S A s.heap s.heap [] := va_S.rf
  have hl := lv_entry ([.ref m0, .int (nI k)]) (n := 6) (Nat.le_of_ble_eq_true rfl)
  rw [lg_entry_eq]
  generalize (lg_sl ([.ref m0, .int (nI k)]) ++ List.replicate (6 - (lg_sl ([.ref m0, .int (nI k)])).length) Slot.unset).toArray = ls at hl ⊢
  have hl : lv_has ls 6 [(0, .ref m0), (1, .int (nI k))] := hl
  obtain ⟨hkd, hr0, hr1, hb64, hwN⟩ := hwf.2.1 k hk
  have hn154 := hwf.1
  have hP62 : P < 2 ^ 62 := by omega
  have hPone : 1 < P := by omega
  have hAI := AI_aud (Q := Q) (G := G) (T0 := T0) (Lk := Lk) hN hPone hP62 hwf hE k (by omega) hall
  have htok := aud_ok (n := n) hPone hP62 h0k k hall
  have hCS : hds P Q G N T0 kd wh R Lk k → CR (k + 1) (aud P N T0 kd wh R (k + 1)) R (if kd k = 2 then upd ct (wh k) (nI k) else ct) := fun h => CR_step hP62 hwf hk hCR h.2
  obtain ⟨TA, hTA⟩ : ∃ T, T = aud P N T0 kd wh R k := ⟨_, rfl⟩
  rw [← hTA] at hAI htok hCR
  have hw8 := wdt_le2 (kd k)
  have hw5 := wdt_ge2 (kd k)
  have hwd : wdt (kd k) = 8 := by unfold wdt; rw [if_pos hkK]
  have hmsg : [cf (4 * (k - 1) + 0), cf (4 * (k - 1) + 1), cf (4 * (k - 1) + 2), cf (4 * (k - 1) + 3), nf (8 * k + 0), nf (8 * k + 1), nf (8 * k + 2), nf (8 * k + 3), nf (8 * k + 4), nf (8 * k + 5), nf (8 * k + 6), nf (8 * k + 7)] = msgL (kd k) k (R k) Lk := by
    unfold msgL prvL rowL
    rw [if_neg (show ¬ k = 0 by omega), if_pos hkK, hcf (k - 1) (by omega) 0 (by omega), hcf (k - 1) (by omega) 1 (by omega), hcf (k - 1) (by omega) 2 (by omega), hcf (k - 1) (by omega) 3 (by omega), hnf k hk 0 (by omega), hnf k hk 1 (by omega), hnf k hk 2 (by omega), hnf k hk 3 (by omega), hnf k hk 4 (by omega), hnf k hk 5 (by omega), hnf k hk 6 (by omega), hnf k hk 7 (by omega)]
    rfl
  have hhk : hds P Q G N T0 kd wh R Lk k ↔ lnk4 (Lk k) (msgL (kd k) k (R k) Lk) ∧ balHd P Q G (ckey (t_tn TA) (t_kc TA) (t_kp TA)) (wh k) (R k 2) (R k 3) (R k 4) (R k 5) (R k 6) (R k 7) := by
    unfold hds prf
    rw [← hTA, if_neg (show ¬ kd k = 1 by omega), if_pos hkK]
  refine lv_aload_n hx hb d_Bm_holds_0 rfl (lv_at hl 0 rfl) ?_
  refine lv_iload_n hx hb d_Bm_holds_1 rfl (lv_at hl 1 rfl) ?_
  have hPc := hP.sub (ws' := (mo_ws m0 e0 (nI N) (nI n) (nI bc) (lN P) (lN Q) (lN G) (lN al) (lN pa) (lN pb) cl a0 a1 a2 a3 a4 a5 a6 a7 a8 a9 b0 b1 oc b2 b3 b4 b5 ++ (iw_ws a7 cI 256 bf ++ (iw_ws a8 cI 64 sc ++ (iw_ws a9 cI 8 st ++ (iw_ws b0 cI 8 kS ++ (iw_ws b1 cI 64 kR ++ (jw_ws a2 cJ 4 tf ++ (jw_ws a0 cJ 1232 nf ++ (jw_ws a1 cJ 616 cf)))))))))) [0, 1, 2, 3, 4, 5, 6, 7, 8] rfl
  have hDc := hD.sub (ws' := (mo_ws m0 e0 (nI N) (nI n) (nI bc) (lN P) (lN Q) (lN G) (lN al) (lN pa) (lN pb) cl a0 a1 a2 a3 a4 a5 a6 a7 a8 a9 b0 b1 oc b2 b3 b4 b5 ++ (iw_ws a7 cI 256 bf ++ (iw_ws a8 cI 64 sc ++ (iw_ws a9 cI 8 st ++ (iw_ws b0 cI 8 kS ++ (iw_ws b1 cI 64 kR ++ (jw_ws a2 cJ 4 tf ++ (jw_ws a0 cJ 1232 nf ++ (jw_ws a1 cJ 616 cf)))))))))) [0, 1, 2, 3, 4, 5, 6, 7, 8] (by decide) rfl
  have hKc := hK.sub (tys' := [(cJ, .long), (cI, .int)]) [0, 1] rfl
  have hFc := va_free (wc := (mo_ws m0 e0 (nI N) (nI n) (nI bc) (lN P) (lN Q) (lN G) (lN al) (lN pa) (lN pb) cl a0 a1 a2 a3 a4 a5 a6 a7 a8 a9 b0 b1 oc b2 b3 b4 b5 ++ (iw_ws a7 cI 256 bf ++ (iw_ws a8 cI 64 sc ++ (iw_ws a9 cI 8 st ++ (iw_ws b0 cI 8 kS ++ (iw_ws b1 cI 64 kR ++ (jw_ws a2 cJ 4 tf ++ (jw_ws a0 cJ 1232 nf ++ (jw_ws a1 cJ 616 cf)))))))))) hD hS hA [0, 1, 2, 3, 4, 5, 6, 7, 8] rfl
  refine va_callv (va_runV (As := [.int (nI k)]) (rest := []) ⟨hx, hb, hml, hown, hts⟩ (c_Bm_link_8 l dC dI cJ cI s.heap.size m0 e0 (nI N) (nI n) (nI bc) (lN P) (lN Q) (lN G) (lN al) (lN pa) (lN pb) cl a0 a1 a2 a3 a4 a5 a6 a7 a8 a9 b0 b1 oc b2 b3 b4 b5 bf sc st tf nf cf k (msgL (kd k) k (R k) Lk) (by omega) hk0 (by rw [hnf k hk 0 (by omega), hr0, hkK]; rfl) hmsg) (cwV 1 hts (gw_V gk_1098 gk_1100 gp_41 gk_7 gk_1101) rfl rfl rfl (by decide +kernel) ⟨Nat.le_of_ble_eq_true rfl, Nat.le_of_ble_eq_true rfl⟩) ⟨fun a U g mk q => by obtain ⟨q0, q1, qP, qK, qD⟩ := q; exact ⟨q0, q1, qP, va_K.moved (u := U) (U := U.calling g mk a) (Vm.Alike.refl U.vm) qK, qD⟩, va_recv hK hP (ci := 8) (q0 := 0) rfl rfl, fun U hU hW => ⟨rfl, by rw [hU], by rw [hU]; exact hPc, va_K.moved hW.alike hKc, hDc.weaken (fun _ _ _ _ => trivial)⟩⟩ rfl rfl hl.1 rfl (lv_room (Nat.le_of_ble_eq_true rfl)) d_Bm_holds_2 ⟨Nat.le_of_ble_eq_true rfl, Nat.le_of_ble_eq_true rfl⟩) hS (fun q _ h => hFc q h) hFc (fun u9 t9 H1 locs ht hvm hw hB hz1 hk1 hS => ?_)
  obtain ⟨gbk_1, gsk_1, gtk_1, gfk_1, gok_1⟩ := u9
  have hdg : dgo gtk_1 (msgL (kd k) k (R k) Lk) ∧ ∀ j, j < 4 → gfk_1 j = lkw (msgL (kd k) k (R k) Lk) j := hw
  obtain ⟨hP1, hK1, hD1⟩ := hB
  rw [ht] at hP1
  obtain ⟨hP, hD⟩ := va_join (wr := [(a4, .inl (cI, 4, .inl kf)), (b5, .inl (cI, 64, .inl ct)), (a3, .inl (cJ, 16, .inr (.inl lf)))]) (w1 := [(m0, .inr (8, [.int e0, .int (nI N), .int (nI n), .int (nI bc), .long (lN P), .long (lN Q), .long (lN G), .long (lN al), .long (lN pa), .long (lN pb), .int cl, .ref a0, .ref a1, .ref a2, .ref a3, .ref a4, .ref a5, .ref a6, .ref a7, .ref a8, .ref a9, .ref b0, .ref b1, .int (nI gok_1), .ref b2, .ref b3, .ref b4, .ref b5])), (a7, .inl (cI, 256, .inl gbk_1)), (a8, .inl (cI, 64, .inl gsk_1)), (a9, .inl (cI, 8, .inl gtk_1)), (b0, .inl (cI, 8, .inl kS)), (b1, .inl (cI, 64, .inl kR)), (a2, .inl (cJ, 4, .inr (.inl gfk_1))), (a0, .inl (cJ, 1232, .inr (.inl nf))), (a1, .inl (cJ, 616, .inr (.inl cf)))]) hP hD [0, 1, 2, 3, 4, 5, 6, 7, 8] [9, 10, 11] rfl rfl (by decide) (by decide) hk1 hFc hP1 hD1
  have hP := hP.sub (ws' := [(m0, .inr (8, [.int e0, .int (nI N), .int (nI n), .int (nI bc), .long (lN P), .long (lN Q), .long (lN G), .long (lN al), .long (lN pa), .long (lN pb), .int cl, .ref a0, .ref a1, .ref a2, .ref a3, .ref a4, .ref a5, .ref a6, .ref a7, .ref a8, .ref a9, .ref b0, .ref b1, .int (nI gok_1), .ref b2, .ref b3, .ref b4, .ref b5])), (a7, .inl (cI, 256, .inl gbk_1)), (a8, .inl (cI, 64, .inl gsk_1)), (a9, .inl (cI, 8, .inl gtk_1)), (b0, .inl (cI, 8, .inl kS)), (b1, .inl (cI, 64, .inl kR)), (a2, .inl (cJ, 4, .inr (.inl gfk_1))), (a0, .inl (cJ, 1232, .inr (.inl nf))), (a1, .inl (cJ, 616, .inr (.inl cf))), (a4, .inl (cI, 4, .inl kf)), (b5, .inl (cI, 64, .inl ct)), (a3, .inl (cJ, 16, .inr (.inl lf)))]) [3, 4, 5, 6, 7, 8, 9, 10, 11, 0, 1, 2] rfl
  have hD := hD.sub (ws' := [(m0, .inr (8, [.int e0, .int (nI N), .int (nI n), .int (nI bc), .long (lN P), .long (lN Q), .long (lN G), .long (lN al), .long (lN pa), .long (lN pb), .int cl, .ref a0, .ref a1, .ref a2, .ref a3, .ref a4, .ref a5, .ref a6, .ref a7, .ref a8, .ref a9, .ref b0, .ref b1, .int (nI gok_1), .ref b2, .ref b3, .ref b4, .ref b5])), (a7, .inl (cI, 256, .inl gbk_1)), (a8, .inl (cI, 64, .inl gsk_1)), (a9, .inl (cI, 8, .inl gtk_1)), (b0, .inl (cI, 8, .inl kS)), (b1, .inl (cI, 64, .inl kR)), (a2, .inl (cJ, 4, .inr (.inl gfk_1))), (a0, .inl (cJ, 1232, .inr (.inl nf))), (a1, .inl (cJ, 616, .inr (.inl cf))), (a4, .inl (cI, 4, .inl kf)), (b5, .inl (cI, 64, .inl ct)), (a3, .inl (cJ, 16, .inr (.inl lf)))]) [3, 4, 5, 6, 7, 8, 9, 10, 11, 0, 1, 2] (by decide) rfl
  generalize H1 = H at hP hS ⊢
  refine lv_iconst (v := 0) hx hb d_Bm_holds_5 (by decide) ?_
  refine lv_istore_n (lv' := [(2, .int 0), (0, .ref m0), (1, .int (nI k))]) hx hb d_Bm_holds_6 rfl hl (by decide) rfl (fun ls hl => ?_)
  refine lv_iload_n hx hb d_Bm_holds_7 rfl (lv_at hl 0 rfl) ?_
  refine lv_iconst (v := 4) hx hb d_Bm_holds_8 (by decide) ?_
  refine lv_icmp_ge (tgt := 40) hx hb d_Bm_holds_9 (by decide) (fun c_3 => ?_) (fun c_3 => ?_)
  · -- taken
    exact absurd c_3 (by decide)
  · -- not taken
    refine lv_aload_n hx hb d_Bm_holds_12 rfl (lv_at hl 1 rfl) ?_
    refine va_get (D := (dC, dI)) (ci := 8) (v := .ref a2) (C := "BallotBoardModel") (T := F_Bm) (N := 28) hx hb hts (fun w9 h9 => List.mem_cons_of_mem _ (i_Bm w9 h9)) hown hK hP 0 rfl rfl 13 (by decide) (hts _ (List.mem_cons_of_mem _ gk_932)) (fun _ h9 => h9) rfl d_Bm_holds_13 ?_
    refine lv_iload_n hx hb d_Bm_holds_16 rfl (lv_at hl 0 rfl) ?_
    refine va_lald hx hb hK hP 6 0 rfl rfl (vp_lit rfl) d_Bm_holds_17 ?_
    rw [show (gfk_1 (0 : Int32).toNatClampNeg : Int64) = gfk_1 0 from rfl]
    rw [show (gfk_1 0 : Int64) = (lkw (msgL (kd k) k (R k) Lk) 0) from hdg.2 0 (by omega)]
    refine lv_aload_n hx hb d_Bm_holds_18 rfl (lv_at hl 1 rfl) ?_
    refine va_get (D := (dC, dI)) (ci := 8) (v := .ref a1) (C := "BallotBoardModel") (T := F_Bm) (N := 28) hx hb hts (fun w9 h9 => List.mem_cons_of_mem _ (i_Bm w9 h9)) hown hK hP 0 rfl rfl 12 (by decide) (hts _ (List.mem_cons_of_mem _ gk_931)) (fun _ h9 => h9) rfl d_Bm_holds_19 ?_
    refine lv_iconst (v := 4) hx hb d_Bm_holds_22 (by decide) ?_
    refine lv_iload_n hx hb d_Bm_holds_23 rfl (lv_at hl 2 rfl) ?_
    refine lv_imul hx hb d_Bm_holds_24 ?_
    rw [show (4 * (nI k) : Int32) = (nI (4 * k)) from pk_mul 4 k]
    refine lv_iload_n hx hb d_Bm_holds_25 rfl (lv_at hl 0 rfl) ?_
    refine lv_iadd hx hb d_Bm_holds_26 ?_
    rw [show ((nI (4 * k)) + 0 : Int32) = (nI (4 * k + 0)) from nI_add _ 0]
    refine va_lald hx hb hK hP 8 0 rfl rfl (vp_in_nI (by omega) (by omega)) d_Bm_holds_27 ?_
    rw [show (cf (nI (4 * k + 0) : Int32).toNatClampNeg : Int64) = cf (4 * k + 0) from by rw [nI_clamp (by omega)]]
    rw [show (cf (4 * k + 0) : Int64) = (Lk k 0) from hcf k hk 0 (by omega)]
    refine W.lcmp hx hb d_Bm_holds_28 ?_
    refine lv_if_eq (tgt := 34) hx hb d_Bm_holds_29 (by decide) (fun c_4 => ?_) (fun c_4 => ?_)
    · -- taken
      have q0 := (lg_cmp_eq _ _).mp c_4
      obtain ⟨i_5, ei_5⟩ : ∃ y : Int32, y = 0 + 1 := ⟨_, rfl⟩
      refine lv_iinc (v := i_5) (lv' := [(2, .int i_5), (0, .ref m0), (1, .int (nI k))]) hx hb d_Bm_holds_34 hl (k := 0) rfl (by rw [ei_5]; rfl) (by decide) rfl (fun ls hl => ?_)
      obtain rfl : i_5 = 1 := by rw [ei_5]; exact by decide
      refine lv_goto (tgt := 7) hx hb d_Bm_holds_37 (by decide) ?_
      refine lv_iload_n hx hb d_Bm_holds_7 rfl (lv_at hl 0 rfl) ?_
      refine lv_iconst (v := 4) hx hb d_Bm_holds_8 (by decide) ?_
      refine lv_icmp_ge (tgt := 40) hx hb d_Bm_holds_9 (by decide) (fun c_6 => ?_) (fun c_6 => ?_)
      · -- taken
        exact absurd c_6 (by decide)
      · -- not taken
        refine lv_aload_n hx hb d_Bm_holds_12 rfl (lv_at hl 1 rfl) ?_
        refine va_get (D := (dC, dI)) (ci := 8) (v := .ref a2) (C := "BallotBoardModel") (T := F_Bm) (N := 28) hx hb hts (fun w9 h9 => List.mem_cons_of_mem _ (i_Bm w9 h9)) hown hK hP 0 rfl rfl 13 (by decide) (hts _ (List.mem_cons_of_mem _ gk_932)) (fun _ h9 => h9) rfl d_Bm_holds_13 ?_
        refine lv_iload_n hx hb d_Bm_holds_16 rfl (lv_at hl 0 rfl) ?_
        refine va_lald hx hb hK hP 6 0 rfl rfl (vp_lit rfl) d_Bm_holds_17 ?_
        rw [show (gfk_1 (1 : Int32).toNatClampNeg : Int64) = gfk_1 1 from rfl]
        rw [show (gfk_1 1 : Int64) = (lkw (msgL (kd k) k (R k) Lk) 1) from hdg.2 1 (by omega)]
        refine lv_aload_n hx hb d_Bm_holds_18 rfl (lv_at hl 1 rfl) ?_
        refine va_get (D := (dC, dI)) (ci := 8) (v := .ref a1) (C := "BallotBoardModel") (T := F_Bm) (N := 28) hx hb hts (fun w9 h9 => List.mem_cons_of_mem _ (i_Bm w9 h9)) hown hK hP 0 rfl rfl 12 (by decide) (hts _ (List.mem_cons_of_mem _ gk_931)) (fun _ h9 => h9) rfl d_Bm_holds_19 ?_
        refine lv_iconst (v := 4) hx hb d_Bm_holds_22 (by decide) ?_
        refine lv_iload_n hx hb d_Bm_holds_23 rfl (lv_at hl 2 rfl) ?_
        refine lv_imul hx hb d_Bm_holds_24 ?_
        rw [show (4 * (nI k) : Int32) = (nI (4 * k)) from pk_mul 4 k]
        refine lv_iload_n hx hb d_Bm_holds_25 rfl (lv_at hl 0 rfl) ?_
        refine lv_iadd hx hb d_Bm_holds_26 ?_
        rw [show ((nI (4 * k)) + 1 : Int32) = (nI (4 * k + 1)) from nI_add _ 1]
        refine va_lald hx hb hK hP 8 0 rfl rfl (vp_in_nI (by omega) (by omega)) d_Bm_holds_27 ?_
        rw [show (cf (nI (4 * k + 1) : Int32).toNatClampNeg : Int64) = cf (4 * k + 1) from by rw [nI_clamp (by omega)]]
        rw [show (cf (4 * k + 1) : Int64) = (Lk k 1) from hcf k hk 1 (by omega)]
        refine W.lcmp hx hb d_Bm_holds_28 ?_
        refine lv_if_eq (tgt := 34) hx hb d_Bm_holds_29 (by decide) (fun c_7 => ?_) (fun c_7 => ?_)
        · -- taken
          have q1 := (lg_cmp_eq _ _).mp c_7
          obtain ⟨i_8, ei_8⟩ : ∃ y : Int32, y = 1 + 1 := ⟨_, rfl⟩
          refine lv_iinc (v := i_8) (lv' := [(2, .int i_8), (0, .ref m0), (1, .int (nI k))]) hx hb d_Bm_holds_34 hl (k := 0) rfl (by rw [ei_8]; rfl) (by decide) rfl (fun ls hl => ?_)
          obtain rfl : i_8 = 2 := by rw [ei_8]; exact by decide
          refine lv_goto (tgt := 7) hx hb d_Bm_holds_37 (by decide) ?_
          refine lv_iload_n hx hb d_Bm_holds_7 rfl (lv_at hl 0 rfl) ?_
          refine lv_iconst (v := 4) hx hb d_Bm_holds_8 (by decide) ?_
          refine lv_icmp_ge (tgt := 40) hx hb d_Bm_holds_9 (by decide) (fun c_9 => ?_) (fun c_9 => ?_)
          · -- taken
            exact absurd c_9 (by decide)
          · -- not taken
            refine lv_aload_n hx hb d_Bm_holds_12 rfl (lv_at hl 1 rfl) ?_
            refine va_get (D := (dC, dI)) (ci := 8) (v := .ref a2) (C := "BallotBoardModel") (T := F_Bm) (N := 28) hx hb hts (fun w9 h9 => List.mem_cons_of_mem _ (i_Bm w9 h9)) hown hK hP 0 rfl rfl 13 (by decide) (hts _ (List.mem_cons_of_mem _ gk_932)) (fun _ h9 => h9) rfl d_Bm_holds_13 ?_
            refine lv_iload_n hx hb d_Bm_holds_16 rfl (lv_at hl 0 rfl) ?_
            refine va_lald hx hb hK hP 6 0 rfl rfl (vp_lit rfl) d_Bm_holds_17 ?_
            rw [show (gfk_1 (2 : Int32).toNatClampNeg : Int64) = gfk_1 2 from rfl]
            rw [show (gfk_1 2 : Int64) = (lkw (msgL (kd k) k (R k) Lk) 2) from hdg.2 2 (by omega)]
            refine lv_aload_n hx hb d_Bm_holds_18 rfl (lv_at hl 1 rfl) ?_
            refine va_get (D := (dC, dI)) (ci := 8) (v := .ref a1) (C := "BallotBoardModel") (T := F_Bm) (N := 28) hx hb hts (fun w9 h9 => List.mem_cons_of_mem _ (i_Bm w9 h9)) hown hK hP 0 rfl rfl 12 (by decide) (hts _ (List.mem_cons_of_mem _ gk_931)) (fun _ h9 => h9) rfl d_Bm_holds_19 ?_
            refine lv_iconst (v := 4) hx hb d_Bm_holds_22 (by decide) ?_
            refine lv_iload_n hx hb d_Bm_holds_23 rfl (lv_at hl 2 rfl) ?_
            refine lv_imul hx hb d_Bm_holds_24 ?_
            rw [show (4 * (nI k) : Int32) = (nI (4 * k)) from pk_mul 4 k]
            refine lv_iload_n hx hb d_Bm_holds_25 rfl (lv_at hl 0 rfl) ?_
            refine lv_iadd hx hb d_Bm_holds_26 ?_
            rw [show ((nI (4 * k)) + 2 : Int32) = (nI (4 * k + 2)) from nI_add _ 2]
            refine va_lald hx hb hK hP 8 0 rfl rfl (vp_in_nI (by omega) (by omega)) d_Bm_holds_27 ?_
            rw [show (cf (nI (4 * k + 2) : Int32).toNatClampNeg : Int64) = cf (4 * k + 2) from by rw [nI_clamp (by omega)]]
            rw [show (cf (4 * k + 2) : Int64) = (Lk k 2) from hcf k hk 2 (by omega)]
            refine W.lcmp hx hb d_Bm_holds_28 ?_
            refine lv_if_eq (tgt := 34) hx hb d_Bm_holds_29 (by decide) (fun c_10 => ?_) (fun c_10 => ?_)
            · -- taken
              have q2 := (lg_cmp_eq _ _).mp c_10
              obtain ⟨i_11, ei_11⟩ : ∃ y : Int32, y = 2 + 1 := ⟨_, rfl⟩
              refine lv_iinc (v := i_11) (lv' := [(2, .int i_11), (0, .ref m0), (1, .int (nI k))]) hx hb d_Bm_holds_34 hl (k := 0) rfl (by rw [ei_11]; rfl) (by decide) rfl (fun ls hl => ?_)
              obtain rfl : i_11 = 3 := by rw [ei_11]; exact by decide
              refine lv_goto (tgt := 7) hx hb d_Bm_holds_37 (by decide) ?_
              refine lv_iload_n hx hb d_Bm_holds_7 rfl (lv_at hl 0 rfl) ?_
              refine lv_iconst (v := 4) hx hb d_Bm_holds_8 (by decide) ?_
              refine lv_icmp_ge (tgt := 40) hx hb d_Bm_holds_9 (by decide) (fun c_12 => ?_) (fun c_12 => ?_)
              · -- taken
                exact absurd c_12 (by decide)
              · -- not taken
                refine lv_aload_n hx hb d_Bm_holds_12 rfl (lv_at hl 1 rfl) ?_
                refine va_get (D := (dC, dI)) (ci := 8) (v := .ref a2) (C := "BallotBoardModel") (T := F_Bm) (N := 28) hx hb hts (fun w9 h9 => List.mem_cons_of_mem _ (i_Bm w9 h9)) hown hK hP 0 rfl rfl 13 (by decide) (hts _ (List.mem_cons_of_mem _ gk_932)) (fun _ h9 => h9) rfl d_Bm_holds_13 ?_
                refine lv_iload_n hx hb d_Bm_holds_16 rfl (lv_at hl 0 rfl) ?_
                refine va_lald hx hb hK hP 6 0 rfl rfl (vp_lit rfl) d_Bm_holds_17 ?_
                rw [show (gfk_1 (3 : Int32).toNatClampNeg : Int64) = gfk_1 3 from rfl]
                rw [show (gfk_1 3 : Int64) = (lkw (msgL (kd k) k (R k) Lk) 3) from hdg.2 3 (by omega)]
                refine lv_aload_n hx hb d_Bm_holds_18 rfl (lv_at hl 1 rfl) ?_
                refine va_get (D := (dC, dI)) (ci := 8) (v := .ref a1) (C := "BallotBoardModel") (T := F_Bm) (N := 28) hx hb hts (fun w9 h9 => List.mem_cons_of_mem _ (i_Bm w9 h9)) hown hK hP 0 rfl rfl 12 (by decide) (hts _ (List.mem_cons_of_mem _ gk_931)) (fun _ h9 => h9) rfl d_Bm_holds_19 ?_
                refine lv_iconst (v := 4) hx hb d_Bm_holds_22 (by decide) ?_
                refine lv_iload_n hx hb d_Bm_holds_23 rfl (lv_at hl 2 rfl) ?_
                refine lv_imul hx hb d_Bm_holds_24 ?_
                rw [show (4 * (nI k) : Int32) = (nI (4 * k)) from pk_mul 4 k]
                refine lv_iload_n hx hb d_Bm_holds_25 rfl (lv_at hl 0 rfl) ?_
                refine lv_iadd hx hb d_Bm_holds_26 ?_
                rw [show ((nI (4 * k)) + 3 : Int32) = (nI (4 * k + 3)) from nI_add _ 3]
                refine va_lald hx hb hK hP 8 0 rfl rfl (vp_in_nI (by omega) (by omega)) d_Bm_holds_27 ?_
                rw [show (cf (nI (4 * k + 3) : Int32).toNatClampNeg : Int64) = cf (4 * k + 3) from by rw [nI_clamp (by omega)]]
                rw [show (cf (4 * k + 3) : Int64) = (Lk k 3) from hcf k hk 3 (by omega)]
                refine W.lcmp hx hb d_Bm_holds_28 ?_
                refine lv_if_eq (tgt := 34) hx hb d_Bm_holds_29 (by decide) (fun c_13 => ?_) (fun c_13 => ?_)
                · -- taken
                  have q3 := (lg_cmp_eq _ _).mp c_13
                  obtain ⟨i_14, ei_14⟩ : ∃ y : Int32, y = 3 + 1 := ⟨_, rfl⟩
                  refine lv_iinc (v := i_14) (lv' := [(2, .int i_14), (0, .ref m0), (1, .int (nI k))]) hx hb d_Bm_holds_34 hl (k := 0) rfl (by rw [ei_14]; rfl) (by decide) rfl (fun ls hl => ?_)
                  obtain rfl : i_14 = 4 := by rw [ei_14]; exact by decide
                  refine lv_goto (tgt := 7) hx hb d_Bm_holds_37 (by decide) ?_
                  refine lv_iload_n hx hb d_Bm_holds_7 rfl (lv_at hl 0 rfl) ?_
                  refine lv_iconst (v := 4) hx hb d_Bm_holds_8 (by decide) ?_
                  refine lv_icmp_ge (tgt := 40) hx hb d_Bm_holds_9 (by decide) (fun c_15 => ?_) (fun c_15 => ?_)
                  · -- taken
                    have hln : lnk4 (Lk k) (msgL (kd k) k (R k) Lk) := ⟨q0.symm, q1.symm, q2.symm, q3.symm⟩
                    have hwk64 : wh k < 64 := by
                      by_cases e9 : kd k = 2
                      · exact hb64 e9
                      · have := hwN e9
                        omega
                    refine lv_aload_n hx hb d_Bm_holds_40 rfl (lv_at hl 1 rfl) ?_
                    refine lv_iload_n hx hb d_Bm_holds_41 rfl (lv_at hl 2 rfl) ?_
                    refine lv_iconst (v := 1) hx hb d_Bm_holds_42 (by decide) ?_
                    have hPc := hP.sub (ws' := (mo_ws m0 e0 (nI N) (nI n) (nI bc) (lN P) (lN Q) (lN G) (lN al) (lN pa) (lN pb) cl a0 a1 a2 a3 a4 a5 a6 a7 a8 a9 b0 b1 gok_1 b2 b3 b4 b5 ++ (jw_ws a0 cJ 1232 nf))) [0, 7] rfl
                    have hKc := hK.sub (tys' := [(cJ, .long), (cI, .int)]) [0, 1] rfl
                    refine va_calll (va_runV (As := [.int (nI k), .int 1]) (rest := []) ⟨hx, hb, hml, hown, hts⟩ (c_Bm_at l H dC dI cJ cI m0 e0 (nI N) (nI n) (nI bc) (lN P) (lN Q) (lN G) (lN al) (lN pa) (lN pb) cl a0 a1 a2 a3 a4 a5 a6 a7 a8 a9 b0 b1 gok_1 b2 b3 b4 b5 nf k 1 hPc (by omega)) (cwV 2 hts (gw_V gk_1102 gk_1104 gp_42 gk_7 gk_1105) rfl rfl rfl (by decide +kernel) ⟨Nat.le_of_ble_eq_true rfl, Nat.le_of_ble_eq_true rfl⟩) ⟨fun a U g mk q => ⟨q.1, q.2.1, va_K.moved (u := U) (U := U.calling g mk a) (Vm.Alike.refl U.vm) q.2.2⟩, va_recv hK hP (ci := 8) (q0 := 0) rfl rfl, fun U hU hW => ⟨rfl, hU, va_K.moved hW.alike hKc⟩⟩ rfl rfl hl.1 rfl (lv_room (Nat.le_of_ble_eq_true rfl)) d_Bm_holds_43 ⟨Nat.le_of_ble_eq_true rfl, Nat.le_of_ble_eq_true rfl⟩) hS (fun q _ h => h.elim) (fun q h => h.elim) (fun r43 u9 t9 H1 locs ht hvm hw hB hz1 hk1 hS => ?_)
                    obtain rfl : H = H1 := hB.symm.trans ht
                    have hw : r43 = nf (8 * k + 1) := hw
                    subst hw
                    rw [show (nf (8 * k + 1) : Int64) = (lN (wh k)) from (hnf k hk 1 (by omega)).trans hr1]
                    refine lv_l2i (v := (lN (wh k) : Int64).toInt32) hx hb d_Bm_holds_46 rfl ?_
                    rw [show ((lN (wh k) : Int64).toInt32 : Int32) = (nI (wh k)) from lN_toI (by omega)]
                    refine lv_istore_n (lv' := [(2, .int (nI (wh k))), (0, .ref m0), (1, .int (nI k))]) hx hb d_Bm_holds_47 rfl hl (by decide) rfl (fun ls hl => ?_)
                    refine lv_aload_n hx hb d_Bm_holds_48 rfl (lv_at hl 1 rfl) ?_
                    refine lv_iload_n hx hb d_Bm_holds_49 rfl (lv_at hl 2 rfl) ?_
                    refine lv_iconst (v := 0) hx hb d_Bm_holds_50 (by decide) ?_
                    have hPc := hP.sub (ws' := (mo_ws m0 e0 (nI N) (nI n) (nI bc) (lN P) (lN Q) (lN G) (lN al) (lN pa) (lN pb) cl a0 a1 a2 a3 a4 a5 a6 a7 a8 a9 b0 b1 gok_1 b2 b3 b4 b5 ++ (jw_ws a0 cJ 1232 nf))) [0, 7] rfl
                    have hKc := hK.sub (tys' := [(cJ, .long), (cI, .int)]) [0, 1] rfl
                    refine va_calll (va_runV (As := [.int (nI k), .int 0]) (rest := []) ⟨hx, hb, hml, hown, hts⟩ (c_Bm_at l H dC dI cJ cI m0 e0 (nI N) (nI n) (nI bc) (lN P) (lN Q) (lN G) (lN al) (lN pa) (lN pb) cl a0 a1 a2 a3 a4 a5 a6 a7 a8 a9 b0 b1 gok_1 b2 b3 b4 b5 nf k 0 hPc (by omega)) (cwV 2 hts (gw_V gk_1102 gk_1104 gp_42 gk_7 gk_1105) rfl rfl rfl (by decide +kernel) ⟨Nat.le_of_ble_eq_true rfl, Nat.le_of_ble_eq_true rfl⟩) ⟨fun a U g mk q => ⟨q.1, q.2.1, va_K.moved (u := U) (U := U.calling g mk a) (Vm.Alike.refl U.vm) q.2.2⟩, va_recv hK hP (ci := 8) (q0 := 0) rfl rfl, fun U hU hW => ⟨rfl, hU, va_K.moved hW.alike hKc⟩⟩ rfl rfl hl.1 rfl (lv_room (Nat.le_of_ble_eq_true rfl)) d_Bm_holds_51 ⟨Nat.le_of_ble_eq_true rfl, Nat.le_of_ble_eq_true rfl⟩) hS (fun q _ h => h.elim) (fun q h => h.elim) (fun r51 u9 t9 H1 locs ht hvm hw hB hz1 hk1 hS => ?_)
                    obtain rfl : H = H1 := hB.symm.trans ht
                    have hw : r51 = nf (8 * k + 0) := hw
                    subst hw
                    rw [show (nf (8 * k + 0) : Int64) = (lN 2) from (hnf k hk 0 (by omega)).trans (by rw [hr0, hkK])]
                    refine lv_lconst (v := 1) hx hb d_Bm_holds_54 (by decide) ?_
                    refine W.lcmp hx hb d_Bm_holds_55 ?_
                    refine lv_if_ne (tgt := 83) hx hb d_Bm_holds_56 (by decide) (fun c_16 => ?_) (fun c_16 => ?_)
                    · -- taken
                      refine lv_aload_n hx hb d_Bm_holds_83 rfl (lv_at hl 1 rfl) ?_
                      refine lv_iload_n hx hb d_Bm_holds_84 rfl (lv_at hl 2 rfl) ?_
                      refine lv_iconst (v := 0) hx hb d_Bm_holds_85 (by decide) ?_
                      have hPc := hP.sub (ws' := (mo_ws m0 e0 (nI N) (nI n) (nI bc) (lN P) (lN Q) (lN G) (lN al) (lN pa) (lN pb) cl a0 a1 a2 a3 a4 a5 a6 a7 a8 a9 b0 b1 gok_1 b2 b3 b4 b5 ++ (jw_ws a0 cJ 1232 nf))) [0, 7] rfl
                      have hKc := hK.sub (tys' := [(cJ, .long), (cI, .int)]) [0, 1] rfl
                      refine va_calll (va_runV (As := [.int (nI k), .int 0]) (rest := []) ⟨hx, hb, hml, hown, hts⟩ (c_Bm_at l H dC dI cJ cI m0 e0 (nI N) (nI n) (nI bc) (lN P) (lN Q) (lN G) (lN al) (lN pa) (lN pb) cl a0 a1 a2 a3 a4 a5 a6 a7 a8 a9 b0 b1 gok_1 b2 b3 b4 b5 nf k 0 hPc (by omega)) (cwV 2 hts (gw_V gk_1102 gk_1104 gp_42 gk_7 gk_1105) rfl rfl rfl (by decide +kernel) ⟨Nat.le_of_ble_eq_true rfl, Nat.le_of_ble_eq_true rfl⟩) ⟨fun a U g mk q => ⟨q.1, q.2.1, va_K.moved (u := U) (U := U.calling g mk a) (Vm.Alike.refl U.vm) q.2.2⟩, va_recv hK hP (ci := 8) (q0 := 0) rfl rfl, fun U hU hW => ⟨rfl, hU, va_K.moved hW.alike hKc⟩⟩ rfl rfl hl.1 rfl (lv_room (Nat.le_of_ble_eq_true rfl)) d_Bm_holds_86 ⟨Nat.le_of_ble_eq_true rfl, Nat.le_of_ble_eq_true rfl⟩) hS (fun q _ h => h.elim) (fun q h => h.elim) (fun r86 u9 t9 H1 locs ht hvm hw hB hz1 hk1 hS => ?_)
                      obtain rfl : H = H1 := hB.symm.trans ht
                      have hw : r86 = nf (8 * k + 0) := hw
                      subst hw
                      rw [show (nf (8 * k + 0) : Int64) = (lN 2) from (hnf k hk 0 (by omega)).trans (by rw [hr0, hkK])]
                      refine lv_ldc2 (v := 2) hx hb hown (hts _ (List.mem_cons_of_mem _ gk_1017)) d_Bm_holds_89 ?_
                      refine W.lcmp hx hb d_Bm_holds_92 ?_
                      refine lv_if_ne (tgt := 186) hx hb d_Bm_holds_93 (by decide) (fun c_17 => ?_) (fun c_17 => ?_)
                      · -- taken
                        exact absurd ((cmpe (k := 2) (by omega) 2 (by omega) rfl).mpr rfl) c_17
                      · -- not taken
                        refine lv_lconst (v := 1) hx hb d_Bm_holds_96 (by decide) ?_
                        rw [show (1 : Int64) = (lN 1) from rfl]
                        refine lv_lstore_n (lv' := [(3, .long (lN 1)), (2, .int (nI (wh k))), (0, .ref m0), (1, .int (nI k))]) hx hb d_Bm_holds_97 rfl hl (by decide) rfl (fun ls hl => ?_)
                        refine lv_iconst (v := 0) hx hb d_Bm_holds_98 (by decide) ?_
                        refine lv_istore (lv' := [(5, .int 0), (3, .long (lN 1)), (2, .int (nI (wh k))), (0, .ref m0), (1, .int (nI k))]) hx hb d_Bm_holds_99 hl (by decide) rfl (fun ls hl => ?_)
                        have loop9 : ∀ (j i : Nat), i + j = N → ∀ (H : Heap) (locs : List Loc), va_S A s.heap H locs → va_P (dC, dI) classes [(m0, .inr (8, [.int e0, .int (nI N), .int (nI n), .int (nI bc), .long (lN P), .long (lN Q), .long (lN G), .long (lN al), .long (lN pa), .long (lN pb), .int cl, .ref a0, .ref a1, .ref a2, .ref a3, .ref a4, .ref a5, .ref a6, .ref a7, .ref a8, .ref a9, .ref b0, .ref b1, .int (nI gok_1), .ref b2, .ref b3, .ref b4, .ref b5])), (a7, .inl (cI, 256, .inl gbk_1)), (a8, .inl (cI, 64, .inl gsk_1)), (a9, .inl (cI, 8, .inl gtk_1)), (b0, .inl (cI, 8, .inl kS)), (b1, .inl (cI, 64, .inl kR)), (a2, .inl (cJ, 4, .inr (.inl gfk_1))), (a0, .inl (cJ, 1232, .inr (.inl nf))), (a1, .inl (cJ, 616, .inr (.inl cf))), (a4, .inl (cI, 4, .inl kf)), (b5, .inl (cI, 64, .inl ct)), (a3, .inl (cJ, 16, .inr (.inl lf)))] H → va_D A [(m0, .inr (8, [.int e0, .int (nI N), .int (nI n), .int (nI bc), .long (lN P), .long (lN Q), .long (lN G), .long (lN al), .long (lN pa), .long (lN pb), .int cl, .ref a0, .ref a1, .ref a2, .ref a3, .ref a4, .ref a5, .ref a6, .ref a7, .ref a8, .ref a9, .ref b0, .ref b1, .int (nI gok_1), .ref b2, .ref b3, .ref b4, .ref b5])), (a7, .inl (cI, 256, .inl gbk_1)), (a8, .inl (cI, 64, .inl gsk_1)), (a9, .inl (cI, 8, .inl gtk_1)), (b0, .inl (cI, 8, .inl kS)), (b1, .inl (cI, 64, .inl kR)), (a2, .inl (cJ, 4, .inr (.inl gfk_1))), (a0, .inl (cJ, 1232, .inr (.inl nf))), (a1, .inl (cJ, 616, .inr (.inl cf))), (a4, .inl (cI, 4, .inl kf)), (b5, .inl (cI, 64, .inl ct)), (a3, .inl (cJ, 16, .inr (.inl lf)))] → ∀ (ls : Array Slot), lv_has ls 6 [(0, .ref m0), (1, .int (nI k)), (2, .int (nI (wh k))), (3, .long (lN (prk P (t_ko TA) i))), (5, .int (nI i))] → W p l e ({ frames := 7, cells := 0, slots := 0, locals := 236 } : Room) s m ([.ref m0, .int (nI k)] : List Value).toArray below meth c H locs 0 0 (MQ below (va_Qi (fun (r : Int32) (u9 : DU × (Nat → Int64) × (Nat → Int32)) => bz r (hds P Q G N T0 kd wh R Lk k) ∧ (hds P Q G N T0 kd wh R Lk k → CR (k + 1) (aud P N T0 kd wh R (k + 1)) R u9.2.2)) (fun u9 t => va_P (dC, dI) classes (mo_ws m0 e0 (nI N) (nI n) (nI bc) (lN P) (lN Q) (lN G) (lN al) (lN pa) (lN pb) cl a0 a1 a2 a3 a4 a5 a6 a7 a8 a9 b0 b1 u9.1.2.2.2.2 b2 b3 b4 b5 ++ (iw_ws a7 cI 256 u9.1.1 ++ (iw_ws a8 cI 64 u9.1.2.1 ++ (iw_ws a9 cI 8 u9.1.2.2.1 ++ (iw_ws b0 cI 8 kS ++ (iw_ws b1 cI 64 kR ++ (jw_ws a2 cJ 4 u9.1.2.2.2.1 ++ (jw_ws a0 cJ 1232 nf ++ (jw_ws a1 cJ 616 cf ++ (iw_ws a4 cI 4 kf ++ (iw_ws b5 cI 64 u9.2.2 ++ (jw_ws a3 cJ 16 u9.2.1)))))))))))) t.heap ∧ va_K (dC, dI) classes [(cJ, .long), (cI, .int)] t ∧ va_D A (mo_ws m0 e0 (nI N) (nI n) (nI bc) (lN P) (lN Q) (lN G) (lN al) (lN pa) (lN pb) cl a0 a1 a2 a3 a4 a5 a6 a7 a8 a9 b0 b1 u9.1.2.2.2.2 b2 b3 b4 b5 ++ (iw_ws a7 cI 256 u9.1.1 ++ (iw_ws a8 cI 64 u9.1.2.1 ++ (iw_ws a9 cI 8 u9.1.2.2.1 ++ (iw_ws b0 cI 8 kS ++ (iw_ws b1 cI 64 kR ++ (jw_ws a2 cJ 4 u9.1.2.2.2.1 ++ (jw_ws a0 cJ 1232 nf ++ (jw_ws a1 cJ 616 cf ++ (iw_ws a4 cI 4 kf ++ (iw_ws b5 cI 64 u9.2.2 ++ (jw_ws a3 cJ 16 u9.2.1))))))))))))) A) ([.ref m0, .int (nI k)] : List Value).toArray s 0 0 A) (F0 m 101 ls []) := by
                          intro j
                          induction j using Nat.strongRecOn with
                          | ind j ih =>
                            intro i hij H locs hS hP hD ls hl
                            refine lv_iload hx hb d_Bm_holds_101 (lv_at hl 4 rfl) ?_
                            refine lv_aload_n hx hb d_Bm_holds_103 rfl (lv_at hl 0 rfl) ?_
                            refine va_get (D := (dC, dI)) (ci := 8) (v := .int (nI N)) (C := "BallotBoardModel") (T := F_Bm) (N := 28) hx hb hts (fun w9 h9 => List.mem_cons_of_mem _ (i_Bm w9 h9)) hown hK hP 0 rfl rfl 1 (by decide) (hts _ (List.mem_cons_of_mem _ gk_920)) (fun _ h9 => h9) rfl d_Bm_holds_104 ?_
                            refine lv_icmp_ge (tgt := 134) hx hb d_Bm_holds_107 (by decide) (fun c_18 => ?_) (fun c_18 => ?_)
                            · -- taken
                              have hi9 : i = N := by
                                have := (nI_leI (by omega) (by omega)).mp c_18
                                omega
                              rw [hi9] at hl
                              refine lv_aload_n hx hb d_Bm_holds_134 rfl (lv_at hl 0 rfl) ?_
                              refine va_get (D := (dC, dI)) (ci := 8) (v := .ref b5) (C := "BallotBoardModel") (T := F_Bm) (N := 28) hx hb hts (fun w9 h9 => List.mem_cons_of_mem _ (i_Bm w9 h9)) hown hK hP 0 rfl rfl 27 (by decide) (hts _ (List.mem_cons_of_mem _ gk_946)) (fun _ h9 => h9) rfl d_Bm_holds_135 ?_
                              refine lv_iload_n hx hb d_Bm_holds_138 rfl (lv_at hl 2 rfl) ?_
                              refine lv_iload_n hx hb d_Bm_holds_139 rfl (lv_at hl 1 rfl) ?_
                              refine va_iast hx hb hK hP hD hS 10 1 rfl rfl (vp_in_nI (by omega) (by omega)) d_Bm_holds_140 (fun H locs hP hD hS => ?_)
                              have hfe : upd ct (nI (wh k) : Int32).toNatClampNeg (nI k) = upd ct (wh k) (nI k) := by rw [nI_clamp (by omega)]
                              have hP : va_P (dC, dI) classes [(m0, .inr (8, [.int e0, .int (nI N), .int (nI n), .int (nI bc), .long (lN P), .long (lN Q), .long (lN G), .long (lN al), .long (lN pa), .long (lN pb), .int cl, .ref a0, .ref a1, .ref a2, .ref a3, .ref a4, .ref a5, .ref a6, .ref a7, .ref a8, .ref a9, .ref b0, .ref b1, .int (nI gok_1), .ref b2, .ref b3, .ref b4, .ref b5])), (a7, .inl (cI, 256, .inl gbk_1)), (a8, .inl (cI, 64, .inl gsk_1)), (a9, .inl (cI, 8, .inl gtk_1)), (b0, .inl (cI, 8, .inl kS)), (b1, .inl (cI, 64, .inl kR)), (a2, .inl (cJ, 4, .inr (.inl gfk_1))), (a0, .inl (cJ, 1232, .inr (.inl nf))), (a1, .inl (cJ, 616, .inr (.inl cf))), (a4, .inl (cI, 4, .inl kf)), (b5, .inl (cI, 64, .inl (upd ct (nI (wh k) : Int32).toNatClampNeg (nI k)))), (a3, .inl (cJ, 16, .inr (.inl lf)))] H := hP
                              have hD : va_D A [(m0, .inr (8, [.int e0, .int (nI N), .int (nI n), .int (nI bc), .long (lN P), .long (lN Q), .long (lN G), .long (lN al), .long (lN pa), .long (lN pb), .int cl, .ref a0, .ref a1, .ref a2, .ref a3, .ref a4, .ref a5, .ref a6, .ref a7, .ref a8, .ref a9, .ref b0, .ref b1, .int (nI gok_1), .ref b2, .ref b3, .ref b4, .ref b5])), (a7, .inl (cI, 256, .inl gbk_1)), (a8, .inl (cI, 64, .inl gsk_1)), (a9, .inl (cI, 8, .inl gtk_1)), (b0, .inl (cI, 8, .inl kS)), (b1, .inl (cI, 64, .inl kR)), (a2, .inl (cJ, 4, .inr (.inl gfk_1))), (a0, .inl (cJ, 1232, .inr (.inl nf))), (a1, .inl (cJ, 616, .inr (.inl cf))), (a4, .inl (cI, 4, .inl kf)), (b5, .inl (cI, 64, .inl (upd ct (nI (wh k) : Int32).toNatClampNeg (nI k)))), (a3, .inl (cJ, 16, .inr (.inl lf)))] := hD
                              rw [hfe] at hP hD
                              refine lv_aload_n hx hb d_Bm_holds_141 rfl (lv_at hl 0 rfl) ?_
                              refine lv_iload_n hx hb d_Bm_holds_142 rfl (lv_at hl 2 rfl) ?_
                              refine lv_aload_n hx hb d_Bm_holds_143 rfl (lv_at hl 0 rfl) ?_
                              refine lv_iload_n hx hb d_Bm_holds_144 rfl (lv_at hl 1 rfl) ?_
                              refine lv_iconst (v := 2) hx hb d_Bm_holds_145 (by decide) ?_
                              have hPc := hP.sub (ws' := (mo_ws m0 e0 (nI N) (nI n) (nI bc) (lN P) (lN Q) (lN G) (lN al) (lN pa) (lN pb) cl a0 a1 a2 a3 a4 a5 a6 a7 a8 a9 b0 b1 gok_1 b2 b3 b4 b5 ++ (jw_ws a0 cJ 1232 nf))) [0, 7] rfl
                              have hKc := hK.sub (tys' := [(cJ, .long), (cI, .int)]) [0, 1] rfl
                              refine va_calll (va_runV (As := [.int (nI k), .int 2]) (rest := [.int (nI (wh k)), .ref m0]) ⟨hx, hb, hml, hown, hts⟩ (c_Bm_at l H dC dI cJ cI m0 e0 (nI N) (nI n) (nI bc) (lN P) (lN Q) (lN G) (lN al) (lN pa) (lN pb) cl a0 a1 a2 a3 a4 a5 a6 a7 a8 a9 b0 b1 gok_1 b2 b3 b4 b5 nf k 2 hPc (by omega)) (cwV 2 hts (gw_V gk_1102 gk_1104 gp_42 gk_7 gk_1105) rfl rfl rfl (by decide +kernel) ⟨Nat.le_of_ble_eq_true rfl, Nat.le_of_ble_eq_true rfl⟩) ⟨fun a U g mk q => ⟨q.1, q.2.1, va_K.moved (u := U) (U := U.calling g mk a) (Vm.Alike.refl U.vm) q.2.2⟩, va_recv hK hP (ci := 8) (q0 := 0) rfl rfl, fun U hU hW => ⟨rfl, hU, va_K.moved hW.alike hKc⟩⟩ rfl rfl hl.1 rfl (lv_room (Nat.le_of_ble_eq_true rfl)) d_Bm_holds_146 ⟨Nat.le_of_ble_eq_true rfl, Nat.le_of_ble_eq_true rfl⟩) hS (fun q _ h => h.elim) (fun q h => h.elim) (fun r146 u9 t9 H1 locs ht hvm hw hB hz1 hk1 hS => ?_)
                              obtain rfl : H = H1 := hB.symm.trans ht
                              have hw : r146 = nf (8 * k + 2) := hw
                              subst hw
                              rw [show (nf (8 * k + 2) : Int64) = (R k 2) from hnf k hk 2 (by omega)]
                              refine lv_aload_n hx hb d_Bm_holds_149 rfl (lv_at hl 0 rfl) ?_
                              refine lv_iload_n hx hb d_Bm_holds_150 rfl (lv_at hl 1 rfl) ?_
                              refine lv_iconst (v := 3) hx hb d_Bm_holds_151 (by decide) ?_
                              have hPc := hP.sub (ws' := (mo_ws m0 e0 (nI N) (nI n) (nI bc) (lN P) (lN Q) (lN G) (lN al) (lN pa) (lN pb) cl a0 a1 a2 a3 a4 a5 a6 a7 a8 a9 b0 b1 gok_1 b2 b3 b4 b5 ++ (jw_ws a0 cJ 1232 nf))) [0, 7] rfl
                              have hKc := hK.sub (tys' := [(cJ, .long), (cI, .int)]) [0, 1] rfl
                              refine va_calll (va_runV (As := [.int (nI k), .int 3]) (rest := [.long (R k 2), .int (nI (wh k)), .ref m0]) ⟨hx, hb, hml, hown, hts⟩ (c_Bm_at l H dC dI cJ cI m0 e0 (nI N) (nI n) (nI bc) (lN P) (lN Q) (lN G) (lN al) (lN pa) (lN pb) cl a0 a1 a2 a3 a4 a5 a6 a7 a8 a9 b0 b1 gok_1 b2 b3 b4 b5 nf k 3 hPc (by omega)) (cwV 2 hts (gw_V gk_1102 gk_1104 gp_42 gk_7 gk_1105) rfl rfl rfl (by decide +kernel) ⟨Nat.le_of_ble_eq_true rfl, Nat.le_of_ble_eq_true rfl⟩) ⟨fun a U g mk q => ⟨q.1, q.2.1, va_K.moved (u := U) (U := U.calling g mk a) (Vm.Alike.refl U.vm) q.2.2⟩, va_recv hK hP (ci := 8) (q0 := 0) rfl rfl, fun U hU hW => ⟨rfl, hU, va_K.moved hW.alike hKc⟩⟩ rfl rfl hl.1 rfl (lv_room (Nat.le_of_ble_eq_true rfl)) d_Bm_holds_152 ⟨Nat.le_of_ble_eq_true rfl, Nat.le_of_ble_eq_true rfl⟩) hS (fun q _ h => h.elim) (fun q h => h.elim) (fun r152 u9 t9 H1 locs ht hvm hw hB hz1 hk1 hS => ?_)
                              obtain rfl : H = H1 := hB.symm.trans ht
                              have hw : r152 = nf (8 * k + 3) := hw
                              subst hw
                              rw [show (nf (8 * k + 3) : Int64) = (R k 3) from hnf k hk 3 (by omega)]
                              refine lv_aload_n hx hb d_Bm_holds_155 rfl (lv_at hl 0 rfl) ?_
                              refine lv_iload_n hx hb d_Bm_holds_156 rfl (lv_at hl 1 rfl) ?_
                              refine lv_iconst (v := 4) hx hb d_Bm_holds_157 (by decide) ?_
                              have hPc := hP.sub (ws' := (mo_ws m0 e0 (nI N) (nI n) (nI bc) (lN P) (lN Q) (lN G) (lN al) (lN pa) (lN pb) cl a0 a1 a2 a3 a4 a5 a6 a7 a8 a9 b0 b1 gok_1 b2 b3 b4 b5 ++ (jw_ws a0 cJ 1232 nf))) [0, 7] rfl
                              have hKc := hK.sub (tys' := [(cJ, .long), (cI, .int)]) [0, 1] rfl
                              refine va_calll (va_runV (As := [.int (nI k), .int 4]) (rest := [.long (R k 3), .long (R k 2), .int (nI (wh k)), .ref m0]) ⟨hx, hb, hml, hown, hts⟩ (c_Bm_at l H dC dI cJ cI m0 e0 (nI N) (nI n) (nI bc) (lN P) (lN Q) (lN G) (lN al) (lN pa) (lN pb) cl a0 a1 a2 a3 a4 a5 a6 a7 a8 a9 b0 b1 gok_1 b2 b3 b4 b5 nf k 4 hPc (by omega)) (cwV 2 hts (gw_V gk_1102 gk_1104 gp_42 gk_7 gk_1105) rfl rfl rfl (by decide +kernel) ⟨Nat.le_of_ble_eq_true rfl, Nat.le_of_ble_eq_true rfl⟩) ⟨fun a U g mk q => ⟨q.1, q.2.1, va_K.moved (u := U) (U := U.calling g mk a) (Vm.Alike.refl U.vm) q.2.2⟩, va_recv hK hP (ci := 8) (q0 := 0) rfl rfl, fun U hU hW => ⟨rfl, hU, va_K.moved hW.alike hKc⟩⟩ rfl rfl hl.1 rfl (lv_room (Nat.le_of_ble_eq_true rfl)) d_Bm_holds_158 ⟨Nat.le_of_ble_eq_true rfl, Nat.le_of_ble_eq_true rfl⟩) hS (fun q _ h => h.elim) (fun q h => h.elim) (fun r158 u9 t9 H1 locs ht hvm hw hB hz1 hk1 hS => ?_)
                              obtain rfl : H = H1 := hB.symm.trans ht
                              have hw : r158 = nf (8 * k + 4) := hw
                              subst hw
                              rw [show (nf (8 * k + 4) : Int64) = (R k 4) from hnf k hk 4 (by omega)]
                              refine lv_aload_n hx hb d_Bm_holds_161 rfl (lv_at hl 0 rfl) ?_
                              refine lv_iload_n hx hb d_Bm_holds_162 rfl (lv_at hl 1 rfl) ?_
                              refine lv_iconst (v := 5) hx hb d_Bm_holds_163 (by decide) ?_
                              have hPc := hP.sub (ws' := (mo_ws m0 e0 (nI N) (nI n) (nI bc) (lN P) (lN Q) (lN G) (lN al) (lN pa) (lN pb) cl a0 a1 a2 a3 a4 a5 a6 a7 a8 a9 b0 b1 gok_1 b2 b3 b4 b5 ++ (jw_ws a0 cJ 1232 nf))) [0, 7] rfl
                              have hKc := hK.sub (tys' := [(cJ, .long), (cI, .int)]) [0, 1] rfl
                              refine va_calll (va_runV (As := [.int (nI k), .int 5]) (rest := [.long (R k 4), .long (R k 3), .long (R k 2), .int (nI (wh k)), .ref m0]) ⟨hx, hb, hml, hown, hts⟩ (c_Bm_at l H dC dI cJ cI m0 e0 (nI N) (nI n) (nI bc) (lN P) (lN Q) (lN G) (lN al) (lN pa) (lN pb) cl a0 a1 a2 a3 a4 a5 a6 a7 a8 a9 b0 b1 gok_1 b2 b3 b4 b5 nf k 5 hPc (by omega)) (cwV 2 hts (gw_V gk_1102 gk_1104 gp_42 gk_7 gk_1105) rfl rfl rfl (by decide +kernel) ⟨Nat.le_of_ble_eq_true rfl, Nat.le_of_ble_eq_true rfl⟩) ⟨fun a U g mk q => ⟨q.1, q.2.1, va_K.moved (u := U) (U := U.calling g mk a) (Vm.Alike.refl U.vm) q.2.2⟩, va_recv hK hP (ci := 8) (q0 := 0) rfl rfl, fun U hU hW => ⟨rfl, hU, va_K.moved hW.alike hKc⟩⟩ rfl rfl hl.1 rfl (lv_room (Nat.le_of_ble_eq_true rfl)) d_Bm_holds_164 ⟨Nat.le_of_ble_eq_true rfl, Nat.le_of_ble_eq_true rfl⟩) hS (fun q _ h => h.elim) (fun q h => h.elim) (fun r164 u9 t9 H1 locs ht hvm hw hB hz1 hk1 hS => ?_)
                              obtain rfl : H = H1 := hB.symm.trans ht
                              have hw : r164 = nf (8 * k + 5) := hw
                              subst hw
                              rw [show (nf (8 * k + 5) : Int64) = (R k 5) from hnf k hk 5 (by omega)]
                              refine lv_aload_n hx hb d_Bm_holds_167 rfl (lv_at hl 0 rfl) ?_
                              refine lv_iload_n hx hb d_Bm_holds_168 rfl (lv_at hl 1 rfl) ?_
                              refine lv_bipush (v := 6) hx hb d_Bm_holds_169 (by decide) ?_
                              have hPc := hP.sub (ws' := (mo_ws m0 e0 (nI N) (nI n) (nI bc) (lN P) (lN Q) (lN G) (lN al) (lN pa) (lN pb) cl a0 a1 a2 a3 a4 a5 a6 a7 a8 a9 b0 b1 gok_1 b2 b3 b4 b5 ++ (jw_ws a0 cJ 1232 nf))) [0, 7] rfl
                              have hKc := hK.sub (tys' := [(cJ, .long), (cI, .int)]) [0, 1] rfl
                              refine va_calll (vw_runV (As := [.int (nI k), .int 6]) (rest := [.long (R k 5), .long (R k 4), .long (R k 3), .long (R k 2), .int (nI (wh k)), .ref m0]) ⟨hx, hb, hml, hown, hts⟩ (c_Bm_at l H dC dI cJ cI m0 e0 (nI N) (nI n) (nI bc) (lN P) (lN Q) (lN G) (lN al) (lN pa) (lN pb) cl a0 a1 a2 a3 a4 a5 a6 a7 a8 a9 b0 b1 gok_1 b2 b3 b4 b5 nf k 6 hPc (by omega)) (cwV 2 hts (gw_V gk_1102 gk_1104 gp_42 gk_7 gk_1105) rfl rfl rfl (by decide +kernel) ⟨Nat.le_of_ble_eq_true rfl, Nat.le_of_ble_eq_true rfl⟩) (Nat.le_of_ble_eq_true rfl) ⟨fun a U g mk q => ⟨q.1, q.2.1, va_K.moved (u := U) (U := U.calling g mk a) (Vm.Alike.refl U.vm) q.2.2⟩, va_recv hK hP (ci := 8) (q0 := 0) rfl rfl, fun U hU hW => ⟨rfl, hU, va_K.moved hW.alike hKc⟩⟩ rfl rfl hl.1 rfl (vw_room (Nat.le_of_ble_eq_true rfl)) d_Bm_holds_171 ⟨Nat.le_of_ble_eq_true rfl, Nat.le_of_ble_eq_true rfl⟩) hS (fun q _ h => h.elim) (fun q h => h.elim) (fun r171 u9 t9 H1 locs ht hvm hw hB hz1 hk1 hS => ?_)
                              obtain rfl : H = H1 := hB.symm.trans ht
                              have hw : r171 = nf (8 * k + 6) := hw
                              subst hw
                              rw [show (nf (8 * k + 6) : Int64) = (R k 6) from hnf k hk 6 (by omega)]
                              refine lv_aload_n hx hb d_Bm_holds_174 rfl (lv_at hl 0 rfl) ?_
                              refine lv_iload_n hx hb d_Bm_holds_175 rfl (lv_at hl 1 rfl) ?_
                              refine lv_bipush (v := 7) hx hb d_Bm_holds_176 (by decide) ?_
                              have hPc := hP.sub (ws' := (mo_ws m0 e0 (nI N) (nI n) (nI bc) (lN P) (lN Q) (lN G) (lN al) (lN pa) (lN pb) cl a0 a1 a2 a3 a4 a5 a6 a7 a8 a9 b0 b1 gok_1 b2 b3 b4 b5 ++ (jw_ws a0 cJ 1232 nf))) [0, 7] rfl
                              have hKc := hK.sub (tys' := [(cJ, .long), (cI, .int)]) [0, 1] rfl
                              refine va_calll (vw_runV (As := [.int (nI k), .int 7]) (rest := [.long (R k 6), .long (R k 5), .long (R k 4), .long (R k 3), .long (R k 2), .int (nI (wh k)), .ref m0]) ⟨hx, hb, hml, hown, hts⟩ (c_Bm_at l H dC dI cJ cI m0 e0 (nI N) (nI n) (nI bc) (lN P) (lN Q) (lN G) (lN al) (lN pa) (lN pb) cl a0 a1 a2 a3 a4 a5 a6 a7 a8 a9 b0 b1 gok_1 b2 b3 b4 b5 nf k 7 hPc (by omega)) (cwV 2 hts (gw_V gk_1102 gk_1104 gp_42 gk_7 gk_1105) rfl rfl rfl (by decide +kernel) ⟨Nat.le_of_ble_eq_true rfl, Nat.le_of_ble_eq_true rfl⟩) (Nat.le_of_ble_eq_true rfl) ⟨fun a U g mk q => ⟨q.1, q.2.1, va_K.moved (u := U) (U := U.calling g mk a) (Vm.Alike.refl U.vm) q.2.2⟩, va_recv hK hP (ci := 8) (q0 := 0) rfl rfl, fun U hU hW => ⟨rfl, hU, va_K.moved hW.alike hKc⟩⟩ rfl rfl hl.1 rfl (vw_room (Nat.le_of_ble_eq_true rfl)) d_Bm_holds_178 ⟨Nat.le_of_ble_eq_true rfl, Nat.le_of_ble_eq_true rfl⟩) hS (fun q _ h => h.elim) (fun q h => h.elim) (fun r178 u9 t9 H1 locs ht hvm hw hB hz1 hk1 hS => ?_)
                              obtain rfl : H = H1 := hB.symm.trans ht
                              have hw : r178 = nf (8 * k + 7) := hw
                              subst hw
                              rw [show (nf (8 * k + 7) : Int64) = (R k 7) from hnf k hk 7 (by omega)]
                              refine lv_lload_n hx hb d_Bm_holds_181 rfl (lv_at hl 3 rfl) ?_
                              have hPc := hP.sub (ws' := (mo_ws m0 e0 (nI N) (nI n) (nI bc) (lN P) (lN Q) (lN G) (lN al) (lN pa) (lN pb) cl a0 a1 a2 a3 a4 a5 a6 a7 a8 a9 b0 b1 gok_1 b2 b3 b4 b5 ++ (iw_ws a7 cI 256 gbk_1 ++ (iw_ws a8 cI 64 gsk_1 ++ (iw_ws a9 cI 8 gtk_1 ++ (iw_ws b0 cI 8 kS ++ (iw_ws b1 cI 64 kR ++ (jw_ws a2 cJ 4 gfk_1 ++ (jw_ws a3 cJ 16 lf))))))))) [0, 1, 2, 3, 4, 5, 6, 11] rfl
                              have hDc := hD.sub (ws' := (mo_ws m0 e0 (nI N) (nI n) (nI bc) (lN P) (lN Q) (lN G) (lN al) (lN pa) (lN pb) cl a0 a1 a2 a3 a4 a5 a6 a7 a8 a9 b0 b1 gok_1 b2 b3 b4 b5 ++ (iw_ws a7 cI 256 gbk_1 ++ (iw_ws a8 cI 64 gsk_1 ++ (iw_ws a9 cI 8 gtk_1 ++ (iw_ws b0 cI 8 kS ++ (iw_ws b1 cI 64 kR ++ (jw_ws a2 cJ 4 gfk_1 ++ (jw_ws a3 cJ 16 lf))))))))) [0, 1, 2, 3, 4, 5, 6, 11] (by decide) rfl
                              have hKc := hK.sub (tys' := [(cJ, .long), (cI, .int)]) [0, 1] rfl
                              have hFc := va_free (wc := (mo_ws m0 e0 (nI N) (nI n) (nI bc) (lN P) (lN Q) (lN G) (lN al) (lN pa) (lN pb) cl a0 a1 a2 a3 a4 a5 a6 a7 a8 a9 b0 b1 gok_1 b2 b3 b4 b5 ++ (iw_ws a7 cI 256 gbk_1 ++ (iw_ws a8 cI 64 gsk_1 ++ (iw_ws a9 cI 8 gtk_1 ++ (iw_ws b0 cI 8 kS ++ (iw_ws b1 cI 64 kR ++ (jw_ws a2 cJ 4 gfk_1 ++ (jw_ws a3 cJ 16 lf))))))))) hD hS hA [0, 1, 2, 3, 4, 5, 6, 11] rfl
                              refine va_calli (va_runV (As := [.int (nI (wh k)), .long (R k 2), .long (R k 3), .long (R k 4), .long (R k 5), .long (R k 6), .long (R k 7), .long (lN (prk P (t_ko TA) N))]) (rest := []) ⟨hx, hb, hml, hown, hts⟩ (c_Bm_ballotHolds l dC dI cJ cI H.size m0 e0 (nI N) (nI n) (nI bc) (lN al) (lN pa) (lN pb) cl a0 a1 a2 a3 a4 a5 a6 a7 a8 a9 b0 b1 gok_1 b2 b3 b4 b5 P Q G gbk_1 gsk_1 gtk_1 gfk_1 lf (wh k) (prk P (t_ko TA) N) (R k 2) (R k 3) (R k 4) (R k 5) (R k 6) (R k 7) hPQ h61F hQ3 hG2 hGP hGQ (by omega) (prk_lt hPone _ _)) (cwV 8 hts (gw_V gk_1125 gk_1127 gp_45 gk_7 gk_1128) rfl rfl rfl (by decide +kernel) ⟨Nat.le_of_ble_eq_true rfl, Nat.le_of_ble_eq_true rfl⟩) ⟨fun a U g mk q => by obtain ⟨q0, q1, qP, qK, qD⟩ := q; exact ⟨q0, q1, qP, va_K.moved (u := U) (U := U.calling g mk a) (Vm.Alike.refl U.vm) qK, qD⟩, va_recv hK hP (ci := 8) (q0 := 0) rfl rfl, fun U hU hW => ⟨rfl, by rw [hU], by rw [hU]; exact hPc, va_K.moved hW.alike hKc, hDc.weaken (fun _ _ _ _ => trivial)⟩⟩ rfl rfl hl.1 rfl (lv_room (Nat.le_of_ble_eq_true rfl)) d_Bm_holds_182 ⟨Nat.le_of_ble_eq_true rfl, Nat.le_of_ble_eq_true rfl⟩) hS (fun q _ h => hFc q h) hFc (fun r_20 u9 t9 H1 locs ht hvm hw hB hz1 hk1 hS => ?_)
                              obtain ⟨⟨gbk_19, gsk_19, gtk_19, gfk_19, gok_19⟩, glk_19⟩ := u9
                              have hr_20 := hw
                              obtain ⟨hP1, hK1, hD1⟩ := hB
                              rw [ht] at hP1
                              obtain ⟨hP, hD⟩ := va_join (wr := [(a0, .inl (cJ, 1232, .inr (.inl nf))), (a1, .inl (cJ, 616, .inr (.inl cf))), (a4, .inl (cI, 4, .inl kf)), (b5, .inl (cI, 64, .inl (upd ct (wh k) (nI k))))]) (w1 := [(m0, .inr (8, [.int e0, .int (nI N), .int (nI n), .int (nI bc), .long (lN P), .long (lN Q), .long (lN G), .long (lN al), .long (lN pa), .long (lN pb), .int cl, .ref a0, .ref a1, .ref a2, .ref a3, .ref a4, .ref a5, .ref a6, .ref a7, .ref a8, .ref a9, .ref b0, .ref b1, .int (nI gok_19), .ref b2, .ref b3, .ref b4, .ref b5])), (a7, .inl (cI, 256, .inl gbk_19)), (a8, .inl (cI, 64, .inl gsk_19)), (a9, .inl (cI, 8, .inl gtk_19)), (b0, .inl (cI, 8, .inl kS)), (b1, .inl (cI, 64, .inl kR)), (a2, .inl (cJ, 4, .inr (.inl gfk_19))), (a3, .inl (cJ, 16, .inr (.inl glk_19)))]) hP hD [0, 1, 2, 3, 4, 5, 6, 11] [7, 8, 9, 10] rfl rfl (by decide) (by decide) hk1 hFc hP1 hD1
                              have hP := hP.sub (ws' := [(m0, .inr (8, [.int e0, .int (nI N), .int (nI n), .int (nI bc), .long (lN P), .long (lN Q), .long (lN G), .long (lN al), .long (lN pa), .long (lN pb), .int cl, .ref a0, .ref a1, .ref a2, .ref a3, .ref a4, .ref a5, .ref a6, .ref a7, .ref a8, .ref a9, .ref b0, .ref b1, .int (nI gok_19), .ref b2, .ref b3, .ref b4, .ref b5])), (a7, .inl (cI, 256, .inl gbk_19)), (a8, .inl (cI, 64, .inl gsk_19)), (a9, .inl (cI, 8, .inl gtk_19)), (b0, .inl (cI, 8, .inl kS)), (b1, .inl (cI, 64, .inl kR)), (a2, .inl (cJ, 4, .inr (.inl gfk_19))), (a0, .inl (cJ, 1232, .inr (.inl nf))), (a1, .inl (cJ, 616, .inr (.inl cf))), (a4, .inl (cI, 4, .inl kf)), (b5, .inl (cI, 64, .inl (upd ct (wh k) (nI k)))), (a3, .inl (cJ, 16, .inr (.inl glk_19)))]) [4, 5, 6, 7, 8, 9, 10, 0, 1, 2, 3, 11] rfl
                              have hD := hD.sub (ws' := [(m0, .inr (8, [.int e0, .int (nI N), .int (nI n), .int (nI bc), .long (lN P), .long (lN Q), .long (lN G), .long (lN al), .long (lN pa), .long (lN pb), .int cl, .ref a0, .ref a1, .ref a2, .ref a3, .ref a4, .ref a5, .ref a6, .ref a7, .ref a8, .ref a9, .ref b0, .ref b1, .int (nI gok_19), .ref b2, .ref b3, .ref b4, .ref b5])), (a7, .inl (cI, 256, .inl gbk_19)), (a8, .inl (cI, 64, .inl gsk_19)), (a9, .inl (cI, 8, .inl gtk_19)), (b0, .inl (cI, 8, .inl kS)), (b1, .inl (cI, 64, .inl kR)), (a2, .inl (cJ, 4, .inr (.inl gfk_19))), (a0, .inl (cJ, 1232, .inr (.inl nf))), (a1, .inl (cJ, 616, .inr (.inl cf))), (a4, .inl (cI, 4, .inl kf)), (b5, .inl (cI, 64, .inl (upd ct (wh k) (nI k)))), (a3, .inl (cJ, 16, .inr (.inl glk_19)))]) [4, 5, 6, 7, 8, 9, 10, 0, 1, 2, 3, 11] (by decide) rfl
                              generalize H1 = H at hP hS ⊢
                              have hck : ckey (t_tn TA) (t_kc TA) (t_kp TA) = prk P (t_ko TA) N := ck_prk hAI hN0 (fun j hj => by
                                obtain ⟨e, he, hke, hwe⟩ := hE.2.2 k hk (by omega) j hj
                                have := (hAI.2.2.1 e he hke).2.1
                                rw [hwe] at this
                                omega)
                              rw [hck] at hhk
                              exact W.zret (v := r_20) hx hb hr (by rcases hr_20 with ⟨h, _⟩ | ⟨h, _⟩ <;> rw [h] <;> decide) (fun t ht9 hW => ⟨⟨_, ((gbk_19, gsk_19, gtk_19, gfk_19, gok_19), glk_19, upd ct (wh k) (nI k)), rfl, ⟨bz_iff hr_20 ⟨fun h => hhk.mpr ⟨hln, h⟩, fun h => (hhk.mp h).2⟩, fun h => by
                                have h9 := hCS h
                                rw [if_pos hkK] at h9
                                exact h9⟩, by rw [ht9]; exact hP, va_K.moved hW.alike hK, hD⟩, hS.F ht9⟩) hS.2.2 d_Bm_holds_185
                            · -- not taken
                              have hi9 : i < N := Nat.lt_of_not_le (fun h => c_18 ((nI_leI (by omega) (by omega)).mpr h))
                              obtain ⟨e, he, hke, hwe⟩ := hE.2.2 k hk (by omega) i hi9
                              have hkfe : kf i = nI e := by rw [← hwe]; exact hkf e (by omega) hke
                              obtain ⟨y1, y2, y3, y4⟩ := hAI.2.2.1 e he hke
                              rw [hwe] at y1 y2 y3 y4
                              have hwe5 := wdt_ge2 (kd e)
                              have hv7 := prk_lt (P := P) hPone (t_ko TA) i
                              refine lv_aload_n hx hb d_Bm_holds_110 rfl (lv_at hl 0 rfl) ?_
                              refine lv_lload_n hx hb d_Bm_holds_111 rfl (lv_at hl 3 rfl) ?_
                              refine lv_aload_n hx hb d_Bm_holds_112 rfl (lv_at hl 0 rfl) ?_
                              refine lv_aload_n hx hb d_Bm_holds_113 rfl (lv_at hl 0 rfl) ?_
                              refine va_get (D := (dC, dI)) (ci := 8) (v := .ref a4) (C := "BallotBoardModel") (T := F_Bm) (N := 28) hx hb hts (fun w9 h9 => List.mem_cons_of_mem _ (i_Bm w9 h9)) hown hK hP 0 rfl rfl 15 (by decide) (hts _ (List.mem_cons_of_mem _ gk_934)) (fun _ h9 => h9) rfl d_Bm_holds_114 ?_
                              refine lv_iload hx hb d_Bm_holds_117 (lv_at hl 4 rfl) ?_
                              refine va_iald hx hb hK hP 9 1 rfl rfl (vp_in_nI (by omega) (by omega)) d_Bm_holds_119 ?_
                              rw [show (kf (nI i : Int32).toNatClampNeg : Int32) = kf i from by rw [nI_clamp (by omega)]]
                              rw [show (kf i : Int32) = (nI e) from hkfe]
                              refine lv_iconst (v := 2) hx hb d_Bm_holds_120 (by decide) ?_
                              have hPc := hP.sub (ws' := (mo_ws m0 e0 (nI N) (nI n) (nI bc) (lN P) (lN Q) (lN G) (lN al) (lN pa) (lN pb) cl a0 a1 a2 a3 a4 a5 a6 a7 a8 a9 b0 b1 gok_1 b2 b3 b4 b5 ++ (jw_ws a0 cJ 1232 nf))) [0, 7] rfl
                              have hKc := hK.sub (tys' := [(cJ, .long), (cI, .int)]) [0, 1] rfl
                              refine va_calll (va_runV (As := [.int (nI e), .int 2]) (rest := [.long (lN (prk P (t_ko TA) i)), .ref m0]) ⟨hx, hb, hml, hown, hts⟩ (c_Bm_at l H dC dI cJ cI m0 e0 (nI N) (nI n) (nI bc) (lN P) (lN Q) (lN G) (lN al) (lN pa) (lN pb) cl a0 a1 a2 a3 a4 a5 a6 a7 a8 a9 b0 b1 gok_1 b2 b3 b4 b5 nf e 2 hPc (by omega)) (cwV 2 hts (gw_V gk_1102 gk_1104 gp_42 gk_7 gk_1105) rfl rfl rfl (by decide +kernel) ⟨Nat.le_of_ble_eq_true rfl, Nat.le_of_ble_eq_true rfl⟩) ⟨fun a U g mk q => ⟨q.1, q.2.1, va_K.moved (u := U) (U := U.calling g mk a) (Vm.Alike.refl U.vm) q.2.2⟩, va_recv hK hP (ci := 8) (q0 := 0) rfl rfl, fun U hU hW => ⟨rfl, hU, va_K.moved hW.alike hKc⟩⟩ rfl rfl hl.1 rfl (lv_room (Nat.le_of_ble_eq_true rfl)) d_Bm_holds_121 ⟨Nat.le_of_ble_eq_true rfl, Nat.le_of_ble_eq_true rfl⟩) hS (fun q _ h => h.elim) (fun q h => h.elim) (fun r121 u9 t9 H1 locs ht hvm hw hB hz1 hk1 hS => ?_)
                              obtain rfl : H = H1 := hB.symm.trans ht
                              have hw : r121 = nf (8 * e + 2) := hw
                              subst hw
                              rw [show (nf (8 * e + 2) : Int64) = (lN (t_ko TA i)) from (hnf e (by omega) 2 (by omega)).trans y1]
                              have hPc := hP.sub (ws' := (mo_ws m0 e0 (nI N) (nI n) (nI bc) (lN P) (lN Q) (lN G) (lN al) (lN pa) (lN pb) cl a0 a1 a2 a3 a4 a5 a6 a7 a8 a9 b0 b1 gok_1 b2 b3 b4 b5)) [0] rfl
                              have hKc := hK.sub (tys' := [(cJ, .long), (cI, .int)]) [0, 1] rfl
                              refine va_calll (va_runV (As := [.long (lN (prk P (t_ko TA) i)), .long (lN (t_ko TA i))]) (rest := []) ⟨hx, hb, hml, hown, hts⟩ (c_Bm_times l H dC dI cJ cI m0 e0 (nI N) (nI n) (nI bc) (lN al) (lN pa) (lN pb) cl a0 a1 a2 a3 a4 a5 a6 a7 a8 a9 b0 b1 gok_1 b2 b3 b4 b5 P Q G (prk P (t_ko TA) i) (t_ko TA i) hPc hPQ h61F hQ3 hv7 y3) (cwV 2 hts (gw_V gk_1058 gk_1060 gp_33 gk_7 gk_1061) rfl rfl rfl (by decide +kernel) ⟨Nat.le_of_ble_eq_true rfl, Nat.le_of_ble_eq_true rfl⟩) ⟨fun a U g mk q => ⟨q.1, q.2.1, va_K.moved (u := U) (U := U.calling g mk a) (Vm.Alike.refl U.vm) q.2.2⟩, va_recv hK hP (ci := 8) (q0 := 0) rfl rfl, fun U hU hW => ⟨rfl, hU, va_K.moved hW.alike hKc⟩⟩ rfl rfl hl.1 rfl (lv_room (Nat.le_of_ble_eq_true rfl)) d_Bm_holds_124 ⟨Nat.le_of_ble_eq_true rfl, Nat.le_of_ble_eq_true rfl⟩) hS (fun q _ h => h.elim) (fun q h => h.elim) (fun r124 u9 t9 H1 locs ht hvm hw hB hz1 hk1 hS => ?_)
                              obtain rfl : H = H1 := hB.symm.trans ht
                              have hw : r124 = lN ((prk P (t_ko TA) i) * (t_ko TA i) % P) := hw
                              subst hw
                              rw [show (lN ((prk P (t_ko TA) i) * (t_ko TA i) % P) : Int64) = (lN (prk P (t_ko TA) (i + 1))) from rfl]
                              refine lv_lstore_n (lv' := [(3, .long (lN (prk P (t_ko TA) (i + 1)))), (0, .ref m0), (1, .int (nI k)), (2, .int (nI (wh k))), (5, .int (nI i))]) hx hb d_Bm_holds_127 rfl hl (by decide) rfl (fun ls hl => ?_)
                              obtain ⟨i_21, ei_21⟩ : ∃ y : Int32, y = (nI i) + 1 := ⟨_, rfl⟩
                              refine lv_iinc (v := i_21) (lv' := [(5, .int i_21), (3, .long (lN (prk P (t_ko TA) (i + 1)))), (0, .ref m0), (1, .int (nI k)), (2, .int (nI (wh k)))]) hx hb d_Bm_holds_128 hl (k := 4) rfl (by rw [ei_21]; rfl) (by decide) rfl (fun ls hl => ?_)
                              obtain rfl : i_21 = nI (i + 1) := by rw [ei_21]; exact nI_1 i
                              refine lv_goto (tgt := 101) hx hb d_Bm_holds_131 (by decide) ?_
                              exact ih (j - 1) (by omega) (i + 1) (by omega) H locs hS hP hD ls (lv_sub hl [2, 3, 4, 1, 0] rfl)
                        have h1L := hl
                        exact loop9 N 0 (by omega) H _ hS hP hD ls (lv_sub hl [3, 4, 2, 1, 0] rfl)
                    · -- not taken
                      exact absurd ((cmpe (k := 2) (by omega) 1 (by omega) rfl).mp c_16) (by omega)
                  · -- not taken
                    exact absurd c_15 (by decide)
                · -- not taken
                  have hbad : ¬ hds P Q G N T0 kd wh R Lk k := fun h => c_13 ((lg_cmp_eq _ _).mpr (hhk.mp h).1.2.2.2.symm)
                  refine lv_iconst (v := 0) hx hb d_Bm_holds_32 (by decide) ?_
                  exact W.zret (v := 0) hx hb hr (by decide) (fun t ht9 hW => ⟨⟨_, ((gbk_1, gsk_1, gtk_1, gfk_1, gok_1), lf, ct), rfl, ⟨bz_0 hbad, fun h => absurd h hbad⟩, by rw [ht9]; exact hP, va_K.moved hW.alike hK, hD⟩, hS.F ht9⟩) hS.2.2 d_Bm_holds_33
            · -- not taken
              have hbad : ¬ hds P Q G N T0 kd wh R Lk k := fun h => c_10 ((lg_cmp_eq _ _).mpr (hhk.mp h).1.2.2.1.symm)
              refine lv_iconst (v := 0) hx hb d_Bm_holds_32 (by decide) ?_
              exact W.zret (v := 0) hx hb hr (by decide) (fun t ht9 hW => ⟨⟨_, ((gbk_1, gsk_1, gtk_1, gfk_1, gok_1), lf, ct), rfl, ⟨bz_0 hbad, fun h => absurd h hbad⟩, by rw [ht9]; exact hP, va_K.moved hW.alike hK, hD⟩, hS.F ht9⟩) hS.2.2 d_Bm_holds_33
        · -- not taken
          have hbad : ¬ hds P Q G N T0 kd wh R Lk k := fun h => c_7 ((lg_cmp_eq _ _).mpr (hhk.mp h).1.2.1.symm)
          refine lv_iconst (v := 0) hx hb d_Bm_holds_32 (by decide) ?_
          exact W.zret (v := 0) hx hb hr (by decide) (fun t ht9 hW => ⟨⟨_, ((gbk_1, gsk_1, gtk_1, gfk_1, gok_1), lf, ct), rfl, ⟨bz_0 hbad, fun h => absurd h hbad⟩, by rw [ht9]; exact hP, va_K.moved hW.alike hK, hD⟩, hS.F ht9⟩) hS.2.2 d_Bm_holds_33
    · -- not taken
      have hbad : ¬ hds P Q G N T0 kd wh R Lk k := fun h => c_4 ((lg_cmp_eq _ _).mpr (hhk.mp h).1.1.symm)
      refine lv_iconst (v := 0) hx hb d_Bm_holds_32 (by decide) ?_
      exact W.zret (v := 0) hx hb hr (by decide) (fun t ht9 hW => ⟨⟨_, ((gbk_1, gsk_1, gtk_1, gfk_1, gok_1), lf, ct), rfl, ⟨bz_0 hbad, fun h => absurd h hbad⟩, by rw [ht9]; exact hP, va_K.moved hW.alike hK, hD⟩, hS.F ht9⟩) hS.2.2 d_Bm_holds_33
set_option maxHeartbeats 8000000 in
set_option maxRecDepth 100000 in
theorem c_Bm_holds_3 (l : Launch) (dC : Nat → ClassId) (dI : Nat → Nat → Nat) (cJ cI : ClassId) (sz : Nat) (m0 : Nat) (e0 : Int32) (N n bc P Q G al pa pb : Nat) (cl : Int32) (a0 a1 a2 a3 a4 a5 a6 a7 a8 a9 b0 b1 oc b2 b3 b4 b5 : Nat) (bf sc st kf ct : Nat → Int32) (tf nf cf lf : Nat → Int64) (T0 : TS) (kd wh : Nat → Nat) (R Lk : Nat → Nat → Int64) (k : Nat) (hPQ : P = 2 * Q + 1) (h61F : P < 2 ^ 61) (hQ3 : 3 ≤ Q) (hG2 : 2 ≤ G) (hGP : G < P) (hGQ : G ^ Q % P = 1) (hN : N ≤ 4) (hN0 : 0 < N) (hwf : wfE n N kd wh R) (hE : EI n N kd wh) (hnf : ∀ e, e < n → ∀ j, j < wdt (kd e) → nf (8 * e + j) = R e j) (hcf : ∀ e, e < n → ∀ j, j < 4 → cf (4 * e + j) = Lk e j) (hkf : ∀ e, e < n → kd e = 1 → kf (wh e) = nI e) (h0k : tOk P N (tStart N T0)) (hk : k < n) (hkK : kd k = 3) (hk0 : 0 < k) (hall : ∀ i, i < k → hds P Q G N T0 kd wh R Lk i) (hCR : CR k (aud P N T0 kd wh R k) R ct) : Met l y_Bm_holds w_Bm_holds ({ frames := 7, cells := 0, slots := 0, locals := 236 }) (va_Pc [.ref m0, .int (nI k)] (fun U => U.heap.size = sz ∧ va_P (dC, dI) classes (mo_ws m0 e0 (nI N) (nI n) (nI bc) (lN P) (lN Q) (lN G) (lN al) (lN pa) (lN pb) cl a0 a1 a2 a3 a4 a5 a6 a7 a8 a9 b0 b1 oc b2 b3 b4 b5 ++ (iw_ws a7 cI 256 bf ++ (iw_ws a8 cI 64 sc ++ (iw_ws a9 cI 8 st ++ (iw_ws b0 cI 8 kS ++ (iw_ws b1 cI 64 kR ++ (jw_ws a2 cJ 4 tf ++ (jw_ws a0 cJ 1232 nf ++ (jw_ws a1 cJ 616 cf ++ (iw_ws a4 cI 4 kf ++ (iw_ws b5 cI 64 ct ++ (jw_ws a3 cJ 16 lf)))))))))))) U.heap ∧ va_K (dC, dI) classes [(cJ, .long), (cI, .int)] U ∧ va_D (fun _ => True) (mo_ws m0 e0 (nI N) (nI n) (nI bc) (lN P) (lN Q) (lN G) (lN al) (lN pa) (lN pb) cl a0 a1 a2 a3 a4 a5 a6 a7 a8 a9 b0 b1 oc b2 b3 b4 b5 ++ (iw_ws a7 cI 256 bf ++ (iw_ws a8 cI 64 sc ++ (iw_ws a9 cI 8 st ++ (iw_ws b0 cI 8 kS ++ (iw_ws b1 cI 64 kR ++ (jw_ws a2 cJ 4 tf ++ (jw_ws a0 cJ 1232 nf ++ (jw_ws a1 cJ 616 cf ++ (iw_ws a4 cI 4 kf ++ (iw_ws b5 cI 64 ct ++ (jw_ws a3 cJ 16 lf)))))))))))))) (va_Qi (fun (r : Int32) (u9 : DU × (Nat → Int64) × (Nat → Int32)) => bz r (hds P Q G N T0 kd wh R Lk k) ∧ (hds P Q G N T0 kd wh R Lk k → CR (k + 1) (aud P N T0 kd wh R (k + 1)) R u9.2.2)) (fun u9 t => va_P (dC, dI) classes (mo_ws m0 e0 (nI N) (nI n) (nI bc) (lN P) (lN Q) (lN G) (lN al) (lN pa) (lN pb) cl a0 a1 a2 a3 a4 a5 a6 a7 a8 a9 b0 b1 u9.1.2.2.2.2 b2 b3 b4 b5 ++ (iw_ws a7 cI 256 u9.1.1 ++ (iw_ws a8 cI 64 u9.1.2.1 ++ (iw_ws a9 cI 8 u9.1.2.2.1 ++ (iw_ws b0 cI 8 kS ++ (iw_ws b1 cI 64 kR ++ (jw_ws a2 cJ 4 u9.1.2.2.2.1 ++ (jw_ws a0 cJ 1232 nf ++ (jw_ws a1 cJ 616 cf ++ (iw_ws a4 cI 4 kf ++ (iw_ws b5 cI 64 u9.2.2 ++ (jw_ws a3 cJ 16 u9.2.1)))))))))))) t.heap ∧ va_K (dC, dI) classes [(cJ, .long), (cI, .int)] t ∧ va_D (va_A (mo_ws m0 e0 (nI N) (nI n) (nI bc) (lN P) (lN Q) (lN G) (lN al) (lN pa) (lN pb) cl a0 a1 a2 a3 a4 a5 a6 a7 a8 a9 b0 b1 oc b2 b3 b4 b5 ++ (iw_ws a7 cI 256 bf ++ (iw_ws a8 cI 64 sc ++ (iw_ws a9 cI 8 st ++ (iw_ws b0 cI 8 kS ++ (iw_ws b1 cI 64 kR ++ (jw_ws a2 cJ 4 tf ++ (jw_ws a0 cJ 1232 nf ++ (jw_ws a1 cJ 616 cf ++ (iw_ws a4 cI 4 kf ++ (iw_ws b5 cI 64 ct ++ (jw_ws a3 cJ 16 lf)))))))))))) sz) (mo_ws m0 e0 (nI N) (nI n) (nI bc) (lN P) (lN Q) (lN G) (lN al) (lN pa) (lN pb) cl a0 a1 a2 a3 a4 a5 a6 a7 a8 a9 b0 b1 u9.1.2.2.2.2 b2 b3 b4 b5 ++ (iw_ws a7 cI 256 u9.1.1 ++ (iw_ws a8 cI 64 u9.1.2.1 ++ (iw_ws a9 cI 8 u9.1.2.2.1 ++ (iw_ws b0 cI 8 kS ++ (iw_ws b1 cI 64 kR ++ (jw_ws a2 cJ 4 u9.1.2.2.2.1 ++ (jw_ws a0 cJ 1232 nf ++ (jw_ws a1 cJ 616 cf ++ (iw_ws a4 cI 4 kf ++ (iw_ws b5 cI 64 u9.2.2 ++ (jw_ws a3 cJ 16 u9.2.1))))))))))))) (va_A (mo_ws m0 e0 (nI N) (nI n) (nI bc) (lN P) (lN Q) (lN G) (lN al) (lN pa) (lN pb) cl a0 a1 a2 a3 a4 a5 a6 a7 a8 a9 b0 b1 oc b2 b3 b4 b5 ++ (iw_ws a7 cI 256 bf ++ (iw_ws a8 cI 64 sc ++ (iw_ws a9 cI 8 st ++ (iw_ws b0 cI 8 kS ++ (iw_ws b1 cI 64 kR ++ (jw_ws a2 cJ 4 tf ++ (jw_ws a0 cJ 1232 nf ++ (jw_ws a1 cJ 616 cf ++ (iw_ws a4 cI 4 kf ++ (iw_ws b5 cI 64 ct ++ (jw_ws a3 cJ 16 lf)))))))))))) sz)) 0 0 (va_A (mo_ws m0 e0 (nI N) (nI n) (nI bc) (lN P) (lN Q) (lN G) (lN al) (lN pa) (lN pb) cl a0 a1 a2 a3 a4 a5 a6 a7 a8 a9 b0 b1 oc b2 b3 b4 b5 ++ (iw_ws a7 cI 256 bf ++ (iw_ws a8 cI 64 sc ++ (iw_ws a9 cI 8 st ++ (iw_ws b0 cI 8 kS ++ (iw_ws b1 cI 64 kR ++ (jw_ws a2 cJ 4 tf ++ (jw_ws a0 cJ 1232 nf ++ (jw_ws a1 cJ 616 cf ++ (iw_ws a4 cI 4 kf ++ (iw_ws b5 cI 64 ct ++ (jw_ws a3 cJ 16 lf)))))))))))) sz) := by
  refine Met.ofW (cc := b_Bm_holds) (maxL := 6) (ret := (some .boolean)) (by decide) rfl ?_
  intro p e s m args below meth c s₁ Bd hml hv
  obtain ⟨rfl, hsz, hP, hK, hD0⟩ := hv
  have hx := Bd.exec
  have hb := Bd.bytes
  have hr := Bd.returns
  have hts := atoms_spec (ws := w_Bm_holds) Bd.pre
  have hown : s.vm.findClass "BallotBoardModel" = some m.cls := findClass_of_methodNamed Bd.named
  have hlocks := Bd.notSynchronized
  subst hsz
  have hD := hD0.self (sz := s.heap.size)
  generalize hAe : va_A (mo_ws m0 e0 (nI N) (nI n) (nI bc) (lN P) (lN Q) (lN G) (lN al) (lN pa) (lN pb) cl a0 a1 a2 a3 a4 a5 a6 a7 a8 a9 b0 b1 oc b2 b3 b4 b5 ++ (iw_ws a7 cI 256 bf ++ (iw_ws a8 cI 64 sc ++ (iw_ws a9 cI 8 st ++ (iw_ws b0 cI 8 kS ++ (iw_ws b1 cI 64 kR ++ (jw_ws a2 cJ 4 tf ++ (jw_ws a0 cJ 1232 nf ++ (jw_ws a1 cJ 616 cf ++ (iw_ws a4 cI 4 kf ++ (iw_ws b5 cI 64 ct ++ (jw_ws a3 cJ 16 lf)))))))))))) s.heap.size = A at hD ⊢
  have hA : ∀ q : Nat, s.heap.size ≤ q → A q := fun q h => by rw [← hAe]; exact Or.inr h
  have hS : va_S A s.heap s.heap [] := va_S.rf
  have hl := lv_entry ([.ref m0, .int (nI k)]) (n := 6) (Nat.le_of_ble_eq_true rfl)
  rw [lg_entry_eq]
  generalize (lg_sl ([.ref m0, .int (nI k)]) ++ List.replicate (6 - (lg_sl ([.ref m0, .int (nI k)])).length) Slot.unset).toArray = ls at hl ⊢
  have hl : lv_has ls 6 [(0, .ref m0), (1, .int (nI k))] := hl
  obtain ⟨hkd, hr0, hr1, hb64, hwN⟩ := hwf.2.1 k hk
  have hn154 := hwf.1
  have hP62 : P < 2 ^ 62 := by omega
  have hPone : 1 < P := by omega
  have hAI := AI_aud (Q := Q) (G := G) (T0 := T0) (Lk := Lk) hN hPone hP62 hwf hE k (by omega) hall
  have htok := aud_ok (n := n) hPone hP62 h0k k hall
  have hCS : hds P Q G N T0 kd wh R Lk k → CR (k + 1) (aud P N T0 kd wh R (k + 1)) R (if kd k = 2 then upd ct (wh k) (nI k) else ct) := fun h => CR_step hP62 hwf hk hCR h.2
  obtain ⟨TA, hTA⟩ : ∃ T, T = aud P N T0 kd wh R k := ⟨_, rfl⟩
  rw [← hTA] at hAI htok hCR
  have hw8 := wdt_le2 (kd k)
  have hw5 := wdt_ge2 (kd k)
  have hmsg : [cf (4 * (k - 1) + 0), cf (4 * (k - 1) + 1), cf (4 * (k - 1) + 2), cf (4 * (k - 1) + 3), nf (8 * k + 0), nf (8 * k + 1), nf (8 * k + 2), nf (8 * k + 3), nf (8 * k + 4)] = msgL (kd k) k (R k) Lk := by
    unfold msgL prvL rowL
    rw [if_neg (show ¬ k = 0 by omega), if_neg (show ¬ kd k = 2 by omega), hcf (k - 1) (by omega) 0 (by omega), hcf (k - 1) (by omega) 1 (by omega), hcf (k - 1) (by omega) 2 (by omega), hcf (k - 1) (by omega) 3 (by omega), hnf k hk 0 (by omega), hnf k hk 1 (by omega), hnf k hk 2 (by omega), hnf k hk 3 (by omega), hnf k hk 4 (by omega)]
    rfl
  have hhk : hds P Q G N T0 kd wh R Lk k ↔ lnk4 (Lk k) (msgL (kd k) k (R k) Lk) ∧ shaHd P Q G (t_ko TA (wh k)) (t_pa (tOpn P TA)) (wh k) (R k 2) (R k 3) (R k 4) := by
    unfold hds prf
    rw [← hTA, if_neg (show ¬ kd k = 1 by omega), if_neg (show ¬ kd k = 2 by omega)]
  refine lv_aload_n hx hb d_Bm_holds_0 rfl (lv_at hl 0 rfl) ?_
  refine lv_iload_n hx hb d_Bm_holds_1 rfl (lv_at hl 1 rfl) ?_
  have hPc := hP.sub (ws' := (mo_ws m0 e0 (nI N) (nI n) (nI bc) (lN P) (lN Q) (lN G) (lN al) (lN pa) (lN pb) cl a0 a1 a2 a3 a4 a5 a6 a7 a8 a9 b0 b1 oc b2 b3 b4 b5 ++ (iw_ws a7 cI 256 bf ++ (iw_ws a8 cI 64 sc ++ (iw_ws a9 cI 8 st ++ (iw_ws b0 cI 8 kS ++ (iw_ws b1 cI 64 kR ++ (jw_ws a2 cJ 4 tf ++ (jw_ws a0 cJ 1232 nf ++ (jw_ws a1 cJ 616 cf)))))))))) [0, 1, 2, 3, 4, 5, 6, 7, 8] rfl
  have hDc := hD.sub (ws' := (mo_ws m0 e0 (nI N) (nI n) (nI bc) (lN P) (lN Q) (lN G) (lN al) (lN pa) (lN pb) cl a0 a1 a2 a3 a4 a5 a6 a7 a8 a9 b0 b1 oc b2 b3 b4 b5 ++ (iw_ws a7 cI 256 bf ++ (iw_ws a8 cI 64 sc ++ (iw_ws a9 cI 8 st ++ (iw_ws b0 cI 8 kS ++ (iw_ws b1 cI 64 kR ++ (jw_ws a2 cJ 4 tf ++ (jw_ws a0 cJ 1232 nf ++ (jw_ws a1 cJ 616 cf)))))))))) [0, 1, 2, 3, 4, 5, 6, 7, 8] (by decide) rfl
  have hKc := hK.sub (tys' := [(cJ, .long), (cI, .int)]) [0, 1] rfl
  have hFc := va_free (wc := (mo_ws m0 e0 (nI N) (nI n) (nI bc) (lN P) (lN Q) (lN G) (lN al) (lN pa) (lN pb) cl a0 a1 a2 a3 a4 a5 a6 a7 a8 a9 b0 b1 oc b2 b3 b4 b5 ++ (iw_ws a7 cI 256 bf ++ (iw_ws a8 cI 64 sc ++ (iw_ws a9 cI 8 st ++ (iw_ws b0 cI 8 kS ++ (iw_ws b1 cI 64 kR ++ (jw_ws a2 cJ 4 tf ++ (jw_ws a0 cJ 1232 nf ++ (jw_ws a1 cJ 616 cf)))))))))) hD hS hA [0, 1, 2, 3, 4, 5, 6, 7, 8] rfl
  refine va_callv (va_runV (As := [.int (nI k)]) (rest := []) ⟨hx, hb, hml, hown, hts⟩ (c_Bm_link_5 l dC dI cJ cI s.heap.size m0 e0 (nI N) (nI n) (nI bc) (lN P) (lN Q) (lN G) (lN al) (lN pa) (lN pb) cl a0 a1 a2 a3 a4 a5 a6 a7 a8 a9 b0 b1 oc b2 b3 b4 b5 bf sc st tf nf cf k (msgL (kd k) k (R k) Lk) (by omega) hk0 (by rw [hnf k hk 0 (by omega), hr0, hkK]; exact fun h => absurd (lN_inj (b := 2) (by omega) (by omega) h) (by omega)) hmsg) (cwV 1 hts (gw_V gk_1098 gk_1100 gp_41 gk_7 gk_1101) rfl rfl rfl (by decide +kernel) ⟨Nat.le_of_ble_eq_true rfl, Nat.le_of_ble_eq_true rfl⟩) ⟨fun a U g mk q => by obtain ⟨q0, q1, qP, qK, qD⟩ := q; exact ⟨q0, q1, qP, va_K.moved (u := U) (U := U.calling g mk a) (Vm.Alike.refl U.vm) qK, qD⟩, va_recv hK hP (ci := 8) (q0 := 0) rfl rfl, fun U hU hW => ⟨rfl, by rw [hU], by rw [hU]; exact hPc, va_K.moved hW.alike hKc, hDc.weaken (fun _ _ _ _ => trivial)⟩⟩ rfl rfl hl.1 rfl (lv_room (Nat.le_of_ble_eq_true rfl)) d_Bm_holds_2 ⟨Nat.le_of_ble_eq_true rfl, Nat.le_of_ble_eq_true rfl⟩) hS (fun q _ h => hFc q h) hFc (fun u9 t9 H1 locs ht hvm hw hB hz1 hk1 hS => ?_)
  obtain ⟨gbk_1, gsk_1, gtk_1, gfk_1, gok_1⟩ := u9
  have hdg : dgo gtk_1 (msgL (kd k) k (R k) Lk) ∧ ∀ j, j < 4 → gfk_1 j = lkw (msgL (kd k) k (R k) Lk) j := hw
  obtain ⟨hP1, hK1, hD1⟩ := hB
  rw [ht] at hP1
  obtain ⟨hP, hD⟩ := va_join (wr := [(a4, .inl (cI, 4, .inl kf)), (b5, .inl (cI, 64, .inl ct)), (a3, .inl (cJ, 16, .inr (.inl lf)))]) (w1 := [(m0, .inr (8, [.int e0, .int (nI N), .int (nI n), .int (nI bc), .long (lN P), .long (lN Q), .long (lN G), .long (lN al), .long (lN pa), .long (lN pb), .int cl, .ref a0, .ref a1, .ref a2, .ref a3, .ref a4, .ref a5, .ref a6, .ref a7, .ref a8, .ref a9, .ref b0, .ref b1, .int (nI gok_1), .ref b2, .ref b3, .ref b4, .ref b5])), (a7, .inl (cI, 256, .inl gbk_1)), (a8, .inl (cI, 64, .inl gsk_1)), (a9, .inl (cI, 8, .inl gtk_1)), (b0, .inl (cI, 8, .inl kS)), (b1, .inl (cI, 64, .inl kR)), (a2, .inl (cJ, 4, .inr (.inl gfk_1))), (a0, .inl (cJ, 1232, .inr (.inl nf))), (a1, .inl (cJ, 616, .inr (.inl cf)))]) hP hD [0, 1, 2, 3, 4, 5, 6, 7, 8] [9, 10, 11] rfl rfl (by decide) (by decide) hk1 hFc hP1 hD1
  have hP := hP.sub (ws' := [(m0, .inr (8, [.int e0, .int (nI N), .int (nI n), .int (nI bc), .long (lN P), .long (lN Q), .long (lN G), .long (lN al), .long (lN pa), .long (lN pb), .int cl, .ref a0, .ref a1, .ref a2, .ref a3, .ref a4, .ref a5, .ref a6, .ref a7, .ref a8, .ref a9, .ref b0, .ref b1, .int (nI gok_1), .ref b2, .ref b3, .ref b4, .ref b5])), (a7, .inl (cI, 256, .inl gbk_1)), (a8, .inl (cI, 64, .inl gsk_1)), (a9, .inl (cI, 8, .inl gtk_1)), (b0, .inl (cI, 8, .inl kS)), (b1, .inl (cI, 64, .inl kR)), (a2, .inl (cJ, 4, .inr (.inl gfk_1))), (a0, .inl (cJ, 1232, .inr (.inl nf))), (a1, .inl (cJ, 616, .inr (.inl cf))), (a4, .inl (cI, 4, .inl kf)), (b5, .inl (cI, 64, .inl ct)), (a3, .inl (cJ, 16, .inr (.inl lf)))]) [3, 4, 5, 6, 7, 8, 9, 10, 11, 0, 1, 2] rfl
  have hD := hD.sub (ws' := [(m0, .inr (8, [.int e0, .int (nI N), .int (nI n), .int (nI bc), .long (lN P), .long (lN Q), .long (lN G), .long (lN al), .long (lN pa), .long (lN pb), .int cl, .ref a0, .ref a1, .ref a2, .ref a3, .ref a4, .ref a5, .ref a6, .ref a7, .ref a8, .ref a9, .ref b0, .ref b1, .int (nI gok_1), .ref b2, .ref b3, .ref b4, .ref b5])), (a7, .inl (cI, 256, .inl gbk_1)), (a8, .inl (cI, 64, .inl gsk_1)), (a9, .inl (cI, 8, .inl gtk_1)), (b0, .inl (cI, 8, .inl kS)), (b1, .inl (cI, 64, .inl kR)), (a2, .inl (cJ, 4, .inr (.inl gfk_1))), (a0, .inl (cJ, 1232, .inr (.inl nf))), (a1, .inl (cJ, 616, .inr (.inl cf))), (a4, .inl (cI, 4, .inl kf)), (b5, .inl (cI, 64, .inl ct)), (a3, .inl (cJ, 16, .inr (.inl lf)))]) [3, 4, 5, 6, 7, 8, 9, 10, 11, 0, 1, 2] (by decide) rfl
  generalize H1 = H at hP hS ⊢
  refine lv_iconst (v := 0) hx hb d_Bm_holds_5 (by decide) ?_
  refine lv_istore_n (lv' := [(2, .int 0), (0, .ref m0), (1, .int (nI k))]) hx hb d_Bm_holds_6 rfl hl (by decide) rfl (fun ls hl => ?_)
  refine lv_iload_n hx hb d_Bm_holds_7 rfl (lv_at hl 0 rfl) ?_
  refine lv_iconst (v := 4) hx hb d_Bm_holds_8 (by decide) ?_
  refine lv_icmp_ge (tgt := 40) hx hb d_Bm_holds_9 (by decide) (fun c_3 => ?_) (fun c_3 => ?_)
  · -- taken
    exact absurd c_3 (by decide)
  · -- not taken
    refine lv_aload_n hx hb d_Bm_holds_12 rfl (lv_at hl 1 rfl) ?_
    refine va_get (D := (dC, dI)) (ci := 8) (v := .ref a2) (C := "BallotBoardModel") (T := F_Bm) (N := 28) hx hb hts (fun w9 h9 => List.mem_cons_of_mem _ (i_Bm w9 h9)) hown hK hP 0 rfl rfl 13 (by decide) (hts _ (List.mem_cons_of_mem _ gk_932)) (fun _ h9 => h9) rfl d_Bm_holds_13 ?_
    refine lv_iload_n hx hb d_Bm_holds_16 rfl (lv_at hl 0 rfl) ?_
    refine va_lald hx hb hK hP 6 0 rfl rfl (vp_lit rfl) d_Bm_holds_17 ?_
    rw [show (gfk_1 (0 : Int32).toNatClampNeg : Int64) = gfk_1 0 from rfl]
    rw [show (gfk_1 0 : Int64) = (lkw (msgL (kd k) k (R k) Lk) 0) from hdg.2 0 (by omega)]
    refine lv_aload_n hx hb d_Bm_holds_18 rfl (lv_at hl 1 rfl) ?_
    refine va_get (D := (dC, dI)) (ci := 8) (v := .ref a1) (C := "BallotBoardModel") (T := F_Bm) (N := 28) hx hb hts (fun w9 h9 => List.mem_cons_of_mem _ (i_Bm w9 h9)) hown hK hP 0 rfl rfl 12 (by decide) (hts _ (List.mem_cons_of_mem _ gk_931)) (fun _ h9 => h9) rfl d_Bm_holds_19 ?_
    refine lv_iconst (v := 4) hx hb d_Bm_holds_22 (by decide) ?_
    refine lv_iload_n hx hb d_Bm_holds_23 rfl (lv_at hl 2 rfl) ?_
    refine lv_imul hx hb d_Bm_holds_24 ?_
    rw [show (4 * (nI k) : Int32) = (nI (4 * k)) from pk_mul 4 k]
    refine lv_iload_n hx hb d_Bm_holds_25 rfl (lv_at hl 0 rfl) ?_
    refine lv_iadd hx hb d_Bm_holds_26 ?_
    rw [show ((nI (4 * k)) + 0 : Int32) = (nI (4 * k + 0)) from nI_add _ 0]
    refine va_lald hx hb hK hP 8 0 rfl rfl (vp_in_nI (by omega) (by omega)) d_Bm_holds_27 ?_
    rw [show (cf (nI (4 * k + 0) : Int32).toNatClampNeg : Int64) = cf (4 * k + 0) from by rw [nI_clamp (by omega)]]
    rw [show (cf (4 * k + 0) : Int64) = (Lk k 0) from hcf k hk 0 (by omega)]
    refine W.lcmp hx hb d_Bm_holds_28 ?_
    refine lv_if_eq (tgt := 34) hx hb d_Bm_holds_29 (by decide) (fun c_4 => ?_) (fun c_4 => ?_)
    · -- taken
      have q0 := (lg_cmp_eq _ _).mp c_4
      obtain ⟨i_5, ei_5⟩ : ∃ y : Int32, y = 0 + 1 := ⟨_, rfl⟩
      refine lv_iinc (v := i_5) (lv' := [(2, .int i_5), (0, .ref m0), (1, .int (nI k))]) hx hb d_Bm_holds_34 hl (k := 0) rfl (by rw [ei_5]; rfl) (by decide) rfl (fun ls hl => ?_)
      obtain rfl : i_5 = 1 := by rw [ei_5]; exact by decide
      refine lv_goto (tgt := 7) hx hb d_Bm_holds_37 (by decide) ?_
      refine lv_iload_n hx hb d_Bm_holds_7 rfl (lv_at hl 0 rfl) ?_
      refine lv_iconst (v := 4) hx hb d_Bm_holds_8 (by decide) ?_
      refine lv_icmp_ge (tgt := 40) hx hb d_Bm_holds_9 (by decide) (fun c_6 => ?_) (fun c_6 => ?_)
      · -- taken
        exact absurd c_6 (by decide)
      · -- not taken
        refine lv_aload_n hx hb d_Bm_holds_12 rfl (lv_at hl 1 rfl) ?_
        refine va_get (D := (dC, dI)) (ci := 8) (v := .ref a2) (C := "BallotBoardModel") (T := F_Bm) (N := 28) hx hb hts (fun w9 h9 => List.mem_cons_of_mem _ (i_Bm w9 h9)) hown hK hP 0 rfl rfl 13 (by decide) (hts _ (List.mem_cons_of_mem _ gk_932)) (fun _ h9 => h9) rfl d_Bm_holds_13 ?_
        refine lv_iload_n hx hb d_Bm_holds_16 rfl (lv_at hl 0 rfl) ?_
        refine va_lald hx hb hK hP 6 0 rfl rfl (vp_lit rfl) d_Bm_holds_17 ?_
        rw [show (gfk_1 (1 : Int32).toNatClampNeg : Int64) = gfk_1 1 from rfl]
        rw [show (gfk_1 1 : Int64) = (lkw (msgL (kd k) k (R k) Lk) 1) from hdg.2 1 (by omega)]
        refine lv_aload_n hx hb d_Bm_holds_18 rfl (lv_at hl 1 rfl) ?_
        refine va_get (D := (dC, dI)) (ci := 8) (v := .ref a1) (C := "BallotBoardModel") (T := F_Bm) (N := 28) hx hb hts (fun w9 h9 => List.mem_cons_of_mem _ (i_Bm w9 h9)) hown hK hP 0 rfl rfl 12 (by decide) (hts _ (List.mem_cons_of_mem _ gk_931)) (fun _ h9 => h9) rfl d_Bm_holds_19 ?_
        refine lv_iconst (v := 4) hx hb d_Bm_holds_22 (by decide) ?_
        refine lv_iload_n hx hb d_Bm_holds_23 rfl (lv_at hl 2 rfl) ?_
        refine lv_imul hx hb d_Bm_holds_24 ?_
        rw [show (4 * (nI k) : Int32) = (nI (4 * k)) from pk_mul 4 k]
        refine lv_iload_n hx hb d_Bm_holds_25 rfl (lv_at hl 0 rfl) ?_
        refine lv_iadd hx hb d_Bm_holds_26 ?_
        rw [show ((nI (4 * k)) + 1 : Int32) = (nI (4 * k + 1)) from nI_add _ 1]
        refine va_lald hx hb hK hP 8 0 rfl rfl (vp_in_nI (by omega) (by omega)) d_Bm_holds_27 ?_
        rw [show (cf (nI (4 * k + 1) : Int32).toNatClampNeg : Int64) = cf (4 * k + 1) from by rw [nI_clamp (by omega)]]
        rw [show (cf (4 * k + 1) : Int64) = (Lk k 1) from hcf k hk 1 (by omega)]
        refine W.lcmp hx hb d_Bm_holds_28 ?_
        refine lv_if_eq (tgt := 34) hx hb d_Bm_holds_29 (by decide) (fun c_7 => ?_) (fun c_7 => ?_)
        · -- taken
          have q1 := (lg_cmp_eq _ _).mp c_7
          obtain ⟨i_8, ei_8⟩ : ∃ y : Int32, y = 1 + 1 := ⟨_, rfl⟩
          refine lv_iinc (v := i_8) (lv' := [(2, .int i_8), (0, .ref m0), (1, .int (nI k))]) hx hb d_Bm_holds_34 hl (k := 0) rfl (by rw [ei_8]; rfl) (by decide) rfl (fun ls hl => ?_)
          obtain rfl : i_8 = 2 := by rw [ei_8]; exact by decide
          refine lv_goto (tgt := 7) hx hb d_Bm_holds_37 (by decide) ?_
          refine lv_iload_n hx hb d_Bm_holds_7 rfl (lv_at hl 0 rfl) ?_
          refine lv_iconst (v := 4) hx hb d_Bm_holds_8 (by decide) ?_
          refine lv_icmp_ge (tgt := 40) hx hb d_Bm_holds_9 (by decide) (fun c_9 => ?_) (fun c_9 => ?_)
          · -- taken
            exact absurd c_9 (by decide)
          · -- not taken
            refine lv_aload_n hx hb d_Bm_holds_12 rfl (lv_at hl 1 rfl) ?_
            refine va_get (D := (dC, dI)) (ci := 8) (v := .ref a2) (C := "BallotBoardModel") (T := F_Bm) (N := 28) hx hb hts (fun w9 h9 => List.mem_cons_of_mem _ (i_Bm w9 h9)) hown hK hP 0 rfl rfl 13 (by decide) (hts _ (List.mem_cons_of_mem _ gk_932)) (fun _ h9 => h9) rfl d_Bm_holds_13 ?_
            refine lv_iload_n hx hb d_Bm_holds_16 rfl (lv_at hl 0 rfl) ?_
            refine va_lald hx hb hK hP 6 0 rfl rfl (vp_lit rfl) d_Bm_holds_17 ?_
            rw [show (gfk_1 (2 : Int32).toNatClampNeg : Int64) = gfk_1 2 from rfl]
            rw [show (gfk_1 2 : Int64) = (lkw (msgL (kd k) k (R k) Lk) 2) from hdg.2 2 (by omega)]
            refine lv_aload_n hx hb d_Bm_holds_18 rfl (lv_at hl 1 rfl) ?_
            refine va_get (D := (dC, dI)) (ci := 8) (v := .ref a1) (C := "BallotBoardModel") (T := F_Bm) (N := 28) hx hb hts (fun w9 h9 => List.mem_cons_of_mem _ (i_Bm w9 h9)) hown hK hP 0 rfl rfl 12 (by decide) (hts _ (List.mem_cons_of_mem _ gk_931)) (fun _ h9 => h9) rfl d_Bm_holds_19 ?_
            refine lv_iconst (v := 4) hx hb d_Bm_holds_22 (by decide) ?_
            refine lv_iload_n hx hb d_Bm_holds_23 rfl (lv_at hl 2 rfl) ?_
            refine lv_imul hx hb d_Bm_holds_24 ?_
            rw [show (4 * (nI k) : Int32) = (nI (4 * k)) from pk_mul 4 k]
            refine lv_iload_n hx hb d_Bm_holds_25 rfl (lv_at hl 0 rfl) ?_
            refine lv_iadd hx hb d_Bm_holds_26 ?_
            rw [show ((nI (4 * k)) + 2 : Int32) = (nI (4 * k + 2)) from nI_add _ 2]
            refine va_lald hx hb hK hP 8 0 rfl rfl (vp_in_nI (by omega) (by omega)) d_Bm_holds_27 ?_
            rw [show (cf (nI (4 * k + 2) : Int32).toNatClampNeg : Int64) = cf (4 * k + 2) from by rw [nI_clamp (by omega)]]
            rw [show (cf (4 * k + 2) : Int64) = (Lk k 2) from hcf k hk 2 (by omega)]
            refine W.lcmp hx hb d_Bm_holds_28 ?_
            refine lv_if_eq (tgt := 34) hx hb d_Bm_holds_29 (by decide) (fun c_10 => ?_) (fun c_10 => ?_)
            · -- taken
              have q2 := (lg_cmp_eq _ _).mp c_10
              obtain ⟨i_11, ei_11⟩ : ∃ y : Int32, y = 2 + 1 := ⟨_, rfl⟩
              refine lv_iinc (v := i_11) (lv' := [(2, .int i_11), (0, .ref m0), (1, .int (nI k))]) hx hb d_Bm_holds_34 hl (k := 0) rfl (by rw [ei_11]; rfl) (by decide) rfl (fun ls hl => ?_)
              obtain rfl : i_11 = 3 := by rw [ei_11]; exact by decide
              refine lv_goto (tgt := 7) hx hb d_Bm_holds_37 (by decide) ?_
              refine lv_iload_n hx hb d_Bm_holds_7 rfl (lv_at hl 0 rfl) ?_
              refine lv_iconst (v := 4) hx hb d_Bm_holds_8 (by decide) ?_
              refine lv_icmp_ge (tgt := 40) hx hb d_Bm_holds_9 (by decide) (fun c_12 => ?_) (fun c_12 => ?_)
              · -- taken
                exact absurd c_12 (by decide)
              · -- not taken
                refine lv_aload_n hx hb d_Bm_holds_12 rfl (lv_at hl 1 rfl) ?_
                refine va_get (D := (dC, dI)) (ci := 8) (v := .ref a2) (C := "BallotBoardModel") (T := F_Bm) (N := 28) hx hb hts (fun w9 h9 => List.mem_cons_of_mem _ (i_Bm w9 h9)) hown hK hP 0 rfl rfl 13 (by decide) (hts _ (List.mem_cons_of_mem _ gk_932)) (fun _ h9 => h9) rfl d_Bm_holds_13 ?_
                refine lv_iload_n hx hb d_Bm_holds_16 rfl (lv_at hl 0 rfl) ?_
                refine va_lald hx hb hK hP 6 0 rfl rfl (vp_lit rfl) d_Bm_holds_17 ?_
                rw [show (gfk_1 (3 : Int32).toNatClampNeg : Int64) = gfk_1 3 from rfl]
                rw [show (gfk_1 3 : Int64) = (lkw (msgL (kd k) k (R k) Lk) 3) from hdg.2 3 (by omega)]
                refine lv_aload_n hx hb d_Bm_holds_18 rfl (lv_at hl 1 rfl) ?_
                refine va_get (D := (dC, dI)) (ci := 8) (v := .ref a1) (C := "BallotBoardModel") (T := F_Bm) (N := 28) hx hb hts (fun w9 h9 => List.mem_cons_of_mem _ (i_Bm w9 h9)) hown hK hP 0 rfl rfl 12 (by decide) (hts _ (List.mem_cons_of_mem _ gk_931)) (fun _ h9 => h9) rfl d_Bm_holds_19 ?_
                refine lv_iconst (v := 4) hx hb d_Bm_holds_22 (by decide) ?_
                refine lv_iload_n hx hb d_Bm_holds_23 rfl (lv_at hl 2 rfl) ?_
                refine lv_imul hx hb d_Bm_holds_24 ?_
                rw [show (4 * (nI k) : Int32) = (nI (4 * k)) from pk_mul 4 k]
                refine lv_iload_n hx hb d_Bm_holds_25 rfl (lv_at hl 0 rfl) ?_
                refine lv_iadd hx hb d_Bm_holds_26 ?_
                rw [show ((nI (4 * k)) + 3 : Int32) = (nI (4 * k + 3)) from nI_add _ 3]
                refine va_lald hx hb hK hP 8 0 rfl rfl (vp_in_nI (by omega) (by omega)) d_Bm_holds_27 ?_
                rw [show (cf (nI (4 * k + 3) : Int32).toNatClampNeg : Int64) = cf (4 * k + 3) from by rw [nI_clamp (by omega)]]
                rw [show (cf (4 * k + 3) : Int64) = (Lk k 3) from hcf k hk 3 (by omega)]
                refine W.lcmp hx hb d_Bm_holds_28 ?_
                refine lv_if_eq (tgt := 34) hx hb d_Bm_holds_29 (by decide) (fun c_13 => ?_) (fun c_13 => ?_)
                · -- taken
                  have q3 := (lg_cmp_eq _ _).mp c_13
                  obtain ⟨i_14, ei_14⟩ : ∃ y : Int32, y = 3 + 1 := ⟨_, rfl⟩
                  refine lv_iinc (v := i_14) (lv' := [(2, .int i_14), (0, .ref m0), (1, .int (nI k))]) hx hb d_Bm_holds_34 hl (k := 0) rfl (by rw [ei_14]; rfl) (by decide) rfl (fun ls hl => ?_)
                  obtain rfl : i_14 = 4 := by rw [ei_14]; exact by decide
                  refine lv_goto (tgt := 7) hx hb d_Bm_holds_37 (by decide) ?_
                  refine lv_iload_n hx hb d_Bm_holds_7 rfl (lv_at hl 0 rfl) ?_
                  refine lv_iconst (v := 4) hx hb d_Bm_holds_8 (by decide) ?_
                  refine lv_icmp_ge (tgt := 40) hx hb d_Bm_holds_9 (by decide) (fun c_15 => ?_) (fun c_15 => ?_)
                  · -- taken
                    have hln : lnk4 (Lk k) (msgL (kd k) k (R k) Lk) := ⟨q0.symm, q1.symm, q2.symm, q3.symm⟩
                    have hwk64 : wh k < 64 := by
                      by_cases e9 : kd k = 2
                      · exact hb64 e9
                      · have := hwN e9
                        omega
                    refine lv_aload_n hx hb d_Bm_holds_40 rfl (lv_at hl 1 rfl) ?_
                    refine lv_iload_n hx hb d_Bm_holds_41 rfl (lv_at hl 2 rfl) ?_
                    refine lv_iconst (v := 1) hx hb d_Bm_holds_42 (by decide) ?_
                    have hPc := hP.sub (ws' := (mo_ws m0 e0 (nI N) (nI n) (nI bc) (lN P) (lN Q) (lN G) (lN al) (lN pa) (lN pb) cl a0 a1 a2 a3 a4 a5 a6 a7 a8 a9 b0 b1 gok_1 b2 b3 b4 b5 ++ (jw_ws a0 cJ 1232 nf))) [0, 7] rfl
                    have hKc := hK.sub (tys' := [(cJ, .long), (cI, .int)]) [0, 1] rfl
                    refine va_calll (va_runV (As := [.int (nI k), .int 1]) (rest := []) ⟨hx, hb, hml, hown, hts⟩ (c_Bm_at l H dC dI cJ cI m0 e0 (nI N) (nI n) (nI bc) (lN P) (lN Q) (lN G) (lN al) (lN pa) (lN pb) cl a0 a1 a2 a3 a4 a5 a6 a7 a8 a9 b0 b1 gok_1 b2 b3 b4 b5 nf k 1 hPc (by omega)) (cwV 2 hts (gw_V gk_1102 gk_1104 gp_42 gk_7 gk_1105) rfl rfl rfl (by decide +kernel) ⟨Nat.le_of_ble_eq_true rfl, Nat.le_of_ble_eq_true rfl⟩) ⟨fun a U g mk q => ⟨q.1, q.2.1, va_K.moved (u := U) (U := U.calling g mk a) (Vm.Alike.refl U.vm) q.2.2⟩, va_recv hK hP (ci := 8) (q0 := 0) rfl rfl, fun U hU hW => ⟨rfl, hU, va_K.moved hW.alike hKc⟩⟩ rfl rfl hl.1 rfl (lv_room (Nat.le_of_ble_eq_true rfl)) d_Bm_holds_43 ⟨Nat.le_of_ble_eq_true rfl, Nat.le_of_ble_eq_true rfl⟩) hS (fun q _ h => h.elim) (fun q h => h.elim) (fun r43 u9 t9 H1 locs ht hvm hw hB hz1 hk1 hS => ?_)
                    obtain rfl : H = H1 := hB.symm.trans ht
                    have hw : r43 = nf (8 * k + 1) := hw
                    subst hw
                    rw [show (nf (8 * k + 1) : Int64) = (lN (wh k)) from (hnf k hk 1 (by omega)).trans hr1]
                    refine lv_l2i (v := (lN (wh k) : Int64).toInt32) hx hb d_Bm_holds_46 rfl ?_
                    rw [show ((lN (wh k) : Int64).toInt32 : Int32) = (nI (wh k)) from lN_toI (by omega)]
                    refine lv_istore_n (lv' := [(2, .int (nI (wh k))), (0, .ref m0), (1, .int (nI k))]) hx hb d_Bm_holds_47 rfl hl (by decide) rfl (fun ls hl => ?_)
                    refine lv_aload_n hx hb d_Bm_holds_48 rfl (lv_at hl 1 rfl) ?_
                    refine lv_iload_n hx hb d_Bm_holds_49 rfl (lv_at hl 2 rfl) ?_
                    refine lv_iconst (v := 0) hx hb d_Bm_holds_50 (by decide) ?_
                    have hPc := hP.sub (ws' := (mo_ws m0 e0 (nI N) (nI n) (nI bc) (lN P) (lN Q) (lN G) (lN al) (lN pa) (lN pb) cl a0 a1 a2 a3 a4 a5 a6 a7 a8 a9 b0 b1 gok_1 b2 b3 b4 b5 ++ (jw_ws a0 cJ 1232 nf))) [0, 7] rfl
                    have hKc := hK.sub (tys' := [(cJ, .long), (cI, .int)]) [0, 1] rfl
                    refine va_calll (va_runV (As := [.int (nI k), .int 0]) (rest := []) ⟨hx, hb, hml, hown, hts⟩ (c_Bm_at l H dC dI cJ cI m0 e0 (nI N) (nI n) (nI bc) (lN P) (lN Q) (lN G) (lN al) (lN pa) (lN pb) cl a0 a1 a2 a3 a4 a5 a6 a7 a8 a9 b0 b1 gok_1 b2 b3 b4 b5 nf k 0 hPc (by omega)) (cwV 2 hts (gw_V gk_1102 gk_1104 gp_42 gk_7 gk_1105) rfl rfl rfl (by decide +kernel) ⟨Nat.le_of_ble_eq_true rfl, Nat.le_of_ble_eq_true rfl⟩) ⟨fun a U g mk q => ⟨q.1, q.2.1, va_K.moved (u := U) (U := U.calling g mk a) (Vm.Alike.refl U.vm) q.2.2⟩, va_recv hK hP (ci := 8) (q0 := 0) rfl rfl, fun U hU hW => ⟨rfl, hU, va_K.moved hW.alike hKc⟩⟩ rfl rfl hl.1 rfl (lv_room (Nat.le_of_ble_eq_true rfl)) d_Bm_holds_51 ⟨Nat.le_of_ble_eq_true rfl, Nat.le_of_ble_eq_true rfl⟩) hS (fun q _ h => h.elim) (fun q h => h.elim) (fun r51 u9 t9 H1 locs ht hvm hw hB hz1 hk1 hS => ?_)
                    obtain rfl : H = H1 := hB.symm.trans ht
                    have hw : r51 = nf (8 * k + 0) := hw
                    subst hw
                    rw [show (nf (8 * k + 0) : Int64) = (lN 3) from (hnf k hk 0 (by omega)).trans (by rw [hr0, hkK])]
                    refine lv_lconst (v := 1) hx hb d_Bm_holds_54 (by decide) ?_
                    refine W.lcmp hx hb d_Bm_holds_55 ?_
                    refine lv_if_ne (tgt := 83) hx hb d_Bm_holds_56 (by decide) (fun c_16 => ?_) (fun c_16 => ?_)
                    · -- taken
                      refine lv_aload_n hx hb d_Bm_holds_83 rfl (lv_at hl 1 rfl) ?_
                      refine lv_iload_n hx hb d_Bm_holds_84 rfl (lv_at hl 2 rfl) ?_
                      refine lv_iconst (v := 0) hx hb d_Bm_holds_85 (by decide) ?_
                      have hPc := hP.sub (ws' := (mo_ws m0 e0 (nI N) (nI n) (nI bc) (lN P) (lN Q) (lN G) (lN al) (lN pa) (lN pb) cl a0 a1 a2 a3 a4 a5 a6 a7 a8 a9 b0 b1 gok_1 b2 b3 b4 b5 ++ (jw_ws a0 cJ 1232 nf))) [0, 7] rfl
                      have hKc := hK.sub (tys' := [(cJ, .long), (cI, .int)]) [0, 1] rfl
                      refine va_calll (va_runV (As := [.int (nI k), .int 0]) (rest := []) ⟨hx, hb, hml, hown, hts⟩ (c_Bm_at l H dC dI cJ cI m0 e0 (nI N) (nI n) (nI bc) (lN P) (lN Q) (lN G) (lN al) (lN pa) (lN pb) cl a0 a1 a2 a3 a4 a5 a6 a7 a8 a9 b0 b1 gok_1 b2 b3 b4 b5 nf k 0 hPc (by omega)) (cwV 2 hts (gw_V gk_1102 gk_1104 gp_42 gk_7 gk_1105) rfl rfl rfl (by decide +kernel) ⟨Nat.le_of_ble_eq_true rfl, Nat.le_of_ble_eq_true rfl⟩) ⟨fun a U g mk q => ⟨q.1, q.2.1, va_K.moved (u := U) (U := U.calling g mk a) (Vm.Alike.refl U.vm) q.2.2⟩, va_recv hK hP (ci := 8) (q0 := 0) rfl rfl, fun U hU hW => ⟨rfl, hU, va_K.moved hW.alike hKc⟩⟩ rfl rfl hl.1 rfl (lv_room (Nat.le_of_ble_eq_true rfl)) d_Bm_holds_86 ⟨Nat.le_of_ble_eq_true rfl, Nat.le_of_ble_eq_true rfl⟩) hS (fun q _ h => h.elim) (fun q h => h.elim) (fun r86 u9 t9 H1 locs ht hvm hw hB hz1 hk1 hS => ?_)
                      obtain rfl : H = H1 := hB.symm.trans ht
                      have hw : r86 = nf (8 * k + 0) := hw
                      subst hw
                      rw [show (nf (8 * k + 0) : Int64) = (lN 3) from (hnf k hk 0 (by omega)).trans (by rw [hr0, hkK])]
                      refine lv_ldc2 (v := 2) hx hb hown (hts _ (List.mem_cons_of_mem _ gk_1017)) d_Bm_holds_89 ?_
                      refine W.lcmp hx hb d_Bm_holds_92 ?_
                      refine lv_if_ne (tgt := 186) hx hb d_Bm_holds_93 (by decide) (fun c_17 => ?_) (fun c_17 => ?_)
                      · -- taken
                        refine lv_lconst (v := 1) hx hb d_Bm_holds_186 (by decide) ?_
                        rw [show (1 : Int64) = (lN 1) from rfl]
                        refine lv_lstore_n (lv' := [(3, .long (lN 1)), (2, .int (nI (wh k))), (0, .ref m0), (1, .int (nI k))]) hx hb d_Bm_holds_187 rfl hl (by decide) rfl (fun ls hl => ?_)
                        refine lv_iconst (v := 0) hx hb d_Bm_holds_188 (by decide) ?_
                        refine lv_istore (lv' := [(5, .int 0), (3, .long (lN 1)), (2, .int (nI (wh k))), (0, .ref m0), (1, .int (nI k))]) hx hb d_Bm_holds_189 hl (by decide) rfl (fun ls hl => ?_)
                        have loop9 : ∀ (j i : Nat), i + j = 64 → ∀ (H : Heap) (locs : List Loc), va_S A s.heap H locs → va_P (dC, dI) classes [(m0, .inr (8, [.int e0, .int (nI N), .int (nI n), .int (nI bc), .long (lN P), .long (lN Q), .long (lN G), .long (lN al), .long (lN pa), .long (lN pb), .int cl, .ref a0, .ref a1, .ref a2, .ref a3, .ref a4, .ref a5, .ref a6, .ref a7, .ref a8, .ref a9, .ref b0, .ref b1, .int (nI gok_1), .ref b2, .ref b3, .ref b4, .ref b5])), (a7, .inl (cI, 256, .inl gbk_1)), (a8, .inl (cI, 64, .inl gsk_1)), (a9, .inl (cI, 8, .inl gtk_1)), (b0, .inl (cI, 8, .inl kS)), (b1, .inl (cI, 64, .inl kR)), (a2, .inl (cJ, 4, .inr (.inl gfk_1))), (a0, .inl (cJ, 1232, .inr (.inl nf))), (a1, .inl (cJ, 616, .inr (.inl cf))), (a4, .inl (cI, 4, .inl kf)), (b5, .inl (cI, 64, .inl ct)), (a3, .inl (cJ, 16, .inr (.inl lf)))] H → va_D A [(m0, .inr (8, [.int e0, .int (nI N), .int (nI n), .int (nI bc), .long (lN P), .long (lN Q), .long (lN G), .long (lN al), .long (lN pa), .long (lN pb), .int cl, .ref a0, .ref a1, .ref a2, .ref a3, .ref a4, .ref a5, .ref a6, .ref a7, .ref a8, .ref a9, .ref b0, .ref b1, .int (nI gok_1), .ref b2, .ref b3, .ref b4, .ref b5])), (a7, .inl (cI, 256, .inl gbk_1)), (a8, .inl (cI, 64, .inl gsk_1)), (a9, .inl (cI, 8, .inl gtk_1)), (b0, .inl (cI, 8, .inl kS)), (b1, .inl (cI, 64, .inl kR)), (a2, .inl (cJ, 4, .inr (.inl gfk_1))), (a0, .inl (cJ, 1232, .inr (.inl nf))), (a1, .inl (cJ, 616, .inr (.inl cf))), (a4, .inl (cI, 4, .inl kf)), (b5, .inl (cI, 64, .inl ct)), (a3, .inl (cJ, 16, .inr (.inl lf)))] → ∀ (ls : Array Slot), lv_has ls 6 [(0, .ref m0), (1, .int (nI k)), (2, .int (nI (wh k))), (3, .long (lN (prd P (t_ao TA) (t_ao TA) i))), (5, .int (nI i))] → W p l e ({ frames := 7, cells := 0, slots := 0, locals := 236 } : Room) s m ([.ref m0, .int (nI k)] : List Value).toArray below meth c H locs 0 0 (MQ below (va_Qi (fun (r : Int32) (u9 : DU × (Nat → Int64) × (Nat → Int32)) => bz r (hds P Q G N T0 kd wh R Lk k) ∧ (hds P Q G N T0 kd wh R Lk k → CR (k + 1) (aud P N T0 kd wh R (k + 1)) R u9.2.2)) (fun u9 t => va_P (dC, dI) classes (mo_ws m0 e0 (nI N) (nI n) (nI bc) (lN P) (lN Q) (lN G) (lN al) (lN pa) (lN pb) cl a0 a1 a2 a3 a4 a5 a6 a7 a8 a9 b0 b1 u9.1.2.2.2.2 b2 b3 b4 b5 ++ (iw_ws a7 cI 256 u9.1.1 ++ (iw_ws a8 cI 64 u9.1.2.1 ++ (iw_ws a9 cI 8 u9.1.2.2.1 ++ (iw_ws b0 cI 8 kS ++ (iw_ws b1 cI 64 kR ++ (jw_ws a2 cJ 4 u9.1.2.2.2.1 ++ (jw_ws a0 cJ 1232 nf ++ (jw_ws a1 cJ 616 cf ++ (iw_ws a4 cI 4 kf ++ (iw_ws b5 cI 64 u9.2.2 ++ (jw_ws a3 cJ 16 u9.2.1)))))))))))) t.heap ∧ va_K (dC, dI) classes [(cJ, .long), (cI, .int)] t ∧ va_D A (mo_ws m0 e0 (nI N) (nI n) (nI bc) (lN P) (lN Q) (lN G) (lN al) (lN pa) (lN pb) cl a0 a1 a2 a3 a4 a5 a6 a7 a8 a9 b0 b1 u9.1.2.2.2.2 b2 b3 b4 b5 ++ (iw_ws a7 cI 256 u9.1.1 ++ (iw_ws a8 cI 64 u9.1.2.1 ++ (iw_ws a9 cI 8 u9.1.2.2.1 ++ (iw_ws b0 cI 8 kS ++ (iw_ws b1 cI 64 kR ++ (jw_ws a2 cJ 4 u9.1.2.2.2.1 ++ (jw_ws a0 cJ 1232 nf ++ (jw_ws a1 cJ 616 cf ++ (iw_ws a4 cI 4 kf ++ (iw_ws b5 cI 64 u9.2.2 ++ (jw_ws a3 cJ 16 u9.2.1))))))))))))) A) ([.ref m0, .int (nI k)] : List Value).toArray s 0 0 A) (F0 m 191 ls []) := by
                          intro j
                          induction j using Nat.strongRecOn with
                          | ind j ih =>
                            intro i hij H locs hS hP hD ls hl
                            refine lv_iload hx hb d_Bm_holds_191 (lv_at hl 4 rfl) ?_
                            refine lv_bipush (v := 64) hx hb d_Bm_holds_193 (by decide) ?_
                            refine lv_icmp_ge (tgt := 232) hx hb d_Bm_holds_195 (by decide) (fun c_18 => ?_) (fun c_18 => ?_)
                            · -- taken
                              have hi9 : i = 64 := by
                                have := (ige 64 (by omega) (by omega) rfl).mp c_18
                                omega
                              rw [hi9] at hl
                              obtain ⟨e, he, hke, hwe⟩ := hE.2.2 k hk (by omega) (wh k) (hwN (by omega))
                              have hkfe : kf (wh k) = nI e := by rw [← hwe]; exact hkf e (by omega) hke
                              obtain ⟨y1, y2, y3, y4⟩ := hAI.2.2.1 e he hke
                              rw [hwe] at y1 y2 y3 y4
                              have hwe5 := wdt_ge2 (kd e)
                              refine lv_aload_n hx hb d_Bm_holds_232 rfl (lv_at hl 0 rfl) ?_
                              refine lv_iload_n hx hb d_Bm_holds_233 rfl (lv_at hl 2 rfl) ?_
                              refine lv_aload_n hx hb d_Bm_holds_234 rfl (lv_at hl 0 rfl) ?_
                              refine lv_iload_n hx hb d_Bm_holds_235 rfl (lv_at hl 1 rfl) ?_
                              refine lv_iconst (v := 2) hx hb d_Bm_holds_236 (by decide) ?_
                              have hPc := hP.sub (ws' := (mo_ws m0 e0 (nI N) (nI n) (nI bc) (lN P) (lN Q) (lN G) (lN al) (lN pa) (lN pb) cl a0 a1 a2 a3 a4 a5 a6 a7 a8 a9 b0 b1 gok_1 b2 b3 b4 b5 ++ (jw_ws a0 cJ 1232 nf))) [0, 7] rfl
                              have hKc := hK.sub (tys' := [(cJ, .long), (cI, .int)]) [0, 1] rfl
                              refine va_calll (va_runV (As := [.int (nI k), .int 2]) (rest := [.int (nI (wh k)), .ref m0]) ⟨hx, hb, hml, hown, hts⟩ (c_Bm_at l H dC dI cJ cI m0 e0 (nI N) (nI n) (nI bc) (lN P) (lN Q) (lN G) (lN al) (lN pa) (lN pb) cl a0 a1 a2 a3 a4 a5 a6 a7 a8 a9 b0 b1 gok_1 b2 b3 b4 b5 nf k 2 hPc (by omega)) (cwV 2 hts (gw_V gk_1102 gk_1104 gp_42 gk_7 gk_1105) rfl rfl rfl (by decide +kernel) ⟨Nat.le_of_ble_eq_true rfl, Nat.le_of_ble_eq_true rfl⟩) ⟨fun a U g mk q => ⟨q.1, q.2.1, va_K.moved (u := U) (U := U.calling g mk a) (Vm.Alike.refl U.vm) q.2.2⟩, va_recv hK hP (ci := 8) (q0 := 0) rfl rfl, fun U hU hW => ⟨rfl, hU, va_K.moved hW.alike hKc⟩⟩ rfl rfl hl.1 rfl (lv_room (Nat.le_of_ble_eq_true rfl)) d_Bm_holds_237 ⟨Nat.le_of_ble_eq_true rfl, Nat.le_of_ble_eq_true rfl⟩) hS (fun q _ h => h.elim) (fun q h => h.elim) (fun r237 u9 t9 H1 locs ht hvm hw hB hz1 hk1 hS => ?_)
                              obtain rfl : H = H1 := hB.symm.trans ht
                              have hw : r237 = nf (8 * k + 2) := hw
                              subst hw
                              rw [show (nf (8 * k + 2) : Int64) = (R k 2) from hnf k hk 2 (by omega)]
                              refine lv_aload_n hx hb d_Bm_holds_240 rfl (lv_at hl 0 rfl) ?_
                              refine lv_iload_n hx hb d_Bm_holds_241 rfl (lv_at hl 1 rfl) ?_
                              refine lv_iconst (v := 3) hx hb d_Bm_holds_242 (by decide) ?_
                              have hPc := hP.sub (ws' := (mo_ws m0 e0 (nI N) (nI n) (nI bc) (lN P) (lN Q) (lN G) (lN al) (lN pa) (lN pb) cl a0 a1 a2 a3 a4 a5 a6 a7 a8 a9 b0 b1 gok_1 b2 b3 b4 b5 ++ (jw_ws a0 cJ 1232 nf))) [0, 7] rfl
                              have hKc := hK.sub (tys' := [(cJ, .long), (cI, .int)]) [0, 1] rfl
                              refine va_calll (va_runV (As := [.int (nI k), .int 3]) (rest := [.long (R k 2), .int (nI (wh k)), .ref m0]) ⟨hx, hb, hml, hown, hts⟩ (c_Bm_at l H dC dI cJ cI m0 e0 (nI N) (nI n) (nI bc) (lN P) (lN Q) (lN G) (lN al) (lN pa) (lN pb) cl a0 a1 a2 a3 a4 a5 a6 a7 a8 a9 b0 b1 gok_1 b2 b3 b4 b5 nf k 3 hPc (by omega)) (cwV 2 hts (gw_V gk_1102 gk_1104 gp_42 gk_7 gk_1105) rfl rfl rfl (by decide +kernel) ⟨Nat.le_of_ble_eq_true rfl, Nat.le_of_ble_eq_true rfl⟩) ⟨fun a U g mk q => ⟨q.1, q.2.1, va_K.moved (u := U) (U := U.calling g mk a) (Vm.Alike.refl U.vm) q.2.2⟩, va_recv hK hP (ci := 8) (q0 := 0) rfl rfl, fun U hU hW => ⟨rfl, hU, va_K.moved hW.alike hKc⟩⟩ rfl rfl hl.1 rfl (lv_room (Nat.le_of_ble_eq_true rfl)) d_Bm_holds_243 ⟨Nat.le_of_ble_eq_true rfl, Nat.le_of_ble_eq_true rfl⟩) hS (fun q _ h => h.elim) (fun q h => h.elim) (fun r243 u9 t9 H1 locs ht hvm hw hB hz1 hk1 hS => ?_)
                              obtain rfl : H = H1 := hB.symm.trans ht
                              have hw : r243 = nf (8 * k + 3) := hw
                              subst hw
                              rw [show (nf (8 * k + 3) : Int64) = (R k 3) from hnf k hk 3 (by omega)]
                              refine lv_aload_n hx hb d_Bm_holds_246 rfl (lv_at hl 0 rfl) ?_
                              refine lv_iload_n hx hb d_Bm_holds_247 rfl (lv_at hl 1 rfl) ?_
                              refine lv_iconst (v := 4) hx hb d_Bm_holds_248 (by decide) ?_
                              have hPc := hP.sub (ws' := (mo_ws m0 e0 (nI N) (nI n) (nI bc) (lN P) (lN Q) (lN G) (lN al) (lN pa) (lN pb) cl a0 a1 a2 a3 a4 a5 a6 a7 a8 a9 b0 b1 gok_1 b2 b3 b4 b5 ++ (jw_ws a0 cJ 1232 nf))) [0, 7] rfl
                              have hKc := hK.sub (tys' := [(cJ, .long), (cI, .int)]) [0, 1] rfl
                              refine va_calll (va_runV (As := [.int (nI k), .int 4]) (rest := [.long (R k 3), .long (R k 2), .int (nI (wh k)), .ref m0]) ⟨hx, hb, hml, hown, hts⟩ (c_Bm_at l H dC dI cJ cI m0 e0 (nI N) (nI n) (nI bc) (lN P) (lN Q) (lN G) (lN al) (lN pa) (lN pb) cl a0 a1 a2 a3 a4 a5 a6 a7 a8 a9 b0 b1 gok_1 b2 b3 b4 b5 nf k 4 hPc (by omega)) (cwV 2 hts (gw_V gk_1102 gk_1104 gp_42 gk_7 gk_1105) rfl rfl rfl (by decide +kernel) ⟨Nat.le_of_ble_eq_true rfl, Nat.le_of_ble_eq_true rfl⟩) ⟨fun a U g mk q => ⟨q.1, q.2.1, va_K.moved (u := U) (U := U.calling g mk a) (Vm.Alike.refl U.vm) q.2.2⟩, va_recv hK hP (ci := 8) (q0 := 0) rfl rfl, fun U hU hW => ⟨rfl, hU, va_K.moved hW.alike hKc⟩⟩ rfl rfl hl.1 rfl (lv_room (Nat.le_of_ble_eq_true rfl)) d_Bm_holds_249 ⟨Nat.le_of_ble_eq_true rfl, Nat.le_of_ble_eq_true rfl⟩) hS (fun q _ h => h.elim) (fun q h => h.elim) (fun r249 u9 t9 H1 locs ht hvm hw hB hz1 hk1 hS => ?_)
                              obtain rfl : H = H1 := hB.symm.trans ht
                              have hw : r249 = nf (8 * k + 4) := hw
                              subst hw
                              rw [show (nf (8 * k + 4) : Int64) = (R k 4) from hnf k hk 4 (by omega)]
                              refine lv_aload_n hx hb d_Bm_holds_252 rfl (lv_at hl 0 rfl) ?_
                              refine lv_aload_n hx hb d_Bm_holds_253 rfl (lv_at hl 0 rfl) ?_
                              refine va_get (D := (dC, dI)) (ci := 8) (v := .ref a4) (C := "BallotBoardModel") (T := F_Bm) (N := 28) hx hb hts (fun w9 h9 => List.mem_cons_of_mem _ (i_Bm w9 h9)) hown hK hP 0 rfl rfl 15 (by decide) (hts _ (List.mem_cons_of_mem _ gk_934)) (fun _ h9 => h9) rfl d_Bm_holds_254 ?_
                              refine lv_iload_n hx hb d_Bm_holds_257 rfl (lv_at hl 2 rfl) ?_
                              refine va_iald hx hb hK hP 9 1 rfl rfl (vp_in_nI (by omega) (by omega)) d_Bm_holds_258 ?_
                              rw [show (kf (nI (wh k) : Int32).toNatClampNeg : Int32) = kf (wh k) from by rw [nI_clamp (by omega)]]
                              rw [show (kf (wh k) : Int32) = (nI e) from hkfe]
                              refine lv_iconst (v := 2) hx hb d_Bm_holds_259 (by decide) ?_
                              have hPc := hP.sub (ws' := (mo_ws m0 e0 (nI N) (nI n) (nI bc) (lN P) (lN Q) (lN G) (lN al) (lN pa) (lN pb) cl a0 a1 a2 a3 a4 a5 a6 a7 a8 a9 b0 b1 gok_1 b2 b3 b4 b5 ++ (jw_ws a0 cJ 1232 nf))) [0, 7] rfl
                              have hKc := hK.sub (tys' := [(cJ, .long), (cI, .int)]) [0, 1] rfl
                              refine va_calll (va_runV (As := [.int (nI e), .int 2]) (rest := [.long (R k 4), .long (R k 3), .long (R k 2), .int (nI (wh k)), .ref m0]) ⟨hx, hb, hml, hown, hts⟩ (c_Bm_at l H dC dI cJ cI m0 e0 (nI N) (nI n) (nI bc) (lN P) (lN Q) (lN G) (lN al) (lN pa) (lN pb) cl a0 a1 a2 a3 a4 a5 a6 a7 a8 a9 b0 b1 gok_1 b2 b3 b4 b5 nf e 2 hPc (by omega)) (cwV 2 hts (gw_V gk_1102 gk_1104 gp_42 gk_7 gk_1105) rfl rfl rfl (by decide +kernel) ⟨Nat.le_of_ble_eq_true rfl, Nat.le_of_ble_eq_true rfl⟩) ⟨fun a U g mk q => ⟨q.1, q.2.1, va_K.moved (u := U) (U := U.calling g mk a) (Vm.Alike.refl U.vm) q.2.2⟩, va_recv hK hP (ci := 8) (q0 := 0) rfl rfl, fun U hU hW => ⟨rfl, hU, va_K.moved hW.alike hKc⟩⟩ rfl rfl hl.1 rfl (lv_room (Nat.le_of_ble_eq_true rfl)) d_Bm_holds_260 ⟨Nat.le_of_ble_eq_true rfl, Nat.le_of_ble_eq_true rfl⟩) hS (fun q _ h => h.elim) (fun q h => h.elim) (fun r260 u9 t9 H1 locs ht hvm hw hB hz1 hk1 hS => ?_)
                              obtain rfl : H = H1 := hB.symm.trans ht
                              have hw : r260 = nf (8 * e + 2) := hw
                              subst hw
                              rw [show (nf (8 * e + 2) : Int64) = (lN (t_ko TA (wh k))) from (hnf e (by omega) 2 (by omega)).trans y1]
                              refine lv_lload_n hx hb d_Bm_holds_263 rfl (lv_at hl 3 rfl) ?_
                              have hPc := hP.sub (ws' := (mo_ws m0 e0 (nI N) (nI n) (nI bc) (lN P) (lN Q) (lN G) (lN al) (lN pa) (lN pb) cl a0 a1 a2 a3 a4 a5 a6 a7 a8 a9 b0 b1 gok_1 b2 b3 b4 b5 ++ (iw_ws a7 cI 256 gbk_1 ++ (iw_ws a8 cI 64 gsk_1 ++ (iw_ws a9 cI 8 gtk_1 ++ (iw_ws b0 cI 8 kS ++ (iw_ws b1 cI 64 kR ++ (jw_ws a2 cJ 4 gfk_1 ++ (jw_ws a3 cJ 16 lf))))))))) [0, 1, 2, 3, 4, 5, 6, 11] rfl
                              have hDc := hD.sub (ws' := (mo_ws m0 e0 (nI N) (nI n) (nI bc) (lN P) (lN Q) (lN G) (lN al) (lN pa) (lN pb) cl a0 a1 a2 a3 a4 a5 a6 a7 a8 a9 b0 b1 gok_1 b2 b3 b4 b5 ++ (iw_ws a7 cI 256 gbk_1 ++ (iw_ws a8 cI 64 gsk_1 ++ (iw_ws a9 cI 8 gtk_1 ++ (iw_ws b0 cI 8 kS ++ (iw_ws b1 cI 64 kR ++ (jw_ws a2 cJ 4 gfk_1 ++ (jw_ws a3 cJ 16 lf))))))))) [0, 1, 2, 3, 4, 5, 6, 11] (by decide) rfl
                              have hKc := hK.sub (tys' := [(cJ, .long), (cI, .int)]) [0, 1] rfl
                              have hFc := va_free (wc := (mo_ws m0 e0 (nI N) (nI n) (nI bc) (lN P) (lN Q) (lN G) (lN al) (lN pa) (lN pb) cl a0 a1 a2 a3 a4 a5 a6 a7 a8 a9 b0 b1 gok_1 b2 b3 b4 b5 ++ (iw_ws a7 cI 256 gbk_1 ++ (iw_ws a8 cI 64 gsk_1 ++ (iw_ws a9 cI 8 gtk_1 ++ (iw_ws b0 cI 8 kS ++ (iw_ws b1 cI 64 kR ++ (jw_ws a2 cJ 4 gfk_1 ++ (jw_ws a3 cJ 16 lf))))))))) hD hS hA [0, 1, 2, 3, 4, 5, 6, 11] rfl
                              refine va_calli (va_runV (As := [.int (nI (wh k)), .long (R k 2), .long (R k 3), .long (R k 4), .long (lN (t_ko TA (wh k))), .long (lN (prd P (t_ao TA) (t_ao TA) 64))]) (rest := []) ⟨hx, hb, hml, hown, hts⟩ (c_Bm_shareHolds l dC dI cJ cI H.size m0 e0 (nI N) (nI n) (nI bc) (lN al) (lN pa) (lN pb) cl a0 a1 a2 a3 a4 a5 a6 a7 a8 a9 b0 b1 gok_1 b2 b3 b4 b5 P Q G gbk_1 gsk_1 gtk_1 gfk_1 lf (wh k) (t_ko TA (wh k)) (prd P (t_ao TA) (t_ao TA) 64) (R k 2) (R k 3) (R k 4) hPQ h61F hQ3 hG2 hGP hGQ (by omega) y3 y4 (prd_lt hPone _ _ _)) (cwV 6 hts (gw_V gk_1153 gk_1155 gp_49 gk_7 gk_1156) rfl rfl rfl (by decide +kernel) ⟨Nat.le_of_ble_eq_true rfl, Nat.le_of_ble_eq_true rfl⟩) ⟨fun a U g mk q => by obtain ⟨q0, q1, qP, qK, qD⟩ := q; exact ⟨q0, q1, qP, va_K.moved (u := U) (U := U.calling g mk a) (Vm.Alike.refl U.vm) qK, qD⟩, va_recv hK hP (ci := 8) (q0 := 0) rfl rfl, fun U hU hW => ⟨rfl, by rw [hU], by rw [hU]; exact hPc, va_K.moved hW.alike hKc, hDc.weaken (fun _ _ _ _ => trivial)⟩⟩ rfl rfl hl.1 rfl (lv_room (Nat.le_of_ble_eq_true rfl)) d_Bm_holds_264 ⟨Nat.le_of_ble_eq_true rfl, Nat.le_of_ble_eq_true rfl⟩) hS (fun q _ h => hFc q h) hFc (fun r_20 u9 t9 H1 locs ht hvm hw hB hz1 hk1 hS => ?_)
                              obtain ⟨⟨gbk_19, gsk_19, gtk_19, gfk_19, gok_19⟩, glk_19⟩ := u9
                              have hr_20 := hw
                              obtain ⟨hP1, hK1, hD1⟩ := hB
                              rw [ht] at hP1
                              obtain ⟨hP, hD⟩ := va_join (wr := [(a0, .inl (cJ, 1232, .inr (.inl nf))), (a1, .inl (cJ, 616, .inr (.inl cf))), (a4, .inl (cI, 4, .inl kf)), (b5, .inl (cI, 64, .inl ct))]) (w1 := [(m0, .inr (8, [.int e0, .int (nI N), .int (nI n), .int (nI bc), .long (lN P), .long (lN Q), .long (lN G), .long (lN al), .long (lN pa), .long (lN pb), .int cl, .ref a0, .ref a1, .ref a2, .ref a3, .ref a4, .ref a5, .ref a6, .ref a7, .ref a8, .ref a9, .ref b0, .ref b1, .int (nI gok_19), .ref b2, .ref b3, .ref b4, .ref b5])), (a7, .inl (cI, 256, .inl gbk_19)), (a8, .inl (cI, 64, .inl gsk_19)), (a9, .inl (cI, 8, .inl gtk_19)), (b0, .inl (cI, 8, .inl kS)), (b1, .inl (cI, 64, .inl kR)), (a2, .inl (cJ, 4, .inr (.inl gfk_19))), (a3, .inl (cJ, 16, .inr (.inl glk_19)))]) hP hD [0, 1, 2, 3, 4, 5, 6, 11] [7, 8, 9, 10] rfl rfl (by decide) (by decide) hk1 hFc hP1 hD1
                              have hP := hP.sub (ws' := [(m0, .inr (8, [.int e0, .int (nI N), .int (nI n), .int (nI bc), .long (lN P), .long (lN Q), .long (lN G), .long (lN al), .long (lN pa), .long (lN pb), .int cl, .ref a0, .ref a1, .ref a2, .ref a3, .ref a4, .ref a5, .ref a6, .ref a7, .ref a8, .ref a9, .ref b0, .ref b1, .int (nI gok_19), .ref b2, .ref b3, .ref b4, .ref b5])), (a7, .inl (cI, 256, .inl gbk_19)), (a8, .inl (cI, 64, .inl gsk_19)), (a9, .inl (cI, 8, .inl gtk_19)), (b0, .inl (cI, 8, .inl kS)), (b1, .inl (cI, 64, .inl kR)), (a2, .inl (cJ, 4, .inr (.inl gfk_19))), (a0, .inl (cJ, 1232, .inr (.inl nf))), (a1, .inl (cJ, 616, .inr (.inl cf))), (a4, .inl (cI, 4, .inl kf)), (b5, .inl (cI, 64, .inl ct)), (a3, .inl (cJ, 16, .inr (.inl glk_19)))]) [4, 5, 6, 7, 8, 9, 10, 0, 1, 2, 3, 11] rfl
                              have hD := hD.sub (ws' := [(m0, .inr (8, [.int e0, .int (nI N), .int (nI n), .int (nI bc), .long (lN P), .long (lN Q), .long (lN G), .long (lN al), .long (lN pa), .long (lN pb), .int cl, .ref a0, .ref a1, .ref a2, .ref a3, .ref a4, .ref a5, .ref a6, .ref a7, .ref a8, .ref a9, .ref b0, .ref b1, .int (nI gok_19), .ref b2, .ref b3, .ref b4, .ref b5])), (a7, .inl (cI, 256, .inl gbk_19)), (a8, .inl (cI, 64, .inl gsk_19)), (a9, .inl (cI, 8, .inl gtk_19)), (b0, .inl (cI, 8, .inl kS)), (b1, .inl (cI, 64, .inl kR)), (a2, .inl (cJ, 4, .inr (.inl gfk_19))), (a0, .inl (cJ, 1232, .inr (.inl nf))), (a1, .inl (cJ, 616, .inr (.inl cf))), (a4, .inl (cI, 4, .inl kf)), (b5, .inl (cI, 64, .inl ct)), (a3, .inl (cJ, 16, .inr (.inl glk_19)))]) [4, 5, 6, 7, 8, 9, 10, 0, 1, 2, 3, 11] (by decide) rfl
                              generalize H1 = H at hP hS ⊢
                              rw [tOpn_pa (fun h => (hAI.2.2.2.2.2 h).1)] at hhk
                              exact W.zret (v := r_20) hx hb hr (by rcases hr_20 with ⟨h, _⟩ | ⟨h, _⟩ <;> rw [h] <;> decide) (fun t ht9 hW => ⟨⟨_, ((gbk_19, gsk_19, gtk_19, gfk_19, gok_19), glk_19, ct), rfl, ⟨bz_iff hr_20 ⟨fun h => hhk.mpr ⟨hln, h⟩, fun h => (hhk.mp h).2⟩, fun h => by
                                have h9 := hCS h
                                rw [if_neg (show ¬ kd k = 2 by omega)] at h9
                                exact h9⟩, by rw [ht9]; exact hP, va_K.moved hW.alike hK, hD⟩, hS.F ht9⟩) hS.2.2 d_Bm_holds_267
                            · -- not taken
                              have hi9 : i < 64 := by
                                have : ¬ 64 ≤ i := fun h => c_18 ((ige 64 (by omega) (by omega) rfl).mpr h)
                                omega
                              refine lv_aload_n hx hb d_Bm_holds_198 rfl (lv_at hl 0 rfl) ?_
                              refine va_get (D := (dC, dI)) (ci := 8) (v := .ref b5) (C := "BallotBoardModel") (T := F_Bm) (N := 28) hx hb hts (fun w9 h9 => List.mem_cons_of_mem _ (i_Bm w9 h9)) hown hK hP 0 rfl rfl 27 (by decide) (hts _ (List.mem_cons_of_mem _ gk_946)) (fun _ h9 => h9) rfl d_Bm_holds_199 ?_
                              refine lv_iload hx hb d_Bm_holds_202 (lv_at hl 4 rfl) ?_
                              refine va_iald hx hb hK hP 10 1 rfl rfl (vp_in_nI (by omega) (by omega)) d_Bm_holds_204 ?_
                              rw [show (ct (nI i : Int32).toNatClampNeg : Int32) = ct i from by rw [nI_clamp (by omega)]]
                              refine lv_if_lt (tgt := 226) hx hb d_Bm_holds_205 (by decide) (fun c_21 => ?_) (fun c_21 => ?_)
                              · -- taken
                                have hz9 : t_ao TA i = 0 := by
                                  rcases hCR i hi9 with ⟨h, _⟩ | ⟨h, e, he, h2, _⟩
                                  · exact h
                                  · exfalso
                                    rw [h2] at c_21
                                    exact nI_pos (by omega) c_21
                                rw [show prd P (t_ao TA) (t_ao TA) i = prd P (t_ao TA) (t_ao TA) (i + 1) from (if_pos hz9).symm] at hl
                                obtain ⟨i_22, ei_22⟩ : ∃ y : Int32, y = (nI i) + 1 := ⟨_, rfl⟩
                                refine lv_iinc (v := i_22) (lv' := [(5, .int i_22), (0, .ref m0), (1, .int (nI k)), (2, .int (nI (wh k))), (3, .long (lN (prd P (t_ao TA) (t_ao TA) (i + 1))))]) hx hb d_Bm_holds_226 hl (k := 4) rfl (by rw [ei_22]; rfl) (by decide) rfl (fun ls hl => ?_)
                                obtain rfl : i_22 = nI (i + 1) := by rw [ei_22]; exact nI_1 i
                                refine lv_goto (tgt := 191) hx hb d_Bm_holds_229 (by decide) ?_
                                exact ih (j - 1) (by omega) (i + 1) (by omega) H locs hS hP hD ls (lv_sub hl [1, 2, 3, 4, 0] rfl)
                              · -- not taken
                                obtain ⟨hz9, e, he, hce, hRe⟩ : t_ao TA i ≠ 0 ∧ ∃ e, e < k ∧ ct i = nI e ∧ R e 2 = lN (t_ao TA i) := by
                                  rcases hCR i hi9 with ⟨_, h2⟩ | h
                                  · exfalso
                                    rw [h2] at c_21
                                    exact c_21 (by decide)
                                  · exact h
                                have hwe5 := wdt_ge2 (kd e)
                                have hai := htok.2.2.1 i
                                have hv7 := prd_lt (P := P) hPone (t_ao TA) (t_ao TA) i
                                refine lv_aload_n hx hb d_Bm_holds_208 rfl (lv_at hl 0 rfl) ?_
                                refine lv_lload_n hx hb d_Bm_holds_209 rfl (lv_at hl 3 rfl) ?_
                                refine lv_aload_n hx hb d_Bm_holds_210 rfl (lv_at hl 0 rfl) ?_
                                refine lv_aload_n hx hb d_Bm_holds_211 rfl (lv_at hl 0 rfl) ?_
                                refine va_get (D := (dC, dI)) (ci := 8) (v := .ref b5) (C := "BallotBoardModel") (T := F_Bm) (N := 28) hx hb hts (fun w9 h9 => List.mem_cons_of_mem _ (i_Bm w9 h9)) hown hK hP 0 rfl rfl 27 (by decide) (hts _ (List.mem_cons_of_mem _ gk_946)) (fun _ h9 => h9) rfl d_Bm_holds_212 ?_
                                refine lv_iload hx hb d_Bm_holds_215 (lv_at hl 4 rfl) ?_
                                refine va_iald hx hb hK hP 10 1 rfl rfl (vp_in_nI (by omega) (by omega)) d_Bm_holds_217 ?_
                                rw [show (ct (nI i : Int32).toNatClampNeg : Int32) = ct i from by rw [nI_clamp (by omega)]]
                                rw [show (ct i : Int32) = (nI e) from hce]
                                refine lv_iconst (v := 2) hx hb d_Bm_holds_218 (by decide) ?_
                                have hPc := hP.sub (ws' := (mo_ws m0 e0 (nI N) (nI n) (nI bc) (lN P) (lN Q) (lN G) (lN al) (lN pa) (lN pb) cl a0 a1 a2 a3 a4 a5 a6 a7 a8 a9 b0 b1 gok_1 b2 b3 b4 b5 ++ (jw_ws a0 cJ 1232 nf))) [0, 7] rfl
                                have hKc := hK.sub (tys' := [(cJ, .long), (cI, .int)]) [0, 1] rfl
                                refine va_calll (va_runV (As := [.int (nI e), .int 2]) (rest := [.long (lN (prd P (t_ao TA) (t_ao TA) i)), .ref m0]) ⟨hx, hb, hml, hown, hts⟩ (c_Bm_at l H dC dI cJ cI m0 e0 (nI N) (nI n) (nI bc) (lN P) (lN Q) (lN G) (lN al) (lN pa) (lN pb) cl a0 a1 a2 a3 a4 a5 a6 a7 a8 a9 b0 b1 gok_1 b2 b3 b4 b5 nf e 2 hPc (by omega)) (cwV 2 hts (gw_V gk_1102 gk_1104 gp_42 gk_7 gk_1105) rfl rfl rfl (by decide +kernel) ⟨Nat.le_of_ble_eq_true rfl, Nat.le_of_ble_eq_true rfl⟩) ⟨fun a U g mk q => ⟨q.1, q.2.1, va_K.moved (u := U) (U := U.calling g mk a) (Vm.Alike.refl U.vm) q.2.2⟩, va_recv hK hP (ci := 8) (q0 := 0) rfl rfl, fun U hU hW => ⟨rfl, hU, va_K.moved hW.alike hKc⟩⟩ rfl rfl hl.1 rfl (lv_room (Nat.le_of_ble_eq_true rfl)) d_Bm_holds_219 ⟨Nat.le_of_ble_eq_true rfl, Nat.le_of_ble_eq_true rfl⟩) hS (fun q _ h => h.elim) (fun q h => h.elim) (fun r219 u9 t9 H1 locs ht hvm hw hB hz1 hk1 hS => ?_)
                                obtain rfl : H = H1 := hB.symm.trans ht
                                have hw : r219 = nf (8 * e + 2) := hw
                                subst hw
                                rw [show (nf (8 * e + 2) : Int64) = (lN (t_ao TA i)) from (hnf e (by omega) 2 (by omega)).trans hRe]
                                have hPc := hP.sub (ws' := (mo_ws m0 e0 (nI N) (nI n) (nI bc) (lN P) (lN Q) (lN G) (lN al) (lN pa) (lN pb) cl a0 a1 a2 a3 a4 a5 a6 a7 a8 a9 b0 b1 gok_1 b2 b3 b4 b5)) [0] rfl
                                have hKc := hK.sub (tys' := [(cJ, .long), (cI, .int)]) [0, 1] rfl
                                refine va_calll (va_runV (As := [.long (lN (prd P (t_ao TA) (t_ao TA) i)), .long (lN (t_ao TA i))]) (rest := []) ⟨hx, hb, hml, hown, hts⟩ (c_Bm_times l H dC dI cJ cI m0 e0 (nI N) (nI n) (nI bc) (lN al) (lN pa) (lN pb) cl a0 a1 a2 a3 a4 a5 a6 a7 a8 a9 b0 b1 gok_1 b2 b3 b4 b5 P Q G (prd P (t_ao TA) (t_ao TA) i) (t_ao TA i) hPc hPQ h61F hQ3 hv7 hai) (cwV 2 hts (gw_V gk_1058 gk_1060 gp_33 gk_7 gk_1061) rfl rfl rfl (by decide +kernel) ⟨Nat.le_of_ble_eq_true rfl, Nat.le_of_ble_eq_true rfl⟩) ⟨fun a U g mk q => ⟨q.1, q.2.1, va_K.moved (u := U) (U := U.calling g mk a) (Vm.Alike.refl U.vm) q.2.2⟩, va_recv hK hP (ci := 8) (q0 := 0) rfl rfl, fun U hU hW => ⟨rfl, hU, va_K.moved hW.alike hKc⟩⟩ rfl rfl hl.1 rfl (lv_room (Nat.le_of_ble_eq_true rfl)) d_Bm_holds_222 ⟨Nat.le_of_ble_eq_true rfl, Nat.le_of_ble_eq_true rfl⟩) hS (fun q _ h => h.elim) (fun q h => h.elim) (fun r222 u9 t9 H1 locs ht hvm hw hB hz1 hk1 hS => ?_)
                                obtain rfl : H = H1 := hB.symm.trans ht
                                have hw : r222 = lN ((prd P (t_ao TA) (t_ao TA) i) * (t_ao TA i) % P) := hw
                                subst hw
                                rw [show (lN ((prd P (t_ao TA) (t_ao TA) i) * (t_ao TA i) % P) : Int64) = (lN (prd P (t_ao TA) (t_ao TA) (i + 1))) from congrArg lN (if_neg hz9).symm]
                                refine lv_lstore_n (lv' := [(3, .long (lN (prd P (t_ao TA) (t_ao TA) (i + 1)))), (0, .ref m0), (1, .int (nI k)), (2, .int (nI (wh k))), (5, .int (nI i))]) hx hb d_Bm_holds_225 rfl hl (by decide) rfl (fun ls hl => ?_)
                                obtain ⟨i_23, ei_23⟩ : ∃ y : Int32, y = (nI i) + 1 := ⟨_, rfl⟩
                                refine lv_iinc (v := i_23) (lv' := [(5, .int i_23), (3, .long (lN (prd P (t_ao TA) (t_ao TA) (i + 1)))), (0, .ref m0), (1, .int (nI k)), (2, .int (nI (wh k)))]) hx hb d_Bm_holds_226 hl (k := 4) rfl (by rw [ei_23]; rfl) (by decide) rfl (fun ls hl => ?_)
                                obtain rfl : i_23 = nI (i + 1) := by rw [ei_23]; exact nI_1 i
                                refine lv_goto (tgt := 191) hx hb d_Bm_holds_229 (by decide) ?_
                                exact ih (j - 1) (by omega) (i + 1) (by omega) H locs hS hP hD ls (lv_sub hl [2, 3, 4, 1, 0] rfl)
                        exact loop9 64 0 (by omega) H _ hS hP hD ls (lv_sub hl [3, 4, 2, 1, 0] rfl)
                      · -- not taken
                        exact absurd ((cmpe (k := 3) (by omega) 2 (by omega) rfl).mp c_17) (by omega)
                    · -- not taken
                      exact absurd ((cmpe (k := 3) (by omega) 1 (by omega) rfl).mp c_16) (by omega)
                  · -- not taken
                    exact absurd c_15 (by decide)
                · -- not taken
                  have hbad : ¬ hds P Q G N T0 kd wh R Lk k := fun h => c_13 ((lg_cmp_eq _ _).mpr (hhk.mp h).1.2.2.2.symm)
                  refine lv_iconst (v := 0) hx hb d_Bm_holds_32 (by decide) ?_
                  exact W.zret (v := 0) hx hb hr (by decide) (fun t ht9 hW => ⟨⟨_, ((gbk_1, gsk_1, gtk_1, gfk_1, gok_1), lf, ct), rfl, ⟨bz_0 hbad, fun h => absurd h hbad⟩, by rw [ht9]; exact hP, va_K.moved hW.alike hK, hD⟩, hS.F ht9⟩) hS.2.2 d_Bm_holds_33
            · -- not taken
              have hbad : ¬ hds P Q G N T0 kd wh R Lk k := fun h => c_10 ((lg_cmp_eq _ _).mpr (hhk.mp h).1.2.2.1.symm)
              refine lv_iconst (v := 0) hx hb d_Bm_holds_32 (by decide) ?_
              exact W.zret (v := 0) hx hb hr (by decide) (fun t ht9 hW => ⟨⟨_, ((gbk_1, gsk_1, gtk_1, gfk_1, gok_1), lf, ct), rfl, ⟨bz_0 hbad, fun h => absurd h hbad⟩, by rw [ht9]; exact hP, va_K.moved hW.alike hK, hD⟩, hS.F ht9⟩) hS.2.2 d_Bm_holds_33
        · -- not taken
          have hbad : ¬ hds P Q G N T0 kd wh R Lk k := fun h => c_7 ((lg_cmp_eq _ _).mpr (hhk.mp h).1.2.1.symm)
          refine lv_iconst (v := 0) hx hb d_Bm_holds_32 (by decide) ?_
          exact W.zret (v := 0) hx hb hr (by decide) (fun t ht9 hW => ⟨⟨_, ((gbk_1, gsk_1, gtk_1, gfk_1, gok_1), lf, ct), rfl, ⟨bz_0 hbad, fun h => absurd h hbad⟩, by rw [ht9]; exact hP, va_K.moved hW.alike hK, hD⟩, hS.F ht9⟩) hS.2.2 d_Bm_holds_33
    · -- not taken
      have hbad : ¬ hds P Q G N T0 kd wh R Lk k := fun h => c_4 ((lg_cmp_eq _ _).mpr (hhk.mp h).1.1.symm)
      refine lv_iconst (v := 0) hx hb d_Bm_holds_32 (by decide) ?_
      exact W.zret (v := 0) hx hb hr (by decide) (fun t ht9 hW => ⟨⟨_, ((gbk_1, gsk_1, gtk_1, gfk_1, gok_1), lf, ct), rfl, ⟨bz_0 hbad, fun h => absurd h hbad⟩, by rw [ht9]; exact hP, va_K.moved hW.alike hK, hD⟩, hS.F ht9⟩) hS.2.2 d_Bm_holds_33
