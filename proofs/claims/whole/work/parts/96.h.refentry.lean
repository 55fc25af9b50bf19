theorem bz_inG {r x1 : Int32} {N : Nat} (hN : N < 2 ^ 31) (h : r = if 0 ≤ x1 ∧ x1 ≤ nI N - 1 then 1 else 0) : bz r (inN x1 N) := by
  rcases Nat.eq_zero_or_pos N with h0 | h0
  · subst h0
    have e : ¬ (0 ≤ x1 ∧ x1 ≤ nI 0 - 1) := by
      rintro ⟨a, b⟩
      have c : nI 0 - 1 = -1 := by decide
      rw [c] at b
      have d := Int32.le_trans a b
      exact absurd d (by decide)
    rw [if_neg e] at h
    rw [h]
    exact bz_0 (fun ⟨I, _, hI⟩ => absurd hI (by omega))
  · exact bz_in h0 hN rfl (by rw [show nI N - 1 = nI (N - 1) from nI_subI (b := 1) (by omega) rfl] at h; exact h)
theorem bz_in2 {r x1 x3 : Int32} {W : Nat} (hW : 5 ≤ W) (hW2 : W ≤ 8) (hx : x3 = nI (W - 1)) (h : r = if 2 ≤ x1 ∧ x1 ≤ x3 then 1 else 0) : bz r (∃ J, x1 = nI J ∧ 2 ≤ J ∧ J < W) := by
  subst hx
  by_cases c : 2 ≤ x1 ∧ x1 ≤ nI (W - 1)
  · rw [if_pos c] at h
    rw [h]
    refine bz_1 ?_
    obtain ⟨J, hJ, rfl⟩ := i_nn (x := x1) (fun k => absurd (Int32.le_trans (show (0 : Int32) ≤ 2 by decide) c.1) (Int32.not_le.mpr k))
    exact ⟨J, rfl, (nI_leI (a := 2) (by omega) (by omega)).mp c.1, by have := (nI_leI (by omega) (by omega)).mp c.2; omega⟩
  · rw [if_neg c] at h
    rw [h]
    refine bz_0 ?_
    rintro ⟨J, rfl, h1, h2⟩
    exact c ⟨(nI_leI (a := 2) (by omega) (by omega)).mpr h1, (nI_leI (by omega) (by omega)).mpr (by omega)⟩
theorem wdt_le2 (K : Nat) : wdt K ≤ 8 := by unfold wdt; split <;> omega
theorem wdt_ge2 (K : Nat) : 5 ≤ wdt K := by unfold wdt; split <;> omega
theorem wd_of {x : Int64} {K : Nat} (h : x = lN K) (hK : K < 4) : (if x = 2 then (8 : Int32) else 5) = nI (wdt K) := by
  unfold wdt
  by_cases e : K = 2
  · rw [if_pos e, if_pos (by rw [h, e]; rfl)]; rfl
  · rw [if_neg e, if_neg (show ¬ x = 2 from fun q => e (lN_inj (b := 2) (by omega) (by omega) (h.symm.trans q)))]; rfl
def noE (n : Nat) (kd : Nat → Nat) (x y : Int32) : Prop := ¬ ∃ k J, x = nI k ∧ k < n ∧ y = nI J ∧ J < wdt (kd k)
def noW (n : Nat) (x y : Int32) : Prop := ¬ ∃ k J, x = nI k ∧ k < n ∧ y = nI J ∧ J < 4
def noS (n : Nat) (kd : Nat → Nat) (x y : Int32) : Prop := ¬ ∃ k J, x = nI k ∧ k < n ∧ y = nI J ∧ 2 ≤ J ∧ J < wdt (kd k)
abbrev b_Bm_entry : ByteArray := prog_10_method_45_code
abbrev y_Bm_entry : MethodName := ⟨"BallotBoardModel", "entry", "(II)J"⟩
abbrev w_Bm_entry : List Cond := .code y_Bm_entry b_Bm_entry 3 (some .long) :: gw
theorem d_Bm_entry_0 : decode b_Bm_entry 0 = .ok (.aload_n 0, 1) := by decide +kernel
theorem d_Bm_entry_1 : decode b_Bm_entry 1 = .ok (.iconst 0, 1) := by decide +kernel
theorem d_Bm_entry_2 : decode b_Bm_entry 2 = .ok (.putfield 131, 3) := by decide +kernel
theorem d_Bm_entry_5 : decode b_Bm_entry 5 = .ok (.aload_n 0, 1) := by decide +kernel
theorem d_Bm_entry_6 : decode b_Bm_entry 6 = .ok (.iload_n 1, 1) := by decide +kernel
theorem d_Bm_entry_7 : decode b_Bm_entry 7 = .ok (.iconst 0, 1) := by decide +kernel
theorem d_Bm_entry_8 : decode b_Bm_entry 8 = .ok (.aload_n 0, 1) := by decide +kernel
theorem d_Bm_entry_9 : decode b_Bm_entry 9 = .ok (.getfield 214, 3) := by decide +kernel
theorem d_Bm_entry_12 : decode b_Bm_entry 12 = .ok (.iconst 1, 1) := by decide +kernel
theorem d_Bm_entry_13 : decode b_Bm_entry 13 = .ok (.isub, 1) := by decide +kernel
theorem d_Bm_entry_14 : decode b_Bm_entry 14 = .ok (.invokestatic 203, 3) := by decide +kernel
theorem d_Bm_entry_17 : decode b_Bm_entry 17 = .ok (.ifCond .eq 22, 3) := by decide +kernel
theorem d_Bm_entry_20 : decode b_Bm_entry 20 = .ok (.iload_n 2, 1) := by decide +kernel
theorem d_Bm_entry_21 : decode b_Bm_entry 21 = .ok (.iconst 0, 1) := by decide +kernel
theorem d_Bm_entry_22 : decode b_Bm_entry 22 = .ok (.aload_n 0, 1) := by decide +kernel
theorem d_Bm_entry_23 : decode b_Bm_entry 23 = .ok (.iload_n 1, 1) := by decide +kernel
theorem d_Bm_entry_24 : decode b_Bm_entry 24 = .ok (.iconst 0, 1) := by decide +kernel
theorem d_Bm_entry_25 : decode b_Bm_entry 25 = .ok (.invokevirtual 236, 3) := by decide +kernel
theorem d_Bm_entry_28 : decode b_Bm_entry 28 = .ok (.invokestatic 240, 3) := by decide +kernel
theorem d_Bm_entry_31 : decode b_Bm_entry 31 = .ok (.iconst 1, 1) := by decide +kernel
theorem d_Bm_entry_32 : decode b_Bm_entry 32 = .ok (.isub, 1) := by decide +kernel
theorem d_Bm_entry_33 : decode b_Bm_entry 33 = .ok (.invokestatic 203, 3) := by decide +kernel
theorem d_Bm_entry_36 : decode b_Bm_entry 36 = .ok (.ifCond .ne 7, 3) := by decide +kernel
theorem d_Bm_entry_39 : decode b_Bm_entry 39 = .ok (.iconst 1, 1) := by decide +kernel
theorem d_Bm_entry_40 : decode b_Bm_entry 40 = .ok (.goto 4, 3) := by decide +kernel
theorem d_Bm_entry_43 : decode b_Bm_entry 43 = .ok (.iconst 0, 1) := by decide +kernel
theorem d_Bm_entry_44 : decode b_Bm_entry 44 = .ok (.iconst 1, 1) := by decide +kernel
theorem d_Bm_entry_45 : decode b_Bm_entry 45 = .ok (.invokevirtual 207, 3) := by decide +kernel
theorem d_Bm_entry_48 : decode b_Bm_entry 48 = .ok (.ifCond .eq 5, 3) := by decide +kernel
theorem d_Bm_entry_51 : decode b_Bm_entry 51 = .ok (.lconst 0, 1) := by decide +kernel
theorem d_Bm_entry_52 : decode b_Bm_entry 52 = .ok (.lreturn, 1) := by decide +kernel
theorem d_Bm_entry_53 : decode b_Bm_entry 53 = .ok (.aload_n 0, 1) := by decide +kernel
theorem d_Bm_entry_54 : decode b_Bm_entry 54 = .ok (.iload_n 1, 1) := by decide +kernel
theorem d_Bm_entry_55 : decode b_Bm_entry 55 = .ok (.iload_n 2, 1) := by decide +kernel
theorem d_Bm_entry_56 : decode b_Bm_entry 56 = .ok (.invokevirtual 236, 3) := by decide +kernel
theorem d_Bm_entry_59 : decode b_Bm_entry 59 = .ok (.lreturn, 1) := by decide +kernel
set_option maxHeartbeats 8000000 in
set_option maxRecDepth 100000 in
theorem c_Bm_entry_1 (l : Launch) (dC : Nat → ClassId) (dI : Nat → Nat → Nat) (cJ cI : ClassId) (sz : Nat) (m0 : Nat) (e0 : Int32) (N n bc P Q G al pa pb : Nat) (cl : Int32) (a0 a1 a2 a3 a4 a5 a6 a7 a8 a9 b0 b1 oc b2 b3 b4 b5 : Nat) (nf : Nat → Int64) (kd : Nat → Nat) (x1 x2 : Int32) (hn : n ≤ 154) (hnf : ∀ k, k < n → (nf (8 * k + 0) = lN (kd k) ∧ kd k < 4)) (hC : noE n kd x1 x2) : Met l y_Bm_entry w_Bm_entry ({ frames := 1, cells := 0, slots := 0, locals := 22 }) (va_Pc [.ref m0, .int x1, .int x2] (fun U => U.heap.size = sz ∧ va_P (dC, dI) classes (mo_ws m0 e0 (nI N) (nI n) (nI bc) (lN P) (lN Q) (lN G) (lN al) (lN pa) (lN pb) cl a0 a1 a2 a3 a4 a5 a6 a7 a8 a9 b0 b1 oc b2 b3 b4 b5 ++ (jw_ws a0 cJ 1232 nf)) U.heap ∧ va_K (dC, dI) classes [(cJ, .long), (cI, .int)] U ∧ va_D (fun _ => True) (mo_ws m0 e0 (nI N) (nI n) (nI bc) (lN P) (lN Q) (lN G) (lN al) (lN pa) (lN pb) cl a0 a1 a2 a3 a4 a5 a6 a7 a8 a9 b0 b1 oc b2 b3 b4 b5 ++ (jw_ws a0 cJ 1232 nf)))) (va_Ql (fun (r : Int64) (_ : Unit) => True) (fun _ t => va_P (dC, dI) classes (mo_ws m0 1 (nI N) (nI n) (nI bc) (lN P) (lN Q) (lN G) (lN al) (lN pa) (lN pb) cl a0 a1 a2 a3 a4 a5 a6 a7 a8 a9 b0 b1 oc b2 b3 b4 b5 ++ (jw_ws a0 cJ 1232 nf)) t.heap ∧ va_K (dC, dI) classes [(cJ, .long), (cI, .int)] t ∧ va_D (va_A (mo_ws m0 e0 (nI N) (nI n) (nI bc) (lN P) (lN Q) (lN G) (lN al) (lN pa) (lN pb) cl a0 a1 a2 a3 a4 a5 a6 a7 a8 a9 b0 b1 oc b2 b3 b4 b5 ++ (jw_ws a0 cJ 1232 nf)) sz) (mo_ws m0 1 (nI N) (nI n) (nI bc) (lN P) (lN Q) (lN G) (lN al) (lN pa) (lN pb) cl a0 a1 a2 a3 a4 a5 a6 a7 a8 a9 b0 b1 oc b2 b3 b4 b5 ++ (jw_ws a0 cJ 1232 nf))) (va_A (mo_ws m0 e0 (nI N) (nI n) (nI bc) (lN P) (lN Q) (lN G) (lN al) (lN pa) (lN pb) cl a0 a1 a2 a3 a4 a5 a6 a7 a8 a9 b0 b1 oc b2 b3 b4 b5 ++ (jw_ws a0 cJ 1232 nf)) sz)) 0 0 (va_A (mo_ws m0 e0 (nI N) (nI n) (nI bc) (lN P) (lN Q) (lN G) (lN al) (lN pa) (lN pb) cl a0 a1 a2 a3 a4 a5 a6 a7 a8 a9 b0 b1 oc b2 b3 b4 b5 ++ (jw_ws a0 cJ 1232 nf)) sz) := by
  refine Met.ofW (cc := b_Bm_entry) (maxL := 3) (ret := (some .long)) (by decide) rfl ?_
  intro p e s m args below meth c s₁ Bd hml hv
  obtain ⟨rfl, hsz, hP, hK, hD0⟩ := hv
  have hx := Bd.exec
  have hb := Bd.bytes
  have hr := Bd.returns
  have hts := atoms_spec (ws := w_Bm_entry) Bd.pre
  have hown : s.vm.findClass "BallotBoardModel" = some m.cls := findClass_of_methodNamed Bd.named
  have hlocks := Bd.notSynchronized
  subst hsz
  have hD := hD0.self (sz := s.heap.size)
  generalize hAe : va_A (mo_ws m0 e0 (nI N) (nI n) (nI bc) (lN P) (lN Q) (lN G) (lN al) (lN pa) (lN pb) cl a0 a1 a2 a3 a4 a5 a6 a7 a8 a9 b0 b1 oc b2 b3 b4 b5 ++ (jw_ws a0 cJ 1232 nf)) s.heap.size = A at hD ⊢
  have hA : ∀ q : Nat, s.heap.size ≤ q → A q := fun q h => by rw [← hAe]; exact Or.inr h
  have hS : va_S A s.heap s.heap [] := va_S.rf
  have hl := lv_entry ([.ref m0, .int x1, .int x2]) (n := 3) (Nat.le_of_ble_eq_true rfl)
  rw [lg_entry_eq]
  generalize (lg_sl ([.ref m0, .int x1, .int x2]) ++ List.replicate (3 - (lg_sl ([.ref m0, .int x1, .int x2])).length) Slot.unset).toArray = ls at hl ⊢
  have hl : lv_has ls 3 [(0, .ref m0), (1, .int x1), (2, .int x2)] := hl
  refine lv_aload_n hx hb d_Bm_entry_0 rfl (lv_at hl 0 rfl) ?_
  refine lv_iconst (v := 0) hx hb d_Bm_entry_1 (by decide) ?_
  refine va_put (D := (dC, dI)) (ci := 8) (v := .int 0) (ty := .int) (C := "BallotBoardModel") (T := F_Bm) (N := 28) hx hb hts (fun w9 h9 => List.mem_cons_of_mem _ (i_Bm w9 h9)) t_Bm t_Bm_ok n_Bm hown hK hP hD hS 0 rfl rfl 0 (by decide) (hts _ (List.mem_cons_of_mem _ gk_919)) (fun _ h9 => h9) rfl (by decide +kernel) rfl rfl (Nat.le_of_ble_eq_true rfl) d_Bm_entry_2 (fun H locs hP hD hS => ?_)
  have hP : va_P (dC, dI) classes [(m0, .inr (8, [.int 0, .int (nI N), .int (nI n), .int (nI bc), .long (lN P), .long (lN Q), .long (lN G), .long (lN al), .long (lN pa), .long (lN pb), .int cl, .ref a0, .ref a1, .ref a2, .ref a3, .ref a4, .ref a5, .ref a6, .ref a7, .ref a8, .ref a9, .ref b0, .ref b1, .int (nI oc), .ref b2, .ref b3, .ref b4, .ref b5])), (a0, .inl (cJ, 1232, .inr (.inl nf)))] H := hP
  have hD : va_D A [(m0, .inr (8, [.int 0, .int (nI N), .int (nI n), .int (nI bc), .long (lN P), .long (lN Q), .long (lN G), .long (lN al), .long (lN pa), .long (lN pb), .int cl, .ref a0, .ref a1, .ref a2, .ref a3, .ref a4, .ref a5, .ref a6, .ref a7, .ref a8, .ref a9, .ref b0, .ref b1, .int (nI oc), .ref b2, .ref b3, .ref b4, .ref b5])), (a0, .inl (cJ, 1232, .inr (.inl nf)))] := hD
  refine lv_aload_n hx hb d_Bm_entry_5 rfl (lv_at hl 0 rfl) ?_
  refine lv_iload_n hx hb d_Bm_entry_6 rfl (lv_at hl 1 rfl) ?_
  refine lv_iconst (v := 0) hx hb d_Bm_entry_7 (by decide) ?_
  refine lv_aload_n hx hb d_Bm_entry_8 rfl (lv_at hl 0 rfl) ?_
  refine va_get (D := (dC, dI)) (ci := 8) (v := .int (nI n)) (C := "BallotBoardModel") (T := F_Bm) (N := 28) hx hb hts (fun w9 h9 => List.mem_cons_of_mem _ (i_Bm w9 h9)) hown hK hP 0 rfl rfl 2 (by decide) (hts _ (List.mem_cons_of_mem _ gk_921)) (fun _ h9 => h9) rfl d_Bm_entry_9 ?_
  refine lv_iconst (v := 1) hx hb d_Bm_entry_12 (by decide) ?_
  refine lv_isub hx hb d_Bm_entry_13 ?_
  refine va_calli (va_runS (As := [.int x1, .int 0, .int ((nI n) - 1)]) (rest := [.ref m0]) ⟨hx, hb, hml, hown, hts⟩ (c_Bm_in l H x1 0 ((nI n) - 1)) (cwS 3 hts (gw_S gk_1027 gk_1028 gk_7 gk_1029) rfl rfl rfl (by decide +kernel) ⟨Nat.le_of_ble_eq_true rfl, Nat.le_of_ble_eq_true rfl⟩) ⟨fun a U g mk q => q, fun U hU hW => ⟨rfl, hU⟩⟩ rfl rfl hl.1 rfl (lv_room (Nat.le_of_ble_eq_true rfl)) d_Bm_entry_14 ⟨Nat.le_of_ble_eq_true rfl, Nat.le_of_ble_eq_true rfl⟩) hS (fun q _ h => h.elim) (fun q h => h.elim) (fun r14 u9 t9 H1 locs ht hvm hw hB hz1 hk1 hS => ?_)
  obtain rfl : H = H1 := hB.symm.trans ht
  have h14 : bz r14 (inN x1 n) := bz_inG (by omega) hw
  refine lv_if_eq (tgt := 39) hx hb d_Bm_entry_17 (by decide) (fun c_1 => ?_) (fun c_1 => ?_)
  · -- taken
    have bo14 := bz_f h14 c_1
    refine lv_iconst (v := 1) hx hb d_Bm_entry_39 (by decide) ?_
    refine lv_goto (tgt := 44) hx hb d_Bm_entry_40 (by decide) ?_
    refine lv_iconst (v := 1) hx hb d_Bm_entry_44 (by decide) ?_
    have hPc := hP.sub (ws' := (mo_ws m0 0 (nI N) (nI n) (nI bc) (lN P) (lN Q) (lN G) (lN al) (lN pa) (lN pb) cl a0 a1 a2 a3 a4 a5 a6 a7 a8 a9 b0 b1 oc b2 b3 b4 b5)) [0] rfl
    have hDc := hD.sub (ws' := (mo_ws m0 0 (nI N) (nI n) (nI bc) (lN P) (lN Q) (lN G) (lN al) (lN pa) (lN pb) cl a0 a1 a2 a3 a4 a5 a6 a7 a8 a9 b0 b1 oc b2 b3 b4 b5)) [0] (by decide) rfl
    have hKc := hK.sub (tys' := [(cJ, .long), (cI, .int)]) [0, 1] rfl
    have hFc := va_free (wc := (mo_ws m0 0 (nI N) (nI n) (nI bc) (lN P) (lN Q) (lN G) (lN al) (lN pa) (lN pb) cl a0 a1 a2 a3 a4 a5 a6 a7 a8 a9 b0 b1 oc b2 b3 b4 b5)) hD hS hA [0] rfl
    refine va_calli (va_runV (As := [.int 1, .int 1]) (rest := []) ⟨hx, hb, hml, hown, hts⟩ (c_Bm_fails_1 l dC dI cJ cI H.size m0 (nI N) (nI n) (nI bc) (lN P) (lN Q) (lN G) (lN al) (lN pa) (lN pb) cl a0 a1 a2 a3 a4 a5 a6 a7 a8 a9 b0 b1 oc b2 b3 b4 b5 1 (by decide)) (cwV 2 hts (gw_V gk_1030 gk_1032 gp_27 gk_7 gk_1033) rfl rfl rfl (by decide +kernel) ⟨Nat.le_of_ble_eq_true rfl, Nat.le_of_ble_eq_true rfl⟩) ⟨fun a U g mk q => by obtain ⟨q0, q1, qP, qK, qD⟩ := q; exact ⟨q0, q1, qP, va_K.moved (u := U) (U := U.calling g mk a) (Vm.Alike.refl U.vm) qK, qD⟩, va_recv hK hP (ci := 8) (q0 := 0) rfl rfl, fun U hU hW => ⟨rfl, by rw [hU], by rw [hU]; exact hPc, va_K.moved hW.alike hKc, hDc.weaken (fun _ _ _ _ => trivial)⟩⟩ rfl rfl hl.1 rfl (lv_room (Nat.le_of_ble_eq_true rfl)) d_Bm_entry_45 ⟨Nat.le_of_ble_eq_true rfl, Nat.le_of_ble_eq_true rfl⟩) hS (fun q _ h => hFc q h) hFc (fun r_2 u9 t9 H1 locs ht hvm hw hB hz1 hk1 hS => ?_)
    have hw : r_2 = 1 := hw
    subst hw
    obtain ⟨hP1, hK1, hD1⟩ := hB
    rw [ht] at hP1
    obtain ⟨hP, hD⟩ := va_join (wr := [(a0, .inl (cJ, 1232, .inr (.inl nf)))]) (w1 := [(m0, .inr (8, [.int 1, .int (nI N), .int (nI n), .int (nI bc), .long (lN P), .long (lN Q), .long (lN G), .long (lN al), .long (lN pa), .long (lN pb), .int cl, .ref a0, .ref a1, .ref a2, .ref a3, .ref a4, .ref a5, .ref a6, .ref a7, .ref a8, .ref a9, .ref b0, .ref b1, .int (nI oc), .ref b2, .ref b3, .ref b4, .ref b5]))]) hP hD [0] [1] rfl rfl (by decide) (by decide) hk1 hFc hP1 hD1
    have hP := hP.sub (ws' := [(m0, .inr (8, [.int 1, .int (nI N), .int (nI n), .int (nI bc), .long (lN P), .long (lN Q), .long (lN G), .long (lN al), .long (lN pa), .long (lN pb), .int cl, .ref a0, .ref a1, .ref a2, .ref a3, .ref a4, .ref a5, .ref a6, .ref a7, .ref a8, .ref a9, .ref b0, .ref b1, .int (nI oc), .ref b2, .ref b3, .ref b4, .ref b5])), (a0, .inl (cJ, 1232, .inr (.inl nf)))]) [1, 0] rfl
    have hD := hD.sub (ws' := [(m0, .inr (8, [.int 1, .int (nI N), .int (nI n), .int (nI bc), .long (lN P), .long (lN Q), .long (lN G), .long (lN al), .long (lN pa), .long (lN pb), .int cl, .ref a0, .ref a1, .ref a2, .ref a3, .ref a4, .ref a5, .ref a6, .ref a7, .ref a8, .ref a9, .ref b0, .ref b1, .int (nI oc), .ref b2, .ref b3, .ref b4, .ref b5])), (a0, .inl (cJ, 1232, .inr (.inl nf)))]) [1, 0] (by decide) rfl
    generalize H1 = H at hP hS ⊢
    refine lv_if_eq (tgt := 53) hx hb d_Bm_entry_48 (by decide) (fun c_3 => ?_) (fun c_3 => ?_)
    · -- taken
      exact absurd c_3 (by decide)
    · -- not taken
      refine lv_lconst (v := 0) hx hb d_Bm_entry_51 (by decide) ?_
      exact W.lret (v := 0) hx hb hr (fun t ht9 hW => ⟨⟨_, (), rfl, trivial, by rw [ht9]; exact hP, va_K.moved hW.alike hK, hD⟩, hS.F ht9⟩) hS.2.2 d_Bm_entry_52
  · -- not taken
    obtain ⟨k, rfl, hk⟩ := bz_t h14 c_1
    obtain ⟨hk0, hk4⟩ := hnf k hk
    have hw8 := wdt_le2 (kd k)
    have hw5 := wdt_ge2 (kd k)
    refine lv_iload_n hx hb d_Bm_entry_20 rfl (lv_at hl 2 rfl) ?_
    refine lv_iconst (v := 0) hx hb d_Bm_entry_21 (by decide) ?_
    refine lv_aload_n hx hb d_Bm_entry_22 rfl (lv_at hl 0 rfl) ?_
    refine lv_iload_n hx hb d_Bm_entry_23 rfl (lv_at hl 1 rfl) ?_
    refine lv_iconst (v := 0) hx hb d_Bm_entry_24 (by decide) ?_
    have hPc := hP.sub (ws' := (mo_ws m0 0 (nI N) (nI n) (nI bc) (lN P) (lN Q) (lN G) (lN al) (lN pa) (lN pb) cl a0 a1 a2 a3 a4 a5 a6 a7 a8 a9 b0 b1 oc b2 b3 b4 b5 ++ (jw_ws a0 cJ 1232 nf))) [0, 1] rfl
    have hKc := hK.sub (tys' := [(cJ, .long), (cI, .int)]) [0, 1] rfl
    refine va_calll (va_runV (As := [.int (nI k), .int 0]) (rest := [.int 0, .int x2, .ref m0]) ⟨hx, hb, hml, hown, hts⟩ (c_Bm_at l H dC dI cJ cI m0 0 (nI N) (nI n) (nI bc) (lN P) (lN Q) (lN G) (lN al) (lN pa) (lN pb) cl a0 a1 a2 a3 a4 a5 a6 a7 a8 a9 b0 b1 oc b2 b3 b4 b5 nf k 0 hPc (by omega)) (cwV 2 hts (gw_V gk_1102 gk_1104 gp_42 gk_7 gk_1105) rfl rfl rfl (by decide +kernel) ⟨Nat.le_of_ble_eq_true rfl, Nat.le_of_ble_eq_true rfl⟩) ⟨fun a U g mk q => ⟨q.1, q.2.1, va_K.moved (u := U) (U := U.calling g mk a) (Vm.Alike.refl U.vm) q.2.2⟩, va_recv hK hP (ci := 8) (q0 := 0) rfl rfl, fun U hU hW => ⟨rfl, hU, va_K.moved hW.alike hKc⟩⟩ rfl rfl hl.1 rfl (lv_room (Nat.le_of_ble_eq_true rfl)) d_Bm_entry_25 ⟨Nat.le_of_ble_eq_true rfl, Nat.le_of_ble_eq_true rfl⟩) hS (fun q _ h => h.elim) (fun q h => h.elim) (fun r25 u9 t9 H1 locs ht hvm hw hB hz1 hk1 hS => ?_)
    obtain rfl : H = H1 := hB.symm.trans ht
    have hw : r25 = nf (8 * k + 0) := hw
    subst hw
    refine va_calli (va_runS (As := [.long (nf (8 * k + 0))]) (rest := [.int 0, .int x2, .ref m0]) ⟨hx, hb, hml, hown, hts⟩ (c_Bm_many l H (nf (8 * k + 0))) (cwS 1 hts (gw_S gk_1106 gk_1107 gk_7 gk_1108) rfl rfl rfl (by decide +kernel) ⟨Nat.le_of_ble_eq_true rfl, Nat.le_of_ble_eq_true rfl⟩) ⟨fun a U g mk q => q, fun U hU hW => ⟨rfl, hU⟩⟩ rfl rfl hl.1 rfl (lv_room (Nat.le_of_ble_eq_true rfl)) d_Bm_entry_28 ⟨Nat.le_of_ble_eq_true rfl, Nat.le_of_ble_eq_true rfl⟩) hS (fun q _ h => h.elim) (fun q h => h.elim) (fun r28 u9 t9 H1 locs ht hvm hw hB hz1 hk1 hS => ?_)
    obtain rfl : H = H1 := hB.symm.trans ht
    have hw : r28 = if nf (8 * k + 0) = 2 then 8 else 5 := hw
    subst hw
    rw [show (if nf (8 * k + 0) = 2 then 8 else 5 : Int32) = (nI (wdt (kd k))) from wd_of hk0 hk4]
    refine lv_iconst (v := 1) hx hb d_Bm_entry_31 (by decide) ?_
    refine lv_isub hx hb d_Bm_entry_32 ?_
    rw [show ((nI (wdt (kd k))) - 1 : Int32) = (nI (wdt (kd k) - 1)) from nI_subI (b := 1) (by omega) rfl]
    refine va_calli (va_runS (As := [.int x2, .int 0, .int (nI (wdt (kd k) - 1))]) (rest := [.ref m0]) ⟨hx, hb, hml, hown, hts⟩ (c_Bm_in l H x2 0 (nI (wdt (kd k) - 1))) (cwS 3 hts (gw_S gk_1027 gk_1028 gk_7 gk_1029) rfl rfl rfl (by decide +kernel) ⟨Nat.le_of_ble_eq_true rfl, Nat.le_of_ble_eq_true rfl⟩) ⟨fun a U g mk q => q, fun U hU hW => ⟨rfl, hU⟩⟩ rfl rfl hl.1 rfl (lv_room (Nat.le_of_ble_eq_true rfl)) d_Bm_entry_33 ⟨Nat.le_of_ble_eq_true rfl, Nat.le_of_ble_eq_true rfl⟩) hS (fun q _ h => h.elim) (fun q h => h.elim) (fun r33 u9 t9 H1 locs ht hvm hw hB hz1 hk1 hS => ?_)
    obtain rfl : H = H1 := hB.symm.trans ht
    have h33 : bz r33 (inN x2 (wdt (kd k))) := bz_in (by omega) (by omega) rfl hw
    refine lv_if_ne (tgt := 43) hx hb d_Bm_entry_36 (by decide) (fun c_4 => ?_) (fun c_4 => ?_)
    · -- taken
      exfalso
      obtain ⟨J, e2, hJ⟩ := bz_t h33 c_4
      exact hC ⟨k, J, rfl, hk, e2, hJ⟩
    · -- not taken
      have bo33 := bz_f h33 c_4
      refine lv_iconst (v := 1) hx hb d_Bm_entry_39 (by decide) ?_
      refine lv_goto (tgt := 44) hx hb d_Bm_entry_40 (by decide) ?_
      refine lv_iconst (v := 1) hx hb d_Bm_entry_44 (by decide) ?_
      have hPc := hP.sub (ws' := (mo_ws m0 0 (nI N) (nI n) (nI bc) (lN P) (lN Q) (lN G) (lN al) (lN pa) (lN pb) cl a0 a1 a2 a3 a4 a5 a6 a7 a8 a9 b0 b1 oc b2 b3 b4 b5)) [0] rfl
      have hDc := hD.sub (ws' := (mo_ws m0 0 (nI N) (nI n) (nI bc) (lN P) (lN Q) (lN G) (lN al) (lN pa) (lN pb) cl a0 a1 a2 a3 a4 a5 a6 a7 a8 a9 b0 b1 oc b2 b3 b4 b5)) [0] (by decide) rfl
      have hKc := hK.sub (tys' := [(cJ, .long), (cI, .int)]) [0, 1] rfl
      have hFc := va_free (wc := (mo_ws m0 0 (nI N) (nI n) (nI bc) (lN P) (lN Q) (lN G) (lN al) (lN pa) (lN pb) cl a0 a1 a2 a3 a4 a5 a6 a7 a8 a9 b0 b1 oc b2 b3 b4 b5)) hD hS hA [0] rfl
      refine va_calli (va_runV (As := [.int 1, .int 1]) (rest := []) ⟨hx, hb, hml, hown, hts⟩ (c_Bm_fails_1 l dC dI cJ cI H.size m0 (nI N) (nI n) (nI bc) (lN P) (lN Q) (lN G) (lN al) (lN pa) (lN pb) cl a0 a1 a2 a3 a4 a5 a6 a7 a8 a9 b0 b1 oc b2 b3 b4 b5 1 (by decide)) (cwV 2 hts (gw_V gk_1030 gk_1032 gp_27 gk_7 gk_1033) rfl rfl rfl (by decide +kernel) ⟨Nat.le_of_ble_eq_true rfl, Nat.le_of_ble_eq_true rfl⟩) ⟨fun a U g mk q => by obtain ⟨q0, q1, qP, qK, qD⟩ := q; exact ⟨q0, q1, qP, va_K.moved (u := U) (U := U.calling g mk a) (Vm.Alike.refl U.vm) qK, qD⟩, va_recv hK hP (ci := 8) (q0 := 0) rfl rfl, fun U hU hW => ⟨rfl, by rw [hU], by rw [hU]; exact hPc, va_K.moved hW.alike hKc, hDc.weaken (fun _ _ _ _ => trivial)⟩⟩ rfl rfl hl.1 rfl (lv_room (Nat.le_of_ble_eq_true rfl)) d_Bm_entry_45 ⟨Nat.le_of_ble_eq_true rfl, Nat.le_of_ble_eq_true rfl⟩) hS (fun q _ h => hFc q h) hFc (fun r_5 u9 t9 H1 locs ht hvm hw hB hz1 hk1 hS => ?_)
      have hw : r_5 = 1 := hw
      subst hw
      obtain ⟨hP1, hK1, hD1⟩ := hB
      rw [ht] at hP1
      obtain ⟨hP, hD⟩ := va_join (wr := [(a0, .inl (cJ, 1232, .inr (.inl nf)))]) (w1 := [(m0, .inr (8, [.int 1, .int (nI N), .int (nI n), .int (nI bc), .long (lN P), .long (lN Q), .long (lN G), .long (lN al), .long (lN pa), .long (lN pb), .int cl, .ref a0, .ref a1, .ref a2, .ref a3, .ref a4, .ref a5, .ref a6, .ref a7, .ref a8, .ref a9, .ref b0, .ref b1, .int (nI oc), .ref b2, .ref b3, .ref b4, .ref b5]))]) hP hD [0] [1] rfl rfl (by decide) (by decide) hk1 hFc hP1 hD1
      have hP := hP.sub (ws' := [(m0, .inr (8, [.int 1, .int (nI N), .int (nI n), .int (nI bc), .long (lN P), .long (lN Q), .long (lN G), .long (lN al), .long (lN pa), .long (lN pb), .int cl, .ref a0, .ref a1, .ref a2, .ref a3, .ref a4, .ref a5, .ref a6, .ref a7, .ref a8, .ref a9, .ref b0, .ref b1, .int (nI oc), .ref b2, .ref b3, .ref b4, .ref b5])), (a0, .inl (cJ, 1232, .inr (.inl nf)))]) [1, 0] rfl
      have hD := hD.sub (ws' := [(m0, .inr (8, [.int 1, .int (nI N), .int (nI n), .int (nI bc), .long (lN P), .long (lN Q), .long (lN G), .long (lN al), .long (lN pa), .long (lN pb), .int cl, .ref a0, .ref a1, .ref a2, .ref a3, .ref a4, .ref a5, .ref a6, .ref a7, .ref a8, .ref a9, .ref b0, .ref b1, .int (nI oc), .ref b2, .ref b3, .ref b4, .ref b5])), (a0, .inl (cJ, 1232, .inr (.inl nf)))]) [1, 0] (by decide) rfl
      generalize H1 = H at hP hS ⊢
      refine lv_if_eq (tgt := 53) hx hb d_Bm_entry_48 (by decide) (fun c_6 => ?_) (fun c_6 => ?_)
      · -- taken
        exact absurd c_6 (by decide)
      · -- not taken
        refine lv_lconst (v := 0) hx hb d_Bm_entry_51 (by decide) ?_
        exact W.lret (v := 0) hx hb hr (fun t ht9 hW => ⟨⟨_, (), rfl, trivial, by rw [ht9]; exact hP, va_K.moved hW.alike hK, hD⟩, hS.F ht9⟩) hS.2.2 d_Bm_entry_52
set_option maxHeartbeats 8000000 in
set_option maxRecDepth 100000 in
theorem c_Bm_entry_0 (l : Launch) (dC : Nat → ClassId) (dI : Nat → Nat → Nat) (cJ cI : ClassId) (sz : Nat) (m0 : Nat) (e0 : Int32) (N n bc P Q G al pa pb : Nat) (cl : Int32) (a0 a1 a2 a3 a4 a5 a6 a7 a8 a9 b0 b1 oc b2 b3 b4 b5 : Nat) (nf : Nat → Int64) (kd : Nat → Nat) (k J : Nat) (hn : n ≤ 154) (hnf : ∀ k, k < n → (nf (8 * k + 0) = lN (kd k) ∧ kd k < 4)) (hk : k < n) (hJ : J < wdt (kd k)) : Met l y_Bm_entry w_Bm_entry ({ frames := 1, cells := 0, slots := 0, locals := 22 }) (va_Pc [.ref m0, .int (nI k), .int (nI J)] (fun U => U.heap.size = sz ∧ va_P (dC, dI) classes (mo_ws m0 e0 (nI N) (nI n) (nI bc) (lN P) (lN Q) (lN G) (lN al) (lN pa) (lN pb) cl a0 a1 a2 a3 a4 a5 a6 a7 a8 a9 b0 b1 oc b2 b3 b4 b5 ++ (jw_ws a0 cJ 1232 nf)) U.heap ∧ va_K (dC, dI) classes [(cJ, .long), (cI, .int)] U ∧ va_D (fun _ => True) (mo_ws m0 e0 (nI N) (nI n) (nI bc) (lN P) (lN Q) (lN G) (lN al) (lN pa) (lN pb) cl a0 a1 a2 a3 a4 a5 a6 a7 a8 a9 b0 b1 oc b2 b3 b4 b5 ++ (jw_ws a0 cJ 1232 nf)))) (va_Ql (fun (r : Int64) (_ : Unit) => r = nf (8 * k + J)) (fun _ t => va_P (dC, dI) classes (mo_ws m0 0 (nI N) (nI n) (nI bc) (lN P) (lN Q) (lN G) (lN al) (lN pa) (lN pb) cl a0 a1 a2 a3 a4 a5 a6 a7 a8 a9 b0 b1 oc b2 b3 b4 b5 ++ (jw_ws a0 cJ 1232 nf)) t.heap ∧ va_K (dC, dI) classes [(cJ, .long), (cI, .int)] t ∧ va_D (va_A (mo_ws m0 e0 (nI N) (nI n) (nI bc) (lN P) (lN Q) (lN G) (lN al) (lN pa) (lN pb) cl a0 a1 a2 a3 a4 a5 a6 a7 a8 a9 b0 b1 oc b2 b3 b4 b5 ++ (jw_ws a0 cJ 1232 nf)) sz) (mo_ws m0 0 (nI N) (nI n) (nI bc) (lN P) (lN Q) (lN G) (lN al) (lN pa) (lN pb) cl a0 a1 a2 a3 a4 a5 a6 a7 a8 a9 b0 b1 oc b2 b3 b4 b5 ++ (jw_ws a0 cJ 1232 nf))) (va_A (mo_ws m0 e0 (nI N) (nI n) (nI bc) (lN P) (lN Q) (lN G) (lN al) (lN pa) (lN pb) cl a0 a1 a2 a3 a4 a5 a6 a7 a8 a9 b0 b1 oc b2 b3 b4 b5 ++ (jw_ws a0 cJ 1232 nf)) sz)) 0 0 (va_A (mo_ws m0 e0 (nI N) (nI n) (nI bc) (lN P) (lN Q) (lN G) (lN al) (lN pa) (lN pb) cl a0 a1 a2 a3 a4 a5 a6 a7 a8 a9 b0 b1 oc b2 b3 b4 b5 ++ (jw_ws a0 cJ 1232 nf)) sz) := by
  refine Met.ofW (cc := b_Bm_entry) (maxL := 3) (ret := (some .long)) (by decide) rfl ?_
  intro p e s m args below meth c s₁ Bd hml hv
  obtain ⟨rfl, hsz, hP, hK, hD0⟩ := hv
  have hx := Bd.exec
  have hb := Bd.bytes
  have hr := Bd.returns
  have hts := atoms_spec (ws := w_Bm_entry) Bd.pre
  have hown : s.vm.findClass "BallotBoardModel" = some m.cls := findClass_of_methodNamed Bd.named
  have hlocks := Bd.notSynchronized
  subst hsz
  have hD := hD0.self (sz := s.heap.size)
  generalize hAe : va_A (mo_ws m0 e0 (nI N) (nI n) (nI bc) (lN P) (lN Q) (lN G) (lN al) (lN pa) (lN pb) cl a0 a1 a2 a3 a4 a5 a6 a7 a8 a9 b0 b1 oc b2 b3 b4 b5 ++ (jw_ws a0 cJ 1232 nf)) s.heap.size = A at hD ⊢
  have hA : ∀ q : Nat, s.heap.size ≤ q → A q := fun q h => by rw [← hAe]; exact Or.inr h
  have hS : va_S A s.heap s.heap [] := va_S.rf
  have hl := lv_entry ([.ref m0, .int (nI k), .int (nI J)]) (n := 3) (Nat.le_of_ble_eq_true rfl)
  rw [lg_entry_eq]
  generalize (lg_sl ([.ref m0, .int (nI k), .int (nI J)]) ++ List.replicate (3 - (lg_sl ([.ref m0, .int (nI k), .int (nI J)])).length) Slot.unset).toArray = ls at hl ⊢
  have hl : lv_has ls 3 [(0, .ref m0), (1, .int (nI k)), (2, .int (nI J))] := hl
  obtain ⟨hk0, hk4⟩ := hnf k hk
  have hw8 := wdt_le2 (kd k)
  have hw5 := wdt_ge2 (kd k)
  refine lv_aload_n hx hb d_Bm_entry_0 rfl (lv_at hl 0 rfl) ?_
  refine lv_iconst (v := 0) hx hb d_Bm_entry_1 (by decide) ?_
  refine va_put (D := (dC, dI)) (ci := 8) (v := .int 0) (ty := .int) (C := "BallotBoardModel") (T := F_Bm) (N := 28) hx hb hts (fun w9 h9 => List.mem_cons_of_mem _ (i_Bm w9 h9)) t_Bm t_Bm_ok n_Bm hown hK hP hD hS 0 rfl rfl 0 (by decide) (hts _ (List.mem_cons_of_mem _ gk_919)) (fun _ h9 => h9) rfl (by decide +kernel) rfl rfl (Nat.le_of_ble_eq_true rfl) d_Bm_entry_2 (fun H locs hP hD hS => ?_)
  have hP : va_P (dC, dI) classes [(m0, .inr (8, [.int 0, .int (nI N), .int (nI n), .int (nI bc), .long (lN P), .long (lN Q), .long (lN G), .long (lN al), .long (lN pa), .long (lN pb), .int cl, .ref a0, .ref a1, .ref a2, .ref a3, .ref a4, .ref a5, .ref a6, .ref a7, .ref a8, .ref a9, .ref b0, .ref b1, .int (nI oc), .ref b2, .ref b3, .ref b4, .ref b5])), (a0, .inl (cJ, 1232, .inr (.inl nf)))] H := hP
  have hD : va_D A [(m0, .inr (8, [.int 0, .int (nI N), .int (nI n), .int (nI bc), .long (lN P), .long (lN Q), .long (lN G), .long (lN al), .long (lN pa), .long (lN pb), .int cl, .ref a0, .ref a1, .ref a2, .ref a3, .ref a4, .ref a5, .ref a6, .ref a7, .ref a8, .ref a9, .ref b0, .ref b1, .int (nI oc), .ref b2, .ref b3, .ref b4, .ref b5])), (a0, .inl (cJ, 1232, .inr (.inl nf)))] := hD
  refine lv_aload_n hx hb d_Bm_entry_5 rfl (lv_at hl 0 rfl) ?_
  refine lv_iload_n hx hb d_Bm_entry_6 rfl (lv_at hl 1 rfl) ?_
  refine lv_iconst (v := 0) hx hb d_Bm_entry_7 (by decide) ?_
  refine lv_aload_n hx hb d_Bm_entry_8 rfl (lv_at hl 0 rfl) ?_
  refine va_get (D := (dC, dI)) (ci := 8) (v := .int (nI n)) (C := "BallotBoardModel") (T := F_Bm) (N := 28) hx hb hts (fun w9 h9 => List.mem_cons_of_mem _ (i_Bm w9 h9)) hown hK hP 0 rfl rfl 2 (by decide) (hts _ (List.mem_cons_of_mem _ gk_921)) (fun _ h9 => h9) rfl d_Bm_entry_9 ?_
  refine lv_iconst (v := 1) hx hb d_Bm_entry_12 (by decide) ?_
  refine lv_isub hx hb d_Bm_entry_13 ?_
  refine va_calli (va_runS (As := [.int (nI k), .int 0, .int ((nI n) - 1)]) (rest := [.ref m0]) ⟨hx, hb, hml, hown, hts⟩ (c_Bm_in l H (nI k) 0 ((nI n) - 1)) (cwS 3 hts (gw_S gk_1027 gk_1028 gk_7 gk_1029) rfl rfl rfl (by decide +kernel) ⟨Nat.le_of_ble_eq_true rfl, Nat.le_of_ble_eq_true rfl⟩) ⟨fun a U g mk q => q, fun U hU hW => ⟨rfl, hU⟩⟩ rfl rfl hl.1 rfl (lv_room (Nat.le_of_ble_eq_true rfl)) d_Bm_entry_14 ⟨Nat.le_of_ble_eq_true rfl, Nat.le_of_ble_eq_true rfl⟩) hS (fun q _ h => h.elim) (fun q h => h.elim) (fun r14 u9 t9 H1 locs ht hvm hw hB hz1 hk1 hS => ?_)
  obtain rfl : H = H1 := hB.symm.trans ht
  have h14 : bz r14 (inN (nI k) n) := bz_inG (by omega) hw
  refine lv_if_eq (tgt := 39) hx hb d_Bm_entry_17 (by decide) (fun c_1 => ?_) (fun c_1 => ?_)
  · -- taken
    exact absurd (⟨k, rfl, hk⟩ : inN (nI k) n) (bz_f h14 c_1)
  · -- not taken
    have bo14 := bz_t h14 c_1
    refine lv_iload_n hx hb d_Bm_entry_20 rfl (lv_at hl 2 rfl) ?_
    refine lv_iconst (v := 0) hx hb d_Bm_entry_21 (by decide) ?_
    refine lv_aload_n hx hb d_Bm_entry_22 rfl (lv_at hl 0 rfl) ?_
    refine lv_iload_n hx hb d_Bm_entry_23 rfl (lv_at hl 1 rfl) ?_
    refine lv_iconst (v := 0) hx hb d_Bm_entry_24 (by decide) ?_
    have hPc := hP.sub (ws' := (mo_ws m0 0 (nI N) (nI n) (nI bc) (lN P) (lN Q) (lN G) (lN al) (lN pa) (lN pb) cl a0 a1 a2 a3 a4 a5 a6 a7 a8 a9 b0 b1 oc b2 b3 b4 b5 ++ (jw_ws a0 cJ 1232 nf))) [0, 1] rfl
    have hKc := hK.sub (tys' := [(cJ, .long), (cI, .int)]) [0, 1] rfl
    refine va_calll (va_runV (As := [.int (nI k), .int 0]) (rest := [.int 0, .int (nI J), .ref m0]) ⟨hx, hb, hml, hown, hts⟩ (c_Bm_at l H dC dI cJ cI m0 0 (nI N) (nI n) (nI bc) (lN P) (lN Q) (lN G) (lN al) (lN pa) (lN pb) cl a0 a1 a2 a3 a4 a5 a6 a7 a8 a9 b0 b1 oc b2 b3 b4 b5 nf k 0 hPc (by omega)) (cwV 2 hts (gw_V gk_1102 gk_1104 gp_42 gk_7 gk_1105) rfl rfl rfl (by decide +kernel) ⟨Nat.le_of_ble_eq_true rfl, Nat.le_of_ble_eq_true rfl⟩) ⟨fun a U g mk q => ⟨q.1, q.2.1, va_K.moved (u := U) (U := U.calling g mk a) (Vm.Alike.refl U.vm) q.2.2⟩, va_recv hK hP (ci := 8) (q0 := 0) rfl rfl, fun U hU hW => ⟨rfl, hU, va_K.moved hW.alike hKc⟩⟩ rfl rfl hl.1 rfl (lv_room (Nat.le_of_ble_eq_true rfl)) d_Bm_entry_25 ⟨Nat.le_of_ble_eq_true rfl, Nat.le_of_ble_eq_true rfl⟩) hS (fun q _ h => h.elim) (fun q h => h.elim) (fun r25 u9 t9 H1 locs ht hvm hw hB hz1 hk1 hS => ?_)
    obtain rfl : H = H1 := hB.symm.trans ht
    have hw : r25 = nf (8 * k + 0) := hw
    subst hw
    refine va_calli (va_runS (As := [.long (nf (8 * k + 0))]) (rest := [.int 0, .int (nI J), .ref m0]) ⟨hx, hb, hml, hown, hts⟩ (c_Bm_many l H (nf (8 * k + 0))) (cwS 1 hts (gw_S gk_1106 gk_1107 gk_7 gk_1108) rfl rfl rfl (by decide +kernel) ⟨Nat.le_of_ble_eq_true rfl, Nat.le_of_ble_eq_true rfl⟩) ⟨fun a U g mk q => q, fun U hU hW => ⟨rfl, hU⟩⟩ rfl rfl hl.1 rfl (lv_room (Nat.le_of_ble_eq_true rfl)) d_Bm_entry_28 ⟨Nat.le_of_ble_eq_true rfl, Nat.le_of_ble_eq_true rfl⟩) hS (fun q _ h => h.elim) (fun q h => h.elim) (fun r28 u9 t9 H1 locs ht hvm hw hB hz1 hk1 hS => ?_)
    obtain rfl : H = H1 := hB.symm.trans ht
    have hw : r28 = if nf (8 * k + 0) = 2 then 8 else 5 := hw
    subst hw
    rw [show (if nf (8 * k + 0) = 2 then 8 else 5 : Int32) = (nI (wdt (kd k))) from wd_of hk0 hk4]
    refine lv_iconst (v := 1) hx hb d_Bm_entry_31 (by decide) ?_
    refine lv_isub hx hb d_Bm_entry_32 ?_
    rw [show ((nI (wdt (kd k))) - 1 : Int32) = (nI (wdt (kd k) - 1)) from nI_subI (b := 1) (by omega) rfl]
    refine va_calli (va_runS (As := [.int (nI J), .int 0, .int (nI (wdt (kd k) - 1))]) (rest := [.ref m0]) ⟨hx, hb, hml, hown, hts⟩ (c_Bm_in l H (nI J) 0 (nI (wdt (kd k) - 1))) (cwS 3 hts (gw_S gk_1027 gk_1028 gk_7 gk_1029) rfl rfl rfl (by decide +kernel) ⟨Nat.le_of_ble_eq_true rfl, Nat.le_of_ble_eq_true rfl⟩) ⟨fun a U g mk q => q, fun U hU hW => ⟨rfl, hU⟩⟩ rfl rfl hl.1 rfl (lv_room (Nat.le_of_ble_eq_true rfl)) d_Bm_entry_33 ⟨Nat.le_of_ble_eq_true rfl, Nat.le_of_ble_eq_true rfl⟩) hS (fun q _ h => h.elim) (fun q h => h.elim) (fun r33 u9 t9 H1 locs ht hvm hw hB hz1 hk1 hS => ?_)
    obtain rfl : H = H1 := hB.symm.trans ht
    have h33 : bz r33 (inN (nI J) (wdt (kd k))) := bz_in (by omega) (by omega) rfl hw
    refine lv_if_ne (tgt := 43) hx hb d_Bm_entry_36 (by decide) (fun c_2 => ?_) (fun c_2 => ?_)
    · -- taken
      have bo33 := bz_t h33 c_2
      refine lv_iconst (v := 0) hx hb d_Bm_entry_43 (by decide) ?_
      refine lv_iconst (v := 1) hx hb d_Bm_entry_44 (by decide) ?_
      have hPc := hP.sub (ws' := (mo_ws m0 0 (nI N) (nI n) (nI bc) (lN P) (lN Q) (lN G) (lN al) (lN pa) (lN pb) cl a0 a1 a2 a3 a4 a5 a6 a7 a8 a9 b0 b1 oc b2 b3 b4 b5)) [0] rfl
      have hDc := hD.sub (ws' := (mo_ws m0 0 (nI N) (nI n) (nI bc) (lN P) (lN Q) (lN G) (lN al) (lN pa) (lN pb) cl a0 a1 a2 a3 a4 a5 a6 a7 a8 a9 b0 b1 oc b2 b3 b4 b5)) [0] (by decide) rfl
      have hKc := hK.sub (tys' := [(cJ, .long), (cI, .int)]) [0, 1] rfl
      have hFc := va_free (wc := (mo_ws m0 0 (nI N) (nI n) (nI bc) (lN P) (lN Q) (lN G) (lN al) (lN pa) (lN pb) cl a0 a1 a2 a3 a4 a5 a6 a7 a8 a9 b0 b1 oc b2 b3 b4 b5)) hD hS hA [0] rfl
      refine va_calli (va_runV (As := [.int 0, .int 1]) (rest := []) ⟨hx, hb, hml, hown, hts⟩ (c_Bm_fails_0 l dC dI cJ cI H.size m0 (nI N) (nI n) (nI bc) (lN P) (lN Q) (lN G) (lN al) (lN pa) (lN pb) cl a0 a1 a2 a3 a4 a5 a6 a7 a8 a9 b0 b1 oc b2 b3 b4 b5 1) (cwV 2 hts (gw_V gk_1030 gk_1032 gp_27 gk_7 gk_1033) rfl rfl rfl (by decide +kernel) ⟨Nat.le_of_ble_eq_true rfl, Nat.le_of_ble_eq_true rfl⟩) ⟨fun a U g mk q => by obtain ⟨q0, q1, qP, qK, qD⟩ := q; exact ⟨q0, q1, qP, va_K.moved (u := U) (U := U.calling g mk a) (Vm.Alike.refl U.vm) qK, qD⟩, va_recv hK hP (ci := 8) (q0 := 0) rfl rfl, fun U hU hW => ⟨rfl, by rw [hU], by rw [hU]; exact hPc, va_K.moved hW.alike hKc, hDc.weaken (fun _ _ _ _ => trivial)⟩⟩ rfl rfl hl.1 rfl (lv_room (Nat.le_of_ble_eq_true rfl)) d_Bm_entry_45 ⟨Nat.le_of_ble_eq_true rfl, Nat.le_of_ble_eq_true rfl⟩) hS (fun q _ h => hFc q h) hFc (fun r_3 u9 t9 H1 locs ht hvm hw hB hz1 hk1 hS => ?_)
      have hw : r_3 = 0 := hw
      subst hw
      obtain ⟨hP1, hK1, hD1⟩ := hB
      rw [ht] at hP1
      obtain ⟨hP, hD⟩ := va_join (wr := [(a0, .inl (cJ, 1232, .inr (.inl nf)))]) (w1 := [(m0, .inr (8, [.int 0, .int (nI N), .int (nI n), .int (nI bc), .long (lN P), .long (lN Q), .long (lN G), .long (lN al), .long (lN pa), .long (lN pb), .int cl, .ref a0, .ref a1, .ref a2, .ref a3, .ref a4, .ref a5, .ref a6, .ref a7, .ref a8, .ref a9, .ref b0, .ref b1, .int (nI oc), .ref b2, .ref b3, .ref b4, .ref b5]))]) hP hD [0] [1] rfl rfl (by decide) (by decide) hk1 hFc hP1 hD1
      have hP := hP.sub (ws' := [(m0, .inr (8, [.int 0, .int (nI N), .int (nI n), .int (nI bc), .long (lN P), .long (lN Q), .long (lN G), .long (lN al), .long (lN pa), .long (lN pb), .int cl, .ref a0, .ref a1, .ref a2, .ref a3, .ref a4, .ref a5, .ref a6, .ref a7, .ref a8, .ref a9, .ref b0, .ref b1, .int (nI oc), .ref b2, .ref b3, .ref b4, .ref b5])), (a0, .inl (cJ, 1232, .inr (.inl nf)))]) [1, 0] rfl
      have hD := hD.sub (ws' := [(m0, .inr (8, [.int 0, .int (nI N), .int (nI n), .int (nI bc), .long (lN P), .long (lN Q), .long (lN G), .long (lN al), .long (lN pa), .long (lN pb), .int cl, .ref a0, .ref a1, .ref a2, .ref a3, .ref a4, .ref a5, .ref a6, .ref a7, .ref a8, .ref a9, .ref b0, .ref b1, .int (nI oc), .ref b2, .ref b3, .ref b4, .ref b5])), (a0, .inl (cJ, 1232, .inr (.inl nf)))]) [1, 0] (by decide) rfl
      generalize H1 = H at hP hS ⊢
      refine lv_if_eq (tgt := 53) hx hb d_Bm_entry_48 (by decide) (fun c_4 => ?_) (fun c_4 => ?_)
      · -- taken
        refine lv_aload_n hx hb d_Bm_entry_53 rfl (lv_at hl 0 rfl) ?_
        refine lv_iload_n hx hb d_Bm_entry_54 rfl (lv_at hl 1 rfl) ?_
        refine lv_iload_n hx hb d_Bm_entry_55 rfl (lv_at hl 2 rfl) ?_
        have hPc := hP.sub (ws' := (mo_ws m0 0 (nI N) (nI n) (nI bc) (lN P) (lN Q) (lN G) (lN al) (lN pa) (lN pb) cl a0 a1 a2 a3 a4 a5 a6 a7 a8 a9 b0 b1 oc b2 b3 b4 b5 ++ (jw_ws a0 cJ 1232 nf))) [0, 1] rfl
        have hKc := hK.sub (tys' := [(cJ, .long), (cI, .int)]) [0, 1] rfl
        refine va_calll (va_runV (As := [.int (nI k), .int (nI J)]) (rest := []) ⟨hx, hb, hml, hown, hts⟩ (c_Bm_at l H dC dI cJ cI m0 0 (nI N) (nI n) (nI bc) (lN P) (lN Q) (lN G) (lN al) (lN pa) (lN pb) cl a0 a1 a2 a3 a4 a5 a6 a7 a8 a9 b0 b1 oc b2 b3 b4 b5 nf k J hPc (by omega)) (cwV 2 hts (gw_V gk_1102 gk_1104 gp_42 gk_7 gk_1105) rfl rfl rfl (by decide +kernel) ⟨Nat.le_of_ble_eq_true rfl, Nat.le_of_ble_eq_true rfl⟩) ⟨fun a U g mk q => ⟨q.1, q.2.1, va_K.moved (u := U) (U := U.calling g mk a) (Vm.Alike.refl U.vm) q.2.2⟩, va_recv hK hP (ci := 8) (q0 := 0) rfl rfl, fun U hU hW => ⟨rfl, hU, va_K.moved hW.alike hKc⟩⟩ rfl rfl hl.1 rfl (lv_room (Nat.le_of_ble_eq_true rfl)) d_Bm_entry_56 ⟨Nat.le_of_ble_eq_true rfl, Nat.le_of_ble_eq_true rfl⟩) hS (fun q _ h => h.elim) (fun q h => h.elim) (fun r56 u9 t9 H1 locs ht hvm hw hB hz1 hk1 hS => ?_)
        obtain rfl : H = H1 := hB.symm.trans ht
        have hw : r56 = nf (8 * k + J) := hw
        subst hw
        exact W.lret (v := (nf (8 * k + J))) hx hb hr (fun t ht9 hW => ⟨⟨_, (), rfl, rfl, by rw [ht9]; exact hP, va_K.moved hW.alike hK, hD⟩, hS.F ht9⟩) hS.2.2 d_Bm_entry_59
      · -- not taken
        exact absurd rfl c_4
    · -- not taken
      exact absurd (⟨J, rfl, hJ⟩ : inN (nI J) (wdt (kd k))) (bz_f h33 c_2)
abbrev b_Bm_chain : ByteArray := prog_10_method_46_code
abbrev y_Bm_chain : MethodName := ⟨"BallotBoardModel", "chain", "(II)J"⟩
abbrev w_Bm_chain : List Cond := .code y_Bm_chain b_Bm_chain 3 (some .long) :: gw
theorem d_Bm_chain_0 : decode b_Bm_chain 0 = .ok (.aload_n 0, 1) := by decide +kernel
theorem d_Bm_chain_1 : decode b_Bm_chain 1 = .ok (.iconst 0, 1) := by decide +kernel
theorem d_Bm_chain_2 : decode b_Bm_chain 2 = .ok (.putfield 131, 3) := by decide +kernel
theorem d_Bm_chain_5 : decode b_Bm_chain 5 = .ok (.aload_n 0, 1) := by decide +kernel
theorem d_Bm_chain_6 : decode b_Bm_chain 6 = .ok (.iload_n 1, 1) := by decide +kernel
theorem d_Bm_chain_7 : decode b_Bm_chain 7 = .ok (.iconst 0, 1) := by decide +kernel
theorem d_Bm_chain_8 : decode b_Bm_chain 8 = .ok (.aload_n 0, 1) := by decide +kernel
theorem d_Bm_chain_9 : decode b_Bm_chain 9 = .ok (.getfield 214, 3) := by decide +kernel
theorem d_Bm_chain_12 : decode b_Bm_chain 12 = .ok (.iconst 1, 1) := by decide +kernel
theorem d_Bm_chain_13 : decode b_Bm_chain 13 = .ok (.isub, 1) := by decide +kernel
theorem d_Bm_chain_14 : decode b_Bm_chain 14 = .ok (.invokestatic 203, 3) := by decide +kernel
theorem d_Bm_chain_17 : decode b_Bm_chain 17 = .ok (.ifCond .eq 12, 3) := by decide +kernel
theorem d_Bm_chain_20 : decode b_Bm_chain 20 = .ok (.iload_n 2, 1) := by decide +kernel
theorem d_Bm_chain_21 : decode b_Bm_chain 21 = .ok (.iconst 0, 1) := by decide +kernel
theorem d_Bm_chain_22 : decode b_Bm_chain 22 = .ok (.iconst 3, 1) := by decide +kernel
theorem d_Bm_chain_23 : decode b_Bm_chain 23 = .ok (.invokestatic 203, 3) := by decide +kernel
theorem d_Bm_chain_26 : decode b_Bm_chain 26 = .ok (.ifCond .ne 7, 3) := by decide +kernel
theorem d_Bm_chain_29 : decode b_Bm_chain 29 = .ok (.iconst 1, 1) := by decide +kernel
theorem d_Bm_chain_30 : decode b_Bm_chain 30 = .ok (.goto 4, 3) := by decide +kernel
theorem d_Bm_chain_33 : decode b_Bm_chain 33 = .ok (.iconst 0, 1) := by decide +kernel
theorem d_Bm_chain_34 : decode b_Bm_chain 34 = .ok (.iconst 1, 1) := by decide +kernel
theorem d_Bm_chain_35 : decode b_Bm_chain 35 = .ok (.invokevirtual 207, 3) := by decide +kernel
theorem d_Bm_chain_38 : decode b_Bm_chain 38 = .ok (.ifCond .eq 5, 3) := by decide +kernel
theorem d_Bm_chain_41 : decode b_Bm_chain 41 = .ok (.lconst 0, 1) := by decide +kernel
theorem d_Bm_chain_42 : decode b_Bm_chain 42 = .ok (.lreturn, 1) := by decide +kernel
theorem d_Bm_chain_43 : decode b_Bm_chain 43 = .ok (.aload_n 0, 1) := by decide +kernel
theorem d_Bm_chain_44 : decode b_Bm_chain 44 = .ok (.getfield 13, 3) := by decide +kernel
theorem d_Bm_chain_47 : decode b_Bm_chain 47 = .ok (.iconst 4, 1) := by decide +kernel
theorem d_Bm_chain_48 : decode b_Bm_chain 48 = .ok (.iload_n 1, 1) := by decide +kernel
theorem d_Bm_chain_49 : decode b_Bm_chain 49 = .ok (.imul, 1) := by decide +kernel
theorem d_Bm_chain_50 : decode b_Bm_chain 50 = .ok (.iload_n 2, 1) := by decide +kernel
theorem d_Bm_chain_51 : decode b_Bm_chain 51 = .ok (.iadd, 1) := by decide +kernel
theorem d_Bm_chain_52 : decode b_Bm_chain 52 = .ok (.laload, 1) := by decide +kernel
theorem d_Bm_chain_53 : decode b_Bm_chain 53 = .ok (.lreturn, 1) := by decide +kernel
set_option maxHeartbeats 8000000 in
set_option maxRecDepth 100000 in
theorem c_Bm_chain_1 (l : Launch) (dC : Nat → ClassId) (dI : Nat → Nat → Nat) (cJ cI : ClassId) (sz : Nat) (m0 : Nat) (e0 : Int32) (N n bc P Q G al pa pb : Nat) (cl : Int32) (a0 a1 a2 a3 a4 a5 a6 a7 a8 a9 b0 b1 oc b2 b3 b4 b5 : Nat) (cf : Nat → Int64) (x1 x2 : Int32) (hn : n ≤ 154) (hC : noW n x1 x2) : Met l y_Bm_chain w_Bm_chain ({ frames := 1, cells := 0, slots := 0, locals := 22 }) (va_Pc [.ref m0, .int x1, .int x2] (fun U => U.heap.size = sz ∧ va_P (dC, dI) classes (mo_ws m0 e0 (nI N) (nI n) (nI bc) (lN P) (lN Q) (lN G) (lN al) (lN pa) (lN pb) cl a0 a1 a2 a3 a4 a5 a6 a7 a8 a9 b0 b1 oc b2 b3 b4 b5 ++ (jw_ws a1 cJ 616 cf)) U.heap ∧ va_K (dC, dI) classes [(cJ, .long), (cI, .int)] U ∧ va_D (fun _ => True) (mo_ws m0 e0 (nI N) (nI n) (nI bc) (lN P) (lN Q) (lN G) (lN al) (lN pa) (lN pb) cl a0 a1 a2 a3 a4 a5 a6 a7 a8 a9 b0 b1 oc b2 b3 b4 b5 ++ (jw_ws a1 cJ 616 cf)))) (va_Ql (fun (r : Int64) (_ : Unit) => True) (fun _ t => va_P (dC, dI) classes (mo_ws m0 1 (nI N) (nI n) (nI bc) (lN P) (lN Q) (lN G) (lN al) (lN pa) (lN pb) cl a0 a1 a2 a3 a4 a5 a6 a7 a8 a9 b0 b1 oc b2 b3 b4 b5 ++ (jw_ws a1 cJ 616 cf)) t.heap ∧ va_K (dC, dI) classes [(cJ, .long), (cI, .int)] t ∧ va_D (va_A (mo_ws m0 e0 (nI N) (nI n) (nI bc) (lN P) (lN Q) (lN G) (lN al) (lN pa) (lN pb) cl a0 a1 a2 a3 a4 a5 a6 a7 a8 a9 b0 b1 oc b2 b3 b4 b5 ++ (jw_ws a1 cJ 616 cf)) sz) (mo_ws m0 1 (nI N) (nI n) (nI bc) (lN P) (lN Q) (lN G) (lN al) (lN pa) (lN pb) cl a0 a1 a2 a3 a4 a5 a6 a7 a8 a9 b0 b1 oc b2 b3 b4 b5 ++ (jw_ws a1 cJ 616 cf))) (va_A (mo_ws m0 e0 (nI N) (nI n) (nI bc) (lN P) (lN Q) (lN G) (lN al) (lN pa) (lN pb) cl a0 a1 a2 a3 a4 a5 a6 a7 a8 a9 b0 b1 oc b2 b3 b4 b5 ++ (jw_ws a1 cJ 616 cf)) sz)) 0 0 (va_A (mo_ws m0 e0 (nI N) (nI n) (nI bc) (lN P) (lN Q) (lN G) (lN al) (lN pa) (lN pb) cl a0 a1 a2 a3 a4 a5 a6 a7 a8 a9 b0 b1 oc b2 b3 b4 b5 ++ (jw_ws a1 cJ 616 cf)) sz) := by
  refine Met.ofW (cc := b_Bm_chain) (maxL := 3) (ret := (some .long)) (by decide) rfl ?_
  intro p e s m args below meth c s₁ Bd hml hv
  obtain ⟨rfl, hsz, hP, hK, hD0⟩ := hv
  have hx := Bd.exec
  have hb := Bd.bytes
  have hr := Bd.returns
  have hts := atoms_spec (ws := w_Bm_chain) Bd.pre
  have hown : s.vm.findClass "BallotBoardModel" = some m.cls := findClass_of_methodNamed Bd.named
  have hlocks := Bd.notSynchronized
  subst hsz
  have hD := hD0.self (sz := s.heap.size)
  generalize hAe : va_A (mo_ws m0 e0 (nI N) (nI n) (nI bc) (lN P) (lN Q) (lN G) (lN al) (lN pa) (lN pb) cl a0 a1 a2 a3 a4 a5 a6 a7 a8 a9 b0 b1 oc b2 b3 b4 b5 ++ (jw_ws a1 cJ 616 cf)) s.heap.size = A at hD ⊢
  have hA : ∀ q : Nat, s.heap.size ≤ q → A q := fun q h => by rw [← hAe]; exact Or.inr h
  have hS : va_S A s.heap s.heap [] := va_S.rf
  have hl := lv_entry ([.ref m0, .int x1, .int x2]) (n := 3) (Nat.le_of_ble_eq_true rfl)
  rw [lg_entry_eq]
  generalize (lg_sl ([.ref m0, .int x1, .int x2]) ++ List.replicate (3 - (lg_sl ([.ref m0, .int x1, .int x2])).length) Slot.unset).toArray = ls at hl ⊢
  have hl : lv_has ls 3 [(0, .ref m0), (1, .int x1), (2, .int x2)] := hl
  refine lv_aload_n hx hb d_Bm_chain_0 rfl (lv_at hl 0 rfl) ?_
  refine lv_iconst (v := 0) hx hb d_Bm_chain_1 (by decide) ?_
  refine va_put (D := (dC, dI)) (ci := 8) (v := .int 0) (ty := .int) (C := "BallotBoardModel") (T := F_Bm) (N := 28) hx hb hts (fun w9 h9 => List.mem_cons_of_mem _ (i_Bm w9 h9)) t_Bm t_Bm_ok n_Bm hown hK hP hD hS 0 rfl rfl 0 (by decide) (hts _ (List.mem_cons_of_mem _ gk_919)) (fun _ h9 => h9) rfl (by decide +kernel) rfl rfl (Nat.le_of_ble_eq_true rfl) d_Bm_chain_2 (fun H locs hP hD hS => ?_)
  have hP : va_P (dC, dI) classes [(m0, .inr (8, [.int 0, .int (nI N), .int (nI n), .int (nI bc), .long (lN P), .long (lN Q), .long (lN G), .long (lN al), .long (lN pa), .long (lN pb), .int cl, .ref a0, .ref a1, .ref a2, .ref a3, .ref a4, .ref a5, .ref a6, .ref a7, .ref a8, .ref a9, .ref b0, .ref b1, .int (nI oc), .ref b2, .ref b3, .ref b4, .ref b5])), (a1, .inl (cJ, 616, .inr (.inl cf)))] H := hP
  have hD : va_D A [(m0, .inr (8, [.int 0, .int (nI N), .int (nI n), .int (nI bc), .long (lN P), .long (lN Q), .long (lN G), .long (lN al), .long (lN pa), .long (lN pb), .int cl, .ref a0, .ref a1, .ref a2, .ref a3, .ref a4, .ref a5, .ref a6, .ref a7, .ref a8, .ref a9, .ref b0, .ref b1, .int (nI oc), .ref b2, .ref b3, .ref b4, .ref b5])), (a1, .inl (cJ, 616, .inr (.inl cf)))] := hD
  refine lv_aload_n hx hb d_Bm_chain_5 rfl (lv_at hl 0 rfl) ?_
  refine lv_iload_n hx hb d_Bm_chain_6 rfl (lv_at hl 1 rfl) ?_
  refine lv_iconst (v := 0) hx hb d_Bm_chain_7 (by decide) ?_
  refine lv_aload_n hx hb d_Bm_chain_8 rfl (lv_at hl 0 rfl) ?_
  refine va_get (D := (dC, dI)) (ci := 8) (v := .int (nI n)) (C := "BallotBoardModel") (T := F_Bm) (N := 28) hx hb hts (fun w9 h9 => List.mem_cons_of_mem _ (i_Bm w9 h9)) hown hK hP 0 rfl rfl 2 (by decide) (hts _ (List.mem_cons_of_mem _ gk_921)) (fun _ h9 => h9) rfl d_Bm_chain_9 ?_
  refine lv_iconst (v := 1) hx hb d_Bm_chain_12 (by decide) ?_
  refine lv_isub hx hb d_Bm_chain_13 ?_
  refine va_calli (va_runS (As := [.int x1, .int 0, .int ((nI n) - 1)]) (rest := [.ref m0]) ⟨hx, hb, hml, hown, hts⟩ (c_Bm_in l H x1 0 ((nI n) - 1)) (cwS 3 hts (gw_S gk_1027 gk_1028 gk_7 gk_1029) rfl rfl rfl (by decide +kernel) ⟨Nat.le_of_ble_eq_true rfl, Nat.le_of_ble_eq_true rfl⟩) ⟨fun a U g mk q => q, fun U hU hW => ⟨rfl, hU⟩⟩ rfl rfl hl.1 rfl (lv_room (Nat.le_of_ble_eq_true rfl)) d_Bm_chain_14 ⟨Nat.le_of_ble_eq_true rfl, Nat.le_of_ble_eq_true rfl⟩) hS (fun q _ h => h.elim) (fun q h => h.elim) (fun r14 u9 t9 H1 locs ht hvm hw hB hz1 hk1 hS => ?_)
  obtain rfl : H = H1 := hB.symm.trans ht
  have h14 : bz r14 (inN x1 n) := bz_inG (by omega) hw
  refine lv_if_eq (tgt := 29) hx hb d_Bm_chain_17 (by decide) (fun c_1 => ?_) (fun c_1 => ?_)
  · -- taken
    have bo14 := bz_f h14 c_1
    refine lv_iconst (v := 1) hx hb d_Bm_chain_29 (by decide) ?_
    refine lv_goto (tgt := 34) hx hb d_Bm_chain_30 (by decide) ?_
    refine lv_iconst (v := 1) hx hb d_Bm_chain_34 (by decide) ?_
    have hPc := hP.sub (ws' := (mo_ws m0 0 (nI N) (nI n) (nI bc) (lN P) (lN Q) (lN G) (lN al) (lN pa) (lN pb) cl a0 a1 a2 a3 a4 a5 a6 a7 a8 a9 b0 b1 oc b2 b3 b4 b5)) [0] rfl
    have hDc := hD.sub (ws' := (mo_ws m0 0 (nI N) (nI n) (nI bc) (lN P) (lN Q) (lN G) (lN al) (lN pa) (lN pb) cl a0 a1 a2 a3 a4 a5 a6 a7 a8 a9 b0 b1 oc b2 b3 b4 b5)) [0] (by decide) rfl
    have hKc := hK.sub (tys' := [(cJ, .long), (cI, .int)]) [0, 1] rfl
    have hFc := va_free (wc := (mo_ws m0 0 (nI N) (nI n) (nI bc) (lN P) (lN Q) (lN G) (lN al) (lN pa) (lN pb) cl a0 a1 a2 a3 a4 a5 a6 a7 a8 a9 b0 b1 oc b2 b3 b4 b5)) hD hS hA [0] rfl
    refine va_calli (va_runV (As := [.int 1, .int 1]) (rest := []) ⟨hx, hb, hml, hown, hts⟩ (c_Bm_fails_1 l dC dI cJ cI H.size m0 (nI N) (nI n) (nI bc) (lN P) (lN Q) (lN G) (lN al) (lN pa) (lN pb) cl a0 a1 a2 a3 a4 a5 a6 a7 a8 a9 b0 b1 oc b2 b3 b4 b5 1 (by decide)) (cwV 2 hts (gw_V gk_1030 gk_1032 gp_27 gk_7 gk_1033) rfl rfl rfl (by decide +kernel) ⟨Nat.le_of_ble_eq_true rfl, Nat.le_of_ble_eq_true rfl⟩) ⟨fun a U g mk q => by obtain ⟨q0, q1, qP, qK, qD⟩ := q; exact ⟨q0, q1, qP, va_K.moved (u := U) (U := U.calling g mk a) (Vm.Alike.refl U.vm) qK, qD⟩, va_recv hK hP (ci := 8) (q0 := 0) rfl rfl, fun U hU hW => ⟨rfl, by rw [hU], by rw [hU]; exact hPc, va_K.moved hW.alike hKc, hDc.weaken (fun _ _ _ _ => trivial)⟩⟩ rfl rfl hl.1 rfl (lv_room (Nat.le_of_ble_eq_true rfl)) d_Bm_chain_35 ⟨Nat.le_of_ble_eq_true rfl, Nat.le_of_ble_eq_true rfl⟩) hS (fun q _ h => hFc q h) hFc (fun r_2 u9 t9 H1 locs ht hvm hw hB hz1 hk1 hS => ?_)
    have hw : r_2 = 1 := hw
    subst hw
    obtain ⟨hP1, hK1, hD1⟩ := hB
    rw [ht] at hP1
    obtain ⟨hP, hD⟩ := va_join (wr := [(a1, .inl (cJ, 616, .inr (.inl cf)))]) (w1 := [(m0, .inr (8, [.int 1, .int (nI N), .int (nI n), .int (nI bc), .long (lN P), .long (lN Q), .long (lN G), .long (lN al), .long (lN pa), .long (lN pb), .int cl, .ref a0, .ref a1, .ref a2, .ref a3, .ref a4, .ref a5, .ref a6, .ref a7, .ref a8, .ref a9, .ref b0, .ref b1, .int (nI oc), .ref b2, .ref b3, .ref b4, .ref b5]))]) hP hD [0] [1] rfl rfl (by decide) (by decide) hk1 hFc hP1 hD1
    have hP := hP.sub (ws' := [(m0, .inr (8, [.int 1, .int (nI N), .int (nI n), .int (nI bc), .long (lN P), .long (lN Q), .long (lN G), .long (lN al), .long (lN pa), .long (lN pb), .int cl, .ref a0, .ref a1, .ref a2, .ref a3, .ref a4, .ref a5, .ref a6, .ref a7, .ref a8, .ref a9, .ref b0, .ref b1, .int (nI oc), .ref b2, .ref b3, .ref b4, .ref b5])), (a1, .inl (cJ, 616, .inr (.inl cf)))]) [1, 0] rfl
    have hD := hD.sub (ws' := [(m0, .inr (8, [.int 1, .int (nI N), .int (nI n), .int (nI bc), .long (lN P), .long (lN Q), .long (lN G), .long (lN al), .long (lN pa), .long (lN pb), .int cl, .ref a0, .ref a1, .ref a2, .ref a3, .ref a4, .ref a5, .ref a6, .ref a7, .ref a8, .ref a9, .ref b0, .ref b1, .int (nI oc), .ref b2, .ref b3, .ref b4, .ref b5])), (a1, .inl (cJ, 616, .inr (.inl cf)))]) [1, 0] (by decide) rfl
    generalize H1 = H at hP hS ⊢
    refine lv_if_eq (tgt := 43) hx hb d_Bm_chain_38 (by decide) (fun c_3 => ?_) (fun c_3 => ?_)
    · -- taken
      exact absurd c_3 (by decide)
    · -- not taken
      refine lv_lconst (v := 0) hx hb d_Bm_chain_41 (by decide) ?_
      exact W.lret (v := 0) hx hb hr (fun t ht9 hW => ⟨⟨_, (), rfl, trivial, by rw [ht9]; exact hP, va_K.moved hW.alike hK, hD⟩, hS.F ht9⟩) hS.2.2 d_Bm_chain_42
  · -- not taken
    obtain ⟨k, rfl, hk⟩ := bz_t h14 c_1
    refine lv_iload_n hx hb d_Bm_chain_20 rfl (lv_at hl 2 rfl) ?_
    refine lv_iconst (v := 0) hx hb d_Bm_chain_21 (by decide) ?_
    refine lv_iconst (v := 3) hx hb d_Bm_chain_22 (by decide) ?_
    rw [show (3 : Int32) = (nI (4 - 1)) from rfl]
    refine va_calli (va_runS (As := [.int x2, .int 0, .int (nI (4 - 1))]) (rest := [.ref m0]) ⟨hx, hb, hml, hown, hts⟩ (c_Bm_in l H x2 0 (nI (4 - 1))) (cwS 3 hts (gw_S gk_1027 gk_1028 gk_7 gk_1029) rfl rfl rfl (by decide +kernel) ⟨Nat.le_of_ble_eq_true rfl, Nat.le_of_ble_eq_true rfl⟩) ⟨fun a U g mk q => q, fun U hU hW => ⟨rfl, hU⟩⟩ rfl rfl hl.1 rfl (lv_room (Nat.le_of_ble_eq_true rfl)) d_Bm_chain_23 ⟨Nat.le_of_ble_eq_true rfl, Nat.le_of_ble_eq_true rfl⟩) hS (fun q _ h => h.elim) (fun q h => h.elim) (fun r23 u9 t9 H1 locs ht hvm hw hB hz1 hk1 hS => ?_)
    obtain rfl : H = H1 := hB.symm.trans ht
    have h23 : bz r23 (inN x2 4) := bz_in (by omega) (by omega) rfl hw
    refine lv_if_ne (tgt := 33) hx hb d_Bm_chain_26 (by decide) (fun c_4 => ?_) (fun c_4 => ?_)
    · -- taken
      exfalso
      obtain ⟨J, e2, hJ⟩ := bz_t h23 c_4
      exact hC ⟨k, J, rfl, hk, e2, hJ⟩
    · -- not taken
      have bo23 := bz_f h23 c_4
      refine lv_iconst (v := 1) hx hb d_Bm_chain_29 (by decide) ?_
      refine lv_goto (tgt := 34) hx hb d_Bm_chain_30 (by decide) ?_
      refine lv_iconst (v := 1) hx hb d_Bm_chain_34 (by decide) ?_
      have hPc := hP.sub (ws' := (mo_ws m0 0 (nI N) (nI n) (nI bc) (lN P) (lN Q) (lN G) (lN al) (lN pa) (lN pb) cl a0 a1 a2 a3 a4 a5 a6 a7 a8 a9 b0 b1 oc b2 b3 b4 b5)) [0] rfl
      have hDc := hD.sub (ws' := (mo_ws m0 0 (nI N) (nI n) (nI bc) (lN P) (lN Q) (lN G) (lN al) (lN pa) (lN pb) cl a0 a1 a2 a3 a4 a5 a6 a7 a8 a9 b0 b1 oc b2 b3 b4 b5)) [0] (by decide) rfl
      have hKc := hK.sub (tys' := [(cJ, .long), (cI, .int)]) [0, 1] rfl
      have hFc := va_free (wc := (mo_ws m0 0 (nI N) (nI n) (nI bc) (lN P) (lN Q) (lN G) (lN al) (lN pa) (lN pb) cl a0 a1 a2 a3 a4 a5 a6 a7 a8 a9 b0 b1 oc b2 b3 b4 b5)) hD hS hA [0] rfl
      refine va_calli (va_runV (As := [.int 1, .int 1]) (rest := []) ⟨hx, hb, hml, hown, hts⟩ (c_Bm_fails_1 l dC dI cJ cI H.size m0 (nI N) (nI n) (nI bc) (lN P) (lN Q) (lN G) (lN al) (lN pa) (lN pb) cl a0 a1 a2 a3 a4 a5 a6 a7 a8 a9 b0 b1 oc b2 b3 b4 b5 1 (by decide)) (cwV 2 hts (gw_V gk_1030 gk_1032 gp_27 gk_7 gk_1033) rfl rfl rfl (by decide +kernel) ⟨Nat.le_of_ble_eq_true rfl, Nat.le_of_ble_eq_true rfl⟩) ⟨fun a U g mk q => by obtain ⟨q0, q1, qP, qK, qD⟩ := q; exact ⟨q0, q1, qP, va_K.moved (u := U) (U := U.calling g mk a) (Vm.Alike.refl U.vm) qK, qD⟩, va_recv hK hP (ci := 8) (q0 := 0) rfl rfl, fun U hU hW => ⟨rfl, by rw [hU], by rw [hU]; exact hPc, va_K.moved hW.alike hKc, hDc.weaken (fun _ _ _ _ => trivial)⟩⟩ rfl rfl hl.1 rfl (lv_room (Nat.le_of_ble_eq_true rfl)) d_Bm_chain_35 ⟨Nat.le_of_ble_eq_true rfl, Nat.le_of_ble_eq_true rfl⟩) hS (fun q _ h => hFc q h) hFc (fun r_5 u9 t9 H1 locs ht hvm hw hB hz1 hk1 hS => ?_)
      have hw : r_5 = 1 := hw
      subst hw
      obtain ⟨hP1, hK1, hD1⟩ := hB
      rw [ht] at hP1
      obtain ⟨hP, hD⟩ := va_join (wr := [(a1, .inl (cJ, 616, .inr (.inl cf)))]) (w1 := [(m0, .inr (8, [.int 1, .int (nI N), .int (nI n), .int (nI bc), .long (lN P), .long (lN Q), .long (lN G), .long (lN al), .long (lN pa), .long (lN pb), .int cl, .ref a0, .ref a1, .ref a2, .ref a3, .ref a4, .ref a5, .ref a6, .ref a7, .ref a8, .ref a9, .ref b0, .ref b1, .int (nI oc), .ref b2, .ref b3, .ref b4, .ref b5]))]) hP hD [0] [1] rfl rfl (by decide) (by decide) hk1 hFc hP1 hD1
      have hP := hP.sub (ws' := [(m0, .inr (8, [.int 1, .int (nI N), .int (nI n), .int (nI bc), .long (lN P), .long (lN Q), .long (lN G), .long (lN al), .long (lN pa), .long (lN pb), .int cl, .ref a0, .ref a1, .ref a2, .ref a3, .ref a4, .ref a5, .ref a6, .ref a7, .ref a8, .ref a9, .ref b0, .ref b1, .int (nI oc), .ref b2, .ref b3, .ref b4, .ref b5])), (a1, .inl (cJ, 616, .inr (.inl cf)))]) [1, 0] rfl
      have hD := hD.sub (ws' := [(m0, .inr (8, [.int 1, .int (nI N), .int (nI n), .int (nI bc), .long (lN P), .long (lN Q), .long (lN G), .long (lN al), .long (lN pa), .long (lN pb), .int cl, .ref a0, .ref a1, .ref a2, .ref a3, .ref a4, .ref a5, .ref a6, .ref a7, .ref a8, .ref a9, .ref b0, .ref b1, .int (nI oc), .ref b2, .ref b3, .ref b4, .ref b5])), (a1, .inl (cJ, 616, .inr (.inl cf)))]) [1, 0] (by decide) rfl
      generalize H1 = H at hP hS ⊢
      refine lv_if_eq (tgt := 43) hx hb d_Bm_chain_38 (by decide) (fun c_6 => ?_) (fun c_6 => ?_)
      · -- taken
        exact absurd c_6 (by decide)
      · -- not taken
        refine lv_lconst (v := 0) hx hb d_Bm_chain_41 (by decide) ?_
        exact W.lret (v := 0) hx hb hr (fun t ht9 hW => ⟨⟨_, (), rfl, trivial, by rw [ht9]; exact hP, va_K.moved hW.alike hK, hD⟩, hS.F ht9⟩) hS.2.2 d_Bm_chain_42
set_option maxHeartbeats 8000000 in
set_option maxRecDepth 100000 in
theorem c_Bm_chain_0 (l : Launch) (dC : Nat → ClassId) (dI : Nat → Nat → Nat) (cJ cI : ClassId) (sz : Nat) (m0 : Nat) (e0 : Int32) (N n bc P Q G al pa pb : Nat) (cl : Int32) (a0 a1 a2 a3 a4 a5 a6 a7 a8 a9 b0 b1 oc b2 b3 b4 b5 : Nat) (cf : Nat → Int64) (k J : Nat) (hn : n ≤ 154) (hk : k < n) (hJ : J < 4) : Met l y_Bm_chain w_Bm_chain ({ frames := 1, cells := 0, slots := 0, locals := 22 }) (va_Pc [.ref m0, .int (nI k), .int (nI J)] (fun U => U.heap.size = sz ∧ va_P (dC, dI) classes (mo_ws m0 e0 (nI N) (nI n) (nI bc) (lN P) (lN Q) (lN G) (lN al) (lN pa) (lN pb) cl a0 a1 a2 a3 a4 a5 a6 a7 a8 a9 b0 b1 oc b2 b3 b4 b5 ++ (jw_ws a1 cJ 616 cf)) U.heap ∧ va_K (dC, dI) classes [(cJ, .long), (cI, .int)] U ∧ va_D (fun _ => True) (mo_ws m0 e0 (nI N) (nI n) (nI bc) (lN P) (lN Q) (lN G) (lN al) (lN pa) (lN pb) cl a0 a1 a2 a3 a4 a5 a6 a7 a8 a9 b0 b1 oc b2 b3 b4 b5 ++ (jw_ws a1 cJ 616 cf)))) (va_Ql (fun (r : Int64) (_ : Unit) => r = cf (4 * k + J)) (fun _ t => va_P (dC, dI) classes (mo_ws m0 0 (nI N) (nI n) (nI bc) (lN P) (lN Q) (lN G) (lN al) (lN pa) (lN pb) cl a0 a1 a2 a3 a4 a5 a6 a7 a8 a9 b0 b1 oc b2 b3 b4 b5 ++ (jw_ws a1 cJ 616 cf)) t.heap ∧ va_K (dC, dI) classes [(cJ, .long), (cI, .int)] t ∧ va_D (va_A (mo_ws m0 e0 (nI N) (nI n) (nI bc) (lN P) (lN Q) (lN G) (lN al) (lN pa) (lN pb) cl a0 a1 a2 a3 a4 a5 a6 a7 a8 a9 b0 b1 oc b2 b3 b4 b5 ++ (jw_ws a1 cJ 616 cf)) sz) (mo_ws m0 0 (nI N) (nI n) (nI bc) (lN P) (lN Q) (lN G) (lN al) (lN pa) (lN pb) cl a0 a1 a2 a3 a4 a5 a6 a7 a8 a9 b0 b1 oc b2 b3 b4 b5 ++ (jw_ws a1 cJ 616 cf))) (va_A (mo_ws m0 e0 (nI N) (nI n) (nI bc) (lN P) (lN Q) (lN G) (lN al) (lN pa) (lN pb) cl a0 a1 a2 a3 a4 a5 a6 a7 a8 a9 b0 b1 oc b2 b3 b4 b5 ++ (jw_ws a1 cJ 616 cf)) sz)) 0 0 (va_A (mo_ws m0 e0 (nI N) (nI n) (nI bc) (lN P) (lN Q) (lN G) (lN al) (lN pa) (lN pb) cl a0 a1 a2 a3 a4 a5 a6 a7 a8 a9 b0 b1 oc b2 b3 b4 b5 ++ (jw_ws a1 cJ 616 cf)) sz) := by
  refine Met.ofW (cc := b_Bm_chain) (maxL := 3) (ret := (some .long)) (by decide) rfl ?_
  intro p e s m args below meth c s₁ Bd hml hv
  obtain ⟨rfl, hsz, hP, hK, hD0⟩ := hv
  have hx := Bd.exec
  have hb := Bd.bytes
  have hr := Bd.returns
  have hts := atoms_spec (ws := w_Bm_chain) Bd.pre
  have hown : s.vm.findClass "BallotBoardModel" = some m.cls := findClass_of_methodNamed Bd.named
  have hlocks := Bd.notSynchronized
  subst hsz
  have hD := hD0.self (sz := s.heap.size)
  generalize hAe : va_A (mo_ws m0 e0 (nI N) (nI n) (nI bc) (lN P) (lN Q) (lN G) (lN al) (lN pa) (lN pb) cl a0 a1 a2 a3 a4 a5 a6 a7 a8 a9 b0 b1 oc b2 b3 b4 b5 ++ (jw_ws a1 cJ 616 cf)) s.heap.size = A at hD ⊢
  have hA : ∀ q : Nat, s.heap.size ≤ q → A q := fun q h => by rw [← hAe]; exact Or.inr h
  have hS : va_S A s.heap s.heap [] := va_S.rf
  have hl := lv_entry ([.ref m0, .int (nI k), .int (nI J)]) (n := 3) (Nat.le_of_ble_eq_true rfl)
  rw [lg_entry_eq]
  generalize (lg_sl ([.ref m0, .int (nI k), .int (nI J)]) ++ List.replicate (3 - (lg_sl ([.ref m0, .int (nI k), .int (nI J)])).length) Slot.unset).toArray = ls at hl ⊢
  have hl : lv_has ls 3 [(0, .ref m0), (1, .int (nI k)), (2, .int (nI J))] := hl
  refine lv_aload_n hx hb d_Bm_chain_0 rfl (lv_at hl 0 rfl) ?_
  refine lv_iconst (v := 0) hx hb d_Bm_chain_1 (by decide) ?_
  refine va_put (D := (dC, dI)) (ci := 8) (v := .int 0) (ty := .int) (C := "BallotBoardModel") (T := F_Bm) (N := 28) hx hb hts (fun w9 h9 => List.mem_cons_of_mem _ (i_Bm w9 h9)) t_Bm t_Bm_ok n_Bm hown hK hP hD hS 0 rfl rfl 0 (by decide) (hts _ (List.mem_cons_of_mem _ gk_919)) (fun _ h9 => h9) rfl (by decide +kernel) rfl rfl (Nat.le_of_ble_eq_true rfl) d_Bm_chain_2 (fun H locs hP hD hS => ?_)
  have hP : va_P (dC, dI) classes [(m0, .inr (8, [.int 0, .int (nI N), .int (nI n), .int (nI bc), .long (lN P), .long (lN Q), .long (lN G), .long (lN al), .long (lN pa), .long (lN pb), .int cl, .ref a0, .ref a1, .ref a2, .ref a3, .ref a4, .ref a5, .ref a6, .ref a7, .ref a8, .ref a9, .ref b0, .ref b1, .int (nI oc), .ref b2, .ref b3, .ref b4, .ref b5])), (a1, .inl (cJ, 616, .inr (.inl cf)))] H := hP
  have hD : va_D A [(m0, .inr (8, [.int 0, .int (nI N), .int (nI n), .int (nI bc), .long (lN P), .long (lN Q), .long (lN G), .long (lN al), .long (lN pa), .long (lN pb), .int cl, .ref a0, .ref a1, .ref a2, .ref a3, .ref a4, .ref a5, .ref a6, .ref a7, .ref a8, .ref a9, .ref b0, .ref b1, .int (nI oc), .ref b2, .ref b3, .ref b4, .ref b5])), (a1, .inl (cJ, 616, .inr (.inl cf)))] := hD
  refine lv_aload_n hx hb d_Bm_chain_5 rfl (lv_at hl 0 rfl) ?_
  refine lv_iload_n hx hb d_Bm_chain_6 rfl (lv_at hl 1 rfl) ?_
  refine lv_iconst (v := 0) hx hb d_Bm_chain_7 (by decide) ?_
  refine lv_aload_n hx hb d_Bm_chain_8 rfl (lv_at hl 0 rfl) ?_
  refine va_get (D := (dC, dI)) (ci := 8) (v := .int (nI n)) (C := "BallotBoardModel") (T := F_Bm) (N := 28) hx hb hts (fun w9 h9 => List.mem_cons_of_mem _ (i_Bm w9 h9)) hown hK hP 0 rfl rfl 2 (by decide) (hts _ (List.mem_cons_of_mem _ gk_921)) (fun _ h9 => h9) rfl d_Bm_chain_9 ?_
  refine lv_iconst (v := 1) hx hb d_Bm_chain_12 (by decide) ?_
  refine lv_isub hx hb d_Bm_chain_13 ?_
  refine va_calli (va_runS (As := [.int (nI k), .int 0, .int ((nI n) - 1)]) (rest := [.ref m0]) ⟨hx, hb, hml, hown, hts⟩ (c_Bm_in l H (nI k) 0 ((nI n) - 1)) (cwS 3 hts (gw_S gk_1027 gk_1028 gk_7 gk_1029) rfl rfl rfl (by decide +kernel) ⟨Nat.le_of_ble_eq_true rfl, Nat.le_of_ble_eq_true rfl⟩) ⟨fun a U g mk q => q, fun U hU hW => ⟨rfl, hU⟩⟩ rfl rfl hl.1 rfl (lv_room (Nat.le_of_ble_eq_true rfl)) d_Bm_chain_14 ⟨Nat.le_of_ble_eq_true rfl, Nat.le_of_ble_eq_true rfl⟩) hS (fun q _ h => h.elim) (fun q h => h.elim) (fun r14 u9 t9 H1 locs ht hvm hw hB hz1 hk1 hS => ?_)
  obtain rfl : H = H1 := hB.symm.trans ht
  have h14 : bz r14 (inN (nI k) n) := bz_inG (by omega) hw
  refine lv_if_eq (tgt := 29) hx hb d_Bm_chain_17 (by decide) (fun c_1 => ?_) (fun c_1 => ?_)
  · -- taken
    exact absurd (⟨k, rfl, hk⟩ : inN (nI k) n) (bz_f h14 c_1)
  · -- not taken
    have bo14 := bz_t h14 c_1
    refine lv_iload_n hx hb d_Bm_chain_20 rfl (lv_at hl 2 rfl) ?_
    refine lv_iconst (v := 0) hx hb d_Bm_chain_21 (by decide) ?_
    refine lv_iconst (v := 3) hx hb d_Bm_chain_22 (by decide) ?_
    rw [show (3 : Int32) = (nI (4 - 1)) from rfl]
    refine va_calli (va_runS (As := [.int (nI J), .int 0, .int (nI (4 - 1))]) (rest := [.ref m0]) ⟨hx, hb, hml, hown, hts⟩ (c_Bm_in l H (nI J) 0 (nI (4 - 1))) (cwS 3 hts (gw_S gk_1027 gk_1028 gk_7 gk_1029) rfl rfl rfl (by decide +kernel) ⟨Nat.le_of_ble_eq_true rfl, Nat.le_of_ble_eq_true rfl⟩) ⟨fun a U g mk q => q, fun U hU hW => ⟨rfl, hU⟩⟩ rfl rfl hl.1 rfl (lv_room (Nat.le_of_ble_eq_true rfl)) d_Bm_chain_23 ⟨Nat.le_of_ble_eq_true rfl, Nat.le_of_ble_eq_true rfl⟩) hS (fun q _ h => h.elim) (fun q h => h.elim) (fun r23 u9 t9 H1 locs ht hvm hw hB hz1 hk1 hS => ?_)
    obtain rfl : H = H1 := hB.symm.trans ht
    have h23 : bz r23 (inN (nI J) 4) := bz_in (by omega) (by omega) rfl hw
    refine lv_if_ne (tgt := 33) hx hb d_Bm_chain_26 (by decide) (fun c_2 => ?_) (fun c_2 => ?_)
    · -- taken
      have bo23 := bz_t h23 c_2
      refine lv_iconst (v := 0) hx hb d_Bm_chain_33 (by decide) ?_
      refine lv_iconst (v := 1) hx hb d_Bm_chain_34 (by decide) ?_
      have hPc := hP.sub (ws' := (mo_ws m0 0 (nI N) (nI n) (nI bc) (lN P) (lN Q) (lN G) (lN al) (lN pa) (lN pb) cl a0 a1 a2 a3 a4 a5 a6 a7 a8 a9 b0 b1 oc b2 b3 b4 b5)) [0] rfl
      have hDc := hD.sub (ws' := (mo_ws m0 0 (nI N) (nI n) (nI bc) (lN P) (lN Q) (lN G) (lN al) (lN pa) (lN pb) cl a0 a1 a2 a3 a4 a5 a6 a7 a8 a9 b0 b1 oc b2 b3 b4 b5)) [0] (by decide) rfl
      have hKc := hK.sub (tys' := [(cJ, .long), (cI, .int)]) [0, 1] rfl
      have hFc := va_free (wc := (mo_ws m0 0 (nI N) (nI n) (nI bc) (lN P) (lN Q) (lN G) (lN al) (lN pa) (lN pb) cl a0 a1 a2 a3 a4 a5 a6 a7 a8 a9 b0 b1 oc b2 b3 b4 b5)) hD hS hA [0] rfl
      refine va_calli (va_runV (As := [.int 0, .int 1]) (rest := []) ⟨hx, hb, hml, hown, hts⟩ (c_Bm_fails_0 l dC dI cJ cI H.size m0 (nI N) (nI n) (nI bc) (lN P) (lN Q) (lN G) (lN al) (lN pa) (lN pb) cl a0 a1 a2 a3 a4 a5 a6 a7 a8 a9 b0 b1 oc b2 b3 b4 b5 1) (cwV 2 hts (gw_V gk_1030 gk_1032 gp_27 gk_7 gk_1033) rfl rfl rfl (by decide +kernel) ⟨Nat.le_of_ble_eq_true rfl, Nat.le_of_ble_eq_true rfl⟩) ⟨fun a U g mk q => by obtain ⟨q0, q1, qP, qK, qD⟩ := q; exact ⟨q0, q1, qP, va_K.moved (u := U) (U := U.calling g mk a) (Vm.Alike.refl U.vm) qK, qD⟩, va_recv hK hP (ci := 8) (q0 := 0) rfl rfl, fun U hU hW => ⟨rfl, by rw [hU], by rw [hU]; exact hPc, va_K.moved hW.alike hKc, hDc.weaken (fun _ _ _ _ => trivial)⟩⟩ rfl rfl hl.1 rfl (lv_room (Nat.le_of_ble_eq_true rfl)) d_Bm_chain_35 ⟨Nat.le_of_ble_eq_true rfl, Nat.le_of_ble_eq_true rfl⟩) hS (fun q _ h => hFc q h) hFc (fun r_3 u9 t9 H1 locs ht hvm hw hB hz1 hk1 hS => ?_)
      have hw : r_3 = 0 := hw
      subst hw
      obtain ⟨hP1, hK1, hD1⟩ := hB
      rw [ht] at hP1
      obtain ⟨hP, hD⟩ := va_join (wr := [(a1, .inl (cJ, 616, .inr (.inl cf)))]) (w1 := [(m0, .inr (8, [.int 0, .int (nI N), .int (nI n), .int (nI bc), .long (lN P), .long (lN Q), .long (lN G), .long (lN al), .long (lN pa), .long (lN pb), .int cl, .ref a0, .ref a1, .ref a2, .ref a3, .ref a4, .ref a5, .ref a6, .ref a7, .ref a8, .ref a9, .ref b0, .ref b1, .int (nI oc), .ref b2, .ref b3, .ref b4, .ref b5]))]) hP hD [0] [1] rfl rfl (by decide) (by decide) hk1 hFc hP1 hD1
      have hP := hP.sub (ws' := [(m0, .inr (8, [.int 0, .int (nI N), .int (nI n), .int (nI bc), .long (lN P), .long (lN Q), .long (lN G), .long (lN al), .long (lN pa), .long (lN pb), .int cl, .ref a0, .ref a1, .ref a2, .ref a3, .ref a4, .ref a5, .ref a6, .ref a7, .ref a8, .ref a9, .ref b0, .ref b1, .int (nI oc), .ref b2, .ref b3, .ref b4, .ref b5])), (a1, .inl (cJ, 616, .inr (.inl cf)))]) [1, 0] rfl
      have hD := hD.sub (ws' := [(m0, .inr (8, [.int 0, .int (nI N), .int (nI n), .int (nI bc), .long (lN P), .long (lN Q), .long (lN G), .long (lN al), .long (lN pa), .long (lN pb), .int cl, .ref a0, .ref a1, .ref a2, .ref a3, .ref a4, .ref a5, .ref a6, .ref a7, .ref a8, .ref a9, .ref b0, .ref b1, .int (nI oc), .ref b2, .ref b3, .ref b4, .ref b5])), (a1, .inl (cJ, 616, .inr (.inl cf)))]) [1, 0] (by decide) rfl
      generalize H1 = H at hP hS ⊢
      refine lv_if_eq (tgt := 43) hx hb d_Bm_chain_38 (by decide) (fun c_4 => ?_) (fun c_4 => ?_)
      · -- taken
        refine lv_aload_n hx hb d_Bm_chain_43 rfl (lv_at hl 0 rfl) ?_
        refine va_get (D := (dC, dI)) (ci := 8) (v := .ref a1) (C := "BallotBoardModel") (T := F_Bm) (N := 28) hx hb hts (fun w9 h9 => List.mem_cons_of_mem _ (i_Bm w9 h9)) hown hK hP 0 rfl rfl 12 (by decide) (hts _ (List.mem_cons_of_mem _ gk_931)) (fun _ h9 => h9) rfl d_Bm_chain_44 ?_
        refine lv_iconst (v := 4) hx hb d_Bm_chain_47 (by decide) ?_
        refine lv_iload_n hx hb d_Bm_chain_48 rfl (lv_at hl 1 rfl) ?_
        refine lv_imul hx hb d_Bm_chain_49 ?_
        rw [show (4 * (nI k) : Int32) = (nI (4 * k)) from pk_mul 4 k]
        refine lv_iload_n hx hb d_Bm_chain_50 rfl (lv_at hl 2 rfl) ?_
        refine lv_iadd hx hb d_Bm_chain_51 ?_
        rw [show ((nI (4 * k)) + (nI J) : Int32) = (nI (4 * k + J)) from nI_add _ J]
        refine va_lald hx hb hK hP 1 0 rfl rfl (vp_in_nI (by omega) (by omega)) d_Bm_chain_52 ?_
        rw [show (cf (nI (4 * k + J) : Int32).toNatClampNeg : Int64) = cf (4 * k + J) from by rw [nI_clamp (by omega)]]
        exact W.lret (v := (cf (4 * k + J))) hx hb hr (fun t ht9 hW => ⟨⟨_, (), rfl, rfl, by rw [ht9]; exact hP, va_K.moved hW.alike hK, hD⟩, hS.F ht9⟩) hS.2.2 d_Bm_chain_53
      · -- not taken
        exact absurd rfl c_4
    · -- not taken
      exact absurd (⟨J, rfl, hJ⟩ : inN (nI J) 4) (bz_f h23 c_2)
abbrev b_Bm_spoil : ByteArray := prog_10_method_47_code
abbrev y_Bm_spoil : MethodName := ⟨"BallotBoardModel", "spoil", "(IIJ)J"⟩
abbrev w_Bm_spoil : List Cond := .code y_Bm_spoil b_Bm_spoil 7 (some .long) :: gw
theorem d_Bm_spoil_0 : decode b_Bm_spoil 0 = .ok (.aload_n 0, 1) := by decide +kernel
theorem d_Bm_spoil_1 : decode b_Bm_spoil 1 = .ok (.iconst 0, 1) := by decide +kernel
theorem d_Bm_spoil_2 : decode b_Bm_spoil 2 = .ok (.putfield 131, 3) := by decide +kernel
theorem d_Bm_spoil_5 : decode b_Bm_spoil 5 = .ok (.aload_n 0, 1) := by decide +kernel
theorem d_Bm_spoil_6 : decode b_Bm_spoil 6 = .ok (.iload_n 1, 1) := by decide +kernel
theorem d_Bm_spoil_7 : decode b_Bm_spoil 7 = .ok (.iconst 0, 1) := by decide +kernel
theorem d_Bm_spoil_8 : decode b_Bm_spoil 8 = .ok (.aload_n 0, 1) := by decide +kernel
theorem d_Bm_spoil_9 : decode b_Bm_spoil 9 = .ok (.getfield 214, 3) := by decide +kernel
theorem d_Bm_spoil_12 : decode b_Bm_spoil 12 = .ok (.iconst 1, 1) := by decide +kernel
theorem d_Bm_spoil_13 : decode b_Bm_spoil 13 = .ok (.isub, 1) := by decide +kernel
theorem d_Bm_spoil_14 : decode b_Bm_spoil 14 = .ok (.invokestatic 203, 3) := by decide +kernel
theorem d_Bm_spoil_17 : decode b_Bm_spoil 17 = .ok (.ifCond .eq 22, 3) := by decide +kernel
theorem d_Bm_spoil_20 : decode b_Bm_spoil 20 = .ok (.iload_n 2, 1) := by decide +kernel
theorem d_Bm_spoil_21 : decode b_Bm_spoil 21 = .ok (.iconst 2, 1) := by decide +kernel
theorem d_Bm_spoil_22 : decode b_Bm_spoil 22 = .ok (.aload_n 0, 1) := by decide +kernel
theorem d_Bm_spoil_23 : decode b_Bm_spoil 23 = .ok (.iload_n 1, 1) := by decide +kernel
theorem d_Bm_spoil_24 : decode b_Bm_spoil 24 = .ok (.iconst 0, 1) := by decide +kernel
theorem d_Bm_spoil_25 : decode b_Bm_spoil 25 = .ok (.invokevirtual 236, 3) := by decide +kernel
theorem d_Bm_spoil_28 : decode b_Bm_spoil 28 = .ok (.invokestatic 240, 3) := by decide +kernel
theorem d_Bm_spoil_31 : decode b_Bm_spoil 31 = .ok (.iconst 1, 1) := by decide +kernel
theorem d_Bm_spoil_32 : decode b_Bm_spoil 32 = .ok (.isub, 1) := by decide +kernel
theorem d_Bm_spoil_33 : decode b_Bm_spoil 33 = .ok (.invokestatic 203, 3) := by decide +kernel
theorem d_Bm_spoil_36 : decode b_Bm_spoil 36 = .ok (.ifCond .ne 7, 3) := by decide +kernel
theorem d_Bm_spoil_39 : decode b_Bm_spoil 39 = .ok (.iconst 1, 1) := by decide +kernel
theorem d_Bm_spoil_40 : decode b_Bm_spoil 40 = .ok (.goto 4, 3) := by decide +kernel
theorem d_Bm_spoil_43 : decode b_Bm_spoil 43 = .ok (.iconst 0, 1) := by decide +kernel
theorem d_Bm_spoil_44 : decode b_Bm_spoil 44 = .ok (.iconst 1, 1) := by decide +kernel
theorem d_Bm_spoil_45 : decode b_Bm_spoil 45 = .ok (.invokevirtual 207, 3) := by decide +kernel
theorem d_Bm_spoil_48 : decode b_Bm_spoil 48 = .ok (.ifCond .eq 5, 3) := by decide +kernel
theorem d_Bm_spoil_51 : decode b_Bm_spoil 51 = .ok (.lconst 0, 1) := by decide +kernel
theorem d_Bm_spoil_52 : decode b_Bm_spoil 52 = .ok (.lreturn, 1) := by decide +kernel
theorem d_Bm_spoil_53 : decode b_Bm_spoil 53 = .ok (.aload_n 0, 1) := by decide +kernel
theorem d_Bm_spoil_54 : decode b_Bm_spoil 54 = .ok (.iload_n 1, 1) := by decide +kernel
theorem d_Bm_spoil_55 : decode b_Bm_spoil 55 = .ok (.iload_n 2, 1) := by decide +kernel
theorem d_Bm_spoil_56 : decode b_Bm_spoil 56 = .ok (.invokevirtual 236, 3) := by decide +kernel
theorem d_Bm_spoil_59 : decode b_Bm_spoil 59 = .ok (.lstore 5, 2) := by decide +kernel
theorem d_Bm_spoil_61 : decode b_Bm_spoil 61 = .ok (.aload_n 0, 1) := by decide +kernel
theorem d_Bm_spoil_62 : decode b_Bm_spoil 62 = .ok (.getfield 9, 3) := by decide +kernel
theorem d_Bm_spoil_65 : decode b_Bm_spoil 65 = .ok (.bipush 8, 2) := by decide +kernel
theorem d_Bm_spoil_67 : decode b_Bm_spoil 67 = .ok (.iload_n 1, 1) := by decide +kernel
theorem d_Bm_spoil_68 : decode b_Bm_spoil 68 = .ok (.imul, 1) := by decide +kernel
theorem d_Bm_spoil_69 : decode b_Bm_spoil 69 = .ok (.iload_n 2, 1) := by decide +kernel
theorem d_Bm_spoil_70 : decode b_Bm_spoil 70 = .ok (.iadd, 1) := by decide +kernel
theorem d_Bm_spoil_71 : decode b_Bm_spoil 71 = .ok (.lload_n 3, 1) := by decide +kernel
theorem d_Bm_spoil_72 : decode b_Bm_spoil 72 = .ok (.lastore, 1) := by decide +kernel
theorem d_Bm_spoil_73 : decode b_Bm_spoil 73 = .ok (.lload 5, 2) := by decide +kernel
theorem d_Bm_spoil_75 : decode b_Bm_spoil 75 = .ok (.lreturn, 1) := by decide +kernel
set_option maxHeartbeats 8000000 in
set_option maxRecDepth 100000 in
theorem c_Bm_spoil_1 (l : Launch) (dC : Nat → ClassId) (dI : Nat → Nat → Nat) (cJ cI : ClassId) (sz : Nat) (m0 : Nat) (e0 : Int32) (N n bc P Q G al pa pb : Nat) (cl : Int32) (a0 a1 a2 a3 a4 a5 a6 a7 a8 a9 b0 b1 oc b2 b3 b4 b5 : Nat) (nf : Nat → Int64) (kd : Nat → Nat) (x1 x2 : Int32) (x3 : Int64) (hn : n ≤ 154) (hnf : ∀ k, k < n → (nf (8 * k + 0) = lN (kd k) ∧ kd k < 4)) (hC : noS n kd x1 x2) : Met l y_Bm_spoil w_Bm_spoil ({ frames := 1, cells := 0, slots := 0, locals := 22 }) (va_Pc [.ref m0, .int x1, .int x2, .long x3] (fun U => U.heap.size = sz ∧ va_P (dC, dI) classes (mo_ws m0 e0 (nI N) (nI n) (nI bc) (lN P) (lN Q) (lN G) (lN al) (lN pa) (lN pb) cl a0 a1 a2 a3 a4 a5 a6 a7 a8 a9 b0 b1 oc b2 b3 b4 b5 ++ (jw_ws a0 cJ 1232 nf)) U.heap ∧ va_K (dC, dI) classes [(cJ, .long), (cI, .int)] U ∧ va_D (fun _ => True) (mo_ws m0 e0 (nI N) (nI n) (nI bc) (lN P) (lN Q) (lN G) (lN al) (lN pa) (lN pb) cl a0 a1 a2 a3 a4 a5 a6 a7 a8 a9 b0 b1 oc b2 b3 b4 b5 ++ (jw_ws a0 cJ 1232 nf)))) (va_Ql (fun (r : Int64) (_ : Unit) => True) (fun _ t => va_P (dC, dI) classes (mo_ws m0 1 (nI N) (nI n) (nI bc) (lN P) (lN Q) (lN G) (lN al) (lN pa) (lN pb) cl a0 a1 a2 a3 a4 a5 a6 a7 a8 a9 b0 b1 oc b2 b3 b4 b5 ++ (jw_ws a0 cJ 1232 nf)) t.heap ∧ va_K (dC, dI) classes [(cJ, .long), (cI, .int)] t ∧ va_D (va_A (mo_ws m0 e0 (nI N) (nI n) (nI bc) (lN P) (lN Q) (lN G) (lN al) (lN pa) (lN pb) cl a0 a1 a2 a3 a4 a5 a6 a7 a8 a9 b0 b1 oc b2 b3 b4 b5 ++ (jw_ws a0 cJ 1232 nf)) sz) (mo_ws m0 1 (nI N) (nI n) (nI bc) (lN P) (lN Q) (lN G) (lN al) (lN pa) (lN pb) cl a0 a1 a2 a3 a4 a5 a6 a7 a8 a9 b0 b1 oc b2 b3 b4 b5 ++ (jw_ws a0 cJ 1232 nf))) (va_A (mo_ws m0 e0 (nI N) (nI n) (nI bc) (lN P) (lN Q) (lN G) (lN al) (lN pa) (lN pb) cl a0 a1 a2 a3 a4 a5 a6 a7 a8 a9 b0 b1 oc b2 b3 b4 b5 ++ (jw_ws a0 cJ 1232 nf)) sz)) 0 0 (va_A (mo_ws m0 e0 (nI N) (nI n) (nI bc) (lN P) (lN Q) (lN G) (lN al) (lN pa) (lN pb) cl a0 a1 a2 a3 a4 a5 a6 a7 a8 a9 b0 b1 oc b2 b3 b4 b5 ++ (jw_ws a0 cJ 1232 nf)) sz) := by
  refine Met.ofW (cc := b_Bm_spoil) (maxL := 7) (ret := (some .long)) (by decide) rfl ?_
  intro p e s m args below meth c s₁ Bd hml hv
  obtain ⟨rfl, hsz, hP, hK, hD0⟩ := hv
  have hx := Bd.exec
  have hb := Bd.bytes
  have hr := Bd.returns
  have hts := atoms_spec (ws := w_Bm_spoil) Bd.pre
  have hown : s.vm.findClass "BallotBoardModel" = some m.cls := findClass_of_methodNamed Bd.named
  have hlocks := Bd.notSynchronized
  subst hsz
  have hD := hD0.self (sz := s.heap.size)
  generalize hAe : va_A (mo_ws m0 e0 (nI N) (nI n) (nI bc) (lN P) (lN Q) (lN G) (lN al) (lN pa) (lN pb) cl a0 a1 a2 a3 a4 a5 a6 a7 a8 a9 b0 b1 oc b2 b3 b4 b5 ++ (jw_ws a0 cJ 1232 nf)) s.heap.size = A at hD ⊢
  have hA : ∀ q : Nat, s.heap.size ≤ q → A q := fun q h => by rw [← hAe]; exact Or.inr h
  have hS : va_S A s.heap s.heap [] := va_S.rf
  have hl := lv_entry ([.ref m0, .int x1, .int x2, .long x3]) (n := 7) (Nat.le_of_ble_eq_true rfl)
  rw [lg_entry_eq]
  generalize (lg_sl ([.ref m0, .int x1, .int x2, .long x3]) ++ List.replicate (7 - (lg_sl ([.ref m0, .int x1, .int x2, .long x3])).length) Slot.unset).toArray = ls at hl ⊢
  have hl : lv_has ls 7 [(0, .ref m0), (1, .int x1), (2, .int x2), (3, .long x3)] := hl
  refine lv_aload_n hx hb d_Bm_spoil_0 rfl (lv_at hl 0 rfl) ?_
  refine lv_iconst (v := 0) hx hb d_Bm_spoil_1 (by decide) ?_
  refine va_put (D := (dC, dI)) (ci := 8) (v := .int 0) (ty := .int) (C := "BallotBoardModel") (T := F_Bm) (N := 28) hx hb hts (fun w9 h9 => List.mem_cons_of_mem _ (i_Bm w9 h9)) t_Bm t_Bm_ok n_Bm hown hK hP hD hS 0 rfl rfl 0 (by decide) (hts _ (List.mem_cons_of_mem _ gk_919)) (fun _ h9 => h9) rfl (by decide +kernel) rfl rfl (Nat.le_of_ble_eq_true rfl) d_Bm_spoil_2 (fun H locs hP hD hS => ?_)
  have hP : va_P (dC, dI) classes [(m0, .inr (8, [.int 0, .int (nI N), .int (nI n), .int (nI bc), .long (lN P), .long (lN Q), .long (lN G), .long (lN al), .long (lN pa), .long (lN pb), .int cl, .ref a0, .ref a1, .ref a2, .ref a3, .ref a4, .ref a5, .ref a6, .ref a7, .ref a8, .ref a9, .ref b0, .ref b1, .int (nI oc), .ref b2, .ref b3, .ref b4, .ref b5])), (a0, .inl (cJ, 1232, .inr (.inl nf)))] H := hP
  have hD : va_D A [(m0, .inr (8, [.int 0, .int (nI N), .int (nI n), .int (nI bc), .long (lN P), .long (lN Q), .long (lN G), .long (lN al), .long (lN pa), .long (lN pb), .int cl, .ref a0, .ref a1, .ref a2, .ref a3, .ref a4, .ref a5, .ref a6, .ref a7, .ref a8, .ref a9, .ref b0, .ref b1, .int (nI oc), .ref b2, .ref b3, .ref b4, .ref b5])), (a0, .inl (cJ, 1232, .inr (.inl nf)))] := hD
  refine lv_aload_n hx hb d_Bm_spoil_5 rfl (lv_at hl 0 rfl) ?_
  refine lv_iload_n hx hb d_Bm_spoil_6 rfl (lv_at hl 1 rfl) ?_
  refine lv_iconst (v := 0) hx hb d_Bm_spoil_7 (by decide) ?_
  refine lv_aload_n hx hb d_Bm_spoil_8 rfl (lv_at hl 0 rfl) ?_
  refine va_get (D := (dC, dI)) (ci := 8) (v := .int (nI n)) (C := "BallotBoardModel") (T := F_Bm) (N := 28) hx hb hts (fun w9 h9 => List.mem_cons_of_mem _ (i_Bm w9 h9)) hown hK hP 0 rfl rfl 2 (by decide) (hts _ (List.mem_cons_of_mem _ gk_921)) (fun _ h9 => h9) rfl d_Bm_spoil_9 ?_
  refine lv_iconst (v := 1) hx hb d_Bm_spoil_12 (by decide) ?_
  refine lv_isub hx hb d_Bm_spoil_13 ?_
  refine va_calli (va_runS (As := [.int x1, .int 0, .int ((nI n) - 1)]) (rest := [.ref m0]) ⟨hx, hb, hml, hown, hts⟩ (c_Bm_in l H x1 0 ((nI n) - 1)) (cwS 3 hts (gw_S gk_1027 gk_1028 gk_7 gk_1029) rfl rfl rfl (by decide +kernel) ⟨Nat.le_of_ble_eq_true rfl, Nat.le_of_ble_eq_true rfl⟩) ⟨fun a U g mk q => q, fun U hU hW => ⟨rfl, hU⟩⟩ rfl rfl hl.1 rfl (lv_room (Nat.le_of_ble_eq_true rfl)) d_Bm_spoil_14 ⟨Nat.le_of_ble_eq_true rfl, Nat.le_of_ble_eq_true rfl⟩) hS (fun q _ h => h.elim) (fun q h => h.elim) (fun r14 u9 t9 H1 locs ht hvm hw hB hz1 hk1 hS => ?_)
  obtain rfl : H = H1 := hB.symm.trans ht
  have h14 : bz r14 (inN x1 n) := bz_inG (by omega) hw
  refine lv_if_eq (tgt := 39) hx hb d_Bm_spoil_17 (by decide) (fun c_1 => ?_) (fun c_1 => ?_)
  · -- taken
    have bo14 := bz_f h14 c_1
    refine lv_iconst (v := 1) hx hb d_Bm_spoil_39 (by decide) ?_
    refine lv_goto (tgt := 44) hx hb d_Bm_spoil_40 (by decide) ?_
    refine lv_iconst (v := 1) hx hb d_Bm_spoil_44 (by decide) ?_
    have hPc := hP.sub (ws' := (mo_ws m0 0 (nI N) (nI n) (nI bc) (lN P) (lN Q) (lN G) (lN al) (lN pa) (lN pb) cl a0 a1 a2 a3 a4 a5 a6 a7 a8 a9 b0 b1 oc b2 b3 b4 b5)) [0] rfl
    have hDc := hD.sub (ws' := (mo_ws m0 0 (nI N) (nI n) (nI bc) (lN P) (lN Q) (lN G) (lN al) (lN pa) (lN pb) cl a0 a1 a2 a3 a4 a5 a6 a7 a8 a9 b0 b1 oc b2 b3 b4 b5)) [0] (by decide) rfl
    have hKc := hK.sub (tys' := [(cJ, .long), (cI, .int)]) [0, 1] rfl
    have hFc := va_free (wc := (mo_ws m0 0 (nI N) (nI n) (nI bc) (lN P) (lN Q) (lN G) (lN al) (lN pa) (lN pb) cl a0 a1 a2 a3 a4 a5 a6 a7 a8 a9 b0 b1 oc b2 b3 b4 b5)) hD hS hA [0] rfl
    refine va_calli (va_runV (As := [.int 1, .int 1]) (rest := []) ⟨hx, hb, hml, hown, hts⟩ (c_Bm_fails_1 l dC dI cJ cI H.size m0 (nI N) (nI n) (nI bc) (lN P) (lN Q) (lN G) (lN al) (lN pa) (lN pb) cl a0 a1 a2 a3 a4 a5 a6 a7 a8 a9 b0 b1 oc b2 b3 b4 b5 1 (by decide)) (cwV 2 hts (gw_V gk_1030 gk_1032 gp_27 gk_7 gk_1033) rfl rfl rfl (by decide +kernel) ⟨Nat.le_of_ble_eq_true rfl, Nat.le_of_ble_eq_true rfl⟩) ⟨fun a U g mk q => by obtain ⟨q0, q1, qP, qK, qD⟩ := q; exact ⟨q0, q1, qP, va_K.moved (u := U) (U := U.calling g mk a) (Vm.Alike.refl U.vm) qK, qD⟩, va_recv hK hP (ci := 8) (q0 := 0) rfl rfl, fun U hU hW => ⟨rfl, by rw [hU], by rw [hU]; exact hPc, va_K.moved hW.alike hKc, hDc.weaken (fun _ _ _ _ => trivial)⟩⟩ rfl rfl hl.1 rfl (lv_room (Nat.le_of_ble_eq_true rfl)) d_Bm_spoil_45 ⟨Nat.le_of_ble_eq_true rfl, Nat.le_of_ble_eq_true rfl⟩) hS (fun q _ h => hFc q h) hFc (fun r_2 u9 t9 H1 locs ht hvm hw hB hz1 hk1 hS => ?_)
    have hw : r_2 = 1 := hw
    subst hw
    obtain ⟨hP1, hK1, hD1⟩ := hB
    rw [ht] at hP1
    obtain ⟨hP, hD⟩ := va_join (wr := [(a0, .inl (cJ, 1232, .inr (.inl nf)))]) (w1 := [(m0, .inr (8, [.int 1, .int (nI N), .int (nI n), .int (nI bc), .long (lN P), .long (lN Q), .long (lN G), .long (lN al), .long (lN pa), .long (lN pb), .int cl, .ref a0, .ref a1, .ref a2, .ref a3, .ref a4, .ref a5, .ref a6, .ref a7, .ref a8, .ref a9, .ref b0, .ref b1, .int (nI oc), .ref b2, .ref b3, .ref b4, .ref b5]))]) hP hD [0] [1] rfl rfl (by decide) (by decide) hk1 hFc hP1 hD1
    have hP := hP.sub (ws' := [(m0, .inr (8, [.int 1, .int (nI N), .int (nI n), .int (nI bc), .long (lN P), .long (lN Q), .long (lN G), .long (lN al), .long (lN pa), .long (lN pb), .int cl, .ref a0, .ref a1, .ref a2, .ref a3, .ref a4, .ref a5, .ref a6, .ref a7, .ref a8, .ref a9, .ref b0, .ref b1, .int (nI oc), .ref b2, .ref b3, .ref b4, .ref b5])), (a0, .inl (cJ, 1232, .inr (.inl nf)))]) [1, 0] rfl
    have hD := hD.sub (ws' := [(m0, .inr (8, [.int 1, .int (nI N), .int (nI n), .int (nI bc), .long (lN P), .long (lN Q), .long (lN G), .long (lN al), .long (lN pa), .long (lN pb), .int cl, .ref a0, .ref a1, .ref a2, .ref a3, .ref a4, .ref a5, .ref a6, .ref a7, .ref a8, .ref a9, .ref b0, .ref b1, .int (nI oc), .ref b2, .ref b3, .ref b4, .ref b5])), (a0, .inl (cJ, 1232, .inr (.inl nf)))]) [1, 0] (by decide) rfl
    generalize H1 = H at hP hS ⊢
    refine lv_if_eq (tgt := 53) hx hb d_Bm_spoil_48 (by decide) (fun c_3 => ?_) (fun c_3 => ?_)
    · -- taken
      exact absurd c_3 (by decide)
    · -- not taken
      refine lv_lconst (v := 0) hx hb d_Bm_spoil_51 (by decide) ?_
      exact W.lret (v := 0) hx hb hr (fun t ht9 hW => ⟨⟨_, (), rfl, trivial, by rw [ht9]; exact hP, va_K.moved hW.alike hK, hD⟩, hS.F ht9⟩) hS.2.2 d_Bm_spoil_52
  · -- not taken
    obtain ⟨k, rfl, hk⟩ := bz_t h14 c_1
    obtain ⟨hk0, hk4⟩ := hnf k hk
    have hw8 := wdt_le2 (kd k)
    have hw5 := wdt_ge2 (kd k)
    refine lv_iload_n hx hb d_Bm_spoil_20 rfl (lv_at hl 2 rfl) ?_
    refine lv_iconst (v := 2) hx hb d_Bm_spoil_21 (by decide) ?_
    refine lv_aload_n hx hb d_Bm_spoil_22 rfl (lv_at hl 0 rfl) ?_
    refine lv_iload_n hx hb d_Bm_spoil_23 rfl (lv_at hl 1 rfl) ?_
    refine lv_iconst (v := 0) hx hb d_Bm_spoil_24 (by decide) ?_
    have hPc := hP.sub (ws' := (mo_ws m0 0 (nI N) (nI n) (nI bc) (lN P) (lN Q) (lN G) (lN al) (lN pa) (lN pb) cl a0 a1 a2 a3 a4 a5 a6 a7 a8 a9 b0 b1 oc b2 b3 b4 b5 ++ (jw_ws a0 cJ 1232 nf))) [0, 1] rfl
    have hKc := hK.sub (tys' := [(cJ, .long), (cI, .int)]) [0, 1] rfl
    refine va_calll (va_runV (As := [.int (nI k), .int 0]) (rest := [.int 2, .int x2, .ref m0]) ⟨hx, hb, hml, hown, hts⟩ (c_Bm_at l H dC dI cJ cI m0 0 (nI N) (nI n) (nI bc) (lN P) (lN Q) (lN G) (lN al) (lN pa) (lN pb) cl a0 a1 a2 a3 a4 a5 a6 a7 a8 a9 b0 b1 oc b2 b3 b4 b5 nf k 0 hPc (by omega)) (cwV 2 hts (gw_V gk_1102 gk_1104 gp_42 gk_7 gk_1105) rfl rfl rfl (by decide +kernel) ⟨Nat.le_of_ble_eq_true rfl, Nat.le_of_ble_eq_true rfl⟩) ⟨fun a U g mk q => ⟨q.1, q.2.1, va_K.moved (u := U) (U := U.calling g mk a) (Vm.Alike.refl U.vm) q.2.2⟩, va_recv hK hP (ci := 8) (q0 := 0) rfl rfl, fun U hU hW => ⟨rfl, hU, va_K.moved hW.alike hKc⟩⟩ rfl rfl hl.1 rfl (lv_room (Nat.le_of_ble_eq_true rfl)) d_Bm_spoil_25 ⟨Nat.le_of_ble_eq_true rfl, Nat.le_of_ble_eq_true rfl⟩) hS (fun q _ h => h.elim) (fun q h => h.elim) (fun r25 u9 t9 H1 locs ht hvm hw hB hz1 hk1 hS => ?_)
    obtain rfl : H = H1 := hB.symm.trans ht
    have hw : r25 = nf (8 * k + 0) := hw
    subst hw
    refine va_calli (va_runS (As := [.long (nf (8 * k + 0))]) (rest := [.int 2, .int x2, .ref m0]) ⟨hx, hb, hml, hown, hts⟩ (c_Bm_many l H (nf (8 * k + 0))) (cwS 1 hts (gw_S gk_1106 gk_1107 gk_7 gk_1108) rfl rfl rfl (by decide +kernel) ⟨Nat.le_of_ble_eq_true rfl, Nat.le_of_ble_eq_true rfl⟩) ⟨fun a U g mk q => q, fun U hU hW => ⟨rfl, hU⟩⟩ rfl rfl hl.1 rfl (lv_room (Nat.le_of_ble_eq_true rfl)) d_Bm_spoil_28 ⟨Nat.le_of_ble_eq_true rfl, Nat.le_of_ble_eq_true rfl⟩) hS (fun q _ h => h.elim) (fun q h => h.elim) (fun r28 u9 t9 H1 locs ht hvm hw hB hz1 hk1 hS => ?_)
    obtain rfl : H = H1 := hB.symm.trans ht
    have hw : r28 = if nf (8 * k + 0) = 2 then 8 else 5 := hw
    subst hw
    rw [show (if nf (8 * k + 0) = 2 then 8 else 5 : Int32) = (nI (wdt (kd k))) from wd_of hk0 hk4]
    refine lv_iconst (v := 1) hx hb d_Bm_spoil_31 (by decide) ?_
    refine lv_isub hx hb d_Bm_spoil_32 ?_
    rw [show ((nI (wdt (kd k))) - 1 : Int32) = (nI (wdt (kd k) - 1)) from nI_subI (b := 1) (by omega) rfl]
    refine va_calli (va_runS (As := [.int x2, .int 2, .int (nI (wdt (kd k) - 1))]) (rest := [.ref m0]) ⟨hx, hb, hml, hown, hts⟩ (c_Bm_in l H x2 2 (nI (wdt (kd k) - 1))) (cwS 3 hts (gw_S gk_1027 gk_1028 gk_7 gk_1029) rfl rfl rfl (by decide +kernel) ⟨Nat.le_of_ble_eq_true rfl, Nat.le_of_ble_eq_true rfl⟩) ⟨fun a U g mk q => q, fun U hU hW => ⟨rfl, hU⟩⟩ rfl rfl hl.1 rfl (lv_room (Nat.le_of_ble_eq_true rfl)) d_Bm_spoil_33 ⟨Nat.le_of_ble_eq_true rfl, Nat.le_of_ble_eq_true rfl⟩) hS (fun q _ h => h.elim) (fun q h => h.elim) (fun r33 u9 t9 H1 locs ht hvm hw hB hz1 hk1 hS => ?_)
    obtain rfl : H = H1 := hB.symm.trans ht
    have h33 : bz r33 (∃ J9, x2 = nI J9 ∧ 2 ≤ J9 ∧ J9 < wdt (kd k)) := bz_in2 (by omega) (by omega) rfl hw
    refine lv_if_ne (tgt := 43) hx hb d_Bm_spoil_36 (by decide) (fun c_4 => ?_) (fun c_4 => ?_)
    · -- taken
      exfalso
      obtain ⟨J, e2, hJ2, hJ⟩ := bz_t h33 c_4
      exact hC ⟨k, J, rfl, hk, e2, hJ2, hJ⟩
    · -- not taken
      have bo33 := bz_f h33 c_4
      refine lv_iconst (v := 1) hx hb d_Bm_spoil_39 (by decide) ?_
      refine lv_goto (tgt := 44) hx hb d_Bm_spoil_40 (by decide) ?_
      refine lv_iconst (v := 1) hx hb d_Bm_spoil_44 (by decide) ?_
      have hPc := hP.sub (ws' := (mo_ws m0 0 (nI N) (nI n) (nI bc) (lN P) (lN Q) (lN G) (lN al) (lN pa) (lN pb) cl a0 a1 a2 a3 a4 a5 a6 a7 a8 a9 b0 b1 oc b2 b3 b4 b5)) [0] rfl
      have hDc := hD.sub (ws' := (mo_ws m0 0 (nI N) (nI n) (nI bc) (lN P) (lN Q) (lN G) (lN al) (lN pa) (lN pb) cl a0 a1 a2 a3 a4 a5 a6 a7 a8 a9 b0 b1 oc b2 b3 b4 b5)) [0] (by decide) rfl
      have hKc := hK.sub (tys' := [(cJ, .long), (cI, .int)]) [0, 1] rfl
      have hFc := va_free (wc := (mo_ws m0 0 (nI N) (nI n) (nI bc) (lN P) (lN Q) (lN G) (lN al) (lN pa) (lN pb) cl a0 a1 a2 a3 a4 a5 a6 a7 a8 a9 b0 b1 oc b2 b3 b4 b5)) hD hS hA [0] rfl
      refine va_calli (va_runV (As := [.int 1, .int 1]) (rest := []) ⟨hx, hb, hml, hown, hts⟩ (c_Bm_fails_1 l dC dI cJ cI H.size m0 (nI N) (nI n) (nI bc) (lN P) (lN Q) (lN G) (lN al) (lN pa) (lN pb) cl a0 a1 a2 a3 a4 a5 a6 a7 a8 a9 b0 b1 oc b2 b3 b4 b5 1 (by decide)) (cwV 2 hts (gw_V gk_1030 gk_1032 gp_27 gk_7 gk_1033) rfl rfl rfl (by decide +kernel) ⟨Nat.le_of_ble_eq_true rfl, Nat.le_of_ble_eq_true rfl⟩) ⟨fun a U g mk q => by obtain ⟨q0, q1, qP, qK, qD⟩ := q; exact ⟨q0, q1, qP, va_K.moved (u := U) (U := U.calling g mk a) (Vm.Alike.refl U.vm) qK, qD⟩, va_recv hK hP (ci := 8) (q0 := 0) rfl rfl, fun U hU hW => ⟨rfl, by rw [hU], by rw [hU]; exact hPc, va_K.moved hW.alike hKc, hDc.weaken (fun _ _ _ _ => trivial)⟩⟩ rfl rfl hl.1 rfl (lv_room (Nat.le_of_ble_eq_true rfl)) d_Bm_spoil_45 ⟨Nat.le_of_ble_eq_true rfl, Nat.le_of_ble_eq_true rfl⟩) hS (fun q _ h => hFc q h) hFc (fun r_5 u9 t9 H1 locs ht hvm hw hB hz1 hk1 hS => ?_)
      have hw : r_5 = 1 := hw
      subst hw
      obtain ⟨hP1, hK1, hD1⟩ := hB
      rw [ht] at hP1
      obtain ⟨hP, hD⟩ := va_join (wr := [(a0, .inl (cJ, 1232, .inr (.inl nf)))]) (w1 := [(m0, .inr (8, [.int 1, .int (nI N), .int (nI n), .int (nI bc), .long (lN P), .long (lN Q), .long (lN G), .long (lN al), .long (lN pa), .long (lN pb), .int cl, .ref a0, .ref a1, .ref a2, .ref a3, .ref a4, .ref a5, .ref a6, .ref a7, .ref a8, .ref a9, .ref b0, .ref b1, .int (nI oc), .ref b2, .ref b3, .ref b4, .ref b5]))]) hP hD [0] [1] rfl rfl (by decide) (by decide) hk1 hFc hP1 hD1
      have hP := hP.sub (ws' := [(m0, .inr (8, [.int 1, .int (nI N), .int (nI n), .int (nI bc), .long (lN P), .long (lN Q), .long (lN G), .long (lN al), .long (lN pa), .long (lN pb), .int cl, .ref a0, .ref a1, .ref a2, .ref a3, .ref a4, .ref a5, .ref a6, .ref a7, .ref a8, .ref a9, .ref b0, .ref b1, .int (nI oc), .ref b2, .ref b3, .ref b4, .ref b5])), (a0, .inl (cJ, 1232, .inr (.inl nf)))]) [1, 0] rfl
      have hD := hD.sub (ws' := [(m0, .inr (8, [.int 1, .int (nI N), .int (nI n), .int (nI bc), .long (lN P), .long (lN Q), .long (lN G), .long (lN al), .long (lN pa), .long (lN pb), .int cl, .ref a0, .ref a1, .ref a2, .ref a3, .ref a4, .ref a5, .ref a6, .ref a7, .ref a8, .ref a9, .ref b0, .ref b1, .int (nI oc), .ref b2, .ref b3, .ref b4, .ref b5])), (a0, .inl (cJ, 1232, .inr (.inl nf)))]) [1, 0] (by decide) rfl
      generalize H1 = H at hP hS ⊢
      refine lv_if_eq (tgt := 53) hx hb d_Bm_spoil_48 (by decide) (fun c_6 => ?_) (fun c_6 => ?_)
      · -- taken
        exact absurd c_6 (by decide)
      · -- not taken
        refine lv_lconst (v := 0) hx hb d_Bm_spoil_51 (by decide) ?_
        exact W.lret (v := 0) hx hb hr (fun t ht9 hW => ⟨⟨_, (), rfl, trivial, by rw [ht9]; exact hP, va_K.moved hW.alike hK, hD⟩, hS.F ht9⟩) hS.2.2 d_Bm_spoil_52
set_option maxHeartbeats 8000000 in
set_option maxRecDepth 100000 in
theorem c_Bm_spoil_0 (l : Launch) (dC : Nat → ClassId) (dI : Nat → Nat → Nat) (cJ cI : ClassId) (sz : Nat) (m0 : Nat) (e0 : Int32) (N n bc P Q G al pa pb : Nat) (cl : Int32) (a0 a1 a2 a3 a4 a5 a6 a7 a8 a9 b0 b1 oc b2 b3 b4 b5 : Nat) (nf : Nat → Int64) (kd : Nat → Nat) (k J : Nat) (x3 : Int64) (hn : n ≤ 154) (hnf : ∀ k, k < n → (nf (8 * k + 0) = lN (kd k) ∧ kd k < 4)) (hk : k < n) (hJ2 : 2 ≤ J) (hJ : J < wdt (kd k)) : Met l y_Bm_spoil w_Bm_spoil ({ frames := 1, cells := 0, slots := 0, locals := 22 }) (va_Pc [.ref m0, .int (nI k), .int (nI J), .long x3] (fun U => U.heap.size = sz ∧ va_P (dC, dI) classes (mo_ws m0 e0 (nI N) (nI n) (nI bc) (lN P) (lN Q) (lN G) (lN al) (lN pa) (lN pb) cl a0 a1 a2 a3 a4 a5 a6 a7 a8 a9 b0 b1 oc b2 b3 b4 b5 ++ (jw_ws a0 cJ 1232 nf)) U.heap ∧ va_K (dC, dI) classes [(cJ, .long), (cI, .int)] U ∧ va_D (fun _ => True) (mo_ws m0 e0 (nI N) (nI n) (nI bc) (lN P) (lN Q) (lN G) (lN al) (lN pa) (lN pb) cl a0 a1 a2 a3 a4 a5 a6 a7 a8 a9 b0 b1 oc b2 b3 b4 b5 ++ (jw_ws a0 cJ 1232 nf)))) (va_Ql (fun (r : Int64) (_ : Unit) => r = nf (8 * k + J)) (fun _ t => va_P (dC, dI) classes (mo_ws m0 0 (nI N) (nI n) (nI bc) (lN P) (lN Q) (lN G) (lN al) (lN pa) (lN pb) cl a0 a1 a2 a3 a4 a5 a6 a7 a8 a9 b0 b1 oc b2 b3 b4 b5 ++ (jw_ws a0 cJ 1232 (vp_updL nf (8 * k + J) x3))) t.heap ∧ va_K (dC, dI) classes [(cJ, .long), (cI, .int)] t ∧ va_D (va_A (mo_ws m0 e0 (nI N) (nI n) (nI bc) (lN P) (lN Q) (lN G) (lN al) (lN pa) (lN pb) cl a0 a1 a2 a3 a4 a5 a6 a7 a8 a9 b0 b1 oc b2 b3 b4 b5 ++ (jw_ws a0 cJ 1232 nf)) sz) (mo_ws m0 0 (nI N) (nI n) (nI bc) (lN P) (lN Q) (lN G) (lN al) (lN pa) (lN pb) cl a0 a1 a2 a3 a4 a5 a6 a7 a8 a9 b0 b1 oc b2 b3 b4 b5 ++ (jw_ws a0 cJ 1232 (vp_updL nf (8 * k + J) x3)))) (va_A (mo_ws m0 e0 (nI N) (nI n) (nI bc) (lN P) (lN Q) (lN G) (lN al) (lN pa) (lN pb) cl a0 a1 a2 a3 a4 a5 a6 a7 a8 a9 b0 b1 oc b2 b3 b4 b5 ++ (jw_ws a0 cJ 1232 nf)) sz)) 0 0 (va_A (mo_ws m0 e0 (nI N) (nI n) (nI bc) (lN P) (lN Q) (lN G) (lN al) (lN pa) (lN pb) cl a0 a1 a2 a3 a4 a5 a6 a7 a8 a9 b0 b1 oc b2 b3 b4 b5 ++ (jw_ws a0 cJ 1232 nf)) sz) := by
  refine Met.ofW (cc := b_Bm_spoil) (maxL := 7) (ret := (some .long)) (by decide) rfl ?_
  intro p e s m args below meth c s₁ Bd hml hv
  obtain ⟨rfl, hsz, hP, hK, hD0⟩ := hv
  have hx := Bd.exec
  have hb := Bd.bytes
  have hr := Bd.returns
  have hts := atoms_spec (ws := w_Bm_spoil) Bd.pre
  have hown : s.vm.findClass "BallotBoardModel" = some m.cls := findClass_of_methodNamed Bd.named
  have hlocks := Bd.notSynchronized
  subst hsz
  have hD := hD0.self (sz := s.heap.size)
  generalize hAe : va_A (mo_ws m0 e0 (nI N) (nI n) (nI bc) (lN P) (lN Q) (lN G) (lN al) (lN pa) (lN pb) cl a0 a1 a2 a3 a4 a5 a6 a7 a8 a9 b0 b1 oc b2 b3 b4 b5 ++ (jw_ws a0 cJ 1232 nf)) s.heap.size = A at hD ⊢
  have hA : ∀ q : Nat, s.heap.size ≤ q → A q := fun q h => by rw [← hAe]; exact Or.inr h
  have hS : va_S A s.heap s.heap [] := va_S.rf
  have hl := lv_entry ([.ref m0, .int (nI k), .int (nI J), .long x3]) (n := 7) (Nat.le_of_ble_eq_true rfl)
  rw [lg_entry_eq]
  generalize (lg_sl ([.ref m0, .int (nI k), .int (nI J), .long x3]) ++ List.replicate (7 - (lg_sl ([.ref m0, .int (nI k), .int (nI J), .long x3])).length) Slot.unset).toArray = ls at hl ⊢
  have hl : lv_has ls 7 [(0, .ref m0), (1, .int (nI k)), (2, .int (nI J)), (3, .long x3)] := hl
  obtain ⟨hk0, hk4⟩ := hnf k hk
  have hw8 := wdt_le2 (kd k)
  have hw5 := wdt_ge2 (kd k)
  refine lv_aload_n hx hb d_Bm_spoil_0 rfl (lv_at hl 0 rfl) ?_
  refine lv_iconst (v := 0) hx hb d_Bm_spoil_1 (by decide) ?_
  refine va_put (D := (dC, dI)) (ci := 8) (v := .int 0) (ty := .int) (C := "BallotBoardModel") (T := F_Bm) (N := 28) hx hb hts (fun w9 h9 => List.mem_cons_of_mem _ (i_Bm w9 h9)) t_Bm t_Bm_ok n_Bm hown hK hP hD hS 0 rfl rfl 0 (by decide) (hts _ (List.mem_cons_of_mem _ gk_919)) (fun _ h9 => h9) rfl (by decide +kernel) rfl rfl (Nat.le_of_ble_eq_true rfl) d_Bm_spoil_2 (fun H locs hP hD hS => ?_)
  have hP : va_P (dC, dI) classes [(m0, .inr (8, [.int 0, .int (nI N), .int (nI n), .int (nI bc), .long (lN P), .long (lN Q), .long (lN G), .long (lN al), .long (lN pa), .long (lN pb), .int cl, .ref a0, .ref a1, .ref a2, .ref a3, .ref a4, .ref a5, .ref a6, .ref a7, .ref a8, .ref a9, .ref b0, .ref b1, .int (nI oc), .ref b2, .ref b3, .ref b4, .ref b5])), (a0, .inl (cJ, 1232, .inr (.inl nf)))] H := hP
  have hD : va_D A [(m0, .inr (8, [.int 0, .int (nI N), .int (nI n), .int (nI bc), .long (lN P), .long (lN Q), .long (lN G), .long (lN al), .long (lN pa), .long (lN pb), .int cl, .ref a0, .ref a1, .ref a2, .ref a3, .ref a4, .ref a5, .ref a6, .ref a7, .ref a8, .ref a9, .ref b0, .ref b1, .int (nI oc), .ref b2, .ref b3, .ref b4, .ref b5])), (a0, .inl (cJ, 1232, .inr (.inl nf)))] := hD
  refine lv_aload_n hx hb d_Bm_spoil_5 rfl (lv_at hl 0 rfl) ?_
  refine lv_iload_n hx hb d_Bm_spoil_6 rfl (lv_at hl 1 rfl) ?_
  refine lv_iconst (v := 0) hx hb d_Bm_spoil_7 (by decide) ?_
  refine lv_aload_n hx hb d_Bm_spoil_8 rfl (lv_at hl 0 rfl) ?_
  refine va_get (D := (dC, dI)) (ci := 8) (v := .int (nI n)) (C := "BallotBoardModel") (T := F_Bm) (N := 28) hx hb hts (fun w9 h9 => List.mem_cons_of_mem _ (i_Bm w9 h9)) hown hK hP 0 rfl rfl 2 (by decide) (hts _ (List.mem_cons_of_mem _ gk_921)) (fun _ h9 => h9) rfl d_Bm_spoil_9 ?_
  refine lv_iconst (v := 1) hx hb d_Bm_spoil_12 (by decide) ?_
  refine lv_isub hx hb d_Bm_spoil_13 ?_
  refine va_calli (va_runS (As := [.int (nI k), .int 0, .int ((nI n) - 1)]) (rest := [.ref m0]) ⟨hx, hb, hml, hown, hts⟩ (c_Bm_in l H (nI k) 0 ((nI n) - 1)) (cwS 3 hts (gw_S gk_1027 gk_1028 gk_7 gk_1029) rfl rfl rfl (by decide +kernel) ⟨Nat.le_of_ble_eq_true rfl, Nat.le_of_ble_eq_true rfl⟩) ⟨fun a U g mk q => q, fun U hU hW => ⟨rfl, hU⟩⟩ rfl rfl hl.1 rfl (lv_room (Nat.le_of_ble_eq_true rfl)) d_Bm_spoil_14 ⟨Nat.le_of_ble_eq_true rfl, Nat.le_of_ble_eq_true rfl⟩) hS (fun q _ h => h.elim) (fun q h => h.elim) (fun r14 u9 t9 H1 locs ht hvm hw hB hz1 hk1 hS => ?_)
  obtain rfl : H = H1 := hB.symm.trans ht
  have h14 : bz r14 (inN (nI k) n) := bz_inG (by omega) hw
  refine lv_if_eq (tgt := 39) hx hb d_Bm_spoil_17 (by decide) (fun c_1 => ?_) (fun c_1 => ?_)
  · -- taken
    exact absurd (⟨k, rfl, hk⟩ : inN (nI k) n) (bz_f h14 c_1)
  · -- not taken
    have bo14 := bz_t h14 c_1
    refine lv_iload_n hx hb d_Bm_spoil_20 rfl (lv_at hl 2 rfl) ?_
    refine lv_iconst (v := 2) hx hb d_Bm_spoil_21 (by decide) ?_
    refine lv_aload_n hx hb d_Bm_spoil_22 rfl (lv_at hl 0 rfl) ?_
    refine lv_iload_n hx hb d_Bm_spoil_23 rfl (lv_at hl 1 rfl) ?_
    refine lv_iconst (v := 0) hx hb d_Bm_spoil_24 (by decide) ?_
    have hPc := hP.sub (ws' := (mo_ws m0 0 (nI N) (nI n) (nI bc) (lN P) (lN Q) (lN G) (lN al) (lN pa) (lN pb) cl a0 a1 a2 a3 a4 a5 a6 a7 a8 a9 b0 b1 oc b2 b3 b4 b5 ++ (jw_ws a0 cJ 1232 nf))) [0, 1] rfl
    have hKc := hK.sub (tys' := [(cJ, .long), (cI, .int)]) [0, 1] rfl
    refine va_calll (va_runV (As := [.int (nI k), .int 0]) (rest := [.int 2, .int (nI J), .ref m0]) ⟨hx, hb, hml, hown, hts⟩ (c_Bm_at l H dC dI cJ cI m0 0 (nI N) (nI n) (nI bc) (lN P) (lN Q) (lN G) (lN al) (lN pa) (lN pb) cl a0 a1 a2 a3 a4 a5 a6 a7 a8 a9 b0 b1 oc b2 b3 b4 b5 nf k 0 hPc (by omega)) (cwV 2 hts (gw_V gk_1102 gk_1104 gp_42 gk_7 gk_1105) rfl rfl rfl (by decide +kernel) ⟨Nat.le_of_ble_eq_true rfl, Nat.le_of_ble_eq_true rfl⟩) ⟨fun a U g mk q => ⟨q.1, q.2.1, va_K.moved (u := U) (U := U.calling g mk a) (Vm.Alike.refl U.vm) q.2.2⟩, va_recv hK hP (ci := 8) (q0 := 0) rfl rfl, fun U hU hW => ⟨rfl, hU, va_K.moved hW.alike hKc⟩⟩ rfl rfl hl.1 rfl (lv_room (Nat.le_of_ble_eq_true rfl)) d_Bm_spoil_25 ⟨Nat.le_of_ble_eq_true rfl, Nat.le_of_ble_eq_true rfl⟩) hS (fun q _ h => h.elim) (fun q h => h.elim) (fun r25 u9 t9 H1 locs ht hvm hw hB hz1 hk1 hS => ?_)
    obtain rfl : H = H1 := hB.symm.trans ht
    have hw : r25 = nf (8 * k + 0) := hw
    subst hw
    refine va_calli (va_runS (As := [.long (nf (8 * k + 0))]) (rest := [.int 2, .int (nI J), .ref m0]) ⟨hx, hb, hml, hown, hts⟩ (c_Bm_many l H (nf (8 * k + 0))) (cwS 1 hts (gw_S gk_1106 gk_1107 gk_7 gk_1108) rfl rfl rfl (by decide +kernel) ⟨Nat.le_of_ble_eq_true rfl, Nat.le_of_ble_eq_true rfl⟩) ⟨fun a U g mk q => q, fun U hU hW => ⟨rfl, hU⟩⟩ rfl rfl hl.1 rfl (lv_room (Nat.le_of_ble_eq_true rfl)) d_Bm_spoil_28 ⟨Nat.le_of_ble_eq_true rfl, Nat.le_of_ble_eq_true rfl⟩) hS (fun q _ h => h.elim) (fun q h => h.elim) (fun r28 u9 t9 H1 locs ht hvm hw hB hz1 hk1 hS => ?_)
    obtain rfl : H = H1 := hB.symm.trans ht
    have hw : r28 = if nf (8 * k + 0) = 2 then 8 else 5 := hw
    subst hw
    rw [show (if nf (8 * k + 0) = 2 then 8 else 5 : Int32) = (nI (wdt (kd k))) from wd_of hk0 hk4]
    refine lv_iconst (v := 1) hx hb d_Bm_spoil_31 (by decide) ?_
    refine lv_isub hx hb d_Bm_spoil_32 ?_
    rw [show ((nI (wdt (kd k))) - 1 : Int32) = (nI (wdt (kd k) - 1)) from nI_subI (b := 1) (by omega) rfl]
    refine va_calli (va_runS (As := [.int (nI J), .int 2, .int (nI (wdt (kd k) - 1))]) (rest := [.ref m0]) ⟨hx, hb, hml, hown, hts⟩ (c_Bm_in l H (nI J) 2 (nI (wdt (kd k) - 1))) (cwS 3 hts (gw_S gk_1027 gk_1028 gk_7 gk_1029) rfl rfl rfl (by decide +kernel) ⟨Nat.le_of_ble_eq_true rfl, Nat.le_of_ble_eq_true rfl⟩) ⟨fun a U g mk q => q, fun U hU hW => ⟨rfl, hU⟩⟩ rfl rfl hl.1 rfl (lv_room (Nat.le_of_ble_eq_true rfl)) d_Bm_spoil_33 ⟨Nat.le_of_ble_eq_true rfl, Nat.le_of_ble_eq_true rfl⟩) hS (fun q _ h => h.elim) (fun q h => h.elim) (fun r33 u9 t9 H1 locs ht hvm hw hB hz1 hk1 hS => ?_)
    obtain rfl : H = H1 := hB.symm.trans ht
    have h33 : bz r33 (∃ J9, (nI J) = nI J9 ∧ 2 ≤ J9 ∧ J9 < wdt (kd k)) := bz_in2 (by omega) (by omega) rfl hw
    refine lv_if_ne (tgt := 43) hx hb d_Bm_spoil_36 (by decide) (fun c_2 => ?_) (fun c_2 => ?_)
    · -- taken
      have bo33 := bz_t h33 c_2
      refine lv_iconst (v := 0) hx hb d_Bm_spoil_43 (by decide) ?_
      refine lv_iconst (v := 1) hx hb d_Bm_spoil_44 (by decide) ?_
      have hPc := hP.sub (ws' := (mo_ws m0 0 (nI N) (nI n) (nI bc) (lN P) (lN Q) (lN G) (lN al) (lN pa) (lN pb) cl a0 a1 a2 a3 a4 a5 a6 a7 a8 a9 b0 b1 oc b2 b3 b4 b5)) [0] rfl
      have hDc := hD.sub (ws' := (mo_ws m0 0 (nI N) (nI n) (nI bc) (lN P) (lN Q) (lN G) (lN al) (lN pa) (lN pb) cl a0 a1 a2 a3 a4 a5 a6 a7 a8 a9 b0 b1 oc b2 b3 b4 b5)) [0] (by decide) rfl
      have hKc := hK.sub (tys' := [(cJ, .long), (cI, .int)]) [0, 1] rfl
      have hFc := va_free (wc := (mo_ws m0 0 (nI N) (nI n) (nI bc) (lN P) (lN Q) (lN G) (lN al) (lN pa) (lN pb) cl a0 a1 a2 a3 a4 a5 a6 a7 a8 a9 b0 b1 oc b2 b3 b4 b5)) hD hS hA [0] rfl
      refine va_calli (va_runV (As := [.int 0, .int 1]) (rest := []) ⟨hx, hb, hml, hown, hts⟩ (c_Bm_fails_0 l dC dI cJ cI H.size m0 (nI N) (nI n) (nI bc) (lN P) (lN Q) (lN G) (lN al) (lN pa) (lN pb) cl a0 a1 a2 a3 a4 a5 a6 a7 a8 a9 b0 b1 oc b2 b3 b4 b5 1) (cwV 2 hts (gw_V gk_1030 gk_1032 gp_27 gk_7 gk_1033) rfl rfl rfl (by decide +kernel) ⟨Nat.le_of_ble_eq_true rfl, Nat.le_of_ble_eq_true rfl⟩) ⟨fun a U g mk q => by obtain ⟨q0, q1, qP, qK, qD⟩ := q; exact ⟨q0, q1, qP, va_K.moved (u := U) (U := U.calling g mk a) (Vm.Alike.refl U.vm) qK, qD⟩, va_recv hK hP (ci := 8) (q0 := 0) rfl rfl, fun U hU hW => ⟨rfl, by rw [hU], by rw [hU]; exact hPc, va_K.moved hW.alike hKc, hDc.weaken (fun _ _ _ _ => trivial)⟩⟩ rfl rfl hl.1 rfl (lv_room (Nat.le_of_ble_eq_true rfl)) d_Bm_spoil_45 ⟨Nat.le_of_ble_eq_true rfl, Nat.le_of_ble_eq_true rfl⟩) hS (fun q _ h => hFc q h) hFc (fun r_3 u9 t9 H1 locs ht hvm hw hB hz1 hk1 hS => ?_)
      have hw : r_3 = 0 := hw
      subst hw
      obtain ⟨hP1, hK1, hD1⟩ := hB
      rw [ht] at hP1
      obtain ⟨hP, hD⟩ := va_join (wr := [(a0, .inl (cJ, 1232, .inr (.inl nf)))]) (w1 := [(m0, .inr (8, [.int 0, .int (nI N), .int (nI n), .int (nI bc), .long (lN P), .long (lN Q), .long (lN G), .long (lN al), .long (lN pa), .long (lN pb), .int cl, .ref a0, .ref a1, .ref a2, .ref a3, .ref a4, .ref a5, .ref a6, .ref a7, .ref a8, .ref a9, .ref b0, .ref b1, .int (nI oc), .ref b2, .ref b3, .ref b4, .ref b5]))]) hP hD [0] [1] rfl rfl (by decide) (by decide) hk1 hFc hP1 hD1
      have hP := hP.sub (ws' := [(m0, .inr (8, [.int 0, .int (nI N), .int (nI n), .int (nI bc), .long (lN P), .long (lN Q), .long (lN G), .long (lN al), .long (lN pa), .long (lN pb), .int cl, .ref a0, .ref a1, .ref a2, .ref a3, .ref a4, .ref a5, .ref a6, .ref a7, .ref a8, .ref a9, .ref b0, .ref b1, .int (nI oc), .ref b2, .ref b3, .ref b4, .ref b5])), (a0, .inl (cJ, 1232, .inr (.inl nf)))]) [1, 0] rfl
      have hD := hD.sub (ws' := [(m0, .inr (8, [.int 0, .int (nI N), .int (nI n), .int (nI bc), .long (lN P), .long (lN Q), .long (lN G), .long (lN al), .long (lN pa), .long (lN pb), .int cl, .ref a0, .ref a1, .ref a2, .ref a3, .ref a4, .ref a5, .ref a6, .ref a7, .ref a8, .ref a9, .ref b0, .ref b1, .int (nI oc), .ref b2, .ref b3, .ref b4, .ref b5])), (a0, .inl (cJ, 1232, .inr (.inl nf)))]) [1, 0] (by decide) rfl
      generalize H1 = H at hP hS ⊢
      refine lv_if_eq (tgt := 53) hx hb d_Bm_spoil_48 (by decide) (fun c_4 => ?_) (fun c_4 => ?_)
      · -- taken
        refine lv_aload_n hx hb d_Bm_spoil_53 rfl (lv_at hl 0 rfl) ?_
        refine lv_iload_n hx hb d_Bm_spoil_54 rfl (lv_at hl 1 rfl) ?_
        refine lv_iload_n hx hb d_Bm_spoil_55 rfl (lv_at hl 2 rfl) ?_
        have hPc := hP.sub (ws' := (mo_ws m0 0 (nI N) (nI n) (nI bc) (lN P) (lN Q) (lN G) (lN al) (lN pa) (lN pb) cl a0 a1 a2 a3 a4 a5 a6 a7 a8 a9 b0 b1 oc b2 b3 b4 b5 ++ (jw_ws a0 cJ 1232 nf))) [0, 1] rfl
        have hKc := hK.sub (tys' := [(cJ, .long), (cI, .int)]) [0, 1] rfl
        refine va_calll (va_runV (As := [.int (nI k), .int (nI J)]) (rest := []) ⟨hx, hb, hml, hown, hts⟩ (c_Bm_at l H dC dI cJ cI m0 0 (nI N) (nI n) (nI bc) (lN P) (lN Q) (lN G) (lN al) (lN pa) (lN pb) cl a0 a1 a2 a3 a4 a5 a6 a7 a8 a9 b0 b1 oc b2 b3 b4 b5 nf k J hPc (by omega)) (cwV 2 hts (gw_V gk_1102 gk_1104 gp_42 gk_7 gk_1105) rfl rfl rfl (by decide +kernel) ⟨Nat.le_of_ble_eq_true rfl, Nat.le_of_ble_eq_true rfl⟩) ⟨fun a U g mk q => ⟨q.1, q.2.1, va_K.moved (u := U) (U := U.calling g mk a) (Vm.Alike.refl U.vm) q.2.2⟩, va_recv hK hP (ci := 8) (q0 := 0) rfl rfl, fun U hU hW => ⟨rfl, hU, va_K.moved hW.alike hKc⟩⟩ rfl rfl hl.1 rfl (lv_room (Nat.le_of_ble_eq_true rfl)) d_Bm_spoil_56 ⟨Nat.le_of_ble_eq_true rfl, Nat.le_of_ble_eq_true rfl⟩) hS (fun q _ h => h.elim) (fun q h => h.elim) (fun r56 u9 t9 H1 locs ht hvm hw hB hz1 hk1 hS => ?_)
        obtain rfl : H = H1 := hB.symm.trans ht
        have hw : r56 = nf (8 * k + J) := hw
        subst hw
        refine lv_lstore (lv' := [(5, .long (nf (8 * k + J))), (0, .ref m0), (1, .int (nI k)), (2, .int (nI J)), (3, .long x3)]) hx hb d_Bm_spoil_59 hl (by decide) rfl (fun ls hl => ?_)
        refine lv_aload_n hx hb d_Bm_spoil_61 rfl (lv_at hl 1 rfl) ?_
        refine va_get (D := (dC, dI)) (ci := 8) (v := .ref a0) (C := "BallotBoardModel") (T := F_Bm) (N := 28) hx hb hts (fun w9 h9 => List.mem_cons_of_mem _ (i_Bm w9 h9)) hown hK hP 0 rfl rfl 11 (by decide) (hts _ (List.mem_cons_of_mem _ gk_930)) (fun _ h9 => h9) rfl d_Bm_spoil_62 ?_
        refine lv_bipush (v := 8) hx hb d_Bm_spoil_65 (by decide) ?_
        refine lv_iload_n hx hb d_Bm_spoil_67 rfl (lv_at hl 2 rfl) ?_
        refine lv_imul hx hb d_Bm_spoil_68 ?_
        rw [show (8 * (nI k) : Int32) = (nI (8 * k)) from pk_mul 8 k]
        refine lv_iload_n hx hb d_Bm_spoil_69 rfl (lv_at hl 3 rfl) ?_
        refine lv_iadd hx hb d_Bm_spoil_70 ?_
        rw [show ((nI (8 * k)) + (nI J) : Int32) = (nI (8 * k + J)) from nI_add _ J]
        refine lv_lload_n hx hb d_Bm_spoil_71 rfl (lv_at hl 4 rfl) ?_
        refine va_last hx hb hK hP hD hS 1 0 rfl rfl (vp_in_nI (by omega) (by omega)) d_Bm_spoil_72 (fun H locs hP hD hS => ?_)
        have hfe : vp_updL nf (nI (8 * k + J) : Int32).toNatClampNeg x3 = vp_updL nf (8 * k + J) x3 := by rw [nI_clamp (by omega)]
        have hP : va_P (dC, dI) classes [(m0, .inr (8, [.int 0, .int (nI N), .int (nI n), .int (nI bc), .long (lN P), .long (lN Q), .long (lN G), .long (lN al), .long (lN pa), .long (lN pb), .int cl, .ref a0, .ref a1, .ref a2, .ref a3, .ref a4, .ref a5, .ref a6, .ref a7, .ref a8, .ref a9, .ref b0, .ref b1, .int (nI oc), .ref b2, .ref b3, .ref b4, .ref b5])), (a0, .inl (cJ, 1232, .inr (.inl (vp_updL nf (nI (8 * k + J) : Int32).toNatClampNeg x3))))] H := hP
        have hD : va_D A [(m0, .inr (8, [.int 0, .int (nI N), .int (nI n), .int (nI bc), .long (lN P), .long (lN Q), .long (lN G), .long (lN al), .long (lN pa), .long (lN pb), .int cl, .ref a0, .ref a1, .ref a2, .ref a3, .ref a4, .ref a5, .ref a6, .ref a7, .ref a8, .ref a9, .ref b0, .ref b1, .int (nI oc), .ref b2, .ref b3, .ref b4, .ref b5])), (a0, .inl (cJ, 1232, .inr (.inl (vp_updL nf (nI (8 * k + J) : Int32).toNatClampNeg x3))))] := hD
        rw [hfe] at hP hD
        refine lv_lload hx hb d_Bm_spoil_73 (lv_at hl 0 rfl) ?_
        exact W.lret (v := (nf (8 * k + J))) hx hb hr (fun t ht9 hW => ⟨⟨_, (), rfl, rfl, by rw [ht9]; exact hP, va_K.moved hW.alike hK, hD⟩, hS.F ht9⟩) hS.2.2 d_Bm_spoil_75
      · -- not taken
        exact absurd rfl c_4
    · -- not taken
      exact absurd ⟨J, rfl, hJ2, hJ⟩ (bz_f h33 c_2)
