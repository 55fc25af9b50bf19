theorem bC1_of {T : TS} (h1 : ¬ t_sht T = 1) (h2 : 0 < t_tn T ∧ t_kc T = t_tn T) : ¬ bC1 T := fun h => h.elim h1 (fun q => q h2)
def cntC (T : TS) (P Q G n i : Nat) : Int64 := if i = 0 then lN P else if i = 1 then lN Q else if i = 2 then lN G else if i = 3 then lN (ckey (t_tn T) (t_kc T) (t_kp T)) else if i = 4 then lN (t_pa T) else if i = 5 then lN (t_pb T) else if i = 6 then lN n else if i = 7 then lN (t_bc T) else if i = 8 then lN (t_kc T) else if i = 9 then lN (t_shc T) else if t_sht T = 1 then 1 else 0
def hasE (n : Nat) (kd : Nat → Nat) (x y : Int32) : Prop := ∃ k J, x = nI k ∧ k < n ∧ y = nI J ∧ J < wdt (kd k)
def hasW (n : Nat) (x y : Int32) : Prop := ∃ k J, x = nI k ∧ k < n ∧ y = nI J ∧ J < 4
def hasS (n : Nat) (kd : Nat → Nat) (x y : Int32) : Prop := ∃ k J, x = nI k ∧ k < n ∧ y = nI J ∧ 2 ≤ J ∧ J < wdt (kd k)
theorem wdt_le (K : Nat) : wdt K ≤ 8 := by unfold wdt; split <;> omega
theorem wdt_ge (K : Nat) : 5 ≤ wdt K := by unfold wdt; split <;> omega
abbrev b_BB_close : ByteArray := prog_1_method_7_code
abbrev y_BB_close : MethodName := ⟨"BallotBoard", "close", "()I"⟩
abbrev w_BB_close : List Cond := .code y_BB_close b_BB_close 1 (some .int) :: gw
theorem d_BB_close_0 : decode b_BB_close 0 = .ok (.aload_n 0, 1) := by decide +kernel
theorem d_BB_close_1 : decode b_BB_close 1 = .ok (.invokevirtual 117, 3) := by decide +kernel
theorem d_BB_close_4 : decode b_BB_close 4 = .ok (.aload_n 0, 1) := by decide +kernel
theorem d_BB_close_5 : decode b_BB_close 5 = .ok (.getfield 31, 3) := by decide +kernel
theorem d_BB_close_8 : decode b_BB_close 8 = .ok (.invokevirtual 120, 3) := by decide +kernel
theorem d_BB_close_11 : decode b_BB_close 11 = .ok (.aload_n 0, 1) := by decide +kernel
theorem d_BB_close_12 : decode b_BB_close 12 = .ok (.getfield 31, 3) := by decide +kernel
theorem d_BB_close_15 : decode b_BB_close 15 = .ok (.invokevirtual 123, 3) := by decide +kernel
theorem d_BB_close_18 : decode b_BB_close 18 = .ok (.ireturn, 1) := by decide +kernel
set_option maxHeartbeats 8000000 in
set_option maxRecDepth 100000 in
theorem c_BB_close (l : Launch) (hnt : l.stackTraces = false) (dC : Nat → ClassId) (dI : Nat → Nat → Nat) (cJ cI cR : ClassId) (sz : Nat) (b0 bd0 pr0 t0 au0 da : Nat) (ka aa ba sa : Nat) (T : TS) (g0 mF mE P f1 k1 Q f2 k2 G : Nat) (hok : gp_ok P f1 k1 Q f2 k2 G) (htok : tOk P (t_tn T) T) (htn : t_tn T ≤ 4) (hkc : t_kc T ≤ 4) : vx_Met l y_BB_close w_BB_close ({ frames := 9, cells := 3, slots := 18, locals := 142 }) (va_Pc [.ref b0] (fun U => U.heap.size = sz ∧ va_P (dC, dI) classes (bb_ws b0 bd0 pr0 t0 au0 da (.ref g0) ++ (tt_ws t0 ka aa ba sa (.ref g0) cJ T ++ (gp_ws g0 mF mE P f1 k1 Q f2 k2 G))) U.heap ∧ va_K (dC, dI) classes [(cJ, .long), (cI, .int), (cR, .array .long)] U ∧ va_D (fun _ => True) (bb_ws b0 bd0 pr0 t0 au0 da (.ref g0) ++ (tt_ws t0 ka aa ba sa (.ref g0) cJ T ++ (gp_ws g0 mF mE P f1 k1 Q f2 k2 G))) ∧ xz (va_A (bb_ws b0 bd0 pr0 t0 au0 da (.ref g0) ++ (tt_ws t0 ka aa ba sa (.ref g0) cJ T ++ (gp_ws g0 mF mE P f1 k1 Q f2 k2 G))) sz) U U.heap)) (va_Qi (fun (r : Int32) (_ : Unit) => r = nI (t_bc T) ∧ ¬ bC1 T) (fun _ t => va_P (dC, dI) classes (bb_ws b0 bd0 pr0 t0 au0 da (.ref g0) ++ (tt_ws t0 ka aa ba sa (.ref g0) cJ (tShut P T) ++ (gp_ws g0 mF mE P f1 k1 Q f2 k2 G))) t.heap ∧ va_K (dC, dI) classes [(cJ, .long), (cI, .int), (cR, .array .long)] t ∧ va_D (va_A (bb_ws b0 bd0 pr0 t0 au0 da (.ref g0) ++ (tt_ws t0 ka aa ba sa (.ref g0) cJ T ++ (gp_ws g0 mF mE P f1 k1 Q f2 k2 G))) sz) (bb_ws b0 bd0 pr0 t0 au0 da (.ref g0) ++ (tt_ws t0 ka aa ba sa (.ref g0) cJ (tShut P T) ++ (gp_ws g0 mF mE P f1 k1 Q f2 k2 G)))) (va_A (bb_ws b0 bd0 pr0 t0 au0 da (.ref g0) ++ (tt_ws t0 ka aa ba sa (.ref g0) cJ T ++ (gp_ws g0 mF mE P f1 k1 Q f2 k2 G))) sz)) (vx_X (fun _ : Unit => True) (fun E u8 t => (E = eS ∧ bC1 T) ∧ va_P (dC, dI) classes (bb_ws b0 bd0 pr0 t0 au0 da (.ref g0) ++ (tt_ws t0 ka aa ba sa (.ref g0) cJ T ++ (gp_ws g0 mF mE P f1 k1 Q f2 k2 G))) t.heap ∧ va_K (dC, dI) classes [(cJ, .long), (cI, .int), (cR, .array .long)] t ∧ va_D (va_A (bb_ws b0 bd0 pr0 t0 au0 da (.ref g0) ++ (tt_ws t0 ka aa ba sa (.ref g0) cJ T ++ (gp_ws g0 mF mE P f1 k1 Q f2 k2 G))) sz) (bb_ws b0 bd0 pr0 t0 au0 da (.ref g0) ++ (tt_ws t0 ka aa ba sa (.ref g0) cJ T ++ (gp_ws g0 mF mE P f1 k1 Q f2 k2 G)))) (va_A (bb_ws b0 bd0 pr0 t0 au0 da (.ref g0) ++ (tt_ws t0 ka aa ba sa (.ref g0) cJ T ++ (gp_ws g0 mF mE P f1 k1 Q f2 k2 G))) sz)) 3 18 (va_A (bb_ws b0 bd0 pr0 t0 au0 da (.ref g0) ++ (tt_ws t0 ka aa ba sa (.ref g0) cJ T ++ (gp_ws g0 mF mE P f1 k1 Q f2 k2 G))) sz) := by
  refine vx_ofW (cc := b_BB_close) (maxL := 1) (ret := (some .int)) (by decide) rfl ?_
  intro p e s m args below meth c s₁ Bd hml htab hv
  obtain ⟨rfl, hsz, hP, hK, hD0, hZx⟩ := hv
  have hx := Bd.exec
  have hb := Bd.bytes
  have hr := Bd.returns
  have hts := atoms_spec (ws := w_BB_close) Bd.pre
  have hown : s.vm.findClass "BallotBoard" = some m.cls := findClass_of_methodNamed Bd.named
  have hlocks := Bd.notSynchronized
  subst hsz
  have hD := hD0.self (sz := s.heap.size)
  generalize hAe : va_A (bb_ws b0 bd0 pr0 t0 au0 da (.ref g0) ++ (tt_ws t0 ka aa ba sa (.ref g0) cJ T ++ (gp_ws g0 mF mE P f1 k1 Q f2 k2 G))) s.heap.size = A at hD hZx ⊢
  have hA : ∀ q : Nat, s.heap.size ≤ q → A q := fun q h => by rw [← hAe]; exact Or.inr h
  have hS : va_S A s.heap s.heap [] := va_S.rf
  have hl := lv_entry ([.ref b0]) (n := 1) (Nat.le_of_ble_eq_true rfl)
  rw [lg_entry_eq]
  generalize (lg_sl ([.ref b0]) ++ List.replicate (1 - (lg_sl ([.ref b0])).length) Slot.unset).toArray = ls at hl ⊢
  have hl : lv_has ls 1 [(0, .ref b0)] := hl
  obtain ⟨hokF, hokE, hPQ, hG2, hGP, hGQ⟩ := id hok
  obtain ⟨hoF, h3F, h61F, _, _, hk61F, hNkF⟩ := id hokF
  obtain ⟨hoE, h3E, h61E, _, _, hk61E, hNkE⟩ := id hokE
  have hst : t_sht T = 0 ∨ t_sht T = 1 := htok.2.2.2.2.2.2.2.2.2
  refine lv_aload_n hx hb d_BB_close_0 rfl (lv_at hl 0 rfl) ?_
  have hPc := hP.sub (ws' := (bb_ws b0 bd0 pr0 t0 au0 da (.ref g0) ++ tt_ws t0 ka aa ba sa (.ref g0) cJ T)) [0, 1, 2, 3, 4, 5] rfl
  have hKc := hK.sub (tys' := [(cJ, .long), (cI, .int), (cR, .array .long)]) [0, 1, 2] rfl
  have hZc : xz (fun _ => False) s s.heap := (hZx.kept hS.2.1).narrow (fun q h => h.elim)
  refine vx_callv (vx_runV (As := []) (rest := []) ⟨hx, hb, hml, hown, hts⟩ (c_BB_expectOpenWithKeys_g l hnt s.heap dC dI cJ cI cR b0 bd0 pr0 t0 au0 da g0 ka aa ba sa T hPc hst htn hkc) (cwV 0 hts (gw_V gk_636 gk_638 gp_23 gk_1 gk_639) rfl rfl rfl (by decide +kernel) ⟨(Nat.le_of_ble_eq_true rfl), (Nat.le_of_ble_eq_true rfl)⟩) ⟨fun a U g mk q => ⟨q.1, q.2.1, va_K.moved (u := U) (U := U.calling g mk a) (Vm.Alike.refl U.vm) q.2.2.1, xz.same (u := U) (U := U.calling g mk a) rfl q.2.2.2⟩, va_recv hK hP (ci := 7) (q0 := 0) rfl rfl, fun U hU hW => ⟨rfl, hU, va_K.moved hW.alike hKc, by rw [hU]; exact xz.warm hW hZc⟩⟩ rfl rfl hl.1 rfl (lv_room (Nat.le_of_ble_eq_true rfl)) d_BB_close_1 ⟨(Nat.le_of_ble_eq_true rfl), (Nat.le_of_ble_eq_true rfl)⟩) hS (fun q _ h => h.elim) (fun q h => h.elim) (fun q _ h => h.elim) (fun E9 ce9 q9 u8 t9 H1 locs ht hvm hpx hbx hz1 hk1 hS hce hcv hcl => ?_) (fun u9 t9 H1 locs ht hvm hw hB hz1 hk1 hS => ?_)
  · have hP9 : va_P (dC, dI) classes [(b0, .inr (7, [.ref bd0, .ref pr0, .ref t0, .ref au0, .ref da, .ref g0])), (t0, .inr (4, [.ref ka, .ref aa, .ref ba, .ref sa, .ref g0, .int (nI (t_tn T)), .int (nI (t_kc T)), .int (nI (t_bc T)), .int (nI (t_shc T)), .long (lN (t_kp T)), .long (lN (t_shp T)), .long (lN (t_pa T)), .long (lN (t_pb T)), .int (t_sht T)])), (ka, .inl (cJ, 4, .inr (.inl (lF (t_ko T))))), (aa, .inl (cJ, 64, .inr (.inl (lF (t_ao T))))), (ba, .inl (cJ, 64, .inr (.inl (lF (t_bo T))))), (sa, .inl (cJ, 4, .inr (.inl (lF (t_so T))))), (g0, .inr (1, [.ref mF, .ref mE, .long (lN G), .long (lN (G ^ (Q - 1) % P))])), (mF, .inr (0, [.long (lN P), .long (lN (P % 2 ^ 31)), .long (lN (P / 2 ^ 31)), .long (lN f1), .long (lN (2 ^ 62 % P)), .long (lN (2 ^ 124 % P)), .int (nI k1)])), (mE, .inr (0, [.long (lN Q), .long (lN (Q % 2 ^ 31)), .long (lN (Q / 2 ^ 31)), .long (lN f2), .long (lN (2 ^ 62 % Q)), .long (lN (2 ^ 124 % Q)), .int (nI k2)]))] H1 := hP.kept (fun k9 x9 h9 => hk1 x9.1 ((hP k9 x9 h9).lt) (fun h => h))
    exact vx_out (fun x hx => (htab x hx).elim) hlocks hce hcv hcl (fun t8 ht8 hal => ⟨(), trivial, ⟨(show E9 = eS ∧ bC1 T from hbx), by rw [ht8]; exact hP9, va_K.moved hal hK, hD⟩, hS.F ht8⟩) (fun z hz => hS.2.2 z hz) (Nat.le_of_ble_eq_true rfl) (Nat.le_of_ble_eq_true rfl)
  obtain rfl : s.heap = H1 := hB.symm.trans ht
  have hw1 := hw
  refine lv_aload_n hx hb d_BB_close_4 rfl (lv_at hl 0 rfl) ?_
  refine va_get (D := (dC, dI)) (ci := 7) (v := .ref t0) (C := "BallotBoard") (T := F_BB) (N := 6) hx hb hts (fun w9 h9 => List.mem_cons_of_mem _ (i_BB w9 h9)) hown hK hP 0 rfl rfl 2 (by decide) (hts _ (List.mem_cons_of_mem _ gk_158)) (fun _ h9 => h9) rfl d_BB_close_5 ?_
  have hPc := hP.sub (ws' := ((tl_ws t0 ka aa ba sa (.ref g0) cJ (t_ko T) (t_ao T) (t_bo T) (t_so T) (t_tn T) (t_kc T) (t_bc T) (t_shc T) (t_kp T) (t_shp T) (t_pa T) (t_pb T) (t_sht T)) ++ gp_ws g0 mF mE P f1 k1 Q f2 k2 G)) [1, 2, 3, 4, 5, 6, 7, 8] rfl
  have hDc := hD.sub (ws' := ((tl_ws t0 ka aa ba sa (.ref g0) cJ (t_ko T) (t_ao T) (t_bo T) (t_so T) (t_tn T) (t_kc T) (t_bc T) (t_shc T) (t_kp T) (t_shp T) (t_pa T) (t_pb T) (t_sht T)) ++ gp_ws g0 mF mE P f1 k1 Q f2 k2 G)) [1, 2, 3, 4, 5, 6, 7, 8] (by decide) rfl
  have hKc := hK.sub (tys' := [(cJ, .long), (cI, .int)]) [0, 1] rfl
  have hFc := va_free (wc := ((tl_ws t0 ka aa ba sa (.ref g0) cJ (t_ko T) (t_ao T) (t_bo T) (t_so T) (t_tn T) (t_kc T) (t_bc T) (t_shc T) (t_kp T) (t_shp T) (t_pa T) (t_pb T) (t_sht T)) ++ gp_ws g0 mF mE P f1 k1 Q f2 k2 G)) hD hS hA [1, 2, 3, 4, 5, 6, 7, 8] rfl
  refine va_callv (va_runV (As := []) (rest := []) ⟨hx, hb, hml, hown, hts⟩ (c_Ta_shut l dC dI cJ cI s.heap.size t0 ka aa ba sa (t_ko T) (t_ao T) (t_bo T) (t_so T) (t_tn T) (t_kc T) (t_bc T) (t_shc T) (t_kp T) (t_shp T) (t_pa T) (t_pb T) (t_sht T) g0 mF mE P f1 k1 Q f2 k2 G  hok htok.2.2.1 htok.2.2.2.1) (cwV 0 hts (gw_V gk_694 gk_695 gk_696 gk_5 gk_697) rfl rfl rfl (by decide +kernel) ⟨Nat.le_of_ble_eq_true rfl, Nat.le_of_ble_eq_true rfl⟩) ⟨fun a U g mk q => by obtain ⟨q0, q1, qP, qK, qD⟩ := q; exact ⟨q0, q1, qP, va_K.moved (u := U) (U := U.calling g mk a) (Vm.Alike.refl U.vm) qK, qD⟩, va_recv hK hP (ci := 4) (q0 := 1) rfl rfl, fun U hU hW => ⟨rfl, by rw [hU], by rw [hU]; exact hPc, va_K.moved hW.alike hKc, hDc.weaken (fun _ _ _ _ => trivial)⟩⟩ rfl rfl hl.1 rfl (lv_room (Nat.le_of_ble_eq_true rfl)) d_BB_close_8 ⟨Nat.le_of_ble_eq_true rfl, Nat.le_of_ble_eq_true rfl⟩) hS (fun q _ h => hFc q h) hFc (fun u9 t9 H1 locs ht hvm hw hB hz1 hk1 hS => ?_)
  obtain ⟨hP1, hK1, hD1⟩ := hB
  rw [ht] at hP1
  obtain ⟨hP, hD⟩ := va_join (wr := [(b0, .inr (7, [.ref bd0, .ref pr0, .ref t0, .ref au0, .ref da, .ref g0]))]) (w1 := [(t0, .inr (4, [.ref ka, .ref aa, .ref ba, .ref sa, .ref g0, .int (nI (t_tn T)), .int (nI (t_kc T)), .int (nI (t_bc T)), .int (nI (t_shc T)), .long (lN (t_kp T)), .long (lN (t_shp T)), .long (lN (prd P (t_ao T) (t_ao T) 64)), .long (lN (prd P (t_ao T) (t_bo T) 64)), .int 1])), (ka, .inl (cJ, 4, .inr (.inl (lF (t_ko T))))), (aa, .inl (cJ, 64, .inr (.inl (lF (t_ao T))))), (ba, .inl (cJ, 64, .inr (.inl (lF (t_bo T))))), (sa, .inl (cJ, 4, .inr (.inl (lF (t_so T))))), (g0, .inr (1, [.ref mF, .ref mE, .long (lN G), .long (lN (G ^ (Q - 1) % P))])), (mF, .inr (0, [.long (lN P), .long (lN (P % 2 ^ 31)), .long (lN (P / 2 ^ 31)), .long (lN f1), .long (lN (2 ^ 62 % P)), .long (lN (2 ^ 124 % P)), .int (nI k1)])), (mE, .inr (0, [.long (lN Q), .long (lN (Q % 2 ^ 31)), .long (lN (Q / 2 ^ 31)), .long (lN f2), .long (lN (2 ^ 62 % Q)), .long (lN (2 ^ 124 % Q)), .int (nI k2)]))]) hP hD [1, 2, 3, 4, 5, 6, 7, 8] [0] rfl rfl (by decide) (by decide) hk1 hFc hP1 hD1
  have hP := hP.sub (ws' := [(b0, .inr (7, [.ref bd0, .ref pr0, .ref t0, .ref au0, .ref da, .ref g0])), (t0, .inr (4, [.ref ka, .ref aa, .ref ba, .ref sa, .ref g0, .int (nI (t_tn T)), .int (nI (t_kc T)), .int (nI (t_bc T)), .int (nI (t_shc T)), .long (lN (t_kp T)), .long (lN (t_shp T)), .long (lN (prd P (t_ao T) (t_ao T) 64)), .long (lN (prd P (t_ao T) (t_bo T) 64)), .int 1])), (ka, .inl (cJ, 4, .inr (.inl (lF (t_ko T))))), (aa, .inl (cJ, 64, .inr (.inl (lF (t_ao T))))), (ba, .inl (cJ, 64, .inr (.inl (lF (t_bo T))))), (sa, .inl (cJ, 4, .inr (.inl (lF (t_so T))))), (g0, .inr (1, [.ref mF, .ref mE, .long (lN G), .long (lN (G ^ (Q - 1) % P))])), (mF, .inr (0, [.long (lN P), .long (lN (P % 2 ^ 31)), .long (lN (P / 2 ^ 31)), .long (lN f1), .long (lN (2 ^ 62 % P)), .long (lN (2 ^ 124 % P)), .int (nI k1)])), (mE, .inr (0, [.long (lN Q), .long (lN (Q % 2 ^ 31)), .long (lN (Q / 2 ^ 31)), .long (lN f2), .long (lN (2 ^ 62 % Q)), .long (lN (2 ^ 124 % Q)), .int (nI k2)]))]) [0, 1, 2, 3, 4, 5, 6, 7, 8] rfl
  have hD := hD.sub (ws' := [(b0, .inr (7, [.ref bd0, .ref pr0, .ref t0, .ref au0, .ref da, .ref g0])), (t0, .inr (4, [.ref ka, .ref aa, .ref ba, .ref sa, .ref g0, .int (nI (t_tn T)), .int (nI (t_kc T)), .int (nI (t_bc T)), .int (nI (t_shc T)), .long (lN (t_kp T)), .long (lN (t_shp T)), .long (lN (prd P (t_ao T) (t_ao T) 64)), .long (lN (prd P (t_ao T) (t_bo T) 64)), .int 1])), (ka, .inl (cJ, 4, .inr (.inl (lF (t_ko T))))), (aa, .inl (cJ, 64, .inr (.inl (lF (t_ao T))))), (ba, .inl (cJ, 64, .inr (.inl (lF (t_bo T))))), (sa, .inl (cJ, 4, .inr (.inl (lF (t_so T))))), (g0, .inr (1, [.ref mF, .ref mE, .long (lN G), .long (lN (G ^ (Q - 1) % P))])), (mF, .inr (0, [.long (lN P), .long (lN (P % 2 ^ 31)), .long (lN (P / 2 ^ 31)), .long (lN f1), .long (lN (2 ^ 62 % P)), .long (lN (2 ^ 124 % P)), .int (nI k1)])), (mE, .inr (0, [.long (lN Q), .long (lN (Q % 2 ^ 31)), .long (lN (Q / 2 ^ 31)), .long (lN f2), .long (lN (2 ^ 62 % Q)), .long (lN (2 ^ 124 % Q)), .int (nI k2)]))]) [0, 1, 2, 3, 4, 5, 6, 7, 8] (by decide) rfl
  generalize H1 = H at hP hS ⊢
  refine lv_aload_n hx hb d_BB_close_11 rfl (lv_at hl 0 rfl) ?_
  refine va_get (D := (dC, dI)) (ci := 7) (v := .ref t0) (C := "BallotBoard") (T := F_BB) (N := 6) hx hb hts (fun w9 h9 => List.mem_cons_of_mem _ (i_BB w9 h9)) hown hK hP 0 rfl rfl 2 (by decide) (hts _ (List.mem_cons_of_mem _ gk_158)) (fun _ h9 => h9) rfl d_BB_close_12 ?_
  have hPc := hP.sub (ws' := (tl_ws t0 ka aa ba sa (.ref g0) cJ (t_ko T) (t_ao T) (t_bo T) (t_so T) (t_tn T) (t_kc T) (t_bc T) (t_shc T) (t_kp T) (t_shp T) (prd P (t_ao T) (t_ao T) 64) (prd P (t_ao T) (t_bo T) 64) 1)) [1, 2, 3, 4, 5] rfl
  have hKc := hK.sub (tys' := [(cJ, .long), (cI, .int)]) [0, 1] rfl
  refine va_calli (va_runV (As := []) (rest := []) ⟨hx, hb, hml, hown, hts⟩ (c_Ta_ballots l H dC dI cJ cI t0 ka aa ba sa (.ref g0) (t_ko T) (t_ao T) (t_bo T) (t_so T) (t_tn T) (t_kc T) (t_bc T) (t_shc T) (t_kp T) (t_shp T) (prd P (t_ao T) (t_ao T) 64) (prd P (t_ao T) (t_bo T) 64) 1  hPc ) (cwV 0 hts (gw_V gk_698 gk_699 gk_700 gk_5 gk_701) rfl rfl rfl (by decide +kernel) ⟨Nat.le_of_ble_eq_true rfl, Nat.le_of_ble_eq_true rfl⟩) ⟨fun a U g mk q => ⟨q.1, q.2.1, va_K.moved (u := U) (U := U.calling g mk a) (Vm.Alike.refl U.vm) q.2.2⟩, va_recv hK hP (ci := 4) (q0 := 1) rfl rfl, fun U hU hW => ⟨rfl, hU, va_K.moved hW.alike hKc⟩⟩ rfl rfl hl.1 rfl (lv_room (Nat.le_of_ble_eq_true rfl)) d_BB_close_15 ⟨Nat.le_of_ble_eq_true rfl, Nat.le_of_ble_eq_true rfl⟩) hS (fun q _ h => h.elim) (fun q h => h.elim) (fun r15 u9 t9 H1 locs ht hvm hw hB hz1 hk1 hS => ?_)
  obtain rfl : H = H1 := hB.symm.trans ht
  have hw : r15 = nI (t_bc T) := hw
  subst hw
  refine W.widen (k := 3) (n := 18) (by decide) (by decide) ?_
  refine vx_ret ?_
  exact W.iret (v := (nI (t_bc T))) hx hb hr (fun t ht9 hW => ⟨⟨_, (), rfl, ⟨rfl, bC1_of hw1.1 hw1.2⟩, by rw [ht9]; exact hP, va_K.moved hW.alike hK, hD⟩, hS.F ht9⟩) hS.2.2 d_BB_close_18
abbrev b_BB_result : ByteArray := prog_1_method_10_code
abbrev y_BB_result : MethodName := ⟨"BallotBoard", "result", "()I"⟩
abbrev w_BB_result : List Cond := .code y_BB_result b_BB_result 1 (some .int) :: gw
theorem d_BB_result_0 : decode b_BB_result 0 = .ok (.aload_n 0, 1) := by decide +kernel
theorem d_BB_result_1 : decode b_BB_result 1 = .ok (.invokevirtual 132, 3) := by decide +kernel
theorem d_BB_result_4 : decode b_BB_result 4 = .ok (.aload_n 0, 1) := by decide +kernel
theorem d_BB_result_5 : decode b_BB_result 5 = .ok (.getfield 31, 3) := by decide +kernel
theorem d_BB_result_8 : decode b_BB_result 8 = .ok (.invokevirtual 135, 3) := by decide +kernel
theorem d_BB_result_11 : decode b_BB_result 11 = .ok (.ifCond .ne 13, 3) := by decide +kernel
theorem d_BB_result_14 : decode b_BB_result 14 = .ok (.new 139, 3) := by decide +kernel
theorem d_BB_result_17 : decode b_BB_result 17 = .ok (.dup, 1) := by decide +kernel
theorem d_BB_result_18 : decode b_BB_result 18 = .ok (.ldc 141, 2) := by decide +kernel
theorem d_BB_result_20 : decode b_BB_result 20 = .ok (.invokespecial 143, 3) := by decide +kernel
theorem d_BB_result_23 : decode b_BB_result 23 = .ok (.athrow, 1) := by decide +kernel
theorem d_BB_result_24 : decode b_BB_result 24 = .ok (.aload_n 0, 1) := by decide +kernel
theorem d_BB_result_25 : decode b_BB_result 25 = .ok (.getfield 31, 3) := by decide +kernel
theorem d_BB_result_28 : decode b_BB_result 28 = .ok (.invokevirtual 144, 3) := by decide +kernel
theorem d_BB_result_31 : decode b_BB_result 31 = .ok (.ireturn, 1) := by decide +kernel
set_option maxHeartbeats 8000000 in
set_option maxRecDepth 100000 in
theorem c_BB_result (l : Launch) (hnt : l.stackTraces = false) (H0 : Heap) (dC : Nat → ClassId) (dI : Nat → Nat → Nat) (cJ cI cR : ClassId) (b0 bd0 pr0 t0 au0 da : Nat) (ka aa ba sa : Nat) (T : TS) (g0 mF mE P f1 k1 Q f2 k2 G : Nat) (hP : va_P (dC, dI) classes (bb_ws b0 bd0 pr0 t0 au0 da (.ref g0) ++ (tt_ws t0 ka aa ba sa (.ref g0) cJ T ++ (gp_ws g0 mF mE P f1 k1 Q f2 k2 G))) H0) (hok : gp_ok P f1 k1 Q f2 k2 G) (htok : tOk P (t_tn T) T) (htn : t_tn T ≤ 4) (hsc : t_shc T ≤ 4) (hbc : t_bc T ≤ 64) : vx_Met l y_BB_result w_BB_result ({ frames := 7, cells := 2, slots := 12, locals := 107 }) (va_Pc [.ref b0] (fun U => U.heap = H0 ∧ va_K (dC, dI) classes [(cJ, .long), (cI, .int), (cR, .array .long)] U ∧ xz (fun _ => False) U U.heap)) (va_Qi (fun (r : Int32) (_ : Unit) => t_sht T = 1 ∧ (0 < t_tn T ∧ t_shc T = t_tn T) ∧ oc_r P G (t_shp T) (t_pb T) (t_bc T) r) (fun _ t => t.heap = H0) (fun _ => False)) (vx_X (fun _ : Unit => True) (fun E _ _ => E = eS ∧ (¬ t_sht T = 1 ∨ ¬ (0 < t_tn T ∧ t_shc T = t_tn T))) (fun _ => False)) 2 12 (fun _ => False) := by
  refine vx_ofW (cc := b_BB_result) (maxL := 1) (ret := (some .int)) (by decide) rfl ?_
  intro p e s m args below meth c s₁ Bd hml htab hv
  obtain ⟨rfl, hH, hK, hZx⟩ := hv
  have hx := Bd.exec
  have hb := Bd.bytes
  have hr := Bd.returns
  have hts := atoms_spec (ws := w_BB_result) Bd.pre
  have hown : s.vm.findClass "BallotBoard" = some m.cls := findClass_of_methodNamed Bd.named
  have hlocks := Bd.notSynchronized
  subst hH
  have hS : va_S (fun _ => False) s.heap s.heap [] := va_S.rf
  have hl := lv_entry ([.ref b0]) (n := 1) (Nat.le_of_ble_eq_true rfl)
  rw [lg_entry_eq]
  generalize (lg_sl ([.ref b0]) ++ List.replicate (1 - (lg_sl ([.ref b0])).length) Slot.unset).toArray = ls at hl ⊢
  have hl : lv_has ls 1 [(0, .ref b0)] := hl
  obtain ⟨hokF, hokE, hPQ, hG2, hGP, hGQ⟩ := id hok
  obtain ⟨hoF, h3F, h61F, _, _, hk61F, hNkF⟩ := id hokF
  obtain ⟨hoE, h3E, h61E, _, _, hk61E, hNkE⟩ := id hokE
  have hst : t_sht T = 0 ∨ t_sht T = 1 := htok.2.2.2.2.2.2.2.2.2
  refine lv_aload_n hx hb d_BB_result_0 rfl (lv_at hl 0 rfl) ?_
  have hPc := hP.sub (ws' := (bb_ws b0 bd0 pr0 t0 au0 da (.ref g0) ++ tt_ws t0 ka aa ba sa (.ref g0) cJ T)) [0, 1, 2, 3, 4, 5] rfl
  have hKc := hK.sub (tys' := [(cJ, .long), (cI, .int), (cR, .array .long)]) [0, 1, 2] rfl
  have hZc : xz (fun _ => False) s s.heap := (hZx.kept hS.2.1).narrow (fun q h => h.elim)
  refine vx_callv (vx_runV (As := []) (rest := []) ⟨hx, hb, hml, hown, hts⟩ (c_BB_expectShut_g l hnt s.heap dC dI cJ cI cR b0 bd0 pr0 t0 au0 da g0 ka aa ba sa T hPc hst) (cwV 0 hts (gw_V gk_713 gk_715 gp_26 gk_1 gk_716) rfl rfl rfl (by decide +kernel) ⟨(Nat.le_of_ble_eq_true rfl), (Nat.le_of_ble_eq_true rfl)⟩) ⟨fun a U g mk q => ⟨q.1, q.2.1, va_K.moved (u := U) (U := U.calling g mk a) (Vm.Alike.refl U.vm) q.2.2.1, xz.same (u := U) (U := U.calling g mk a) rfl q.2.2.2⟩, va_recv hK hP (ci := 7) (q0 := 0) rfl rfl, fun U hU hW => ⟨rfl, hU, va_K.moved hW.alike hKc, by rw [hU]; exact xz.warm hW hZc⟩⟩ rfl rfl hl.1 rfl (lv_room (Nat.le_of_ble_eq_true rfl)) d_BB_result_1 ⟨(Nat.le_of_ble_eq_true rfl), (Nat.le_of_ble_eq_true rfl)⟩) hS (fun q _ h => h.elim) (fun q h => h.elim) (fun q _ h => h.elim) (fun E9 ce9 q9 u8 t9 H1 locs ht hvm hpx hbx hz1 hk1 hS hce hcv hcl => ?_) (fun u9 t9 H1 locs ht hvm hw hB hz1 hk1 hS => ?_)
  · exact vx_out (fun x hx => (htab x hx).elim) hlocks hce hcv hcl (fun t8 ht8 hal => ⟨(), trivial, (show E9 = eS ∧ (¬ t_sht T = 1 ∨ ¬ (0 < t_tn T ∧ t_shc T = t_tn T)) from ⟨hbx.1, Or.inl hbx.2⟩), hS.F ht8⟩) (fun z hz => hS.2.2 z hz) (Nat.le_of_ble_eq_true rfl) (Nat.le_of_ble_eq_true rfl)
  obtain rfl : s.heap = H1 := hB.symm.trans ht
  have hw1 := hw
  refine lv_aload_n hx hb d_BB_result_4 rfl (lv_at hl 0 rfl) ?_
  refine va_get (D := (dC, dI)) (ci := 7) (v := .ref t0) (C := "BallotBoard") (T := F_BB) (N := 6) hx hb hts (fun w9 h9 => List.mem_cons_of_mem _ (i_BB w9 h9)) hown hK hP 0 rfl rfl 2 (by decide) (hts _ (List.mem_cons_of_mem _ gk_158)) (fun _ h9 => h9) rfl d_BB_result_5 ?_
  have hPc := hP.sub (ws' := (tl_ws t0 ka aa ba sa (.ref g0) cJ (t_ko T) (t_ao T) (t_bo T) (t_so T) (t_tn T) (t_kc T) (t_bc T) (t_shc T) (t_kp T) (t_shp T) (t_pa T) (t_pb T) (t_sht T))) [1, 2, 3, 4, 5] rfl
  have hKc := hK.sub (tys' := [(cJ, .long), (cI, .int)]) [0, 1] rfl
  refine va_calli (va_runV (As := []) (rest := []) ⟨hx, hb, hml, hown, hts⟩ (c_Ta_hasAllShares l s.heap dC dI cJ cI t0 ka aa ba sa (.ref g0) (t_ko T) (t_ao T) (t_bo T) (t_so T) (t_tn T) (t_kc T) (t_bc T) (t_shc T) (t_kp T) (t_shp T) (t_pa T) (t_pb T) (t_sht T)  hPc (by omega) (by omega)) (cwV 0 hts (gw_V gk_741 gk_742 gk_743 gk_5 gk_744) rfl rfl rfl (by decide +kernel) ⟨Nat.le_of_ble_eq_true rfl, Nat.le_of_ble_eq_true rfl⟩) ⟨fun a U g mk q => ⟨q.1, q.2.1, va_K.moved (u := U) (U := U.calling g mk a) (Vm.Alike.refl U.vm) q.2.2⟩, va_recv hK hP (ci := 4) (q0 := 1) rfl rfl, fun U hU hW => ⟨rfl, hU, va_K.moved hW.alike hKc⟩⟩ rfl rfl hl.1 rfl (lv_room (Nat.le_of_ble_eq_true rfl)) d_BB_result_8 ⟨Nat.le_of_ble_eq_true rfl, Nat.le_of_ble_eq_true rfl⟩) hS (fun q _ h => h.elim) (fun q h => h.elim) (fun r8 u9 t9 H1 locs ht hvm hw hB hz1 hk1 hS => ?_)
  obtain rfl : s.heap = H1 := hB.symm.trans ht
  have h8 := hw
  refine lv_if_ne (tgt := 24) hx hb d_BB_result_11 (by decide) (fun c_2 => ?_) (fun c_2 => ?_)
  · -- taken
    have b8 := bz_t h8 c_2
    refine lv_aload_n hx hb d_BB_result_24 rfl (lv_at hl 0 rfl) ?_
    refine va_get (D := (dC, dI)) (ci := 7) (v := .ref t0) (C := "BallotBoard") (T := F_BB) (N := 6) hx hb hts (fun w9 h9 => List.mem_cons_of_mem _ (i_BB w9 h9)) hown hK hP 0 rfl rfl 2 (by decide) (hts _ (List.mem_cons_of_mem _ gk_158)) (fun _ h9 => h9) rfl d_BB_result_25 ?_
    have hPc := hP.sub (ws' := ((tl_ws t0 ka aa ba sa (.ref g0) cJ (t_ko T) (t_ao T) (t_bo T) (t_so T) (t_tn T) (t_kc T) (t_bc T) (t_shc T) (t_kp T) (t_shp T) (t_pa T) (t_pb T) (t_sht T)) ++ gp_ws g0 mF mE P f1 k1 Q f2 k2 G)) [1, 2, 3, 4, 5, 6, 7, 8] rfl
    have hKc := hK.sub (tys' := [(cJ, .long), (cI, .int)]) [0, 1] rfl
    refine va_calli (va_runV (As := []) (rest := []) ⟨hx, hb, hml, hown, hts⟩ (c_Ta_outcome l s.heap dC dI cJ cI t0 ka aa ba sa (t_ko T) (t_ao T) (t_bo T) (t_so T) (t_tn T) (t_kc T) (t_bc T) (t_shc T) (t_kp T) (t_shp T) (t_pa T) (t_pb T) (t_sht T) g0 mF mE P f1 k1 Q f2 k2 G hPc hok htok.2.2.2.2.2.2.1 htok.2.2.2.2.2.2.2.2.1 hbc) (cwV 0 hts (gw_V gk_746 gk_747 gk_748 gk_5 gk_749) rfl rfl rfl (by decide +kernel) ⟨Nat.le_of_ble_eq_true rfl, Nat.le_of_ble_eq_true rfl⟩) ⟨fun a U g mk q => ⟨q.1, q.2.1, va_K.moved (u := U) (U := U.calling g mk a) (Vm.Alike.refl U.vm) q.2.2⟩, va_recv hK hP (ci := 4) (q0 := 1) rfl rfl, fun U hU hW => ⟨rfl, hU, va_K.moved hW.alike hKc⟩⟩ rfl rfl hl.1 rfl (lv_room (Nat.le_of_ble_eq_true rfl)) d_BB_result_28 ⟨Nat.le_of_ble_eq_true rfl, Nat.le_of_ble_eq_true rfl⟩) hS (fun q _ h => h.elim) (fun q h => h.elim) (fun r28 u9 t9 H1 locs ht hvm hw hB hz1 hk1 hS => ?_)
    obtain rfl : s.heap = H1 := hB.symm.trans ht
    have h28 := hw
    refine vx_ret ?_
    refine W.widen (k := 2) (n := 12) (by decide) (by decide) ?_
    exact W.iret (v := r28) hx hb hr (fun t ht hW => ⟨⟨_, (), rfl, ⟨hw1, b8, h28⟩, ht⟩, hS.F ht⟩) hS.2.2 d_BB_result_31
  · -- not taken
    have b8 := bz_f h8 c_2
    exact thr hx hb hnt 141 "not all shares are there" hts hown (by decide) gk_387 gk_15 xa_S1 xa_S2 xa_S3 hZx (by decide) hS (hl.1.trans hml.symm) d_BB_result_14 d_BB_result_17 d_BB_result_18 d_BB_result_20 d_BB_result_23 htab (Nat.le_of_ble_eq_true rfl) (Nat.le_of_ble_eq_true rfl) (Nat.le_of_ble_eq_true rfl) (Nat.le_of_ble_eq_true rfl) hlocks (fun t9 hal9 hsz9 hkp9 => ⟨(), trivial, ⟨rfl, Or.inr b8⟩, hS.Fx hsz9 hkp9⟩) (fun z hz => hS.2.2 z hz) (Nat.le_of_ble_eq_true rfl) (Nat.le_of_ble_eq_true rfl)
abbrev b_BB_entry : ByteArray := prog_1_method_11_code
abbrev y_BB_entry : MethodName := ⟨"BallotBoard", "entry", "(II)J"⟩
abbrev w_BB_entry : List Cond := .code y_BB_entry b_BB_entry 3 (some .long) :: gw
theorem d_BB_entry_0 : decode b_BB_entry 0 = .ok (.aload_n 0, 1) := by decide +kernel
theorem d_BB_entry_1 : decode b_BB_entry 1 = .ok (.getfield 17, 3) := by decide +kernel
theorem d_BB_entry_4 : decode b_BB_entry 4 = .ok (.iload_n 1, 1) := by decide +kernel
theorem d_BB_entry_5 : decode b_BB_entry 5 = .ok (.iload_n 2, 1) := by decide +kernel
theorem d_BB_entry_6 : decode b_BB_entry 6 = .ok (.invokevirtual 147, 3) := by decide +kernel
theorem d_BB_entry_9 : decode b_BB_entry 9 = .ok (.ifCond .ne 13, 3) := by decide +kernel
theorem d_BB_entry_12 : decode b_BB_entry 12 = .ok (.new 151, 3) := by decide +kernel
theorem d_BB_entry_15 : decode b_BB_entry 15 = .ok (.dup, 1) := by decide +kernel
theorem d_BB_entry_16 : decode b_BB_entry 16 = .ok (.ldc 153, 2) := by decide +kernel
theorem d_BB_entry_18 : decode b_BB_entry 18 = .ok (.invokespecial 155, 3) := by decide +kernel
theorem d_BB_entry_21 : decode b_BB_entry 21 = .ok (.athrow, 1) := by decide +kernel
theorem d_BB_entry_22 : decode b_BB_entry 22 = .ok (.aload_n 0, 1) := by decide +kernel
theorem d_BB_entry_23 : decode b_BB_entry 23 = .ok (.getfield 17, 3) := by decide +kernel
theorem d_BB_entry_26 : decode b_BB_entry 26 = .ok (.iload_n 1, 1) := by decide +kernel
theorem d_BB_entry_27 : decode b_BB_entry 27 = .ok (.invokevirtual 156, 3) := by decide +kernel
theorem d_BB_entry_30 : decode b_BB_entry 30 = .ok (.iload_n 2, 1) := by decide +kernel
theorem d_BB_entry_31 : decode b_BB_entry 31 = .ok (.laload, 1) := by decide +kernel
theorem d_BB_entry_32 : decode b_BB_entry 32 = .ok (.lreturn, 1) := by decide +kernel
set_option maxHeartbeats 8000000 in
set_option maxRecDepth 100000 in
theorem c_BB_entry (l : Launch) (hnt : l.stackTraces = false) (H0 : Heap) (dC : Nat → ClassId) (dI : Nat → Nat → Nat) (cJ cI cR : ClassId) (b0 bd0 pr0 t0 au0 da : Nat) (gv : Value) (h0 ro lo n rb lb : Nat) (N : Nat) (kd wh : Nat → Nat) (R Lk : Nat → Nat → Int64) (x1 x2 : Int32) (hP : va_P (dC, dI) classes ((bb_ws b0 bd0 pr0 t0 au0 da gv ++ (bd_ws bd0 h0 ro lo n cR (rrf rb) (rrf lb))) ++ bpool rb lb cJ R Lk) H0) (hwf : wfE n N kd wh R) : vx_Met l y_BB_entry w_BB_entry ({ frames := 6, cells := 1, slots := 6, locals := 82 }) (va_Pc [.ref b0, .int x1, .int x2] (fun U => U.heap = H0 ∧ va_K (dC, dI) classes [(cJ, .long), (cI, .int), (cR, .array .long)] U ∧ xz (fun _ => False) U U.heap)) (va_Ql (fun (r : Int64) (_ : Unit) => ∃ k J, x1 = nI k ∧ k < n ∧ x2 = nI J ∧ J < wdt (kd k) ∧ r = R k J) (fun _ t => t.heap = H0) (fun _ => False)) (vx_X (fun _ : Unit => True) (fun E _ _ => E = eB ∧ ¬ hasE n kd x1 x2) (fun _ => False)) 1 6 (fun _ => False) := by
  refine vx_ofW (cc := b_BB_entry) (maxL := 3) (ret := (some .long)) (by decide) rfl ?_
  intro p e s m args below meth c s₁ Bd hml htab hv
  obtain ⟨rfl, hH, hK, hZx⟩ := hv
  have hx := Bd.exec
  have hb := Bd.bytes
  have hr := Bd.returns
  have hts := atoms_spec (ws := w_BB_entry) Bd.pre
  have hown : s.vm.findClass "BallotBoard" = some m.cls := findClass_of_methodNamed Bd.named
  have hlocks := Bd.notSynchronized
  subst hH
  have hS : va_S (fun _ => False) s.heap s.heap [] := va_S.rf
  have hl := lv_entry ([.ref b0, .int x1, .int x2]) (n := 3) (Nat.le_of_ble_eq_true rfl)
  rw [lg_entry_eq]
  generalize (lg_sl ([.ref b0, .int x1, .int x2]) ++ List.replicate (3 - (lg_sl ([.ref b0, .int x1, .int x2])).length) Slot.unset).toArray = ls at hl ⊢
  have hl : lv_has ls 3 [(0, .ref b0), (1, .int x1), (2, .int x2)] := hl
  have hn154 : n ≤ 154 := hwf.1
  rcases Classical.em (inN x1 n) with hin | hno
  · obtain ⟨k, rfl, hk⟩ := hin
    obtain ⟨hkd, hr0, hr1, hw2, hwN⟩ := hwf.2.1 k hk
    have hk4 : kd k < 4 := by rcases hkd with h | h | h <;> omega
    have hw8 := wdt_le (kd k)
    have hw5 := wdt_ge (kd k)
    obtain ⟨rk, lk, rst, hrk, hlk, hpm, hbk⟩ := pool_1x [(b0, .inr (7, [.ref bd0, .ref pr0, .ref t0, .ref au0, .ref da, gv])), (bd0, .inr (3, [.ref h0, .ref ro, .ref lo, .int (nI n)])), (ro, .inl (cR, 154, .inr (.inr (.inr (.inr (rrf rb)))))), (lo, .inl (cR, 154, .inr (.inr (.inr (.inr (rrf lb))))))] rb lb cJ R Lk (show k < 154 by omega)
    have hP : va_P (dC, dI) classes ([(b0, .inr (7, [.ref bd0, .ref pr0, .ref t0, .ref au0, .ref da, gv])), (bd0, .inr (3, [.ref h0, .ref ro, .ref lo, .int (nI n)])), (ro, .inl (cR, 154, .inr (.inr (.inr (.inr (rrf rb)))))), (lo, .inl (cR, 154, .inr (.inr (.inr (.inr (rrf lb)))))), (rk, .inl (cJ, 8, .inr (.inl (R k)))), (lk, .inl (cJ, 4, .inr (.inl (Lk k))))] ++ rst) s.heap := hP.perm hpm
    refine lv_aload_n hx hb d_BB_entry_0 rfl (lv_at hl 0 rfl) ?_
    refine va_get (D := (dC, dI)) (ci := 7) (v := .ref bd0) (C := "BallotBoard") (T := F_BB) (N := 6) hx hb hts (fun w9 h9 => List.mem_cons_of_mem _ (i_BB w9 h9)) hown hK hP 0 rfl rfl 0 (by decide) (hts _ (List.mem_cons_of_mem _ gk_156)) (fun _ h9 => h9) rfl d_BB_entry_1 ?_
    refine lv_iload_n hx hb d_BB_entry_4 rfl (lv_at hl 1 rfl) ?_
    refine lv_iload_n hx hb d_BB_entry_5 rfl (lv_at hl 2 rfl) ?_
    have hPc := hP.sub (ws' := (bd_ws bd0 h0 ro lo n cR (rrf rb) (rrf lb) ++ (rw_ws rk cJ (R k)))) [1, 2, 3, 4] rfl
    have hKc := hK.sub (tys' := [(cJ, .long), (cI, .int), (cR, .array .long)]) [0, 1, 2] rfl
    refine va_calli (va_runV (As := [.int (nI k), .int x2]) (rest := []) ⟨hx, hb, hml, hown, hts⟩ (c_Bd_has_in l s.heap dC dI cJ cI cR bd0 h0 ro lo n (rrf rb) (rrf lb) k rk (R k) (kd k) x2 hPc hk (by omega) hrk hr0 (by omega)) (cwV 2 hts (gw_V gk_758 gk_759 gk_760 gk_3 gk_761) rfl rfl rfl (by decide +kernel) ⟨Nat.le_of_ble_eq_true rfl, Nat.le_of_ble_eq_true rfl⟩) ⟨fun a U g mk q => ⟨q.1, q.2.1, va_K.moved (u := U) (U := U.calling g mk a) (Vm.Alike.refl U.vm) q.2.2⟩, va_recv hK hP (ci := 3) (q0 := 1) rfl rfl, fun U hU hW => ⟨rfl, hU, va_K.moved hW.alike hKc⟩⟩ rfl rfl hl.1 rfl (lv_room (Nat.le_of_ble_eq_true rfl)) d_BB_entry_6 ⟨Nat.le_of_ble_eq_true rfl, Nat.le_of_ble_eq_true rfl⟩) hS (fun q _ h => h.elim) (fun q h => h.elim) (fun r6 u9 t9 H1 locs ht hvm hw hB hz1 hk1 hS => ?_)
    obtain rfl : s.heap = H1 := hB.symm.trans ht
    have h6 := hw
    refine lv_if_ne (tgt := 22) hx hb d_BB_entry_9 (by decide) (fun c_1 => ?_) (fun c_1 => ?_)
    · -- taken
      have b6 := bz_t h6 c_1
      obtain ⟨J, rfl, hJ⟩ := b6
      refine lv_aload_n hx hb d_BB_entry_22 rfl (lv_at hl 0 rfl) ?_
      refine va_get (D := (dC, dI)) (ci := 7) (v := .ref bd0) (C := "BallotBoard") (T := F_BB) (N := 6) hx hb hts (fun w9 h9 => List.mem_cons_of_mem _ (i_BB w9 h9)) hown hK hP 0 rfl rfl 0 (by decide) (hts _ (List.mem_cons_of_mem _ gk_156)) (fun _ h9 => h9) rfl d_BB_entry_23 ?_
      refine lv_iload_n hx hb d_BB_entry_26 rfl (lv_at hl 1 rfl) ?_
      have hPc := hP.sub (ws' := (bd_ws bd0 h0 ro lo n cR (rrf rb) (rrf lb))) [1, 2, 3] rfl
      have hKc := hK.sub (tys' := [(cJ, .long), (cI, .int), (cR, .array .long)]) [0, 1, 2] rfl
      refine va_callr (va_runV (As := [.int (nI k)]) (rest := []) ⟨hx, hb, hml, hown, hts⟩ (c_Bd_row l s.heap dC dI cJ cI cR bd0 h0 ro lo n (rrf rb) (rrf lb) k rk hPc (by omega) hrk) (cwV 1 hts (gw_V gk_763 gk_764 gk_765 gk_3 gk_766) rfl rfl rfl (by decide +kernel) ⟨Nat.le_of_ble_eq_true rfl, Nat.le_of_ble_eq_true rfl⟩) ⟨fun a U g mk q => ⟨q.1, q.2.1, va_K.moved (u := U) (U := U.calling g mk a) (Vm.Alike.refl U.vm) q.2.2⟩, va_recv hK hP (ci := 3) (q0 := 1) rfl rfl, fun U hU hW => ⟨rfl, hU, va_K.moved hW.alike hKc⟩⟩ rfl rfl hl.1 rfl (lv_room (Nat.le_of_ble_eq_true rfl)) d_BB_entry_27 ⟨Nat.le_of_ble_eq_true rfl, Nat.le_of_ble_eq_true rfl⟩) hS (fun q _ h => h.elim) (fun q h => h.elim) (fun u9 r27 t9 H1 locs ht hvm hw hB hz1 hk1 hS => ?_)
      obtain ⟨hra, hB⟩ := hB
      have hra := hra.symm
      subst hra
      obtain rfl : s.heap = H1 := hB.symm.trans ht
      refine lv_iload_n hx hb d_BB_entry_30 rfl (lv_at hl 2 rfl) ?_
      refine va_lald hx hb hK hP 4 0 rfl rfl (vp_in_nI (by omega) (by omega)) d_BB_entry_31 ?_
      rw [show (R k (nI J : Int32).toNatClampNeg : Int64) = (R k) J from by rw [nI_clamp (by omega)]]
      refine vx_ret ?_
      refine W.widen (k := 1) (n := 6) (by decide) (by decide) ?_
      exact W.lret (v := ((R k) J)) hx hb hr (fun t ht hW => ⟨⟨_, (), rfl, ⟨k, J, rfl, hk, rfl, hJ, rfl⟩, ht⟩, hS.F ht⟩) hS.2.2 d_BB_entry_32
    · -- not taken
      have b6 := bz_f h6 c_1
      exact thr hx hb hnt 153 "there is no such number" hts hown (by decide) gk_646 gk_18 xa_B1 xa_B2 xa_B3 hZx (by decide) hS (hl.1.trans hml.symm) d_BB_entry_12 d_BB_entry_15 d_BB_entry_16 d_BB_entry_18 d_BB_entry_21 htab (Nat.le_of_ble_eq_true rfl) (Nat.le_of_ble_eq_true rfl) (Nat.le_of_ble_eq_true rfl) (Nat.le_of_ble_eq_true rfl) hlocks (fun t9 hal9 hsz9 hkp9 => ⟨(), trivial, ⟨rfl, fun ⟨k2, J, e1, h1, e2, h2⟩ => by
        have e9 := nI_inj (by omega) (by omega) e1
        subst e9
        exact b6 ⟨J, e2, h2⟩⟩, hS.Fx hsz9 hkp9⟩) (fun z hz => hS.2.2 z hz) (Nat.le_of_ble_eq_true rfl) (Nat.le_of_ble_eq_true rfl)
  · -- it is not
    refine lv_aload_n hx hb d_BB_entry_0 rfl (lv_at hl 0 rfl) ?_
    refine va_get (D := (dC, dI)) (ci := 7) (v := .ref bd0) (C := "BallotBoard") (T := F_BB) (N := 6) hx hb hts (fun w9 h9 => List.mem_cons_of_mem _ (i_BB w9 h9)) hown hK hP 0 rfl rfl 0 (by decide) (hts _ (List.mem_cons_of_mem _ gk_156)) (fun _ h9 => h9) rfl d_BB_entry_1 ?_
    refine lv_iload_n hx hb d_BB_entry_4 rfl (lv_at hl 1 rfl) ?_
    refine lv_iload_n hx hb d_BB_entry_5 rfl (lv_at hl 2 rfl) ?_
    have hPc := hP.sub (ws' := (bo_ws bd0 h0 ro lo n)) [1] rfl
    have hKc := hK.sub (tys' := [(cJ, .long), (cI, .int), (cR, .array .long)]) [0, 1, 2] rfl
    refine va_calli (va_runV (As := [.int x1, .int x2]) (rest := []) ⟨hx, hb, hml, hown, hts⟩ (c_Bd_has_out l s.heap dC dI cJ cI cR bd0 h0 ro lo n x1 x2 hPc (by omega) hno) (cwV 2 hts (gw_V gk_758 gk_759 gk_760 gk_3 gk_761) rfl rfl rfl (by decide +kernel) ⟨Nat.le_of_ble_eq_true rfl, Nat.le_of_ble_eq_true rfl⟩) ⟨fun a U g mk q => ⟨q.1, q.2.1, va_K.moved (u := U) (U := U.calling g mk a) (Vm.Alike.refl U.vm) q.2.2⟩, va_recv hK hP (ci := 3) (q0 := 1) rfl rfl, fun U hU hW => ⟨rfl, hU, va_K.moved hW.alike hKc⟩⟩ rfl rfl hl.1 rfl (lv_room (Nat.le_of_ble_eq_true rfl)) d_BB_entry_6 ⟨Nat.le_of_ble_eq_true rfl, Nat.le_of_ble_eq_true rfl⟩) hS (fun q _ h => h.elim) (fun q h => h.elim) (fun r6 u9 t9 H1 locs ht hvm hw hB hz1 hk1 hS => ?_)
    obtain rfl : s.heap = H1 := hB.symm.trans ht
    have hw : r6 = 0 := hw
    subst hw
    refine lv_if_ne (tgt := 22) hx hb d_BB_entry_9 (by decide) (fun c_2 => ?_) (fun c_2 => ?_)
    · -- taken
      exact absurd rfl c_2
    · -- not taken
      exact thr hx hb hnt 153 "there is no such number" hts hown (by decide) gk_646 gk_18 xa_B1 xa_B2 xa_B3 hZx (by decide) hS (hl.1.trans hml.symm) d_BB_entry_12 d_BB_entry_15 d_BB_entry_16 d_BB_entry_18 d_BB_entry_21 htab (Nat.le_of_ble_eq_true rfl) (Nat.le_of_ble_eq_true rfl) (Nat.le_of_ble_eq_true rfl) (Nat.le_of_ble_eq_true rfl) hlocks (fun t9 hal9 hsz9 hkp9 => ⟨(), trivial, ⟨rfl, fun ⟨k2, J, e1, h1, _⟩ => hno ⟨k2, e1, h1⟩⟩, hS.Fx hsz9 hkp9⟩) (fun z hz => hS.2.2 z hz) (Nat.le_of_ble_eq_true rfl) (Nat.le_of_ble_eq_true rfl)
abbrev b_BB_chain : ByteArray := prog_1_method_12_code
abbrev y_BB_chain : MethodName := ⟨"BallotBoard", "chain", "(II)J"⟩
abbrev w_BB_chain : List Cond := .code y_BB_chain b_BB_chain 3 (some .long) :: gw
theorem d_BB_chain_0 : decode b_BB_chain 0 = .ok (.aload_n 0, 1) := by decide +kernel
theorem d_BB_chain_1 : decode b_BB_chain 1 = .ok (.getfield 17, 3) := by decide +kernel
theorem d_BB_chain_4 : decode b_BB_chain 4 = .ok (.iload_n 1, 1) := by decide +kernel
theorem d_BB_chain_5 : decode b_BB_chain 5 = .ok (.iconst 0, 1) := by decide +kernel
theorem d_BB_chain_6 : decode b_BB_chain 6 = .ok (.invokevirtual 147, 3) := by decide +kernel
theorem d_BB_chain_9 : decode b_BB_chain 9 = .ok (.ifCond .eq 12, 3) := by decide +kernel
theorem d_BB_chain_12 : decode b_BB_chain 12 = .ok (.iload_n 2, 1) := by decide +kernel
theorem d_BB_chain_13 : decode b_BB_chain 13 = .ok (.ifCond .lt 8, 3) := by decide +kernel
theorem d_BB_chain_16 : decode b_BB_chain 16 = .ok (.iload_n 2, 1) := by decide +kernel
theorem d_BB_chain_17 : decode b_BB_chain 17 = .ok (.iconst 4, 1) := by decide +kernel
theorem d_BB_chain_18 : decode b_BB_chain 18 = .ok (.if_icmp .lt 13, 3) := by decide +kernel
theorem d_BB_chain_21 : decode b_BB_chain 21 = .ok (.new 151, 3) := by decide +kernel
theorem d_BB_chain_24 : decode b_BB_chain 24 = .ok (.dup, 1) := by decide +kernel
theorem d_BB_chain_25 : decode b_BB_chain 25 = .ok (.ldc 160, 2) := by decide +kernel
theorem d_BB_chain_27 : decode b_BB_chain 27 = .ok (.invokespecial 155, 3) := by decide +kernel
theorem d_BB_chain_30 : decode b_BB_chain 30 = .ok (.athrow, 1) := by decide +kernel
theorem d_BB_chain_31 : decode b_BB_chain 31 = .ok (.aload_n 0, 1) := by decide +kernel
theorem d_BB_chain_32 : decode b_BB_chain 32 = .ok (.getfield 17, 3) := by decide +kernel
theorem d_BB_chain_35 : decode b_BB_chain 35 = .ok (.iload_n 1, 1) := by decide +kernel
theorem d_BB_chain_36 : decode b_BB_chain 36 = .ok (.invokevirtual 162, 3) := by decide +kernel
theorem d_BB_chain_39 : decode b_BB_chain 39 = .ok (.iload_n 2, 1) := by decide +kernel
theorem d_BB_chain_40 : decode b_BB_chain 40 = .ok (.laload, 1) := by decide +kernel
theorem d_BB_chain_41 : decode b_BB_chain 41 = .ok (.lreturn, 1) := by decide +kernel
set_option maxHeartbeats 8000000 in
set_option maxRecDepth 100000 in
theorem c_BB_chain (l : Launch) (hnt : l.stackTraces = false) (H0 : Heap) (dC : Nat → ClassId) (dI : Nat → Nat → Nat) (cJ cI cR : ClassId) (b0 bd0 pr0 t0 au0 da : Nat) (gv : Value) (h0 ro lo n rb lb : Nat) (N : Nat) (kd wh : Nat → Nat) (R Lk : Nat → Nat → Int64) (x1 x2 : Int32) (hP : va_P (dC, dI) classes ((bb_ws b0 bd0 pr0 t0 au0 da gv ++ (bd_ws bd0 h0 ro lo n cR (rrf rb) (rrf lb))) ++ bpool rb lb cJ R Lk) H0) (hwf : wfE n N kd wh R) : vx_Met l y_BB_chain w_BB_chain ({ frames := 6, cells := 1, slots := 6, locals := 82 }) (va_Pc [.ref b0, .int x1, .int x2] (fun U => U.heap = H0 ∧ va_K (dC, dI) classes [(cJ, .long), (cI, .int), (cR, .array .long)] U ∧ xz (fun _ => False) U U.heap)) (va_Ql (fun (r : Int64) (_ : Unit) => ∃ k J, x1 = nI k ∧ k < n ∧ x2 = nI J ∧ J < 4 ∧ r = Lk k J) (fun _ t => t.heap = H0) (fun _ => False)) (vx_X (fun _ : Unit => True) (fun E _ _ => E = eB ∧ ¬ hasW n x1 x2) (fun _ => False)) 1 6 (fun _ => False) := by
  refine vx_ofW (cc := b_BB_chain) (maxL := 3) (ret := (some .long)) (by decide) rfl ?_
  intro p e s m args below meth c s₁ Bd hml htab hv
  obtain ⟨rfl, hH, hK, hZx⟩ := hv
  have hx := Bd.exec
  have hb := Bd.bytes
  have hr := Bd.returns
  have hts := atoms_spec (ws := w_BB_chain) Bd.pre
  have hown : s.vm.findClass "BallotBoard" = some m.cls := findClass_of_methodNamed Bd.named
  have hlocks := Bd.notSynchronized
  subst hH
  have hS : va_S (fun _ => False) s.heap s.heap [] := va_S.rf
  have hl := lv_entry ([.ref b0, .int x1, .int x2]) (n := 3) (Nat.le_of_ble_eq_true rfl)
  rw [lg_entry_eq]
  generalize (lg_sl ([.ref b0, .int x1, .int x2]) ++ List.replicate (3 - (lg_sl ([.ref b0, .int x1, .int x2])).length) Slot.unset).toArray = ls at hl ⊢
  have hl : lv_has ls 3 [(0, .ref b0), (1, .int x1), (2, .int x2)] := hl
  have hn154 : n ≤ 154 := hwf.1
  rcases Classical.em (inN x1 n) with hin | hno
  · obtain ⟨k, rfl, hk⟩ := hin
    obtain ⟨hkd, hr0, hr1, hw2, hwN⟩ := hwf.2.1 k hk
    have hk4 : kd k < 4 := by rcases hkd with h | h | h <;> omega
    have hw8 := wdt_le (kd k)
    have hw5 := wdt_ge (kd k)
    obtain ⟨rk, lk, rst, hrk, hlk, hpm, hbk⟩ := pool_1x [(b0, .inr (7, [.ref bd0, .ref pr0, .ref t0, .ref au0, .ref da, gv])), (bd0, .inr (3, [.ref h0, .ref ro, .ref lo, .int (nI n)])), (ro, .inl (cR, 154, .inr (.inr (.inr (.inr (rrf rb)))))), (lo, .inl (cR, 154, .inr (.inr (.inr (.inr (rrf lb))))))] rb lb cJ R Lk (show k < 154 by omega)
    have hP : va_P (dC, dI) classes ([(b0, .inr (7, [.ref bd0, .ref pr0, .ref t0, .ref au0, .ref da, gv])), (bd0, .inr (3, [.ref h0, .ref ro, .ref lo, .int (nI n)])), (ro, .inl (cR, 154, .inr (.inr (.inr (.inr (rrf rb)))))), (lo, .inl (cR, 154, .inr (.inr (.inr (.inr (rrf lb)))))), (rk, .inl (cJ, 8, .inr (.inl (R k)))), (lk, .inl (cJ, 4, .inr (.inl (Lk k))))] ++ rst) s.heap := hP.perm hpm
    refine lv_aload_n hx hb d_BB_chain_0 rfl (lv_at hl 0 rfl) ?_
    refine va_get (D := (dC, dI)) (ci := 7) (v := .ref bd0) (C := "BallotBoard") (T := F_BB) (N := 6) hx hb hts (fun w9 h9 => List.mem_cons_of_mem _ (i_BB w9 h9)) hown hK hP 0 rfl rfl 0 (by decide) (hts _ (List.mem_cons_of_mem _ gk_156)) (fun _ h9 => h9) rfl d_BB_chain_1 ?_
    refine lv_iload_n hx hb d_BB_chain_4 rfl (lv_at hl 1 rfl) ?_
    refine lv_iconst (v := 0) hx hb d_BB_chain_5 (by decide) ?_
    have hPc := hP.sub (ws' := (bd_ws bd0 h0 ro lo n cR (rrf rb) (rrf lb) ++ (rw_ws rk cJ (R k)))) [1, 2, 3, 4] rfl
    have hKc := hK.sub (tys' := [(cJ, .long), (cI, .int), (cR, .array .long)]) [0, 1, 2] rfl
    refine va_calli (va_runV (As := [.int (nI k), .int 0]) (rest := []) ⟨hx, hb, hml, hown, hts⟩ (c_Bd_has_in l s.heap dC dI cJ cI cR bd0 h0 ro lo n (rrf rb) (rrf lb) k rk (R k) (kd k) 0 hPc hk (by omega) hrk hr0 (by omega)) (cwV 2 hts (gw_V gk_758 gk_759 gk_760 gk_3 gk_761) rfl rfl rfl (by decide +kernel) ⟨Nat.le_of_ble_eq_true rfl, Nat.le_of_ble_eq_true rfl⟩) ⟨fun a U g mk q => ⟨q.1, q.2.1, va_K.moved (u := U) (U := U.calling g mk a) (Vm.Alike.refl U.vm) q.2.2⟩, va_recv hK hP (ci := 3) (q0 := 1) rfl rfl, fun U hU hW => ⟨rfl, hU, va_K.moved hW.alike hKc⟩⟩ rfl rfl hl.1 rfl (lv_room (Nat.le_of_ble_eq_true rfl)) d_BB_chain_6 ⟨Nat.le_of_ble_eq_true rfl, Nat.le_of_ble_eq_true rfl⟩) hS (fun q _ h => h.elim) (fun q h => h.elim) (fun r6 u9 t9 H1 locs ht hvm hw hB hz1 hk1 hS => ?_)
    obtain rfl : s.heap = H1 := hB.symm.trans ht
    have h6 := hw
    refine lv_if_eq (tgt := 21) hx hb d_BB_chain_9 (by decide) (fun c_1 => ?_) (fun c_1 => ?_)
    · -- taken
      exact absurd ⟨0, rfl, by omega⟩ (bz_f h6 c_1)
    · -- not taken
      have b6 := bz_t h6 c_1
      refine lv_iload_n hx hb d_BB_chain_12 rfl (lv_at hl 2 rfl) ?_
      refine lv_if_lt (tgt := 21) hx hb d_BB_chain_13 (by decide) (fun c_2 => ?_) (fun c_2 => ?_)
      · -- taken
        have hbad : ¬ inN x2 4 := inN_neg (by omega) c_2
        exact thr hx hb hnt 160 "there is no such word" hts hown (by decide) gk_646 gk_18 xa_B1 xa_B2 xa_B3 hZx (by decide) hS (hl.1.trans hml.symm) d_BB_chain_21 d_BB_chain_24 d_BB_chain_25 d_BB_chain_27 d_BB_chain_30 htab (Nat.le_of_ble_eq_true rfl) (Nat.le_of_ble_eq_true rfl) (Nat.le_of_ble_eq_true rfl) (Nat.le_of_ble_eq_true rfl) hlocks (fun t9 hal9 hsz9 hkp9 => ⟨(), trivial, ⟨rfl, fun ⟨k2, J, e1, h1, e2, h2⟩ => hbad ⟨J, e2, h2⟩⟩, hS.Fx hsz9 hkp9⟩) (fun z hz => hS.2.2 z hz) (Nat.le_of_ble_eq_true rfl) (Nat.le_of_ble_eq_true rfl)
      · -- not taken
        obtain ⟨J, hJ31, rfl⟩ := i_nn c_2
        refine lv_iload_n hx hb d_BB_chain_16 rfl (lv_at hl 2 rfl) ?_
        refine lv_iconst (v := 4) hx hb d_BB_chain_17 (by decide) ?_
        refine lv_icmp_lt (tgt := 31) hx hb d_BB_chain_18 (by decide) (fun c_3 => ?_) (fun c_3 => ?_)
        · -- taken
          have hJ : J < 4 := (nI_ltI (by omega) (by omega)).mp (show nI J < nI 4 from c_3)
          refine lv_aload_n hx hb d_BB_chain_31 rfl (lv_at hl 0 rfl) ?_
          refine va_get (D := (dC, dI)) (ci := 7) (v := .ref bd0) (C := "BallotBoard") (T := F_BB) (N := 6) hx hb hts (fun w9 h9 => List.mem_cons_of_mem _ (i_BB w9 h9)) hown hK hP 0 rfl rfl 0 (by decide) (hts _ (List.mem_cons_of_mem _ gk_156)) (fun _ h9 => h9) rfl d_BB_chain_32 ?_
          refine lv_iload_n hx hb d_BB_chain_35 rfl (lv_at hl 1 rfl) ?_
          have hPc := hP.sub (ws' := (bd_ws bd0 h0 ro lo n cR (rrf rb) (rrf lb))) [1, 2, 3] rfl
          have hKc := hK.sub (tys' := [(cJ, .long), (cI, .int), (cR, .array .long)]) [0, 1, 2] rfl
          refine va_callr (va_runV (As := [.int (nI k)]) (rest := []) ⟨hx, hb, hml, hown, hts⟩ (c_Bd_link l s.heap dC dI cJ cI cR bd0 h0 ro lo n (rrf rb) (rrf lb) k lk hPc (by omega) hlk) (cwV 1 hts (gw_V gk_775 gk_776 gk_777 gk_3 gk_778) rfl rfl rfl (by decide +kernel) ⟨Nat.le_of_ble_eq_true rfl, Nat.le_of_ble_eq_true rfl⟩) ⟨fun a U g mk q => ⟨q.1, q.2.1, va_K.moved (u := U) (U := U.calling g mk a) (Vm.Alike.refl U.vm) q.2.2⟩, va_recv hK hP (ci := 3) (q0 := 1) rfl rfl, fun U hU hW => ⟨rfl, hU, va_K.moved hW.alike hKc⟩⟩ rfl rfl hl.1 rfl (lv_room (Nat.le_of_ble_eq_true rfl)) d_BB_chain_36 ⟨Nat.le_of_ble_eq_true rfl, Nat.le_of_ble_eq_true rfl⟩) hS (fun q _ h => h.elim) (fun q h => h.elim) (fun u9 r36 t9 H1 locs ht hvm hw hB hz1 hk1 hS => ?_)
          obtain ⟨hra, hB⟩ := hB
          have hra := hra.symm
          subst hra
          obtain rfl : s.heap = H1 := hB.symm.trans ht
          refine lv_iload_n hx hb d_BB_chain_39 rfl (lv_at hl 2 rfl) ?_
          refine va_lald hx hb hK hP 5 0 rfl rfl (vp_in_nI (by omega) (by omega)) d_BB_chain_40 ?_
          rw [show (Lk k (nI J : Int32).toNatClampNeg : Int64) = (Lk k) J from by rw [nI_clamp (by omega)]]
          refine vx_ret ?_
          refine W.widen (k := 1) (n := 6) (by decide) (by decide) ?_
          exact W.lret (v := ((Lk k) J)) hx hb hr (fun t ht hW => ⟨⟨_, (), rfl, ⟨k, J, rfl, hk, rfl, hJ, rfl⟩, ht⟩, hS.F ht⟩) hS.2.2 d_BB_chain_41
        · -- not taken
          have hbad : ¬ inN (nI J) 4 := inN_big hJ31 (by omega) (Nat.le_of_not_lt (fun h => c_3 (show nI J < nI 4 from (nI_ltI (by omega) (by omega)).mpr h)))
          exact thr hx hb hnt 160 "there is no such word" hts hown (by decide) gk_646 gk_18 xa_B1 xa_B2 xa_B3 hZx (by decide) hS (hl.1.trans hml.symm) d_BB_chain_21 d_BB_chain_24 d_BB_chain_25 d_BB_chain_27 d_BB_chain_30 htab (Nat.le_of_ble_eq_true rfl) (Nat.le_of_ble_eq_true rfl) (Nat.le_of_ble_eq_true rfl) (Nat.le_of_ble_eq_true rfl) hlocks (fun t9 hal9 hsz9 hkp9 => ⟨(), trivial, ⟨rfl, fun ⟨k2, J, e1, h1, e2, h2⟩ => hbad ⟨J, e2, h2⟩⟩, hS.Fx hsz9 hkp9⟩) (fun z hz => hS.2.2 z hz) (Nat.le_of_ble_eq_true rfl) (Nat.le_of_ble_eq_true rfl)
  · -- it is not
    refine lv_aload_n hx hb d_BB_chain_0 rfl (lv_at hl 0 rfl) ?_
    refine va_get (D := (dC, dI)) (ci := 7) (v := .ref bd0) (C := "BallotBoard") (T := F_BB) (N := 6) hx hb hts (fun w9 h9 => List.mem_cons_of_mem _ (i_BB w9 h9)) hown hK hP 0 rfl rfl 0 (by decide) (hts _ (List.mem_cons_of_mem _ gk_156)) (fun _ h9 => h9) rfl d_BB_chain_1 ?_
    refine lv_iload_n hx hb d_BB_chain_4 rfl (lv_at hl 1 rfl) ?_
    refine lv_iconst (v := 0) hx hb d_BB_chain_5 (by decide) ?_
    have hPc := hP.sub (ws' := (bo_ws bd0 h0 ro lo n)) [1] rfl
    have hKc := hK.sub (tys' := [(cJ, .long), (cI, .int), (cR, .array .long)]) [0, 1, 2] rfl
    refine va_calli (va_runV (As := [.int x1, .int 0]) (rest := []) ⟨hx, hb, hml, hown, hts⟩ (c_Bd_has_out l s.heap dC dI cJ cI cR bd0 h0 ro lo n x1 0 hPc (by omega) hno) (cwV 2 hts (gw_V gk_758 gk_759 gk_760 gk_3 gk_761) rfl rfl rfl (by decide +kernel) ⟨Nat.le_of_ble_eq_true rfl, Nat.le_of_ble_eq_true rfl⟩) ⟨fun a U g mk q => ⟨q.1, q.2.1, va_K.moved (u := U) (U := U.calling g mk a) (Vm.Alike.refl U.vm) q.2.2⟩, va_recv hK hP (ci := 3) (q0 := 1) rfl rfl, fun U hU hW => ⟨rfl, hU, va_K.moved hW.alike hKc⟩⟩ rfl rfl hl.1 rfl (lv_room (Nat.le_of_ble_eq_true rfl)) d_BB_chain_6 ⟨Nat.le_of_ble_eq_true rfl, Nat.le_of_ble_eq_true rfl⟩) hS (fun q _ h => h.elim) (fun q h => h.elim) (fun r6 u9 t9 H1 locs ht hvm hw hB hz1 hk1 hS => ?_)
    obtain rfl : s.heap = H1 := hB.symm.trans ht
    have hw : r6 = 0 := hw
    subst hw
    refine lv_if_eq (tgt := 21) hx hb d_BB_chain_9 (by decide) (fun c_4 => ?_) (fun c_4 => ?_)
    · -- taken
      skip
      exact thr hx hb hnt 160 "there is no such word" hts hown (by decide) gk_646 gk_18 xa_B1 xa_B2 xa_B3 hZx (by decide) hS (hl.1.trans hml.symm) d_BB_chain_21 d_BB_chain_24 d_BB_chain_25 d_BB_chain_27 d_BB_chain_30 htab (Nat.le_of_ble_eq_true rfl) (Nat.le_of_ble_eq_true rfl) (Nat.le_of_ble_eq_true rfl) (Nat.le_of_ble_eq_true rfl) hlocks (fun t9 hal9 hsz9 hkp9 => ⟨(), trivial, ⟨rfl, fun ⟨k2, J, e1, h1, _⟩ => hno ⟨k2, e1, h1⟩⟩, hS.Fx hsz9 hkp9⟩) (fun z hz => hS.2.2 z hz) (Nat.le_of_ble_eq_true rfl) (Nat.le_of_ble_eq_true rfl)
    · -- not taken
      exact absurd rfl c_4
abbrev b_BB_spoil : ByteArray := prog_1_method_13_code
abbrev y_BB_spoil : MethodName := ⟨"BallotBoard", "spoil", "(IIJ)J"⟩
abbrev w_BB_spoil : List Cond := .code y_BB_spoil b_BB_spoil 8 (some .long) :: gw
theorem d_BB_spoil_0 : decode b_BB_spoil 0 = .ok (.iload_n 2, 1) := by decide +kernel
theorem d_BB_spoil_1 : decode b_BB_spoil 1 = .ok (.iconst 2, 1) := by decide +kernel
theorem d_BB_spoil_2 : decode b_BB_spoil 2 = .ok (.if_icmp .lt 15, 3) := by decide +kernel
theorem d_BB_spoil_5 : decode b_BB_spoil 5 = .ok (.aload_n 0, 1) := by decide +kernel
theorem d_BB_spoil_6 : decode b_BB_spoil 6 = .ok (.getfield 17, 3) := by decide +kernel
theorem d_BB_spoil_9 : decode b_BB_spoil 9 = .ok (.iload_n 1, 1) := by decide +kernel
theorem d_BB_spoil_10 : decode b_BB_spoil 10 = .ok (.iload_n 2, 1) := by decide +kernel
theorem d_BB_spoil_11 : decode b_BB_spoil 11 = .ok (.invokevirtual 147, 3) := by decide +kernel
theorem d_BB_spoil_14 : decode b_BB_spoil 14 = .ok (.ifCond .ne 13, 3) := by decide +kernel
theorem d_BB_spoil_17 : decode b_BB_spoil 17 = .ok (.new 151, 3) := by decide +kernel
theorem d_BB_spoil_20 : decode b_BB_spoil 20 = .ok (.dup, 1) := by decide +kernel
theorem d_BB_spoil_21 : decode b_BB_spoil 21 = .ok (.ldc 165, 2) := by decide +kernel
theorem d_BB_spoil_23 : decode b_BB_spoil 23 = .ok (.invokespecial 155, 3) := by decide +kernel
theorem d_BB_spoil_26 : decode b_BB_spoil 26 = .ok (.athrow, 1) := by decide +kernel
theorem d_BB_spoil_27 : decode b_BB_spoil 27 = .ok (.aload_n 0, 1) := by decide +kernel
theorem d_BB_spoil_28 : decode b_BB_spoil 28 = .ok (.getfield 17, 3) := by decide +kernel
theorem d_BB_spoil_31 : decode b_BB_spoil 31 = .ok (.iload_n 1, 1) := by decide +kernel
theorem d_BB_spoil_32 : decode b_BB_spoil 32 = .ok (.invokevirtual 156, 3) := by decide +kernel
theorem d_BB_spoil_35 : decode b_BB_spoil 35 = .ok (.astore 5, 2) := by decide +kernel
theorem d_BB_spoil_37 : decode b_BB_spoil 37 = .ok (.aload 5, 2) := by decide +kernel
theorem d_BB_spoil_39 : decode b_BB_spoil 39 = .ok (.iload_n 2, 1) := by decide +kernel
theorem d_BB_spoil_40 : decode b_BB_spoil 40 = .ok (.laload, 1) := by decide +kernel
theorem d_BB_spoil_41 : decode b_BB_spoil 41 = .ok (.lstore 6, 2) := by decide +kernel
theorem d_BB_spoil_43 : decode b_BB_spoil 43 = .ok (.aload 5, 2) := by decide +kernel
theorem d_BB_spoil_45 : decode b_BB_spoil 45 = .ok (.iload_n 2, 1) := by decide +kernel
theorem d_BB_spoil_46 : decode b_BB_spoil 46 = .ok (.lload_n 3, 1) := by decide +kernel
theorem d_BB_spoil_47 : decode b_BB_spoil 47 = .ok (.lastore, 1) := by decide +kernel
theorem d_BB_spoil_48 : decode b_BB_spoil 48 = .ok (.aload_n 0, 1) := by decide +kernel
theorem d_BB_spoil_49 : decode b_BB_spoil 49 = .ok (.getfield 40, 3) := by decide +kernel
theorem d_BB_spoil_52 : decode b_BB_spoil 52 = .ok (.iload_n 1, 1) := by decide +kernel
theorem d_BB_spoil_53 : decode b_BB_spoil 53 = .ok (.invokevirtual 74, 3) := by decide +kernel
theorem d_BB_spoil_56 : decode b_BB_spoil 56 = .ok (.lload 6, 2) := by decide +kernel
theorem d_BB_spoil_58 : decode b_BB_spoil 58 = .ok (.lreturn, 1) := by decide +kernel
set_option maxHeartbeats 8000000 in
set_option maxRecDepth 100000 in
theorem c_BB_spoil (l : Launch) (hnt : l.stackTraces = false) (dC : Nat → ClassId) (dI : Nat → Nat → Nat) (cJ cI cR : ClassId) (sz : Nat) (b0 bd0 pr0 t0 au0 da : Nat) (gv : Value) (tu0 sd : Nat) (h0 ro lo n rb lb : Nat) (N : Nat) (kd wh : Nat → Nat) (R Lk : Nat → Nat → Int64) (x1 x2 : Int32) (x3 : Int64) (hwf : wfE n N kd wh R) (hsd : sd ≤ 154) : vx_Met l y_BB_spoil w_BB_spoil ({ frames := 6, cells := 1, slots := 6, locals := 82 }) (va_Pc [.ref b0, .int x1, .int x2, .long x3] (fun U => U.heap.size = sz ∧ va_P (dC, dI) classes ((bb_ws b0 bd0 pr0 t0 au0 da gv ++ (bd_ws bd0 h0 ro lo n cR (rrf rb) (rrf lb) ++ (au_ws au0 bd0 pr0 tu0 sd))) ++ bpool rb lb cJ R Lk) U.heap ∧ va_K (dC, dI) classes [(cJ, .long), (cI, .int), (cR, .array .long)] U ∧ va_D (fun _ => True) ((bb_ws b0 bd0 pr0 t0 au0 da gv ++ (bd_ws bd0 h0 ro lo n cR (rrf rb) (rrf lb) ++ (au_ws au0 bd0 pr0 tu0 sd))) ++ bpool rb lb cJ R Lk) ∧ xz (va_A ((bb_ws b0 bd0 pr0 t0 au0 da gv ++ (bd_ws bd0 h0 ro lo n cR (rrf rb) (rrf lb) ++ (au_ws au0 bd0 pr0 tu0 sd))) ++ bpool rb lb cJ R Lk) sz) U U.heap)) (va_Ql (fun (r : Int64) (u9 : Nat × Nat) => x1 = nI u9.1 ∧ u9.1 < n ∧ x2 = nI u9.2 ∧ 2 ≤ u9.2 ∧ u9.2 < wdt (kd u9.1) ∧ r = R u9.1 u9.2) (fun u9 t => va_P (dC, dI) classes ((bb_ws b0 bd0 pr0 t0 au0 da gv ++ (bd_ws bd0 h0 ro lo n cR (rrf rb) (rrf lb) ++ (au_ws au0 bd0 pr0 tu0 (min sd u9.1)))) ++ bpool rb lb cJ (updF R u9.1 (vp_updL (R u9.1) u9.2 x3)) Lk) t.heap ∧ va_K (dC, dI) classes [(cJ, .long), (cI, .int), (cR, .array .long)] t ∧ va_D (va_A ((bb_ws b0 bd0 pr0 t0 au0 da gv ++ (bd_ws bd0 h0 ro lo n cR (rrf rb) (rrf lb) ++ (au_ws au0 bd0 pr0 tu0 sd))) ++ bpool rb lb cJ R Lk) sz) ((bb_ws b0 bd0 pr0 t0 au0 da gv ++ (bd_ws bd0 h0 ro lo n cR (rrf rb) (rrf lb) ++ (au_ws au0 bd0 pr0 tu0 (min sd u9.1)))) ++ bpool rb lb cJ (updF R u9.1 (vp_updL (R u9.1) u9.2 x3)) Lk)) (va_A ((bb_ws b0 bd0 pr0 t0 au0 da gv ++ (bd_ws bd0 h0 ro lo n cR (rrf rb) (rrf lb) ++ (au_ws au0 bd0 pr0 tu0 sd))) ++ bpool rb lb cJ R Lk) sz)) (vx_X (fun _ : Unit => True) (fun E u8 t => (E = eB ∧ ¬ hasS n kd x1 x2) ∧ va_P (dC, dI) classes ((bb_ws b0 bd0 pr0 t0 au0 da gv ++ (bd_ws bd0 h0 ro lo n cR (rrf rb) (rrf lb) ++ (au_ws au0 bd0 pr0 tu0 sd))) ++ bpool rb lb cJ R Lk) t.heap ∧ va_K (dC, dI) classes [(cJ, .long), (cI, .int), (cR, .array .long)] t ∧ va_D (va_A ((bb_ws b0 bd0 pr0 t0 au0 da gv ++ (bd_ws bd0 h0 ro lo n cR (rrf rb) (rrf lb) ++ (au_ws au0 bd0 pr0 tu0 sd))) ++ bpool rb lb cJ R Lk) sz) ((bb_ws b0 bd0 pr0 t0 au0 da gv ++ (bd_ws bd0 h0 ro lo n cR (rrf rb) (rrf lb) ++ (au_ws au0 bd0 pr0 tu0 sd))) ++ bpool rb lb cJ R Lk)) (va_A ((bb_ws b0 bd0 pr0 t0 au0 da gv ++ (bd_ws bd0 h0 ro lo n cR (rrf rb) (rrf lb) ++ (au_ws au0 bd0 pr0 tu0 sd))) ++ bpool rb lb cJ R Lk) sz)) 1 6 (va_A ((bb_ws b0 bd0 pr0 t0 au0 da gv ++ (bd_ws bd0 h0 ro lo n cR (rrf rb) (rrf lb) ++ (au_ws au0 bd0 pr0 tu0 sd))) ++ bpool rb lb cJ R Lk) sz) := by
  refine vx_ofW (cc := b_BB_spoil) (maxL := 8) (ret := (some .long)) (by decide) rfl ?_
  intro p e s m args below meth c s₁ Bd hml htab hv
  obtain ⟨rfl, hsz, hP, hK, hD0, hZx⟩ := hv
  have hx := Bd.exec
  have hb := Bd.bytes
  have hr := Bd.returns
  have hts := atoms_spec (ws := w_BB_spoil) Bd.pre
  have hown : s.vm.findClass "BallotBoard" = some m.cls := findClass_of_methodNamed Bd.named
  have hlocks := Bd.notSynchronized
  subst hsz
  have hD := hD0.self (sz := s.heap.size)
  generalize hAe : va_A ((bb_ws b0 bd0 pr0 t0 au0 da gv ++ (bd_ws bd0 h0 ro lo n cR (rrf rb) (rrf lb) ++ (au_ws au0 bd0 pr0 tu0 sd))) ++ bpool rb lb cJ R Lk) s.heap.size = A at hD hZx ⊢
  have hA : ∀ q : Nat, s.heap.size ≤ q → A q := fun q h => by rw [← hAe]; exact Or.inr h
  have hS : va_S A s.heap s.heap [] := va_S.rf
  have hl := lv_entry ([.ref b0, .int x1, .int x2, .long x3]) (n := 8) (Nat.le_of_ble_eq_true rfl)
  rw [lg_entry_eq]
  generalize (lg_sl ([.ref b0, .int x1, .int x2, .long x3]) ++ List.replicate (8 - (lg_sl ([.ref b0, .int x1, .int x2, .long x3])).length) Slot.unset).toArray = ls at hl ⊢
  have hl : lv_has ls 8 [(0, .ref b0), (1, .int x1), (2, .int x2), (3, .long x3)] := hl
  have hn154 : n ≤ 154 := hwf.1
  rcases Classical.em (inN x1 n) with hin | hno
  · obtain ⟨k, rfl, hk⟩ := hin
    obtain ⟨hkd, hr0, hr1, hw2, hwN⟩ := hwf.2.1 k hk
    have hk4 : kd k < 4 := by rcases hkd with h | h | h <;> omega
    have hw8 := wdt_le (kd k)
    have hw5 := wdt_ge (kd k)
    obtain ⟨rk, lk, rst, hrk, hlk, hpm, hbk⟩ := pool_1x [(b0, .inr (7, [.ref bd0, .ref pr0, .ref t0, .ref au0, .ref da, gv])), (bd0, .inr (3, [.ref h0, .ref ro, .ref lo, .int (nI n)])), (ro, .inl (cR, 154, .inr (.inr (.inr (.inr (rrf rb)))))), (lo, .inl (cR, 154, .inr (.inr (.inr (.inr (rrf lb)))))), (au0, .inr (6, [.ref bd0, .ref pr0, .ref tu0, .int (nI sd)]))] rb lb cJ R Lk (show k < 154 by omega)
    have hP : va_P (dC, dI) classes ([(b0, .inr (7, [.ref bd0, .ref pr0, .ref t0, .ref au0, .ref da, gv])), (bd0, .inr (3, [.ref h0, .ref ro, .ref lo, .int (nI n)])), (ro, .inl (cR, 154, .inr (.inr (.inr (.inr (rrf rb)))))), (lo, .inl (cR, 154, .inr (.inr (.inr (.inr (rrf lb)))))), (au0, .inr (6, [.ref bd0, .ref pr0, .ref tu0, .int (nI sd)])), (rk, .inl (cJ, 8, .inr (.inl (R k)))), (lk, .inl (cJ, 4, .inr (.inl (Lk k))))] ++ rst) s.heap := hP.perm hpm
    have hD : va_D A ([(b0, .inr (7, [.ref bd0, .ref pr0, .ref t0, .ref au0, .ref da, gv])), (bd0, .inr (3, [.ref h0, .ref ro, .ref lo, .int (nI n)])), (ro, .inl (cR, 154, .inr (.inr (.inr (.inr (rrf rb)))))), (lo, .inl (cR, 154, .inr (.inr (.inr (.inr (rrf lb)))))), (au0, .inr (6, [.ref bd0, .ref pr0, .ref tu0, .int (nI sd)])), (rk, .inl (cJ, 8, .inr (.inl (R k)))), (lk, .inl (cJ, 4, .inr (.inl (Lk k))))] ++ rst) := hD.perm hpm
    refine lv_iload_n hx hb d_BB_spoil_0 rfl (lv_at hl 2 rfl) ?_
    refine lv_iconst (v := 2) hx hb d_BB_spoil_1 (by decide) ?_
    refine lv_icmp_lt (tgt := 17) hx hb d_BB_spoil_2 (by decide) (fun c_1 => ?_) (fun c_1 => ?_)
    · -- taken
      have hbad : ¬ hasS n kd (nI k) x2 := fun ⟨k2, J2, e1, h1, e2, h2, h3⟩ => by
        have e9 := nI_inj (by omega) (by omega) e1
        subst e9
        rw [e2] at c_1
        have h8 := wdt_le (kd k)
        have := (nI_ltI (a := J2) (b := 2) (by omega) (by omega)).mp c_1
        omega
      have hP : va_P (dC, dI) classes ([(b0, .inr (7, [.ref bd0, .ref pr0, .ref t0, .ref au0, .ref da, gv])), (bd0, .inr (3, [.ref h0, .ref ro, .ref lo, .int (nI n)])), (ro, .inl (cR, 154, .inr (.inr (.inr (.inr (rrf rb)))))), (lo, .inl (cR, 154, .inr (.inr (.inr (.inr (rrf lb)))))), (au0, .inr (6, [.ref bd0, .ref pr0, .ref tu0, .int (nI sd)]))] ++ bpool rb lb cJ R Lk) s.heap := by
        have h9 := hP.perm (hbk [(b0, .inr (7, [.ref bd0, .ref pr0, .ref t0, .ref au0, .ref da, gv])), (bd0, .inr (3, [.ref h0, .ref ro, .ref lo, .int (nI n)])), (ro, .inl (cR, 154, .inr (.inr (.inr (.inr (rrf rb)))))), (lo, .inl (cR, 154, .inr (.inr (.inr (.inr (rrf lb)))))), (au0, .inr (6, [.ref bd0, .ref pr0, .ref tu0, .int (nI sd)]))] _ _)
        rw [updF_id, updF_id] at h9
        exact h9
      have hD : va_D A ([(b0, .inr (7, [.ref bd0, .ref pr0, .ref t0, .ref au0, .ref da, gv])), (bd0, .inr (3, [.ref h0, .ref ro, .ref lo, .int (nI n)])), (ro, .inl (cR, 154, .inr (.inr (.inr (.inr (rrf rb)))))), (lo, .inl (cR, 154, .inr (.inr (.inr (.inr (rrf lb)))))), (au0, .inr (6, [.ref bd0, .ref pr0, .ref tu0, .int (nI sd)]))] ++ bpool rb lb cJ R Lk) := by
        have h9 := hD.perm (hbk [(b0, .inr (7, [.ref bd0, .ref pr0, .ref t0, .ref au0, .ref da, gv])), (bd0, .inr (3, [.ref h0, .ref ro, .ref lo, .int (nI n)])), (ro, .inl (cR, 154, .inr (.inr (.inr (.inr (rrf rb)))))), (lo, .inl (cR, 154, .inr (.inr (.inr (.inr (rrf lb)))))), (au0, .inr (6, [.ref bd0, .ref pr0, .ref tu0, .int (nI sd)]))] _ _)
        rw [updF_id, updF_id] at h9
        exact h9
      exact thr hx hb hnt 165 "there is no such number to spoil" hts hown (by decide) gk_646 gk_18 xa_B1 xa_B2 xa_B3 hZx (by decide) hS (hl.1.trans hml.symm) d_BB_spoil_17 d_BB_spoil_20 d_BB_spoil_21 d_BB_spoil_23 d_BB_spoil_26 htab (Nat.le_of_ble_eq_true rfl) (Nat.le_of_ble_eq_true rfl) (Nat.le_of_ble_eq_true rfl) (Nat.le_of_ble_eq_true rfl) hlocks (fun t9 hal9 hsz9 hkp9 => ⟨(), trivial, ⟨⟨rfl, hbad⟩, hP.kept (fun k9 x9 h9 => hkp9 x9.1 ((hP k9 x9 h9).lt)), va_K.moved hal9 hK, hD⟩, hS.Fx hsz9 hkp9⟩) (fun z hz => hS.2.2 z hz) (Nat.le_of_ble_eq_true rfl) (Nat.le_of_ble_eq_true rfl)
    · -- not taken
      have c2n := c_1
      refine lv_aload_n hx hb d_BB_spoil_5 rfl (lv_at hl 0 rfl) ?_
      refine va_get (D := (dC, dI)) (ci := 7) (v := .ref bd0) (C := "BallotBoard") (T := F_BB) (N := 6) hx hb hts (fun w9 h9 => List.mem_cons_of_mem _ (i_BB w9 h9)) hown hK hP 0 rfl rfl 0 (by decide) (hts _ (List.mem_cons_of_mem _ gk_156)) (fun _ h9 => h9) rfl d_BB_spoil_6 ?_
      refine lv_iload_n hx hb d_BB_spoil_9 rfl (lv_at hl 1 rfl) ?_
      refine lv_iload_n hx hb d_BB_spoil_10 rfl (lv_at hl 2 rfl) ?_
      have hPc := hP.sub (ws' := (bd_ws bd0 h0 ro lo n cR (rrf rb) (rrf lb) ++ (rw_ws rk cJ (R k)))) [1, 2, 3, 5] rfl
      have hKc := hK.sub (tys' := [(cJ, .long), (cI, .int), (cR, .array .long)]) [0, 1, 2] rfl
      refine va_calli (va_runV (As := [.int (nI k), .int x2]) (rest := []) ⟨hx, hb, hml, hown, hts⟩ (c_Bd_has_in l s.heap dC dI cJ cI cR bd0 h0 ro lo n (rrf rb) (rrf lb) k rk (R k) (kd k) x2 hPc hk (by omega) hrk hr0 (by omega)) (cwV 2 hts (gw_V gk_758 gk_759 gk_760 gk_3 gk_761) rfl rfl rfl (by decide +kernel) ⟨Nat.le_of_ble_eq_true rfl, Nat.le_of_ble_eq_true rfl⟩) ⟨fun a U g mk q => ⟨q.1, q.2.1, va_K.moved (u := U) (U := U.calling g mk a) (Vm.Alike.refl U.vm) q.2.2⟩, va_recv hK hP (ci := 3) (q0 := 1) rfl rfl, fun U hU hW => ⟨rfl, hU, va_K.moved hW.alike hKc⟩⟩ rfl rfl hl.1 rfl (lv_room (Nat.le_of_ble_eq_true rfl)) d_BB_spoil_11 ⟨Nat.le_of_ble_eq_true rfl, Nat.le_of_ble_eq_true rfl⟩) hS (fun q _ h => h.elim) (fun q h => h.elim) (fun r11 u9 t9 H1 locs ht hvm hw hB hz1 hk1 hS => ?_)
      obtain rfl : s.heap = H1 := hB.symm.trans ht
      have h11 := hw
      refine lv_if_ne (tgt := 27) hx hb d_BB_spoil_14 (by decide) (fun c_2 => ?_) (fun c_2 => ?_)
      · -- taken
        have b11 := bz_t h11 c_2
        obtain ⟨J, rfl, hJ⟩ := b11
        have hJ2 : 2 ≤ J := Nat.le_of_not_lt (fun h => c2n (show nI J < nI 2 from (nI_ltI (by omega) (by omega)).mpr h))
        refine lv_aload_n hx hb d_BB_spoil_27 rfl (lv_at hl 0 rfl) ?_
        refine va_get (D := (dC, dI)) (ci := 7) (v := .ref bd0) (C := "BallotBoard") (T := F_BB) (N := 6) hx hb hts (fun w9 h9 => List.mem_cons_of_mem _ (i_BB w9 h9)) hown hK hP 0 rfl rfl 0 (by decide) (hts _ (List.mem_cons_of_mem _ gk_156)) (fun _ h9 => h9) rfl d_BB_spoil_28 ?_
        refine lv_iload_n hx hb d_BB_spoil_31 rfl (lv_at hl 1 rfl) ?_
        have hPc := hP.sub (ws' := (bd_ws bd0 h0 ro lo n cR (rrf rb) (rrf lb))) [1, 2, 3] rfl
        have hKc := hK.sub (tys' := [(cJ, .long), (cI, .int), (cR, .array .long)]) [0, 1, 2] rfl
        refine va_callr (va_runV (As := [.int (nI k)]) (rest := []) ⟨hx, hb, hml, hown, hts⟩ (c_Bd_row l s.heap dC dI cJ cI cR bd0 h0 ro lo n (rrf rb) (rrf lb) k rk hPc (by omega) hrk) (cwV 1 hts (gw_V gk_763 gk_764 gk_765 gk_3 gk_766) rfl rfl rfl (by decide +kernel) ⟨Nat.le_of_ble_eq_true rfl, Nat.le_of_ble_eq_true rfl⟩) ⟨fun a U g mk q => ⟨q.1, q.2.1, va_K.moved (u := U) (U := U.calling g mk a) (Vm.Alike.refl U.vm) q.2.2⟩, va_recv hK hP (ci := 3) (q0 := 1) rfl rfl, fun U hU hW => ⟨rfl, hU, va_K.moved hW.alike hKc⟩⟩ rfl rfl hl.1 rfl (lv_room (Nat.le_of_ble_eq_true rfl)) d_BB_spoil_32 ⟨Nat.le_of_ble_eq_true rfl, Nat.le_of_ble_eq_true rfl⟩) hS (fun q _ h => h.elim) (fun q h => h.elim) (fun u9 r32 t9 H1 locs ht hvm hw hB hz1 hk1 hS => ?_)
        obtain ⟨hra, hB⟩ := hB
        have hra := hra.symm
        subst hra
        obtain rfl : s.heap = H1 := hB.symm.trans ht
        refine lv_astore (lv' := [(5, .ref rk), (0, .ref b0), (1, .int (nI k)), (2, .int (nI J)), (3, .long x3)]) hx hb d_BB_spoil_35 hl (by decide) rfl (fun ls hl => ?_)
        refine lv_aload hx hb d_BB_spoil_37 (lv_at hl 0 rfl) ?_
        refine lv_iload_n hx hb d_BB_spoil_39 rfl (lv_at hl 3 rfl) ?_
        refine va_lald hx hb hK hP 5 0 rfl rfl (vp_in_nI (by omega) (by omega)) d_BB_spoil_40 ?_
        rw [show (R k (nI J : Int32).toNatClampNeg : Int64) = (R k) J from by rw [nI_clamp (by omega)]]
        refine lv_lstore (lv' := [(6, .long ((R k) J)), (5, .ref rk), (0, .ref b0), (1, .int (nI k)), (2, .int (nI J)), (3, .long x3)]) hx hb d_BB_spoil_41 hl (by decide) rfl (fun ls hl => ?_)
        refine lv_aload hx hb d_BB_spoil_43 (lv_at hl 1 rfl) ?_
        refine lv_iload_n hx hb d_BB_spoil_45 rfl (lv_at hl 4 rfl) ?_
        refine lv_lload_n hx hb d_BB_spoil_46 rfl (lv_at hl 5 rfl) ?_
        refine va_last hx hb hK hP hD hS 5 0 rfl rfl (vp_in_nI (by omega) (by omega)) d_BB_spoil_47 (fun H locs hP hD hS => ?_)
        have hfe : vp_updL (R k) (nI J : Int32).toNatClampNeg x3 = vp_updL (R k) J x3 := by rw [nI_clamp (by omega)]
        have hP : va_P (dC, dI) classes ([(b0, .inr (7, [.ref bd0, .ref pr0, .ref t0, .ref au0, .ref da, gv])), (bd0, .inr (3, [.ref h0, .ref ro, .ref lo, .int (nI n)])), (ro, .inl (cR, 154, .inr (.inr (.inr (.inr (rrf rb)))))), (lo, .inl (cR, 154, .inr (.inr (.inr (.inr (rrf lb)))))), (au0, .inr (6, [.ref bd0, .ref pr0, .ref tu0, .int (nI sd)])), (rk, .inl (cJ, 8, .inr (.inl (vp_updL (R k) (nI J : Int32).toNatClampNeg x3)))), (lk, .inl (cJ, 4, .inr (.inl (Lk k))))] ++ rst) H := hP
        have hD : va_D A ([(b0, .inr (7, [.ref bd0, .ref pr0, .ref t0, .ref au0, .ref da, gv])), (bd0, .inr (3, [.ref h0, .ref ro, .ref lo, .int (nI n)])), (ro, .inl (cR, 154, .inr (.inr (.inr (.inr (rrf rb)))))), (lo, .inl (cR, 154, .inr (.inr (.inr (.inr (rrf lb)))))), (au0, .inr (6, [.ref bd0, .ref pr0, .ref tu0, .int (nI sd)])), (rk, .inl (cJ, 8, .inr (.inl (vp_updL (R k) (nI J : Int32).toNatClampNeg x3)))), (lk, .inl (cJ, 4, .inr (.inl (Lk k))))] ++ rst) := hD
        rw [hfe] at hP hD
        refine lv_aload_n hx hb d_BB_spoil_48 rfl (lv_at hl 2 rfl) ?_
        refine va_get (D := (dC, dI)) (ci := 7) (v := .ref au0) (C := "BallotBoard") (T := F_BB) (N := 6) hx hb hts (fun w9 h9 => List.mem_cons_of_mem _ (i_BB w9 h9)) hown hK hP 0 rfl rfl 3 (by decide) (hts _ (List.mem_cons_of_mem _ gk_159)) (fun _ h9 => h9) rfl d_BB_spoil_49 ?_
        refine lv_iload_n hx hb d_BB_spoil_52 rfl (lv_at hl 3 rfl) ?_
        have hPc := hP.sub (ws' := (au_ws au0 bd0 pr0 tu0 sd)) [4] rfl
        have hDc := hD.sub (ws' := (au_ws au0 bd0 pr0 tu0 sd)) [4] (by decide) rfl
        have hKc := hK.sub (tys' := [(cJ, .long), (cI, .int), (cR, .array .long)]) [0, 1, 2] rfl
        have hFc := va_free (wc := (au_ws au0 bd0 pr0 tu0 sd)) hD hS hA [4] rfl
        refine va_callv (va_runV (As := [.int (nI k)]) (rest := []) ⟨hx, hb, hml, hown, hts⟩ (c_Au_forgetFrom l dC dI cJ cI cR H.size au0 bd0 pr0 tu0 sd k (by omega) (by omega)) (cwV 1 hts (gw_V gk_356 gk_357 gk_358 gk_6 gk_359) rfl rfl rfl (by decide +kernel) ⟨Nat.le_of_ble_eq_true rfl, Nat.le_of_ble_eq_true rfl⟩) ⟨fun a U g mk q => by obtain ⟨q0, q1, qP, qK, qD⟩ := q; exact ⟨q0, q1, qP, va_K.moved (u := U) (U := U.calling g mk a) (Vm.Alike.refl U.vm) qK, qD⟩, va_recv hK hP (ci := 6) (q0 := 4) rfl rfl, fun U hU hW => ⟨rfl, by rw [hU], by rw [hU]; exact hPc, va_K.moved hW.alike hKc, hDc.weaken (fun _ _ _ _ => trivial)⟩⟩ rfl rfl hl.1 rfl (lv_room (Nat.le_of_ble_eq_true rfl)) d_BB_spoil_53 ⟨Nat.le_of_ble_eq_true rfl, Nat.le_of_ble_eq_true rfl⟩) hS (fun q _ h => hFc q h) hFc (fun u9 t9 H1 locs ht hvm hw hB hz1 hk1 hS => ?_)
        obtain ⟨hP1, hK1, hD1⟩ := hB
        rw [ht] at hP1
        obtain ⟨hP, hD⟩ := va_joinQ (X := [(b0, .inr (7, [.ref bd0, .ref pr0, .ref t0, .ref au0, .ref da, gv])), (bd0, .inr (3, [.ref h0, .ref ro, .ref lo, .int (nI n)])), (ro, .inl (cR, 154, .inr (.inr (.inr (.inr (rrf rb)))))), (lo, .inl (cR, 154, .inr (.inr (.inr (.inr (rrf lb)))))), (au0, .inr (6, [.ref bd0, .ref pr0, .ref tu0, .int (nI sd)])), (rk, .inl (cJ, 8, .inr (.inl (vp_updL (R k) J x3)))), (lk, .inl (cJ, 4, .inr (.inl (Lk k))))]) (cx := (au_ws au0 bd0 pr0 tu0 sd)) (wr := [(b0, .inr (7, [.ref bd0, .ref pr0, .ref t0, .ref au0, .ref da, gv])), (bd0, .inr (3, [.ref h0, .ref ro, .ref lo, .int (nI n)])), (ro, .inl (cR, 154, .inr (.inr (.inr (.inr (rrf rb)))))), (lo, .inl (cR, 154, .inr (.inr (.inr (.inr (rrf lb)))))), (rk, .inl (cJ, 8, .inr (.inl (vp_updL (R k) J x3)))), (lk, .inl (cJ, 4, .inr (.inl (Lk k))))]) (w1 := [(au0, .inr (6, [.ref bd0, .ref pr0, .ref tu0, .int (nI (min sd k))]))]) (pl := rst) hP hD [4] [0, 1, 2, 3, 5, 6] rfl rfl (by decide) (by decide) hk1 hFc hP1 hD1
        have hP := hP.part (cx := [(b0, .inr (7, [.ref bd0, .ref pr0, .ref t0, .ref au0, .ref da, gv])), (bd0, .inr (3, [.ref h0, .ref ro, .ref lo, .int (nI n)])), (ro, .inl (cR, 154, .inr (.inr (.inr (.inr (rrf rb)))))), (lo, .inl (cR, 154, .inr (.inr (.inr (.inr (rrf lb)))))), (au0, .inr (6, [.ref bd0, .ref pr0, .ref tu0, .int (nI (min sd k))])), (rk, .inl (cJ, 8, .inr (.inl (vp_updL (R k) J x3)))), (lk, .inl (cJ, 4, .inr (.inl (Lk k))))]) [0, 1, 2, 3, 6, 4, 5] rfl
        have hD := hD.part (cx := [(b0, .inr (7, [.ref bd0, .ref pr0, .ref t0, .ref au0, .ref da, gv])), (bd0, .inr (3, [.ref h0, .ref ro, .ref lo, .int (nI n)])), (ro, .inl (cR, 154, .inr (.inr (.inr (.inr (rrf rb)))))), (lo, .inl (cR, 154, .inr (.inr (.inr (.inr (rrf lb)))))), (au0, .inr (6, [.ref bd0, .ref pr0, .ref tu0, .int (nI (min sd k))])), (rk, .inl (cJ, 8, .inr (.inl (vp_updL (R k) J x3)))), (lk, .inl (cJ, 4, .inr (.inl (Lk k))))]) [0, 1, 2, 3, 6, 4, 5] (by decide) rfl
        generalize H1 = H at hP hS ⊢
        refine lv_lload hx hb d_BB_spoil_56 (lv_at hl 0 rfl) ?_
        have hP : va_P (dC, dI) classes ([(b0, .inr (7, [.ref bd0, .ref pr0, .ref t0, .ref au0, .ref da, gv])), (bd0, .inr (3, [.ref h0, .ref ro, .ref lo, .int (nI n)])), (ro, .inl (cR, 154, .inr (.inr (.inr (.inr (rrf rb)))))), (lo, .inl (cR, 154, .inr (.inr (.inr (.inr (rrf lb)))))), (au0, .inr (6, [.ref bd0, .ref pr0, .ref tu0, .int (nI (min sd k))]))] ++ bpool rb lb cJ (updF R k (vp_updL (R k) J x3)) Lk) H := by
          have h9 := hP.perm (hbk [(b0, .inr (7, [.ref bd0, .ref pr0, .ref t0, .ref au0, .ref da, gv])), (bd0, .inr (3, [.ref h0, .ref ro, .ref lo, .int (nI n)])), (ro, .inl (cR, 154, .inr (.inr (.inr (.inr (rrf rb)))))), (lo, .inl (cR, 154, .inr (.inr (.inr (.inr (rrf lb)))))), (au0, .inr (6, [.ref bd0, .ref pr0, .ref tu0, .int (nI (min sd k))]))] _ _)
          rw [updF_id Lk] at h9
          exact h9
        have hD : va_D A ([(b0, .inr (7, [.ref bd0, .ref pr0, .ref t0, .ref au0, .ref da, gv])), (bd0, .inr (3, [.ref h0, .ref ro, .ref lo, .int (nI n)])), (ro, .inl (cR, 154, .inr (.inr (.inr (.inr (rrf rb)))))), (lo, .inl (cR, 154, .inr (.inr (.inr (.inr (rrf lb)))))), (au0, .inr (6, [.ref bd0, .ref pr0, .ref tu0, .int (nI (min sd k))]))] ++ bpool rb lb cJ (updF R k (vp_updL (R k) J x3)) Lk) := by
          have h9 := hD.perm (hbk [(b0, .inr (7, [.ref bd0, .ref pr0, .ref t0, .ref au0, .ref da, gv])), (bd0, .inr (3, [.ref h0, .ref ro, .ref lo, .int (nI n)])), (ro, .inl (cR, 154, .inr (.inr (.inr (.inr (rrf rb)))))), (lo, .inl (cR, 154, .inr (.inr (.inr (.inr (rrf lb)))))), (au0, .inr (6, [.ref bd0, .ref pr0, .ref tu0, .int (nI (min sd k))]))] _ _)
          rw [updF_id Lk] at h9
          exact h9
        refine W.widen (k := 1) (n := 6) (by decide) (by decide) ?_
        refine vx_ret ?_
        exact W.lret (v := ((R k) J)) hx hb hr (fun t ht9 hW => ⟨⟨_, (k, J), rfl, ⟨rfl, hk, rfl, hJ2, hJ, rfl⟩, by rw [ht9]; exact hP, va_K.moved hW.alike hK, hD⟩, hS.F ht9⟩) hS.2.2 d_BB_spoil_58
      · -- not taken
        have hbad : ¬ hasS n kd (nI k) x2 := fun ⟨k2, J2, e1, h1, e2, h2, h3⟩ => by
          have e9 := nI_inj (by omega) (by omega) e1
          subst e9
          exact bz_f h11 c_2 ⟨J2, e2, h3⟩
        have hP : va_P (dC, dI) classes ([(b0, .inr (7, [.ref bd0, .ref pr0, .ref t0, .ref au0, .ref da, gv])), (bd0, .inr (3, [.ref h0, .ref ro, .ref lo, .int (nI n)])), (ro, .inl (cR, 154, .inr (.inr (.inr (.inr (rrf rb)))))), (lo, .inl (cR, 154, .inr (.inr (.inr (.inr (rrf lb)))))), (au0, .inr (6, [.ref bd0, .ref pr0, .ref tu0, .int (nI sd)]))] ++ bpool rb lb cJ R Lk) s.heap := by
          have h9 := hP.perm (hbk [(b0, .inr (7, [.ref bd0, .ref pr0, .ref t0, .ref au0, .ref da, gv])), (bd0, .inr (3, [.ref h0, .ref ro, .ref lo, .int (nI n)])), (ro, .inl (cR, 154, .inr (.inr (.inr (.inr (rrf rb)))))), (lo, .inl (cR, 154, .inr (.inr (.inr (.inr (rrf lb)))))), (au0, .inr (6, [.ref bd0, .ref pr0, .ref tu0, .int (nI sd)]))] _ _)
          rw [updF_id, updF_id] at h9
          exact h9
        have hD : va_D A ([(b0, .inr (7, [.ref bd0, .ref pr0, .ref t0, .ref au0, .ref da, gv])), (bd0, .inr (3, [.ref h0, .ref ro, .ref lo, .int (nI n)])), (ro, .inl (cR, 154, .inr (.inr (.inr (.inr (rrf rb)))))), (lo, .inl (cR, 154, .inr (.inr (.inr (.inr (rrf lb)))))), (au0, .inr (6, [.ref bd0, .ref pr0, .ref tu0, .int (nI sd)]))] ++ bpool rb lb cJ R Lk) := by
          have h9 := hD.perm (hbk [(b0, .inr (7, [.ref bd0, .ref pr0, .ref t0, .ref au0, .ref da, gv])), (bd0, .inr (3, [.ref h0, .ref ro, .ref lo, .int (nI n)])), (ro, .inl (cR, 154, .inr (.inr (.inr (.inr (rrf rb)))))), (lo, .inl (cR, 154, .inr (.inr (.inr (.inr (rrf lb)))))), (au0, .inr (6, [.ref bd0, .ref pr0, .ref tu0, .int (nI sd)]))] _ _)
          rw [updF_id, updF_id] at h9
          exact h9
        exact thr hx hb hnt 165 "there is no such number to spoil" hts hown (by decide) gk_646 gk_18 xa_B1 xa_B2 xa_B3 hZx (by decide) hS (hl.1.trans hml.symm) d_BB_spoil_17 d_BB_spoil_20 d_BB_spoil_21 d_BB_spoil_23 d_BB_spoil_26 htab (Nat.le_of_ble_eq_true rfl) (Nat.le_of_ble_eq_true rfl) (Nat.le_of_ble_eq_true rfl) (Nat.le_of_ble_eq_true rfl) hlocks (fun t9 hal9 hsz9 hkp9 => ⟨(), trivial, ⟨⟨rfl, hbad⟩, hP.kept (fun k9 x9 h9 => hkp9 x9.1 ((hP k9 x9 h9).lt)), va_K.moved hal9 hK, hD⟩, hS.Fx hsz9 hkp9⟩) (fun z hz => hS.2.2 z hz) (Nat.le_of_ble_eq_true rfl) (Nat.le_of_ble_eq_true rfl)
  · -- it is not
    refine lv_iload_n hx hb d_BB_spoil_0 rfl (lv_at hl 2 rfl) ?_
    refine lv_iconst (v := 2) hx hb d_BB_spoil_1 (by decide) ?_
    refine lv_icmp_lt (tgt := 17) hx hb d_BB_spoil_2 (by decide) (fun c_4 => ?_) (fun c_4 => ?_)
    · -- taken
      skip
      skip
      exact thr hx hb hnt 165 "there is no such number to spoil" hts hown (by decide) gk_646 gk_18 xa_B1 xa_B2 xa_B3 hZx (by decide) hS (hl.1.trans hml.symm) d_BB_spoil_17 d_BB_spoil_20 d_BB_spoil_21 d_BB_spoil_23 d_BB_spoil_26 htab (Nat.le_of_ble_eq_true rfl) (Nat.le_of_ble_eq_true rfl) (Nat.le_of_ble_eq_true rfl) (Nat.le_of_ble_eq_true rfl) hlocks (fun t9 hal9 hsz9 hkp9 => ⟨(), trivial, ⟨⟨rfl, fun ⟨k2, J, e1, h1, _⟩ => hno ⟨k2, e1, h1⟩⟩, hP.kept (fun k9 x9 h9 => hkp9 x9.1 ((hP k9 x9 h9).lt)), va_K.moved hal9 hK, hD⟩, hS.Fx hsz9 hkp9⟩) (fun z hz => hS.2.2 z hz) (Nat.le_of_ble_eq_true rfl) (Nat.le_of_ble_eq_true rfl)
    · -- not taken
      have c2n := c_4
      refine lv_aload_n hx hb d_BB_spoil_5 rfl (lv_at hl 0 rfl) ?_
      refine va_get (D := (dC, dI)) (ci := 7) (v := .ref bd0) (C := "BallotBoard") (T := F_BB) (N := 6) hx hb hts (fun w9 h9 => List.mem_cons_of_mem _ (i_BB w9 h9)) hown hK hP 0 rfl rfl 0 (by decide) (hts _ (List.mem_cons_of_mem _ gk_156)) (fun _ h9 => h9) rfl d_BB_spoil_6 ?_
      refine lv_iload_n hx hb d_BB_spoil_9 rfl (lv_at hl 1 rfl) ?_
      refine lv_iload_n hx hb d_BB_spoil_10 rfl (lv_at hl 2 rfl) ?_
      have hPc := hP.sub (ws' := (bo_ws bd0 h0 ro lo n)) [1] rfl
      have hKc := hK.sub (tys' := [(cJ, .long), (cI, .int), (cR, .array .long)]) [0, 1, 2] rfl
      refine va_calli (va_runV (As := [.int x1, .int x2]) (rest := []) ⟨hx, hb, hml, hown, hts⟩ (c_Bd_has_out l s.heap dC dI cJ cI cR bd0 h0 ro lo n x1 x2 hPc (by omega) hno) (cwV 2 hts (gw_V gk_758 gk_759 gk_760 gk_3 gk_761) rfl rfl rfl (by decide +kernel) ⟨Nat.le_of_ble_eq_true rfl, Nat.le_of_ble_eq_true rfl⟩) ⟨fun a U g mk q => ⟨q.1, q.2.1, va_K.moved (u := U) (U := U.calling g mk a) (Vm.Alike.refl U.vm) q.2.2⟩, va_recv hK hP (ci := 3) (q0 := 1) rfl rfl, fun U hU hW => ⟨rfl, hU, va_K.moved hW.alike hKc⟩⟩ rfl rfl hl.1 rfl (lv_room (Nat.le_of_ble_eq_true rfl)) d_BB_spoil_11 ⟨Nat.le_of_ble_eq_true rfl, Nat.le_of_ble_eq_true rfl⟩) hS (fun q _ h => h.elim) (fun q h => h.elim) (fun r11 u9 t9 H1 locs ht hvm hw hB hz1 hk1 hS => ?_)
      obtain rfl : s.heap = H1 := hB.symm.trans ht
      have hw : r11 = 0 := hw
      subst hw
      refine lv_if_ne (tgt := 27) hx hb d_BB_spoil_14 (by decide) (fun c_5 => ?_) (fun c_5 => ?_)
      · -- taken
        exact absurd rfl c_5
      · -- not taken
        skip
        skip
        exact thr hx hb hnt 165 "there is no such number to spoil" hts hown (by decide) gk_646 gk_18 xa_B1 xa_B2 xa_B3 hZx (by decide) hS (hl.1.trans hml.symm) d_BB_spoil_17 d_BB_spoil_20 d_BB_spoil_21 d_BB_spoil_23 d_BB_spoil_26 htab (Nat.le_of_ble_eq_true rfl) (Nat.le_of_ble_eq_true rfl) (Nat.le_of_ble_eq_true rfl) (Nat.le_of_ble_eq_true rfl) hlocks (fun t9 hal9 hsz9 hkp9 => ⟨(), trivial, ⟨⟨rfl, fun ⟨k2, J, e1, h1, _⟩ => hno ⟨k2, e1, h1⟩⟩, hP.kept (fun k9 x9 h9 => hkp9 x9.1 ((hP k9 x9 h9).lt)), va_K.moved hal9 hK, hD⟩, hS.Fx hsz9 hkp9⟩) (fun z hz => hS.2.2 z hz) (Nat.le_of_ble_eq_true rfl) (Nat.le_of_ble_eq_true rfl)
