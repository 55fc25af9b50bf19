theorem sw_out {x : Int32} {n : Nat} (hn : n < 2 ^ 31) (h : ¬ inN x (n + 1)) : x.toInt < 0 ∨ (n : Int) < x.toInt := by
  by_cases h0 : x < 0
  · have h1 := Int32.lt_iff_toInt_lt.mp h0
    rw [Int32.toInt_zero] at h1
    exact Or.inl h1
  · obtain ⟨I, hI, rfl⟩ := i_nn h0
    right
    rw [nI_toInt hI]
    have : ¬ I < n + 1 := fun h9 => h ⟨I, rfl, h9⟩
    omega
def wi_Z (wA : Nat) (A : Nat → Prop) (U : State) (H : Heap) : Prop := va_Z "BallotBoard$Modulus" "WITNESSES" "[I" (.ref wA) A U H ∧ va_T .int wA 9 (fun j => .int (wit j)) A U H
theorem wi_Z.moved {wA : Nat} {A : Nat → Prop} {u U : State} {H : Heap} (hvm : u.vm.Alike U.vm) (h : wi_Z wA A u H) : wi_Z wA A U H := ⟨h.1.moved hvm, h.2.moved hvm⟩
theorem wi_Z.kept {wA : Nat} {A : Nat → Prop} {U : State} {H H1 : Heap} (h : wi_Z wA A U H) (hq : ∀ a : Nat, a < H.size → ¬ A a → H1[a]? = H[a]?) : wi_Z wA A U H1 := ⟨h.1.kept hq, h.2.kept hq⟩
theorem wi_Z.narrow {wA : Nat} {A B : Nat → Prop} {U : State} {H : Heap} (h : wi_Z wA A U H) (hAB : ∀ q, B q → A q) : wi_Z wA B U H := ⟨h.1.narrow hAB, h.2.narrow hAB⟩
theorem va_D.fresh {A : Nat → Prop} {w1 w2 : va_W} {D : va_G} {cl : List vw_C} {H : Heap} (h1 : va_D A w1) (hP : va_P D cl w1 H) (h2 : va_D (fun q => H.size ≤ q) w2) (hA : ∀ q : Nat, H.size ≤ q → A q) : va_D A (w1 ++ w2) := by
  refine va_D.app h1 (h2.weaken (fun k q hk h => hA _ h)) (fun i j p q hp hq e => ?_)
  have a := (hP i p hp).lt
  have b := h2.2 j q hq
  omega
abbrev b_BB_audit : ByteArray := prog_1_method_14_code
abbrev y_BB_audit : MethodName := ⟨"BallotBoard", "audit", "()I"⟩
abbrev w_BB_audit : List Cond := .code y_BB_audit b_BB_audit 1 (some .int) :: gw
theorem d_BB_audit_0 : decode b_BB_audit 0 = .ok (.aload_n 0, 1) := by decide +kernel
theorem d_BB_audit_1 : decode b_BB_audit 1 = .ok (.invokevirtual 167, 3) := by decide +kernel
theorem d_BB_audit_4 : decode b_BB_audit 4 = .ok (.aload_n 0, 1) := by decide +kernel
theorem d_BB_audit_5 : decode b_BB_audit 5 = .ok (.getfield 40, 3) := by decide +kernel
theorem d_BB_audit_8 : decode b_BB_audit 8 = .ok (.aload_n 0, 1) := by decide +kernel
theorem d_BB_audit_9 : decode b_BB_audit 9 = .ok (.getfield 48, 3) := by decide +kernel
theorem d_BB_audit_12 : decode b_BB_audit 12 = .ok (.aload_n 0, 1) := by decide +kernel
theorem d_BB_audit_13 : decode b_BB_audit 13 = .ok (.getfield 31, 3) := by decide +kernel
theorem d_BB_audit_16 : decode b_BB_audit 16 = .ok (.invokevirtual 170, 3) := by decide +kernel
theorem d_BB_audit_19 : decode b_BB_audit 19 = .ok (.invokevirtual 173, 3) := by decide +kernel
theorem d_BB_audit_22 : decode b_BB_audit 22 = .ok (.ireturn, 1) := by decide +kernel
set_option maxHeartbeats 8000000 in
set_option maxRecDepth 100000 in
theorem c_BB_audit (l : Launch) (hnt : l.stackTraces = false) (dC : Nat → ClassId) (dI : Nat → Nat → Nat) (cJ cI cR : ClassId) (sz : Nat) (b0 bd0 pr0 t0 au0 da : Nat) (ka aa ba sa : Nat) (T : TS) (sd h0 ro lo n rb lb cm : Nat) (cf : Nat → Nat) (aw ax ay : Nat) (w : Nat → Int64) (sc st : Nat → Int32) (L : Nat) (tu0 uka uaa uba usa : Nat) (T0 : TS) (gu : Value) (g0 mF mE P f1 k1 Q f2 k2 G : Nat) (rA sA : Nat) (kd wh : Nat → Nat) (R Lk : Nat → Nat → Int64) (hok : gp_ok P f1 k1 Q f2 k2 G) (hN : (t_tn T) ≤ 4) (hwf : wfE n (t_tn T) kd wh R) (h0k : tOk P (t_tn T) (tStart (t_tn T) T0)) (hkc : ∀ k, k ≤ n → t_kc (aud P (t_tn T) T0 kd wh R k) ≤ 4) (hsn : sd ≤ n) (hsdd : ∀ i, i < sd → hds P Q G (t_tn T) T0 kd wh R Lk i) : vx_Met l y_BB_audit w_BB_audit ({ frames := 7, cells := 1, slots := 6, locals := 177 }) (va_Pc [.ref b0] (fun U => U.heap.size = sz ∧ va_P (dC, dI) classes ((bb_ws b0 bd0 pr0 t0 au0 da (.ref g0) ++ (tt_ws t0 ka aa ba sa (.ref g0) cJ T ++ (au_ws au0 bd0 pr0 tu0 sd ++ (bd_ws bd0 h0 ro lo n cR (rrf rb) (rrf lb) ++ (pr_ws pr0 h0 cm cJ cf ++ (ha_ws h0 aw ax ay cJ cI w sc st L ++ (tt_ws tu0 uka uaa uba usa gu cJ T0 ++ (gp_ws g0 mF mE P f1 k1 Q f2 k2 G)))))))) ++ bpool rb lb cJ R Lk) U.heap ∧ va_K (dC, dI) classes [(cJ, .long), (cI, .int), (cR, .array .long)] U ∧ va_D (fun _ => True) ((bb_ws b0 bd0 pr0 t0 au0 da (.ref g0) ++ (tt_ws t0 ka aa ba sa (.ref g0) cJ T ++ (au_ws au0 bd0 pr0 tu0 sd ++ (bd_ws bd0 h0 ro lo n cR (rrf rb) (rrf lb) ++ (pr_ws pr0 h0 cm cJ cf ++ (ha_ws h0 aw ax ay cJ cI w sc st L ++ (tt_ws tu0 uka uaa uba usa gu cJ T0 ++ (gp_ws g0 mF mE P f1 k1 Q f2 k2 G)))))))) ++ bpool rb lb cJ R Lk) ∧ ha_Z rA sA (va_A ((bb_ws b0 bd0 pr0 t0 au0 da (.ref g0) ++ (tt_ws t0 ka aa ba sa (.ref g0) cJ T ++ (au_ws au0 bd0 pr0 tu0 sd ++ (bd_ws bd0 h0 ro lo n cR (rrf rb) (rrf lb) ++ (pr_ws pr0 h0 cm cJ cf ++ (ha_ws h0 aw ax ay cJ cI w sc st L ++ (tt_ws tu0 uka uaa uba usa gu cJ T0 ++ (gp_ws g0 mF mE P f1 k1 Q f2 k2 G)))))))) ++ bpool rb lb cJ R Lk) sz) U U.heap ∧ xz (va_A ((bb_ws b0 bd0 pr0 t0 au0 da (.ref g0) ++ (tt_ws t0 ka aa ba sa (.ref g0) cJ T ++ (au_ws au0 bd0 pr0 tu0 sd ++ (bd_ws bd0 h0 ro lo n cR (rrf rb) (rrf lb) ++ (pr_ws pr0 h0 cm cJ cf ++ (ha_ws h0 aw ax ay cJ cI w sc st L ++ (tt_ws tu0 uka uaa uba usa gu cJ T0 ++ (gp_ws g0 mF mE P f1 k1 Q f2 k2 G)))))))) ++ bpool rb lb cJ R Lk) sz) U U.heap)) (va_Qi (fun (r : Int32) (u9 : TS × (Nat → Nat) × HU × Nat) => fwr n (hds P Q G (t_tn T) T0 kd wh R Lk) r ∧ u9.2.2.2 ≤ n ∧ ∀ i, i < u9.2.2.2 → hds P Q G (t_tn T) T0 kd wh R Lk i) (fun u9 t => va_P (dC, dI) classes ((bb_ws b0 bd0 pr0 t0 au0 da (.ref g0) ++ (tt_ws t0 ka aa ba sa (.ref g0) cJ T ++ (au_ws au0 bd0 pr0 tu0 u9.2.2.2 ++ (bd_ws bd0 h0 ro lo n cR (rrf rb) (rrf lb) ++ (pr_ws pr0 h0 cm cJ u9.2.1 ++ (hu_ws h0 aw ax ay cJ cI u9.2.2.1 ++ (tt_ws tu0 uka uaa uba usa (.ref g0) cJ u9.1 ++ (gp_ws g0 mF mE P f1 k1 Q f2 k2 G)))))))) ++ bpool rb lb cJ R Lk) t.heap ∧ va_K (dC, dI) classes [(cJ, .long), (cI, .int), (cR, .array .long)] t ∧ va_D (va_A ((bb_ws b0 bd0 pr0 t0 au0 da (.ref g0) ++ (tt_ws t0 ka aa ba sa (.ref g0) cJ T ++ (au_ws au0 bd0 pr0 tu0 sd ++ (bd_ws bd0 h0 ro lo n cR (rrf rb) (rrf lb) ++ (pr_ws pr0 h0 cm cJ cf ++ (ha_ws h0 aw ax ay cJ cI w sc st L ++ (tt_ws tu0 uka uaa uba usa gu cJ T0 ++ (gp_ws g0 mF mE P f1 k1 Q f2 k2 G)))))))) ++ bpool rb lb cJ R Lk) sz) ((bb_ws b0 bd0 pr0 t0 au0 da (.ref g0) ++ (tt_ws t0 ka aa ba sa (.ref g0) cJ T ++ (au_ws au0 bd0 pr0 tu0 u9.2.2.2 ++ (bd_ws bd0 h0 ro lo n cR (rrf rb) (rrf lb) ++ (pr_ws pr0 h0 cm cJ u9.2.1 ++ (hu_ws h0 aw ax ay cJ cI u9.2.2.1 ++ (tt_ws tu0 uka uaa uba usa (.ref g0) cJ u9.1 ++ (gp_ws g0 mF mE P f1 k1 Q f2 k2 G)))))))) ++ bpool rb lb cJ R Lk)) (va_A ((bb_ws b0 bd0 pr0 t0 au0 da (.ref g0) ++ (tt_ws t0 ka aa ba sa (.ref g0) cJ T ++ (au_ws au0 bd0 pr0 tu0 sd ++ (bd_ws bd0 h0 ro lo n cR (rrf rb) (rrf lb) ++ (pr_ws pr0 h0 cm cJ cf ++ (ha_ws h0 aw ax ay cJ cI w sc st L ++ (tt_ws tu0 uka uaa uba usa gu cJ T0 ++ (gp_ws g0 mF mE P f1 k1 Q f2 k2 G)))))))) ++ bpool rb lb cJ R Lk) sz)) (vx_X (fun _ : Unit => True) (fun E u8 t => (False) ∧ va_P (dC, dI) classes ((bb_ws b0 bd0 pr0 t0 au0 da (.ref g0) ++ (tt_ws t0 ka aa ba sa (.ref g0) cJ T ++ (au_ws au0 bd0 pr0 tu0 sd ++ (bd_ws bd0 h0 ro lo n cR (rrf rb) (rrf lb) ++ (pr_ws pr0 h0 cm cJ cf ++ (ha_ws h0 aw ax ay cJ cI w sc st L ++ (tt_ws tu0 uka uaa uba usa gu cJ T0 ++ (gp_ws g0 mF mE P f1 k1 Q f2 k2 G)))))))) ++ bpool rb lb cJ R Lk) t.heap ∧ va_K (dC, dI) classes [(cJ, .long), (cI, .int), (cR, .array .long)] t ∧ va_D (va_A ((bb_ws b0 bd0 pr0 t0 au0 da (.ref g0) ++ (tt_ws t0 ka aa ba sa (.ref g0) cJ T ++ (au_ws au0 bd0 pr0 tu0 sd ++ (bd_ws bd0 h0 ro lo n cR (rrf rb) (rrf lb) ++ (pr_ws pr0 h0 cm cJ cf ++ (ha_ws h0 aw ax ay cJ cI w sc st L ++ (tt_ws tu0 uka uaa uba usa gu cJ T0 ++ (gp_ws g0 mF mE P f1 k1 Q f2 k2 G)))))))) ++ bpool rb lb cJ R Lk) sz) ((bb_ws b0 bd0 pr0 t0 au0 da (.ref g0) ++ (tt_ws t0 ka aa ba sa (.ref g0) cJ T ++ (au_ws au0 bd0 pr0 tu0 sd ++ (bd_ws bd0 h0 ro lo n cR (rrf rb) (rrf lb) ++ (pr_ws pr0 h0 cm cJ cf ++ (ha_ws h0 aw ax ay cJ cI w sc st L ++ (tt_ws tu0 uka uaa uba usa gu cJ T0 ++ (gp_ws g0 mF mE P f1 k1 Q f2 k2 G)))))))) ++ bpool rb lb cJ R Lk)) (va_A ((bb_ws b0 bd0 pr0 t0 au0 da (.ref g0) ++ (tt_ws t0 ka aa ba sa (.ref g0) cJ T ++ (au_ws au0 bd0 pr0 tu0 sd ++ (bd_ws bd0 h0 ro lo n cR (rrf rb) (rrf lb) ++ (pr_ws pr0 h0 cm cJ cf ++ (ha_ws h0 aw ax ay cJ cI w sc st L ++ (tt_ws tu0 uka uaa uba usa gu cJ T0 ++ (gp_ws g0 mF mE P f1 k1 Q f2 k2 G)))))))) ++ bpool rb lb cJ R Lk) sz)) 1 6 (va_A ((bb_ws b0 bd0 pr0 t0 au0 da (.ref g0) ++ (tt_ws t0 ka aa ba sa (.ref g0) cJ T ++ (au_ws au0 bd0 pr0 tu0 sd ++ (bd_ws bd0 h0 ro lo n cR (rrf rb) (rrf lb) ++ (pr_ws pr0 h0 cm cJ cf ++ (ha_ws h0 aw ax ay cJ cI w sc st L ++ (tt_ws tu0 uka uaa uba usa gu cJ T0 ++ (gp_ws g0 mF mE P f1 k1 Q f2 k2 G)))))))) ++ bpool rb lb cJ R Lk) sz) := by
  refine vx_ofW (cc := b_BB_audit) (maxL := 1) (ret := (some .int)) (by decide) rfl ?_
  intro p e s m args below meth c s₁ Bd hml htab hv
  obtain ⟨rfl, hsz, hP, hK, hD0, hZha, hZx⟩ := hv
  have hx := Bd.exec
  have hb := Bd.bytes
  have hr := Bd.returns
  have hts := atoms_spec (ws := w_BB_audit) Bd.pre
  have hown : s.vm.findClass "BallotBoard" = some m.cls := findClass_of_methodNamed Bd.named
  have hlocks := Bd.notSynchronized
  subst hsz
  have hD := hD0.self (sz := s.heap.size)
  generalize hAe : va_A ((bb_ws b0 bd0 pr0 t0 au0 da (.ref g0) ++ (tt_ws t0 ka aa ba sa (.ref g0) cJ T ++ (au_ws au0 bd0 pr0 tu0 sd ++ (bd_ws bd0 h0 ro lo n cR (rrf rb) (rrf lb) ++ (pr_ws pr0 h0 cm cJ cf ++ (ha_ws h0 aw ax ay cJ cI w sc st L ++ (tt_ws tu0 uka uaa uba usa gu cJ T0 ++ (gp_ws g0 mF mE P f1 k1 Q f2 k2 G)))))))) ++ bpool rb lb cJ R Lk) s.heap.size = A at hD hZha hZx ⊢
  have hA : ∀ q : Nat, s.heap.size ≤ q → A q := fun q h => by rw [← hAe]; exact Or.inr h
  have hS : va_S A s.heap s.heap [] := va_S.rf
  have hl := lv_entry ([.ref b0]) (n := 1) (Nat.le_of_ble_eq_true rfl)
  rw [lg_entry_eq]
  generalize (lg_sl ([.ref b0]) ++ List.replicate (1 - (lg_sl ([.ref b0])).length) Slot.unset).toArray = ls at hl ⊢
  have hl : lv_has ls 1 [(0, .ref b0)] := hl
  refine lv_aload_n hx hb d_BB_audit_0 rfl (lv_at hl 0 rfl) ?_
  have hPc := hP.sub (ws' := (bb_ws b0 bd0 pr0 t0 au0 da (.ref g0))) [0] rfl
  have hKc := hK.sub (tys' := [(cJ, .long), (cI, .int), (cR, .array .long)]) [0, 1, 2] rfl
  have hZc : xz (fun _ => False) s s.heap := (hZx.kept hS.2.1).narrow (fun q h => h.elim)
  refine vx_callv (vx_runV (As := []) (rest := []) ⟨hx, hb, hml, hown, hts⟩ (c_BB_expectGroup_g l hnt s.heap dC dI cJ cI cR b0 bd0 pr0 t0 au0 da g0 hPc ) (cwV 0 hts (gw_V gk_383 gk_385 gp_5 gk_1 gk_386) rfl rfl rfl (by decide +kernel) ⟨(Nat.le_of_ble_eq_true rfl), (Nat.le_of_ble_eq_true rfl)⟩) ⟨fun a U g mk q => ⟨q.1, q.2.1, va_K.moved (u := U) (U := U.calling g mk a) (Vm.Alike.refl U.vm) q.2.2.1, xz.same (u := U) (U := U.calling g mk a) rfl q.2.2.2⟩, va_recv hK hP (ci := 7) (q0 := 0) rfl rfl, fun U hU hW => ⟨rfl, hU, va_K.moved hW.alike hKc, by rw [hU]; exact xz.warm hW hZc⟩⟩ rfl rfl hl.1 rfl (lv_room (Nat.le_of_ble_eq_true rfl)) d_BB_audit_1 ⟨(Nat.le_of_ble_eq_true rfl), (Nat.le_of_ble_eq_true rfl)⟩) hS (fun q _ h => h.elim) (fun q h => h.elim) (fun q _ h => h.elim) (fun E9 ce9 q9 u8 t9 H1 locs ht hvm hpx hbx hz1 hk1 hS hce hcv hcl => ?_) (fun u9 t9 H1 locs ht hvm hw hB hz1 hk1 hS => ?_)
  · have hP9 : va_P (dC, dI) classes ([(b0, .inr (7, [.ref bd0, .ref pr0, .ref t0, .ref au0, .ref da, .ref g0])), (t0, .inr (4, [.ref ka, .ref aa, .ref ba, .ref sa, .ref g0, .int (nI (t_tn T)), .int (nI (t_kc T)), .int (nI (t_bc T)), .int (nI (t_shc T)), .long (lN (t_kp T)), .long (lN (t_shp T)), .long (lN (t_pa T)), .long (lN (t_pb T)), .int (t_sht T)])), (ka, .inl (cJ, 4, .inr (.inl (lF (t_ko T))))), (aa, .inl (cJ, 64, .inr (.inl (lF (t_ao T))))), (ba, .inl (cJ, 64, .inr (.inl (lF (t_bo T))))), (sa, .inl (cJ, 4, .inr (.inl (lF (t_so T))))), (au0, .inr (6, [.ref bd0, .ref pr0, .ref tu0, .int (nI sd)])), (bd0, .inr (3, [.ref h0, .ref ro, .ref lo, .int (nI n)])), (ro, .inl (cR, 154, .inr (.inr (.inr (.inr (rrf rb)))))), (lo, .inl (cR, 154, .inr (.inr (.inr (.inr (rrf lb)))))), (pr0, .inr (5, [.ref h0, .ref cm])), (cm, .inl (cJ, 4, .inr (.inl (lF cf)))), (h0, .inr (2, [.ref aw, .ref ax, .ref ay, .int (nI L)])), (aw, .inl (cJ, 16, .inr (.inl w))), (ax, .inl (cI, 64, .inl sc)), (ay, .inl (cI, 8, .inl st)), (tu0, .inr (4, [.ref uka, .ref uaa, .ref uba, .ref usa, gu, .int (nI (t_tn T0)), .int (nI (t_kc T0)), .int (nI (t_bc T0)), .int (nI (t_shc T0)), .long (lN (t_kp T0)), .long (lN (t_shp T0)), .long (lN (t_pa T0)), .long (lN (t_pb T0)), .int (t_sht T0)])), (uka, .inl (cJ, 4, .inr (.inl (lF (t_ko T0))))), (uaa, .inl (cJ, 64, .inr (.inl (lF (t_ao T0))))), (uba, .inl (cJ, 64, .inr (.inl (lF (t_bo T0))))), (usa, .inl (cJ, 4, .inr (.inl (lF (t_so T0))))), (g0, .inr (1, [.ref mF, .ref mE, .long (lN G), .long (lN (G ^ (Q - 1) % P))])), (mF, .inr (0, [.long (lN P), .long (lN (P % 2 ^ 31)), .long (lN (P / 2 ^ 31)), .long (lN f1), .long (lN (2 ^ 62 % P)), .long (lN (2 ^ 124 % P)), .int (nI k1)])), (mE, .inr (0, [.long (lN Q), .long (lN (Q % 2 ^ 31)), .long (lN (Q / 2 ^ 31)), .long (lN f2), .long (lN (2 ^ 62 % Q)), .long (lN (2 ^ 124 % Q)), .int (nI k2)]))] ++ (bpool rb lb cJ R Lk)) H1 := hP.kept (fun k9 x9 h9 => hk1 x9.1 ((hP k9 x9 h9).lt) (fun h => h))
    exact vx_out (fun x hx => (htab x hx).elim) hlocks hce hcv hcl (fun t8 ht8 hal => ⟨(), trivial, ⟨(show False from hbx), by rw [ht8]; exact hP9, va_K.moved hal hK, hD⟩, hS.F ht8⟩) (fun z hz => hS.2.2 z hz) (Nat.le_of_ble_eq_true rfl) (Nat.le_of_ble_eq_true rfl)
  obtain rfl : s.heap = H1 := hB.symm.trans ht
  have hw1 := hw
  refine lv_aload_n hx hb d_BB_audit_4 rfl (lv_at hl 0 rfl) ?_
  refine va_get (D := (dC, dI)) (ci := 7) (v := .ref au0) (C := "BallotBoard") (T := F_BB) (N := 6) hx hb hts (fun w9 h9 => List.mem_cons_of_mem _ (i_BB w9 h9)) hown hK hP 0 rfl rfl 3 (by decide) (hts _ (List.mem_cons_of_mem _ gk_159)) (fun _ h9 => h9) rfl d_BB_audit_5 ?_
  refine lv_aload_n hx hb d_BB_audit_8 rfl (lv_at hl 0 rfl) ?_
  refine va_get (D := (dC, dI)) (ci := 7) (v := .ref g0) (C := "BallotBoard") (T := F_BB) (N := 6) hx hb hts (fun w9 h9 => List.mem_cons_of_mem _ (i_BB w9 h9)) hown hK hP 0 rfl rfl 5 (by decide) (hts _ (List.mem_cons_of_mem _ gk_161)) (fun _ h9 => h9) rfl d_BB_audit_9 ?_
  refine lv_aload_n hx hb d_BB_audit_12 rfl (lv_at hl 0 rfl) ?_
  refine va_get (D := (dC, dI)) (ci := 7) (v := .ref t0) (C := "BallotBoard") (T := F_BB) (N := 6) hx hb hts (fun w9 h9 => List.mem_cons_of_mem _ (i_BB w9 h9)) hown hK hP 0 rfl rfl 2 (by decide) (hts _ (List.mem_cons_of_mem _ gk_158)) (fun _ h9 => h9) rfl d_BB_audit_13 ?_
  have hPc := hP.sub (ws' := (tl_ws t0 ka aa ba sa (.ref g0) cJ (t_ko T) (t_ao T) (t_bo T) (t_so T) (t_tn T) (t_kc T) (t_bc T) (t_shc T) (t_kp T) (t_shp T) (t_pa T) (t_pb T) (t_sht T))) [1, 2, 3, 4, 5] rfl
  have hKc := hK.sub (tys' := [(cJ, .long), (cI, .int)]) [0, 1] rfl
  refine va_calli (va_runV (As := []) (rest := [.ref g0, .ref au0]) ⟨hx, hb, hml, hown, hts⟩ (c_Ta_trustees l s.heap dC dI cJ cI t0 ka aa ba sa (.ref g0) (t_ko T) (t_ao T) (t_bo T) (t_so T) (t_tn T) (t_kc T) (t_bc T) (t_shc T) (t_kp T) (t_shp T) (t_pa T) (t_pb T) (t_sht T)  hPc ) (cwV 0 hts (gw_V gk_794 gk_795 gk_796 gk_5 gk_797) rfl rfl rfl (by decide +kernel) ⟨Nat.le_of_ble_eq_true rfl, Nat.le_of_ble_eq_true rfl⟩) ⟨fun a U g mk q => ⟨q.1, q.2.1, va_K.moved (u := U) (U := U.calling g mk a) (Vm.Alike.refl U.vm) q.2.2⟩, va_recv hK hP (ci := 4) (q0 := 1) rfl rfl, fun U hU hW => ⟨rfl, hU, va_K.moved hW.alike hKc⟩⟩ rfl rfl hl.1 rfl (lv_room (Nat.le_of_ble_eq_true rfl)) d_BB_audit_16 ⟨Nat.le_of_ble_eq_true rfl, Nat.le_of_ble_eq_true rfl⟩) hS (fun q _ h => h.elim) (fun q h => h.elim) (fun r16 u9 t9 H1 locs ht hvm hw hB hz1 hk1 hS => ?_)
  obtain rfl : s.heap = H1 := hB.symm.trans ht
  have hw : r16 = nI (t_tn T) := hw
  subst hw
  have hPc := hP.part (cx := (au_ws au0 bd0 pr0 tu0 sd ++ (bd_ws bd0 h0 ro lo n cR (rrf rb) (rrf lb) ++ (pr_ws pr0 h0 cm cJ cf ++ (ha_ws h0 aw ax ay cJ cI w sc st L ++ (tt_ws tu0 uka uaa uba usa gu cJ T0 ++ (gp_ws g0 mF mE P f1 k1 Q f2 k2 G))))))) [6, 7, 8, 9, 10, 11, 12, 13, 14, 15, 16, 17, 18, 19, 20, 21, 22, 23] rfl
  have hDc := hD.part (cx := (au_ws au0 bd0 pr0 tu0 sd ++ (bd_ws bd0 h0 ro lo n cR (rrf rb) (rrf lb) ++ (pr_ws pr0 h0 cm cJ cf ++ (ha_ws h0 aw ax ay cJ cI w sc st L ++ (tt_ws tu0 uka uaa uba usa gu cJ T0 ++ (gp_ws g0 mF mE P f1 k1 Q f2 k2 G))))))) [6, 7, 8, 9, 10, 11, 12, 13, 14, 15, 16, 17, 18, 19, 20, 21, 22, 23] (by decide) rfl
  have hKc := hK.sub (tys' := [(cJ, .long), (cI, .int), (cR, .array .long)]) [0, 1, 2] rfl
  have hFc := va_freeP (cx := (au_ws au0 bd0 pr0 tu0 sd ++ (bd_ws bd0 h0 ro lo n cR (rrf rb) (rrf lb) ++ (pr_ws pr0 h0 cm cJ cf ++ (ha_ws h0 aw ax ay cJ cI w sc st L ++ (tt_ws tu0 uka uaa uba usa gu cJ T0 ++ (gp_ws g0 mF mE P f1 k1 Q f2 k2 G))))))) hD hS hA [6, 7, 8, 9, 10, 11, 12, 13, 14, 15, 16, 17, 18, 19, 20, 21, 22, 23] rfl
  have hZc0 : ha_Z rA sA (va_A ((au_ws au0 bd0 pr0 tu0 sd ++ (bd_ws bd0 h0 ro lo n cR (rrf rb) (rrf lb) ++ (pr_ws pr0 h0 cm cJ cf ++ (ha_ws h0 aw ax ay cJ cI w sc st L ++ (tt_ws tu0 uka uaa uba usa gu cJ T0 ++ (gp_ws g0 mF mE P f1 k1 Q f2 k2 G)))))) ++ (bpool rb lb cJ R Lk)) s.heap.size) s s.heap := (hZha.kept hS.2.1).narrow hFc
  refine va_calli (va_runV (As := [.ref g0, .int (nI (t_tn T))]) (rest := []) ⟨hx, hb, hml, hown, hts⟩ (c_Au_firstWrong l dC dI cJ cI cR s.heap.size au0 sd bd0 h0 ro lo n rb lb pr0 cm cf aw ax ay w sc st L tu0 uka uaa uba usa T0 gu g0 mF mE P f1 k1 Q f2 k2 G rA sA (t_tn T) kd wh R Lk hok hN hwf h0k hkc hsn hsdd) (cwV 2 hts (gw_V gk_798 gk_799 gk_800 gk_6 gk_801) rfl rfl rfl (by decide +kernel) ⟨(Nat.le_of_ble_eq_true rfl), (Nat.le_of_ble_eq_true rfl)⟩) ⟨fun a U g mk q => by obtain ⟨q0, q1, qP, qK, qD, qZ0⟩ := q; exact ⟨q0, q1, qP, va_K.moved (u := U) (U := U.calling g mk a) (Vm.Alike.refl U.vm) qK, qD, ha_Z.moved (u := U) (U := U.calling g mk a) (Vm.Alike.refl U.vm) qZ0⟩, va_recv hK hP (ci := 6) (q0 := 6) rfl rfl, fun U hU hW => ⟨rfl, by rw [hU], by rw [hU]; exact hPc, va_K.moved hW.alike hKc, hDc.weaken (fun _ _ _ _ => trivial), by rw [hU]; exact ha_Z.moved hW.alike hZc0⟩⟩ rfl rfl hl.1 rfl (lv_room (Nat.le_of_ble_eq_true rfl)) d_BB_audit_19 ⟨(Nat.le_of_ble_eq_true rfl), (Nat.le_of_ble_eq_true rfl)⟩) hS (fun q _ h => hFc q h) hFc (fun r_3 u9 t9 H1 locs ht hvm hw hB hz1 hk1 hS => ?_)
  obtain ⟨gTk_2, gck_2, ⟨gwk_2, gsk_2, gtk_2, glk_2⟩, gdk_2⟩ := u9
  have hfw : fwr n (hds P Q G (t_tn T) T0 kd wh R Lk) r_3 ∧ gdk_2 ≤ n ∧ ∀ i, i < gdk_2 → hds P Q G (t_tn T) T0 kd wh R Lk i := hw
  obtain ⟨hP1, hK1, hD1⟩ := hB
  rw [ht] at hP1
  obtain ⟨hP, hD⟩ := va_joinP (X := [(b0, .inr (7, [.ref bd0, .ref pr0, .ref t0, .ref au0, .ref da, .ref g0])), (t0, .inr (4, [.ref ka, .ref aa, .ref ba, .ref sa, .ref g0, .int (nI (t_tn T)), .int (nI (t_kc T)), .int (nI (t_bc T)), .int (nI (t_shc T)), .long (lN (t_kp T)), .long (lN (t_shp T)), .long (lN (t_pa T)), .long (lN (t_pb T)), .int (t_sht T)])), (ka, .inl (cJ, 4, .inr (.inl (lF (t_ko T))))), (aa, .inl (cJ, 64, .inr (.inl (lF (t_ao T))))), (ba, .inl (cJ, 64, .inr (.inl (lF (t_bo T))))), (sa, .inl (cJ, 4, .inr (.inl (lF (t_so T))))), (au0, .inr (6, [.ref bd0, .ref pr0, .ref tu0, .int (nI sd)])), (bd0, .inr (3, [.ref h0, .ref ro, .ref lo, .int (nI n)])), (ro, .inl (cR, 154, .inr (.inr (.inr (.inr (rrf rb)))))), (lo, .inl (cR, 154, .inr (.inr (.inr (.inr (rrf lb)))))), (pr0, .inr (5, [.ref h0, .ref cm])), (cm, .inl (cJ, 4, .inr (.inl (lF cf)))), (h0, .inr (2, [.ref aw, .ref ax, .ref ay, .int (nI L)])), (aw, .inl (cJ, 16, .inr (.inl w))), (ax, .inl (cI, 64, .inl sc)), (ay, .inl (cI, 8, .inl st)), (tu0, .inr (4, [.ref uka, .ref uaa, .ref uba, .ref usa, gu, .int (nI (t_tn T0)), .int (nI (t_kc T0)), .int (nI (t_bc T0)), .int (nI (t_shc T0)), .long (lN (t_kp T0)), .long (lN (t_shp T0)), .long (lN (t_pa T0)), .long (lN (t_pb T0)), .int (t_sht T0)])), (uka, .inl (cJ, 4, .inr (.inl (lF (t_ko T0))))), (uaa, .inl (cJ, 64, .inr (.inl (lF (t_ao T0))))), (uba, .inl (cJ, 64, .inr (.inl (lF (t_bo T0))))), (usa, .inl (cJ, 4, .inr (.inl (lF (t_so T0))))), (g0, .inr (1, [.ref mF, .ref mE, .long (lN G), .long (lN (G ^ (Q - 1) % P))])), (mF, .inr (0, [.long (lN P), .long (lN (P % 2 ^ 31)), .long (lN (P / 2 ^ 31)), .long (lN f1), .long (lN (2 ^ 62 % P)), .long (lN (2 ^ 124 % P)), .int (nI k1)])), (mE, .inr (0, [.long (lN Q), .long (lN (Q % 2 ^ 31)), .long (lN (Q / 2 ^ 31)), .long (lN f2), .long (lN (2 ^ 62 % Q)), .long (lN (2 ^ 124 % Q)), .int (nI k2)]))]) (cx := (au_ws au0 bd0 pr0 tu0 sd ++ (bd_ws bd0 h0 ro lo n cR (rrf rb) (rrf lb) ++ (pr_ws pr0 h0 cm cJ cf ++ (ha_ws h0 aw ax ay cJ cI w sc st L ++ (tt_ws tu0 uka uaa uba usa gu cJ T0 ++ (gp_ws g0 mF mE P f1 k1 Q f2 k2 G))))))) (wr := [(b0, .inr (7, [.ref bd0, .ref pr0, .ref t0, .ref au0, .ref da, .ref g0])), (t0, .inr (4, [.ref ka, .ref aa, .ref ba, .ref sa, .ref g0, .int (nI (t_tn T)), .int (nI (t_kc T)), .int (nI (t_bc T)), .int (nI (t_shc T)), .long (lN (t_kp T)), .long (lN (t_shp T)), .long (lN (t_pa T)), .long (lN (t_pb T)), .int (t_sht T)])), (ka, .inl (cJ, 4, .inr (.inl (lF (t_ko T))))), (aa, .inl (cJ, 64, .inr (.inl (lF (t_ao T))))), (ba, .inl (cJ, 64, .inr (.inl (lF (t_bo T))))), (sa, .inl (cJ, 4, .inr (.inl (lF (t_so T)))))]) (rx := [(au0, .inr (6, [.ref bd0, .ref pr0, .ref tu0, .int (nI gdk_2)])), (bd0, .inr (3, [.ref h0, .ref ro, .ref lo, .int (nI n)])), (ro, .inl (cR, 154, .inr (.inr (.inr (.inr (rrf rb)))))), (lo, .inl (cR, 154, .inr (.inr (.inr (.inr (rrf lb)))))), (pr0, .inr (5, [.ref h0, .ref cm])), (cm, .inl (cJ, 4, .inr (.inl (lF gck_2)))), (h0, .inr (2, [.ref aw, .ref ax, .ref ay, .int (nI glk_2)])), (aw, .inl (cJ, 16, .inr (.inl gwk_2))), (ax, .inl (cI, 64, .inl gsk_2)), (ay, .inl (cI, 8, .inl gtk_2)), (tu0, .inr (4, [.ref uka, .ref uaa, .ref uba, .ref usa, .ref g0, .int (nI (t_tn gTk_2)), .int (nI (t_kc gTk_2)), .int (nI (t_bc gTk_2)), .int (nI (t_shc gTk_2)), .long (lN (t_kp gTk_2)), .long (lN (t_shp gTk_2)), .long (lN (t_pa gTk_2)), .long (lN (t_pb gTk_2)), .int (t_sht gTk_2)])), (uka, .inl (cJ, 4, .inr (.inl (lF (t_ko gTk_2))))), (uaa, .inl (cJ, 64, .inr (.inl (lF (t_ao gTk_2))))), (uba, .inl (cJ, 64, .inr (.inl (lF (t_bo gTk_2))))), (usa, .inl (cJ, 4, .inr (.inl (lF (t_so gTk_2))))), (g0, .inr (1, [.ref mF, .ref mE, .long (lN G), .long (lN (G ^ (Q - 1) % P))])), (mF, .inr (0, [.long (lN P), .long (lN (P % 2 ^ 31)), .long (lN (P / 2 ^ 31)), .long (lN f1), .long (lN (2 ^ 62 % P)), .long (lN (2 ^ 124 % P)), .int (nI k1)])), (mE, .inr (0, [.long (lN Q), .long (lN (Q % 2 ^ 31)), .long (lN (Q / 2 ^ 31)), .long (lN f2), .long (lN (2 ^ 62 % Q)), .long (lN (2 ^ 124 % Q)), .int (nI k2)]))]) (pl := (bpool rb lb cJ R Lk)) (pl1 := (bpool rb lb cJ R Lk)) hP hD [6, 7, 8, 9, 10, 11, 12, 13, 14, 15, 16, 17, 18, 19, 20, 21, 22, 23] [0, 1, 2, 3, 4, 5] rfl rfl (by decide) (by decide) hk1 hFc hP1 hD1
  have hP := hP.part (cx := [(b0, .inr (7, [.ref bd0, .ref pr0, .ref t0, .ref au0, .ref da, .ref g0])), (t0, .inr (4, [.ref ka, .ref aa, .ref ba, .ref sa, .ref g0, .int (nI (t_tn T)), .int (nI (t_kc T)), .int (nI (t_bc T)), .int (nI (t_shc T)), .long (lN (t_kp T)), .long (lN (t_shp T)), .long (lN (t_pa T)), .long (lN (t_pb T)), .int (t_sht T)])), (ka, .inl (cJ, 4, .inr (.inl (lF (t_ko T))))), (aa, .inl (cJ, 64, .inr (.inl (lF (t_ao T))))), (ba, .inl (cJ, 64, .inr (.inl (lF (t_bo T))))), (sa, .inl (cJ, 4, .inr (.inl (lF (t_so T))))), (au0, .inr (6, [.ref bd0, .ref pr0, .ref tu0, .int (nI gdk_2)])), (bd0, .inr (3, [.ref h0, .ref ro, .ref lo, .int (nI n)])), (ro, .inl (cR, 154, .inr (.inr (.inr (.inr (rrf rb)))))), (lo, .inl (cR, 154, .inr (.inr (.inr (.inr (rrf lb)))))), (pr0, .inr (5, [.ref h0, .ref cm])), (cm, .inl (cJ, 4, .inr (.inl (lF gck_2)))), (h0, .inr (2, [.ref aw, .ref ax, .ref ay, .int (nI glk_2)])), (aw, .inl (cJ, 16, .inr (.inl gwk_2))), (ax, .inl (cI, 64, .inl gsk_2)), (ay, .inl (cI, 8, .inl gtk_2)), (tu0, .inr (4, [.ref uka, .ref uaa, .ref uba, .ref usa, .ref g0, .int (nI (t_tn gTk_2)), .int (nI (t_kc gTk_2)), .int (nI (t_bc gTk_2)), .int (nI (t_shc gTk_2)), .long (lN (t_kp gTk_2)), .long (lN (t_shp gTk_2)), .long (lN (t_pa gTk_2)), .long (lN (t_pb gTk_2)), .int (t_sht gTk_2)])), (uka, .inl (cJ, 4, .inr (.inl (lF (t_ko gTk_2))))), (uaa, .inl (cJ, 64, .inr (.inl (lF (t_ao gTk_2))))), (uba, .inl (cJ, 64, .inr (.inl (lF (t_bo gTk_2))))), (usa, .inl (cJ, 4, .inr (.inl (lF (t_so gTk_2))))), (g0, .inr (1, [.ref mF, .ref mE, .long (lN G), .long (lN (G ^ (Q - 1) % P))])), (mF, .inr (0, [.long (lN P), .long (lN (P % 2 ^ 31)), .long (lN (P / 2 ^ 31)), .long (lN f1), .long (lN (2 ^ 62 % P)), .long (lN (2 ^ 124 % P)), .int (nI k1)])), (mE, .inr (0, [.long (lN Q), .long (lN (Q % 2 ^ 31)), .long (lN (Q / 2 ^ 31)), .long (lN f2), .long (lN (2 ^ 62 % Q)), .long (lN (2 ^ 124 % Q)), .int (nI k2)]))]) [0, 1, 2, 3, 4, 5, 6, 7, 8, 9, 10, 11, 12, 13, 14, 15, 16, 17, 18, 19, 20, 21, 22, 23] rfl
  have hD := hD.part (cx := [(b0, .inr (7, [.ref bd0, .ref pr0, .ref t0, .ref au0, .ref da, .ref g0])), (t0, .inr (4, [.ref ka, .ref aa, .ref ba, .ref sa, .ref g0, .int (nI (t_tn T)), .int (nI (t_kc T)), .int (nI (t_bc T)), .int (nI (t_shc T)), .long (lN (t_kp T)), .long (lN (t_shp T)), .long (lN (t_pa T)), .long (lN (t_pb T)), .int (t_sht T)])), (ka, .inl (cJ, 4, .inr (.inl (lF (t_ko T))))), (aa, .inl (cJ, 64, .inr (.inl (lF (t_ao T))))), (ba, .inl (cJ, 64, .inr (.inl (lF (t_bo T))))), (sa, .inl (cJ, 4, .inr (.inl (lF (t_so T))))), (au0, .inr (6, [.ref bd0, .ref pr0, .ref tu0, .int (nI gdk_2)])), (bd0, .inr (3, [.ref h0, .ref ro, .ref lo, .int (nI n)])), (ro, .inl (cR, 154, .inr (.inr (.inr (.inr (rrf rb)))))), (lo, .inl (cR, 154, .inr (.inr (.inr (.inr (rrf lb)))))), (pr0, .inr (5, [.ref h0, .ref cm])), (cm, .inl (cJ, 4, .inr (.inl (lF gck_2)))), (h0, .inr (2, [.ref aw, .ref ax, .ref ay, .int (nI glk_2)])), (aw, .inl (cJ, 16, .inr (.inl gwk_2))), (ax, .inl (cI, 64, .inl gsk_2)), (ay, .inl (cI, 8, .inl gtk_2)), (tu0, .inr (4, [.ref uka, .ref uaa, .ref uba, .ref usa, .ref g0, .int (nI (t_tn gTk_2)), .int (nI (t_kc gTk_2)), .int (nI (t_bc gTk_2)), .int (nI (t_shc gTk_2)), .long (lN (t_kp gTk_2)), .long (lN (t_shp gTk_2)), .long (lN (t_pa gTk_2)), .long (lN (t_pb gTk_2)), .int (t_sht gTk_2)])), (uka, .inl (cJ, 4, .inr (.inl (lF (t_ko gTk_2))))), (uaa, .inl (cJ, 64, .inr (.inl (lF (t_ao gTk_2))))), (uba, .inl (cJ, 64, .inr (.inl (lF (t_bo gTk_2))))), (usa, .inl (cJ, 4, .inr (.inl (lF (t_so gTk_2))))), (g0, .inr (1, [.ref mF, .ref mE, .long (lN G), .long (lN (G ^ (Q - 1) % P))])), (mF, .inr (0, [.long (lN P), .long (lN (P % 2 ^ 31)), .long (lN (P / 2 ^ 31)), .long (lN f1), .long (lN (2 ^ 62 % P)), .long (lN (2 ^ 124 % P)), .int (nI k1)])), (mE, .inr (0, [.long (lN Q), .long (lN (Q % 2 ^ 31)), .long (lN (Q / 2 ^ 31)), .long (lN f2), .long (lN (2 ^ 62 % Q)), .long (lN (2 ^ 124 % Q)), .int (nI k2)]))]) [0, 1, 2, 3, 4, 5, 6, 7, 8, 9, 10, 11, 12, 13, 14, 15, 16, 17, 18, 19, 20, 21, 22, 23] (by decide) rfl
  generalize H1 = H at hP hS ⊢
  skip
  refine W.widen (k := 1) (n := 6) (by decide) (by decide) ?_
  refine vx_ret ?_
  exact W.iret (v := r_3) hx hb hr (fun t ht9 hW => ⟨⟨_, (gTk_2, gck_2, (gwk_2, gsk_2, gtk_2, glk_2), gdk_2), rfl, hfw, by rw [ht9]; exact hP, va_K.moved hW.alike hK, hD⟩, hS.F ht9⟩) hS.2.2 d_BB_audit_22
abbrev b_BB_count : ByteArray := prog_1_method_15_code
abbrev y_BB_count : MethodName := ⟨"BallotBoard", "count", "(I)J"⟩
abbrev w_BB_count : List Cond := .code y_BB_count b_BB_count 2 (some .long) :: gw
theorem d_BB_count_0 : decode b_BB_count 0 = .ok (.iload_n 1, 1) := by decide +kernel
theorem d_BB_count_1 : decode b_BB_count 1 = .ok (.tableswitch 192 0 10 #[59, 78, 97, 116, 124, 132, 140, 149, 158, 167, 176], 59) := by decide +kernel
theorem d_BB_count_60 : decode b_BB_count 60 = .ok (.aload_n 0, 1) := by decide +kernel
theorem d_BB_count_61 : decode b_BB_count 61 = .ok (.getfield 48, 3) := by decide +kernel
theorem d_BB_count_64 : decode b_BB_count 64 = .ok (.ifnonnull 7, 3) := by decide +kernel
theorem d_BB_count_67 : decode b_BB_count 67 = .ok (.lconst 0, 1) := by decide +kernel
theorem d_BB_count_68 : decode b_BB_count 68 = .ok (.goto 10, 3) := by decide +kernel
theorem d_BB_count_71 : decode b_BB_count 71 = .ok (.aload_n 0, 1) := by decide +kernel
theorem d_BB_count_72 : decode b_BB_count 72 = .ok (.getfield 48, 3) := by decide +kernel
theorem d_BB_count_75 : decode b_BB_count 75 = .ok (.invokevirtual 177, 3) := by decide +kernel
theorem d_BB_count_78 : decode b_BB_count 78 = .ok (.lreturn, 1) := by decide +kernel
theorem d_BB_count_79 : decode b_BB_count 79 = .ok (.aload_n 0, 1) := by decide +kernel
theorem d_BB_count_80 : decode b_BB_count 80 = .ok (.getfield 48, 3) := by decide +kernel
theorem d_BB_count_83 : decode b_BB_count 83 = .ok (.ifnonnull 7, 3) := by decide +kernel
theorem d_BB_count_86 : decode b_BB_count 86 = .ok (.lconst 0, 1) := by decide +kernel
theorem d_BB_count_87 : decode b_BB_count 87 = .ok (.goto 10, 3) := by decide +kernel
theorem d_BB_count_90 : decode b_BB_count 90 = .ok (.aload_n 0, 1) := by decide +kernel
theorem d_BB_count_91 : decode b_BB_count 91 = .ok (.getfield 48, 3) := by decide +kernel
theorem d_BB_count_94 : decode b_BB_count 94 = .ok (.invokevirtual 78, 3) := by decide +kernel
theorem d_BB_count_97 : decode b_BB_count 97 = .ok (.lreturn, 1) := by decide +kernel
theorem d_BB_count_98 : decode b_BB_count 98 = .ok (.aload_n 0, 1) := by decide +kernel
theorem d_BB_count_99 : decode b_BB_count 99 = .ok (.getfield 48, 3) := by decide +kernel
theorem d_BB_count_102 : decode b_BB_count 102 = .ok (.ifnonnull 7, 3) := by decide +kernel
theorem d_BB_count_105 : decode b_BB_count 105 = .ok (.lconst 0, 1) := by decide +kernel
theorem d_BB_count_106 : decode b_BB_count 106 = .ok (.goto 10, 3) := by decide +kernel
theorem d_BB_count_109 : decode b_BB_count 109 = .ok (.aload_n 0, 1) := by decide +kernel
theorem d_BB_count_110 : decode b_BB_count 110 = .ok (.getfield 48, 3) := by decide +kernel
theorem d_BB_count_113 : decode b_BB_count 113 = .ok (.invokevirtual 180, 3) := by decide +kernel
theorem d_BB_count_116 : decode b_BB_count 116 = .ok (.lreturn, 1) := by decide +kernel
theorem d_BB_count_117 : decode b_BB_count 117 = .ok (.aload_n 0, 1) := by decide +kernel
theorem d_BB_count_118 : decode b_BB_count 118 = .ok (.getfield 31, 3) := by decide +kernel
theorem d_BB_count_121 : decode b_BB_count 121 = .ok (.invokevirtual 183, 3) := by decide +kernel
theorem d_BB_count_124 : decode b_BB_count 124 = .ok (.lreturn, 1) := by decide +kernel
theorem d_BB_count_125 : decode b_BB_count 125 = .ok (.aload_n 0, 1) := by decide +kernel
theorem d_BB_count_126 : decode b_BB_count 126 = .ok (.getfield 31, 3) := by decide +kernel
theorem d_BB_count_129 : decode b_BB_count 129 = .ok (.invokevirtual 186, 3) := by decide +kernel
theorem d_BB_count_132 : decode b_BB_count 132 = .ok (.lreturn, 1) := by decide +kernel
theorem d_BB_count_133 : decode b_BB_count 133 = .ok (.aload_n 0, 1) := by decide +kernel
theorem d_BB_count_134 : decode b_BB_count 134 = .ok (.getfield 31, 3) := by decide +kernel
theorem d_BB_count_137 : decode b_BB_count 137 = .ok (.invokevirtual 189, 3) := by decide +kernel
theorem d_BB_count_140 : decode b_BB_count 140 = .ok (.lreturn, 1) := by decide +kernel
theorem d_BB_count_141 : decode b_BB_count 141 = .ok (.aload_n 0, 1) := by decide +kernel
theorem d_BB_count_142 : decode b_BB_count 142 = .ok (.getfield 17, 3) := by decide +kernel
theorem d_BB_count_145 : decode b_BB_count 145 = .ok (.invokevirtual 192, 3) := by decide +kernel
theorem d_BB_count_148 : decode b_BB_count 148 = .ok (.i2l, 1) := by decide +kernel
theorem d_BB_count_149 : decode b_BB_count 149 = .ok (.lreturn, 1) := by decide +kernel
theorem d_BB_count_150 : decode b_BB_count 150 = .ok (.aload_n 0, 1) := by decide +kernel
theorem d_BB_count_151 : decode b_BB_count 151 = .ok (.getfield 31, 3) := by decide +kernel
theorem d_BB_count_154 : decode b_BB_count 154 = .ok (.invokevirtual 123, 3) := by decide +kernel
theorem d_BB_count_157 : decode b_BB_count 157 = .ok (.i2l, 1) := by decide +kernel
theorem d_BB_count_158 : decode b_BB_count 158 = .ok (.lreturn, 1) := by decide +kernel
theorem d_BB_count_159 : decode b_BB_count 159 = .ok (.aload_n 0, 1) := by decide +kernel
theorem d_BB_count_160 : decode b_BB_count 160 = .ok (.getfield 31, 3) := by decide +kernel
theorem d_BB_count_163 : decode b_BB_count 163 = .ok (.invokevirtual 195, 3) := by decide +kernel
theorem d_BB_count_166 : decode b_BB_count 166 = .ok (.i2l, 1) := by decide +kernel
theorem d_BB_count_167 : decode b_BB_count 167 = .ok (.lreturn, 1) := by decide +kernel
theorem d_BB_count_168 : decode b_BB_count 168 = .ok (.aload_n 0, 1) := by decide +kernel
theorem d_BB_count_169 : decode b_BB_count 169 = .ok (.getfield 31, 3) := by decide +kernel
theorem d_BB_count_172 : decode b_BB_count 172 = .ok (.invokevirtual 198, 3) := by decide +kernel
theorem d_BB_count_175 : decode b_BB_count 175 = .ok (.i2l, 1) := by decide +kernel
theorem d_BB_count_176 : decode b_BB_count 176 = .ok (.lreturn, 1) := by decide +kernel
theorem d_BB_count_177 : decode b_BB_count 177 = .ok (.aload_n 0, 1) := by decide +kernel
theorem d_BB_count_178 : decode b_BB_count 178 = .ok (.getfield 31, 3) := by decide +kernel
theorem d_BB_count_181 : decode b_BB_count 181 = .ok (.invokevirtual 201, 3) := by decide +kernel
theorem d_BB_count_184 : decode b_BB_count 184 = .ok (.ifCond .eq 7, 3) := by decide +kernel
theorem d_BB_count_187 : decode b_BB_count 187 = .ok (.lconst 1, 1) := by decide +kernel
theorem d_BB_count_188 : decode b_BB_count 188 = .ok (.goto 4, 3) := by decide +kernel
theorem d_BB_count_191 : decode b_BB_count 191 = .ok (.lconst 0, 1) := by decide +kernel
theorem d_BB_count_192 : decode b_BB_count 192 = .ok (.lreturn, 1) := by decide +kernel
theorem d_BB_count_193 : decode b_BB_count 193 = .ok (.new 58, 3) := by decide +kernel
theorem d_BB_count_196 : decode b_BB_count 196 = .ok (.dup, 1) := by decide +kernel
theorem d_BB_count_197 : decode b_BB_count 197 = .ok (.ldc 204, 2) := by decide +kernel
theorem d_BB_count_199 : decode b_BB_count 199 = .ok (.invokespecial 62, 3) := by decide +kernel
theorem d_BB_count_202 : decode b_BB_count 202 = .ok (.athrow, 1) := by decide +kernel
set_option maxHeartbeats 8000000 in
set_option maxRecDepth 100000 in
theorem c_BB_count_g (l : Launch) (hnt : l.stackTraces = false) (H0 : Heap) (dC : Nat → ClassId) (dI : Nat → Nat → Nat) (cJ cI cR : ClassId) (b0 bd0 pr0 t0 au0 da : Nat) (ka aa ba sa : Nat) (T : TS) (h0 ro lo n : Nat) (g0 mF mE P f1 k1 Q f2 k2 G : Nat) (x1 : Int32) (hP : va_P (dC, dI) classes (bb_ws b0 bd0 pr0 t0 au0 da (.ref g0) ++ (tt_ws t0 ka aa ba sa (.ref g0) cJ T ++ (bo_ws bd0 h0 ro lo n ++ (gp_ws g0 mF mE P f1 k1 Q f2 k2 G)))) H0) (hok : gp_ok P f1 k1 Q f2 k2 G) (hsh0 : t_sht T = 0 ∨ t_sht T = 1) (htn : t_tn T ≤ 4) (hkc : t_kc T ≤ 4) (hn : n ≤ 154) (hbc : t_bc T ≤ 64) (hsc : t_shc T ≤ 4) : vx_Met l y_BB_count w_BB_count ({ frames := 6, cells := 1, slots := 6, locals := 82 }) (va_Pc [.ref b0, .int x1] (fun U => U.heap = H0 ∧ va_K (dC, dI) classes [(cJ, .long), (cI, .int), (cR, .array .long)] U ∧ xz (fun _ => False) U U.heap)) (va_Ql (fun (r : Int64) (_ : Unit) => ∃ i, i < 11 ∧ x1 = nI i ∧ r = cntC T P Q G n i) (fun _ t => t.heap = H0) (fun _ => False)) (vx_X (fun _ : Unit => True) (fun E _ _ => E = eA ∧ ¬ inN x1 11) (fun _ => False)) 1 6 (fun _ => False) := by
  refine vx_ofW (cc := b_BB_count) (maxL := 2) (ret := (some .long)) (by decide) rfl ?_
  intro p e s m args below meth c s₁ Bd hml htab hv
  obtain ⟨rfl, hH, hK, hZx⟩ := hv
  have hx := Bd.exec
  have hb := Bd.bytes
  have hr := Bd.returns
  have hts := atoms_spec (ws := w_BB_count) Bd.pre
  have hown : s.vm.findClass "BallotBoard" = some m.cls := findClass_of_methodNamed Bd.named
  have hlocks := Bd.notSynchronized
  subst hH
  have hS : va_S (fun _ => False) s.heap s.heap [] := va_S.rf
  have hl := lv_entry ([.ref b0, .int x1]) (n := 2) (Nat.le_of_ble_eq_true rfl)
  rw [lg_entry_eq]
  generalize (lg_sl ([.ref b0, .int x1]) ++ List.replicate (2 - (lg_sl ([.ref b0, .int x1])).length) Slot.unset).toArray = ls at hl ⊢
  have hl : lv_has ls 2 [(0, .ref b0), (1, .int x1)] := hl
  have hst : t_sht T = 0 ∨ t_sht T = 1 := hsh0
  refine lv_iload_n hx hb d_BB_count_0 rfl (lv_at hl 1 rfl) ?_
  rcases Classical.em (inN x1 11) with hin | hno
  · obtain ⟨i, rfl, hi⟩ := hin
    match i, hi with
    | 0, _ =>
      refine lv_tableIn (off := 59) (tgt := 60) hx hb d_BB_count_1 (by decide) (by decide) rfl (by decide) ?_
      refine lv_aload_n hx hb d_BB_count_60 rfl (lv_at hl 0 rfl) ?_
      refine va_get (D := (dC, dI)) (ci := 7) (v := .ref g0) (C := "BallotBoard") (T := F_BB) (N := 6) hx hb hts (fun w9 h9 => List.mem_cons_of_mem _ (i_BB w9 h9)) hown hK hP 0 rfl rfl 5 (by decide) (hts _ (List.mem_cons_of_mem _ gk_161)) (fun _ h9 => h9) rfl d_BB_count_61 ?_
      refine lv_ifnonnull (tgt := 71) hx hb d_BB_count_64 (by decide) ?_
      refine lv_aload_n hx hb d_BB_count_71 rfl (lv_at hl 0 rfl) ?_
      refine va_get (D := (dC, dI)) (ci := 7) (v := .ref g0) (C := "BallotBoard") (T := F_BB) (N := 6) hx hb hts (fun w9 h9 => List.mem_cons_of_mem _ (i_BB w9 h9)) hown hK hP 0 rfl rfl 5 (by decide) (hts _ (List.mem_cons_of_mem _ gk_161)) (fun _ h9 => h9) rfl d_BB_count_72 ?_
      have hPc := hP.sub (ws' := (gp_ws g0 mF mE P f1 k1 Q f2 k2 G)) [7, 8, 9] rfl
      have hKc := hK.sub (tys' := []) [] rfl
      refine va_calll (va_runV (As := []) (rest := []) ⟨hx, hb, hml, hown, hts⟩ (c_Gr_p l s.heap dC dI g0 mF mE P f1 k1 Q f2 k2 G  hPc hok ) (cwV 0 hts (gw_V gk_824 gk_503 gk_504 gk_8 gk_505) rfl rfl rfl (by decide +kernel) ⟨Nat.le_of_ble_eq_true rfl, Nat.le_of_ble_eq_true rfl⟩) ⟨fun a U g mk q => ⟨q.1, q.2.1, va_K.moved (u := U) (U := U.calling g mk a) (Vm.Alike.refl U.vm) q.2.2⟩, va_recv hK hP (ci := 1) (q0 := 7) rfl rfl, fun U hU hW => ⟨rfl, hU, va_K.moved hW.alike hKc⟩⟩ rfl rfl hl.1 rfl (lv_room (Nat.le_of_ble_eq_true rfl)) d_BB_count_75 ⟨Nat.le_of_ble_eq_true rfl, Nat.le_of_ble_eq_true rfl⟩) hS (fun q _ h => h.elim) (fun q h => h.elim) (fun r75 u9 t9 H1 locs ht hvm hw hB hz1 hk1 hS => ?_)
      obtain rfl : s.heap = H1 := hB.symm.trans ht
      have hw : r75 = lN P := hw
      subst hw
      refine vx_ret ?_
      refine W.widen (k := 1) (n := 6) (by decide) (by decide) ?_
      exact W.lret (v := (lN P)) hx hb hr (fun t ht hW => ⟨⟨_, (), rfl, ⟨0, by omega, rfl, rfl⟩, ht⟩, hS.F ht⟩) hS.2.2 d_BB_count_78
    | 1, _ =>
      refine lv_tableIn (off := 78) (tgt := 79) hx hb d_BB_count_1 (by decide) (by decide) rfl (by decide) ?_
      refine lv_aload_n hx hb d_BB_count_79 rfl (lv_at hl 0 rfl) ?_
      refine va_get (D := (dC, dI)) (ci := 7) (v := .ref g0) (C := "BallotBoard") (T := F_BB) (N := 6) hx hb hts (fun w9 h9 => List.mem_cons_of_mem _ (i_BB w9 h9)) hown hK hP 0 rfl rfl 5 (by decide) (hts _ (List.mem_cons_of_mem _ gk_161)) (fun _ h9 => h9) rfl d_BB_count_80 ?_
      refine lv_ifnonnull (tgt := 90) hx hb d_BB_count_83 (by decide) ?_
      refine lv_aload_n hx hb d_BB_count_90 rfl (lv_at hl 0 rfl) ?_
      refine va_get (D := (dC, dI)) (ci := 7) (v := .ref g0) (C := "BallotBoard") (T := F_BB) (N := 6) hx hb hts (fun w9 h9 => List.mem_cons_of_mem _ (i_BB w9 h9)) hown hK hP 0 rfl rfl 5 (by decide) (hts _ (List.mem_cons_of_mem _ gk_161)) (fun _ h9 => h9) rfl d_BB_count_91 ?_
      have hPc := hP.sub (ws' := (gp_ws g0 mF mE P f1 k1 Q f2 k2 G)) [7, 8, 9] rfl
      have hKc := hK.sub (tys' := []) [] rfl
      refine va_calll (va_runV (As := []) (rest := []) ⟨hx, hb, hml, hown, hts⟩ (c_Gr_q l s.heap dC dI g0 mF mE P f1 k1 Q f2 k2 G  hPc hok ) (cwV 0 hts (gw_V gk_363 gk_364 gk_365 gk_8 gk_366) rfl rfl rfl (by decide +kernel) ⟨Nat.le_of_ble_eq_true rfl, Nat.le_of_ble_eq_true rfl⟩) ⟨fun a U g mk q => ⟨q.1, q.2.1, va_K.moved (u := U) (U := U.calling g mk a) (Vm.Alike.refl U.vm) q.2.2⟩, va_recv hK hP (ci := 1) (q0 := 7) rfl rfl, fun U hU hW => ⟨rfl, hU, va_K.moved hW.alike hKc⟩⟩ rfl rfl hl.1 rfl (lv_room (Nat.le_of_ble_eq_true rfl)) d_BB_count_94 ⟨Nat.le_of_ble_eq_true rfl, Nat.le_of_ble_eq_true rfl⟩) hS (fun q _ h => h.elim) (fun q h => h.elim) (fun r94 u9 t9 H1 locs ht hvm hw hB hz1 hk1 hS => ?_)
      obtain rfl : s.heap = H1 := hB.symm.trans ht
      have hw : r94 = lN Q := hw
      subst hw
      refine vx_ret ?_
      refine W.widen (k := 1) (n := 6) (by decide) (by decide) ?_
      exact W.lret (v := (lN Q)) hx hb hr (fun t ht hW => ⟨⟨_, (), rfl, ⟨1, by omega, rfl, rfl⟩, ht⟩, hS.F ht⟩) hS.2.2 d_BB_count_97
    | 2, _ =>
      refine lv_tableIn (off := 97) (tgt := 98) hx hb d_BB_count_1 (by decide) (by decide) rfl (by decide) ?_
      refine lv_aload_n hx hb d_BB_count_98 rfl (lv_at hl 0 rfl) ?_
      refine va_get (D := (dC, dI)) (ci := 7) (v := .ref g0) (C := "BallotBoard") (T := F_BB) (N := 6) hx hb hts (fun w9 h9 => List.mem_cons_of_mem _ (i_BB w9 h9)) hown hK hP 0 rfl rfl 5 (by decide) (hts _ (List.mem_cons_of_mem _ gk_161)) (fun _ h9 => h9) rfl d_BB_count_99 ?_
      refine lv_ifnonnull (tgt := 109) hx hb d_BB_count_102 (by decide) ?_
      refine lv_aload_n hx hb d_BB_count_109 rfl (lv_at hl 0 rfl) ?_
      refine va_get (D := (dC, dI)) (ci := 7) (v := .ref g0) (C := "BallotBoard") (T := F_BB) (N := 6) hx hb hts (fun w9 h9 => List.mem_cons_of_mem _ (i_BB w9 h9)) hown hK hP 0 rfl rfl 5 (by decide) (hts _ (List.mem_cons_of_mem _ gk_161)) (fun _ h9 => h9) rfl d_BB_count_110 ?_
      have hPc := hP.sub (ws' := (gp_ws g0 mF mE P f1 k1 Q f2 k2 G)) [7, 8, 9] rfl
      have hKc := hK.sub (tys' := []) [] rfl
      refine va_calll (va_runV (As := []) (rest := []) ⟨hx, hb, hml, hown, hts⟩ (c_Gr_g l s.heap dC dI g0 mF mE P f1 k1 Q f2 k2 G  hPc hok ) (cwV 0 hts (gw_V gk_825 gk_454 gk_455 gk_8 gk_456) rfl rfl rfl (by decide +kernel) ⟨Nat.le_of_ble_eq_true rfl, Nat.le_of_ble_eq_true rfl⟩) ⟨fun a U g mk q => ⟨q.1, q.2.1, va_K.moved (u := U) (U := U.calling g mk a) (Vm.Alike.refl U.vm) q.2.2⟩, va_recv hK hP (ci := 1) (q0 := 7) rfl rfl, fun U hU hW => ⟨rfl, hU, va_K.moved hW.alike hKc⟩⟩ rfl rfl hl.1 rfl (lv_room (Nat.le_of_ble_eq_true rfl)) d_BB_count_113 ⟨Nat.le_of_ble_eq_true rfl, Nat.le_of_ble_eq_true rfl⟩) hS (fun q _ h => h.elim) (fun q h => h.elim) (fun r113 u9 t9 H1 locs ht hvm hw hB hz1 hk1 hS => ?_)
      obtain rfl : s.heap = H1 := hB.symm.trans ht
      have hw : r113 = lN G := hw
      subst hw
      refine vx_ret ?_
      refine W.widen (k := 1) (n := 6) (by decide) (by decide) ?_
      exact W.lret (v := (lN G)) hx hb hr (fun t ht hW => ⟨⟨_, (), rfl, ⟨2, by omega, rfl, rfl⟩, ht⟩, hS.F ht⟩) hS.2.2 d_BB_count_116
    | 3, _ =>
      refine lv_tableIn (off := 116) (tgt := 117) hx hb d_BB_count_1 (by decide) (by decide) rfl (by decide) ?_
      refine lv_aload_n hx hb d_BB_count_117 rfl (lv_at hl 0 rfl) ?_
      refine va_get (D := (dC, dI)) (ci := 7) (v := .ref t0) (C := "BallotBoard") (T := F_BB) (N := 6) hx hb hts (fun w9 h9 => List.mem_cons_of_mem _ (i_BB w9 h9)) hown hK hP 0 rfl rfl 2 (by decide) (hts _ (List.mem_cons_of_mem _ gk_158)) (fun _ h9 => h9) rfl d_BB_count_118 ?_
      have hPc := hP.sub (ws' := (tl_ws t0 ka aa ba sa (.ref g0) cJ (t_ko T) (t_ao T) (t_bo T) (t_so T) (t_tn T) (t_kc T) (t_bc T) (t_shc T) (t_kp T) (t_shp T) (t_pa T) (t_pb T) (t_sht T))) [1, 2, 3, 4, 5] rfl
      have hKc := hK.sub (tys' := [(cJ, .long), (cI, .int)]) [0, 1] rfl
      refine va_calll (va_runV (As := []) (rest := []) ⟨hx, hb, hml, hown, hts⟩ (c_Ta_commonKey l s.heap dC dI cJ cI t0 ka aa ba sa (.ref g0) (t_ko T) (t_ao T) (t_bo T) (t_so T) (t_tn T) (t_kc T) (t_bc T) (t_shc T) (t_kp T) (t_shp T) (t_pa T) (t_pb T) (t_sht T)  hPc (by omega) (by omega)) (cwV 0 hts (gw_V gk_826 gk_470 gk_471 gk_5 gk_472) rfl rfl rfl (by decide +kernel) ⟨Nat.le_of_ble_eq_true rfl, Nat.le_of_ble_eq_true rfl⟩) ⟨fun a U g mk q => ⟨q.1, q.2.1, va_K.moved (u := U) (U := U.calling g mk a) (Vm.Alike.refl U.vm) q.2.2⟩, va_recv hK hP (ci := 4) (q0 := 1) rfl rfl, fun U hU hW => ⟨rfl, hU, va_K.moved hW.alike hKc⟩⟩ rfl rfl hl.1 rfl (lv_room (Nat.le_of_ble_eq_true rfl)) d_BB_count_121 ⟨Nat.le_of_ble_eq_true rfl, Nat.le_of_ble_eq_true rfl⟩) hS (fun q _ h => h.elim) (fun q h => h.elim) (fun r121 u9 t9 H1 locs ht hvm hw hB hz1 hk1 hS => ?_)
      obtain rfl : s.heap = H1 := hB.symm.trans ht
      have hw : r121 = lN (ckey (t_tn T) (t_kc T) (t_kp T)) := hw
      subst hw
      refine vx_ret ?_
      refine W.widen (k := 1) (n := 6) (by decide) (by decide) ?_
      exact W.lret (v := (lN (ckey (t_tn T) (t_kc T) (t_kp T)))) hx hb hr (fun t ht hW => ⟨⟨_, (), rfl, ⟨3, by omega, rfl, rfl⟩, ht⟩, hS.F ht⟩) hS.2.2 d_BB_count_124
    | 4, _ =>
      refine lv_tableIn (off := 124) (tgt := 125) hx hb d_BB_count_1 (by decide) (by decide) rfl (by decide) ?_
      refine lv_aload_n hx hb d_BB_count_125 rfl (lv_at hl 0 rfl) ?_
      refine va_get (D := (dC, dI)) (ci := 7) (v := .ref t0) (C := "BallotBoard") (T := F_BB) (N := 6) hx hb hts (fun w9 h9 => List.mem_cons_of_mem _ (i_BB w9 h9)) hown hK hP 0 rfl rfl 2 (by decide) (hts _ (List.mem_cons_of_mem _ gk_158)) (fun _ h9 => h9) rfl d_BB_count_126 ?_
      have hPc := hP.sub (ws' := (tl_ws t0 ka aa ba sa (.ref g0) cJ (t_ko T) (t_ao T) (t_bo T) (t_so T) (t_tn T) (t_kc T) (t_bc T) (t_shc T) (t_kp T) (t_shp T) (t_pa T) (t_pb T) (t_sht T))) [1, 2, 3, 4, 5] rfl
      have hKc := hK.sub (tys' := [(cJ, .long), (cI, .int)]) [0, 1] rfl
      refine va_calll (va_runV (As := []) (rest := []) ⟨hx, hb, hml, hown, hts⟩ (c_Ta_productA l s.heap dC dI cJ cI t0 ka aa ba sa (.ref g0) (t_ko T) (t_ao T) (t_bo T) (t_so T) (t_tn T) (t_kc T) (t_bc T) (t_shc T) (t_kp T) (t_shp T) (t_pa T) (t_pb T) (t_sht T)  hPc ) (cwV 0 hts (gw_V gk_827 gk_512 gk_513 gk_5 gk_514) rfl rfl rfl (by decide +kernel) ⟨Nat.le_of_ble_eq_true rfl, Nat.le_of_ble_eq_true rfl⟩) ⟨fun a U g mk q => ⟨q.1, q.2.1, va_K.moved (u := U) (U := U.calling g mk a) (Vm.Alike.refl U.vm) q.2.2⟩, va_recv hK hP (ci := 4) (q0 := 1) rfl rfl, fun U hU hW => ⟨rfl, hU, va_K.moved hW.alike hKc⟩⟩ rfl rfl hl.1 rfl (lv_room (Nat.le_of_ble_eq_true rfl)) d_BB_count_129 ⟨Nat.le_of_ble_eq_true rfl, Nat.le_of_ble_eq_true rfl⟩) hS (fun q _ h => h.elim) (fun q h => h.elim) (fun r129 u9 t9 H1 locs ht hvm hw hB hz1 hk1 hS => ?_)
      obtain rfl : s.heap = H1 := hB.symm.trans ht
      have hw : r129 = lN (t_pa T) := hw
      subst hw
      refine vx_ret ?_
      refine W.widen (k := 1) (n := 6) (by decide) (by decide) ?_
      exact W.lret (v := (lN (t_pa T))) hx hb hr (fun t ht hW => ⟨⟨_, (), rfl, ⟨4, by omega, rfl, rfl⟩, ht⟩, hS.F ht⟩) hS.2.2 d_BB_count_132
    | 5, _ =>
      refine lv_tableIn (off := 132) (tgt := 133) hx hb d_BB_count_1 (by decide) (by decide) rfl (by decide) ?_
      refine lv_aload_n hx hb d_BB_count_133 rfl (lv_at hl 0 rfl) ?_
      refine va_get (D := (dC, dI)) (ci := 7) (v := .ref t0) (C := "BallotBoard") (T := F_BB) (N := 6) hx hb hts (fun w9 h9 => List.mem_cons_of_mem _ (i_BB w9 h9)) hown hK hP 0 rfl rfl 2 (by decide) (hts _ (List.mem_cons_of_mem _ gk_158)) (fun _ h9 => h9) rfl d_BB_count_134 ?_
      have hPc := hP.sub (ws' := (tl_ws t0 ka aa ba sa (.ref g0) cJ (t_ko T) (t_ao T) (t_bo T) (t_so T) (t_tn T) (t_kc T) (t_bc T) (t_shc T) (t_kp T) (t_shp T) (t_pa T) (t_pb T) (t_sht T))) [1, 2, 3, 4, 5] rfl
      have hKc := hK.sub (tys' := [(cJ, .long), (cI, .int)]) [0, 1] rfl
      refine va_calll (va_runV (As := []) (rest := []) ⟨hx, hb, hml, hown, hts⟩ (c_Ta_productB l s.heap dC dI cJ cI t0 ka aa ba sa (.ref g0) (t_ko T) (t_ao T) (t_bo T) (t_so T) (t_tn T) (t_kc T) (t_bc T) (t_shc T) (t_kp T) (t_shp T) (t_pa T) (t_pb T) (t_sht T)  hPc ) (cwV 0 hts (gw_V gk_828 gk_829 gk_830 gk_5 gk_831) rfl rfl rfl (by decide +kernel) ⟨Nat.le_of_ble_eq_true rfl, Nat.le_of_ble_eq_true rfl⟩) ⟨fun a U g mk q => ⟨q.1, q.2.1, va_K.moved (u := U) (U := U.calling g mk a) (Vm.Alike.refl U.vm) q.2.2⟩, va_recv hK hP (ci := 4) (q0 := 1) rfl rfl, fun U hU hW => ⟨rfl, hU, va_K.moved hW.alike hKc⟩⟩ rfl rfl hl.1 rfl (lv_room (Nat.le_of_ble_eq_true rfl)) d_BB_count_137 ⟨Nat.le_of_ble_eq_true rfl, Nat.le_of_ble_eq_true rfl⟩) hS (fun q _ h => h.elim) (fun q h => h.elim) (fun r137 u9 t9 H1 locs ht hvm hw hB hz1 hk1 hS => ?_)
      obtain rfl : s.heap = H1 := hB.symm.trans ht
      have hw : r137 = lN (t_pb T) := hw
      subst hw
      refine vx_ret ?_
      refine W.widen (k := 1) (n := 6) (by decide) (by decide) ?_
      exact W.lret (v := (lN (t_pb T))) hx hb hr (fun t ht hW => ⟨⟨_, (), rfl, ⟨5, by omega, rfl, rfl⟩, ht⟩, hS.F ht⟩) hS.2.2 d_BB_count_140
    | 6, _ =>
      refine lv_tableIn (off := 140) (tgt := 141) hx hb d_BB_count_1 (by decide) (by decide) rfl (by decide) ?_
      refine lv_aload_n hx hb d_BB_count_141 rfl (lv_at hl 0 rfl) ?_
      refine va_get (D := (dC, dI)) (ci := 7) (v := .ref bd0) (C := "BallotBoard") (T := F_BB) (N := 6) hx hb hts (fun w9 h9 => List.mem_cons_of_mem _ (i_BB w9 h9)) hown hK hP 0 rfl rfl 0 (by decide) (hts _ (List.mem_cons_of_mem _ gk_156)) (fun _ h9 => h9) rfl d_BB_count_142 ?_
      have hPc := hP.sub (ws' := (bo_ws bd0 h0 ro lo n)) [6] rfl
      have hKc := hK.sub (tys' := [(cJ, .long), (cI, .int), (cR, .array .long)]) [0, 1, 2] rfl
      refine va_calli (va_runV (As := []) (rest := []) ⟨hx, hb, hml, hown, hts⟩ (c_Bd_size l s.heap dC dI cJ cI cR bd0 h0 ro lo n hPc) (cwV 0 hts (gw_V gk_642 gk_643 gk_644 gk_3 gk_645) rfl rfl rfl (by decide +kernel) ⟨Nat.le_of_ble_eq_true rfl, Nat.le_of_ble_eq_true rfl⟩) ⟨fun a U g mk q => ⟨q.1, q.2.1, va_K.moved (u := U) (U := U.calling g mk a) (Vm.Alike.refl U.vm) q.2.2⟩, va_recv hK hP (ci := 3) (q0 := 6) rfl rfl, fun U hU hW => ⟨rfl, hU, va_K.moved hW.alike hKc⟩⟩ rfl rfl hl.1 rfl (lv_room (Nat.le_of_ble_eq_true rfl)) d_BB_count_145 ⟨Nat.le_of_ble_eq_true rfl, Nat.le_of_ble_eq_true rfl⟩) hS (fun q _ h => h.elim) (fun q h => h.elim) (fun r145 u9 t9 H1 locs ht hvm hw hB hz1 hk1 hS => ?_)
      obtain rfl : s.heap = H1 := hB.symm.trans ht
      have hw : r145 = nI n := hw
      subst hw
      refine lv_i2l (v := (nI n : Int32).toInt64) hx hb d_BB_count_148 rfl ?_
      refine vx_ret ?_
      refine W.widen (k := 1) (n := 6) (by decide) (by decide) ?_
      exact W.lret (v := ((nI n : Int32).toInt64)) hx hb hr (fun t ht hW => ⟨⟨_, (), rfl, ⟨6, by omega, rfl, by rw [nI_l (by omega)]; rfl⟩, ht⟩, hS.F ht⟩) hS.2.2 d_BB_count_149
    | 7, _ =>
      refine lv_tableIn (off := 149) (tgt := 150) hx hb d_BB_count_1 (by decide) (by decide) rfl (by decide) ?_
      refine lv_aload_n hx hb d_BB_count_150 rfl (lv_at hl 0 rfl) ?_
      refine va_get (D := (dC, dI)) (ci := 7) (v := .ref t0) (C := "BallotBoard") (T := F_BB) (N := 6) hx hb hts (fun w9 h9 => List.mem_cons_of_mem _ (i_BB w9 h9)) hown hK hP 0 rfl rfl 2 (by decide) (hts _ (List.mem_cons_of_mem _ gk_158)) (fun _ h9 => h9) rfl d_BB_count_151 ?_
      have hPc := hP.sub (ws' := (tl_ws t0 ka aa ba sa (.ref g0) cJ (t_ko T) (t_ao T) (t_bo T) (t_so T) (t_tn T) (t_kc T) (t_bc T) (t_shc T) (t_kp T) (t_shp T) (t_pa T) (t_pb T) (t_sht T))) [1, 2, 3, 4, 5] rfl
      have hKc := hK.sub (tys' := [(cJ, .long), (cI, .int)]) [0, 1] rfl
      refine va_calli (va_runV (As := []) (rest := []) ⟨hx, hb, hml, hown, hts⟩ (c_Ta_ballots l s.heap dC dI cJ cI t0 ka aa ba sa (.ref g0) (t_ko T) (t_ao T) (t_bo T) (t_so T) (t_tn T) (t_kc T) (t_bc T) (t_shc T) (t_kp T) (t_shp T) (t_pa T) (t_pb T) (t_sht T)  hPc ) (cwV 0 hts (gw_V gk_698 gk_699 gk_700 gk_5 gk_701) rfl rfl rfl (by decide +kernel) ⟨Nat.le_of_ble_eq_true rfl, Nat.le_of_ble_eq_true rfl⟩) ⟨fun a U g mk q => ⟨q.1, q.2.1, va_K.moved (u := U) (U := U.calling g mk a) (Vm.Alike.refl U.vm) q.2.2⟩, va_recv hK hP (ci := 4) (q0 := 1) rfl rfl, fun U hU hW => ⟨rfl, hU, va_K.moved hW.alike hKc⟩⟩ rfl rfl hl.1 rfl (lv_room (Nat.le_of_ble_eq_true rfl)) d_BB_count_154 ⟨Nat.le_of_ble_eq_true rfl, Nat.le_of_ble_eq_true rfl⟩) hS (fun q _ h => h.elim) (fun q h => h.elim) (fun r154 u9 t9 H1 locs ht hvm hw hB hz1 hk1 hS => ?_)
      obtain rfl : s.heap = H1 := hB.symm.trans ht
      have hw : r154 = nI (t_bc T) := hw
      subst hw
      refine lv_i2l (v := (nI (t_bc T) : Int32).toInt64) hx hb d_BB_count_157 rfl ?_
      refine vx_ret ?_
      refine W.widen (k := 1) (n := 6) (by decide) (by decide) ?_
      exact W.lret (v := ((nI (t_bc T) : Int32).toInt64)) hx hb hr (fun t ht hW => ⟨⟨_, (), rfl, ⟨7, by omega, rfl, by rw [nI_l (by omega)]; rfl⟩, ht⟩, hS.F ht⟩) hS.2.2 d_BB_count_158
    | 8, _ =>
      refine lv_tableIn (off := 158) (tgt := 159) hx hb d_BB_count_1 (by decide) (by decide) rfl (by decide) ?_
      refine lv_aload_n hx hb d_BB_count_159 rfl (lv_at hl 0 rfl) ?_
      refine va_get (D := (dC, dI)) (ci := 7) (v := .ref t0) (C := "BallotBoard") (T := F_BB) (N := 6) hx hb hts (fun w9 h9 => List.mem_cons_of_mem _ (i_BB w9 h9)) hown hK hP 0 rfl rfl 2 (by decide) (hts _ (List.mem_cons_of_mem _ gk_158)) (fun _ h9 => h9) rfl d_BB_count_160 ?_
      have hPc := hP.sub (ws' := (tl_ws t0 ka aa ba sa (.ref g0) cJ (t_ko T) (t_ao T) (t_bo T) (t_so T) (t_tn T) (t_kc T) (t_bc T) (t_shc T) (t_kp T) (t_shp T) (t_pa T) (t_pb T) (t_sht T))) [1, 2, 3, 4, 5] rfl
      have hKc := hK.sub (tys' := [(cJ, .long), (cI, .int)]) [0, 1] rfl
      refine va_calli (va_runV (As := []) (rest := []) ⟨hx, hb, hml, hown, hts⟩ (c_Ta_keys l s.heap dC dI cJ cI t0 ka aa ba sa (.ref g0) (t_ko T) (t_ao T) (t_bo T) (t_so T) (t_tn T) (t_kc T) (t_bc T) (t_shc T) (t_kp T) (t_shp T) (t_pa T) (t_pb T) (t_sht T)  hPc ) (cwV 0 hts (gw_V gk_832 gk_833 gk_834 gk_5 gk_835) rfl rfl rfl (by decide +kernel) ⟨Nat.le_of_ble_eq_true rfl, Nat.le_of_ble_eq_true rfl⟩) ⟨fun a U g mk q => ⟨q.1, q.2.1, va_K.moved (u := U) (U := U.calling g mk a) (Vm.Alike.refl U.vm) q.2.2⟩, va_recv hK hP (ci := 4) (q0 := 1) rfl rfl, fun U hU hW => ⟨rfl, hU, va_K.moved hW.alike hKc⟩⟩ rfl rfl hl.1 rfl (lv_room (Nat.le_of_ble_eq_true rfl)) d_BB_count_163 ⟨Nat.le_of_ble_eq_true rfl, Nat.le_of_ble_eq_true rfl⟩) hS (fun q _ h => h.elim) (fun q h => h.elim) (fun r163 u9 t9 H1 locs ht hvm hw hB hz1 hk1 hS => ?_)
      obtain rfl : s.heap = H1 := hB.symm.trans ht
      have hw : r163 = nI (t_kc T) := hw
      subst hw
      refine lv_i2l (v := (nI (t_kc T) : Int32).toInt64) hx hb d_BB_count_166 rfl ?_
      refine vx_ret ?_
      refine W.widen (k := 1) (n := 6) (by decide) (by decide) ?_
      exact W.lret (v := ((nI (t_kc T) : Int32).toInt64)) hx hb hr (fun t ht hW => ⟨⟨_, (), rfl, ⟨8, by omega, rfl, by rw [nI_l (by omega)]; rfl⟩, ht⟩, hS.F ht⟩) hS.2.2 d_BB_count_167
    | 9, _ =>
      refine lv_tableIn (off := 167) (tgt := 168) hx hb d_BB_count_1 (by decide) (by decide) rfl (by decide) ?_
      refine lv_aload_n hx hb d_BB_count_168 rfl (lv_at hl 0 rfl) ?_
      refine va_get (D := (dC, dI)) (ci := 7) (v := .ref t0) (C := "BallotBoard") (T := F_BB) (N := 6) hx hb hts (fun w9 h9 => List.mem_cons_of_mem _ (i_BB w9 h9)) hown hK hP 0 rfl rfl 2 (by decide) (hts _ (List.mem_cons_of_mem _ gk_158)) (fun _ h9 => h9) rfl d_BB_count_169 ?_
      have hPc := hP.sub (ws' := (tl_ws t0 ka aa ba sa (.ref g0) cJ (t_ko T) (t_ao T) (t_bo T) (t_so T) (t_tn T) (t_kc T) (t_bc T) (t_shc T) (t_kp T) (t_shp T) (t_pa T) (t_pb T) (t_sht T))) [1, 2, 3, 4, 5] rfl
      have hKc := hK.sub (tys' := [(cJ, .long), (cI, .int)]) [0, 1] rfl
      refine va_calli (va_runV (As := []) (rest := []) ⟨hx, hb, hml, hown, hts⟩ (c_Ta_shares l s.heap dC dI cJ cI t0 ka aa ba sa (.ref g0) (t_ko T) (t_ao T) (t_bo T) (t_so T) (t_tn T) (t_kc T) (t_bc T) (t_shc T) (t_kp T) (t_shp T) (t_pa T) (t_pb T) (t_sht T)  hPc ) (cwV 0 hts (gw_V gk_836 gk_837 gk_838 gk_5 gk_839) rfl rfl rfl (by decide +kernel) ⟨Nat.le_of_ble_eq_true rfl, Nat.le_of_ble_eq_true rfl⟩) ⟨fun a U g mk q => ⟨q.1, q.2.1, va_K.moved (u := U) (U := U.calling g mk a) (Vm.Alike.refl U.vm) q.2.2⟩, va_recv hK hP (ci := 4) (q0 := 1) rfl rfl, fun U hU hW => ⟨rfl, hU, va_K.moved hW.alike hKc⟩⟩ rfl rfl hl.1 rfl (lv_room (Nat.le_of_ble_eq_true rfl)) d_BB_count_172 ⟨Nat.le_of_ble_eq_true rfl, Nat.le_of_ble_eq_true rfl⟩) hS (fun q _ h => h.elim) (fun q h => h.elim) (fun r172 u9 t9 H1 locs ht hvm hw hB hz1 hk1 hS => ?_)
      obtain rfl : s.heap = H1 := hB.symm.trans ht
      have hw : r172 = nI (t_shc T) := hw
      subst hw
      refine lv_i2l (v := (nI (t_shc T) : Int32).toInt64) hx hb d_BB_count_175 rfl ?_
      refine vx_ret ?_
      refine W.widen (k := 1) (n := 6) (by decide) (by decide) ?_
      exact W.lret (v := ((nI (t_shc T) : Int32).toInt64)) hx hb hr (fun t ht hW => ⟨⟨_, (), rfl, ⟨9, by omega, rfl, by rw [nI_l (by omega)]; rfl⟩, ht⟩, hS.F ht⟩) hS.2.2 d_BB_count_176
    | 10, _ =>
      refine lv_tableIn (off := 176) (tgt := 177) hx hb d_BB_count_1 (by decide) (by decide) rfl (by decide) ?_
      refine lv_aload_n hx hb d_BB_count_177 rfl (lv_at hl 0 rfl) ?_
      refine va_get (D := (dC, dI)) (ci := 7) (v := .ref t0) (C := "BallotBoard") (T := F_BB) (N := 6) hx hb hts (fun w9 h9 => List.mem_cons_of_mem _ (i_BB w9 h9)) hown hK hP 0 rfl rfl 2 (by decide) (hts _ (List.mem_cons_of_mem _ gk_158)) (fun _ h9 => h9) rfl d_BB_count_178 ?_
      have hPc := hP.sub (ws' := (tl_ws t0 ka aa ba sa (.ref g0) cJ (t_ko T) (t_ao T) (t_bo T) (t_so T) (t_tn T) (t_kc T) (t_bc T) (t_shc T) (t_kp T) (t_shp T) (t_pa T) (t_pb T) (t_sht T))) [1, 2, 3, 4, 5] rfl
      have hKc := hK.sub (tys' := [(cJ, .long), (cI, .int)]) [0, 1] rfl
      refine va_calli (va_runV (As := []) (rest := []) ⟨hx, hb, hml, hown, hts⟩ (c_Ta_isShut l s.heap dC dI cJ cI t0 ka aa ba sa (.ref g0) (t_ko T) (t_ao T) (t_bo T) (t_so T) (t_tn T) (t_kc T) (t_bc T) (t_shc T) (t_kp T) (t_shp T) (t_pa T) (t_pb T) (t_sht T)  hPc hst) (cwV 0 hts (gw_V gk_403 gk_404 gk_405 gk_5 gk_406) rfl rfl rfl (by decide +kernel) ⟨Nat.le_of_ble_eq_true rfl, Nat.le_of_ble_eq_true rfl⟩) ⟨fun a U g mk q => ⟨q.1, q.2.1, va_K.moved (u := U) (U := U.calling g mk a) (Vm.Alike.refl U.vm) q.2.2⟩, va_recv hK hP (ci := 4) (q0 := 1) rfl rfl, fun U hU hW => ⟨rfl, hU, va_K.moved hW.alike hKc⟩⟩ rfl rfl hl.1 rfl (lv_room (Nat.le_of_ble_eq_true rfl)) d_BB_count_181 ⟨Nat.le_of_ble_eq_true rfl, Nat.le_of_ble_eq_true rfl⟩) hS (fun q _ h => h.elim) (fun q h => h.elim) (fun r181 u9 t9 H1 locs ht hvm hw hB hz1 hk1 hS => ?_)
      obtain rfl : s.heap = H1 := hB.symm.trans ht
      have h181 := hw
      refine lv_if_eq (tgt := 191) hx hb d_BB_count_184 (by decide) (fun c_1 => ?_) (fun c_1 => ?_)
      · -- taken
        have b181 := bz_f h181 c_1
        refine lv_lconst (v := 0) hx hb d_BB_count_191 (by decide) ?_
        refine vx_ret ?_
        refine W.widen (k := 1) (n := 6) (by decide) (by decide) ?_
        exact W.lret (v := 0) hx hb hr (fun t ht hW => ⟨⟨_, (), rfl, ⟨10, by omega, rfl, (if_neg b181).symm⟩, ht⟩, hS.F ht⟩) hS.2.2 d_BB_count_192
      · -- not taken
        have b181 := bz_t h181 c_1
        refine lv_lconst (v := 1) hx hb d_BB_count_187 (by decide) ?_
        refine lv_goto (tgt := 192) hx hb d_BB_count_188 (by decide) ?_
        refine vx_ret ?_
        refine W.widen (k := 1) (n := 6) (by decide) (by decide) ?_
        exact W.lret (v := 1) hx hb hr (fun t ht hW => ⟨⟨_, (), rfl, ⟨10, by omega, rfl, (if_pos b181).symm⟩, ht⟩, hS.F ht⟩) hS.2.2 d_BB_count_192
    | i + 11, hi => exact absurd hi (by omega)
  · refine lv_tableOut (tgt := 193) hx hb d_BB_count_1 (sw_out (n := 10) (by omega) hno) (by decide) ?_
    exact thr hx hb hnt 204 "there is no such count" hts hown (by decide) gk_279 gk_13 xa_A1 xa_A2 xa_A3 hZx (by decide) hS (hl.1.trans hml.symm) d_BB_count_193 d_BB_count_196 d_BB_count_197 d_BB_count_199 d_BB_count_202 htab (Nat.le_of_ble_eq_true rfl) (Nat.le_of_ble_eq_true rfl) (Nat.le_of_ble_eq_true rfl) (Nat.le_of_ble_eq_true rfl) hlocks (fun t9 hal9 hsz9 hkp9 => ⟨(), trivial, ⟨rfl, hno⟩, hS.Fx hsz9 hkp9⟩) (fun z hz => hS.2.2 z hz) (Nat.le_of_ble_eq_true rfl) (Nat.le_of_ble_eq_true rfl)
set_option maxHeartbeats 8000000 in
set_option maxRecDepth 100000 in
theorem c_BB_count_n (l : Launch) (hnt : l.stackTraces = false) (H0 : Heap) (dC : Nat → ClassId) (dI : Nat → Nat → Nat) (cJ cI cR : ClassId) (b0 bd0 pr0 t0 au0 da : Nat) (ka aa ba sa : Nat) (T : TS) (h0 ro lo n : Nat) (x1 : Int32) (hP : va_P (dC, dI) classes (bb_ws b0 bd0 pr0 t0 au0 da .null ++ (tt_ws t0 ka aa ba sa .null cJ T ++ (bo_ws bd0 h0 ro lo n))) H0) (hsh0 : t_sht T = 0 ∨ t_sht T = 1) (htn : t_tn T ≤ 4) (hkc : t_kc T ≤ 4) (hn : n ≤ 154) (hbc : t_bc T ≤ 64) (hsc : t_shc T ≤ 4) : vx_Met l y_BB_count w_BB_count ({ frames := 6, cells := 1, slots := 6, locals := 82 }) (va_Pc [.ref b0, .int x1] (fun U => U.heap = H0 ∧ va_K (dC, dI) classes [(cJ, .long), (cI, .int), (cR, .array .long)] U ∧ xz (fun _ => False) U U.heap)) (va_Ql (fun (r : Int64) (_ : Unit) => ∃ i, i < 11 ∧ x1 = nI i ∧ r = cntC T 0 0 0 n i) (fun _ t => t.heap = H0) (fun _ => False)) (vx_X (fun _ : Unit => True) (fun E _ _ => E = eA ∧ ¬ inN x1 11) (fun _ => False)) 1 6 (fun _ => False) := by
  refine vx_ofW (cc := b_BB_count) (maxL := 2) (ret := (some .long)) (by decide) rfl ?_
  intro p e s m args below meth c s₁ Bd hml htab hv
  obtain ⟨rfl, hH, hK, hZx⟩ := hv
  have hx := Bd.exec
  have hb := Bd.bytes
  have hr := Bd.returns
  have hts := atoms_spec (ws := w_BB_count) Bd.pre
  have hown : s.vm.findClass "BallotBoard" = some m.cls := findClass_of_methodNamed Bd.named
  have hlocks := Bd.notSynchronized
  subst hH
  have hS : va_S (fun _ => False) s.heap s.heap [] := va_S.rf
  have hl := lv_entry ([.ref b0, .int x1]) (n := 2) (Nat.le_of_ble_eq_true rfl)
  rw [lg_entry_eq]
  generalize (lg_sl ([.ref b0, .int x1]) ++ List.replicate (2 - (lg_sl ([.ref b0, .int x1])).length) Slot.unset).toArray = ls at hl ⊢
  have hl : lv_has ls 2 [(0, .ref b0), (1, .int x1)] := hl
  have hst : t_sht T = 0 ∨ t_sht T = 1 := hsh0
  refine lv_iload_n hx hb d_BB_count_0 rfl (lv_at hl 1 rfl) ?_
  rcases Classical.em (inN x1 11) with hin | hno
  · obtain ⟨i, rfl, hi⟩ := hin
    match i, hi with
    | 0, _ =>
      refine lv_tableIn (off := 59) (tgt := 60) hx hb d_BB_count_1 (by decide) (by decide) rfl (by decide) ?_
      refine lv_aload_n hx hb d_BB_count_60 rfl (lv_at hl 0 rfl) ?_
      refine va_get (D := (dC, dI)) (ci := 7) (v := .null) (C := "BallotBoard") (T := F_BB) (N := 6) hx hb hts (fun w9 h9 => List.mem_cons_of_mem _ (i_BB w9 h9)) hown hK hP 0 rfl rfl 5 (by decide) (hts _ (List.mem_cons_of_mem _ gk_161)) (fun _ h9 => h9) rfl d_BB_count_61 ?_
      refine lv_ifnonnullN hx hb d_BB_count_64 ?_
      refine lv_lconst (v := 0) hx hb d_BB_count_67 (by decide) ?_
      refine lv_goto (tgt := 78) hx hb d_BB_count_68 (by decide) ?_
      refine vx_ret ?_
      refine W.widen (k := 1) (n := 6) (by decide) (by decide) ?_
      exact W.lret (v := 0) hx hb hr (fun t ht hW => ⟨⟨_, (), rfl, ⟨0, by omega, rfl, rfl⟩, ht⟩, hS.F ht⟩) hS.2.2 d_BB_count_78
    | 1, _ =>
      refine lv_tableIn (off := 78) (tgt := 79) hx hb d_BB_count_1 (by decide) (by decide) rfl (by decide) ?_
      refine lv_aload_n hx hb d_BB_count_79 rfl (lv_at hl 0 rfl) ?_
      refine va_get (D := (dC, dI)) (ci := 7) (v := .null) (C := "BallotBoard") (T := F_BB) (N := 6) hx hb hts (fun w9 h9 => List.mem_cons_of_mem _ (i_BB w9 h9)) hown hK hP 0 rfl rfl 5 (by decide) (hts _ (List.mem_cons_of_mem _ gk_161)) (fun _ h9 => h9) rfl d_BB_count_80 ?_
      refine lv_ifnonnullN hx hb d_BB_count_83 ?_
      refine lv_lconst (v := 0) hx hb d_BB_count_86 (by decide) ?_
      refine lv_goto (tgt := 97) hx hb d_BB_count_87 (by decide) ?_
      refine vx_ret ?_
      refine W.widen (k := 1) (n := 6) (by decide) (by decide) ?_
      exact W.lret (v := 0) hx hb hr (fun t ht hW => ⟨⟨_, (), rfl, ⟨1, by omega, rfl, rfl⟩, ht⟩, hS.F ht⟩) hS.2.2 d_BB_count_97
    | 2, _ =>
      refine lv_tableIn (off := 97) (tgt := 98) hx hb d_BB_count_1 (by decide) (by decide) rfl (by decide) ?_
      refine lv_aload_n hx hb d_BB_count_98 rfl (lv_at hl 0 rfl) ?_
      refine va_get (D := (dC, dI)) (ci := 7) (v := .null) (C := "BallotBoard") (T := F_BB) (N := 6) hx hb hts (fun w9 h9 => List.mem_cons_of_mem _ (i_BB w9 h9)) hown hK hP 0 rfl rfl 5 (by decide) (hts _ (List.mem_cons_of_mem _ gk_161)) (fun _ h9 => h9) rfl d_BB_count_99 ?_
      refine lv_ifnonnullN hx hb d_BB_count_102 ?_
      refine lv_lconst (v := 0) hx hb d_BB_count_105 (by decide) ?_
      refine lv_goto (tgt := 116) hx hb d_BB_count_106 (by decide) ?_
      refine vx_ret ?_
      refine W.widen (k := 1) (n := 6) (by decide) (by decide) ?_
      exact W.lret (v := 0) hx hb hr (fun t ht hW => ⟨⟨_, (), rfl, ⟨2, by omega, rfl, rfl⟩, ht⟩, hS.F ht⟩) hS.2.2 d_BB_count_116
    | 3, _ =>
      refine lv_tableIn (off := 116) (tgt := 117) hx hb d_BB_count_1 (by decide) (by decide) rfl (by decide) ?_
      refine lv_aload_n hx hb d_BB_count_117 rfl (lv_at hl 0 rfl) ?_
      refine va_get (D := (dC, dI)) (ci := 7) (v := .ref t0) (C := "BallotBoard") (T := F_BB) (N := 6) hx hb hts (fun w9 h9 => List.mem_cons_of_mem _ (i_BB w9 h9)) hown hK hP 0 rfl rfl 2 (by decide) (hts _ (List.mem_cons_of_mem _ gk_158)) (fun _ h9 => h9) rfl d_BB_count_118 ?_
      have hPc := hP.sub (ws' := (tl_ws t0 ka aa ba sa .null cJ (t_ko T) (t_ao T) (t_bo T) (t_so T) (t_tn T) (t_kc T) (t_bc T) (t_shc T) (t_kp T) (t_shp T) (t_pa T) (t_pb T) (t_sht T))) [1, 2, 3, 4, 5] rfl
      have hKc := hK.sub (tys' := [(cJ, .long), (cI, .int)]) [0, 1] rfl
      refine va_calll (va_runV (As := []) (rest := []) ⟨hx, hb, hml, hown, hts⟩ (c_Ta_commonKey l s.heap dC dI cJ cI t0 ka aa ba sa .null (t_ko T) (t_ao T) (t_bo T) (t_so T) (t_tn T) (t_kc T) (t_bc T) (t_shc T) (t_kp T) (t_shp T) (t_pa T) (t_pb T) (t_sht T)  hPc (by omega) (by omega)) (cwV 0 hts (gw_V gk_826 gk_470 gk_471 gk_5 gk_472) rfl rfl rfl (by decide +kernel) ⟨Nat.le_of_ble_eq_true rfl, Nat.le_of_ble_eq_true rfl⟩) ⟨fun a U g mk q => ⟨q.1, q.2.1, va_K.moved (u := U) (U := U.calling g mk a) (Vm.Alike.refl U.vm) q.2.2⟩, va_recv hK hP (ci := 4) (q0 := 1) rfl rfl, fun U hU hW => ⟨rfl, hU, va_K.moved hW.alike hKc⟩⟩ rfl rfl hl.1 rfl (lv_room (Nat.le_of_ble_eq_true rfl)) d_BB_count_121 ⟨Nat.le_of_ble_eq_true rfl, Nat.le_of_ble_eq_true rfl⟩) hS (fun q _ h => h.elim) (fun q h => h.elim) (fun r121 u9 t9 H1 locs ht hvm hw hB hz1 hk1 hS => ?_)
      obtain rfl : s.heap = H1 := hB.symm.trans ht
      have hw : r121 = lN (ckey (t_tn T) (t_kc T) (t_kp T)) := hw
      subst hw
      refine vx_ret ?_
      refine W.widen (k := 1) (n := 6) (by decide) (by decide) ?_
      exact W.lret (v := (lN (ckey (t_tn T) (t_kc T) (t_kp T)))) hx hb hr (fun t ht hW => ⟨⟨_, (), rfl, ⟨3, by omega, rfl, rfl⟩, ht⟩, hS.F ht⟩) hS.2.2 d_BB_count_124
    | 4, _ =>
      refine lv_tableIn (off := 124) (tgt := 125) hx hb d_BB_count_1 (by decide) (by decide) rfl (by decide) ?_
      refine lv_aload_n hx hb d_BB_count_125 rfl (lv_at hl 0 rfl) ?_
      refine va_get (D := (dC, dI)) (ci := 7) (v := .ref t0) (C := "BallotBoard") (T := F_BB) (N := 6) hx hb hts (fun w9 h9 => List.mem_cons_of_mem _ (i_BB w9 h9)) hown hK hP 0 rfl rfl 2 (by decide) (hts _ (List.mem_cons_of_mem _ gk_158)) (fun _ h9 => h9) rfl d_BB_count_126 ?_
      have hPc := hP.sub (ws' := (tl_ws t0 ka aa ba sa .null cJ (t_ko T) (t_ao T) (t_bo T) (t_so T) (t_tn T) (t_kc T) (t_bc T) (t_shc T) (t_kp T) (t_shp T) (t_pa T) (t_pb T) (t_sht T))) [1, 2, 3, 4, 5] rfl
      have hKc := hK.sub (tys' := [(cJ, .long), (cI, .int)]) [0, 1] rfl
      refine va_calll (va_runV (As := []) (rest := []) ⟨hx, hb, hml, hown, hts⟩ (c_Ta_productA l s.heap dC dI cJ cI t0 ka aa ba sa .null (t_ko T) (t_ao T) (t_bo T) (t_so T) (t_tn T) (t_kc T) (t_bc T) (t_shc T) (t_kp T) (t_shp T) (t_pa T) (t_pb T) (t_sht T)  hPc ) (cwV 0 hts (gw_V gk_827 gk_512 gk_513 gk_5 gk_514) rfl rfl rfl (by decide +kernel) ⟨Nat.le_of_ble_eq_true rfl, Nat.le_of_ble_eq_true rfl⟩) ⟨fun a U g mk q => ⟨q.1, q.2.1, va_K.moved (u := U) (U := U.calling g mk a) (Vm.Alike.refl U.vm) q.2.2⟩, va_recv hK hP (ci := 4) (q0 := 1) rfl rfl, fun U hU hW => ⟨rfl, hU, va_K.moved hW.alike hKc⟩⟩ rfl rfl hl.1 rfl (lv_room (Nat.le_of_ble_eq_true rfl)) d_BB_count_129 ⟨Nat.le_of_ble_eq_true rfl, Nat.le_of_ble_eq_true rfl⟩) hS (fun q _ h => h.elim) (fun q h => h.elim) (fun r129 u9 t9 H1 locs ht hvm hw hB hz1 hk1 hS => ?_)
      obtain rfl : s.heap = H1 := hB.symm.trans ht
      have hw : r129 = lN (t_pa T) := hw
      subst hw
      refine vx_ret ?_
      refine W.widen (k := 1) (n := 6) (by decide) (by decide) ?_
      exact W.lret (v := (lN (t_pa T))) hx hb hr (fun t ht hW => ⟨⟨_, (), rfl, ⟨4, by omega, rfl, rfl⟩, ht⟩, hS.F ht⟩) hS.2.2 d_BB_count_132
    | 5, _ =>
      refine lv_tableIn (off := 132) (tgt := 133) hx hb d_BB_count_1 (by decide) (by decide) rfl (by decide) ?_
      refine lv_aload_n hx hb d_BB_count_133 rfl (lv_at hl 0 rfl) ?_
      refine va_get (D := (dC, dI)) (ci := 7) (v := .ref t0) (C := "BallotBoard") (T := F_BB) (N := 6) hx hb hts (fun w9 h9 => List.mem_cons_of_mem _ (i_BB w9 h9)) hown hK hP 0 rfl rfl 2 (by decide) (hts _ (List.mem_cons_of_mem _ gk_158)) (fun _ h9 => h9) rfl d_BB_count_134 ?_
      have hPc := hP.sub (ws' := (tl_ws t0 ka aa ba sa .null cJ (t_ko T) (t_ao T) (t_bo T) (t_so T) (t_tn T) (t_kc T) (t_bc T) (t_shc T) (t_kp T) (t_shp T) (t_pa T) (t_pb T) (t_sht T))) [1, 2, 3, 4, 5] rfl
      have hKc := hK.sub (tys' := [(cJ, .long), (cI, .int)]) [0, 1] rfl
      refine va_calll (va_runV (As := []) (rest := []) ⟨hx, hb, hml, hown, hts⟩ (c_Ta_productB l s.heap dC dI cJ cI t0 ka aa ba sa .null (t_ko T) (t_ao T) (t_bo T) (t_so T) (t_tn T) (t_kc T) (t_bc T) (t_shc T) (t_kp T) (t_shp T) (t_pa T) (t_pb T) (t_sht T)  hPc ) (cwV 0 hts (gw_V gk_828 gk_829 gk_830 gk_5 gk_831) rfl rfl rfl (by decide +kernel) ⟨Nat.le_of_ble_eq_true rfl, Nat.le_of_ble_eq_true rfl⟩) ⟨fun a U g mk q => ⟨q.1, q.2.1, va_K.moved (u := U) (U := U.calling g mk a) (Vm.Alike.refl U.vm) q.2.2⟩, va_recv hK hP (ci := 4) (q0 := 1) rfl rfl, fun U hU hW => ⟨rfl, hU, va_K.moved hW.alike hKc⟩⟩ rfl rfl hl.1 rfl (lv_room (Nat.le_of_ble_eq_true rfl)) d_BB_count_137 ⟨Nat.le_of_ble_eq_true rfl, Nat.le_of_ble_eq_true rfl⟩) hS (fun q _ h => h.elim) (fun q h => h.elim) (fun r137 u9 t9 H1 locs ht hvm hw hB hz1 hk1 hS => ?_)
      obtain rfl : s.heap = H1 := hB.symm.trans ht
      have hw : r137 = lN (t_pb T) := hw
      subst hw
      refine vx_ret ?_
      refine W.widen (k := 1) (n := 6) (by decide) (by decide) ?_
      exact W.lret (v := (lN (t_pb T))) hx hb hr (fun t ht hW => ⟨⟨_, (), rfl, ⟨5, by omega, rfl, rfl⟩, ht⟩, hS.F ht⟩) hS.2.2 d_BB_count_140
    | 6, _ =>
      refine lv_tableIn (off := 140) (tgt := 141) hx hb d_BB_count_1 (by decide) (by decide) rfl (by decide) ?_
      refine lv_aload_n hx hb d_BB_count_141 rfl (lv_at hl 0 rfl) ?_
      refine va_get (D := (dC, dI)) (ci := 7) (v := .ref bd0) (C := "BallotBoard") (T := F_BB) (N := 6) hx hb hts (fun w9 h9 => List.mem_cons_of_mem _ (i_BB w9 h9)) hown hK hP 0 rfl rfl 0 (by decide) (hts _ (List.mem_cons_of_mem _ gk_156)) (fun _ h9 => h9) rfl d_BB_count_142 ?_
      have hPc := hP.sub (ws' := (bo_ws bd0 h0 ro lo n)) [6] rfl
      have hKc := hK.sub (tys' := [(cJ, .long), (cI, .int), (cR, .array .long)]) [0, 1, 2] rfl
      refine va_calli (va_runV (As := []) (rest := []) ⟨hx, hb, hml, hown, hts⟩ (c_Bd_size l s.heap dC dI cJ cI cR bd0 h0 ro lo n hPc) (cwV 0 hts (gw_V gk_642 gk_643 gk_644 gk_3 gk_645) rfl rfl rfl (by decide +kernel) ⟨Nat.le_of_ble_eq_true rfl, Nat.le_of_ble_eq_true rfl⟩) ⟨fun a U g mk q => ⟨q.1, q.2.1, va_K.moved (u := U) (U := U.calling g mk a) (Vm.Alike.refl U.vm) q.2.2⟩, va_recv hK hP (ci := 3) (q0 := 6) rfl rfl, fun U hU hW => ⟨rfl, hU, va_K.moved hW.alike hKc⟩⟩ rfl rfl hl.1 rfl (lv_room (Nat.le_of_ble_eq_true rfl)) d_BB_count_145 ⟨Nat.le_of_ble_eq_true rfl, Nat.le_of_ble_eq_true rfl⟩) hS (fun q _ h => h.elim) (fun q h => h.elim) (fun r145 u9 t9 H1 locs ht hvm hw hB hz1 hk1 hS => ?_)
      obtain rfl : s.heap = H1 := hB.symm.trans ht
      have hw : r145 = nI n := hw
      subst hw
      refine lv_i2l (v := (nI n : Int32).toInt64) hx hb d_BB_count_148 rfl ?_
      refine vx_ret ?_
      refine W.widen (k := 1) (n := 6) (by decide) (by decide) ?_
      exact W.lret (v := ((nI n : Int32).toInt64)) hx hb hr (fun t ht hW => ⟨⟨_, (), rfl, ⟨6, by omega, rfl, by rw [nI_l (by omega)]; rfl⟩, ht⟩, hS.F ht⟩) hS.2.2 d_BB_count_149
    | 7, _ =>
      refine lv_tableIn (off := 149) (tgt := 150) hx hb d_BB_count_1 (by decide) (by decide) rfl (by decide) ?_
      refine lv_aload_n hx hb d_BB_count_150 rfl (lv_at hl 0 rfl) ?_
      refine va_get (D := (dC, dI)) (ci := 7) (v := .ref t0) (C := "BallotBoard") (T := F_BB) (N := 6) hx hb hts (fun w9 h9 => List.mem_cons_of_mem _ (i_BB w9 h9)) hown hK hP 0 rfl rfl 2 (by decide) (hts _ (List.mem_cons_of_mem _ gk_158)) (fun _ h9 => h9) rfl d_BB_count_151 ?_
      have hPc := hP.sub (ws' := (tl_ws t0 ka aa ba sa .null cJ (t_ko T) (t_ao T) (t_bo T) (t_so T) (t_tn T) (t_kc T) (t_bc T) (t_shc T) (t_kp T) (t_shp T) (t_pa T) (t_pb T) (t_sht T))) [1, 2, 3, 4, 5] rfl
      have hKc := hK.sub (tys' := [(cJ, .long), (cI, .int)]) [0, 1] rfl
      refine va_calli (va_runV (As := []) (rest := []) ⟨hx, hb, hml, hown, hts⟩ (c_Ta_ballots l s.heap dC dI cJ cI t0 ka aa ba sa .null (t_ko T) (t_ao T) (t_bo T) (t_so T) (t_tn T) (t_kc T) (t_bc T) (t_shc T) (t_kp T) (t_shp T) (t_pa T) (t_pb T) (t_sht T)  hPc ) (cwV 0 hts (gw_V gk_698 gk_699 gk_700 gk_5 gk_701) rfl rfl rfl (by decide +kernel) ⟨Nat.le_of_ble_eq_true rfl, Nat.le_of_ble_eq_true rfl⟩) ⟨fun a U g mk q => ⟨q.1, q.2.1, va_K.moved (u := U) (U := U.calling g mk a) (Vm.Alike.refl U.vm) q.2.2⟩, va_recv hK hP (ci := 4) (q0 := 1) rfl rfl, fun U hU hW => ⟨rfl, hU, va_K.moved hW.alike hKc⟩⟩ rfl rfl hl.1 rfl (lv_room (Nat.le_of_ble_eq_true rfl)) d_BB_count_154 ⟨Nat.le_of_ble_eq_true rfl, Nat.le_of_ble_eq_true rfl⟩) hS (fun q _ h => h.elim) (fun q h => h.elim) (fun r154 u9 t9 H1 locs ht hvm hw hB hz1 hk1 hS => ?_)
      obtain rfl : s.heap = H1 := hB.symm.trans ht
      have hw : r154 = nI (t_bc T) := hw
      subst hw
      refine lv_i2l (v := (nI (t_bc T) : Int32).toInt64) hx hb d_BB_count_157 rfl ?_
      refine vx_ret ?_
      refine W.widen (k := 1) (n := 6) (by decide) (by decide) ?_
      exact W.lret (v := ((nI (t_bc T) : Int32).toInt64)) hx hb hr (fun t ht hW => ⟨⟨_, (), rfl, ⟨7, by omega, rfl, by rw [nI_l (by omega)]; rfl⟩, ht⟩, hS.F ht⟩) hS.2.2 d_BB_count_158
    | 8, _ =>
      refine lv_tableIn (off := 158) (tgt := 159) hx hb d_BB_count_1 (by decide) (by decide) rfl (by decide) ?_
      refine lv_aload_n hx hb d_BB_count_159 rfl (lv_at hl 0 rfl) ?_
      refine va_get (D := (dC, dI)) (ci := 7) (v := .ref t0) (C := "BallotBoard") (T := F_BB) (N := 6) hx hb hts (fun w9 h9 => List.mem_cons_of_mem _ (i_BB w9 h9)) hown hK hP 0 rfl rfl 2 (by decide) (hts _ (List.mem_cons_of_mem _ gk_158)) (fun _ h9 => h9) rfl d_BB_count_160 ?_
      have hPc := hP.sub (ws' := (tl_ws t0 ka aa ba sa .null cJ (t_ko T) (t_ao T) (t_bo T) (t_so T) (t_tn T) (t_kc T) (t_bc T) (t_shc T) (t_kp T) (t_shp T) (t_pa T) (t_pb T) (t_sht T))) [1, 2, 3, 4, 5] rfl
      have hKc := hK.sub (tys' := [(cJ, .long), (cI, .int)]) [0, 1] rfl
      refine va_calli (va_runV (As := []) (rest := []) ⟨hx, hb, hml, hown, hts⟩ (c_Ta_keys l s.heap dC dI cJ cI t0 ka aa ba sa .null (t_ko T) (t_ao T) (t_bo T) (t_so T) (t_tn T) (t_kc T) (t_bc T) (t_shc T) (t_kp T) (t_shp T) (t_pa T) (t_pb T) (t_sht T)  hPc ) (cwV 0 hts (gw_V gk_832 gk_833 gk_834 gk_5 gk_835) rfl rfl rfl (by decide +kernel) ⟨Nat.le_of_ble_eq_true rfl, Nat.le_of_ble_eq_true rfl⟩) ⟨fun a U g mk q => ⟨q.1, q.2.1, va_K.moved (u := U) (U := U.calling g mk a) (Vm.Alike.refl U.vm) q.2.2⟩, va_recv hK hP (ci := 4) (q0 := 1) rfl rfl, fun U hU hW => ⟨rfl, hU, va_K.moved hW.alike hKc⟩⟩ rfl rfl hl.1 rfl (lv_room (Nat.le_of_ble_eq_true rfl)) d_BB_count_163 ⟨Nat.le_of_ble_eq_true rfl, Nat.le_of_ble_eq_true rfl⟩) hS (fun q _ h => h.elim) (fun q h => h.elim) (fun r163 u9 t9 H1 locs ht hvm hw hB hz1 hk1 hS => ?_)
      obtain rfl : s.heap = H1 := hB.symm.trans ht
      have hw : r163 = nI (t_kc T) := hw
      subst hw
      refine lv_i2l (v := (nI (t_kc T) : Int32).toInt64) hx hb d_BB_count_166 rfl ?_
      refine vx_ret ?_
      refine W.widen (k := 1) (n := 6) (by decide) (by decide) ?_
      exact W.lret (v := ((nI (t_kc T) : Int32).toInt64)) hx hb hr (fun t ht hW => ⟨⟨_, (), rfl, ⟨8, by omega, rfl, by rw [nI_l (by omega)]; rfl⟩, ht⟩, hS.F ht⟩) hS.2.2 d_BB_count_167
    | 9, _ =>
      refine lv_tableIn (off := 167) (tgt := 168) hx hb d_BB_count_1 (by decide) (by decide) rfl (by decide) ?_
      refine lv_aload_n hx hb d_BB_count_168 rfl (lv_at hl 0 rfl) ?_
      refine va_get (D := (dC, dI)) (ci := 7) (v := .ref t0) (C := "BallotBoard") (T := F_BB) (N := 6) hx hb hts (fun w9 h9 => List.mem_cons_of_mem _ (i_BB w9 h9)) hown hK hP 0 rfl rfl 2 (by decide) (hts _ (List.mem_cons_of_mem _ gk_158)) (fun _ h9 => h9) rfl d_BB_count_169 ?_
      have hPc := hP.sub (ws' := (tl_ws t0 ka aa ba sa .null cJ (t_ko T) (t_ao T) (t_bo T) (t_so T) (t_tn T) (t_kc T) (t_bc T) (t_shc T) (t_kp T) (t_shp T) (t_pa T) (t_pb T) (t_sht T))) [1, 2, 3, 4, 5] rfl
      have hKc := hK.sub (tys' := [(cJ, .long), (cI, .int)]) [0, 1] rfl
      refine va_calli (va_runV (As := []) (rest := []) ⟨hx, hb, hml, hown, hts⟩ (c_Ta_shares l s.heap dC dI cJ cI t0 ka aa ba sa .null (t_ko T) (t_ao T) (t_bo T) (t_so T) (t_tn T) (t_kc T) (t_bc T) (t_shc T) (t_kp T) (t_shp T) (t_pa T) (t_pb T) (t_sht T)  hPc ) (cwV 0 hts (gw_V gk_836 gk_837 gk_838 gk_5 gk_839) rfl rfl rfl (by decide +kernel) ⟨Nat.le_of_ble_eq_true rfl, Nat.le_of_ble_eq_true rfl⟩) ⟨fun a U g mk q => ⟨q.1, q.2.1, va_K.moved (u := U) (U := U.calling g mk a) (Vm.Alike.refl U.vm) q.2.2⟩, va_recv hK hP (ci := 4) (q0 := 1) rfl rfl, fun U hU hW => ⟨rfl, hU, va_K.moved hW.alike hKc⟩⟩ rfl rfl hl.1 rfl (lv_room (Nat.le_of_ble_eq_true rfl)) d_BB_count_172 ⟨Nat.le_of_ble_eq_true rfl, Nat.le_of_ble_eq_true rfl⟩) hS (fun q _ h => h.elim) (fun q h => h.elim) (fun r172 u9 t9 H1 locs ht hvm hw hB hz1 hk1 hS => ?_)
      obtain rfl : s.heap = H1 := hB.symm.trans ht
      have hw : r172 = nI (t_shc T) := hw
      subst hw
      refine lv_i2l (v := (nI (t_shc T) : Int32).toInt64) hx hb d_BB_count_175 rfl ?_
      refine vx_ret ?_
      refine W.widen (k := 1) (n := 6) (by decide) (by decide) ?_
      exact W.lret (v := ((nI (t_shc T) : Int32).toInt64)) hx hb hr (fun t ht hW => ⟨⟨_, (), rfl, ⟨9, by omega, rfl, by rw [nI_l (by omega)]; rfl⟩, ht⟩, hS.F ht⟩) hS.2.2 d_BB_count_176
    | 10, _ =>
      refine lv_tableIn (off := 176) (tgt := 177) hx hb d_BB_count_1 (by decide) (by decide) rfl (by decide) ?_
      refine lv_aload_n hx hb d_BB_count_177 rfl (lv_at hl 0 rfl) ?_
      refine va_get (D := (dC, dI)) (ci := 7) (v := .ref t0) (C := "BallotBoard") (T := F_BB) (N := 6) hx hb hts (fun w9 h9 => List.mem_cons_of_mem _ (i_BB w9 h9)) hown hK hP 0 rfl rfl 2 (by decide) (hts _ (List.mem_cons_of_mem _ gk_158)) (fun _ h9 => h9) rfl d_BB_count_178 ?_
      have hPc := hP.sub (ws' := (tl_ws t0 ka aa ba sa .null cJ (t_ko T) (t_ao T) (t_bo T) (t_so T) (t_tn T) (t_kc T) (t_bc T) (t_shc T) (t_kp T) (t_shp T) (t_pa T) (t_pb T) (t_sht T))) [1, 2, 3, 4, 5] rfl
      have hKc := hK.sub (tys' := [(cJ, .long), (cI, .int)]) [0, 1] rfl
      refine va_calli (va_runV (As := []) (rest := []) ⟨hx, hb, hml, hown, hts⟩ (c_Ta_isShut l s.heap dC dI cJ cI t0 ka aa ba sa .null (t_ko T) (t_ao T) (t_bo T) (t_so T) (t_tn T) (t_kc T) (t_bc T) (t_shc T) (t_kp T) (t_shp T) (t_pa T) (t_pb T) (t_sht T)  hPc hst) (cwV 0 hts (gw_V gk_403 gk_404 gk_405 gk_5 gk_406) rfl rfl rfl (by decide +kernel) ⟨Nat.le_of_ble_eq_true rfl, Nat.le_of_ble_eq_true rfl⟩) ⟨fun a U g mk q => ⟨q.1, q.2.1, va_K.moved (u := U) (U := U.calling g mk a) (Vm.Alike.refl U.vm) q.2.2⟩, va_recv hK hP (ci := 4) (q0 := 1) rfl rfl, fun U hU hW => ⟨rfl, hU, va_K.moved hW.alike hKc⟩⟩ rfl rfl hl.1 rfl (lv_room (Nat.le_of_ble_eq_true rfl)) d_BB_count_181 ⟨Nat.le_of_ble_eq_true rfl, Nat.le_of_ble_eq_true rfl⟩) hS (fun q _ h => h.elim) (fun q h => h.elim) (fun r181 u9 t9 H1 locs ht hvm hw hB hz1 hk1 hS => ?_)
      obtain rfl : s.heap = H1 := hB.symm.trans ht
      have h181 := hw
      refine lv_if_eq (tgt := 191) hx hb d_BB_count_184 (by decide) (fun c_1 => ?_) (fun c_1 => ?_)
      · -- taken
        have b181 := bz_f h181 c_1
        refine lv_lconst (v := 0) hx hb d_BB_count_191 (by decide) ?_
        refine vx_ret ?_
        refine W.widen (k := 1) (n := 6) (by decide) (by decide) ?_
        exact W.lret (v := 0) hx hb hr (fun t ht hW => ⟨⟨_, (), rfl, ⟨10, by omega, rfl, (if_neg b181).symm⟩, ht⟩, hS.F ht⟩) hS.2.2 d_BB_count_192
      · -- not taken
        have b181 := bz_t h181 c_1
        refine lv_lconst (v := 1) hx hb d_BB_count_187 (by decide) ?_
        refine lv_goto (tgt := 192) hx hb d_BB_count_188 (by decide) ?_
        refine vx_ret ?_
        refine W.widen (k := 1) (n := 6) (by decide) (by decide) ?_
        exact W.lret (v := 1) hx hb hr (fun t ht hW => ⟨⟨_, (), rfl, ⟨10, by omega, rfl, (if_pos b181).symm⟩, ht⟩, hS.F ht⟩) hS.2.2 d_BB_count_192
    | i + 11, hi => exact absurd hi (by omega)
  · refine lv_tableOut (tgt := 193) hx hb d_BB_count_1 (sw_out (n := 10) (by omega) hno) (by decide) ?_
    exact thr hx hb hnt 204 "there is no such count" hts hown (by decide) gk_279 gk_13 xa_A1 xa_A2 xa_A3 hZx (by decide) hS (hl.1.trans hml.symm) d_BB_count_193 d_BB_count_196 d_BB_count_197 d_BB_count_199 d_BB_count_202 htab (Nat.le_of_ble_eq_true rfl) (Nat.le_of_ble_eq_true rfl) (Nat.le_of_ble_eq_true rfl) (Nat.le_of_ble_eq_true rfl) hlocks (fun t9 hal9 hsz9 hkp9 => ⟨(), trivial, ⟨rfl, hno⟩, hS.Fx hsz9 hkp9⟩) (fun z hz => hS.2.2 z hz) (Nat.le_of_ble_eq_true rfl) (Nat.le_of_ble_eq_true rfl)
