abbrev b_Bm_close : ByteArray := prog_10_method_38_code
abbrev y_Bm_close : MethodName := ⟨"BallotBoardModel", "close", "()I"⟩
abbrev w_Bm_close : List Cond := .code y_Bm_close b_Bm_close 2 (some .int) :: gw
theorem d_Bm_close_0 : decode b_Bm_close 0 = .ok (.aload_n 0, 1) := by decide +kernel
theorem d_Bm_close_1 : decode b_Bm_close 1 = .ok (.iconst 0, 1) := by decide +kernel
theorem d_Bm_close_2 : decode b_Bm_close 2 = .ok (.putfield 131, 3) := by decide +kernel
theorem d_Bm_close_5 : decode b_Bm_close 5 = .ok (.aload_n 0, 1) := by decide +kernel
theorem d_Bm_close_6 : decode b_Bm_close 6 = .ok (.aload_n 0, 1) := by decide +kernel
theorem d_Bm_close_7 : decode b_Bm_close 7 = .ok (.getfield 211, 3) := by decide +kernel
theorem d_Bm_close_10 : decode b_Bm_close 10 = .ok (.ifCond .eq 17, 3) := by decide +kernel
theorem d_Bm_close_13 : decode b_Bm_close 13 = .ok (.aload_n 0, 1) := by decide +kernel
theorem d_Bm_close_14 : decode b_Bm_close 14 = .ok (.getfield 220, 3) := by decide +kernel
theorem d_Bm_close_17 : decode b_Bm_close 17 = .ok (.ifCond .ne 10, 3) := by decide +kernel
theorem d_Bm_close_20 : decode b_Bm_close 20 = .ok (.aload_n 0, 1) := by decide +kernel
theorem d_Bm_close_21 : decode b_Bm_close 21 = .ok (.invokevirtual 266, 3) := by decide +kernel
theorem d_Bm_close_24 : decode b_Bm_close 24 = .ok (.ifCond .ne 7, 3) := by decide +kernel
theorem d_Bm_close_27 : decode b_Bm_close 27 = .ok (.iconst 1, 1) := by decide +kernel
theorem d_Bm_close_28 : decode b_Bm_close 28 = .ok (.goto 4, 3) := by decide +kernel
theorem d_Bm_close_31 : decode b_Bm_close 31 = .ok (.iconst 0, 1) := by decide +kernel
theorem d_Bm_close_32 : decode b_Bm_close 32 = .ok (.iconst 1, 1) := by decide +kernel
theorem d_Bm_close_33 : decode b_Bm_close 33 = .ok (.invokevirtual 207, 3) := by decide +kernel
theorem d_Bm_close_36 : decode b_Bm_close 36 = .ok (.ifCond .eq 5, 3) := by decide +kernel
theorem d_Bm_close_39 : decode b_Bm_close 39 = .ok (.iconst 0, 1) := by decide +kernel
theorem d_Bm_close_40 : decode b_Bm_close 40 = .ok (.ireturn, 1) := by decide +kernel
theorem d_Bm_close_41 : decode b_Bm_close 41 = .ok (.aload_n 0, 1) := by decide +kernel
theorem d_Bm_close_42 : decode b_Bm_close 42 = .ok (.iconst 1, 1) := by decide +kernel
theorem d_Bm_close_43 : decode b_Bm_close 43 = .ok (.putfield 220, 3) := by decide +kernel
theorem d_Bm_close_46 : decode b_Bm_close 46 = .ok (.aload_n 0, 1) := by decide +kernel
theorem d_Bm_close_47 : decode b_Bm_close 47 = .ok (.lconst 1, 1) := by decide +kernel
theorem d_Bm_close_48 : decode b_Bm_close 48 = .ok (.putfield 227, 3) := by decide +kernel
theorem d_Bm_close_51 : decode b_Bm_close 51 = .ok (.aload_n 0, 1) := by decide +kernel
theorem d_Bm_close_52 : decode b_Bm_close 52 = .ok (.lconst 1, 1) := by decide +kernel
theorem d_Bm_close_53 : decode b_Bm_close 53 = .ok (.putfield 230, 3) := by decide +kernel
theorem d_Bm_close_56 : decode b_Bm_close 56 = .ok (.iconst 0, 1) := by decide +kernel
theorem d_Bm_close_57 : decode b_Bm_close 57 = .ok (.istore_n 1, 1) := by decide +kernel
theorem d_Bm_close_58 : decode b_Bm_close 58 = .ok (.iload_n 1, 1) := by decide +kernel
theorem d_Bm_close_59 : decode b_Bm_close 59 = .ok (.bipush 64, 2) := by decide +kernel
theorem d_Bm_close_61 : decode b_Bm_close 61 = .ok (.if_icmp .ge 63, 3) := by decide +kernel
theorem d_Bm_close_64 : decode b_Bm_close 64 = .ok (.aload_n 0, 1) := by decide +kernel
theorem d_Bm_close_65 : decode b_Bm_close 65 = .ok (.getfield 29, 3) := by decide +kernel
theorem d_Bm_close_68 : decode b_Bm_close 68 = .ok (.iload_n 1, 1) := by decide +kernel
theorem d_Bm_close_69 : decode b_Bm_close 69 = .ok (.iaload, 1) := by decide +kernel
theorem d_Bm_close_70 : decode b_Bm_close 70 = .ok (.ifCond .ge 6, 3) := by decide +kernel
theorem d_Bm_close_73 : decode b_Bm_close 73 = .ok (.goto 45, 3) := by decide +kernel
theorem d_Bm_close_76 : decode b_Bm_close 76 = .ok (.aload_n 0, 1) := by decide +kernel
theorem d_Bm_close_77 : decode b_Bm_close 77 = .ok (.aload_n 0, 1) := by decide +kernel
theorem d_Bm_close_78 : decode b_Bm_close 78 = .ok (.aload_n 0, 1) := by decide +kernel
theorem d_Bm_close_79 : decode b_Bm_close 79 = .ok (.getfield 227, 3) := by decide +kernel
theorem d_Bm_close_82 : decode b_Bm_close 82 = .ok (.aload_n 0, 1) := by decide +kernel
theorem d_Bm_close_83 : decode b_Bm_close 83 = .ok (.getfield 122, 3) := by decide +kernel
theorem d_Bm_close_86 : decode b_Bm_close 86 = .ok (.iconst 2, 1) := by decide +kernel
theorem d_Bm_close_87 : decode b_Bm_close 87 = .ok (.iload_n 1, 1) := by decide +kernel
theorem d_Bm_close_88 : decode b_Bm_close 88 = .ok (.imul, 1) := by decide +kernel
theorem d_Bm_close_89 : decode b_Bm_close 89 = .ok (.laload, 1) := by decide +kernel
theorem d_Bm_close_90 : decode b_Bm_close 90 = .ok (.invokevirtual 177, 3) := by decide +kernel
theorem d_Bm_close_93 : decode b_Bm_close 93 = .ok (.putfield 227, 3) := by decide +kernel
theorem d_Bm_close_96 : decode b_Bm_close 96 = .ok (.aload_n 0, 1) := by decide +kernel
theorem d_Bm_close_97 : decode b_Bm_close 97 = .ok (.aload_n 0, 1) := by decide +kernel
theorem d_Bm_close_98 : decode b_Bm_close 98 = .ok (.aload_n 0, 1) := by decide +kernel
theorem d_Bm_close_99 : decode b_Bm_close 99 = .ok (.getfield 230, 3) := by decide +kernel
theorem d_Bm_close_102 : decode b_Bm_close 102 = .ok (.aload_n 0, 1) := by decide +kernel
theorem d_Bm_close_103 : decode b_Bm_close 103 = .ok (.getfield 122, 3) := by decide +kernel
theorem d_Bm_close_106 : decode b_Bm_close 106 = .ok (.iconst 2, 1) := by decide +kernel
theorem d_Bm_close_107 : decode b_Bm_close 107 = .ok (.iload_n 1, 1) := by decide +kernel
theorem d_Bm_close_108 : decode b_Bm_close 108 = .ok (.imul, 1) := by decide +kernel
theorem d_Bm_close_109 : decode b_Bm_close 109 = .ok (.iconst 1, 1) := by decide +kernel
theorem d_Bm_close_110 : decode b_Bm_close 110 = .ok (.iadd, 1) := by decide +kernel
theorem d_Bm_close_111 : decode b_Bm_close 111 = .ok (.laload, 1) := by decide +kernel
theorem d_Bm_close_112 : decode b_Bm_close 112 = .ok (.invokevirtual 177, 3) := by decide +kernel
theorem d_Bm_close_115 : decode b_Bm_close 115 = .ok (.putfield 230, 3) := by decide +kernel
theorem d_Bm_close_118 : decode b_Bm_close 118 = .ok (.iinc 1 1, 3) := by decide +kernel
theorem d_Bm_close_121 : decode b_Bm_close 121 = .ok (.goto (-63), 3) := by decide +kernel
theorem d_Bm_close_124 : decode b_Bm_close 124 = .ok (.aload_n 0, 1) := by decide +kernel
theorem d_Bm_close_125 : decode b_Bm_close 125 = .ok (.getfield 217, 3) := by decide +kernel
theorem d_Bm_close_128 : decode b_Bm_close 128 = .ok (.ireturn, 1) := by decide +kernel
set_option maxHeartbeats 8000000 in
set_option maxRecDepth 100000 in
theorem c_Bm_close_1 (l : Launch) (dC : Nat → ClassId) (dI : Nat → Nat → Nat) (cJ cI : ClassId) (sz : Nat) (m0 : Nat) (e0 : Int32) (N n bc P Q G al pa pb : Nat) (cl : Int32) (a0 a1 a2 a3 a4 a5 a6 a7 a8 a9 b0 b1 oc b2 b3 b4 b5 : Nat) (kf vf : Nat → Int32) (md : Nat → Int64) (ko ao bo : Nat → Nat) (ky bv : Nat → Int64) (hN : N ≤ 4) (hgr : 0 < N → gfx P Q G) (hn : n ≤ 154) (hcl : cl = 0 ∨ cl = 1) (hrk : rK 4 n ko kf ky) (hrb : rK 64 n ao vf bv) (hC1 : vC1 N cl ko) : Met l y_Bm_close w_Bm_close ({ frames := 3, cells := 0, slots := 0, locals := 82 }) (va_Pc [.ref m0] (fun U => U.heap.size = sz ∧ va_P (dC, dI) classes (mo_ws m0 e0 (nI N) (nI n) (nI bc) (lN P) (lN Q) (lN G) (lN al) (lN pa) (lN pb) cl a0 a1 a2 a3 a4 a5 a6 a7 a8 a9 b0 b1 oc b2 b3 b4 b5 ++ (iw_ws a4 cI 4 kf ++ (iw_ws a6 cI 64 vf ++ (jw_ws b3 cJ 128 md)))) U.heap ∧ va_K (dC, dI) classes [(cJ, .long), (cI, .int)] U ∧ va_D (fun _ => True) (mo_ws m0 e0 (nI N) (nI n) (nI bc) (lN P) (lN Q) (lN G) (lN al) (lN pa) (lN pb) cl a0 a1 a2 a3 a4 a5 a6 a7 a8 a9 b0 b1 oc b2 b3 b4 b5 ++ (iw_ws a4 cI 4 kf ++ (iw_ws a6 cI 64 vf ++ (jw_ws b3 cJ 128 md)))))) (va_Qi (fun (r : Int32) (_ : Unit) => True) (fun _ t => va_P (dC, dI) classes (mo_ws m0 1 (nI N) (nI n) (nI bc) (lN P) (lN Q) (lN G) (lN al) (lN pa) (lN pb) cl a0 a1 a2 a3 a4 a5 a6 a7 a8 a9 b0 b1 oc b2 b3 b4 b5 ++ (iw_ws a4 cI 4 kf ++ (iw_ws a6 cI 64 vf ++ (jw_ws b3 cJ 128 md)))) t.heap ∧ va_K (dC, dI) classes [(cJ, .long), (cI, .int)] t ∧ va_D (va_A (mo_ws m0 e0 (nI N) (nI n) (nI bc) (lN P) (lN Q) (lN G) (lN al) (lN pa) (lN pb) cl a0 a1 a2 a3 a4 a5 a6 a7 a8 a9 b0 b1 oc b2 b3 b4 b5 ++ (iw_ws a4 cI 4 kf ++ (iw_ws a6 cI 64 vf ++ (jw_ws b3 cJ 128 md)))) sz) (mo_ws m0 1 (nI N) (nI n) (nI bc) (lN P) (lN Q) (lN G) (lN al) (lN pa) (lN pb) cl a0 a1 a2 a3 a4 a5 a6 a7 a8 a9 b0 b1 oc b2 b3 b4 b5 ++ (iw_ws a4 cI 4 kf ++ (iw_ws a6 cI 64 vf ++ (jw_ws b3 cJ 128 md))))) (va_A (mo_ws m0 e0 (nI N) (nI n) (nI bc) (lN P) (lN Q) (lN G) (lN al) (lN pa) (lN pb) cl a0 a1 a2 a3 a4 a5 a6 a7 a8 a9 b0 b1 oc b2 b3 b4 b5 ++ (iw_ws a4 cI 4 kf ++ (iw_ws a6 cI 64 vf ++ (jw_ws b3 cJ 128 md)))) sz)) 0 0 (va_A (mo_ws m0 e0 (nI N) (nI n) (nI bc) (lN P) (lN Q) (lN G) (lN al) (lN pa) (lN pb) cl a0 a1 a2 a3 a4 a5 a6 a7 a8 a9 b0 b1 oc b2 b3 b4 b5 ++ (iw_ws a4 cI 4 kf ++ (iw_ws a6 cI 64 vf ++ (jw_ws b3 cJ 128 md)))) sz) := by
  refine Met.ofW (cc := b_Bm_close) (maxL := 2) (ret := (some .int)) (by decide) rfl ?_
  intro p e s m args below meth c s₁ Bd hml hv
  obtain ⟨rfl, hsz, hP, hK, hD0⟩ := hv
  have hx := Bd.exec
  have hb := Bd.bytes
  have hr := Bd.returns
  have hts := atoms_spec (ws := w_Bm_close) Bd.pre
  have hown : s.vm.findClass "BallotBoardModel" = some m.cls := findClass_of_methodNamed Bd.named
  have hlocks := Bd.notSynchronized
  subst hsz
  have hD := hD0.self (sz := s.heap.size)
  generalize hAe : va_A (mo_ws m0 e0 (nI N) (nI n) (nI bc) (lN P) (lN Q) (lN G) (lN al) (lN pa) (lN pb) cl a0 a1 a2 a3 a4 a5 a6 a7 a8 a9 b0 b1 oc b2 b3 b4 b5 ++ (iw_ws a4 cI 4 kf ++ (iw_ws a6 cI 64 vf ++ (jw_ws b3 cJ 128 md)))) s.heap.size = A at hD ⊢
  have hA : ∀ q : Nat, s.heap.size ≤ q → A q := fun q h => by rw [← hAe]; exact Or.inr h
  have hS : va_S A s.heap s.heap [] := va_S.rf
  have hl := lv_entry ([.ref m0]) (n := 2) (Nat.le_of_ble_eq_true rfl)
  rw [lg_entry_eq]
  generalize (lg_sl ([.ref m0]) ++ List.replicate (2 - (lg_sl ([.ref m0])).length) Slot.unset).toArray = ls at hl ⊢
  have hl : lv_has ls 2 [(0, .ref m0)] := hl
  refine lv_aload_n hx hb d_Bm_close_0 rfl (lv_at hl 0 rfl) ?_
  refine lv_iconst (v := 0) hx hb d_Bm_close_1 (by decide) ?_
  refine va_put (D := (dC, dI)) (ci := 8) (v := .int 0) (ty := .int) (C := "BallotBoardModel") (T := F_Bm) (N := 28) hx hb hts (fun w9 h9 => List.mem_cons_of_mem _ (i_Bm w9 h9)) t_Bm t_Bm_ok n_Bm hown hK hP hD hS 0 rfl rfl 0 (by decide) (hts _ (List.mem_cons_of_mem _ gk_919)) (fun _ h9 => h9) rfl (by decide +kernel) rfl rfl (Nat.le_of_ble_eq_true rfl) d_Bm_close_2 (fun H locs hP hD hS => ?_)
  have hP : va_P (dC, dI) classes [(m0, .inr (8, [.int 0, .int (nI N), .int (nI n), .int (nI bc), .long (lN P), .long (lN Q), .long (lN G), .long (lN al), .long (lN pa), .long (lN pb), .int cl, .ref a0, .ref a1, .ref a2, .ref a3, .ref a4, .ref a5, .ref a6, .ref a7, .ref a8, .ref a9, .ref b0, .ref b1, .int (nI oc), .ref b2, .ref b3, .ref b4, .ref b5])), (a4, .inl (cI, 4, .inl kf)), (a6, .inl (cI, 64, .inl vf)), (b3, .inl (cJ, 128, .inr (.inl md)))] H := hP
  have hD : va_D A [(m0, .inr (8, [.int 0, .int (nI N), .int (nI n), .int (nI bc), .long (lN P), .long (lN Q), .long (lN G), .long (lN al), .long (lN pa), .long (lN pb), .int cl, .ref a0, .ref a1, .ref a2, .ref a3, .ref a4, .ref a5, .ref a6, .ref a7, .ref a8, .ref a9, .ref b0, .ref b1, .int (nI oc), .ref b2, .ref b3, .ref b4, .ref b5])), (a4, .inl (cI, 4, .inl kf)), (a6, .inl (cI, 64, .inl vf)), (b3, .inl (cJ, 128, .inr (.inl md)))] := hD
  refine lv_aload_n hx hb d_Bm_close_5 rfl (lv_at hl 0 rfl) ?_
  refine lv_aload_n hx hb d_Bm_close_6 rfl (lv_at hl 0 rfl) ?_
  refine va_get (D := (dC, dI)) (ci := 8) (v := .int (nI N)) (C := "BallotBoardModel") (T := F_Bm) (N := 28) hx hb hts (fun w9 h9 => List.mem_cons_of_mem _ (i_Bm w9 h9)) hown hK hP 0 rfl rfl 1 (by decide) (hts _ (List.mem_cons_of_mem _ gk_920)) (fun _ h9 => h9) rfl d_Bm_close_7 ?_
  refine lv_if_eq (tgt := 27) hx hb d_Bm_close_10 (by decide) (fun c_1 => ?_) (fun c_1 => ?_)
  · -- taken
    have hN0 : N = 0 := nI_inj (b := 0) (by omega) (by omega) c_1
    refine lv_iconst (v := 1) hx hb d_Bm_close_27 (by decide) ?_
    refine lv_goto (tgt := 32) hx hb d_Bm_close_28 (by decide) ?_
    refine lv_iconst (v := 1) hx hb d_Bm_close_32 (by decide) ?_
    have hPc := hP.sub (ws' := (mo_ws m0 0 (nI N) (nI n) (nI bc) (lN P) (lN Q) (lN G) (lN al) (lN pa) (lN pb) cl a0 a1 a2 a3 a4 a5 a6 a7 a8 a9 b0 b1 oc b2 b3 b4 b5)) [0] rfl
    have hDc := hD.sub (ws' := (mo_ws m0 0 (nI N) (nI n) (nI bc) (lN P) (lN Q) (lN G) (lN al) (lN pa) (lN pb) cl a0 a1 a2 a3 a4 a5 a6 a7 a8 a9 b0 b1 oc b2 b3 b4 b5)) [0] (by decide) rfl
    have hKc := hK.sub (tys' := [(cJ, .long), (cI, .int)]) [0, 1] rfl
    have hFc := va_free (wc := (mo_ws m0 0 (nI N) (nI n) (nI bc) (lN P) (lN Q) (lN G) (lN al) (lN pa) (lN pb) cl a0 a1 a2 a3 a4 a5 a6 a7 a8 a9 b0 b1 oc b2 b3 b4 b5)) hD hS hA [0] rfl
    refine va_calli (va_runV (As := [.int 1, .int 1]) (rest := []) ⟨hx, hb, hml, hown, hts⟩ (c_Bm_fails_1 l dC dI cJ cI H.size m0 (nI N) (nI n) (nI bc) (lN P) (lN Q) (lN G) (lN al) (lN pa) (lN pb) cl a0 a1 a2 a3 a4 a5 a6 a7 a8 a9 b0 b1 oc b2 b3 b4 b5 1 (by decide)) (cwV 2 hts (gw_V gk_1030 gk_1032 gp_27 gk_7 gk_1033) rfl rfl rfl (by decide +kernel) ⟨Nat.le_of_ble_eq_true rfl, Nat.le_of_ble_eq_true rfl⟩) ⟨fun a U g mk q => by obtain ⟨q0, q1, qP, qK, qD⟩ := q; exact ⟨q0, q1, qP, va_K.moved (u := U) (U := U.calling g mk a) (Vm.Alike.refl U.vm) qK, qD⟩, va_recv hK hP (ci := 8) (q0 := 0) rfl rfl, fun U hU hW => ⟨rfl, by rw [hU], by rw [hU]; exact hPc, va_K.moved hW.alike hKc, hDc.weaken (fun _ _ _ _ => trivial)⟩⟩ rfl rfl hl.1 rfl (lv_room (Nat.le_of_ble_eq_true rfl)) d_Bm_close_33 ⟨Nat.le_of_ble_eq_true rfl, Nat.le_of_ble_eq_true rfl⟩) hS (fun q _ h => hFc q h) hFc (fun r_2 u9 t9 H1 locs ht hvm hw hB hz1 hk1 hS => ?_)
    have hw : r_2 = 1 := hw
    subst hw
    obtain ⟨hP1, hK1, hD1⟩ := hB
    rw [ht] at hP1
    obtain ⟨hP, hD⟩ := va_join (wr := [(a4, .inl (cI, 4, .inl kf)), (a6, .inl (cI, 64, .inl vf)), (b3, .inl (cJ, 128, .inr (.inl md)))]) (w1 := [(m0, .inr (8, [.int 1, .int (nI N), .int (nI n), .int (nI bc), .long (lN P), .long (lN Q), .long (lN G), .long (lN al), .long (lN pa), .long (lN pb), .int cl, .ref a0, .ref a1, .ref a2, .ref a3, .ref a4, .ref a5, .ref a6, .ref a7, .ref a8, .ref a9, .ref b0, .ref b1, .int (nI oc), .ref b2, .ref b3, .ref b4, .ref b5]))]) hP hD [0] [1, 2, 3] rfl rfl (by decide) (by decide) hk1 hFc hP1 hD1
    have hP := hP.sub (ws' := [(m0, .inr (8, [.int 1, .int (nI N), .int (nI n), .int (nI bc), .long (lN P), .long (lN Q), .long (lN G), .long (lN al), .long (lN pa), .long (lN pb), .int cl, .ref a0, .ref a1, .ref a2, .ref a3, .ref a4, .ref a5, .ref a6, .ref a7, .ref a8, .ref a9, .ref b0, .ref b1, .int (nI oc), .ref b2, .ref b3, .ref b4, .ref b5])), (a4, .inl (cI, 4, .inl kf)), (a6, .inl (cI, 64, .inl vf)), (b3, .inl (cJ, 128, .inr (.inl md)))]) [3, 0, 1, 2] rfl
    have hD := hD.sub (ws' := [(m0, .inr (8, [.int 1, .int (nI N), .int (nI n), .int (nI bc), .long (lN P), .long (lN Q), .long (lN G), .long (lN al), .long (lN pa), .long (lN pb), .int cl, .ref a0, .ref a1, .ref a2, .ref a3, .ref a4, .ref a5, .ref a6, .ref a7, .ref a8, .ref a9, .ref b0, .ref b1, .int (nI oc), .ref b2, .ref b3, .ref b4, .ref b5])), (a4, .inl (cI, 4, .inl kf)), (a6, .inl (cI, 64, .inl vf)), (b3, .inl (cJ, 128, .inr (.inl md)))]) [3, 0, 1, 2] (by decide) rfl
    generalize H1 = H at hP hS ⊢
    refine lv_if_eq (tgt := 41) hx hb d_Bm_close_36 (by decide) (fun c_3 => ?_) (fun c_3 => ?_)
    · -- taken
      exact absurd c_3 (by decide)
    · -- not taken
      refine lv_iconst (v := 0) hx hb d_Bm_close_39 (by decide) ?_
      exact W.iret (v := 0) hx hb hr (fun t ht9 hW => ⟨⟨_, (), rfl, trivial, by rw [ht9]; exact hP, va_K.moved hW.alike hK, hD⟩, hS.F ht9⟩) hS.2.2 d_Bm_close_40
  · -- not taken
    have hN9 : ¬ N = 0 := fun h => c_1 (by rw [h]; rfl)
    refine lv_aload_n hx hb d_Bm_close_13 rfl (lv_at hl 0 rfl) ?_
    refine va_get (D := (dC, dI)) (ci := 8) (v := .int cl) (C := "BallotBoardModel") (T := F_Bm) (N := 28) hx hb hts (fun w9 h9 => List.mem_cons_of_mem _ (i_Bm w9 h9)) hown hK hP 0 rfl rfl 10 (by decide) (hts _ (List.mem_cons_of_mem _ gk_929)) (fun _ h9 => h9) rfl d_Bm_close_14 ?_
    refine lv_if_ne (tgt := 27) hx hb d_Bm_close_17 (by decide) (fun c_4 => ?_) (fun c_4 => ?_)
    · -- taken
      have hcl1 := c_4
      refine lv_iconst (v := 1) hx hb d_Bm_close_27 (by decide) ?_
      refine lv_goto (tgt := 32) hx hb d_Bm_close_28 (by decide) ?_
      refine lv_iconst (v := 1) hx hb d_Bm_close_32 (by decide) ?_
      have hPc := hP.sub (ws' := (mo_ws m0 0 (nI N) (nI n) (nI bc) (lN P) (lN Q) (lN G) (lN al) (lN pa) (lN pb) cl a0 a1 a2 a3 a4 a5 a6 a7 a8 a9 b0 b1 oc b2 b3 b4 b5)) [0] rfl
      have hDc := hD.sub (ws' := (mo_ws m0 0 (nI N) (nI n) (nI bc) (lN P) (lN Q) (lN G) (lN al) (lN pa) (lN pb) cl a0 a1 a2 a3 a4 a5 a6 a7 a8 a9 b0 b1 oc b2 b3 b4 b5)) [0] (by decide) rfl
      have hKc := hK.sub (tys' := [(cJ, .long), (cI, .int)]) [0, 1] rfl
      have hFc := va_free (wc := (mo_ws m0 0 (nI N) (nI n) (nI bc) (lN P) (lN Q) (lN G) (lN al) (lN pa) (lN pb) cl a0 a1 a2 a3 a4 a5 a6 a7 a8 a9 b0 b1 oc b2 b3 b4 b5)) hD hS hA [0] rfl
      refine va_calli (va_runV (As := [.int 1, .int 1]) (rest := []) ⟨hx, hb, hml, hown, hts⟩ (c_Bm_fails_1 l dC dI cJ cI H.size m0 (nI N) (nI n) (nI bc) (lN P) (lN Q) (lN G) (lN al) (lN pa) (lN pb) cl a0 a1 a2 a3 a4 a5 a6 a7 a8 a9 b0 b1 oc b2 b3 b4 b5 1 (by decide)) (cwV 2 hts (gw_V gk_1030 gk_1032 gp_27 gk_7 gk_1033) rfl rfl rfl (by decide +kernel) ⟨Nat.le_of_ble_eq_true rfl, Nat.le_of_ble_eq_true rfl⟩) ⟨fun a U g mk q => by obtain ⟨q0, q1, qP, qK, qD⟩ := q; exact ⟨q0, q1, qP, va_K.moved (u := U) (U := U.calling g mk a) (Vm.Alike.refl U.vm) qK, qD⟩, va_recv hK hP (ci := 8) (q0 := 0) rfl rfl, fun U hU hW => ⟨rfl, by rw [hU], by rw [hU]; exact hPc, va_K.moved hW.alike hKc, hDc.weaken (fun _ _ _ _ => trivial)⟩⟩ rfl rfl hl.1 rfl (lv_room (Nat.le_of_ble_eq_true rfl)) d_Bm_close_33 ⟨Nat.le_of_ble_eq_true rfl, Nat.le_of_ble_eq_true rfl⟩) hS (fun q _ h => hFc q h) hFc (fun r_5 u9 t9 H1 locs ht hvm hw hB hz1 hk1 hS => ?_)
      have hw : r_5 = 1 := hw
      subst hw
      obtain ⟨hP1, hK1, hD1⟩ := hB
      rw [ht] at hP1
      obtain ⟨hP, hD⟩ := va_join (wr := [(a4, .inl (cI, 4, .inl kf)), (a6, .inl (cI, 64, .inl vf)), (b3, .inl (cJ, 128, .inr (.inl md)))]) (w1 := [(m0, .inr (8, [.int 1, .int (nI N), .int (nI n), .int (nI bc), .long (lN P), .long (lN Q), .long (lN G), .long (lN al), .long (lN pa), .long (lN pb), .int cl, .ref a0, .ref a1, .ref a2, .ref a3, .ref a4, .ref a5, .ref a6, .ref a7, .ref a8, .ref a9, .ref b0, .ref b1, .int (nI oc), .ref b2, .ref b3, .ref b4, .ref b5]))]) hP hD [0] [1, 2, 3] rfl rfl (by decide) (by decide) hk1 hFc hP1 hD1
      have hP := hP.sub (ws' := [(m0, .inr (8, [.int 1, .int (nI N), .int (nI n), .int (nI bc), .long (lN P), .long (lN Q), .long (lN G), .long (lN al), .long (lN pa), .long (lN pb), .int cl, .ref a0, .ref a1, .ref a2, .ref a3, .ref a4, .ref a5, .ref a6, .ref a7, .ref a8, .ref a9, .ref b0, .ref b1, .int (nI oc), .ref b2, .ref b3, .ref b4, .ref b5])), (a4, .inl (cI, 4, .inl kf)), (a6, .inl (cI, 64, .inl vf)), (b3, .inl (cJ, 128, .inr (.inl md)))]) [3, 0, 1, 2] rfl
      have hD := hD.sub (ws' := [(m0, .inr (8, [.int 1, .int (nI N), .int (nI n), .int (nI bc), .long (lN P), .long (lN Q), .long (lN G), .long (lN al), .long (lN pa), .long (lN pb), .int cl, .ref a0, .ref a1, .ref a2, .ref a3, .ref a4, .ref a5, .ref a6, .ref a7, .ref a8, .ref a9, .ref b0, .ref b1, .int (nI oc), .ref b2, .ref b3, .ref b4, .ref b5])), (a4, .inl (cI, 4, .inl kf)), (a6, .inl (cI, 64, .inl vf)), (b3, .inl (cJ, 128, .inr (.inl md)))]) [3, 0, 1, 2] (by decide) rfl
      generalize H1 = H at hP hS ⊢
      refine lv_if_eq (tgt := 41) hx hb d_Bm_close_36 (by decide) (fun c_6 => ?_) (fun c_6 => ?_)
      · -- taken
        exact absurd c_6 (by decide)
      · -- not taken
        refine lv_iconst (v := 0) hx hb d_Bm_close_39 (by decide) ?_
        exact W.iret (v := 0) hx hb hr (fun t ht9 hW => ⟨⟨_, (), rfl, trivial, by rw [ht9]; exact hP, va_K.moved hW.alike hK, hD⟩, hS.F ht9⟩) hS.2.2 d_Bm_close_40
    · -- not taken
      have hcl9 : cl = 0 := c_4
      refine lv_aload_n hx hb d_Bm_close_20 rfl (lv_at hl 0 rfl) ?_
      have hPc := hP.sub (ws' := (mo_ws m0 0 (nI N) (nI n) (nI bc) (lN P) (lN Q) (lN G) (lN al) (lN pa) (lN pb) cl a0 a1 a2 a3 a4 a5 a6 a7 a8 a9 b0 b1 oc b2 b3 b4 b5 ++ (iw_ws a4 cI 4 kf))) [0, 1] rfl
      have hKc := hK.sub (tys' := [(cJ, .long), (cI, .int)]) [0, 1] rfl
      refine va_calli (va_runV (As := []) (rest := [.ref m0]) ⟨hx, hb, hml, hown, hts⟩ (c_Bm_allKeys l H dC dI cJ cI m0 0 (nI n) (nI bc) (lN P) (lN Q) (lN G) (lN al) (lN pa) (lN pb) cl a0 a1 a2 a3 a4 a5 a6 a7 a8 a9 b0 b1 oc b2 b3 b4 b5 N kf ko ky n hPc hN hn hrk) (cwV 0 hts (gw_V gk_1109 gk_1111 gp_43 gk_7 gk_1112) rfl rfl rfl (by decide +kernel) ⟨Nat.le_of_ble_eq_true rfl, Nat.le_of_ble_eq_true rfl⟩) ⟨fun a U g mk q => ⟨q.1, q.2.1, va_K.moved (u := U) (U := U.calling g mk a) (Vm.Alike.refl U.vm) q.2.2⟩, va_recv hK hP (ci := 8) (q0 := 0) rfl rfl, fun U hU hW => ⟨rfl, hU, va_K.moved hW.alike hKc⟩⟩ rfl rfl hl.1 rfl (lv_room (Nat.le_of_ble_eq_true rfl)) d_Bm_close_21 ⟨Nat.le_of_ble_eq_true rfl, Nat.le_of_ble_eq_true rfl⟩) hS (fun q _ h => h.elim) (fun q h => h.elim) (fun r21 u9 t9 H1 locs ht hvm hw hB hz1 hk1 hS => ?_)
      obtain rfl : H = H1 := hB.symm.trans ht
      have h21 := hw
      refine lv_if_ne (tgt := 31) hx hb d_Bm_close_24 (by decide) (fun c_7 => ?_) (fun c_7 => ?_)
      · -- taken
        exact absurd (bz_t h21 c_7) (fun h => hC1.elim hN9 (fun g => g.elim (fun k => by rw [hcl9] at k; exact absurd k (by decide)) (fun k => k h)))
      · -- not taken
        have hna := bz_f h21 c_7
        refine lv_iconst (v := 1) hx hb d_Bm_close_27 (by decide) ?_
        refine lv_goto (tgt := 32) hx hb d_Bm_close_28 (by decide) ?_
        refine lv_iconst (v := 1) hx hb d_Bm_close_32 (by decide) ?_
        have hPc := hP.sub (ws' := (mo_ws m0 0 (nI N) (nI n) (nI bc) (lN P) (lN Q) (lN G) (lN al) (lN pa) (lN pb) cl a0 a1 a2 a3 a4 a5 a6 a7 a8 a9 b0 b1 oc b2 b3 b4 b5)) [0] rfl
        have hDc := hD.sub (ws' := (mo_ws m0 0 (nI N) (nI n) (nI bc) (lN P) (lN Q) (lN G) (lN al) (lN pa) (lN pb) cl a0 a1 a2 a3 a4 a5 a6 a7 a8 a9 b0 b1 oc b2 b3 b4 b5)) [0] (by decide) rfl
        have hKc := hK.sub (tys' := [(cJ, .long), (cI, .int)]) [0, 1] rfl
        have hFc := va_free (wc := (mo_ws m0 0 (nI N) (nI n) (nI bc) (lN P) (lN Q) (lN G) (lN al) (lN pa) (lN pb) cl a0 a1 a2 a3 a4 a5 a6 a7 a8 a9 b0 b1 oc b2 b3 b4 b5)) hD hS hA [0] rfl
        refine va_calli (va_runV (As := [.int 1, .int 1]) (rest := []) ⟨hx, hb, hml, hown, hts⟩ (c_Bm_fails_1 l dC dI cJ cI H.size m0 (nI N) (nI n) (nI bc) (lN P) (lN Q) (lN G) (lN al) (lN pa) (lN pb) cl a0 a1 a2 a3 a4 a5 a6 a7 a8 a9 b0 b1 oc b2 b3 b4 b5 1 (by decide)) (cwV 2 hts (gw_V gk_1030 gk_1032 gp_27 gk_7 gk_1033) rfl rfl rfl (by decide +kernel) ⟨Nat.le_of_ble_eq_true rfl, Nat.le_of_ble_eq_true rfl⟩) ⟨fun a U g mk q => by obtain ⟨q0, q1, qP, qK, qD⟩ := q; exact ⟨q0, q1, qP, va_K.moved (u := U) (U := U.calling g mk a) (Vm.Alike.refl U.vm) qK, qD⟩, va_recv hK hP (ci := 8) (q0 := 0) rfl rfl, fun U hU hW => ⟨rfl, by rw [hU], by rw [hU]; exact hPc, va_K.moved hW.alike hKc, hDc.weaken (fun _ _ _ _ => trivial)⟩⟩ rfl rfl hl.1 rfl (lv_room (Nat.le_of_ble_eq_true rfl)) d_Bm_close_33 ⟨Nat.le_of_ble_eq_true rfl, Nat.le_of_ble_eq_true rfl⟩) hS (fun q _ h => hFc q h) hFc (fun r_8 u9 t9 H1 locs ht hvm hw hB hz1 hk1 hS => ?_)
        have hw : r_8 = 1 := hw
        subst hw
        obtain ⟨hP1, hK1, hD1⟩ := hB
        rw [ht] at hP1
        obtain ⟨hP, hD⟩ := va_join (wr := [(a4, .inl (cI, 4, .inl kf)), (a6, .inl (cI, 64, .inl vf)), (b3, .inl (cJ, 128, .inr (.inl md)))]) (w1 := [(m0, .inr (8, [.int 1, .int (nI N), .int (nI n), .int (nI bc), .long (lN P), .long (lN Q), .long (lN G), .long (lN al), .long (lN pa), .long (lN pb), .int cl, .ref a0, .ref a1, .ref a2, .ref a3, .ref a4, .ref a5, .ref a6, .ref a7, .ref a8, .ref a9, .ref b0, .ref b1, .int (nI oc), .ref b2, .ref b3, .ref b4, .ref b5]))]) hP hD [0] [1, 2, 3] rfl rfl (by decide) (by decide) hk1 hFc hP1 hD1
        have hP := hP.sub (ws' := [(m0, .inr (8, [.int 1, .int (nI N), .int (nI n), .int (nI bc), .long (lN P), .long (lN Q), .long (lN G), .long (lN al), .long (lN pa), .long (lN pb), .int cl, .ref a0, .ref a1, .ref a2, .ref a3, .ref a4, .ref a5, .ref a6, .ref a7, .ref a8, .ref a9, .ref b0, .ref b1, .int (nI oc), .ref b2, .ref b3, .ref b4, .ref b5])), (a4, .inl (cI, 4, .inl kf)), (a6, .inl (cI, 64, .inl vf)), (b3, .inl (cJ, 128, .inr (.inl md)))]) [3, 0, 1, 2] rfl
        have hD := hD.sub (ws' := [(m0, .inr (8, [.int 1, .int (nI N), .int (nI n), .int (nI bc), .long (lN P), .long (lN Q), .long (lN G), .long (lN al), .long (lN pa), .long (lN pb), .int cl, .ref a0, .ref a1, .ref a2, .ref a3, .ref a4, .ref a5, .ref a6, .ref a7, .ref a8, .ref a9, .ref b0, .ref b1, .int (nI oc), .ref b2, .ref b3, .ref b4, .ref b5])), (a4, .inl (cI, 4, .inl kf)), (a6, .inl (cI, 64, .inl vf)), (b3, .inl (cJ, 128, .inr (.inl md)))]) [3, 0, 1, 2] (by decide) rfl
        generalize H1 = H at hP hS ⊢
        refine lv_if_eq (tgt := 41) hx hb d_Bm_close_36 (by decide) (fun c_9 => ?_) (fun c_9 => ?_)
        · -- taken
          exact absurd c_9 (by decide)
        · -- not taken
          refine lv_iconst (v := 0) hx hb d_Bm_close_39 (by decide) ?_
          exact W.iret (v := 0) hx hb hr (fun t ht9 hW => ⟨⟨_, (), rfl, trivial, by rw [ht9]; exact hP, va_K.moved hW.alike hK, hD⟩, hS.F ht9⟩) hS.2.2 d_Bm_close_40
set_option maxHeartbeats 8000000 in
set_option maxRecDepth 100000 in
theorem c_Bm_close_0 (l : Launch) (dC : Nat → ClassId) (dI : Nat → Nat → Nat) (cJ cI : ClassId) (sz : Nat) (m0 : Nat) (e0 : Int32) (N n bc P Q G al pa pb : Nat) (cl : Int32) (a0 a1 a2 a3 a4 a5 a6 a7 a8 a9 b0 b1 oc b2 b3 b4 b5 : Nat) (kf vf : Nat → Int32) (md : Nat → Int64) (ko ao bo : Nat → Nat) (ky bv : Nat → Int64) (hN : N ≤ 4) (hgr : 0 < N → gfx P Q G) (hn : n ≤ 154) (hcl : cl = 0 ∨ cl = 1) (hrk : rK 4 n ko kf ky) (hrb : rK 64 n ao vf bv) (hmd : ∀ i, i < 64 → ao i ≠ 0 → md (2 * i) = lN (ao i) ∧ md (2 * i + 1) = lN (bo i)) (haP : ∀ j, ao j < P) (hbP : ∀ j, bo j < P) (hC1 : ¬ vC1 N cl ko) : Met l y_Bm_close w_Bm_close ({ frames := 3, cells := 0, slots := 0, locals := 82 }) (va_Pc [.ref m0] (fun U => U.heap.size = sz ∧ va_P (dC, dI) classes (mo_ws m0 e0 (nI N) (nI n) (nI bc) (lN P) (lN Q) (lN G) (lN al) (lN pa) (lN pb) cl a0 a1 a2 a3 a4 a5 a6 a7 a8 a9 b0 b1 oc b2 b3 b4 b5 ++ (iw_ws a4 cI 4 kf ++ (iw_ws a6 cI 64 vf ++ (jw_ws b3 cJ 128 md)))) U.heap ∧ va_K (dC, dI) classes [(cJ, .long), (cI, .int)] U ∧ va_D (fun _ => True) (mo_ws m0 e0 (nI N) (nI n) (nI bc) (lN P) (lN Q) (lN G) (lN al) (lN pa) (lN pb) cl a0 a1 a2 a3 a4 a5 a6 a7 a8 a9 b0 b1 oc b2 b3 b4 b5 ++ (iw_ws a4 cI 4 kf ++ (iw_ws a6 cI 64 vf ++ (jw_ws b3 cJ 128 md)))))) (va_Qi (fun (r : Int32) (_ : Unit) => r = nI bc) (fun _ t => va_P (dC, dI) classes (mo_ws m0 0 (nI N) (nI n) (nI bc) (lN P) (lN Q) (lN G) (lN al) (lN (prd P ao ao 64)) (lN (prd P ao bo 64)) 1 a0 a1 a2 a3 a4 a5 a6 a7 a8 a9 b0 b1 oc b2 b3 b4 b5 ++ (iw_ws a4 cI 4 kf ++ (iw_ws a6 cI 64 vf ++ (jw_ws b3 cJ 128 md)))) t.heap ∧ va_K (dC, dI) classes [(cJ, .long), (cI, .int)] t ∧ va_D (va_A (mo_ws m0 e0 (nI N) (nI n) (nI bc) (lN P) (lN Q) (lN G) (lN al) (lN pa) (lN pb) cl a0 a1 a2 a3 a4 a5 a6 a7 a8 a9 b0 b1 oc b2 b3 b4 b5 ++ (iw_ws a4 cI 4 kf ++ (iw_ws a6 cI 64 vf ++ (jw_ws b3 cJ 128 md)))) sz) (mo_ws m0 0 (nI N) (nI n) (nI bc) (lN P) (lN Q) (lN G) (lN al) (lN (prd P ao ao 64)) (lN (prd P ao bo 64)) 1 a0 a1 a2 a3 a4 a5 a6 a7 a8 a9 b0 b1 oc b2 b3 b4 b5 ++ (iw_ws a4 cI 4 kf ++ (iw_ws a6 cI 64 vf ++ (jw_ws b3 cJ 128 md))))) (va_A (mo_ws m0 e0 (nI N) (nI n) (nI bc) (lN P) (lN Q) (lN G) (lN al) (lN pa) (lN pb) cl a0 a1 a2 a3 a4 a5 a6 a7 a8 a9 b0 b1 oc b2 b3 b4 b5 ++ (iw_ws a4 cI 4 kf ++ (iw_ws a6 cI 64 vf ++ (jw_ws b3 cJ 128 md)))) sz)) 0 0 (va_A (mo_ws m0 e0 (nI N) (nI n) (nI bc) (lN P) (lN Q) (lN G) (lN al) (lN pa) (lN pb) cl a0 a1 a2 a3 a4 a5 a6 a7 a8 a9 b0 b1 oc b2 b3 b4 b5 ++ (iw_ws a4 cI 4 kf ++ (iw_ws a6 cI 64 vf ++ (jw_ws b3 cJ 128 md)))) sz) := by
  refine Met.ofW (cc := b_Bm_close) (maxL := 2) (ret := (some .int)) (by decide) rfl ?_
  intro p e s m args below meth c s₁ Bd hml hv
  obtain ⟨rfl, hsz, hP, hK, hD0⟩ := hv
  have hx := Bd.exec
  have hb := Bd.bytes
  have hr := Bd.returns
  have hts := atoms_spec (ws := w_Bm_close) Bd.pre
  have hown : s.vm.findClass "BallotBoardModel" = some m.cls := findClass_of_methodNamed Bd.named
  have hlocks := Bd.notSynchronized
  subst hsz
  have hD := hD0.self (sz := s.heap.size)
  generalize hAe : va_A (mo_ws m0 e0 (nI N) (nI n) (nI bc) (lN P) (lN Q) (lN G) (lN al) (lN pa) (lN pb) cl a0 a1 a2 a3 a4 a5 a6 a7 a8 a9 b0 b1 oc b2 b3 b4 b5 ++ (iw_ws a4 cI 4 kf ++ (iw_ws a6 cI 64 vf ++ (jw_ws b3 cJ 128 md)))) s.heap.size = A at hD ⊢
  have hA : ∀ q : Nat, s.heap.size ≤ q → A q := fun q h => by rw [← hAe]; exact Or.inr h
  have hS : va_S A s.heap s.heap [] := va_S.rf
  have hl := lv_entry ([.ref m0]) (n := 2) (Nat.le_of_ble_eq_true rfl)
  rw [lg_entry_eq]
  generalize (lg_sl ([.ref m0]) ++ List.replicate (2 - (lg_sl ([.ref m0])).length) Slot.unset).toArray = ls at hl ⊢
  have hl : lv_has ls 2 [(0, .ref m0)] := hl
  have hN0 : 0 < N := Nat.pos_of_ne_zero (fun h => hC1 (Or.inl h))
  obtain ⟨hPQ, h61F, hQ3, hG2, hGP, hGQ⟩ := hgr hN0
  refine lv_aload_n hx hb d_Bm_close_0 rfl (lv_at hl 0 rfl) ?_
  refine lv_iconst (v := 0) hx hb d_Bm_close_1 (by decide) ?_
  refine va_put (D := (dC, dI)) (ci := 8) (v := .int 0) (ty := .int) (C := "BallotBoardModel") (T := F_Bm) (N := 28) hx hb hts (fun w9 h9 => List.mem_cons_of_mem _ (i_Bm w9 h9)) t_Bm t_Bm_ok n_Bm hown hK hP hD hS 0 rfl rfl 0 (by decide) (hts _ (List.mem_cons_of_mem _ gk_919)) (fun _ h9 => h9) rfl (by decide +kernel) rfl rfl (Nat.le_of_ble_eq_true rfl) d_Bm_close_2 (fun H locs hP hD hS => ?_)
  have hP : va_P (dC, dI) classes [(m0, .inr (8, [.int 0, .int (nI N), .int (nI n), .int (nI bc), .long (lN P), .long (lN Q), .long (lN G), .long (lN al), .long (lN pa), .long (lN pb), .int cl, .ref a0, .ref a1, .ref a2, .ref a3, .ref a4, .ref a5, .ref a6, .ref a7, .ref a8, .ref a9, .ref b0, .ref b1, .int (nI oc), .ref b2, .ref b3, .ref b4, .ref b5])), (a4, .inl (cI, 4, .inl kf)), (a6, .inl (cI, 64, .inl vf)), (b3, .inl (cJ, 128, .inr (.inl md)))] H := hP
  have hD : va_D A [(m0, .inr (8, [.int 0, .int (nI N), .int (nI n), .int (nI bc), .long (lN P), .long (lN Q), .long (lN G), .long (lN al), .long (lN pa), .long (lN pb), .int cl, .ref a0, .ref a1, .ref a2, .ref a3, .ref a4, .ref a5, .ref a6, .ref a7, .ref a8, .ref a9, .ref b0, .ref b1, .int (nI oc), .ref b2, .ref b3, .ref b4, .ref b5])), (a4, .inl (cI, 4, .inl kf)), (a6, .inl (cI, 64, .inl vf)), (b3, .inl (cJ, 128, .inr (.inl md)))] := hD
  refine lv_aload_n hx hb d_Bm_close_5 rfl (lv_at hl 0 rfl) ?_
  refine lv_aload_n hx hb d_Bm_close_6 rfl (lv_at hl 0 rfl) ?_
  refine va_get (D := (dC, dI)) (ci := 8) (v := .int (nI N)) (C := "BallotBoardModel") (T := F_Bm) (N := 28) hx hb hts (fun w9 h9 => List.mem_cons_of_mem _ (i_Bm w9 h9)) hown hK hP 0 rfl rfl 1 (by decide) (hts _ (List.mem_cons_of_mem _ gk_920)) (fun _ h9 => h9) rfl d_Bm_close_7 ?_
  refine lv_if_eq (tgt := 27) hx hb d_Bm_close_10 (by decide) (fun c_1 => ?_) (fun c_1 => ?_)
  · -- taken
    exact absurd (Or.inl (nI_inj (b := 0) (by omega) (by omega) c_1)) hC1
  · -- not taken
    have hN9 : ¬ N = 0 := fun h => c_1 (by rw [h]; rfl)
    refine lv_aload_n hx hb d_Bm_close_13 rfl (lv_at hl 0 rfl) ?_
    refine va_get (D := (dC, dI)) (ci := 8) (v := .int cl) (C := "BallotBoardModel") (T := F_Bm) (N := 28) hx hb hts (fun w9 h9 => List.mem_cons_of_mem _ (i_Bm w9 h9)) hown hK hP 0 rfl rfl 10 (by decide) (hts _ (List.mem_cons_of_mem _ gk_929)) (fun _ h9 => h9) rfl d_Bm_close_14 ?_
    refine lv_if_ne (tgt := 27) hx hb d_Bm_close_17 (by decide) (fun c_2 => ?_) (fun c_2 => ?_)
    · -- taken
      exact absurd (Or.inr (Or.inl (hcl.resolve_left c_2))) hC1
    · -- not taken
      have hcl9 : cl = 0 := c_2
      refine lv_aload_n hx hb d_Bm_close_20 rfl (lv_at hl 0 rfl) ?_
      have hPc := hP.sub (ws' := (mo_ws m0 0 (nI N) (nI n) (nI bc) (lN P) (lN Q) (lN G) (lN al) (lN pa) (lN pb) cl a0 a1 a2 a3 a4 a5 a6 a7 a8 a9 b0 b1 oc b2 b3 b4 b5 ++ (iw_ws a4 cI 4 kf))) [0, 1] rfl
      have hKc := hK.sub (tys' := [(cJ, .long), (cI, .int)]) [0, 1] rfl
      refine va_calli (va_runV (As := []) (rest := [.ref m0]) ⟨hx, hb, hml, hown, hts⟩ (c_Bm_allKeys l H dC dI cJ cI m0 0 (nI n) (nI bc) (lN P) (lN Q) (lN G) (lN al) (lN pa) (lN pb) cl a0 a1 a2 a3 a4 a5 a6 a7 a8 a9 b0 b1 oc b2 b3 b4 b5 N kf ko ky n hPc hN hn hrk) (cwV 0 hts (gw_V gk_1109 gk_1111 gp_43 gk_7 gk_1112) rfl rfl rfl (by decide +kernel) ⟨Nat.le_of_ble_eq_true rfl, Nat.le_of_ble_eq_true rfl⟩) ⟨fun a U g mk q => ⟨q.1, q.2.1, va_K.moved (u := U) (U := U.calling g mk a) (Vm.Alike.refl U.vm) q.2.2⟩, va_recv hK hP (ci := 8) (q0 := 0) rfl rfl, fun U hU hW => ⟨rfl, hU, va_K.moved hW.alike hKc⟩⟩ rfl rfl hl.1 rfl (lv_room (Nat.le_of_ble_eq_true rfl)) d_Bm_close_21 ⟨Nat.le_of_ble_eq_true rfl, Nat.le_of_ble_eq_true rfl⟩) hS (fun q _ h => h.elim) (fun q h => h.elim) (fun r21 u9 t9 H1 locs ht hvm hw hB hz1 hk1 hS => ?_)
      obtain rfl : H = H1 := hB.symm.trans ht
      have h21 := hw
      refine lv_if_ne (tgt := 31) hx hb d_Bm_close_24 (by decide) (fun c_3 => ?_) (fun c_3 => ?_)
      · -- taken
        have hall := bz_t h21 c_3
        refine lv_iconst (v := 0) hx hb d_Bm_close_31 (by decide) ?_
        refine lv_iconst (v := 1) hx hb d_Bm_close_32 (by decide) ?_
        have hPc := hP.sub (ws' := (mo_ws m0 0 (nI N) (nI n) (nI bc) (lN P) (lN Q) (lN G) (lN al) (lN pa) (lN pb) cl a0 a1 a2 a3 a4 a5 a6 a7 a8 a9 b0 b1 oc b2 b3 b4 b5)) [0] rfl
        have hDc := hD.sub (ws' := (mo_ws m0 0 (nI N) (nI n) (nI bc) (lN P) (lN Q) (lN G) (lN al) (lN pa) (lN pb) cl a0 a1 a2 a3 a4 a5 a6 a7 a8 a9 b0 b1 oc b2 b3 b4 b5)) [0] (by decide) rfl
        have hKc := hK.sub (tys' := [(cJ, .long), (cI, .int)]) [0, 1] rfl
        have hFc := va_free (wc := (mo_ws m0 0 (nI N) (nI n) (nI bc) (lN P) (lN Q) (lN G) (lN al) (lN pa) (lN pb) cl a0 a1 a2 a3 a4 a5 a6 a7 a8 a9 b0 b1 oc b2 b3 b4 b5)) hD hS hA [0] rfl
        refine va_calli (va_runV (As := [.int 0, .int 1]) (rest := []) ⟨hx, hb, hml, hown, hts⟩ (c_Bm_fails_0 l dC dI cJ cI H.size m0 (nI N) (nI n) (nI bc) (lN P) (lN Q) (lN G) (lN al) (lN pa) (lN pb) cl a0 a1 a2 a3 a4 a5 a6 a7 a8 a9 b0 b1 oc b2 b3 b4 b5 1) (cwV 2 hts (gw_V gk_1030 gk_1032 gp_27 gk_7 gk_1033) rfl rfl rfl (by decide +kernel) ⟨Nat.le_of_ble_eq_true rfl, Nat.le_of_ble_eq_true rfl⟩) ⟨fun a U g mk q => by obtain ⟨q0, q1, qP, qK, qD⟩ := q; exact ⟨q0, q1, qP, va_K.moved (u := U) (U := U.calling g mk a) (Vm.Alike.refl U.vm) qK, qD⟩, va_recv hK hP (ci := 8) (q0 := 0) rfl rfl, fun U hU hW => ⟨rfl, by rw [hU], by rw [hU]; exact hPc, va_K.moved hW.alike hKc, hDc.weaken (fun _ _ _ _ => trivial)⟩⟩ rfl rfl hl.1 rfl (lv_room (Nat.le_of_ble_eq_true rfl)) d_Bm_close_33 ⟨Nat.le_of_ble_eq_true rfl, Nat.le_of_ble_eq_true rfl⟩) hS (fun q _ h => hFc q h) hFc (fun r_4 u9 t9 H1 locs ht hvm hw hB hz1 hk1 hS => ?_)
        have hw : r_4 = 0 := hw
        subst hw
        obtain ⟨hP1, hK1, hD1⟩ := hB
        rw [ht] at hP1
        obtain ⟨hP, hD⟩ := va_join (wr := [(a4, .inl (cI, 4, .inl kf)), (a6, .inl (cI, 64, .inl vf)), (b3, .inl (cJ, 128, .inr (.inl md)))]) (w1 := [(m0, .inr (8, [.int 0, .int (nI N), .int (nI n), .int (nI bc), .long (lN P), .long (lN Q), .long (lN G), .long (lN al), .long (lN pa), .long (lN pb), .int cl, .ref a0, .ref a1, .ref a2, .ref a3, .ref a4, .ref a5, .ref a6, .ref a7, .ref a8, .ref a9, .ref b0, .ref b1, .int (nI oc), .ref b2, .ref b3, .ref b4, .ref b5]))]) hP hD [0] [1, 2, 3] rfl rfl (by decide) (by decide) hk1 hFc hP1 hD1
        have hP := hP.sub (ws' := [(m0, .inr (8, [.int 0, .int (nI N), .int (nI n), .int (nI bc), .long (lN P), .long (lN Q), .long (lN G), .long (lN al), .long (lN pa), .long (lN pb), .int cl, .ref a0, .ref a1, .ref a2, .ref a3, .ref a4, .ref a5, .ref a6, .ref a7, .ref a8, .ref a9, .ref b0, .ref b1, .int (nI oc), .ref b2, .ref b3, .ref b4, .ref b5])), (a4, .inl (cI, 4, .inl kf)), (a6, .inl (cI, 64, .inl vf)), (b3, .inl (cJ, 128, .inr (.inl md)))]) [3, 0, 1, 2] rfl
        have hD := hD.sub (ws' := [(m0, .inr (8, [.int 0, .int (nI N), .int (nI n), .int (nI bc), .long (lN P), .long (lN Q), .long (lN G), .long (lN al), .long (lN pa), .long (lN pb), .int cl, .ref a0, .ref a1, .ref a2, .ref a3, .ref a4, .ref a5, .ref a6, .ref a7, .ref a8, .ref a9, .ref b0, .ref b1, .int (nI oc), .ref b2, .ref b3, .ref b4, .ref b5])), (a4, .inl (cI, 4, .inl kf)), (a6, .inl (cI, 64, .inl vf)), (b3, .inl (cJ, 128, .inr (.inl md)))]) [3, 0, 1, 2] (by decide) rfl
        generalize H1 = H at hP hS ⊢
        refine lv_if_eq (tgt := 41) hx hb d_Bm_close_36 (by decide) (fun c_5 => ?_) (fun c_5 => ?_)
        · -- taken
          refine lv_aload_n hx hb d_Bm_close_41 rfl (lv_at hl 0 rfl) ?_
          refine lv_iconst (v := 1) hx hb d_Bm_close_42 (by decide) ?_
          refine va_put (D := (dC, dI)) (ci := 8) (v := .int 1) (ty := .boolean) (C := "BallotBoardModel") (T := F_Bm) (N := 28) hx hb hts (fun w9 h9 => List.mem_cons_of_mem _ (i_Bm w9 h9)) t_Bm t_Bm_ok n_Bm hown hK hP hD hS 0 rfl rfl 10 (by decide) (hts _ (List.mem_cons_of_mem _ gk_929)) (fun _ h9 => h9) rfl (by decide +kernel) rfl rfl (Nat.le_of_ble_eq_true rfl) d_Bm_close_43 (fun H locs hP hD hS => ?_)
          have hP : va_P (dC, dI) classes [(m0, .inr (8, [.int 0, .int (nI N), .int (nI n), .int (nI bc), .long (lN P), .long (lN Q), .long (lN G), .long (lN al), .long (lN pa), .long (lN pb), .int 1, .ref a0, .ref a1, .ref a2, .ref a3, .ref a4, .ref a5, .ref a6, .ref a7, .ref a8, .ref a9, .ref b0, .ref b1, .int (nI oc), .ref b2, .ref b3, .ref b4, .ref b5])), (a4, .inl (cI, 4, .inl kf)), (a6, .inl (cI, 64, .inl vf)), (b3, .inl (cJ, 128, .inr (.inl md)))] H := hP
          have hD : va_D A [(m0, .inr (8, [.int 0, .int (nI N), .int (nI n), .int (nI bc), .long (lN P), .long (lN Q), .long (lN G), .long (lN al), .long (lN pa), .long (lN pb), .int 1, .ref a0, .ref a1, .ref a2, .ref a3, .ref a4, .ref a5, .ref a6, .ref a7, .ref a8, .ref a9, .ref b0, .ref b1, .int (nI oc), .ref b2, .ref b3, .ref b4, .ref b5])), (a4, .inl (cI, 4, .inl kf)), (a6, .inl (cI, 64, .inl vf)), (b3, .inl (cJ, 128, .inr (.inl md)))] := hD
          refine lv_aload_n hx hb d_Bm_close_46 rfl (lv_at hl 0 rfl) ?_
          refine lv_lconst (v := 1) hx hb d_Bm_close_47 (by decide) ?_
          refine va_put (D := (dC, dI)) (ci := 8) (v := .long 1) (ty := .long) (C := "BallotBoardModel") (T := F_Bm) (N := 28) hx hb hts (fun w9 h9 => List.mem_cons_of_mem _ (i_Bm w9 h9)) t_Bm t_Bm_ok n_Bm hown hK hP hD hS 0 rfl rfl 8 (by decide) (hts _ (List.mem_cons_of_mem _ gk_927)) (fun _ h9 => h9) rfl (by decide +kernel) rfl rfl (Nat.le_of_ble_eq_true rfl) d_Bm_close_48 (fun H locs hP hD hS => ?_)
          have hP : va_P (dC, dI) classes [(m0, .inr (8, [.int 0, .int (nI N), .int (nI n), .int (nI bc), .long (lN P), .long (lN Q), .long (lN G), .long (lN al), .long 1, .long (lN pb), .int 1, .ref a0, .ref a1, .ref a2, .ref a3, .ref a4, .ref a5, .ref a6, .ref a7, .ref a8, .ref a9, .ref b0, .ref b1, .int (nI oc), .ref b2, .ref b3, .ref b4, .ref b5])), (a4, .inl (cI, 4, .inl kf)), (a6, .inl (cI, 64, .inl vf)), (b3, .inl (cJ, 128, .inr (.inl md)))] H := hP
          have hD : va_D A [(m0, .inr (8, [.int 0, .int (nI N), .int (nI n), .int (nI bc), .long (lN P), .long (lN Q), .long (lN G), .long (lN al), .long 1, .long (lN pb), .int 1, .ref a0, .ref a1, .ref a2, .ref a3, .ref a4, .ref a5, .ref a6, .ref a7, .ref a8, .ref a9, .ref b0, .ref b1, .int (nI oc), .ref b2, .ref b3, .ref b4, .ref b5])), (a4, .inl (cI, 4, .inl kf)), (a6, .inl (cI, 64, .inl vf)), (b3, .inl (cJ, 128, .inr (.inl md)))] := hD
          refine lv_aload_n hx hb d_Bm_close_51 rfl (lv_at hl 0 rfl) ?_
          refine lv_lconst (v := 1) hx hb d_Bm_close_52 (by decide) ?_
          refine va_put (D := (dC, dI)) (ci := 8) (v := .long 1) (ty := .long) (C := "BallotBoardModel") (T := F_Bm) (N := 28) hx hb hts (fun w9 h9 => List.mem_cons_of_mem _ (i_Bm w9 h9)) t_Bm t_Bm_ok n_Bm hown hK hP hD hS 0 rfl rfl 9 (by decide) (hts _ (List.mem_cons_of_mem _ gk_928)) (fun _ h9 => h9) rfl (by decide +kernel) rfl rfl (Nat.le_of_ble_eq_true rfl) d_Bm_close_53 (fun H locs hP hD hS => ?_)
          have hP : va_P (dC, dI) classes [(m0, .inr (8, [.int 0, .int (nI N), .int (nI n), .int (nI bc), .long (lN P), .long (lN Q), .long (lN G), .long (lN al), .long 1, .long 1, .int 1, .ref a0, .ref a1, .ref a2, .ref a3, .ref a4, .ref a5, .ref a6, .ref a7, .ref a8, .ref a9, .ref b0, .ref b1, .int (nI oc), .ref b2, .ref b3, .ref b4, .ref b5])), (a4, .inl (cI, 4, .inl kf)), (a6, .inl (cI, 64, .inl vf)), (b3, .inl (cJ, 128, .inr (.inl md)))] H := hP
          have hD : va_D A [(m0, .inr (8, [.int 0, .int (nI N), .int (nI n), .int (nI bc), .long (lN P), .long (lN Q), .long (lN G), .long (lN al), .long 1, .long 1, .int 1, .ref a0, .ref a1, .ref a2, .ref a3, .ref a4, .ref a5, .ref a6, .ref a7, .ref a8, .ref a9, .ref b0, .ref b1, .int (nI oc), .ref b2, .ref b3, .ref b4, .ref b5])), (a4, .inl (cI, 4, .inl kf)), (a6, .inl (cI, 64, .inl vf)), (b3, .inl (cJ, 128, .inr (.inl md)))] := hD
          refine lv_iconst (v := 0) hx hb d_Bm_close_56 (by decide) ?_
          refine lv_istore_n (lv' := [(1, .int 0), (0, .ref m0)]) hx hb d_Bm_close_57 rfl hl (by decide) rfl (fun ls hl => ?_)
          have loop9 : ∀ (j i : Nat), i + j = 64 → ∀ (H : Heap) (locs : List Loc), va_S A s.heap H locs → va_P (dC, dI) classes [(m0, .inr (8, [.int 0, .int (nI N), .int (nI n), .int (nI bc), .long (lN P), .long (lN Q), .long (lN G), .long (lN al), .long (lN (prd P ao ao i)), .long (lN (prd P ao bo i)), .int 1, .ref a0, .ref a1, .ref a2, .ref a3, .ref a4, .ref a5, .ref a6, .ref a7, .ref a8, .ref a9, .ref b0, .ref b1, .int (nI oc), .ref b2, .ref b3, .ref b4, .ref b5])), (a4, .inl (cI, 4, .inl kf)), (a6, .inl (cI, 64, .inl vf)), (b3, .inl (cJ, 128, .inr (.inl md)))] H → va_D A [(m0, .inr (8, [.int 0, .int (nI N), .int (nI n), .int (nI bc), .long (lN P), .long (lN Q), .long (lN G), .long (lN al), .long (lN (prd P ao ao i)), .long (lN (prd P ao bo i)), .int 1, .ref a0, .ref a1, .ref a2, .ref a3, .ref a4, .ref a5, .ref a6, .ref a7, .ref a8, .ref a9, .ref b0, .ref b1, .int (nI oc), .ref b2, .ref b3, .ref b4, .ref b5])), (a4, .inl (cI, 4, .inl kf)), (a6, .inl (cI, 64, .inl vf)), (b3, .inl (cJ, 128, .inr (.inl md)))] → ∀ (ls : Array Slot), lv_has ls 2 [(0, .ref m0), (1, .int (nI i))] → W p l e ({ frames := 3, cells := 0, slots := 0, locals := 82 } : Room) s m ([.ref m0] : List Value).toArray below meth c H locs 0 0 (MQ below (va_Qi (fun (r : Int32) (_ : Unit) => r = nI bc) (fun _ t => va_P (dC, dI) classes (mo_ws m0 0 (nI N) (nI n) (nI bc) (lN P) (lN Q) (lN G) (lN al) (lN (prd P ao ao 64)) (lN (prd P ao bo 64)) 1 a0 a1 a2 a3 a4 a5 a6 a7 a8 a9 b0 b1 oc b2 b3 b4 b5 ++ (iw_ws a4 cI 4 kf ++ (iw_ws a6 cI 64 vf ++ (jw_ws b3 cJ 128 md)))) t.heap ∧ va_K (dC, dI) classes [(cJ, .long), (cI, .int)] t ∧ va_D A (mo_ws m0 0 (nI N) (nI n) (nI bc) (lN P) (lN Q) (lN G) (lN al) (lN (prd P ao ao 64)) (lN (prd P ao bo 64)) 1 a0 a1 a2 a3 a4 a5 a6 a7 a8 a9 b0 b1 oc b2 b3 b4 b5 ++ (iw_ws a4 cI 4 kf ++ (iw_ws a6 cI 64 vf ++ (jw_ws b3 cJ 128 md))))) A) ([.ref m0] : List Value).toArray s 0 0 A) (F0 m 58 ls []) := by
            intro j
            induction j using Nat.strongRecOn with
            | ind j ih =>
              intro i hij H locs hS hP hD ls hl
              refine lv_iload_n hx hb d_Bm_close_58 rfl (lv_at hl 1 rfl) ?_
              refine lv_bipush (v := 64) hx hb d_Bm_close_59 (by decide) ?_
              refine lv_icmp_ge (tgt := 124) hx hb d_Bm_close_61 (by decide) (fun c_6 => ?_) (fun c_6 => ?_)
              · -- taken
                have hi9 : i = 64 := by
                  have := (ige 64 (by omega) (by omega) rfl).mp c_6
                  omega
                rw [hi9] at hP hD
                refine lv_aload_n hx hb d_Bm_close_124 rfl (lv_at hl 0 rfl) ?_
                refine va_get (D := (dC, dI)) (ci := 8) (v := .int (nI bc)) (C := "BallotBoardModel") (T := F_Bm) (N := 28) hx hb hts (fun w9 h9 => List.mem_cons_of_mem _ (i_Bm w9 h9)) hown hK hP 0 rfl rfl 3 (by decide) (hts _ (List.mem_cons_of_mem _ gk_922)) (fun _ h9 => h9) rfl d_Bm_close_125 ?_
                exact W.iret (v := (nI bc)) hx hb hr (fun t ht9 hW => ⟨⟨_, (), rfl, rfl, by rw [ht9]; exact hP, va_K.moved hW.alike hK, hD⟩, hS.F ht9⟩) hS.2.2 d_Bm_close_128
              · -- not taken
                have hi9 : i < 64 := by
                  have : ¬ 64 ≤ i := fun h => c_6 ((ige 64 (by omega) (by omega) rfl).mpr h)
                  omega
                have hai := haP i
                have hbi := hbP i
                have hp1 := prd_lt (P := P) (by omega) ao ao i
                have hp2 := prd_lt (P := P) (by omega) ao bo i
                refine lv_aload_n hx hb d_Bm_close_64 rfl (lv_at hl 0 rfl) ?_
                refine va_get (D := (dC, dI)) (ci := 8) (v := .ref a6) (C := "BallotBoardModel") (T := F_Bm) (N := 28) hx hb hts (fun w9 h9 => List.mem_cons_of_mem _ (i_Bm w9 h9)) hown hK hP 0 rfl rfl 17 (by decide) (hts _ (List.mem_cons_of_mem _ gk_936)) (fun _ h9 => h9) rfl d_Bm_close_65 ?_
                refine lv_iload_n hx hb d_Bm_close_68 rfl (lv_at hl 1 rfl) ?_
                refine va_iald hx hb hK hP 2 1 rfl rfl (vp_in_nI (by omega) (by omega)) d_Bm_close_69 ?_
                rw [show (vf (nI i : Int32).toNatClampNeg : Int32) = vf i from by rw [nI_clamp (by omega)]]
                refine lv_if_ge (tgt := 76) hx hb d_Bm_close_70 (by decide) (fun c_7 => ?_) (fun c_7 => ?_)
                · -- taken
                  have hz9 : ¬ ao i = 0 := fun h => absurd ((rK_neg hrb hn hi9).mpr h) (Int32.not_lt.mpr c_7)
                  obtain ⟨hm1, hm2⟩ := hmd i hi9 hz9
                  refine lv_aload_n hx hb d_Bm_close_76 rfl (lv_at hl 0 rfl) ?_
                  refine lv_aload_n hx hb d_Bm_close_77 rfl (lv_at hl 0 rfl) ?_
                  refine lv_aload_n hx hb d_Bm_close_78 rfl (lv_at hl 0 rfl) ?_
                  refine va_get (D := (dC, dI)) (ci := 8) (v := .long (lN (prd P ao ao i))) (C := "BallotBoardModel") (T := F_Bm) (N := 28) hx hb hts (fun w9 h9 => List.mem_cons_of_mem _ (i_Bm w9 h9)) hown hK hP 0 rfl rfl 8 (by decide) (hts _ (List.mem_cons_of_mem _ gk_927)) (fun _ h9 => h9) rfl d_Bm_close_79 ?_
                  refine lv_aload_n hx hb d_Bm_close_82 rfl (lv_at hl 0 rfl) ?_
                  refine va_get (D := (dC, dI)) (ci := 8) (v := .ref b3) (C := "BallotBoardModel") (T := F_Bm) (N := 28) hx hb hts (fun w9 h9 => List.mem_cons_of_mem _ (i_Bm w9 h9)) hown hK hP 0 rfl rfl 25 (by decide) (hts _ (List.mem_cons_of_mem _ gk_944)) (fun _ h9 => h9) rfl d_Bm_close_83 ?_
                  refine lv_iconst (v := 2) hx hb d_Bm_close_86 (by decide) ?_
                  refine lv_iload_n hx hb d_Bm_close_87 rfl (lv_at hl 1 rfl) ?_
                  refine lv_imul hx hb d_Bm_close_88 ?_
                  rw [show (2 * (nI i) : Int32) = (nI (2 * i)) from pk_mul 2 i]
                  refine va_lald hx hb hK hP 3 0 rfl rfl (vp_in_nI (by omega) (by omega)) d_Bm_close_89 ?_
                  rw [show (md (nI (2 * i) : Int32).toNatClampNeg : Int64) = md (2 * i) from by rw [nI_clamp (by omega)]]
                  rw [show (md (2 * i) : Int64) = (lN (ao i)) from hm1]
                  have hPc := hP.sub (ws' := (mo_ws m0 0 (nI N) (nI n) (nI bc) (lN P) (lN Q) (lN G) (lN al) (lN (prd P ao ao i)) (lN (prd P ao bo i)) 1 a0 a1 a2 a3 a4 a5 a6 a7 a8 a9 b0 b1 oc b2 b3 b4 b5)) [0] rfl
                  have hKc := hK.sub (tys' := [(cJ, .long), (cI, .int)]) [0, 1] rfl
                  refine va_calll (va_runV (As := [.long (lN (prd P ao ao i)), .long (lN (ao i))]) (rest := [.ref m0]) ⟨hx, hb, hml, hown, hts⟩ (c_Bm_times l H dC dI cJ cI m0 0 (nI N) (nI n) (nI bc) (lN al) (lN (prd P ao ao i)) (lN (prd P ao bo i)) 1 a0 a1 a2 a3 a4 a5 a6 a7 a8 a9 b0 b1 oc b2 b3 b4 b5 P Q G (prd P ao ao i) (ao i) hPc hPQ h61F hQ3 hp1 hai) (cwV 2 hts (gw_V gk_1058 gk_1060 gp_33 gk_7 gk_1061) rfl rfl rfl (by decide +kernel) ⟨Nat.le_of_ble_eq_true rfl, Nat.le_of_ble_eq_true rfl⟩) ⟨fun a U g mk q => ⟨q.1, q.2.1, va_K.moved (u := U) (U := U.calling g mk a) (Vm.Alike.refl U.vm) q.2.2⟩, va_recv hK hP (ci := 8) (q0 := 0) rfl rfl, fun U hU hW => ⟨rfl, hU, va_K.moved hW.alike hKc⟩⟩ rfl rfl hl.1 rfl (lv_room (Nat.le_of_ble_eq_true rfl)) d_Bm_close_90 ⟨Nat.le_of_ble_eq_true rfl, Nat.le_of_ble_eq_true rfl⟩) hS (fun q _ h => h.elim) (fun q h => h.elim) (fun r90 u9 t9 H1 locs ht hvm hw hB hz1 hk1 hS => ?_)
                  obtain rfl : H = H1 := hB.symm.trans ht
                  have hw : r90 = lN ((prd P ao ao i) * (ao i) % P) := hw
                  subst hw
                  rw [show (lN ((prd P ao ao i) * (ao i) % P) : Int64) = (lN (prd P ao ao (i + 1))) from congrArg lN (if_neg hz9).symm]
                  refine va_put (D := (dC, dI)) (ci := 8) (v := .long (lN (prd P ao ao (i + 1)))) (ty := .long) (C := "BallotBoardModel") (T := F_Bm) (N := 28) hx hb hts (fun w9 h9 => List.mem_cons_of_mem _ (i_Bm w9 h9)) t_Bm t_Bm_ok n_Bm hown hK hP hD hS 0 rfl rfl 8 (by decide) (hts _ (List.mem_cons_of_mem _ gk_927)) (fun _ h9 => h9) rfl (by decide +kernel) rfl rfl (Nat.le_of_ble_eq_true rfl) d_Bm_close_93 (fun H locs hP hD hS => ?_)
                  have hP : va_P (dC, dI) classes [(m0, .inr (8, [.int 0, .int (nI N), .int (nI n), .int (nI bc), .long (lN P), .long (lN Q), .long (lN G), .long (lN al), .long (lN (prd P ao ao (i + 1))), .long (lN (prd P ao bo i)), .int 1, .ref a0, .ref a1, .ref a2, .ref a3, .ref a4, .ref a5, .ref a6, .ref a7, .ref a8, .ref a9, .ref b0, .ref b1, .int (nI oc), .ref b2, .ref b3, .ref b4, .ref b5])), (a4, .inl (cI, 4, .inl kf)), (a6, .inl (cI, 64, .inl vf)), (b3, .inl (cJ, 128, .inr (.inl md)))] H := hP
                  have hD : va_D A [(m0, .inr (8, [.int 0, .int (nI N), .int (nI n), .int (nI bc), .long (lN P), .long (lN Q), .long (lN G), .long (lN al), .long (lN (prd P ao ao (i + 1))), .long (lN (prd P ao bo i)), .int 1, .ref a0, .ref a1, .ref a2, .ref a3, .ref a4, .ref a5, .ref a6, .ref a7, .ref a8, .ref a9, .ref b0, .ref b1, .int (nI oc), .ref b2, .ref b3, .ref b4, .ref b5])), (a4, .inl (cI, 4, .inl kf)), (a6, .inl (cI, 64, .inl vf)), (b3, .inl (cJ, 128, .inr (.inl md)))] := hD
                  refine lv_aload_n hx hb d_Bm_close_96 rfl (lv_at hl 0 rfl) ?_
                  refine lv_aload_n hx hb d_Bm_close_97 rfl (lv_at hl 0 rfl) ?_
                  refine lv_aload_n hx hb d_Bm_close_98 rfl (lv_at hl 0 rfl) ?_
                  refine va_get (D := (dC, dI)) (ci := 8) (v := .long (lN (prd P ao bo i))) (C := "BallotBoardModel") (T := F_Bm) (N := 28) hx hb hts (fun w9 h9 => List.mem_cons_of_mem _ (i_Bm w9 h9)) hown hK hP 0 rfl rfl 9 (by decide) (hts _ (List.mem_cons_of_mem _ gk_928)) (fun _ h9 => h9) rfl d_Bm_close_99 ?_
                  refine lv_aload_n hx hb d_Bm_close_102 rfl (lv_at hl 0 rfl) ?_
                  refine va_get (D := (dC, dI)) (ci := 8) (v := .ref b3) (C := "BallotBoardModel") (T := F_Bm) (N := 28) hx hb hts (fun w9 h9 => List.mem_cons_of_mem _ (i_Bm w9 h9)) hown hK hP 0 rfl rfl 25 (by decide) (hts _ (List.mem_cons_of_mem _ gk_944)) (fun _ h9 => h9) rfl d_Bm_close_103 ?_
                  refine lv_iconst (v := 2) hx hb d_Bm_close_106 (by decide) ?_
                  refine lv_iload_n hx hb d_Bm_close_107 rfl (lv_at hl 1 rfl) ?_
                  refine lv_imul hx hb d_Bm_close_108 ?_
                  rw [show (2 * (nI i) : Int32) = (nI (2 * i)) from pk_mul 2 i]
                  refine lv_iconst (v := 1) hx hb d_Bm_close_109 (by decide) ?_
                  refine lv_iadd hx hb d_Bm_close_110 ?_
                  rw [show ((nI (2 * i)) + 1 : Int32) = (nI (2 * i + 1)) from nI_add (2 * i) 1]
                  refine va_lald hx hb hK hP 3 0 rfl rfl (vp_in_nI (by omega) (by omega)) d_Bm_close_111 ?_
                  rw [show (md (nI (2 * i + 1) : Int32).toNatClampNeg : Int64) = md (2 * i + 1) from by rw [nI_clamp (by omega)]]
                  rw [show (md (2 * i + 1) : Int64) = (lN (bo i)) from hm2]
                  have hPc := hP.sub (ws' := (mo_ws m0 0 (nI N) (nI n) (nI bc) (lN P) (lN Q) (lN G) (lN al) (lN (prd P ao ao (i + 1))) (lN (prd P ao bo i)) 1 a0 a1 a2 a3 a4 a5 a6 a7 a8 a9 b0 b1 oc b2 b3 b4 b5)) [0] rfl
                  have hKc := hK.sub (tys' := [(cJ, .long), (cI, .int)]) [0, 1] rfl
                  refine va_calll (va_runV (As := [.long (lN (prd P ao bo i)), .long (lN (bo i))]) (rest := [.ref m0]) ⟨hx, hb, hml, hown, hts⟩ (c_Bm_times l H dC dI cJ cI m0 0 (nI N) (nI n) (nI bc) (lN al) (lN (prd P ao ao (i + 1))) (lN (prd P ao bo i)) 1 a0 a1 a2 a3 a4 a5 a6 a7 a8 a9 b0 b1 oc b2 b3 b4 b5 P Q G (prd P ao bo i) (bo i) hPc hPQ h61F hQ3 hp2 hbi) (cwV 2 hts (gw_V gk_1058 gk_1060 gp_33 gk_7 gk_1061) rfl rfl rfl (by decide +kernel) ⟨Nat.le_of_ble_eq_true rfl, Nat.le_of_ble_eq_true rfl⟩) ⟨fun a U g mk q => ⟨q.1, q.2.1, va_K.moved (u := U) (U := U.calling g mk a) (Vm.Alike.refl U.vm) q.2.2⟩, va_recv hK hP (ci := 8) (q0 := 0) rfl rfl, fun U hU hW => ⟨rfl, hU, va_K.moved hW.alike hKc⟩⟩ rfl rfl hl.1 rfl (lv_room (Nat.le_of_ble_eq_true rfl)) d_Bm_close_112 ⟨Nat.le_of_ble_eq_true rfl, Nat.le_of_ble_eq_true rfl⟩) hS (fun q _ h => h.elim) (fun q h => h.elim) (fun r112 u9 t9 H1 locs ht hvm hw hB hz1 hk1 hS => ?_)
                  obtain rfl : H = H1 := hB.symm.trans ht
                  have hw : r112 = lN ((prd P ao bo i) * (bo i) % P) := hw
                  subst hw
                  rw [show (lN ((prd P ao bo i) * (bo i) % P) : Int64) = (lN (prd P ao bo (i + 1))) from congrArg lN (if_neg hz9).symm]
                  refine va_put (D := (dC, dI)) (ci := 8) (v := .long (lN (prd P ao bo (i + 1)))) (ty := .long) (C := "BallotBoardModel") (T := F_Bm) (N := 28) hx hb hts (fun w9 h9 => List.mem_cons_of_mem _ (i_Bm w9 h9)) t_Bm t_Bm_ok n_Bm hown hK hP hD hS 0 rfl rfl 9 (by decide) (hts _ (List.mem_cons_of_mem _ gk_928)) (fun _ h9 => h9) rfl (by decide +kernel) rfl rfl (Nat.le_of_ble_eq_true rfl) d_Bm_close_115 (fun H locs hP hD hS => ?_)
                  have hP : va_P (dC, dI) classes [(m0, .inr (8, [.int 0, .int (nI N), .int (nI n), .int (nI bc), .long (lN P), .long (lN Q), .long (lN G), .long (lN al), .long (lN (prd P ao ao (i + 1))), .long (lN (prd P ao bo (i + 1))), .int 1, .ref a0, .ref a1, .ref a2, .ref a3, .ref a4, .ref a5, .ref a6, .ref a7, .ref a8, .ref a9, .ref b0, .ref b1, .int (nI oc), .ref b2, .ref b3, .ref b4, .ref b5])), (a4, .inl (cI, 4, .inl kf)), (a6, .inl (cI, 64, .inl vf)), (b3, .inl (cJ, 128, .inr (.inl md)))] H := hP
                  have hD : va_D A [(m0, .inr (8, [.int 0, .int (nI N), .int (nI n), .int (nI bc), .long (lN P), .long (lN Q), .long (lN G), .long (lN al), .long (lN (prd P ao ao (i + 1))), .long (lN (prd P ao bo (i + 1))), .int 1, .ref a0, .ref a1, .ref a2, .ref a3, .ref a4, .ref a5, .ref a6, .ref a7, .ref a8, .ref a9, .ref b0, .ref b1, .int (nI oc), .ref b2, .ref b3, .ref b4, .ref b5])), (a4, .inl (cI, 4, .inl kf)), (a6, .inl (cI, 64, .inl vf)), (b3, .inl (cJ, 128, .inr (.inl md)))] := hD
                  obtain ⟨i_8, ei_8⟩ : ∃ y : Int32, y = (nI i) + 1 := ⟨_, rfl⟩
                  refine lv_iinc (v := i_8) (lv' := [(1, .int i_8), (0, .ref m0)]) hx hb d_Bm_close_118 hl (k := 1) rfl (by rw [ei_8]; rfl) (by decide) rfl (fun ls hl => ?_)
                  obtain rfl : i_8 = nI (i + 1) := by rw [ei_8]; exact nI_1 i
                  refine lv_goto (tgt := 58) hx hb d_Bm_close_121 (by decide) ?_
                  exact ih (j - 1) (by omega) (i + 1) (by omega) H locs hS hP hD ls (lv_sub hl [1, 0] rfl)
                · -- not taken
                  have hz9 : ao i = 0 := (rK_neg hrb hn hi9).mp (Int32.not_le.mp c_7)
                  rw [show prd P ao ao i = prd P ao ao (i + 1) from (if_pos hz9).symm, show prd P ao bo i = prd P ao bo (i + 1) from (if_pos hz9).symm] at hP hD
                  refine lv_goto (tgt := 118) hx hb d_Bm_close_73 (by decide) ?_
                  obtain ⟨i_9, ei_9⟩ : ∃ y : Int32, y = (nI i) + 1 := ⟨_, rfl⟩
                  refine lv_iinc (v := i_9) (lv' := [(1, .int i_9), (0, .ref m0)]) hx hb d_Bm_close_118 hl (k := 1) rfl (by rw [ei_9]; rfl) (by decide) rfl (fun ls hl => ?_)
                  obtain rfl : i_9 = nI (i + 1) := by rw [ei_9]; exact nI_1 i
                  refine lv_goto (tgt := 58) hx hb d_Bm_close_121 (by decide) ?_
                  exact ih (j - 1) (by omega) (i + 1) (by omega) H locs hS hP hD ls (lv_sub hl [1, 0] rfl)
          exact loop9 64 0 (by omega) H _ hS hP hD ls (lv_sub hl [1, 0] rfl)
        · -- not taken
          exact absurd rfl c_5
      · -- not taken
        exact absurd (Or.inr (Or.inr (bz_f h21 c_3))) hC1
