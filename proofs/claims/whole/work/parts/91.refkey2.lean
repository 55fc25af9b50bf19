abbrev b_Bm_key : ByteArray := prog_10_method_30_code
abbrev y_Bm_key : MethodName := ⟨"BallotBoardModel", "key", "(IJJJ)I"⟩
abbrev w_Bm_key : List Cond := .code y_Bm_key b_Bm_key 8 (some .int) :: gw
theorem d_Bm_key_0 : decode b_Bm_key 0 = .ok (.aload_n 0, 1) := by decide +kernel
theorem d_Bm_key_1 : decode b_Bm_key 1 = .ok (.iconst 0, 1) := by decide +kernel
theorem d_Bm_key_2 : decode b_Bm_key 2 = .ok (.putfield 131, 3) := by decide +kernel
theorem d_Bm_key_5 : decode b_Bm_key 5 = .ok (.aload_n 0, 1) := by decide +kernel
theorem d_Bm_key_6 : decode b_Bm_key 6 = .ok (.aload_n 0, 1) := by decide +kernel
theorem d_Bm_key_7 : decode b_Bm_key 7 = .ok (.getfield 211, 3) := by decide +kernel
theorem d_Bm_key_10 : decode b_Bm_key 10 = .ok (.ifCond .eq 33, 3) := by decide +kernel
theorem d_Bm_key_13 : decode b_Bm_key 13 = .ok (.aload_n 0, 1) := by decide +kernel
theorem d_Bm_key_14 : decode b_Bm_key 14 = .ok (.getfield 220, 3) := by decide +kernel
theorem d_Bm_key_17 : decode b_Bm_key 17 = .ok (.ifCond .ne 26, 3) := by decide +kernel
theorem d_Bm_key_20 : decode b_Bm_key 20 = .ok (.iload_n 1, 1) := by decide +kernel
theorem d_Bm_key_21 : decode b_Bm_key 21 = .ok (.iconst 0, 1) := by decide +kernel
theorem d_Bm_key_22 : decode b_Bm_key 22 = .ok (.aload_n 0, 1) := by decide +kernel
theorem d_Bm_key_23 : decode b_Bm_key 23 = .ok (.getfield 211, 3) := by decide +kernel
theorem d_Bm_key_26 : decode b_Bm_key 26 = .ok (.iconst 1, 1) := by decide +kernel
theorem d_Bm_key_27 : decode b_Bm_key 27 = .ok (.isub, 1) := by decide +kernel
theorem d_Bm_key_28 : decode b_Bm_key 28 = .ok (.invokestatic 203, 3) := by decide +kernel
theorem d_Bm_key_31 : decode b_Bm_key 31 = .ok (.ifCond .eq 16, 3) := by decide +kernel
theorem d_Bm_key_34 : decode b_Bm_key 34 = .ok (.aload_n 0, 1) := by decide +kernel
theorem d_Bm_key_35 : decode b_Bm_key 35 = .ok (.getfield 22, 3) := by decide +kernel
theorem d_Bm_key_38 : decode b_Bm_key 38 = .ok (.iload_n 1, 1) := by decide +kernel
theorem d_Bm_key_39 : decode b_Bm_key 39 = .ok (.iaload, 1) := by decide +kernel
theorem d_Bm_key_40 : decode b_Bm_key 40 = .ok (.ifCond .lt 7, 3) := by decide +kernel
theorem d_Bm_key_43 : decode b_Bm_key 43 = .ok (.iconst 1, 1) := by decide +kernel
theorem d_Bm_key_44 : decode b_Bm_key 44 = .ok (.goto 4, 3) := by decide +kernel
theorem d_Bm_key_47 : decode b_Bm_key 47 = .ok (.iconst 0, 1) := by decide +kernel
theorem d_Bm_key_48 : decode b_Bm_key 48 = .ok (.iconst 1, 1) := by decide +kernel
theorem d_Bm_key_49 : decode b_Bm_key 49 = .ok (.invokevirtual 207, 3) := by decide +kernel
theorem d_Bm_key_52 : decode b_Bm_key 52 = .ok (.ifCond .ne 43, 3) := by decide +kernel
theorem d_Bm_key_55 : decode b_Bm_key 55 = .ok (.aload_n 0, 1) := by decide +kernel
theorem d_Bm_key_56 : decode b_Bm_key 56 = .ok (.iload_n 1, 1) := by decide +kernel
theorem d_Bm_key_57 : decode b_Bm_key 57 = .ok (.iconst 0, 1) := by decide +kernel
theorem d_Bm_key_58 : decode b_Bm_key 58 = .ok (.aload_n 0, 1) := by decide +kernel
theorem d_Bm_key_59 : decode b_Bm_key 59 = .ok (.getfield 211, 3) := by decide +kernel
theorem d_Bm_key_62 : decode b_Bm_key 62 = .ok (.iconst 1, 1) := by decide +kernel
theorem d_Bm_key_63 : decode b_Bm_key 63 = .ok (.isub, 1) := by decide +kernel
theorem d_Bm_key_64 : decode b_Bm_key 64 = .ok (.invokestatic 203, 3) := by decide +kernel
theorem d_Bm_key_67 : decode b_Bm_key 67 = .ok (.ifCond .eq 16, 3) := by decide +kernel
theorem d_Bm_key_70 : decode b_Bm_key 70 = .ok (.aload_n 0, 1) := by decide +kernel
theorem d_Bm_key_71 : decode b_Bm_key 71 = .ok (.iload_n 1, 1) := by decide +kernel
theorem d_Bm_key_72 : decode b_Bm_key 72 = .ok (.lload_n 2, 1) := by decide +kernel
theorem d_Bm_key_73 : decode b_Bm_key 73 = .ok (.lload 4, 2) := by decide +kernel
theorem d_Bm_key_75 : decode b_Bm_key 75 = .ok (.lload 6, 2) := by decide +kernel
theorem d_Bm_key_77 : decode b_Bm_key 77 = .ok (.invokevirtual 254, 3) := by decide +kernel
theorem d_Bm_key_80 : decode b_Bm_key 80 = .ok (.ifCond .ne 7, 3) := by decide +kernel
theorem d_Bm_key_83 : decode b_Bm_key 83 = .ok (.iconst 1, 1) := by decide +kernel
theorem d_Bm_key_84 : decode b_Bm_key 84 = .ok (.goto 4, 3) := by decide +kernel
theorem d_Bm_key_87 : decode b_Bm_key 87 = .ok (.iconst 0, 1) := by decide +kernel
theorem d_Bm_key_88 : decode b_Bm_key 88 = .ok (.iconst 2, 1) := by decide +kernel
theorem d_Bm_key_89 : decode b_Bm_key 89 = .ok (.invokevirtual 207, 3) := by decide +kernel
theorem d_Bm_key_92 : decode b_Bm_key 92 = .ok (.ifCond .eq 5, 3) := by decide +kernel
theorem d_Bm_key_95 : decode b_Bm_key 95 = .ok (.iconst 0, 1) := by decide +kernel
theorem d_Bm_key_96 : decode b_Bm_key 96 = .ok (.ireturn, 1) := by decide +kernel
theorem d_Bm_key_97 : decode b_Bm_key 97 = .ok (.aload_n 0, 1) := by decide +kernel
theorem d_Bm_key_98 : decode b_Bm_key 98 = .ok (.iload_n 1, 1) := by decide +kernel
theorem d_Bm_key_99 : decode b_Bm_key 99 = .ok (.lload_n 2, 1) := by decide +kernel
theorem d_Bm_key_100 : decode b_Bm_key 100 = .ok (.lload 4, 2) := by decide +kernel
theorem d_Bm_key_102 : decode b_Bm_key 102 = .ok (.lload 6, 2) := by decide +kernel
theorem d_Bm_key_104 : decode b_Bm_key 104 = .ok (.invokevirtual 258, 3) := by decide +kernel
theorem d_Bm_key_107 : decode b_Bm_key 107 = .ok (.ireturn, 1) := by decide +kernel
set_option maxHeartbeats 8000000 in
set_option maxRecDepth 100000 in
theorem c_Bm_key_1 (l : Launch) (dC : Nat → ClassId) (dI : Nat → Nat → Nat) (cJ cI : ClassId) (sz : Nat) (m0 : Nat) (e0 : Int32) (N n bc P Q G al pa pb : Nat) (cl : Int32) (a0 a1 a2 a3 a4 a5 a6 a7 a8 a9 b0 b1 oc b2 b3 b4 b5 : Nat) (bf sc st kf : Nat → Int32) (tf nf cf ky lf : Nat → Int64) (ko : Nat → Nat) (x1 : Int32) (x2 x3 x4 : Int64) (hN : N ≤ 4) (hgr : 0 < N → gfx P Q G) (hcl : cl = 0 ∨ cl = 1) (hn : n ≤ 154) (hrk : rK 4 n ko kf ky) (hko : ∀ j, ko j < 2 ^ 61) (hC1 : kC1 N cl ko x1) : Met l y_Bm_key w_Bm_key ({ frames := 7, cells := 0, slots := 0, locals := 204 }) (va_Pc [.ref m0, .int x1, .long x2, .long x3, .long x4] (fun U => U.heap.size = sz ∧ va_P (dC, dI) classes (mo_ws m0 e0 (nI N) (nI n) (nI bc) (lN P) (lN Q) (lN G) (lN al) (lN pa) (lN pb) cl a0 a1 a2 a3 a4 a5 a6 a7 a8 a9 b0 b1 oc b2 b3 b4 b5 ++ (iw_ws a7 cI 256 bf ++ (iw_ws a8 cI 64 sc ++ (iw_ws a9 cI 8 st ++ (iw_ws b0 cI 8 kS ++ (iw_ws b1 cI 64 kR ++ (jw_ws a2 cJ 4 tf ++ (jw_ws a0 cJ 1232 nf ++ (jw_ws a1 cJ 616 cf ++ (iw_ws a4 cI 4 kf ++ (jw_ws b2 cJ 4 ky ++ (jw_ws a3 cJ 16 lf)))))))))))) U.heap ∧ va_K (dC, dI) classes [(cJ, .long), (cI, .int)] U ∧ va_D (fun _ => True) (mo_ws m0 e0 (nI N) (nI n) (nI bc) (lN P) (lN Q) (lN G) (lN al) (lN pa) (lN pb) cl a0 a1 a2 a3 a4 a5 a6 a7 a8 a9 b0 b1 oc b2 b3 b4 b5 ++ (iw_ws a7 cI 256 bf ++ (iw_ws a8 cI 64 sc ++ (iw_ws a9 cI 8 st ++ (iw_ws b0 cI 8 kS ++ (iw_ws b1 cI 64 kR ++ (jw_ws a2 cJ 4 tf ++ (jw_ws a0 cJ 1232 nf ++ (jw_ws a1 cJ 616 cf ++ (iw_ws a4 cI 4 kf ++ (jw_ws b2 cJ 4 ky ++ (jw_ws a3 cJ 16 lf)))))))))))))) (va_Qi (fun (r : Int32) (_ : Unit) => True) (fun _ t => va_P (dC, dI) classes (mo_ws m0 1 (nI N) (nI n) (nI bc) (lN P) (lN Q) (lN G) (lN al) (lN pa) (lN pb) cl a0 a1 a2 a3 a4 a5 a6 a7 a8 a9 b0 b1 oc b2 b3 b4 b5 ++ (iw_ws a7 cI 256 bf ++ (iw_ws a8 cI 64 sc ++ (iw_ws a9 cI 8 st ++ (iw_ws b0 cI 8 kS ++ (iw_ws b1 cI 64 kR ++ (jw_ws a2 cJ 4 tf ++ (jw_ws a0 cJ 1232 nf ++ (jw_ws a1 cJ 616 cf ++ (iw_ws a4 cI 4 kf ++ (jw_ws b2 cJ 4 ky ++ (jw_ws a3 cJ 16 lf)))))))))))) t.heap ∧ va_K (dC, dI) classes [(cJ, .long), (cI, .int)] t ∧ va_D (va_A (mo_ws m0 e0 (nI N) (nI n) (nI bc) (lN P) (lN Q) (lN G) (lN al) (lN pa) (lN pb) cl a0 a1 a2 a3 a4 a5 a6 a7 a8 a9 b0 b1 oc b2 b3 b4 b5 ++ (iw_ws a7 cI 256 bf ++ (iw_ws a8 cI 64 sc ++ (iw_ws a9 cI 8 st ++ (iw_ws b0 cI 8 kS ++ (iw_ws b1 cI 64 kR ++ (jw_ws a2 cJ 4 tf ++ (jw_ws a0 cJ 1232 nf ++ (jw_ws a1 cJ 616 cf ++ (iw_ws a4 cI 4 kf ++ (jw_ws b2 cJ 4 ky ++ (jw_ws a3 cJ 16 lf)))))))))))) sz) (mo_ws m0 1 (nI N) (nI n) (nI bc) (lN P) (lN Q) (lN G) (lN al) (lN pa) (lN pb) cl a0 a1 a2 a3 a4 a5 a6 a7 a8 a9 b0 b1 oc b2 b3 b4 b5 ++ (iw_ws a7 cI 256 bf ++ (iw_ws a8 cI 64 sc ++ (iw_ws a9 cI 8 st ++ (iw_ws b0 cI 8 kS ++ (iw_ws b1 cI 64 kR ++ (jw_ws a2 cJ 4 tf ++ (jw_ws a0 cJ 1232 nf ++ (jw_ws a1 cJ 616 cf ++ (iw_ws a4 cI 4 kf ++ (jw_ws b2 cJ 4 ky ++ (jw_ws a3 cJ 16 lf))))))))))))) (va_A (mo_ws m0 e0 (nI N) (nI n) (nI bc) (lN P) (lN Q) (lN G) (lN al) (lN pa) (lN pb) cl a0 a1 a2 a3 a4 a5 a6 a7 a8 a9 b0 b1 oc b2 b3 b4 b5 ++ (iw_ws a7 cI 256 bf ++ (iw_ws a8 cI 64 sc ++ (iw_ws a9 cI 8 st ++ (iw_ws b0 cI 8 kS ++ (iw_ws b1 cI 64 kR ++ (jw_ws a2 cJ 4 tf ++ (jw_ws a0 cJ 1232 nf ++ (jw_ws a1 cJ 616 cf ++ (iw_ws a4 cI 4 kf ++ (jw_ws b2 cJ 4 ky ++ (jw_ws a3 cJ 16 lf)))))))))))) sz)) 0 0 (va_A (mo_ws m0 e0 (nI N) (nI n) (nI bc) (lN P) (lN Q) (lN G) (lN al) (lN pa) (lN pb) cl a0 a1 a2 a3 a4 a5 a6 a7 a8 a9 b0 b1 oc b2 b3 b4 b5 ++ (iw_ws a7 cI 256 bf ++ (iw_ws a8 cI 64 sc ++ (iw_ws a9 cI 8 st ++ (iw_ws b0 cI 8 kS ++ (iw_ws b1 cI 64 kR ++ (jw_ws a2 cJ 4 tf ++ (jw_ws a0 cJ 1232 nf ++ (jw_ws a1 cJ 616 cf ++ (iw_ws a4 cI 4 kf ++ (jw_ws b2 cJ 4 ky ++ (jw_ws a3 cJ 16 lf)))))))))))) sz) := by
  refine Met.ofW (cc := b_Bm_key) (maxL := 8) (ret := (some .int)) (by decide) rfl ?_
  intro p e s m args below meth c s₁ Bd hml hv
  obtain ⟨rfl, hsz, hP, hK, hD0⟩ := hv
  have hx := Bd.exec
  have hb := Bd.bytes
  have hr := Bd.returns
  have hts := atoms_spec (ws := w_Bm_key) Bd.pre
  have hown : s.vm.findClass "BallotBoardModel" = some m.cls := findClass_of_methodNamed Bd.named
  have hlocks := Bd.notSynchronized
  subst hsz
  have hD := hD0.self (sz := s.heap.size)
  generalize hAe : va_A (mo_ws m0 e0 (nI N) (nI n) (nI bc) (lN P) (lN Q) (lN G) (lN al) (lN pa) (lN pb) cl a0 a1 a2 a3 a4 a5 a6 a7 a8 a9 b0 b1 oc b2 b3 b4 b5 ++ (iw_ws a7 cI 256 bf ++ (iw_ws a8 cI 64 sc ++ (iw_ws a9 cI 8 st ++ (iw_ws b0 cI 8 kS ++ (iw_ws b1 cI 64 kR ++ (jw_ws a2 cJ 4 tf ++ (jw_ws a0 cJ 1232 nf ++ (jw_ws a1 cJ 616 cf ++ (iw_ws a4 cI 4 kf ++ (jw_ws b2 cJ 4 ky ++ (jw_ws a3 cJ 16 lf)))))))))))) s.heap.size = A at hD ⊢
  have hA : ∀ q : Nat, s.heap.size ≤ q → A q := fun q h => by rw [← hAe]; exact Or.inr h
  have hS : va_S A s.heap s.heap [] := va_S.rf
  have hl := lv_entry ([.ref m0, .int x1, .long x2, .long x3, .long x4]) (n := 8) (Nat.le_of_ble_eq_true rfl)
  rw [lg_entry_eq]
  generalize (lg_sl ([.ref m0, .int x1, .long x2, .long x3, .long x4]) ++ List.replicate (8 - (lg_sl ([.ref m0, .int x1, .long x2, .long x3, .long x4])).length) Slot.unset).toArray = ls at hl ⊢
  have hl : lv_has ls 8 [(0, .ref m0), (1, .int x1), (2, .long x2), (4, .long x3), (6, .long x4)] := hl
  refine lv_aload_n hx hb d_Bm_key_0 rfl (lv_at hl 0 rfl) ?_
  refine lv_iconst (v := 0) hx hb d_Bm_key_1 (by decide) ?_
  refine va_put (D := (dC, dI)) (ci := 8) (v := .int 0) (ty := .int) (C := "BallotBoardModel") (T := F_Bm) (N := 28) hx hb hts (fun w9 h9 => List.mem_cons_of_mem _ (i_Bm w9 h9)) t_Bm t_Bm_ok n_Bm hown hK hP hD hS 0 rfl rfl 0 (by decide) (hts _ (List.mem_cons_of_mem _ gk_919)) (fun _ h9 => h9) rfl (by decide +kernel) rfl rfl (Nat.le_of_ble_eq_true rfl) d_Bm_key_2 (fun H locs hP hD hS => ?_)
  have hP : va_P (dC, dI) classes [(m0, .inr (8, [.int 0, .int (nI N), .int (nI n), .int (nI bc), .long (lN P), .long (lN Q), .long (lN G), .long (lN al), .long (lN pa), .long (lN pb), .int cl, .ref a0, .ref a1, .ref a2, .ref a3, .ref a4, .ref a5, .ref a6, .ref a7, .ref a8, .ref a9, .ref b0, .ref b1, .int (nI oc), .ref b2, .ref b3, .ref b4, .ref b5])), (a7, .inl (cI, 256, .inl bf)), (a8, .inl (cI, 64, .inl sc)), (a9, .inl (cI, 8, .inl st)), (b0, .inl (cI, 8, .inl kS)), (b1, .inl (cI, 64, .inl kR)), (a2, .inl (cJ, 4, .inr (.inl tf))), (a0, .inl (cJ, 1232, .inr (.inl nf))), (a1, .inl (cJ, 616, .inr (.inl cf))), (a4, .inl (cI, 4, .inl kf)), (b2, .inl (cJ, 4, .inr (.inl ky))), (a3, .inl (cJ, 16, .inr (.inl lf)))] H := hP
  have hD : va_D A [(m0, .inr (8, [.int 0, .int (nI N), .int (nI n), .int (nI bc), .long (lN P), .long (lN Q), .long (lN G), .long (lN al), .long (lN pa), .long (lN pb), .int cl, .ref a0, .ref a1, .ref a2, .ref a3, .ref a4, .ref a5, .ref a6, .ref a7, .ref a8, .ref a9, .ref b0, .ref b1, .int (nI oc), .ref b2, .ref b3, .ref b4, .ref b5])), (a7, .inl (cI, 256, .inl bf)), (a8, .inl (cI, 64, .inl sc)), (a9, .inl (cI, 8, .inl st)), (b0, .inl (cI, 8, .inl kS)), (b1, .inl (cI, 64, .inl kR)), (a2, .inl (cJ, 4, .inr (.inl tf))), (a0, .inl (cJ, 1232, .inr (.inl nf))), (a1, .inl (cJ, 616, .inr (.inl cf))), (a4, .inl (cI, 4, .inl kf)), (b2, .inl (cJ, 4, .inr (.inl ky))), (a3, .inl (cJ, 16, .inr (.inl lf)))] := hD
  refine lv_aload_n hx hb d_Bm_key_5 rfl (lv_at hl 0 rfl) ?_
  refine lv_aload_n hx hb d_Bm_key_6 rfl (lv_at hl 0 rfl) ?_
  refine va_get (D := (dC, dI)) (ci := 8) (v := .int (nI N)) (C := "BallotBoardModel") (T := F_Bm) (N := 28) hx hb hts (fun w9 h9 => List.mem_cons_of_mem _ (i_Bm w9 h9)) hown hK hP 0 rfl rfl 1 (by decide) (hts _ (List.mem_cons_of_mem _ gk_920)) (fun _ h9 => h9) rfl d_Bm_key_7 ?_
  refine lv_if_eq (tgt := 43) hx hb d_Bm_key_10 (by decide) (fun c_1 => ?_) (fun c_1 => ?_)
  · -- taken
    have hN0 : N = 0 := nI_inj (b := 0) (by omega) (by omega) c_1
    refine lv_iconst (v := 1) hx hb d_Bm_key_43 (by decide) ?_
    refine lv_goto (tgt := 48) hx hb d_Bm_key_44 (by decide) ?_
    refine lv_iconst (v := 1) hx hb d_Bm_key_48 (by decide) ?_
    have hPc := hP.sub (ws' := (mo_ws m0 0 (nI N) (nI n) (nI bc) (lN P) (lN Q) (lN G) (lN al) (lN pa) (lN pb) cl a0 a1 a2 a3 a4 a5 a6 a7 a8 a9 b0 b1 oc b2 b3 b4 b5)) [0] rfl
    have hDc := hD.sub (ws' := (mo_ws m0 0 (nI N) (nI n) (nI bc) (lN P) (lN Q) (lN G) (lN al) (lN pa) (lN pb) cl a0 a1 a2 a3 a4 a5 a6 a7 a8 a9 b0 b1 oc b2 b3 b4 b5)) [0] (by decide) rfl
    have hKc := hK.sub (tys' := [(cJ, .long), (cI, .int)]) [0, 1] rfl
    have hFc := va_free (wc := (mo_ws m0 0 (nI N) (nI n) (nI bc) (lN P) (lN Q) (lN G) (lN al) (lN pa) (lN pb) cl a0 a1 a2 a3 a4 a5 a6 a7 a8 a9 b0 b1 oc b2 b3 b4 b5)) hD hS hA [0] rfl
    refine va_calli (va_runV (As := [.int 1, .int 1]) (rest := []) ⟨hx, hb, hml, hown, hts⟩ (c_Bm_fails_1 l dC dI cJ cI H.size m0 (nI N) (nI n) (nI bc) (lN P) (lN Q) (lN G) (lN al) (lN pa) (lN pb) cl a0 a1 a2 a3 a4 a5 a6 a7 a8 a9 b0 b1 oc b2 b3 b4 b5 1 (by decide)) (cwV 2 hts (gw_V gk_1030 gk_1032 gp_27 gk_7 gk_1033) rfl rfl rfl (by decide +kernel) ⟨Nat.le_of_ble_eq_true rfl, Nat.le_of_ble_eq_true rfl⟩) ⟨fun a U g mk q => by obtain ⟨q0, q1, qP, qK, qD⟩ := q; exact ⟨q0, q1, qP, va_K.moved (u := U) (U := U.calling g mk a) (Vm.Alike.refl U.vm) qK, qD⟩, va_recv hK hP (ci := 8) (q0 := 0) rfl rfl, fun U hU hW => ⟨rfl, by rw [hU], by rw [hU]; exact hPc, va_K.moved hW.alike hKc, hDc.weaken (fun _ _ _ _ => trivial)⟩⟩ rfl rfl hl.1 rfl (lv_room (Nat.le_of_ble_eq_true rfl)) d_Bm_key_49 ⟨Nat.le_of_ble_eq_true rfl, Nat.le_of_ble_eq_true rfl⟩) hS (fun q _ h => hFc q h) hFc (fun r_2 u9 t9 H1 locs ht hvm hw hB hz1 hk1 hS => ?_)
    have hw : r_2 = 1 := hw
    subst hw
    obtain ⟨hP1, hK1, hD1⟩ := hB
    rw [ht] at hP1
    obtain ⟨hP, hD⟩ := va_join (wr := [(a7, .inl (cI, 256, .inl bf)), (a8, .inl (cI, 64, .inl sc)), (a9, .inl (cI, 8, .inl st)), (b0, .inl (cI, 8, .inl kS)), (b1, .inl (cI, 64, .inl kR)), (a2, .inl (cJ, 4, .inr (.inl tf))), (a0, .inl (cJ, 1232, .inr (.inl nf))), (a1, .inl (cJ, 616, .inr (.inl cf))), (a4, .inl (cI, 4, .inl kf)), (b2, .inl (cJ, 4, .inr (.inl ky))), (a3, .inl (cJ, 16, .inr (.inl lf)))]) (w1 := [(m0, .inr (8, [.int 1, .int (nI N), .int (nI n), .int (nI bc), .long (lN P), .long (lN Q), .long (lN G), .long (lN al), .long (lN pa), .long (lN pb), .int cl, .ref a0, .ref a1, .ref a2, .ref a3, .ref a4, .ref a5, .ref a6, .ref a7, .ref a8, .ref a9, .ref b0, .ref b1, .int (nI oc), .ref b2, .ref b3, .ref b4, .ref b5]))]) hP hD [0] [1, 2, 3, 4, 5, 6, 7, 8, 9, 10, 11] rfl rfl (by decide) (by decide) hk1 hFc hP1 hD1
    have hP := hP.sub (ws' := [(m0, .inr (8, [.int 1, .int (nI N), .int (nI n), .int (nI bc), .long (lN P), .long (lN Q), .long (lN G), .long (lN al), .long (lN pa), .long (lN pb), .int cl, .ref a0, .ref a1, .ref a2, .ref a3, .ref a4, .ref a5, .ref a6, .ref a7, .ref a8, .ref a9, .ref b0, .ref b1, .int (nI oc), .ref b2, .ref b3, .ref b4, .ref b5])), (a7, .inl (cI, 256, .inl bf)), (a8, .inl (cI, 64, .inl sc)), (a9, .inl (cI, 8, .inl st)), (b0, .inl (cI, 8, .inl kS)), (b1, .inl (cI, 64, .inl kR)), (a2, .inl (cJ, 4, .inr (.inl tf))), (a0, .inl (cJ, 1232, .inr (.inl nf))), (a1, .inl (cJ, 616, .inr (.inl cf))), (a4, .inl (cI, 4, .inl kf)), (b2, .inl (cJ, 4, .inr (.inl ky))), (a3, .inl (cJ, 16, .inr (.inl lf)))]) [11, 0, 1, 2, 3, 4, 5, 6, 7, 8, 9, 10] rfl
    have hD := hD.sub (ws' := [(m0, .inr (8, [.int 1, .int (nI N), .int (nI n), .int (nI bc), .long (lN P), .long (lN Q), .long (lN G), .long (lN al), .long (lN pa), .long (lN pb), .int cl, .ref a0, .ref a1, .ref a2, .ref a3, .ref a4, .ref a5, .ref a6, .ref a7, .ref a8, .ref a9, .ref b0, .ref b1, .int (nI oc), .ref b2, .ref b3, .ref b4, .ref b5])), (a7, .inl (cI, 256, .inl bf)), (a8, .inl (cI, 64, .inl sc)), (a9, .inl (cI, 8, .inl st)), (b0, .inl (cI, 8, .inl kS)), (b1, .inl (cI, 64, .inl kR)), (a2, .inl (cJ, 4, .inr (.inl tf))), (a0, .inl (cJ, 1232, .inr (.inl nf))), (a1, .inl (cJ, 616, .inr (.inl cf))), (a4, .inl (cI, 4, .inl kf)), (b2, .inl (cJ, 4, .inr (.inl ky))), (a3, .inl (cJ, 16, .inr (.inl lf)))]) [11, 0, 1, 2, 3, 4, 5, 6, 7, 8, 9, 10] (by decide) rfl
    generalize H1 = H at hP hS ⊢
    refine lv_if_ne (tgt := 95) hx hb d_Bm_key_52 (by decide) (fun c_3 => ?_) (fun c_3 => ?_)
    · -- taken
      refine lv_iconst (v := 0) hx hb d_Bm_key_95 (by decide) ?_
      exact W.iret (v := 0) hx hb hr (fun t ht9 hW => ⟨⟨_, (), rfl, trivial, by rw [ht9]; exact hP, va_K.moved hW.alike hK, hD⟩, hS.F ht9⟩) hS.2.2 d_Bm_key_96
    · -- not taken
      exact absurd c_3 (by decide)
  · -- not taken
    have hN0 : 0 < N := Nat.pos_of_ne_zero (fun h => c_1 (by rw [h]; rfl))
    obtain ⟨hPQ, h61F, hQ3, hG2, hGP, hGQ⟩ := hgr hN0
    refine lv_aload_n hx hb d_Bm_key_13 rfl (lv_at hl 0 rfl) ?_
    refine va_get (D := (dC, dI)) (ci := 8) (v := .int cl) (C := "BallotBoardModel") (T := F_Bm) (N := 28) hx hb hts (fun w9 h9 => List.mem_cons_of_mem _ (i_Bm w9 h9)) hown hK hP 0 rfl rfl 10 (by decide) (hts _ (List.mem_cons_of_mem _ gk_929)) (fun _ h9 => h9) rfl d_Bm_key_14 ?_
    refine lv_if_ne (tgt := 43) hx hb d_Bm_key_17 (by decide) (fun c_4 => ?_) (fun c_4 => ?_)
    · -- taken
      have hcl1 := c_4
      refine lv_iconst (v := 1) hx hb d_Bm_key_43 (by decide) ?_
      refine lv_goto (tgt := 48) hx hb d_Bm_key_44 (by decide) ?_
      refine lv_iconst (v := 1) hx hb d_Bm_key_48 (by decide) ?_
      have hPc := hP.sub (ws' := (mo_ws m0 0 (nI N) (nI n) (nI bc) (lN P) (lN Q) (lN G) (lN al) (lN pa) (lN pb) cl a0 a1 a2 a3 a4 a5 a6 a7 a8 a9 b0 b1 oc b2 b3 b4 b5)) [0] rfl
      have hDc := hD.sub (ws' := (mo_ws m0 0 (nI N) (nI n) (nI bc) (lN P) (lN Q) (lN G) (lN al) (lN pa) (lN pb) cl a0 a1 a2 a3 a4 a5 a6 a7 a8 a9 b0 b1 oc b2 b3 b4 b5)) [0] (by decide) rfl
      have hKc := hK.sub (tys' := [(cJ, .long), (cI, .int)]) [0, 1] rfl
      have hFc := va_free (wc := (mo_ws m0 0 (nI N) (nI n) (nI bc) (lN P) (lN Q) (lN G) (lN al) (lN pa) (lN pb) cl a0 a1 a2 a3 a4 a5 a6 a7 a8 a9 b0 b1 oc b2 b3 b4 b5)) hD hS hA [0] rfl
      refine va_calli (va_runV (As := [.int 1, .int 1]) (rest := []) ⟨hx, hb, hml, hown, hts⟩ (c_Bm_fails_1 l dC dI cJ cI H.size m0 (nI N) (nI n) (nI bc) (lN P) (lN Q) (lN G) (lN al) (lN pa) (lN pb) cl a0 a1 a2 a3 a4 a5 a6 a7 a8 a9 b0 b1 oc b2 b3 b4 b5 1 (by decide)) (cwV 2 hts (gw_V gk_1030 gk_1032 gp_27 gk_7 gk_1033) rfl rfl rfl (by decide +kernel) ⟨Nat.le_of_ble_eq_true rfl, Nat.le_of_ble_eq_true rfl⟩) ⟨fun a U g mk q => by obtain ⟨q0, q1, qP, qK, qD⟩ := q; exact ⟨q0, q1, qP, va_K.moved (u := U) (U := U.calling g mk a) (Vm.Alike.refl U.vm) qK, qD⟩, va_recv hK hP (ci := 8) (q0 := 0) rfl rfl, fun U hU hW => ⟨rfl, by rw [hU], by rw [hU]; exact hPc, va_K.moved hW.alike hKc, hDc.weaken (fun _ _ _ _ => trivial)⟩⟩ rfl rfl hl.1 rfl (lv_room (Nat.le_of_ble_eq_true rfl)) d_Bm_key_49 ⟨Nat.le_of_ble_eq_true rfl, Nat.le_of_ble_eq_true rfl⟩) hS (fun q _ h => hFc q h) hFc (fun r_5 u9 t9 H1 locs ht hvm hw hB hz1 hk1 hS => ?_)
      have hw : r_5 = 1 := hw
      subst hw
      obtain ⟨hP1, hK1, hD1⟩ := hB
      rw [ht] at hP1
      obtain ⟨hP, hD⟩ := va_join (wr := [(a7, .inl (cI, 256, .inl bf)), (a8, .inl (cI, 64, .inl sc)), (a9, .inl (cI, 8, .inl st)), (b0, .inl (cI, 8, .inl kS)), (b1, .inl (cI, 64, .inl kR)), (a2, .inl (cJ, 4, .inr (.inl tf))), (a0, .inl (cJ, 1232, .inr (.inl nf))), (a1, .inl (cJ, 616, .inr (.inl cf))), (a4, .inl (cI, 4, .inl kf)), (b2, .inl (cJ, 4, .inr (.inl ky))), (a3, .inl (cJ, 16, .inr (.inl lf)))]) (w1 := [(m0, .inr (8, [.int 1, .int (nI N), .int (nI n), .int (nI bc), .long (lN P), .long (lN Q), .long (lN G), .long (lN al), .long (lN pa), .long (lN pb), .int cl, .ref a0, .ref a1, .ref a2, .ref a3, .ref a4, .ref a5, .ref a6, .ref a7, .ref a8, .ref a9, .ref b0, .ref b1, .int (nI oc), .ref b2, .ref b3, .ref b4, .ref b5]))]) hP hD [0] [1, 2, 3, 4, 5, 6, 7, 8, 9, 10, 11] rfl rfl (by decide) (by decide) hk1 hFc hP1 hD1
      have hP := hP.sub (ws' := [(m0, .inr (8, [.int 1, .int (nI N), .int (nI n), .int (nI bc), .long (lN P), .long (lN Q), .long (lN G), .long (lN al), .long (lN pa), .long (lN pb), .int cl, .ref a0, .ref a1, .ref a2, .ref a3, .ref a4, .ref a5, .ref a6, .ref a7, .ref a8, .ref a9, .ref b0, .ref b1, .int (nI oc), .ref b2, .ref b3, .ref b4, .ref b5])), (a7, .inl (cI, 256, .inl bf)), (a8, .inl (cI, 64, .inl sc)), (a9, .inl (cI, 8, .inl st)), (b0, .inl (cI, 8, .inl kS)), (b1, .inl (cI, 64, .inl kR)), (a2, .inl (cJ, 4, .inr (.inl tf))), (a0, .inl (cJ, 1232, .inr (.inl nf))), (a1, .inl (cJ, 616, .inr (.inl cf))), (a4, .inl (cI, 4, .inl kf)), (b2, .inl (cJ, 4, .inr (.inl ky))), (a3, .inl (cJ, 16, .inr (.inl lf)))]) [11, 0, 1, 2, 3, 4, 5, 6, 7, 8, 9, 10] rfl
      have hD := hD.sub (ws' := [(m0, .inr (8, [.int 1, .int (nI N), .int (nI n), .int (nI bc), .long (lN P), .long (lN Q), .long (lN G), .long (lN al), .long (lN pa), .long (lN pb), .int cl, .ref a0, .ref a1, .ref a2, .ref a3, .ref a4, .ref a5, .ref a6, .ref a7, .ref a8, .ref a9, .ref b0, .ref b1, .int (nI oc), .ref b2, .ref b3, .ref b4, .ref b5])), (a7, .inl (cI, 256, .inl bf)), (a8, .inl (cI, 64, .inl sc)), (a9, .inl (cI, 8, .inl st)), (b0, .inl (cI, 8, .inl kS)), (b1, .inl (cI, 64, .inl kR)), (a2, .inl (cJ, 4, .inr (.inl tf))), (a0, .inl (cJ, 1232, .inr (.inl nf))), (a1, .inl (cJ, 616, .inr (.inl cf))), (a4, .inl (cI, 4, .inl kf)), (b2, .inl (cJ, 4, .inr (.inl ky))), (a3, .inl (cJ, 16, .inr (.inl lf)))]) [11, 0, 1, 2, 3, 4, 5, 6, 7, 8, 9, 10] (by decide) rfl
      generalize H1 = H at hP hS ⊢
      refine lv_if_ne (tgt := 95) hx hb d_Bm_key_52 (by decide) (fun c_6 => ?_) (fun c_6 => ?_)
      · -- taken
        refine lv_iconst (v := 0) hx hb d_Bm_key_95 (by decide) ?_
        exact W.iret (v := 0) hx hb hr (fun t ht9 hW => ⟨⟨_, (), rfl, trivial, by rw [ht9]; exact hP, va_K.moved hW.alike hK, hD⟩, hS.F ht9⟩) hS.2.2 d_Bm_key_96
      · -- not taken
        exact absurd c_6 (by decide)
    · -- not taken
      have hcl0 : cl = 0 := c_4
      refine lv_iload_n hx hb d_Bm_key_20 rfl (lv_at hl 1 rfl) ?_
      refine lv_iconst (v := 0) hx hb d_Bm_key_21 (by decide) ?_
      refine lv_aload_n hx hb d_Bm_key_22 rfl (lv_at hl 0 rfl) ?_
      refine va_get (D := (dC, dI)) (ci := 8) (v := .int (nI N)) (C := "BallotBoardModel") (T := F_Bm) (N := 28) hx hb hts (fun w9 h9 => List.mem_cons_of_mem _ (i_Bm w9 h9)) hown hK hP 0 rfl rfl 1 (by decide) (hts _ (List.mem_cons_of_mem _ gk_920)) (fun _ h9 => h9) rfl d_Bm_key_23 ?_
      refine lv_iconst (v := 1) hx hb d_Bm_key_26 (by decide) ?_
      refine lv_isub hx hb d_Bm_key_27 ?_
      rw [show ((nI N) - 1 : Int32) = (nI (N - 1)) from nI_subI (b := 1) (by omega) rfl]
      refine va_calli (va_runS (As := [.int x1, .int 0, .int (nI (N - 1))]) (rest := [.ref m0]) ⟨hx, hb, hml, hown, hts⟩ (c_Bm_in l H x1 0 (nI (N - 1))) (cwS 3 hts (gw_S gk_1027 gk_1028 gk_7 gk_1029) rfl rfl rfl (by decide +kernel) ⟨Nat.le_of_ble_eq_true rfl, Nat.le_of_ble_eq_true rfl⟩) ⟨fun a U g mk q => q, fun U hU hW => ⟨rfl, hU⟩⟩ rfl rfl hl.1 rfl (lv_room (Nat.le_of_ble_eq_true rfl)) d_Bm_key_28 ⟨Nat.le_of_ble_eq_true rfl, Nat.le_of_ble_eq_true rfl⟩) hS (fun q _ h => h.elim) (fun q h => h.elim) (fun r28 u9 t9 H1 locs ht hvm hw hB hz1 hk1 hS => ?_)
      obtain rfl : H = H1 := hB.symm.trans ht
      have h28 : bz r28 (inN x1 N) := bz_in hN0 (by omega) rfl hw
      refine lv_if_eq (tgt := 47) hx hb d_Bm_key_31 (by decide) (fun c_7 => ?_) (fun c_7 => ?_)
      · -- taken
        exfalso
        have hni := bz_f h28 c_7
        rcases hC1 with h | h | ⟨I, e9, hI9, _⟩
        · omega
        · rw [hcl0] at h; exact absurd h (by decide)
        · exact hni ⟨I, e9, hI9⟩
      · -- not taken
        obtain ⟨I, rfl, hI⟩ := bz_t h28 c_7
        refine lv_aload_n hx hb d_Bm_key_34 rfl (lv_at hl 0 rfl) ?_
        refine va_get (D := (dC, dI)) (ci := 8) (v := .ref a4) (C := "BallotBoardModel") (T := F_Bm) (N := 28) hx hb hts (fun w9 h9 => List.mem_cons_of_mem _ (i_Bm w9 h9)) hown hK hP 0 rfl rfl 15 (by decide) (hts _ (List.mem_cons_of_mem _ gk_934)) (fun _ h9 => h9) rfl d_Bm_key_35 ?_
        refine lv_iload_n hx hb d_Bm_key_38 rfl (lv_at hl 1 rfl) ?_
        refine va_iald hx hb hK hP 9 1 rfl rfl (vp_in_nI (by omega) (by omega)) d_Bm_key_39 ?_
        rw [show (kf (nI I : Int32).toNatClampNeg : Int32) = kf I from by rw [nI_clamp (by omega)]]
        refine lv_if_lt (tgt := 47) hx hb d_Bm_key_40 (by decide) (fun c_8 => ?_) (fun c_8 => ?_)
        · -- taken
          exfalso
          have hk9 := (rK_neg hrk hn (show I < 4 by omega)).mp c_8
          rcases hC1 with h | h | ⟨J, e9, hJ9, hk8⟩
          · omega
          · rw [hcl0] at h; exact absurd h (by decide)
          · have e8 := nI_inj (by omega) (by omega) e9
            subst e8
            exact hk8 hk9
        · -- not taken
          have hk9 := c_8
          refine lv_iconst (v := 1) hx hb d_Bm_key_43 (by decide) ?_
          refine lv_goto (tgt := 48) hx hb d_Bm_key_44 (by decide) ?_
          refine lv_iconst (v := 1) hx hb d_Bm_key_48 (by decide) ?_
          have hPc := hP.sub (ws' := (mo_ws m0 0 (nI N) (nI n) (nI bc) (lN P) (lN Q) (lN G) (lN al) (lN pa) (lN pb) cl a0 a1 a2 a3 a4 a5 a6 a7 a8 a9 b0 b1 oc b2 b3 b4 b5)) [0] rfl
          have hDc := hD.sub (ws' := (mo_ws m0 0 (nI N) (nI n) (nI bc) (lN P) (lN Q) (lN G) (lN al) (lN pa) (lN pb) cl a0 a1 a2 a3 a4 a5 a6 a7 a8 a9 b0 b1 oc b2 b3 b4 b5)) [0] (by decide) rfl
          have hKc := hK.sub (tys' := [(cJ, .long), (cI, .int)]) [0, 1] rfl
          have hFc := va_free (wc := (mo_ws m0 0 (nI N) (nI n) (nI bc) (lN P) (lN Q) (lN G) (lN al) (lN pa) (lN pb) cl a0 a1 a2 a3 a4 a5 a6 a7 a8 a9 b0 b1 oc b2 b3 b4 b5)) hD hS hA [0] rfl
          refine va_calli (va_runV (As := [.int 1, .int 1]) (rest := []) ⟨hx, hb, hml, hown, hts⟩ (c_Bm_fails_1 l dC dI cJ cI H.size m0 (nI N) (nI n) (nI bc) (lN P) (lN Q) (lN G) (lN al) (lN pa) (lN pb) cl a0 a1 a2 a3 a4 a5 a6 a7 a8 a9 b0 b1 oc b2 b3 b4 b5 1 (by decide)) (cwV 2 hts (gw_V gk_1030 gk_1032 gp_27 gk_7 gk_1033) rfl rfl rfl (by decide +kernel) ⟨Nat.le_of_ble_eq_true rfl, Nat.le_of_ble_eq_true rfl⟩) ⟨fun a U g mk q => by obtain ⟨q0, q1, qP, qK, qD⟩ := q; exact ⟨q0, q1, qP, va_K.moved (u := U) (U := U.calling g mk a) (Vm.Alike.refl U.vm) qK, qD⟩, va_recv hK hP (ci := 8) (q0 := 0) rfl rfl, fun U hU hW => ⟨rfl, by rw [hU], by rw [hU]; exact hPc, va_K.moved hW.alike hKc, hDc.weaken (fun _ _ _ _ => trivial)⟩⟩ rfl rfl hl.1 rfl (lv_room (Nat.le_of_ble_eq_true rfl)) d_Bm_key_49 ⟨Nat.le_of_ble_eq_true rfl, Nat.le_of_ble_eq_true rfl⟩) hS (fun q _ h => hFc q h) hFc (fun r_9 u9 t9 H1 locs ht hvm hw hB hz1 hk1 hS => ?_)
          have hw : r_9 = 1 := hw
          subst hw
          obtain ⟨hP1, hK1, hD1⟩ := hB
          rw [ht] at hP1
          obtain ⟨hP, hD⟩ := va_join (wr := [(a7, .inl (cI, 256, .inl bf)), (a8, .inl (cI, 64, .inl sc)), (a9, .inl (cI, 8, .inl st)), (b0, .inl (cI, 8, .inl kS)), (b1, .inl (cI, 64, .inl kR)), (a2, .inl (cJ, 4, .inr (.inl tf))), (a0, .inl (cJ, 1232, .inr (.inl nf))), (a1, .inl (cJ, 616, .inr (.inl cf))), (a4, .inl (cI, 4, .inl kf)), (b2, .inl (cJ, 4, .inr (.inl ky))), (a3, .inl (cJ, 16, .inr (.inl lf)))]) (w1 := [(m0, .inr (8, [.int 1, .int (nI N), .int (nI n), .int (nI bc), .long (lN P), .long (lN Q), .long (lN G), .long (lN al), .long (lN pa), .long (lN pb), .int cl, .ref a0, .ref a1, .ref a2, .ref a3, .ref a4, .ref a5, .ref a6, .ref a7, .ref a8, .ref a9, .ref b0, .ref b1, .int (nI oc), .ref b2, .ref b3, .ref b4, .ref b5]))]) hP hD [0] [1, 2, 3, 4, 5, 6, 7, 8, 9, 10, 11] rfl rfl (by decide) (by decide) hk1 hFc hP1 hD1
          have hP := hP.sub (ws' := [(m0, .inr (8, [.int 1, .int (nI N), .int (nI n), .int (nI bc), .long (lN P), .long (lN Q), .long (lN G), .long (lN al), .long (lN pa), .long (lN pb), .int cl, .ref a0, .ref a1, .ref a2, .ref a3, .ref a4, .ref a5, .ref a6, .ref a7, .ref a8, .ref a9, .ref b0, .ref b1, .int (nI oc), .ref b2, .ref b3, .ref b4, .ref b5])), (a7, .inl (cI, 256, .inl bf)), (a8, .inl (cI, 64, .inl sc)), (a9, .inl (cI, 8, .inl st)), (b0, .inl (cI, 8, .inl kS)), (b1, .inl (cI, 64, .inl kR)), (a2, .inl (cJ, 4, .inr (.inl tf))), (a0, .inl (cJ, 1232, .inr (.inl nf))), (a1, .inl (cJ, 616, .inr (.inl cf))), (a4, .inl (cI, 4, .inl kf)), (b2, .inl (cJ, 4, .inr (.inl ky))), (a3, .inl (cJ, 16, .inr (.inl lf)))]) [11, 0, 1, 2, 3, 4, 5, 6, 7, 8, 9, 10] rfl
          have hD := hD.sub (ws' := [(m0, .inr (8, [.int 1, .int (nI N), .int (nI n), .int (nI bc), .long (lN P), .long (lN Q), .long (lN G), .long (lN al), .long (lN pa), .long (lN pb), .int cl, .ref a0, .ref a1, .ref a2, .ref a3, .ref a4, .ref a5, .ref a6, .ref a7, .ref a8, .ref a9, .ref b0, .ref b1, .int (nI oc), .ref b2, .ref b3, .ref b4, .ref b5])), (a7, .inl (cI, 256, .inl bf)), (a8, .inl (cI, 64, .inl sc)), (a9, .inl (cI, 8, .inl st)), (b0, .inl (cI, 8, .inl kS)), (b1, .inl (cI, 64, .inl kR)), (a2, .inl (cJ, 4, .inr (.inl tf))), (a0, .inl (cJ, 1232, .inr (.inl nf))), (a1, .inl (cJ, 616, .inr (.inl cf))), (a4, .inl (cI, 4, .inl kf)), (b2, .inl (cJ, 4, .inr (.inl ky))), (a3, .inl (cJ, 16, .inr (.inl lf)))]) [11, 0, 1, 2, 3, 4, 5, 6, 7, 8, 9, 10] (by decide) rfl
          generalize H1 = H at hP hS ⊢
          refine lv_if_ne (tgt := 95) hx hb d_Bm_key_52 (by decide) (fun c_10 => ?_) (fun c_10 => ?_)
          · -- taken
            refine lv_iconst (v := 0) hx hb d_Bm_key_95 (by decide) ?_
            exact W.iret (v := 0) hx hb hr (fun t ht9 hW => ⟨⟨_, (), rfl, trivial, by rw [ht9]; exact hP, va_K.moved hW.alike hK, hD⟩, hS.F ht9⟩) hS.2.2 d_Bm_key_96
          · -- not taken
            exact absurd c_10 (by decide)
set_option maxHeartbeats 8000000 in
set_option maxRecDepth 100000 in
theorem c_Bm_key_2 (l : Launch) (dC : Nat → ClassId) (dI : Nat → Nat → Nat) (cJ cI : ClassId) (sz : Nat) (m0 : Nat) (e0 : Int32) (N n bc P Q G al pa pb : Nat) (cl : Int32) (a0 a1 a2 a3 a4 a5 a6 a7 a8 a9 b0 b1 oc b2 b3 b4 b5 : Nat) (bf sc st kf : Nat → Int32) (tf nf cf ky lf : Nat → Int64) (ko : Nat → Nat) (x1 : Int32) (x2 x3 x4 : Int64) (hN : N ≤ 4) (hgr : 0 < N → gfx P Q G) (hcl : cl = 0 ∨ cl = 1) (hn : n ≤ 154) (hrk : rK 4 n ko kf ky) (hko : ∀ j, ko j < 2 ^ 61) (hC1 : ¬ kC1 N cl ko x1) (hC2 : kC2 P Q G N x1 x2 x3 x4) : Met l y_Bm_key w_Bm_key ({ frames := 7, cells := 0, slots := 0, locals := 204 }) (va_Pc [.ref m0, .int x1, .long x2, .long x3, .long x4] (fun U => U.heap.size = sz ∧ va_P (dC, dI) classes (mo_ws m0 e0 (nI N) (nI n) (nI bc) (lN P) (lN Q) (lN G) (lN al) (lN pa) (lN pb) cl a0 a1 a2 a3 a4 a5 a6 a7 a8 a9 b0 b1 oc b2 b3 b4 b5 ++ (iw_ws a7 cI 256 bf ++ (iw_ws a8 cI 64 sc ++ (iw_ws a9 cI 8 st ++ (iw_ws b0 cI 8 kS ++ (iw_ws b1 cI 64 kR ++ (jw_ws a2 cJ 4 tf ++ (jw_ws a0 cJ 1232 nf ++ (jw_ws a1 cJ 616 cf ++ (iw_ws a4 cI 4 kf ++ (jw_ws b2 cJ 4 ky ++ (jw_ws a3 cJ 16 lf)))))))))))) U.heap ∧ va_K (dC, dI) classes [(cJ, .long), (cI, .int)] U ∧ va_D (fun _ => True) (mo_ws m0 e0 (nI N) (nI n) (nI bc) (lN P) (lN Q) (lN G) (lN al) (lN pa) (lN pb) cl a0 a1 a2 a3 a4 a5 a6 a7 a8 a9 b0 b1 oc b2 b3 b4 b5 ++ (iw_ws a7 cI 256 bf ++ (iw_ws a8 cI 64 sc ++ (iw_ws a9 cI 8 st ++ (iw_ws b0 cI 8 kS ++ (iw_ws b1 cI 64 kR ++ (jw_ws a2 cJ 4 tf ++ (jw_ws a0 cJ 1232 nf ++ (jw_ws a1 cJ 616 cf ++ (iw_ws a4 cI 4 kf ++ (jw_ws b2 cJ 4 ky ++ (jw_ws a3 cJ 16 lf)))))))))))))) (va_Qi (fun (r : Int32) (u9 : DU × (Nat → Int64)) => True) (fun u9 t => va_P (dC, dI) classes (mo_ws m0 2 (nI N) (nI n) (nI bc) (lN P) (lN Q) (lN G) (lN al) (lN pa) (lN pb) cl a0 a1 a2 a3 a4 a5 a6 a7 a8 a9 b0 b1 u9.1.2.2.2.2 b2 b3 b4 b5 ++ (iw_ws a7 cI 256 u9.1.1 ++ (iw_ws a8 cI 64 u9.1.2.1 ++ (iw_ws a9 cI 8 u9.1.2.2.1 ++ (iw_ws b0 cI 8 kS ++ (iw_ws b1 cI 64 kR ++ (jw_ws a2 cJ 4 u9.1.2.2.2.1 ++ (jw_ws a0 cJ 1232 nf ++ (jw_ws a1 cJ 616 cf ++ (iw_ws a4 cI 4 kf ++ (jw_ws b2 cJ 4 ky ++ (jw_ws a3 cJ 16 u9.2)))))))))))) t.heap ∧ va_K (dC, dI) classes [(cJ, .long), (cI, .int)] t ∧ va_D (va_A (mo_ws m0 e0 (nI N) (nI n) (nI bc) (lN P) (lN Q) (lN G) (lN al) (lN pa) (lN pb) cl a0 a1 a2 a3 a4 a5 a6 a7 a8 a9 b0 b1 oc b2 b3 b4 b5 ++ (iw_ws a7 cI 256 bf ++ (iw_ws a8 cI 64 sc ++ (iw_ws a9 cI 8 st ++ (iw_ws b0 cI 8 kS ++ (iw_ws b1 cI 64 kR ++ (jw_ws a2 cJ 4 tf ++ (jw_ws a0 cJ 1232 nf ++ (jw_ws a1 cJ 616 cf ++ (iw_ws a4 cI 4 kf ++ (jw_ws b2 cJ 4 ky ++ (jw_ws a3 cJ 16 lf)))))))))))) sz) (mo_ws m0 2 (nI N) (nI n) (nI bc) (lN P) (lN Q) (lN G) (lN al) (lN pa) (lN pb) cl a0 a1 a2 a3 a4 a5 a6 a7 a8 a9 b0 b1 u9.1.2.2.2.2 b2 b3 b4 b5 ++ (iw_ws a7 cI 256 u9.1.1 ++ (iw_ws a8 cI 64 u9.1.2.1 ++ (iw_ws a9 cI 8 u9.1.2.2.1 ++ (iw_ws b0 cI 8 kS ++ (iw_ws b1 cI 64 kR ++ (jw_ws a2 cJ 4 u9.1.2.2.2.1 ++ (jw_ws a0 cJ 1232 nf ++ (jw_ws a1 cJ 616 cf ++ (iw_ws a4 cI 4 kf ++ (jw_ws b2 cJ 4 ky ++ (jw_ws a3 cJ 16 u9.2))))))))))))) (va_A (mo_ws m0 e0 (nI N) (nI n) (nI bc) (lN P) (lN Q) (lN G) (lN al) (lN pa) (lN pb) cl a0 a1 a2 a3 a4 a5 a6 a7 a8 a9 b0 b1 oc b2 b3 b4 b5 ++ (iw_ws a7 cI 256 bf ++ (iw_ws a8 cI 64 sc ++ (iw_ws a9 cI 8 st ++ (iw_ws b0 cI 8 kS ++ (iw_ws b1 cI 64 kR ++ (jw_ws a2 cJ 4 tf ++ (jw_ws a0 cJ 1232 nf ++ (jw_ws a1 cJ 616 cf ++ (iw_ws a4 cI 4 kf ++ (jw_ws b2 cJ 4 ky ++ (jw_ws a3 cJ 16 lf)))))))))))) sz)) 0 0 (va_A (mo_ws m0 e0 (nI N) (nI n) (nI bc) (lN P) (lN Q) (lN G) (lN al) (lN pa) (lN pb) cl a0 a1 a2 a3 a4 a5 a6 a7 a8 a9 b0 b1 oc b2 b3 b4 b5 ++ (iw_ws a7 cI 256 bf ++ (iw_ws a8 cI 64 sc ++ (iw_ws a9 cI 8 st ++ (iw_ws b0 cI 8 kS ++ (iw_ws b1 cI 64 kR ++ (jw_ws a2 cJ 4 tf ++ (jw_ws a0 cJ 1232 nf ++ (jw_ws a1 cJ 616 cf ++ (iw_ws a4 cI 4 kf ++ (jw_ws b2 cJ 4 ky ++ (jw_ws a3 cJ 16 lf)))))))))))) sz) := by
  refine Met.ofW (cc := b_Bm_key) (maxL := 8) (ret := (some .int)) (by decide) rfl ?_
  intro p e s m args below meth c s₁ Bd hml hv
  obtain ⟨rfl, hsz, hP, hK, hD0⟩ := hv
  have hx := Bd.exec
  have hb := Bd.bytes
  have hr := Bd.returns
  have hts := atoms_spec (ws := w_Bm_key) Bd.pre
  have hown : s.vm.findClass "BallotBoardModel" = some m.cls := findClass_of_methodNamed Bd.named
  have hlocks := Bd.notSynchronized
  subst hsz
  have hD := hD0.self (sz := s.heap.size)
  generalize hAe : va_A (mo_ws m0 e0 (nI N) (nI n) (nI bc) (lN P) (lN Q) (lN G) (lN al) (lN pa) (lN pb) cl a0 a1 a2 a3 a4 a5 a6 a7 a8 a9 b0 b1 oc b2 b3 b4 b5 ++ (iw_ws a7 cI 256 bf ++ (iw_ws a8 cI 64 sc ++ (iw_ws a9 cI 8 st ++ (iw_ws b0 cI 8 kS ++ (iw_ws b1 cI 64 kR ++ (jw_ws a2 cJ 4 tf ++ (jw_ws a0 cJ 1232 nf ++ (jw_ws a1 cJ 616 cf ++ (iw_ws a4 cI 4 kf ++ (jw_ws b2 cJ 4 ky ++ (jw_ws a3 cJ 16 lf)))))))))))) s.heap.size = A at hD ⊢
  have hA : ∀ q : Nat, s.heap.size ≤ q → A q := fun q h => by rw [← hAe]; exact Or.inr h
  have hS : va_S A s.heap s.heap [] := va_S.rf
  have hl := lv_entry ([.ref m0, .int x1, .long x2, .long x3, .long x4]) (n := 8) (Nat.le_of_ble_eq_true rfl)
  rw [lg_entry_eq]
  generalize (lg_sl ([.ref m0, .int x1, .long x2, .long x3, .long x4]) ++ List.replicate (8 - (lg_sl ([.ref m0, .int x1, .long x2, .long x3, .long x4])).length) Slot.unset).toArray = ls at hl ⊢
  have hl : lv_has ls 8 [(0, .ref m0), (1, .int x1), (2, .long x2), (4, .long x3), (6, .long x4)] := hl
  refine lv_aload_n hx hb d_Bm_key_0 rfl (lv_at hl 0 rfl) ?_
  refine lv_iconst (v := 0) hx hb d_Bm_key_1 (by decide) ?_
  refine va_put (D := (dC, dI)) (ci := 8) (v := .int 0) (ty := .int) (C := "BallotBoardModel") (T := F_Bm) (N := 28) hx hb hts (fun w9 h9 => List.mem_cons_of_mem _ (i_Bm w9 h9)) t_Bm t_Bm_ok n_Bm hown hK hP hD hS 0 rfl rfl 0 (by decide) (hts _ (List.mem_cons_of_mem _ gk_919)) (fun _ h9 => h9) rfl (by decide +kernel) rfl rfl (Nat.le_of_ble_eq_true rfl) d_Bm_key_2 (fun H locs hP hD hS => ?_)
  have hP : va_P (dC, dI) classes [(m0, .inr (8, [.int 0, .int (nI N), .int (nI n), .int (nI bc), .long (lN P), .long (lN Q), .long (lN G), .long (lN al), .long (lN pa), .long (lN pb), .int cl, .ref a0, .ref a1, .ref a2, .ref a3, .ref a4, .ref a5, .ref a6, .ref a7, .ref a8, .ref a9, .ref b0, .ref b1, .int (nI oc), .ref b2, .ref b3, .ref b4, .ref b5])), (a7, .inl (cI, 256, .inl bf)), (a8, .inl (cI, 64, .inl sc)), (a9, .inl (cI, 8, .inl st)), (b0, .inl (cI, 8, .inl kS)), (b1, .inl (cI, 64, .inl kR)), (a2, .inl (cJ, 4, .inr (.inl tf))), (a0, .inl (cJ, 1232, .inr (.inl nf))), (a1, .inl (cJ, 616, .inr (.inl cf))), (a4, .inl (cI, 4, .inl kf)), (b2, .inl (cJ, 4, .inr (.inl ky))), (a3, .inl (cJ, 16, .inr (.inl lf)))] H := hP
  have hD : va_D A [(m0, .inr (8, [.int 0, .int (nI N), .int (nI n), .int (nI bc), .long (lN P), .long (lN Q), .long (lN G), .long (lN al), .long (lN pa), .long (lN pb), .int cl, .ref a0, .ref a1, .ref a2, .ref a3, .ref a4, .ref a5, .ref a6, .ref a7, .ref a8, .ref a9, .ref b0, .ref b1, .int (nI oc), .ref b2, .ref b3, .ref b4, .ref b5])), (a7, .inl (cI, 256, .inl bf)), (a8, .inl (cI, 64, .inl sc)), (a9, .inl (cI, 8, .inl st)), (b0, .inl (cI, 8, .inl kS)), (b1, .inl (cI, 64, .inl kR)), (a2, .inl (cJ, 4, .inr (.inl tf))), (a0, .inl (cJ, 1232, .inr (.inl nf))), (a1, .inl (cJ, 616, .inr (.inl cf))), (a4, .inl (cI, 4, .inl kf)), (b2, .inl (cJ, 4, .inr (.inl ky))), (a3, .inl (cJ, 16, .inr (.inl lf)))] := hD
  refine lv_aload_n hx hb d_Bm_key_5 rfl (lv_at hl 0 rfl) ?_
  refine lv_aload_n hx hb d_Bm_key_6 rfl (lv_at hl 0 rfl) ?_
  refine va_get (D := (dC, dI)) (ci := 8) (v := .int (nI N)) (C := "BallotBoardModel") (T := F_Bm) (N := 28) hx hb hts (fun w9 h9 => List.mem_cons_of_mem _ (i_Bm w9 h9)) hown hK hP 0 rfl rfl 1 (by decide) (hts _ (List.mem_cons_of_mem _ gk_920)) (fun _ h9 => h9) rfl d_Bm_key_7 ?_
  refine lv_if_eq (tgt := 43) hx hb d_Bm_key_10 (by decide) (fun c_1 => ?_) (fun c_1 => ?_)
  · -- taken
    exact absurd (Or.inl (nI_inj (b := 0) (by omega) (by omega) c_1)) hC1
  · -- not taken
    have hN0 : 0 < N := Nat.pos_of_ne_zero (fun h => c_1 (by rw [h]; rfl))
    obtain ⟨hPQ, h61F, hQ3, hG2, hGP, hGQ⟩ := hgr hN0
    refine lv_aload_n hx hb d_Bm_key_13 rfl (lv_at hl 0 rfl) ?_
    refine va_get (D := (dC, dI)) (ci := 8) (v := .int cl) (C := "BallotBoardModel") (T := F_Bm) (N := 28) hx hb hts (fun w9 h9 => List.mem_cons_of_mem _ (i_Bm w9 h9)) hown hK hP 0 rfl rfl 10 (by decide) (hts _ (List.mem_cons_of_mem _ gk_929)) (fun _ h9 => h9) rfl d_Bm_key_14 ?_
    refine lv_if_ne (tgt := 43) hx hb d_Bm_key_17 (by decide) (fun c_2 => ?_) (fun c_2 => ?_)
    · -- taken
      exact absurd (Or.inr (Or.inl (hcl.resolve_left c_2))) hC1
    · -- not taken
      have hcl0 : cl = 0 := c_2
      refine lv_iload_n hx hb d_Bm_key_20 rfl (lv_at hl 1 rfl) ?_
      refine lv_iconst (v := 0) hx hb d_Bm_key_21 (by decide) ?_
      refine lv_aload_n hx hb d_Bm_key_22 rfl (lv_at hl 0 rfl) ?_
      refine va_get (D := (dC, dI)) (ci := 8) (v := .int (nI N)) (C := "BallotBoardModel") (T := F_Bm) (N := 28) hx hb hts (fun w9 h9 => List.mem_cons_of_mem _ (i_Bm w9 h9)) hown hK hP 0 rfl rfl 1 (by decide) (hts _ (List.mem_cons_of_mem _ gk_920)) (fun _ h9 => h9) rfl d_Bm_key_23 ?_
      refine lv_iconst (v := 1) hx hb d_Bm_key_26 (by decide) ?_
      refine lv_isub hx hb d_Bm_key_27 ?_
      rw [show ((nI N) - 1 : Int32) = (nI (N - 1)) from nI_subI (b := 1) (by omega) rfl]
      refine va_calli (va_runS (As := [.int x1, .int 0, .int (nI (N - 1))]) (rest := [.ref m0]) ⟨hx, hb, hml, hown, hts⟩ (c_Bm_in l H x1 0 (nI (N - 1))) (cwS 3 hts (gw_S gk_1027 gk_1028 gk_7 gk_1029) rfl rfl rfl (by decide +kernel) ⟨Nat.le_of_ble_eq_true rfl, Nat.le_of_ble_eq_true rfl⟩) ⟨fun a U g mk q => q, fun U hU hW => ⟨rfl, hU⟩⟩ rfl rfl hl.1 rfl (lv_room (Nat.le_of_ble_eq_true rfl)) d_Bm_key_28 ⟨Nat.le_of_ble_eq_true rfl, Nat.le_of_ble_eq_true rfl⟩) hS (fun q _ h => h.elim) (fun q h => h.elim) (fun r28 u9 t9 H1 locs ht hvm hw hB hz1 hk1 hS => ?_)
      obtain rfl : H = H1 := hB.symm.trans ht
      have h28 : bz r28 (inN x1 N) := bz_in hN0 (by omega) rfl hw
      refine lv_if_eq (tgt := 47) hx hb d_Bm_key_31 (by decide) (fun c_3 => ?_) (fun c_3 => ?_)
      · -- taken
        have hni := bz_f h28 c_3
        refine lv_iconst (v := 0) hx hb d_Bm_key_47 (by decide) ?_
        refine lv_iconst (v := 1) hx hb d_Bm_key_48 (by decide) ?_
        have hPc := hP.sub (ws' := (mo_ws m0 0 (nI N) (nI n) (nI bc) (lN P) (lN Q) (lN G) (lN al) (lN pa) (lN pb) cl a0 a1 a2 a3 a4 a5 a6 a7 a8 a9 b0 b1 oc b2 b3 b4 b5)) [0] rfl
        have hDc := hD.sub (ws' := (mo_ws m0 0 (nI N) (nI n) (nI bc) (lN P) (lN Q) (lN G) (lN al) (lN pa) (lN pb) cl a0 a1 a2 a3 a4 a5 a6 a7 a8 a9 b0 b1 oc b2 b3 b4 b5)) [0] (by decide) rfl
        have hKc := hK.sub (tys' := [(cJ, .long), (cI, .int)]) [0, 1] rfl
        have hFc := va_free (wc := (mo_ws m0 0 (nI N) (nI n) (nI bc) (lN P) (lN Q) (lN G) (lN al) (lN pa) (lN pb) cl a0 a1 a2 a3 a4 a5 a6 a7 a8 a9 b0 b1 oc b2 b3 b4 b5)) hD hS hA [0] rfl
        refine va_calli (va_runV (As := [.int 0, .int 1]) (rest := []) ⟨hx, hb, hml, hown, hts⟩ (c_Bm_fails_0 l dC dI cJ cI H.size m0 (nI N) (nI n) (nI bc) (lN P) (lN Q) (lN G) (lN al) (lN pa) (lN pb) cl a0 a1 a2 a3 a4 a5 a6 a7 a8 a9 b0 b1 oc b2 b3 b4 b5 1) (cwV 2 hts (gw_V gk_1030 gk_1032 gp_27 gk_7 gk_1033) rfl rfl rfl (by decide +kernel) ⟨Nat.le_of_ble_eq_true rfl, Nat.le_of_ble_eq_true rfl⟩) ⟨fun a U g mk q => by obtain ⟨q0, q1, qP, qK, qD⟩ := q; exact ⟨q0, q1, qP, va_K.moved (u := U) (U := U.calling g mk a) (Vm.Alike.refl U.vm) qK, qD⟩, va_recv hK hP (ci := 8) (q0 := 0) rfl rfl, fun U hU hW => ⟨rfl, by rw [hU], by rw [hU]; exact hPc, va_K.moved hW.alike hKc, hDc.weaken (fun _ _ _ _ => trivial)⟩⟩ rfl rfl hl.1 rfl (lv_room (Nat.le_of_ble_eq_true rfl)) d_Bm_key_49 ⟨Nat.le_of_ble_eq_true rfl, Nat.le_of_ble_eq_true rfl⟩) hS (fun q _ h => hFc q h) hFc (fun r_4 u9 t9 H1 locs ht hvm hw hB hz1 hk1 hS => ?_)
        have hw : r_4 = 0 := hw
        subst hw
        obtain ⟨hP1, hK1, hD1⟩ := hB
        rw [ht] at hP1
        obtain ⟨hP, hD⟩ := va_join (wr := [(a7, .inl (cI, 256, .inl bf)), (a8, .inl (cI, 64, .inl sc)), (a9, .inl (cI, 8, .inl st)), (b0, .inl (cI, 8, .inl kS)), (b1, .inl (cI, 64, .inl kR)), (a2, .inl (cJ, 4, .inr (.inl tf))), (a0, .inl (cJ, 1232, .inr (.inl nf))), (a1, .inl (cJ, 616, .inr (.inl cf))), (a4, .inl (cI, 4, .inl kf)), (b2, .inl (cJ, 4, .inr (.inl ky))), (a3, .inl (cJ, 16, .inr (.inl lf)))]) (w1 := [(m0, .inr (8, [.int 0, .int (nI N), .int (nI n), .int (nI bc), .long (lN P), .long (lN Q), .long (lN G), .long (lN al), .long (lN pa), .long (lN pb), .int cl, .ref a0, .ref a1, .ref a2, .ref a3, .ref a4, .ref a5, .ref a6, .ref a7, .ref a8, .ref a9, .ref b0, .ref b1, .int (nI oc), .ref b2, .ref b3, .ref b4, .ref b5]))]) hP hD [0] [1, 2, 3, 4, 5, 6, 7, 8, 9, 10, 11] rfl rfl (by decide) (by decide) hk1 hFc hP1 hD1
        have hP := hP.sub (ws' := [(m0, .inr (8, [.int 0, .int (nI N), .int (nI n), .int (nI bc), .long (lN P), .long (lN Q), .long (lN G), .long (lN al), .long (lN pa), .long (lN pb), .int cl, .ref a0, .ref a1, .ref a2, .ref a3, .ref a4, .ref a5, .ref a6, .ref a7, .ref a8, .ref a9, .ref b0, .ref b1, .int (nI oc), .ref b2, .ref b3, .ref b4, .ref b5])), (a7, .inl (cI, 256, .inl bf)), (a8, .inl (cI, 64, .inl sc)), (a9, .inl (cI, 8, .inl st)), (b0, .inl (cI, 8, .inl kS)), (b1, .inl (cI, 64, .inl kR)), (a2, .inl (cJ, 4, .inr (.inl tf))), (a0, .inl (cJ, 1232, .inr (.inl nf))), (a1, .inl (cJ, 616, .inr (.inl cf))), (a4, .inl (cI, 4, .inl kf)), (b2, .inl (cJ, 4, .inr (.inl ky))), (a3, .inl (cJ, 16, .inr (.inl lf)))]) [11, 0, 1, 2, 3, 4, 5, 6, 7, 8, 9, 10] rfl
        have hD := hD.sub (ws' := [(m0, .inr (8, [.int 0, .int (nI N), .int (nI n), .int (nI bc), .long (lN P), .long (lN Q), .long (lN G), .long (lN al), .long (lN pa), .long (lN pb), .int cl, .ref a0, .ref a1, .ref a2, .ref a3, .ref a4, .ref a5, .ref a6, .ref a7, .ref a8, .ref a9, .ref b0, .ref b1, .int (nI oc), .ref b2, .ref b3, .ref b4, .ref b5])), (a7, .inl (cI, 256, .inl bf)), (a8, .inl (cI, 64, .inl sc)), (a9, .inl (cI, 8, .inl st)), (b0, .inl (cI, 8, .inl kS)), (b1, .inl (cI, 64, .inl kR)), (a2, .inl (cJ, 4, .inr (.inl tf))), (a0, .inl (cJ, 1232, .inr (.inl nf))), (a1, .inl (cJ, 616, .inr (.inl cf))), (a4, .inl (cI, 4, .inl kf)), (b2, .inl (cJ, 4, .inr (.inl ky))), (a3, .inl (cJ, 16, .inr (.inl lf)))]) [11, 0, 1, 2, 3, 4, 5, 6, 7, 8, 9, 10] (by decide) rfl
        generalize H1 = H at hP hS ⊢
        refine lv_if_ne (tgt := 95) hx hb d_Bm_key_52 (by decide) (fun c_5 => ?_) (fun c_5 => ?_)
        · -- taken
          exact absurd rfl c_5
        · -- not taken
          refine lv_aload_n hx hb d_Bm_key_55 rfl (lv_at hl 0 rfl) ?_
          refine lv_iload_n hx hb d_Bm_key_56 rfl (lv_at hl 1 rfl) ?_
          refine lv_iconst (v := 0) hx hb d_Bm_key_57 (by decide) ?_
          refine lv_aload_n hx hb d_Bm_key_58 rfl (lv_at hl 0 rfl) ?_
          refine va_get (D := (dC, dI)) (ci := 8) (v := .int (nI N)) (C := "BallotBoardModel") (T := F_Bm) (N := 28) hx hb hts (fun w9 h9 => List.mem_cons_of_mem _ (i_Bm w9 h9)) hown hK hP 0 rfl rfl 1 (by decide) (hts _ (List.mem_cons_of_mem _ gk_920)) (fun _ h9 => h9) rfl d_Bm_key_59 ?_
          refine lv_iconst (v := 1) hx hb d_Bm_key_62 (by decide) ?_
          refine lv_isub hx hb d_Bm_key_63 ?_
          rw [show ((nI N) - 1 : Int32) = (nI (N - 1)) from nI_subI (b := 1) (by omega) rfl]
          refine va_calli (va_runS (As := [.int x1, .int 0, .int (nI (N - 1))]) (rest := [.ref m0]) ⟨hx, hb, hml, hown, hts⟩ (c_Bm_in l H x1 0 (nI (N - 1))) (cwS 3 hts (gw_S gk_1027 gk_1028 gk_7 gk_1029) rfl rfl rfl (by decide +kernel) ⟨Nat.le_of_ble_eq_true rfl, Nat.le_of_ble_eq_true rfl⟩) ⟨fun a U g mk q => q, fun U hU hW => ⟨rfl, hU⟩⟩ rfl rfl hl.1 rfl (lv_room (Nat.le_of_ble_eq_true rfl)) d_Bm_key_64 ⟨Nat.le_of_ble_eq_true rfl, Nat.le_of_ble_eq_true rfl⟩) hS (fun q _ h => h.elim) (fun q h => h.elim) (fun r64 u9 t9 H1 locs ht hvm hw hB hz1 hk1 hS => ?_)
          obtain rfl : H = H1 := hB.symm.trans ht
          have h64 : bz r64 (inN x1 N) := bz_in hN0 (by omega) rfl hw
          refine lv_if_eq (tgt := 83) hx hb d_Bm_key_67 (by decide) (fun c_6 => ?_) (fun c_6 => ?_)
          · -- taken
            have hni2 := bz_f h64 c_6
            refine lv_iconst (v := 1) hx hb d_Bm_key_83 (by decide) ?_
            refine lv_goto (tgt := 88) hx hb d_Bm_key_84 (by decide) ?_
            refine lv_iconst (v := 2) hx hb d_Bm_key_88 (by decide) ?_
            have hPc := hP.sub (ws' := (mo_ws m0 0 (nI N) (nI n) (nI bc) (lN P) (lN Q) (lN G) (lN al) (lN pa) (lN pb) cl a0 a1 a2 a3 a4 a5 a6 a7 a8 a9 b0 b1 oc b2 b3 b4 b5)) [0] rfl
            have hDc := hD.sub (ws' := (mo_ws m0 0 (nI N) (nI n) (nI bc) (lN P) (lN Q) (lN G) (lN al) (lN pa) (lN pb) cl a0 a1 a2 a3 a4 a5 a6 a7 a8 a9 b0 b1 oc b2 b3 b4 b5)) [0] (by decide) rfl
            have hKc := hK.sub (tys' := [(cJ, .long), (cI, .int)]) [0, 1] rfl
            have hFc := va_free (wc := (mo_ws m0 0 (nI N) (nI n) (nI bc) (lN P) (lN Q) (lN G) (lN al) (lN pa) (lN pb) cl a0 a1 a2 a3 a4 a5 a6 a7 a8 a9 b0 b1 oc b2 b3 b4 b5)) hD hS hA [0] rfl
            refine va_calli (va_runV (As := [.int 1, .int 2]) (rest := []) ⟨hx, hb, hml, hown, hts⟩ (c_Bm_fails_1 l dC dI cJ cI H.size m0 (nI N) (nI n) (nI bc) (lN P) (lN Q) (lN G) (lN al) (lN pa) (lN pb) cl a0 a1 a2 a3 a4 a5 a6 a7 a8 a9 b0 b1 oc b2 b3 b4 b5 2 (by decide)) (cwV 2 hts (gw_V gk_1030 gk_1032 gp_27 gk_7 gk_1033) rfl rfl rfl (by decide +kernel) ⟨Nat.le_of_ble_eq_true rfl, Nat.le_of_ble_eq_true rfl⟩) ⟨fun a U g mk q => by obtain ⟨q0, q1, qP, qK, qD⟩ := q; exact ⟨q0, q1, qP, va_K.moved (u := U) (U := U.calling g mk a) (Vm.Alike.refl U.vm) qK, qD⟩, va_recv hK hP (ci := 8) (q0 := 0) rfl rfl, fun U hU hW => ⟨rfl, by rw [hU], by rw [hU]; exact hPc, va_K.moved hW.alike hKc, hDc.weaken (fun _ _ _ _ => trivial)⟩⟩ rfl rfl hl.1 rfl (lv_room (Nat.le_of_ble_eq_true rfl)) d_Bm_key_89 ⟨Nat.le_of_ble_eq_true rfl, Nat.le_of_ble_eq_true rfl⟩) hS (fun q _ h => hFc q h) hFc (fun r_7 u9 t9 H1 locs ht hvm hw hB hz1 hk1 hS => ?_)
            have hw : r_7 = 1 := hw
            subst hw
            obtain ⟨hP1, hK1, hD1⟩ := hB
            rw [ht] at hP1
            obtain ⟨hP, hD⟩ := va_join (wr := [(a7, .inl (cI, 256, .inl bf)), (a8, .inl (cI, 64, .inl sc)), (a9, .inl (cI, 8, .inl st)), (b0, .inl (cI, 8, .inl kS)), (b1, .inl (cI, 64, .inl kR)), (a2, .inl (cJ, 4, .inr (.inl tf))), (a0, .inl (cJ, 1232, .inr (.inl nf))), (a1, .inl (cJ, 616, .inr (.inl cf))), (a4, .inl (cI, 4, .inl kf)), (b2, .inl (cJ, 4, .inr (.inl ky))), (a3, .inl (cJ, 16, .inr (.inl lf)))]) (w1 := [(m0, .inr (8, [.int 2, .int (nI N), .int (nI n), .int (nI bc), .long (lN P), .long (lN Q), .long (lN G), .long (lN al), .long (lN pa), .long (lN pb), .int cl, .ref a0, .ref a1, .ref a2, .ref a3, .ref a4, .ref a5, .ref a6, .ref a7, .ref a8, .ref a9, .ref b0, .ref b1, .int (nI oc), .ref b2, .ref b3, .ref b4, .ref b5]))]) hP hD [0] [1, 2, 3, 4, 5, 6, 7, 8, 9, 10, 11] rfl rfl (by decide) (by decide) hk1 hFc hP1 hD1
            have hP := hP.sub (ws' := [(m0, .inr (8, [.int 2, .int (nI N), .int (nI n), .int (nI bc), .long (lN P), .long (lN Q), .long (lN G), .long (lN al), .long (lN pa), .long (lN pb), .int cl, .ref a0, .ref a1, .ref a2, .ref a3, .ref a4, .ref a5, .ref a6, .ref a7, .ref a8, .ref a9, .ref b0, .ref b1, .int (nI oc), .ref b2, .ref b3, .ref b4, .ref b5])), (a7, .inl (cI, 256, .inl bf)), (a8, .inl (cI, 64, .inl sc)), (a9, .inl (cI, 8, .inl st)), (b0, .inl (cI, 8, .inl kS)), (b1, .inl (cI, 64, .inl kR)), (a2, .inl (cJ, 4, .inr (.inl tf))), (a0, .inl (cJ, 1232, .inr (.inl nf))), (a1, .inl (cJ, 616, .inr (.inl cf))), (a4, .inl (cI, 4, .inl kf)), (b2, .inl (cJ, 4, .inr (.inl ky))), (a3, .inl (cJ, 16, .inr (.inl lf)))]) [11, 0, 1, 2, 3, 4, 5, 6, 7, 8, 9, 10] rfl
            have hD := hD.sub (ws' := [(m0, .inr (8, [.int 2, .int (nI N), .int (nI n), .int (nI bc), .long (lN P), .long (lN Q), .long (lN G), .long (lN al), .long (lN pa), .long (lN pb), .int cl, .ref a0, .ref a1, .ref a2, .ref a3, .ref a4, .ref a5, .ref a6, .ref a7, .ref a8, .ref a9, .ref b0, .ref b1, .int (nI oc), .ref b2, .ref b3, .ref b4, .ref b5])), (a7, .inl (cI, 256, .inl bf)), (a8, .inl (cI, 64, .inl sc)), (a9, .inl (cI, 8, .inl st)), (b0, .inl (cI, 8, .inl kS)), (b1, .inl (cI, 64, .inl kR)), (a2, .inl (cJ, 4, .inr (.inl tf))), (a0, .inl (cJ, 1232, .inr (.inl nf))), (a1, .inl (cJ, 616, .inr (.inl cf))), (a4, .inl (cI, 4, .inl kf)), (b2, .inl (cJ, 4, .inr (.inl ky))), (a3, .inl (cJ, 16, .inr (.inl lf)))]) [11, 0, 1, 2, 3, 4, 5, 6, 7, 8, 9, 10] (by decide) rfl
            generalize H1 = H at hP hS ⊢
            refine lv_if_eq (tgt := 97) hx hb d_Bm_key_92 (by decide) (fun c_8 => ?_) (fun c_8 => ?_)
            · -- taken
              exact absurd c_8 (by decide)
            · -- not taken
              refine lv_iconst (v := 0) hx hb d_Bm_key_95 (by decide) ?_
              exact W.iret (v := 0) hx hb hr (fun t ht9 hW => ⟨⟨_, ((bf, sc, st, tf, oc), lf), rfl, trivial, by rw [ht9]; exact hP, va_K.moved hW.alike hK, hD⟩, hS.F ht9⟩) hS.2.2 d_Bm_key_96
          · -- not taken
            exact absurd (bz_t h64 c_6) hni
      · -- not taken
        obtain ⟨I, rfl, hI⟩ := bz_t h28 c_3
        refine lv_aload_n hx hb d_Bm_key_34 rfl (lv_at hl 0 rfl) ?_
        refine va_get (D := (dC, dI)) (ci := 8) (v := .ref a4) (C := "BallotBoardModel") (T := F_Bm) (N := 28) hx hb hts (fun w9 h9 => List.mem_cons_of_mem _ (i_Bm w9 h9)) hown hK hP 0 rfl rfl 15 (by decide) (hts _ (List.mem_cons_of_mem _ gk_934)) (fun _ h9 => h9) rfl d_Bm_key_35 ?_
        refine lv_iload_n hx hb d_Bm_key_38 rfl (lv_at hl 1 rfl) ?_
        refine va_iald hx hb hK hP 9 1 rfl rfl (vp_in_nI (by omega) (by omega)) d_Bm_key_39 ?_
        rw [show (kf (nI I : Int32).toNatClampNeg : Int32) = kf I from by rw [nI_clamp (by omega)]]
        refine lv_if_lt (tgt := 47) hx hb d_Bm_key_40 (by decide) (fun c_9 => ?_) (fun c_9 => ?_)
        · -- taken
          have hk9 : ko I = 0 := (rK_neg hrk hn (show I < 4 by omega)).mp c_9
          refine lv_iconst (v := 0) hx hb d_Bm_key_47 (by decide) ?_
          refine lv_iconst (v := 1) hx hb d_Bm_key_48 (by decide) ?_
          have hPc := hP.sub (ws' := (mo_ws m0 0 (nI N) (nI n) (nI bc) (lN P) (lN Q) (lN G) (lN al) (lN pa) (lN pb) cl a0 a1 a2 a3 a4 a5 a6 a7 a8 a9 b0 b1 oc b2 b3 b4 b5)) [0] rfl
          have hDc := hD.sub (ws' := (mo_ws m0 0 (nI N) (nI n) (nI bc) (lN P) (lN Q) (lN G) (lN al) (lN pa) (lN pb) cl a0 a1 a2 a3 a4 a5 a6 a7 a8 a9 b0 b1 oc b2 b3 b4 b5)) [0] (by decide) rfl
          have hKc := hK.sub (tys' := [(cJ, .long), (cI, .int)]) [0, 1] rfl
          have hFc := va_free (wc := (mo_ws m0 0 (nI N) (nI n) (nI bc) (lN P) (lN Q) (lN G) (lN al) (lN pa) (lN pb) cl a0 a1 a2 a3 a4 a5 a6 a7 a8 a9 b0 b1 oc b2 b3 b4 b5)) hD hS hA [0] rfl
          refine va_calli (va_runV (As := [.int 0, .int 1]) (rest := []) ⟨hx, hb, hml, hown, hts⟩ (c_Bm_fails_0 l dC dI cJ cI H.size m0 (nI N) (nI n) (nI bc) (lN P) (lN Q) (lN G) (lN al) (lN pa) (lN pb) cl a0 a1 a2 a3 a4 a5 a6 a7 a8 a9 b0 b1 oc b2 b3 b4 b5 1) (cwV 2 hts (gw_V gk_1030 gk_1032 gp_27 gk_7 gk_1033) rfl rfl rfl (by decide +kernel) ⟨Nat.le_of_ble_eq_true rfl, Nat.le_of_ble_eq_true rfl⟩) ⟨fun a U g mk q => by obtain ⟨q0, q1, qP, qK, qD⟩ := q; exact ⟨q0, q1, qP, va_K.moved (u := U) (U := U.calling g mk a) (Vm.Alike.refl U.vm) qK, qD⟩, va_recv hK hP (ci := 8) (q0 := 0) rfl rfl, fun U hU hW => ⟨rfl, by rw [hU], by rw [hU]; exact hPc, va_K.moved hW.alike hKc, hDc.weaken (fun _ _ _ _ => trivial)⟩⟩ rfl rfl hl.1 rfl (lv_room (Nat.le_of_ble_eq_true rfl)) d_Bm_key_49 ⟨Nat.le_of_ble_eq_true rfl, Nat.le_of_ble_eq_true rfl⟩) hS (fun q _ h => hFc q h) hFc (fun r_10 u9 t9 H1 locs ht hvm hw hB hz1 hk1 hS => ?_)
          have hw : r_10 = 0 := hw
          subst hw
          obtain ⟨hP1, hK1, hD1⟩ := hB
          rw [ht] at hP1
          obtain ⟨hP, hD⟩ := va_join (wr := [(a7, .inl (cI, 256, .inl bf)), (a8, .inl (cI, 64, .inl sc)), (a9, .inl (cI, 8, .inl st)), (b0, .inl (cI, 8, .inl kS)), (b1, .inl (cI, 64, .inl kR)), (a2, .inl (cJ, 4, .inr (.inl tf))), (a0, .inl (cJ, 1232, .inr (.inl nf))), (a1, .inl (cJ, 616, .inr (.inl cf))), (a4, .inl (cI, 4, .inl kf)), (b2, .inl (cJ, 4, .inr (.inl ky))), (a3, .inl (cJ, 16, .inr (.inl lf)))]) (w1 := [(m0, .inr (8, [.int 0, .int (nI N), .int (nI n), .int (nI bc), .long (lN P), .long (lN Q), .long (lN G), .long (lN al), .long (lN pa), .long (lN pb), .int cl, .ref a0, .ref a1, .ref a2, .ref a3, .ref a4, .ref a5, .ref a6, .ref a7, .ref a8, .ref a9, .ref b0, .ref b1, .int (nI oc), .ref b2, .ref b3, .ref b4, .ref b5]))]) hP hD [0] [1, 2, 3, 4, 5, 6, 7, 8, 9, 10, 11] rfl rfl (by decide) (by decide) hk1 hFc hP1 hD1
          have hP := hP.sub (ws' := [(m0, .inr (8, [.int 0, .int (nI N), .int (nI n), .int (nI bc), .long (lN P), .long (lN Q), .long (lN G), .long (lN al), .long (lN pa), .long (lN pb), .int cl, .ref a0, .ref a1, .ref a2, .ref a3, .ref a4, .ref a5, .ref a6, .ref a7, .ref a8, .ref a9, .ref b0, .ref b1, .int (nI oc), .ref b2, .ref b3, .ref b4, .ref b5])), (a7, .inl (cI, 256, .inl bf)), (a8, .inl (cI, 64, .inl sc)), (a9, .inl (cI, 8, .inl st)), (b0, .inl (cI, 8, .inl kS)), (b1, .inl (cI, 64, .inl kR)), (a2, .inl (cJ, 4, .inr (.inl tf))), (a0, .inl (cJ, 1232, .inr (.inl nf))), (a1, .inl (cJ, 616, .inr (.inl cf))), (a4, .inl (cI, 4, .inl kf)), (b2, .inl (cJ, 4, .inr (.inl ky))), (a3, .inl (cJ, 16, .inr (.inl lf)))]) [11, 0, 1, 2, 3, 4, 5, 6, 7, 8, 9, 10] rfl
          have hD := hD.sub (ws' := [(m0, .inr (8, [.int 0, .int (nI N), .int (nI n), .int (nI bc), .long (lN P), .long (lN Q), .long (lN G), .long (lN al), .long (lN pa), .long (lN pb), .int cl, .ref a0, .ref a1, .ref a2, .ref a3, .ref a4, .ref a5, .ref a6, .ref a7, .ref a8, .ref a9, .ref b0, .ref b1, .int (nI oc), .ref b2, .ref b3, .ref b4, .ref b5])), (a7, .inl (cI, 256, .inl bf)), (a8, .inl (cI, 64, .inl sc)), (a9, .inl (cI, 8, .inl st)), (b0, .inl (cI, 8, .inl kS)), (b1, .inl (cI, 64, .inl kR)), (a2, .inl (cJ, 4, .inr (.inl tf))), (a0, .inl (cJ, 1232, .inr (.inl nf))), (a1, .inl (cJ, 616, .inr (.inl cf))), (a4, .inl (cI, 4, .inl kf)), (b2, .inl (cJ, 4, .inr (.inl ky))), (a3, .inl (cJ, 16, .inr (.inl lf)))]) [11, 0, 1, 2, 3, 4, 5, 6, 7, 8, 9, 10] (by decide) rfl
          generalize H1 = H at hP hS ⊢
          refine lv_if_ne (tgt := 95) hx hb d_Bm_key_52 (by decide) (fun c_11 => ?_) (fun c_11 => ?_)
          · -- taken
            exact absurd rfl c_11
          · -- not taken
            refine lv_aload_n hx hb d_Bm_key_55 rfl (lv_at hl 0 rfl) ?_
            refine lv_iload_n hx hb d_Bm_key_56 rfl (lv_at hl 1 rfl) ?_
            refine lv_iconst (v := 0) hx hb d_Bm_key_57 (by decide) ?_
            refine lv_aload_n hx hb d_Bm_key_58 rfl (lv_at hl 0 rfl) ?_
            refine va_get (D := (dC, dI)) (ci := 8) (v := .int (nI N)) (C := "BallotBoardModel") (T := F_Bm) (N := 28) hx hb hts (fun w9 h9 => List.mem_cons_of_mem _ (i_Bm w9 h9)) hown hK hP 0 rfl rfl 1 (by decide) (hts _ (List.mem_cons_of_mem _ gk_920)) (fun _ h9 => h9) rfl d_Bm_key_59 ?_
            refine lv_iconst (v := 1) hx hb d_Bm_key_62 (by decide) ?_
            refine lv_isub hx hb d_Bm_key_63 ?_
            rw [show ((nI N) - 1 : Int32) = (nI (N - 1)) from nI_subI (b := 1) (by omega) rfl]
            refine va_calli (va_runS (As := [.int (nI I), .int 0, .int (nI (N - 1))]) (rest := [.ref m0]) ⟨hx, hb, hml, hown, hts⟩ (c_Bm_in l H (nI I) 0 (nI (N - 1))) (cwS 3 hts (gw_S gk_1027 gk_1028 gk_7 gk_1029) rfl rfl rfl (by decide +kernel) ⟨Nat.le_of_ble_eq_true rfl, Nat.le_of_ble_eq_true rfl⟩) ⟨fun a U g mk q => q, fun U hU hW => ⟨rfl, hU⟩⟩ rfl rfl hl.1 rfl (lv_room (Nat.le_of_ble_eq_true rfl)) d_Bm_key_64 ⟨Nat.le_of_ble_eq_true rfl, Nat.le_of_ble_eq_true rfl⟩) hS (fun q _ h => h.elim) (fun q h => h.elim) (fun r64 u9 t9 H1 locs ht hvm hw hB hz1 hk1 hS => ?_)
            obtain rfl : H = H1 := hB.symm.trans ht
            have h64 : bz r64 (inN (nI I) N) := bz_in hN0 (by omega) rfl hw
            refine lv_if_eq (tgt := 83) hx hb d_Bm_key_67 (by decide) (fun c_12 => ?_) (fun c_12 => ?_)
            · -- taken
              exact absurd ⟨I, rfl, hI⟩ (bz_f h64 c_12)
            · -- not taken
              have hin2 := bz_t h64 c_12
              refine lv_aload_n hx hb d_Bm_key_70 rfl (lv_at hl 0 rfl) ?_
              refine lv_iload_n hx hb d_Bm_key_71 rfl (lv_at hl 1 rfl) ?_
              refine lv_lload_n hx hb d_Bm_key_72 rfl (lv_at hl 2 rfl) ?_
              refine lv_lload hx hb d_Bm_key_73 (lv_at hl 3 rfl) ?_
              refine lv_lload hx hb d_Bm_key_75 (lv_at hl 4 rfl) ?_
              have hPc := hP.sub (ws' := (mo_ws m0 0 (nI N) (nI n) (nI bc) (lN P) (lN Q) (lN G) (lN al) (lN pa) (lN pb) cl a0 a1 a2 a3 a4 a5 a6 a7 a8 a9 b0 b1 oc b2 b3 b4 b5 ++ (iw_ws a7 cI 256 bf ++ (iw_ws a8 cI 64 sc ++ (iw_ws a9 cI 8 st ++ (iw_ws b0 cI 8 kS ++ (iw_ws b1 cI 64 kR ++ (jw_ws a2 cJ 4 tf ++ (jw_ws a3 cJ 16 lf))))))))) [0, 1, 2, 3, 4, 5, 6, 11] rfl
              have hDc := hD.sub (ws' := (mo_ws m0 0 (nI N) (nI n) (nI bc) (lN P) (lN Q) (lN G) (lN al) (lN pa) (lN pb) cl a0 a1 a2 a3 a4 a5 a6 a7 a8 a9 b0 b1 oc b2 b3 b4 b5 ++ (iw_ws a7 cI 256 bf ++ (iw_ws a8 cI 64 sc ++ (iw_ws a9 cI 8 st ++ (iw_ws b0 cI 8 kS ++ (iw_ws b1 cI 64 kR ++ (jw_ws a2 cJ 4 tf ++ (jw_ws a3 cJ 16 lf))))))))) [0, 1, 2, 3, 4, 5, 6, 11] (by decide) rfl
              have hKc := hK.sub (tys' := [(cJ, .long), (cI, .int)]) [0, 1] rfl
              have hFc := va_free (wc := (mo_ws m0 0 (nI N) (nI n) (nI bc) (lN P) (lN Q) (lN G) (lN al) (lN pa) (lN pb) cl a0 a1 a2 a3 a4 a5 a6 a7 a8 a9 b0 b1 oc b2 b3 b4 b5 ++ (iw_ws a7 cI 256 bf ++ (iw_ws a8 cI 64 sc ++ (iw_ws a9 cI 8 st ++ (iw_ws b0 cI 8 kS ++ (iw_ws b1 cI 64 kR ++ (jw_ws a2 cJ 4 tf ++ (jw_ws a3 cJ 16 lf))))))))) hD hS hA [0, 1, 2, 3, 4, 5, 6, 11] rfl
              refine va_calli (va_runV (As := [.int (nI I), .long x2, .long x3, .long x4]) (rest := [.ref m0]) ⟨hx, hb, hml, hown, hts⟩ (c_Bm_keyHolds l dC dI cJ cI H.size m0 0 (nI N) (nI n) (nI bc) (lN al) (lN pa) (lN pb) cl a0 a1 a2 a3 a4 a5 a6 a7 a8 a9 b0 b1 oc b2 b3 b4 b5 P Q G bf sc st tf lf I x2 x3 x4 hPQ h61F hQ3 hG2 hGP hGQ (by omega)) (cwV 4 hts (gw_V gk_1038 gk_1040 gp_28 gk_7 gk_1041) rfl rfl rfl (by decide +kernel) ⟨Nat.le_of_ble_eq_true rfl, Nat.le_of_ble_eq_true rfl⟩) ⟨fun a U g mk q => by obtain ⟨q0, q1, qP, qK, qD⟩ := q; exact ⟨q0, q1, qP, va_K.moved (u := U) (U := U.calling g mk a) (Vm.Alike.refl U.vm) qK, qD⟩, va_recv hK hP (ci := 8) (q0 := 0) rfl rfl, fun U hU hW => ⟨rfl, by rw [hU], by rw [hU]; exact hPc, va_K.moved hW.alike hKc, hDc.weaken (fun _ _ _ _ => trivial)⟩⟩ rfl rfl hl.1 rfl (lv_room (Nat.le_of_ble_eq_true rfl)) d_Bm_key_77 ⟨Nat.le_of_ble_eq_true rfl, Nat.le_of_ble_eq_true rfl⟩) hS (fun q _ h => hFc q h) hFc (fun r_14 u9 t9 H1 locs ht hvm hw hB hz1 hk1 hS => ?_)
              obtain ⟨⟨gbk_13, gsk_13, gtk_13, gfk_13, gok_13⟩, glk_13⟩ := u9
              have hr_14 := hw
              obtain ⟨hP1, hK1, hD1⟩ := hB
              rw [ht] at hP1
              obtain ⟨hP, hD⟩ := va_join (wr := [(a0, .inl (cJ, 1232, .inr (.inl nf))), (a1, .inl (cJ, 616, .inr (.inl cf))), (a4, .inl (cI, 4, .inl kf)), (b2, .inl (cJ, 4, .inr (.inl ky)))]) (w1 := [(m0, .inr (8, [.int 0, .int (nI N), .int (nI n), .int (nI bc), .long (lN P), .long (lN Q), .long (lN G), .long (lN al), .long (lN pa), .long (lN pb), .int cl, .ref a0, .ref a1, .ref a2, .ref a3, .ref a4, .ref a5, .ref a6, .ref a7, .ref a8, .ref a9, .ref b0, .ref b1, .int (nI gok_13), .ref b2, .ref b3, .ref b4, .ref b5])), (a7, .inl (cI, 256, .inl gbk_13)), (a8, .inl (cI, 64, .inl gsk_13)), (a9, .inl (cI, 8, .inl gtk_13)), (b0, .inl (cI, 8, .inl kS)), (b1, .inl (cI, 64, .inl kR)), (a2, .inl (cJ, 4, .inr (.inl gfk_13))), (a3, .inl (cJ, 16, .inr (.inl glk_13)))]) hP hD [0, 1, 2, 3, 4, 5, 6, 11] [7, 8, 9, 10] rfl rfl (by decide) (by decide) hk1 hFc hP1 hD1
              have hP := hP.sub (ws' := [(m0, .inr (8, [.int 0, .int (nI N), .int (nI n), .int (nI bc), .long (lN P), .long (lN Q), .long (lN G), .long (lN al), .long (lN pa), .long (lN pb), .int cl, .ref a0, .ref a1, .ref a2, .ref a3, .ref a4, .ref a5, .ref a6, .ref a7, .ref a8, .ref a9, .ref b0, .ref b1, .int (nI gok_13), .ref b2, .ref b3, .ref b4, .ref b5])), (a7, .inl (cI, 256, .inl gbk_13)), (a8, .inl (cI, 64, .inl gsk_13)), (a9, .inl (cI, 8, .inl gtk_13)), (b0, .inl (cI, 8, .inl kS)), (b1, .inl (cI, 64, .inl kR)), (a2, .inl (cJ, 4, .inr (.inl gfk_13))), (a0, .inl (cJ, 1232, .inr (.inl nf))), (a1, .inl (cJ, 616, .inr (.inl cf))), (a4, .inl (cI, 4, .inl kf)), (b2, .inl (cJ, 4, .inr (.inl ky))), (a3, .inl (cJ, 16, .inr (.inl glk_13)))]) [4, 5, 6, 7, 8, 9, 10, 0, 1, 2, 3, 11] rfl
              have hD := hD.sub (ws' := [(m0, .inr (8, [.int 0, .int (nI N), .int (nI n), .int (nI bc), .long (lN P), .long (lN Q), .long (lN G), .long (lN al), .long (lN pa), .long (lN pb), .int cl, .ref a0, .ref a1, .ref a2, .ref a3, .ref a4, .ref a5, .ref a6, .ref a7, .ref a8, .ref a9, .ref b0, .ref b1, .int (nI gok_13), .ref b2, .ref b3, .ref b4, .ref b5])), (a7, .inl (cI, 256, .inl gbk_13)), (a8, .inl (cI, 64, .inl gsk_13)), (a9, .inl (cI, 8, .inl gtk_13)), (b0, .inl (cI, 8, .inl kS)), (b1, .inl (cI, 64, .inl kR)), (a2, .inl (cJ, 4, .inr (.inl gfk_13))), (a0, .inl (cJ, 1232, .inr (.inl nf))), (a1, .inl (cJ, 616, .inr (.inl cf))), (a4, .inl (cI, 4, .inl kf)), (b2, .inl (cJ, 4, .inr (.inl ky))), (a3, .inl (cJ, 16, .inr (.inl glk_13)))]) [4, 5, 6, 7, 8, 9, 10, 0, 1, 2, 3, 11] (by decide) rfl
              generalize H1 = H at hP hS ⊢
              refine lv_if_ne (tgt := 87) hx hb d_Bm_key_80 (by decide) (fun c_15 => ?_) (fun c_15 => ?_)
              · -- taken
                exact absurd ⟨I, rfl, hI, bz_t hr_14 c_15⟩ hC2
              · -- not taken
                have bo_14 := bz_f hr_14 c_15
                refine lv_iconst (v := 1) hx hb d_Bm_key_83 (by decide) ?_
                refine lv_goto (tgt := 88) hx hb d_Bm_key_84 (by decide) ?_
                refine lv_iconst (v := 2) hx hb d_Bm_key_88 (by decide) ?_
                have hPc := hP.sub (ws' := (mo_ws m0 0 (nI N) (nI n) (nI bc) (lN P) (lN Q) (lN G) (lN al) (lN pa) (lN pb) cl a0 a1 a2 a3 a4 a5 a6 a7 a8 a9 b0 b1 gok_13 b2 b3 b4 b5)) [0] rfl
                have hDc := hD.sub (ws' := (mo_ws m0 0 (nI N) (nI n) (nI bc) (lN P) (lN Q) (lN G) (lN al) (lN pa) (lN pb) cl a0 a1 a2 a3 a4 a5 a6 a7 a8 a9 b0 b1 gok_13 b2 b3 b4 b5)) [0] (by decide) rfl
                have hKc := hK.sub (tys' := [(cJ, .long), (cI, .int)]) [0, 1] rfl
                have hFc := va_free (wc := (mo_ws m0 0 (nI N) (nI n) (nI bc) (lN P) (lN Q) (lN G) (lN al) (lN pa) (lN pb) cl a0 a1 a2 a3 a4 a5 a6 a7 a8 a9 b0 b1 gok_13 b2 b3 b4 b5)) hD hS hA [0] rfl
                refine va_calli (va_runV (As := [.int 1, .int 2]) (rest := []) ⟨hx, hb, hml, hown, hts⟩ (c_Bm_fails_1 l dC dI cJ cI H.size m0 (nI N) (nI n) (nI bc) (lN P) (lN Q) (lN G) (lN al) (lN pa) (lN pb) cl a0 a1 a2 a3 a4 a5 a6 a7 a8 a9 b0 b1 gok_13 b2 b3 b4 b5 2 (by decide)) (cwV 2 hts (gw_V gk_1030 gk_1032 gp_27 gk_7 gk_1033) rfl rfl rfl (by decide +kernel) ⟨Nat.le_of_ble_eq_true rfl, Nat.le_of_ble_eq_true rfl⟩) ⟨fun a U g mk q => by obtain ⟨q0, q1, qP, qK, qD⟩ := q; exact ⟨q0, q1, qP, va_K.moved (u := U) (U := U.calling g mk a) (Vm.Alike.refl U.vm) qK, qD⟩, va_recv hK hP (ci := 8) (q0 := 0) rfl rfl, fun U hU hW => ⟨rfl, by rw [hU], by rw [hU]; exact hPc, va_K.moved hW.alike hKc, hDc.weaken (fun _ _ _ _ => trivial)⟩⟩ rfl rfl hl.1 rfl (lv_room (Nat.le_of_ble_eq_true rfl)) d_Bm_key_89 ⟨Nat.le_of_ble_eq_true rfl, Nat.le_of_ble_eq_true rfl⟩) hS (fun q _ h => hFc q h) hFc (fun r_16 u9 t9 H1 locs ht hvm hw hB hz1 hk1 hS => ?_)
                have hw : r_16 = 1 := hw
                subst hw
                obtain ⟨hP1, hK1, hD1⟩ := hB
                rw [ht] at hP1
                obtain ⟨hP, hD⟩ := va_join (wr := [(a7, .inl (cI, 256, .inl gbk_13)), (a8, .inl (cI, 64, .inl gsk_13)), (a9, .inl (cI, 8, .inl gtk_13)), (b0, .inl (cI, 8, .inl kS)), (b1, .inl (cI, 64, .inl kR)), (a2, .inl (cJ, 4, .inr (.inl gfk_13))), (a0, .inl (cJ, 1232, .inr (.inl nf))), (a1, .inl (cJ, 616, .inr (.inl cf))), (a4, .inl (cI, 4, .inl kf)), (b2, .inl (cJ, 4, .inr (.inl ky))), (a3, .inl (cJ, 16, .inr (.inl glk_13)))]) (w1 := [(m0, .inr (8, [.int 2, .int (nI N), .int (nI n), .int (nI bc), .long (lN P), .long (lN Q), .long (lN G), .long (lN al), .long (lN pa), .long (lN pb), .int cl, .ref a0, .ref a1, .ref a2, .ref a3, .ref a4, .ref a5, .ref a6, .ref a7, .ref a8, .ref a9, .ref b0, .ref b1, .int (nI gok_13), .ref b2, .ref b3, .ref b4, .ref b5]))]) hP hD [0] [1, 2, 3, 4, 5, 6, 7, 8, 9, 10, 11] rfl rfl (by decide) (by decide) hk1 hFc hP1 hD1
                have hP := hP.sub (ws' := [(m0, .inr (8, [.int 2, .int (nI N), .int (nI n), .int (nI bc), .long (lN P), .long (lN Q), .long (lN G), .long (lN al), .long (lN pa), .long (lN pb), .int cl, .ref a0, .ref a1, .ref a2, .ref a3, .ref a4, .ref a5, .ref a6, .ref a7, .ref a8, .ref a9, .ref b0, .ref b1, .int (nI gok_13), .ref b2, .ref b3, .ref b4, .ref b5])), (a7, .inl (cI, 256, .inl gbk_13)), (a8, .inl (cI, 64, .inl gsk_13)), (a9, .inl (cI, 8, .inl gtk_13)), (b0, .inl (cI, 8, .inl kS)), (b1, .inl (cI, 64, .inl kR)), (a2, .inl (cJ, 4, .inr (.inl gfk_13))), (a0, .inl (cJ, 1232, .inr (.inl nf))), (a1, .inl (cJ, 616, .inr (.inl cf))), (a4, .inl (cI, 4, .inl kf)), (b2, .inl (cJ, 4, .inr (.inl ky))), (a3, .inl (cJ, 16, .inr (.inl glk_13)))]) [11, 0, 1, 2, 3, 4, 5, 6, 7, 8, 9, 10] rfl
                have hD := hD.sub (ws' := [(m0, .inr (8, [.int 2, .int (nI N), .int (nI n), .int (nI bc), .long (lN P), .long (lN Q), .long (lN G), .long (lN al), .long (lN pa), .long (lN pb), .int cl, .ref a0, .ref a1, .ref a2, .ref a3, .ref a4, .ref a5, .ref a6, .ref a7, .ref a8, .ref a9, .ref b0, .ref b1, .int (nI gok_13), .ref b2, .ref b3, .ref b4, .ref b5])), (a7, .inl (cI, 256, .inl gbk_13)), (a8, .inl (cI, 64, .inl gsk_13)), (a9, .inl (cI, 8, .inl gtk_13)), (b0, .inl (cI, 8, .inl kS)), (b1, .inl (cI, 64, .inl kR)), (a2, .inl (cJ, 4, .inr (.inl gfk_13))), (a0, .inl (cJ, 1232, .inr (.inl nf))), (a1, .inl (cJ, 616, .inr (.inl cf))), (a4, .inl (cI, 4, .inl kf)), (b2, .inl (cJ, 4, .inr (.inl ky))), (a3, .inl (cJ, 16, .inr (.inl glk_13)))]) [11, 0, 1, 2, 3, 4, 5, 6, 7, 8, 9, 10] (by decide) rfl
                generalize H1 = H at hP hS ⊢
                refine lv_if_eq (tgt := 97) hx hb d_Bm_key_92 (by decide) (fun c_17 => ?_) (fun c_17 => ?_)
                · -- taken
                  exact absurd c_17 (by decide)
                · -- not taken
                  refine lv_iconst (v := 0) hx hb d_Bm_key_95 (by decide) ?_
                  exact W.iret (v := 0) hx hb hr (fun t ht9 hW => ⟨⟨_, ((gbk_13, gsk_13, gtk_13, gfk_13, gok_13), glk_13), rfl, trivial, by rw [ht9]; exact hP, va_K.moved hW.alike hK, hD⟩, hS.F ht9⟩) hS.2.2 d_Bm_key_96
        · -- not taken
          exact absurd (Or.inr (Or.inr ⟨I, rfl, hI, fun h => c_9 ((rK_neg hrk hn (show I < 4 by omega)).mpr h)⟩)) hC1
set_option maxHeartbeats 8000000 in
set_option maxRecDepth 100000 in
theorem c_Bm_key_00 (l : Launch) (dC : Nat → ClassId) (dI : Nat → Nat → Nat) (cJ cI : ClassId) (sz : Nat) (m0 : Nat) (e0 : Int32) (N n bc P Q G al pa pb : Nat) (cl : Int32) (a0 a1 a2 a3 a4 a5 a6 a7 a8 a9 b0 b1 oc b2 b3 b4 b5 : Nat) (bf sc st kf : Nat → Int32) (tf nf cf ky lf : Nat → Int64) (ko : Nat → Nat) (I Y : Nat) (x3 x4 : Int64) (hN : N ≤ 4) (hgr : 0 < N → gfx P Q G) (hcl : cl = 0 ∨ cl = 1) (hn : n ≤ 154) (hrk : rK 4 n ko kf ky) (hko : ∀ j, ko j < 2 ^ 61) (hN0 : 0 < N) (hcl0 : cl = 0) (hI : I < N) (hk0 : ko I = 0) (hn1 : n < 154) (hn0 : n = 0) (hkP : ∀ j, ko j < P) (hYP : Y < P) (hY0 : Y ≠ 0) (hh : keyHd P Q G I (lN Y) x3 x4) : Met l y_Bm_key w_Bm_key ({ frames := 7, cells := 0, slots := 0, locals := 204 }) (va_Pc [.ref m0, .int (nI I), .long (lN Y), .long x3, .long x4] (fun U => U.heap.size = sz ∧ va_P (dC, dI) classes (mo_ws m0 e0 (nI N) (nI n) (nI bc) (lN P) (lN Q) (lN G) (lN al) (lN pa) (lN pb) cl a0 a1 a2 a3 a4 a5 a6 a7 a8 a9 b0 b1 oc b2 b3 b4 b5 ++ (iw_ws a7 cI 256 bf ++ (iw_ws a8 cI 64 sc ++ (iw_ws a9 cI 8 st ++ (iw_ws b0 cI 8 kS ++ (iw_ws b1 cI 64 kR ++ (jw_ws a2 cJ 4 tf ++ (jw_ws a0 cJ 1232 nf ++ (jw_ws a1 cJ 616 cf ++ (iw_ws a4 cI 4 kf ++ (jw_ws b2 cJ 4 ky ++ (jw_ws a3 cJ 16 lf)))))))))))) U.heap ∧ va_K (dC, dI) classes [(cJ, .long), (cI, .int)] U ∧ va_D (fun _ => True) (mo_ws m0 e0 (nI N) (nI n) (nI bc) (lN P) (lN Q) (lN G) (lN al) (lN pa) (lN pb) cl a0 a1 a2 a3 a4 a5 a6 a7 a8 a9 b0 b1 oc b2 b3 b4 b5 ++ (iw_ws a7 cI 256 bf ++ (iw_ws a8 cI 64 sc ++ (iw_ws a9 cI 8 st ++ (iw_ws b0 cI 8 kS ++ (iw_ws b1 cI 64 kR ++ (jw_ws a2 cJ 4 tf ++ (jw_ws a0 cJ 1232 nf ++ (jw_ws a1 cJ 616 cf ++ (iw_ws a4 cI 4 kf ++ (jw_ws b2 cJ 4 ky ++ (jw_ws a3 cJ 16 lf)))))))))))))) (va_Qi (fun (r : Int32) (u9 : DU × (Nat → Int64) × Nat) => r = nI n ∧ ((allN N (updN ko I Y) ∧ u9.2.2 = prk P (updN ko I Y) N) ∨ (¬ allN N (updN ko I Y) ∧ u9.2.2 = al))) (fun u9 t => va_P (dC, dI) classes (mo_ws m0 0 (nI N) (nI (n + 1)) (nI bc) (lN P) (lN Q) (lN G) (lN u9.2.2) (lN pa) (lN pb) cl a0 a1 a2 a3 a4 a5 a6 a7 a8 a9 b0 b1 u9.1.2.2.2.2 b2 b3 b4 b5 ++ (iw_ws a7 cI 256 u9.1.1 ++ (iw_ws a8 cI 64 u9.1.2.1 ++ (iw_ws a9 cI 8 u9.1.2.2.1 ++ (iw_ws b0 cI 8 kS ++ (iw_ws b1 cI 64 kR ++ (jw_ws a2 cJ 4 u9.1.2.2.2.1 ++ (jw_ws a0 cJ 1232 (w8 nf (8 * n) (lN 1) (lN I) (lN Y) x3 x4 0 0 0) ++ (jw_ws a1 cJ 616 (c4 cf (4 * n) (lkw [0, 0, 0, 0, lN 1, lN I, lN Y, x3, x4])) ++ (iw_ws a4 cI 4 (upd kf I (nI n)) ++ (jw_ws b2 cJ 4 (vp_updL ky I (lN Y)) ++ (jw_ws a3 cJ 16 u9.2.1)))))))))))) t.heap ∧ va_K (dC, dI) classes [(cJ, .long), (cI, .int)] t ∧ va_D (va_A (mo_ws m0 e0 (nI N) (nI n) (nI bc) (lN P) (lN Q) (lN G) (lN al) (lN pa) (lN pb) cl a0 a1 a2 a3 a4 a5 a6 a7 a8 a9 b0 b1 oc b2 b3 b4 b5 ++ (iw_ws a7 cI 256 bf ++ (iw_ws a8 cI 64 sc ++ (iw_ws a9 cI 8 st ++ (iw_ws b0 cI 8 kS ++ (iw_ws b1 cI 64 kR ++ (jw_ws a2 cJ 4 tf ++ (jw_ws a0 cJ 1232 nf ++ (jw_ws a1 cJ 616 cf ++ (iw_ws a4 cI 4 kf ++ (jw_ws b2 cJ 4 ky ++ (jw_ws a3 cJ 16 lf)))))))))))) sz) (mo_ws m0 0 (nI N) (nI (n + 1)) (nI bc) (lN P) (lN Q) (lN G) (lN u9.2.2) (lN pa) (lN pb) cl a0 a1 a2 a3 a4 a5 a6 a7 a8 a9 b0 b1 u9.1.2.2.2.2 b2 b3 b4 b5 ++ (iw_ws a7 cI 256 u9.1.1 ++ (iw_ws a8 cI 64 u9.1.2.1 ++ (iw_ws a9 cI 8 u9.1.2.2.1 ++ (iw_ws b0 cI 8 kS ++ (iw_ws b1 cI 64 kR ++ (jw_ws a2 cJ 4 u9.1.2.2.2.1 ++ (jw_ws a0 cJ 1232 (w8 nf (8 * n) (lN 1) (lN I) (lN Y) x3 x4 0 0 0) ++ (jw_ws a1 cJ 616 (c4 cf (4 * n) (lkw [0, 0, 0, 0, lN 1, lN I, lN Y, x3, x4])) ++ (iw_ws a4 cI 4 (upd kf I (nI n)) ++ (jw_ws b2 cJ 4 (vp_updL ky I (lN Y)) ++ (jw_ws a3 cJ 16 u9.2.1))))))))))))) (va_A (mo_ws m0 e0 (nI N) (nI n) (nI bc) (lN P) (lN Q) (lN G) (lN al) (lN pa) (lN pb) cl a0 a1 a2 a3 a4 a5 a6 a7 a8 a9 b0 b1 oc b2 b3 b4 b5 ++ (iw_ws a7 cI 256 bf ++ (iw_ws a8 cI 64 sc ++ (iw_ws a9 cI 8 st ++ (iw_ws b0 cI 8 kS ++ (iw_ws b1 cI 64 kR ++ (jw_ws a2 cJ 4 tf ++ (jw_ws a0 cJ 1232 nf ++ (jw_ws a1 cJ 616 cf ++ (iw_ws a4 cI 4 kf ++ (jw_ws b2 cJ 4 ky ++ (jw_ws a3 cJ 16 lf)))))))))))) sz)) 0 0 (va_A (mo_ws m0 e0 (nI N) (nI n) (nI bc) (lN P) (lN Q) (lN G) (lN al) (lN pa) (lN pb) cl a0 a1 a2 a3 a4 a5 a6 a7 a8 a9 b0 b1 oc b2 b3 b4 b5 ++ (iw_ws a7 cI 256 bf ++ (iw_ws a8 cI 64 sc ++ (iw_ws a9 cI 8 st ++ (iw_ws b0 cI 8 kS ++ (iw_ws b1 cI 64 kR ++ (jw_ws a2 cJ 4 tf ++ (jw_ws a0 cJ 1232 nf ++ (jw_ws a1 cJ 616 cf ++ (iw_ws a4 cI 4 kf ++ (jw_ws b2 cJ 4 ky ++ (jw_ws a3 cJ 16 lf)))))))))))) sz) := by
  refine Met.ofW (cc := b_Bm_key) (maxL := 8) (ret := (some .int)) (by decide) rfl ?_
  intro p e s m args below meth c s₁ Bd hml hv
  obtain ⟨rfl, hsz, hP, hK, hD0⟩ := hv
  have hx := Bd.exec
  have hb := Bd.bytes
  have hr := Bd.returns
  have hts := atoms_spec (ws := w_Bm_key) Bd.pre
  have hown : s.vm.findClass "BallotBoardModel" = some m.cls := findClass_of_methodNamed Bd.named
  have hlocks := Bd.notSynchronized
  subst hsz
  have hD := hD0.self (sz := s.heap.size)
  generalize hAe : va_A (mo_ws m0 e0 (nI N) (nI n) (nI bc) (lN P) (lN Q) (lN G) (lN al) (lN pa) (lN pb) cl a0 a1 a2 a3 a4 a5 a6 a7 a8 a9 b0 b1 oc b2 b3 b4 b5 ++ (iw_ws a7 cI 256 bf ++ (iw_ws a8 cI 64 sc ++ (iw_ws a9 cI 8 st ++ (iw_ws b0 cI 8 kS ++ (iw_ws b1 cI 64 kR ++ (jw_ws a2 cJ 4 tf ++ (jw_ws a0 cJ 1232 nf ++ (jw_ws a1 cJ 616 cf ++ (iw_ws a4 cI 4 kf ++ (jw_ws b2 cJ 4 ky ++ (jw_ws a3 cJ 16 lf)))))))))))) s.heap.size = A at hD ⊢
  have hA : ∀ q : Nat, s.heap.size ≤ q → A q := fun q h => by rw [← hAe]; exact Or.inr h
  have hS : va_S A s.heap s.heap [] := va_S.rf
  have hl := lv_entry ([.ref m0, .int (nI I), .long (lN Y), .long x3, .long x4]) (n := 8) (Nat.le_of_ble_eq_true rfl)
  rw [lg_entry_eq]
  generalize (lg_sl ([.ref m0, .int (nI I), .long (lN Y), .long x3, .long x4]) ++ List.replicate (8 - (lg_sl ([.ref m0, .int (nI I), .long (lN Y), .long x3, .long x4])).length) Slot.unset).toArray = ls at hl ⊢
  have hl : lv_has ls 8 [(0, .ref m0), (1, .int (nI I)), (2, .long (lN Y)), (4, .long x3), (6, .long x4)] := hl
  obtain ⟨hPQ, h61F, hQ3, hG2, hGP, hGQ⟩ := hgr hN0
  refine lv_aload_n hx hb d_Bm_key_0 rfl (lv_at hl 0 rfl) ?_
  refine lv_iconst (v := 0) hx hb d_Bm_key_1 (by decide) ?_
  refine va_put (D := (dC, dI)) (ci := 8) (v := .int 0) (ty := .int) (C := "BallotBoardModel") (T := F_Bm) (N := 28) hx hb hts (fun w9 h9 => List.mem_cons_of_mem _ (i_Bm w9 h9)) t_Bm t_Bm_ok n_Bm hown hK hP hD hS 0 rfl rfl 0 (by decide) (hts _ (List.mem_cons_of_mem _ gk_919)) (fun _ h9 => h9) rfl (by decide +kernel) rfl rfl (Nat.le_of_ble_eq_true rfl) d_Bm_key_2 (fun H locs hP hD hS => ?_)
  have hP : va_P (dC, dI) classes [(m0, .inr (8, [.int 0, .int (nI N), .int (nI n), .int (nI bc), .long (lN P), .long (lN Q), .long (lN G), .long (lN al), .long (lN pa), .long (lN pb), .int cl, .ref a0, .ref a1, .ref a2, .ref a3, .ref a4, .ref a5, .ref a6, .ref a7, .ref a8, .ref a9, .ref b0, .ref b1, .int (nI oc), .ref b2, .ref b3, .ref b4, .ref b5])), (a7, .inl (cI, 256, .inl bf)), (a8, .inl (cI, 64, .inl sc)), (a9, .inl (cI, 8, .inl st)), (b0, .inl (cI, 8, .inl kS)), (b1, .inl (cI, 64, .inl kR)), (a2, .inl (cJ, 4, .inr (.inl tf))), (a0, .inl (cJ, 1232, .inr (.inl nf))), (a1, .inl (cJ, 616, .inr (.inl cf))), (a4, .inl (cI, 4, .inl kf)), (b2, .inl (cJ, 4, .inr (.inl ky))), (a3, .inl (cJ, 16, .inr (.inl lf)))] H := hP
  have hD : va_D A [(m0, .inr (8, [.int 0, .int (nI N), .int (nI n), .int (nI bc), .long (lN P), .long (lN Q), .long (lN G), .long (lN al), .long (lN pa), .long (lN pb), .int cl, .ref a0, .ref a1, .ref a2, .ref a3, .ref a4, .ref a5, .ref a6, .ref a7, .ref a8, .ref a9, .ref b0, .ref b1, .int (nI oc), .ref b2, .ref b3, .ref b4, .ref b5])), (a7, .inl (cI, 256, .inl bf)), (a8, .inl (cI, 64, .inl sc)), (a9, .inl (cI, 8, .inl st)), (b0, .inl (cI, 8, .inl kS)), (b1, .inl (cI, 64, .inl kR)), (a2, .inl (cJ, 4, .inr (.inl tf))), (a0, .inl (cJ, 1232, .inr (.inl nf))), (a1, .inl (cJ, 616, .inr (.inl cf))), (a4, .inl (cI, 4, .inl kf)), (b2, .inl (cJ, 4, .inr (.inl ky))), (a3, .inl (cJ, 16, .inr (.inl lf)))] := hD
  refine lv_aload_n hx hb d_Bm_key_5 rfl (lv_at hl 0 rfl) ?_
  refine lv_aload_n hx hb d_Bm_key_6 rfl (lv_at hl 0 rfl) ?_
  refine va_get (D := (dC, dI)) (ci := 8) (v := .int (nI N)) (C := "BallotBoardModel") (T := F_Bm) (N := 28) hx hb hts (fun w9 h9 => List.mem_cons_of_mem _ (i_Bm w9 h9)) hown hK hP 0 rfl rfl 1 (by decide) (hts _ (List.mem_cons_of_mem _ gk_920)) (fun _ h9 => h9) rfl d_Bm_key_7 ?_
  refine lv_if_eq (tgt := 43) hx hb d_Bm_key_10 (by decide) (fun c_1 => ?_) (fun c_1 => ?_)
  · -- taken
    exact absurd c_1 (nI_ne0 hN0 (by omega))
  · -- not taken
    refine lv_aload_n hx hb d_Bm_key_13 rfl (lv_at hl 0 rfl) ?_
    refine va_get (D := (dC, dI)) (ci := 8) (v := .int cl) (C := "BallotBoardModel") (T := F_Bm) (N := 28) hx hb hts (fun w9 h9 => List.mem_cons_of_mem _ (i_Bm w9 h9)) hown hK hP 0 rfl rfl 10 (by decide) (hts _ (List.mem_cons_of_mem _ gk_929)) (fun _ h9 => h9) rfl d_Bm_key_14 ?_
    refine lv_if_ne (tgt := 43) hx hb d_Bm_key_17 (by decide) (fun c_2 => ?_) (fun c_2 => ?_)
    · -- taken
      exact absurd hcl0 c_2
    · -- not taken
      refine lv_iload_n hx hb d_Bm_key_20 rfl (lv_at hl 1 rfl) ?_
      refine lv_iconst (v := 0) hx hb d_Bm_key_21 (by decide) ?_
      refine lv_aload_n hx hb d_Bm_key_22 rfl (lv_at hl 0 rfl) ?_
      refine va_get (D := (dC, dI)) (ci := 8) (v := .int (nI N)) (C := "BallotBoardModel") (T := F_Bm) (N := 28) hx hb hts (fun w9 h9 => List.mem_cons_of_mem _ (i_Bm w9 h9)) hown hK hP 0 rfl rfl 1 (by decide) (hts _ (List.mem_cons_of_mem _ gk_920)) (fun _ h9 => h9) rfl d_Bm_key_23 ?_
      refine lv_iconst (v := 1) hx hb d_Bm_key_26 (by decide) ?_
      refine lv_isub hx hb d_Bm_key_27 ?_
      rw [show ((nI N) - 1 : Int32) = (nI (N - 1)) from nI_subI (b := 1) (by omega) rfl]
      refine va_calli (va_runS (As := [.int (nI I), .int 0, .int (nI (N - 1))]) (rest := [.ref m0]) ⟨hx, hb, hml, hown, hts⟩ (c_Bm_in l H (nI I) 0 (nI (N - 1))) (cwS 3 hts (gw_S gk_1027 gk_1028 gk_7 gk_1029) rfl rfl rfl (by decide +kernel) ⟨Nat.le_of_ble_eq_true rfl, Nat.le_of_ble_eq_true rfl⟩) ⟨fun a U g mk q => q, fun U hU hW => ⟨rfl, hU⟩⟩ rfl rfl hl.1 rfl (lv_room (Nat.le_of_ble_eq_true rfl)) d_Bm_key_28 ⟨Nat.le_of_ble_eq_true rfl, Nat.le_of_ble_eq_true rfl⟩) hS (fun q _ h => h.elim) (fun q h => h.elim) (fun r28 u9 t9 H1 locs ht hvm hw hB hz1 hk1 hS => ?_)
      obtain rfl : H = H1 := hB.symm.trans ht
      have h28 : bz r28 (inN (nI I) N) := bz_in hN0 (by omega) rfl hw
      refine lv_if_eq (tgt := 47) hx hb d_Bm_key_31 (by decide) (fun c_3 => ?_) (fun c_3 => ?_)
      · -- taken
        exact absurd (⟨I, rfl, hI⟩ : inN (nI I) N) (bz_f h28 c_3)
      · -- not taken
        have bo28 := bz_t h28 c_3
        refine lv_aload_n hx hb d_Bm_key_34 rfl (lv_at hl 0 rfl) ?_
        refine va_get (D := (dC, dI)) (ci := 8) (v := .ref a4) (C := "BallotBoardModel") (T := F_Bm) (N := 28) hx hb hts (fun w9 h9 => List.mem_cons_of_mem _ (i_Bm w9 h9)) hown hK hP 0 rfl rfl 15 (by decide) (hts _ (List.mem_cons_of_mem _ gk_934)) (fun _ h9 => h9) rfl d_Bm_key_35 ?_
        refine lv_iload_n hx hb d_Bm_key_38 rfl (lv_at hl 1 rfl) ?_
        refine va_iald hx hb hK hP 9 1 rfl rfl (vp_in_nI (by omega) (by omega)) d_Bm_key_39 ?_
        rw [show (kf (nI I : Int32).toNatClampNeg : Int32) = kf I from by rw [nI_clamp (by omega)]]
        refine lv_if_lt (tgt := 47) hx hb d_Bm_key_40 (by decide) (fun c_4 => ?_) (fun c_4 => ?_)
        · -- taken
          refine lv_iconst (v := 0) hx hb d_Bm_key_47 (by decide) ?_
          refine lv_iconst (v := 1) hx hb d_Bm_key_48 (by decide) ?_
          have hPc := hP.sub (ws' := (mo_ws m0 0 (nI N) (nI n) (nI bc) (lN P) (lN Q) (lN G) (lN al) (lN pa) (lN pb) cl a0 a1 a2 a3 a4 a5 a6 a7 a8 a9 b0 b1 oc b2 b3 b4 b5)) [0] rfl
          have hDc := hD.sub (ws' := (mo_ws m0 0 (nI N) (nI n) (nI bc) (lN P) (lN Q) (lN G) (lN al) (lN pa) (lN pb) cl a0 a1 a2 a3 a4 a5 a6 a7 a8 a9 b0 b1 oc b2 b3 b4 b5)) [0] (by decide) rfl
          have hKc := hK.sub (tys' := [(cJ, .long), (cI, .int)]) [0, 1] rfl
          have hFc := va_free (wc := (mo_ws m0 0 (nI N) (nI n) (nI bc) (lN P) (lN Q) (lN G) (lN al) (lN pa) (lN pb) cl a0 a1 a2 a3 a4 a5 a6 a7 a8 a9 b0 b1 oc b2 b3 b4 b5)) hD hS hA [0] rfl
          refine va_calli (va_runV (As := [.int 0, .int 1]) (rest := []) ⟨hx, hb, hml, hown, hts⟩ (c_Bm_fails_0 l dC dI cJ cI H.size m0 (nI N) (nI n) (nI bc) (lN P) (lN Q) (lN G) (lN al) (lN pa) (lN pb) cl a0 a1 a2 a3 a4 a5 a6 a7 a8 a9 b0 b1 oc b2 b3 b4 b5 1) (cwV 2 hts (gw_V gk_1030 gk_1032 gp_27 gk_7 gk_1033) rfl rfl rfl (by decide +kernel) ⟨Nat.le_of_ble_eq_true rfl, Nat.le_of_ble_eq_true rfl⟩) ⟨fun a U g mk q => by obtain ⟨q0, q1, qP, qK, qD⟩ := q; exact ⟨q0, q1, qP, va_K.moved (u := U) (U := U.calling g mk a) (Vm.Alike.refl U.vm) qK, qD⟩, va_recv hK hP (ci := 8) (q0 := 0) rfl rfl, fun U hU hW => ⟨rfl, by rw [hU], by rw [hU]; exact hPc, va_K.moved hW.alike hKc, hDc.weaken (fun _ _ _ _ => trivial)⟩⟩ rfl rfl hl.1 rfl (lv_room (Nat.le_of_ble_eq_true rfl)) d_Bm_key_49 ⟨Nat.le_of_ble_eq_true rfl, Nat.le_of_ble_eq_true rfl⟩) hS (fun q _ h => hFc q h) hFc (fun r_5 u9 t9 H1 locs ht hvm hw hB hz1 hk1 hS => ?_)
          have hw : r_5 = 0 := hw
          subst hw
          obtain ⟨hP1, hK1, hD1⟩ := hB
          rw [ht] at hP1
          obtain ⟨hP, hD⟩ := va_join (wr := [(a7, .inl (cI, 256, .inl bf)), (a8, .inl (cI, 64, .inl sc)), (a9, .inl (cI, 8, .inl st)), (b0, .inl (cI, 8, .inl kS)), (b1, .inl (cI, 64, .inl kR)), (a2, .inl (cJ, 4, .inr (.inl tf))), (a0, .inl (cJ, 1232, .inr (.inl nf))), (a1, .inl (cJ, 616, .inr (.inl cf))), (a4, .inl (cI, 4, .inl kf)), (b2, .inl (cJ, 4, .inr (.inl ky))), (a3, .inl (cJ, 16, .inr (.inl lf)))]) (w1 := [(m0, .inr (8, [.int 0, .int (nI N), .int (nI n), .int (nI bc), .long (lN P), .long (lN Q), .long (lN G), .long (lN al), .long (lN pa), .long (lN pb), .int cl, .ref a0, .ref a1, .ref a2, .ref a3, .ref a4, .ref a5, .ref a6, .ref a7, .ref a8, .ref a9, .ref b0, .ref b1, .int (nI oc), .ref b2, .ref b3, .ref b4, .ref b5]))]) hP hD [0] [1, 2, 3, 4, 5, 6, 7, 8, 9, 10, 11] rfl rfl (by decide) (by decide) hk1 hFc hP1 hD1
          have hP := hP.sub (ws' := [(m0, .inr (8, [.int 0, .int (nI N), .int (nI n), .int (nI bc), .long (lN P), .long (lN Q), .long (lN G), .long (lN al), .long (lN pa), .long (lN pb), .int cl, .ref a0, .ref a1, .ref a2, .ref a3, .ref a4, .ref a5, .ref a6, .ref a7, .ref a8, .ref a9, .ref b0, .ref b1, .int (nI oc), .ref b2, .ref b3, .ref b4, .ref b5])), (a7, .inl (cI, 256, .inl bf)), (a8, .inl (cI, 64, .inl sc)), (a9, .inl (cI, 8, .inl st)), (b0, .inl (cI, 8, .inl kS)), (b1, .inl (cI, 64, .inl kR)), (a2, .inl (cJ, 4, .inr (.inl tf))), (a0, .inl (cJ, 1232, .inr (.inl nf))), (a1, .inl (cJ, 616, .inr (.inl cf))), (a4, .inl (cI, 4, .inl kf)), (b2, .inl (cJ, 4, .inr (.inl ky))), (a3, .inl (cJ, 16, .inr (.inl lf)))]) [11, 0, 1, 2, 3, 4, 5, 6, 7, 8, 9, 10] rfl
          have hD := hD.sub (ws' := [(m0, .inr (8, [.int 0, .int (nI N), .int (nI n), .int (nI bc), .long (lN P), .long (lN Q), .long (lN G), .long (lN al), .long (lN pa), .long (lN pb), .int cl, .ref a0, .ref a1, .ref a2, .ref a3, .ref a4, .ref a5, .ref a6, .ref a7, .ref a8, .ref a9, .ref b0, .ref b1, .int (nI oc), .ref b2, .ref b3, .ref b4, .ref b5])), (a7, .inl (cI, 256, .inl bf)), (a8, .inl (cI, 64, .inl sc)), (a9, .inl (cI, 8, .inl st)), (b0, .inl (cI, 8, .inl kS)), (b1, .inl (cI, 64, .inl kR)), (a2, .inl (cJ, 4, .inr (.inl tf))), (a0, .inl (cJ, 1232, .inr (.inl nf))), (a1, .inl (cJ, 616, .inr (.inl cf))), (a4, .inl (cI, 4, .inl kf)), (b2, .inl (cJ, 4, .inr (.inl ky))), (a3, .inl (cJ, 16, .inr (.inl lf)))]) [11, 0, 1, 2, 3, 4, 5, 6, 7, 8, 9, 10] (by decide) rfl
          generalize H1 = H at hP hS ⊢
          refine lv_if_ne (tgt := 95) hx hb d_Bm_key_52 (by decide) (fun c_6 => ?_) (fun c_6 => ?_)
          · -- taken
            exact absurd rfl c_6
          · -- not taken
            refine lv_aload_n hx hb d_Bm_key_55 rfl (lv_at hl 0 rfl) ?_
            refine lv_iload_n hx hb d_Bm_key_56 rfl (lv_at hl 1 rfl) ?_
            refine lv_iconst (v := 0) hx hb d_Bm_key_57 (by decide) ?_
            refine lv_aload_n hx hb d_Bm_key_58 rfl (lv_at hl 0 rfl) ?_
            refine va_get (D := (dC, dI)) (ci := 8) (v := .int (nI N)) (C := "BallotBoardModel") (T := F_Bm) (N := 28) hx hb hts (fun w9 h9 => List.mem_cons_of_mem _ (i_Bm w9 h9)) hown hK hP 0 rfl rfl 1 (by decide) (hts _ (List.mem_cons_of_mem _ gk_920)) (fun _ h9 => h9) rfl d_Bm_key_59 ?_
            refine lv_iconst (v := 1) hx hb d_Bm_key_62 (by decide) ?_
            refine lv_isub hx hb d_Bm_key_63 ?_
            rw [show ((nI N) - 1 : Int32) = (nI (N - 1)) from nI_subI (b := 1) (by omega) rfl]
            refine va_calli (va_runS (As := [.int (nI I), .int 0, .int (nI (N - 1))]) (rest := [.ref m0]) ⟨hx, hb, hml, hown, hts⟩ (c_Bm_in l H (nI I) 0 (nI (N - 1))) (cwS 3 hts (gw_S gk_1027 gk_1028 gk_7 gk_1029) rfl rfl rfl (by decide +kernel) ⟨Nat.le_of_ble_eq_true rfl, Nat.le_of_ble_eq_true rfl⟩) ⟨fun a U g mk q => q, fun U hU hW => ⟨rfl, hU⟩⟩ rfl rfl hl.1 rfl (lv_room (Nat.le_of_ble_eq_true rfl)) d_Bm_key_64 ⟨Nat.le_of_ble_eq_true rfl, Nat.le_of_ble_eq_true rfl⟩) hS (fun q _ h => h.elim) (fun q h => h.elim) (fun r64 u9 t9 H1 locs ht hvm hw hB hz1 hk1 hS => ?_)
            obtain rfl : H = H1 := hB.symm.trans ht
            have h64 : bz r64 (inN (nI I) N) := bz_in hN0 (by omega) rfl hw
            refine lv_if_eq (tgt := 83) hx hb d_Bm_key_67 (by decide) (fun c_7 => ?_) (fun c_7 => ?_)
            · -- taken
              exact absurd (⟨I, rfl, hI⟩ : inN (nI I) N) (bz_f h64 c_7)
            · -- not taken
              have bo64 := bz_t h64 c_7
              refine lv_aload_n hx hb d_Bm_key_70 rfl (lv_at hl 0 rfl) ?_
              refine lv_iload_n hx hb d_Bm_key_71 rfl (lv_at hl 1 rfl) ?_
              refine lv_lload_n hx hb d_Bm_key_72 rfl (lv_at hl 2 rfl) ?_
              refine lv_lload hx hb d_Bm_key_73 (lv_at hl 3 rfl) ?_
              refine lv_lload hx hb d_Bm_key_75 (lv_at hl 4 rfl) ?_
              have hPc := hP.sub (ws' := (mo_ws m0 0 (nI N) (nI n) (nI bc) (lN P) (lN Q) (lN G) (lN al) (lN pa) (lN pb) cl a0 a1 a2 a3 a4 a5 a6 a7 a8 a9 b0 b1 oc b2 b3 b4 b5 ++ (iw_ws a7 cI 256 bf ++ (iw_ws a8 cI 64 sc ++ (iw_ws a9 cI 8 st ++ (iw_ws b0 cI 8 kS ++ (iw_ws b1 cI 64 kR ++ (jw_ws a2 cJ 4 tf ++ (jw_ws a3 cJ 16 lf))))))))) [0, 1, 2, 3, 4, 5, 6, 11] rfl
              have hDc := hD.sub (ws' := (mo_ws m0 0 (nI N) (nI n) (nI bc) (lN P) (lN Q) (lN G) (lN al) (lN pa) (lN pb) cl a0 a1 a2 a3 a4 a5 a6 a7 a8 a9 b0 b1 oc b2 b3 b4 b5 ++ (iw_ws a7 cI 256 bf ++ (iw_ws a8 cI 64 sc ++ (iw_ws a9 cI 8 st ++ (iw_ws b0 cI 8 kS ++ (iw_ws b1 cI 64 kR ++ (jw_ws a2 cJ 4 tf ++ (jw_ws a3 cJ 16 lf))))))))) [0, 1, 2, 3, 4, 5, 6, 11] (by decide) rfl
              have hKc := hK.sub (tys' := [(cJ, .long), (cI, .int)]) [0, 1] rfl
              have hFc := va_free (wc := (mo_ws m0 0 (nI N) (nI n) (nI bc) (lN P) (lN Q) (lN G) (lN al) (lN pa) (lN pb) cl a0 a1 a2 a3 a4 a5 a6 a7 a8 a9 b0 b1 oc b2 b3 b4 b5 ++ (iw_ws a7 cI 256 bf ++ (iw_ws a8 cI 64 sc ++ (iw_ws a9 cI 8 st ++ (iw_ws b0 cI 8 kS ++ (iw_ws b1 cI 64 kR ++ (jw_ws a2 cJ 4 tf ++ (jw_ws a3 cJ 16 lf))))))))) hD hS hA [0, 1, 2, 3, 4, 5, 6, 11] rfl
              refine va_calli (va_runV (As := [.int (nI I), .long (lN Y), .long x3, .long x4]) (rest := [.ref m0]) ⟨hx, hb, hml, hown, hts⟩ (c_Bm_keyHolds l dC dI cJ cI H.size m0 0 (nI N) (nI n) (nI bc) (lN al) (lN pa) (lN pb) cl a0 a1 a2 a3 a4 a5 a6 a7 a8 a9 b0 b1 oc b2 b3 b4 b5 P Q G bf sc st tf lf I (lN Y) x3 x4 hPQ h61F hQ3 hG2 hGP hGQ (by omega)) (cwV 4 hts (gw_V gk_1038 gk_1040 gp_28 gk_7 gk_1041) rfl rfl rfl (by decide +kernel) ⟨Nat.le_of_ble_eq_true rfl, Nat.le_of_ble_eq_true rfl⟩) ⟨fun a U g mk q => by obtain ⟨q0, q1, qP, qK, qD⟩ := q; exact ⟨q0, q1, qP, va_K.moved (u := U) (U := U.calling g mk a) (Vm.Alike.refl U.vm) qK, qD⟩, va_recv hK hP (ci := 8) (q0 := 0) rfl rfl, fun U hU hW => ⟨rfl, by rw [hU], by rw [hU]; exact hPc, va_K.moved hW.alike hKc, hDc.weaken (fun _ _ _ _ => trivial)⟩⟩ rfl rfl hl.1 rfl (lv_room (Nat.le_of_ble_eq_true rfl)) d_Bm_key_77 ⟨Nat.le_of_ble_eq_true rfl, Nat.le_of_ble_eq_true rfl⟩) hS (fun q _ h => hFc q h) hFc (fun r_9 u9 t9 H1 locs ht hvm hw hB hz1 hk1 hS => ?_)
              obtain ⟨⟨gbk_8, gsk_8, gtk_8, gfk_8, gok_8⟩, glk_8⟩ := u9
              have hr_9 := hw
              obtain ⟨hP1, hK1, hD1⟩ := hB
              rw [ht] at hP1
              obtain ⟨hP, hD⟩ := va_join (wr := [(a0, .inl (cJ, 1232, .inr (.inl nf))), (a1, .inl (cJ, 616, .inr (.inl cf))), (a4, .inl (cI, 4, .inl kf)), (b2, .inl (cJ, 4, .inr (.inl ky)))]) (w1 := [(m0, .inr (8, [.int 0, .int (nI N), .int (nI n), .int (nI bc), .long (lN P), .long (lN Q), .long (lN G), .long (lN al), .long (lN pa), .long (lN pb), .int cl, .ref a0, .ref a1, .ref a2, .ref a3, .ref a4, .ref a5, .ref a6, .ref a7, .ref a8, .ref a9, .ref b0, .ref b1, .int (nI gok_8), .ref b2, .ref b3, .ref b4, .ref b5])), (a7, .inl (cI, 256, .inl gbk_8)), (a8, .inl (cI, 64, .inl gsk_8)), (a9, .inl (cI, 8, .inl gtk_8)), (b0, .inl (cI, 8, .inl kS)), (b1, .inl (cI, 64, .inl kR)), (a2, .inl (cJ, 4, .inr (.inl gfk_8))), (a3, .inl (cJ, 16, .inr (.inl glk_8)))]) hP hD [0, 1, 2, 3, 4, 5, 6, 11] [7, 8, 9, 10] rfl rfl (by decide) (by decide) hk1 hFc hP1 hD1
              have hP := hP.sub (ws' := [(m0, .inr (8, [.int 0, .int (nI N), .int (nI n), .int (nI bc), .long (lN P), .long (lN Q), .long (lN G), .long (lN al), .long (lN pa), .long (lN pb), .int cl, .ref a0, .ref a1, .ref a2, .ref a3, .ref a4, .ref a5, .ref a6, .ref a7, .ref a8, .ref a9, .ref b0, .ref b1, .int (nI gok_8), .ref b2, .ref b3, .ref b4, .ref b5])), (a7, .inl (cI, 256, .inl gbk_8)), (a8, .inl (cI, 64, .inl gsk_8)), (a9, .inl (cI, 8, .inl gtk_8)), (b0, .inl (cI, 8, .inl kS)), (b1, .inl (cI, 64, .inl kR)), (a2, .inl (cJ, 4, .inr (.inl gfk_8))), (a0, .inl (cJ, 1232, .inr (.inl nf))), (a1, .inl (cJ, 616, .inr (.inl cf))), (a4, .inl (cI, 4, .inl kf)), (b2, .inl (cJ, 4, .inr (.inl ky))), (a3, .inl (cJ, 16, .inr (.inl glk_8)))]) [4, 5, 6, 7, 8, 9, 10, 0, 1, 2, 3, 11] rfl
              have hD := hD.sub (ws' := [(m0, .inr (8, [.int 0, .int (nI N), .int (nI n), .int (nI bc), .long (lN P), .long (lN Q), .long (lN G), .long (lN al), .long (lN pa), .long (lN pb), .int cl, .ref a0, .ref a1, .ref a2, .ref a3, .ref a4, .ref a5, .ref a6, .ref a7, .ref a8, .ref a9, .ref b0, .ref b1, .int (nI gok_8), .ref b2, .ref b3, .ref b4, .ref b5])), (a7, .inl (cI, 256, .inl gbk_8)), (a8, .inl (cI, 64, .inl gsk_8)), (a9, .inl (cI, 8, .inl gtk_8)), (b0, .inl (cI, 8, .inl kS)), (b1, .inl (cI, 64, .inl kR)), (a2, .inl (cJ, 4, .inr (.inl gfk_8))), (a0, .inl (cJ, 1232, .inr (.inl nf))), (a1, .inl (cJ, 616, .inr (.inl cf))), (a4, .inl (cI, 4, .inl kf)), (b2, .inl (cJ, 4, .inr (.inl ky))), (a3, .inl (cJ, 16, .inr (.inl glk_8)))]) [4, 5, 6, 7, 8, 9, 10, 0, 1, 2, 3, 11] (by decide) rfl
              generalize H1 = H at hP hS ⊢
              refine lv_if_ne (tgt := 87) hx hb d_Bm_key_80 (by decide) (fun c_10 => ?_) (fun c_10 => ?_)
              · -- taken
                have bo_9 := bz_t hr_9 c_10
                refine lv_iconst (v := 0) hx hb d_Bm_key_87 (by decide) ?_
                refine lv_iconst (v := 2) hx hb d_Bm_key_88 (by decide) ?_
                have hPc := hP.sub (ws' := (mo_ws m0 0 (nI N) (nI n) (nI bc) (lN P) (lN Q) (lN G) (lN al) (lN pa) (lN pb) cl a0 a1 a2 a3 a4 a5 a6 a7 a8 a9 b0 b1 gok_8 b2 b3 b4 b5)) [0] rfl
                have hDc := hD.sub (ws' := (mo_ws m0 0 (nI N) (nI n) (nI bc) (lN P) (lN Q) (lN G) (lN al) (lN pa) (lN pb) cl a0 a1 a2 a3 a4 a5 a6 a7 a8 a9 b0 b1 gok_8 b2 b3 b4 b5)) [0] (by decide) rfl
                have hKc := hK.sub (tys' := [(cJ, .long), (cI, .int)]) [0, 1] rfl
                have hFc := va_free (wc := (mo_ws m0 0 (nI N) (nI n) (nI bc) (lN P) (lN Q) (lN G) (lN al) (lN pa) (lN pb) cl a0 a1 a2 a3 a4 a5 a6 a7 a8 a9 b0 b1 gok_8 b2 b3 b4 b5)) hD hS hA [0] rfl
                refine va_calli (va_runV (As := [.int 0, .int 2]) (rest := []) ⟨hx, hb, hml, hown, hts⟩ (c_Bm_fails_0 l dC dI cJ cI H.size m0 (nI N) (nI n) (nI bc) (lN P) (lN Q) (lN G) (lN al) (lN pa) (lN pb) cl a0 a1 a2 a3 a4 a5 a6 a7 a8 a9 b0 b1 gok_8 b2 b3 b4 b5 2) (cwV 2 hts (gw_V gk_1030 gk_1032 gp_27 gk_7 gk_1033) rfl rfl rfl (by decide +kernel) ⟨Nat.le_of_ble_eq_true rfl, Nat.le_of_ble_eq_true rfl⟩) ⟨fun a U g mk q => by obtain ⟨q0, q1, qP, qK, qD⟩ := q; exact ⟨q0, q1, qP, va_K.moved (u := U) (U := U.calling g mk a) (Vm.Alike.refl U.vm) qK, qD⟩, va_recv hK hP (ci := 8) (q0 := 0) rfl rfl, fun U hU hW => ⟨rfl, by rw [hU], by rw [hU]; exact hPc, va_K.moved hW.alike hKc, hDc.weaken (fun _ _ _ _ => trivial)⟩⟩ rfl rfl hl.1 rfl (lv_room (Nat.le_of_ble_eq_true rfl)) d_Bm_key_89 ⟨Nat.le_of_ble_eq_true rfl, Nat.le_of_ble_eq_true rfl⟩) hS (fun q _ h => hFc q h) hFc (fun r_11 u9 t9 H1 locs ht hvm hw hB hz1 hk1 hS => ?_)
                have hw : r_11 = 0 := hw
                subst hw
                obtain ⟨hP1, hK1, hD1⟩ := hB
                rw [ht] at hP1
                obtain ⟨hP, hD⟩ := va_join (wr := [(a7, .inl (cI, 256, .inl gbk_8)), (a8, .inl (cI, 64, .inl gsk_8)), (a9, .inl (cI, 8, .inl gtk_8)), (b0, .inl (cI, 8, .inl kS)), (b1, .inl (cI, 64, .inl kR)), (a2, .inl (cJ, 4, .inr (.inl gfk_8))), (a0, .inl (cJ, 1232, .inr (.inl nf))), (a1, .inl (cJ, 616, .inr (.inl cf))), (a4, .inl (cI, 4, .inl kf)), (b2, .inl (cJ, 4, .inr (.inl ky))), (a3, .inl (cJ, 16, .inr (.inl glk_8)))]) (w1 := [(m0, .inr (8, [.int 0, .int (nI N), .int (nI n), .int (nI bc), .long (lN P), .long (lN Q), .long (lN G), .long (lN al), .long (lN pa), .long (lN pb), .int cl, .ref a0, .ref a1, .ref a2, .ref a3, .ref a4, .ref a5, .ref a6, .ref a7, .ref a8, .ref a9, .ref b0, .ref b1, .int (nI gok_8), .ref b2, .ref b3, .ref b4, .ref b5]))]) hP hD [0] [1, 2, 3, 4, 5, 6, 7, 8, 9, 10, 11] rfl rfl (by decide) (by decide) hk1 hFc hP1 hD1
                have hP := hP.sub (ws' := [(m0, .inr (8, [.int 0, .int (nI N), .int (nI n), .int (nI bc), .long (lN P), .long (lN Q), .long (lN G), .long (lN al), .long (lN pa), .long (lN pb), .int cl, .ref a0, .ref a1, .ref a2, .ref a3, .ref a4, .ref a5, .ref a6, .ref a7, .ref a8, .ref a9, .ref b0, .ref b1, .int (nI gok_8), .ref b2, .ref b3, .ref b4, .ref b5])), (a7, .inl (cI, 256, .inl gbk_8)), (a8, .inl (cI, 64, .inl gsk_8)), (a9, .inl (cI, 8, .inl gtk_8)), (b0, .inl (cI, 8, .inl kS)), (b1, .inl (cI, 64, .inl kR)), (a2, .inl (cJ, 4, .inr (.inl gfk_8))), (a0, .inl (cJ, 1232, .inr (.inl nf))), (a1, .inl (cJ, 616, .inr (.inl cf))), (a4, .inl (cI, 4, .inl kf)), (b2, .inl (cJ, 4, .inr (.inl ky))), (a3, .inl (cJ, 16, .inr (.inl glk_8)))]) [11, 0, 1, 2, 3, 4, 5, 6, 7, 8, 9, 10] rfl
                have hD := hD.sub (ws' := [(m0, .inr (8, [.int 0, .int (nI N), .int (nI n), .int (nI bc), .long (lN P), .long (lN Q), .long (lN G), .long (lN al), .long (lN pa), .long (lN pb), .int cl, .ref a0, .ref a1, .ref a2, .ref a3, .ref a4, .ref a5, .ref a6, .ref a7, .ref a8, .ref a9, .ref b0, .ref b1, .int (nI gok_8), .ref b2, .ref b3, .ref b4, .ref b5])), (a7, .inl (cI, 256, .inl gbk_8)), (a8, .inl (cI, 64, .inl gsk_8)), (a9, .inl (cI, 8, .inl gtk_8)), (b0, .inl (cI, 8, .inl kS)), (b1, .inl (cI, 64, .inl kR)), (a2, .inl (cJ, 4, .inr (.inl gfk_8))), (a0, .inl (cJ, 1232, .inr (.inl nf))), (a1, .inl (cJ, 616, .inr (.inl cf))), (a4, .inl (cI, 4, .inl kf)), (b2, .inl (cJ, 4, .inr (.inl ky))), (a3, .inl (cJ, 16, .inr (.inl glk_8)))]) [11, 0, 1, 2, 3, 4, 5, 6, 7, 8, 9, 10] (by decide) rfl
                generalize H1 = H at hP hS ⊢
                refine lv_if_eq (tgt := 97) hx hb d_Bm_key_92 (by decide) (fun c_12 => ?_) (fun c_12 => ?_)
                · -- taken
                  refine lv_aload_n hx hb d_Bm_key_97 rfl (lv_at hl 0 rfl) ?_
                  refine lv_iload_n hx hb d_Bm_key_98 rfl (lv_at hl 1 rfl) ?_
                  refine lv_lload_n hx hb d_Bm_key_99 rfl (lv_at hl 2 rfl) ?_
                  refine lv_lload hx hb d_Bm_key_100 (lv_at hl 3 rfl) ?_
                  refine lv_lload hx hb d_Bm_key_102 (lv_at hl 4 rfl) ?_
                  have hPc := hP.sub (ws' := (mo_ws m0 0 (nI N) (nI n) (nI bc) (lN P) (lN Q) (lN G) (lN al) (lN pa) (lN pb) cl a0 a1 a2 a3 a4 a5 a6 a7 a8 a9 b0 b1 gok_8 b2 b3 b4 b5 ++ (iw_ws a7 cI 256 gbk_8 ++ (iw_ws a8 cI 64 gsk_8 ++ (iw_ws a9 cI 8 gtk_8 ++ (iw_ws b0 cI 8 kS ++ (iw_ws b1 cI 64 kR ++ (jw_ws a2 cJ 4 gfk_8 ++ (jw_ws a0 cJ 1232 nf ++ (jw_ws a1 cJ 616 cf ++ (iw_ws a4 cI 4 kf ++ (jw_ws b2 cJ 4 ky)))))))))))) [0, 1, 2, 3, 4, 5, 6, 7, 8, 9, 10] rfl
                  have hDc := hD.sub (ws' := (mo_ws m0 0 (nI N) (nI n) (nI bc) (lN P) (lN Q) (lN G) (lN al) (lN pa) (lN pb) cl a0 a1 a2 a3 a4 a5 a6 a7 a8 a9 b0 b1 gok_8 b2 b3 b4 b5 ++ (iw_ws a7 cI 256 gbk_8 ++ (iw_ws a8 cI 64 gsk_8 ++ (iw_ws a9 cI 8 gtk_8 ++ (iw_ws b0 cI 8 kS ++ (iw_ws b1 cI 64 kR ++ (jw_ws a2 cJ 4 gfk_8 ++ (jw_ws a0 cJ 1232 nf ++ (jw_ws a1 cJ 616 cf ++ (iw_ws a4 cI 4 kf ++ (jw_ws b2 cJ 4 ky)))))))))))) [0, 1, 2, 3, 4, 5, 6, 7, 8, 9, 10] (by decide) rfl
                  have hKc := hK.sub (tys' := [(cJ, .long), (cI, .int)]) [0, 1] rfl
                  have hFc := va_free (wc := (mo_ws m0 0 (nI N) (nI n) (nI bc) (lN P) (lN Q) (lN G) (lN al) (lN pa) (lN pb) cl a0 a1 a2 a3 a4 a5 a6 a7 a8 a9 b0 b1 gok_8 b2 b3 b4 b5 ++ (iw_ws a7 cI 256 gbk_8 ++ (iw_ws a8 cI 64 gsk_8 ++ (iw_ws a9 cI 8 gtk_8 ++ (iw_ws b0 cI 8 kS ++ (iw_ws b1 cI 64 kR ++ (jw_ws a2 cJ 4 gfk_8 ++ (jw_ws a0 cJ 1232 nf ++ (jw_ws a1 cJ 616 cf ++ (iw_ws a4 cI 4 kf ++ (jw_ws b2 cJ 4 ky)))))))))))) hD hS hA [0, 1, 2, 3, 4, 5, 6, 7, 8, 9, 10] rfl
                  refine va_calli (va_runV (As := [.int (nI I), .long (lN Y), .long x3, .long x4]) (rest := []) ⟨hx, hb, hml, hown, hts⟩ (c_Bm_putKey_0 l dC dI cJ cI H.size m0 0 N n bc P Q G al pa pb cl a0 a1 a2 a3 a4 a5 a6 a7 a8 a9 b0 b1 gok_8 b2 b3 b4 b5 gbk_8 gsk_8 gtk_8 kf gfk_8 nf cf ky ko I Y x3 x4 hPQ h61F hQ3 (by omega) hn0 hN hI hY0 hYP hkP hrk) (cwV 4 hts (gw_V gk_1090 gk_1092 gp_39 gk_7 gk_1093) rfl rfl rfl (by decide +kernel) ⟨Nat.le_of_ble_eq_true rfl, Nat.le_of_ble_eq_true rfl⟩) ⟨fun a U g mk q => by obtain ⟨q0, q1, qP, qK, qD⟩ := q; exact ⟨q0, q1, qP, va_K.moved (u := U) (U := U.calling g mk a) (Vm.Alike.refl U.vm) qK, qD⟩, va_recv hK hP (ci := 8) (q0 := 0) rfl rfl, fun U hU hW => ⟨rfl, by rw [hU], by rw [hU]; exact hPc, va_K.moved hW.alike hKc, hDc.weaken (fun _ _ _ _ => trivial)⟩⟩ rfl rfl hl.1 rfl (lv_room (Nat.le_of_ble_eq_true rfl)) d_Bm_key_104 ⟨Nat.le_of_ble_eq_true rfl, Nat.le_of_ble_eq_true rfl⟩) hS (fun q _ h => hFc q h) hFc (fun r_14 u9 t9 H1 locs ht hvm hw hB hz1 hk1 hS => ?_)
                  obtain ⟨⟨gbk_13, gsk_13, gtk_13, gfk_13, gok_13⟩, gak_13⟩ := u9
                  obtain ⟨hw, hal9⟩ := hw
                  have hw : r_14 = nI n := hw
                  subst hw
                  obtain ⟨hP1, hK1, hD1⟩ := hB
                  rw [ht] at hP1
                  obtain ⟨hP, hD⟩ := va_join (wr := [(a3, .inl (cJ, 16, .inr (.inl glk_8)))]) (w1 := [(m0, .inr (8, [.int 0, .int (nI N), .int (nI (n + 1)), .int (nI bc), .long (lN P), .long (lN Q), .long (lN G), .long (lN gak_13), .long (lN pa), .long (lN pb), .int cl, .ref a0, .ref a1, .ref a2, .ref a3, .ref a4, .ref a5, .ref a6, .ref a7, .ref a8, .ref a9, .ref b0, .ref b1, .int (nI gok_13), .ref b2, .ref b3, .ref b4, .ref b5])), (a7, .inl (cI, 256, .inl gbk_13)), (a8, .inl (cI, 64, .inl gsk_13)), (a9, .inl (cI, 8, .inl gtk_13)), (b0, .inl (cI, 8, .inl kS)), (b1, .inl (cI, 64, .inl kR)), (a2, .inl (cJ, 4, .inr (.inl gfk_13))), (a0, .inl (cJ, 1232, .inr (.inl (w8 nf (8 * n) (lN 1) (lN I) (lN Y) x3 x4 0 0 0)))), (a1, .inl (cJ, 616, .inr (.inl (c4 cf (4 * n) (lkw [0, 0, 0, 0, lN 1, lN I, lN Y, x3, x4]))))), (a4, .inl (cI, 4, .inl (upd kf I (nI n)))), (b2, .inl (cJ, 4, .inr (.inl (vp_updL ky I (lN Y)))))]) hP hD [0, 1, 2, 3, 4, 5, 6, 7, 8, 9, 10] [11] rfl rfl (by decide) (by decide) hk1 hFc hP1 hD1
                  have hP := hP.sub (ws' := [(m0, .inr (8, [.int 0, .int (nI N), .int (nI (n + 1)), .int (nI bc), .long (lN P), .long (lN Q), .long (lN G), .long (lN gak_13), .long (lN pa), .long (lN pb), .int cl, .ref a0, .ref a1, .ref a2, .ref a3, .ref a4, .ref a5, .ref a6, .ref a7, .ref a8, .ref a9, .ref b0, .ref b1, .int (nI gok_13), .ref b2, .ref b3, .ref b4, .ref b5])), (a7, .inl (cI, 256, .inl gbk_13)), (a8, .inl (cI, 64, .inl gsk_13)), (a9, .inl (cI, 8, .inl gtk_13)), (b0, .inl (cI, 8, .inl kS)), (b1, .inl (cI, 64, .inl kR)), (a2, .inl (cJ, 4, .inr (.inl gfk_13))), (a0, .inl (cJ, 1232, .inr (.inl (w8 nf (8 * n) (lN 1) (lN I) (lN Y) x3 x4 0 0 0)))), (a1, .inl (cJ, 616, .inr (.inl (c4 cf (4 * n) (lkw [0, 0, 0, 0, lN 1, lN I, lN Y, x3, x4]))))), (a4, .inl (cI, 4, .inl (upd kf I (nI n)))), (b2, .inl (cJ, 4, .inr (.inl (vp_updL ky I (lN Y))))), (a3, .inl (cJ, 16, .inr (.inl glk_8)))]) [1, 2, 3, 4, 5, 6, 7, 8, 9, 10, 11, 0] rfl
                  have hD := hD.sub (ws' := [(m0, .inr (8, [.int 0, .int (nI N), .int (nI (n + 1)), .int (nI bc), .long (lN P), .long (lN Q), .long (lN G), .long (lN gak_13), .long (lN pa), .long (lN pb), .int cl, .ref a0, .ref a1, .ref a2, .ref a3, .ref a4, .ref a5, .ref a6, .ref a7, .ref a8, .ref a9, .ref b0, .ref b1, .int (nI gok_13), .ref b2, .ref b3, .ref b4, .ref b5])), (a7, .inl (cI, 256, .inl gbk_13)), (a8, .inl (cI, 64, .inl gsk_13)), (a9, .inl (cI, 8, .inl gtk_13)), (b0, .inl (cI, 8, .inl kS)), (b1, .inl (cI, 64, .inl kR)), (a2, .inl (cJ, 4, .inr (.inl gfk_13))), (a0, .inl (cJ, 1232, .inr (.inl (w8 nf (8 * n) (lN 1) (lN I) (lN Y) x3 x4 0 0 0)))), (a1, .inl (cJ, 616, .inr (.inl (c4 cf (4 * n) (lkw [0, 0, 0, 0, lN 1, lN I, lN Y, x3, x4]))))), (a4, .inl (cI, 4, .inl (upd kf I (nI n)))), (b2, .inl (cJ, 4, .inr (.inl (vp_updL ky I (lN Y))))), (a3, .inl (cJ, 16, .inr (.inl glk_8)))]) [1, 2, 3, 4, 5, 6, 7, 8, 9, 10, 11, 0] (by decide) rfl
                  generalize H1 = H at hP hS ⊢
                  exact W.iret (v := (nI n)) hx hb hr (fun t ht9 hW => ⟨⟨_, ((gbk_13, gsk_13, gtk_13, gfk_13, gok_13), glk_8, gak_13), rfl, ⟨rfl, hal9⟩, by rw [ht9]; exact hP, va_K.moved hW.alike hK, hD⟩, hS.F ht9⟩) hS.2.2 d_Bm_key_107
                · -- not taken
                  exact absurd rfl c_12
              · -- not taken
                exact absurd hh (bz_f hr_9 c_10)
        · -- not taken
          exact absurd ((rK_neg hrk hn (show I < 4 by omega)).mpr hk0) c_4
set_option maxHeartbeats 8000000 in
set_option maxRecDepth 100000 in
theorem c_Bm_key_05 (l : Launch) (dC : Nat → ClassId) (dI : Nat → Nat → Nat) (cJ cI : ClassId) (sz : Nat) (m0 : Nat) (e0 : Int32) (N n bc P Q G al pa pb : Nat) (cl : Int32) (a0 a1 a2 a3 a4 a5 a6 a7 a8 a9 b0 b1 oc b2 b3 b4 b5 : Nat) (bf sc st kf : Nat → Int32) (tf nf cf ky lf : Nat → Int64) (ko : Nat → Nat) (I Y : Nat) (x3 x4 : Int64) (hN : N ≤ 4) (hgr : 0 < N → gfx P Q G) (hcl : cl = 0 ∨ cl = 1) (hn : n ≤ 154) (hrk : rK 4 n ko kf ky) (hko : ∀ j, ko j < 2 ^ 61) (hN0 : 0 < N) (hcl0 : cl = 0) (hI : I < N) (hk0 : ko I = 0) (hn1 : n < 154) (hn0 : 0 < n) (hkP : ∀ j, ko j < P) (hYP : Y < P) (hY0 : Y ≠ 0) (hh : keyHd P Q G I (lN Y) x3 x4) : Met l y_Bm_key w_Bm_key ({ frames := 7, cells := 0, slots := 0, locals := 204 }) (va_Pc [.ref m0, .int (nI I), .long (lN Y), .long x3, .long x4] (fun U => U.heap.size = sz ∧ va_P (dC, dI) classes (mo_ws m0 e0 (nI N) (nI n) (nI bc) (lN P) (lN Q) (lN G) (lN al) (lN pa) (lN pb) cl a0 a1 a2 a3 a4 a5 a6 a7 a8 a9 b0 b1 oc b2 b3 b4 b5 ++ (iw_ws a7 cI 256 bf ++ (iw_ws a8 cI 64 sc ++ (iw_ws a9 cI 8 st ++ (iw_ws b0 cI 8 kS ++ (iw_ws b1 cI 64 kR ++ (jw_ws a2 cJ 4 tf ++ (jw_ws a0 cJ 1232 nf ++ (jw_ws a1 cJ 616 cf ++ (iw_ws a4 cI 4 kf ++ (jw_ws b2 cJ 4 ky ++ (jw_ws a3 cJ 16 lf)))))))))))) U.heap ∧ va_K (dC, dI) classes [(cJ, .long), (cI, .int)] U ∧ va_D (fun _ => True) (mo_ws m0 e0 (nI N) (nI n) (nI bc) (lN P) (lN Q) (lN G) (lN al) (lN pa) (lN pb) cl a0 a1 a2 a3 a4 a5 a6 a7 a8 a9 b0 b1 oc b2 b3 b4 b5 ++ (iw_ws a7 cI 256 bf ++ (iw_ws a8 cI 64 sc ++ (iw_ws a9 cI 8 st ++ (iw_ws b0 cI 8 kS ++ (iw_ws b1 cI 64 kR ++ (jw_ws a2 cJ 4 tf ++ (jw_ws a0 cJ 1232 nf ++ (jw_ws a1 cJ 616 cf ++ (iw_ws a4 cI 4 kf ++ (jw_ws b2 cJ 4 ky ++ (jw_ws a3 cJ 16 lf)))))))))))))) (va_Qi (fun (r : Int32) (u9 : DU × (Nat → Int64) × Nat) => r = nI n ∧ ((allN N (updN ko I Y) ∧ u9.2.2 = prk P (updN ko I Y) N) ∨ (¬ allN N (updN ko I Y) ∧ u9.2.2 = al))) (fun u9 t => va_P (dC, dI) classes (mo_ws m0 0 (nI N) (nI (n + 1)) (nI bc) (lN P) (lN Q) (lN G) (lN u9.2.2) (lN pa) (lN pb) cl a0 a1 a2 a3 a4 a5 a6 a7 a8 a9 b0 b1 u9.1.2.2.2.2 b2 b3 b4 b5 ++ (iw_ws a7 cI 256 u9.1.1 ++ (iw_ws a8 cI 64 u9.1.2.1 ++ (iw_ws a9 cI 8 u9.1.2.2.1 ++ (iw_ws b0 cI 8 kS ++ (iw_ws b1 cI 64 kR ++ (jw_ws a2 cJ 4 u9.1.2.2.2.1 ++ (jw_ws a0 cJ 1232 (w8 nf (8 * n) (lN 1) (lN I) (lN Y) x3 x4 0 0 0) ++ (jw_ws a1 cJ 616 (c4 cf (4 * n) (lkw [cf (4 * (n - 1) + 0), cf (4 * (n - 1) + 1), cf (4 * (n - 1) + 2), cf (4 * (n - 1) + 3), lN 1, lN I, lN Y, x3, x4])) ++ (iw_ws a4 cI 4 (upd kf I (nI n)) ++ (jw_ws b2 cJ 4 (vp_updL ky I (lN Y)) ++ (jw_ws a3 cJ 16 u9.2.1)))))))))))) t.heap ∧ va_K (dC, dI) classes [(cJ, .long), (cI, .int)] t ∧ va_D (va_A (mo_ws m0 e0 (nI N) (nI n) (nI bc) (lN P) (lN Q) (lN G) (lN al) (lN pa) (lN pb) cl a0 a1 a2 a3 a4 a5 a6 a7 a8 a9 b0 b1 oc b2 b3 b4 b5 ++ (iw_ws a7 cI 256 bf ++ (iw_ws a8 cI 64 sc ++ (iw_ws a9 cI 8 st ++ (iw_ws b0 cI 8 kS ++ (iw_ws b1 cI 64 kR ++ (jw_ws a2 cJ 4 tf ++ (jw_ws a0 cJ 1232 nf ++ (jw_ws a1 cJ 616 cf ++ (iw_ws a4 cI 4 kf ++ (jw_ws b2 cJ 4 ky ++ (jw_ws a3 cJ 16 lf)))))))))))) sz) (mo_ws m0 0 (nI N) (nI (n + 1)) (nI bc) (lN P) (lN Q) (lN G) (lN u9.2.2) (lN pa) (lN pb) cl a0 a1 a2 a3 a4 a5 a6 a7 a8 a9 b0 b1 u9.1.2.2.2.2 b2 b3 b4 b5 ++ (iw_ws a7 cI 256 u9.1.1 ++ (iw_ws a8 cI 64 u9.1.2.1 ++ (iw_ws a9 cI 8 u9.1.2.2.1 ++ (iw_ws b0 cI 8 kS ++ (iw_ws b1 cI 64 kR ++ (jw_ws a2 cJ 4 u9.1.2.2.2.1 ++ (jw_ws a0 cJ 1232 (w8 nf (8 * n) (lN 1) (lN I) (lN Y) x3 x4 0 0 0) ++ (jw_ws a1 cJ 616 (c4 cf (4 * n) (lkw [cf (4 * (n - 1) + 0), cf (4 * (n - 1) + 1), cf (4 * (n - 1) + 2), cf (4 * (n - 1) + 3), lN 1, lN I, lN Y, x3, x4])) ++ (iw_ws a4 cI 4 (upd kf I (nI n)) ++ (jw_ws b2 cJ 4 (vp_updL ky I (lN Y)) ++ (jw_ws a3 cJ 16 u9.2.1))))))))))))) (va_A (mo_ws m0 e0 (nI N) (nI n) (nI bc) (lN P) (lN Q) (lN G) (lN al) (lN pa) (lN pb) cl a0 a1 a2 a3 a4 a5 a6 a7 a8 a9 b0 b1 oc b2 b3 b4 b5 ++ (iw_ws a7 cI 256 bf ++ (iw_ws a8 cI 64 sc ++ (iw_ws a9 cI 8 st ++ (iw_ws b0 cI 8 kS ++ (iw_ws b1 cI 64 kR ++ (jw_ws a2 cJ 4 tf ++ (jw_ws a0 cJ 1232 nf ++ (jw_ws a1 cJ 616 cf ++ (iw_ws a4 cI 4 kf ++ (jw_ws b2 cJ 4 ky ++ (jw_ws a3 cJ 16 lf)))))))))))) sz)) 0 0 (va_A (mo_ws m0 e0 (nI N) (nI n) (nI bc) (lN P) (lN Q) (lN G) (lN al) (lN pa) (lN pb) cl a0 a1 a2 a3 a4 a5 a6 a7 a8 a9 b0 b1 oc b2 b3 b4 b5 ++ (iw_ws a7 cI 256 bf ++ (iw_ws a8 cI 64 sc ++ (iw_ws a9 cI 8 st ++ (iw_ws b0 cI 8 kS ++ (iw_ws b1 cI 64 kR ++ (jw_ws a2 cJ 4 tf ++ (jw_ws a0 cJ 1232 nf ++ (jw_ws a1 cJ 616 cf ++ (iw_ws a4 cI 4 kf ++ (jw_ws b2 cJ 4 ky ++ (jw_ws a3 cJ 16 lf)))))))))))) sz) := by
  refine Met.ofW (cc := b_Bm_key) (maxL := 8) (ret := (some .int)) (by decide) rfl ?_
  intro p e s m args below meth c s₁ Bd hml hv
  obtain ⟨rfl, hsz, hP, hK, hD0⟩ := hv
  have hx := Bd.exec
  have hb := Bd.bytes
  have hr := Bd.returns
  have hts := atoms_spec (ws := w_Bm_key) Bd.pre
  have hown : s.vm.findClass "BallotBoardModel" = some m.cls := findClass_of_methodNamed Bd.named
  have hlocks := Bd.notSynchronized
  subst hsz
  have hD := hD0.self (sz := s.heap.size)
  generalize hAe : va_A (mo_ws m0 e0 (nI N) (nI n) (nI bc) (lN P) (lN Q) (lN G) (lN al) (lN pa) (lN pb) cl a0 a1 a2 a3 a4 a5 a6 a7 a8 a9 b0 b1 oc b2 b3 b4 b5 ++ (iw_ws a7 cI 256 bf ++ (iw_ws a8 cI 64 sc ++ (iw_ws a9 cI 8 st ++ (iw_ws b0 cI 8 kS ++ (iw_ws b1 cI 64 kR ++ (jw_ws a2 cJ 4 tf ++ (jw_ws a0 cJ 1232 nf ++ (jw_ws a1 cJ 616 cf ++ (iw_ws a4 cI 4 kf ++ (jw_ws b2 cJ 4 ky ++ (jw_ws a3 cJ 16 lf)))))))))))) s.heap.size = A at hD ⊢
  have hA : ∀ q : Nat, s.heap.size ≤ q → A q := fun q h => by rw [← hAe]; exact Or.inr h
  have hS : va_S A s.heap s.heap [] := va_S.rf
  have hl := lv_entry ([.ref m0, .int (nI I), .long (lN Y), .long x3, .long x4]) (n := 8) (Nat.le_of_ble_eq_true rfl)
  rw [lg_entry_eq]
  generalize (lg_sl ([.ref m0, .int (nI I), .long (lN Y), .long x3, .long x4]) ++ List.replicate (8 - (lg_sl ([.ref m0, .int (nI I), .long (lN Y), .long x3, .long x4])).length) Slot.unset).toArray = ls at hl ⊢
  have hl : lv_has ls 8 [(0, .ref m0), (1, .int (nI I)), (2, .long (lN Y)), (4, .long x3), (6, .long x4)] := hl
  obtain ⟨hPQ, h61F, hQ3, hG2, hGP, hGQ⟩ := hgr hN0
  refine lv_aload_n hx hb d_Bm_key_0 rfl (lv_at hl 0 rfl) ?_
  refine lv_iconst (v := 0) hx hb d_Bm_key_1 (by decide) ?_
  refine va_put (D := (dC, dI)) (ci := 8) (v := .int 0) (ty := .int) (C := "BallotBoardModel") (T := F_Bm) (N := 28) hx hb hts (fun w9 h9 => List.mem_cons_of_mem _ (i_Bm w9 h9)) t_Bm t_Bm_ok n_Bm hown hK hP hD hS 0 rfl rfl 0 (by decide) (hts _ (List.mem_cons_of_mem _ gk_919)) (fun _ h9 => h9) rfl (by decide +kernel) rfl rfl (Nat.le_of_ble_eq_true rfl) d_Bm_key_2 (fun H locs hP hD hS => ?_)
  have hP : va_P (dC, dI) classes [(m0, .inr (8, [.int 0, .int (nI N), .int (nI n), .int (nI bc), .long (lN P), .long (lN Q), .long (lN G), .long (lN al), .long (lN pa), .long (lN pb), .int cl, .ref a0, .ref a1, .ref a2, .ref a3, .ref a4, .ref a5, .ref a6, .ref a7, .ref a8, .ref a9, .ref b0, .ref b1, .int (nI oc), .ref b2, .ref b3, .ref b4, .ref b5])), (a7, .inl (cI, 256, .inl bf)), (a8, .inl (cI, 64, .inl sc)), (a9, .inl (cI, 8, .inl st)), (b0, .inl (cI, 8, .inl kS)), (b1, .inl (cI, 64, .inl kR)), (a2, .inl (cJ, 4, .inr (.inl tf))), (a0, .inl (cJ, 1232, .inr (.inl nf))), (a1, .inl (cJ, 616, .inr (.inl cf))), (a4, .inl (cI, 4, .inl kf)), (b2, .inl (cJ, 4, .inr (.inl ky))), (a3, .inl (cJ, 16, .inr (.inl lf)))] H := hP
  have hD : va_D A [(m0, .inr (8, [.int 0, .int (nI N), .int (nI n), .int (nI bc), .long (lN P), .long (lN Q), .long (lN G), .long (lN al), .long (lN pa), .long (lN pb), .int cl, .ref a0, .ref a1, .ref a2, .ref a3, .ref a4, .ref a5, .ref a6, .ref a7, .ref a8, .ref a9, .ref b0, .ref b1, .int (nI oc), .ref b2, .ref b3, .ref b4, .ref b5])), (a7, .inl (cI, 256, .inl bf)), (a8, .inl (cI, 64, .inl sc)), (a9, .inl (cI, 8, .inl st)), (b0, .inl (cI, 8, .inl kS)), (b1, .inl (cI, 64, .inl kR)), (a2, .inl (cJ, 4, .inr (.inl tf))), (a0, .inl (cJ, 1232, .inr (.inl nf))), (a1, .inl (cJ, 616, .inr (.inl cf))), (a4, .inl (cI, 4, .inl kf)), (b2, .inl (cJ, 4, .inr (.inl ky))), (a3, .inl (cJ, 16, .inr (.inl lf)))] := hD
  refine lv_aload_n hx hb d_Bm_key_5 rfl (lv_at hl 0 rfl) ?_
  refine lv_aload_n hx hb d_Bm_key_6 rfl (lv_at hl 0 rfl) ?_
  refine va_get (D := (dC, dI)) (ci := 8) (v := .int (nI N)) (C := "BallotBoardModel") (T := F_Bm) (N := 28) hx hb hts (fun w9 h9 => List.mem_cons_of_mem _ (i_Bm w9 h9)) hown hK hP 0 rfl rfl 1 (by decide) (hts _ (List.mem_cons_of_mem _ gk_920)) (fun _ h9 => h9) rfl d_Bm_key_7 ?_
  refine lv_if_eq (tgt := 43) hx hb d_Bm_key_10 (by decide) (fun c_1 => ?_) (fun c_1 => ?_)
  · -- taken
    exact absurd c_1 (nI_ne0 hN0 (by omega))
  · -- not taken
    refine lv_aload_n hx hb d_Bm_key_13 rfl (lv_at hl 0 rfl) ?_
    refine va_get (D := (dC, dI)) (ci := 8) (v := .int cl) (C := "BallotBoardModel") (T := F_Bm) (N := 28) hx hb hts (fun w9 h9 => List.mem_cons_of_mem _ (i_Bm w9 h9)) hown hK hP 0 rfl rfl 10 (by decide) (hts _ (List.mem_cons_of_mem _ gk_929)) (fun _ h9 => h9) rfl d_Bm_key_14 ?_
    refine lv_if_ne (tgt := 43) hx hb d_Bm_key_17 (by decide) (fun c_2 => ?_) (fun c_2 => ?_)
    · -- taken
      exact absurd hcl0 c_2
    · -- not taken
      refine lv_iload_n hx hb d_Bm_key_20 rfl (lv_at hl 1 rfl) ?_
      refine lv_iconst (v := 0) hx hb d_Bm_key_21 (by decide) ?_
      refine lv_aload_n hx hb d_Bm_key_22 rfl (lv_at hl 0 rfl) ?_
      refine va_get (D := (dC, dI)) (ci := 8) (v := .int (nI N)) (C := "BallotBoardModel") (T := F_Bm) (N := 28) hx hb hts (fun w9 h9 => List.mem_cons_of_mem _ (i_Bm w9 h9)) hown hK hP 0 rfl rfl 1 (by decide) (hts _ (List.mem_cons_of_mem _ gk_920)) (fun _ h9 => h9) rfl d_Bm_key_23 ?_
      refine lv_iconst (v := 1) hx hb d_Bm_key_26 (by decide) ?_
      refine lv_isub hx hb d_Bm_key_27 ?_
      rw [show ((nI N) - 1 : Int32) = (nI (N - 1)) from nI_subI (b := 1) (by omega) rfl]
      refine va_calli (va_runS (As := [.int (nI I), .int 0, .int (nI (N - 1))]) (rest := [.ref m0]) ⟨hx, hb, hml, hown, hts⟩ (c_Bm_in l H (nI I) 0 (nI (N - 1))) (cwS 3 hts (gw_S gk_1027 gk_1028 gk_7 gk_1029) rfl rfl rfl (by decide +kernel) ⟨Nat.le_of_ble_eq_true rfl, Nat.le_of_ble_eq_true rfl⟩) ⟨fun a U g mk q => q, fun U hU hW => ⟨rfl, hU⟩⟩ rfl rfl hl.1 rfl (lv_room (Nat.le_of_ble_eq_true rfl)) d_Bm_key_28 ⟨Nat.le_of_ble_eq_true rfl, Nat.le_of_ble_eq_true rfl⟩) hS (fun q _ h => h.elim) (fun q h => h.elim) (fun r28 u9 t9 H1 locs ht hvm hw hB hz1 hk1 hS => ?_)
      obtain rfl : H = H1 := hB.symm.trans ht
      have h28 : bz r28 (inN (nI I) N) := bz_in hN0 (by omega) rfl hw
      refine lv_if_eq (tgt := 47) hx hb d_Bm_key_31 (by decide) (fun c_3 => ?_) (fun c_3 => ?_)
      · -- taken
        exact absurd (⟨I, rfl, hI⟩ : inN (nI I) N) (bz_f h28 c_3)
      · -- not taken
        have bo28 := bz_t h28 c_3
        refine lv_aload_n hx hb d_Bm_key_34 rfl (lv_at hl 0 rfl) ?_
        refine va_get (D := (dC, dI)) (ci := 8) (v := .ref a4) (C := "BallotBoardModel") (T := F_Bm) (N := 28) hx hb hts (fun w9 h9 => List.mem_cons_of_mem _ (i_Bm w9 h9)) hown hK hP 0 rfl rfl 15 (by decide) (hts _ (List.mem_cons_of_mem _ gk_934)) (fun _ h9 => h9) rfl d_Bm_key_35 ?_
        refine lv_iload_n hx hb d_Bm_key_38 rfl (lv_at hl 1 rfl) ?_
        refine va_iald hx hb hK hP 9 1 rfl rfl (vp_in_nI (by omega) (by omega)) d_Bm_key_39 ?_
        rw [show (kf (nI I : Int32).toNatClampNeg : Int32) = kf I from by rw [nI_clamp (by omega)]]
        refine lv_if_lt (tgt := 47) hx hb d_Bm_key_40 (by decide) (fun c_4 => ?_) (fun c_4 => ?_)
        · -- taken
          refine lv_iconst (v := 0) hx hb d_Bm_key_47 (by decide) ?_
          refine lv_iconst (v := 1) hx hb d_Bm_key_48 (by decide) ?_
          have hPc := hP.sub (ws' := (mo_ws m0 0 (nI N) (nI n) (nI bc) (lN P) (lN Q) (lN G) (lN al) (lN pa) (lN pb) cl a0 a1 a2 a3 a4 a5 a6 a7 a8 a9 b0 b1 oc b2 b3 b4 b5)) [0] rfl
          have hDc := hD.sub (ws' := (mo_ws m0 0 (nI N) (nI n) (nI bc) (lN P) (lN Q) (lN G) (lN al) (lN pa) (lN pb) cl a0 a1 a2 a3 a4 a5 a6 a7 a8 a9 b0 b1 oc b2 b3 b4 b5)) [0] (by decide) rfl
          have hKc := hK.sub (tys' := [(cJ, .long), (cI, .int)]) [0, 1] rfl
          have hFc := va_free (wc := (mo_ws m0 0 (nI N) (nI n) (nI bc) (lN P) (lN Q) (lN G) (lN al) (lN pa) (lN pb) cl a0 a1 a2 a3 a4 a5 a6 a7 a8 a9 b0 b1 oc b2 b3 b4 b5)) hD hS hA [0] rfl
          refine va_calli (va_runV (As := [.int 0, .int 1]) (rest := []) ⟨hx, hb, hml, hown, hts⟩ (c_Bm_fails_0 l dC dI cJ cI H.size m0 (nI N) (nI n) (nI bc) (lN P) (lN Q) (lN G) (lN al) (lN pa) (lN pb) cl a0 a1 a2 a3 a4 a5 a6 a7 a8 a9 b0 b1 oc b2 b3 b4 b5 1) (cwV 2 hts (gw_V gk_1030 gk_1032 gp_27 gk_7 gk_1033) rfl rfl rfl (by decide +kernel) ⟨Nat.le_of_ble_eq_true rfl, Nat.le_of_ble_eq_true rfl⟩) ⟨fun a U g mk q => by obtain ⟨q0, q1, qP, qK, qD⟩ := q; exact ⟨q0, q1, qP, va_K.moved (u := U) (U := U.calling g mk a) (Vm.Alike.refl U.vm) qK, qD⟩, va_recv hK hP (ci := 8) (q0 := 0) rfl rfl, fun U hU hW => ⟨rfl, by rw [hU], by rw [hU]; exact hPc, va_K.moved hW.alike hKc, hDc.weaken (fun _ _ _ _ => trivial)⟩⟩ rfl rfl hl.1 rfl (lv_room (Nat.le_of_ble_eq_true rfl)) d_Bm_key_49 ⟨Nat.le_of_ble_eq_true rfl, Nat.le_of_ble_eq_true rfl⟩) hS (fun q _ h => hFc q h) hFc (fun r_5 u9 t9 H1 locs ht hvm hw hB hz1 hk1 hS => ?_)
          have hw : r_5 = 0 := hw
          subst hw
          obtain ⟨hP1, hK1, hD1⟩ := hB
          rw [ht] at hP1
          obtain ⟨hP, hD⟩ := va_join (wr := [(a7, .inl (cI, 256, .inl bf)), (a8, .inl (cI, 64, .inl sc)), (a9, .inl (cI, 8, .inl st)), (b0, .inl (cI, 8, .inl kS)), (b1, .inl (cI, 64, .inl kR)), (a2, .inl (cJ, 4, .inr (.inl tf))), (a0, .inl (cJ, 1232, .inr (.inl nf))), (a1, .inl (cJ, 616, .inr (.inl cf))), (a4, .inl (cI, 4, .inl kf)), (b2, .inl (cJ, 4, .inr (.inl ky))), (a3, .inl (cJ, 16, .inr (.inl lf)))]) (w1 := [(m0, .inr (8, [.int 0, .int (nI N), .int (nI n), .int (nI bc), .long (lN P), .long (lN Q), .long (lN G), .long (lN al), .long (lN pa), .long (lN pb), .int cl, .ref a0, .ref a1, .ref a2, .ref a3, .ref a4, .ref a5, .ref a6, .ref a7, .ref a8, .ref a9, .ref b0, .ref b1, .int (nI oc), .ref b2, .ref b3, .ref b4, .ref b5]))]) hP hD [0] [1, 2, 3, 4, 5, 6, 7, 8, 9, 10, 11] rfl rfl (by decide) (by decide) hk1 hFc hP1 hD1
          have hP := hP.sub (ws' := [(m0, .inr (8, [.int 0, .int (nI N), .int (nI n), .int (nI bc), .long (lN P), .long (lN Q), .long (lN G), .long (lN al), .long (lN pa), .long (lN pb), .int cl, .ref a0, .ref a1, .ref a2, .ref a3, .ref a4, .ref a5, .ref a6, .ref a7, .ref a8, .ref a9, .ref b0, .ref b1, .int (nI oc), .ref b2, .ref b3, .ref b4, .ref b5])), (a7, .inl (cI, 256, .inl bf)), (a8, .inl (cI, 64, .inl sc)), (a9, .inl (cI, 8, .inl st)), (b0, .inl (cI, 8, .inl kS)), (b1, .inl (cI, 64, .inl kR)), (a2, .inl (cJ, 4, .inr (.inl tf))), (a0, .inl (cJ, 1232, .inr (.inl nf))), (a1, .inl (cJ, 616, .inr (.inl cf))), (a4, .inl (cI, 4, .inl kf)), (b2, .inl (cJ, 4, .inr (.inl ky))), (a3, .inl (cJ, 16, .inr (.inl lf)))]) [11, 0, 1, 2, 3, 4, 5, 6, 7, 8, 9, 10] rfl
          have hD := hD.sub (ws' := [(m0, .inr (8, [.int 0, .int (nI N), .int (nI n), .int (nI bc), .long (lN P), .long (lN Q), .long (lN G), .long (lN al), .long (lN pa), .long (lN pb), .int cl, .ref a0, .ref a1, .ref a2, .ref a3, .ref a4, .ref a5, .ref a6, .ref a7, .ref a8, .ref a9, .ref b0, .ref b1, .int (nI oc), .ref b2, .ref b3, .ref b4, .ref b5])), (a7, .inl (cI, 256, .inl bf)), (a8, .inl (cI, 64, .inl sc)), (a9, .inl (cI, 8, .inl st)), (b0, .inl (cI, 8, .inl kS)), (b1, .inl (cI, 64, .inl kR)), (a2, .inl (cJ, 4, .inr (.inl tf))), (a0, .inl (cJ, 1232, .inr (.inl nf))), (a1, .inl (cJ, 616, .inr (.inl cf))), (a4, .inl (cI, 4, .inl kf)), (b2, .inl (cJ, 4, .inr (.inl ky))), (a3, .inl (cJ, 16, .inr (.inl lf)))]) [11, 0, 1, 2, 3, 4, 5, 6, 7, 8, 9, 10] (by decide) rfl
          generalize H1 = H at hP hS ⊢
          refine lv_if_ne (tgt := 95) hx hb d_Bm_key_52 (by decide) (fun c_6 => ?_) (fun c_6 => ?_)
          · -- taken
            exact absurd rfl c_6
          · -- not taken
            refine lv_aload_n hx hb d_Bm_key_55 rfl (lv_at hl 0 rfl) ?_
            refine lv_iload_n hx hb d_Bm_key_56 rfl (lv_at hl 1 rfl) ?_
            refine lv_iconst (v := 0) hx hb d_Bm_key_57 (by decide) ?_
            refine lv_aload_n hx hb d_Bm_key_58 rfl (lv_at hl 0 rfl) ?_
            refine va_get (D := (dC, dI)) (ci := 8) (v := .int (nI N)) (C := "BallotBoardModel") (T := F_Bm) (N := 28) hx hb hts (fun w9 h9 => List.mem_cons_of_mem _ (i_Bm w9 h9)) hown hK hP 0 rfl rfl 1 (by decide) (hts _ (List.mem_cons_of_mem _ gk_920)) (fun _ h9 => h9) rfl d_Bm_key_59 ?_
            refine lv_iconst (v := 1) hx hb d_Bm_key_62 (by decide) ?_
            refine lv_isub hx hb d_Bm_key_63 ?_
            rw [show ((nI N) - 1 : Int32) = (nI (N - 1)) from nI_subI (b := 1) (by omega) rfl]
            refine va_calli (va_runS (As := [.int (nI I), .int 0, .int (nI (N - 1))]) (rest := [.ref m0]) ⟨hx, hb, hml, hown, hts⟩ (c_Bm_in l H (nI I) 0 (nI (N - 1))) (cwS 3 hts (gw_S gk_1027 gk_1028 gk_7 gk_1029) rfl rfl rfl (by decide +kernel) ⟨Nat.le_of_ble_eq_true rfl, Nat.le_of_ble_eq_true rfl⟩) ⟨fun a U g mk q => q, fun U hU hW => ⟨rfl, hU⟩⟩ rfl rfl hl.1 rfl (lv_room (Nat.le_of_ble_eq_true rfl)) d_Bm_key_64 ⟨Nat.le_of_ble_eq_true rfl, Nat.le_of_ble_eq_true rfl⟩) hS (fun q _ h => h.elim) (fun q h => h.elim) (fun r64 u9 t9 H1 locs ht hvm hw hB hz1 hk1 hS => ?_)
            obtain rfl : H = H1 := hB.symm.trans ht
            have h64 : bz r64 (inN (nI I) N) := bz_in hN0 (by omega) rfl hw
            refine lv_if_eq (tgt := 83) hx hb d_Bm_key_67 (by decide) (fun c_7 => ?_) (fun c_7 => ?_)
            · -- taken
              exact absurd (⟨I, rfl, hI⟩ : inN (nI I) N) (bz_f h64 c_7)
            · -- not taken
              have bo64 := bz_t h64 c_7
              refine lv_aload_n hx hb d_Bm_key_70 rfl (lv_at hl 0 rfl) ?_
              refine lv_iload_n hx hb d_Bm_key_71 rfl (lv_at hl 1 rfl) ?_
              refine lv_lload_n hx hb d_Bm_key_72 rfl (lv_at hl 2 rfl) ?_
              refine lv_lload hx hb d_Bm_key_73 (lv_at hl 3 rfl) ?_
              refine lv_lload hx hb d_Bm_key_75 (lv_at hl 4 rfl) ?_
              have hPc := hP.sub (ws' := (mo_ws m0 0 (nI N) (nI n) (nI bc) (lN P) (lN Q) (lN G) (lN al) (lN pa) (lN pb) cl a0 a1 a2 a3 a4 a5 a6 a7 a8 a9 b0 b1 oc b2 b3 b4 b5 ++ (iw_ws a7 cI 256 bf ++ (iw_ws a8 cI 64 sc ++ (iw_ws a9 cI 8 st ++ (iw_ws b0 cI 8 kS ++ (iw_ws b1 cI 64 kR ++ (jw_ws a2 cJ 4 tf ++ (jw_ws a3 cJ 16 lf))))))))) [0, 1, 2, 3, 4, 5, 6, 11] rfl
              have hDc := hD.sub (ws' := (mo_ws m0 0 (nI N) (nI n) (nI bc) (lN P) (lN Q) (lN G) (lN al) (lN pa) (lN pb) cl a0 a1 a2 a3 a4 a5 a6 a7 a8 a9 b0 b1 oc b2 b3 b4 b5 ++ (iw_ws a7 cI 256 bf ++ (iw_ws a8 cI 64 sc ++ (iw_ws a9 cI 8 st ++ (iw_ws b0 cI 8 kS ++ (iw_ws b1 cI 64 kR ++ (jw_ws a2 cJ 4 tf ++ (jw_ws a3 cJ 16 lf))))))))) [0, 1, 2, 3, 4, 5, 6, 11] (by decide) rfl
              have hKc := hK.sub (tys' := [(cJ, .long), (cI, .int)]) [0, 1] rfl
              have hFc := va_free (wc := (mo_ws m0 0 (nI N) (nI n) (nI bc) (lN P) (lN Q) (lN G) (lN al) (lN pa) (lN pb) cl a0 a1 a2 a3 a4 a5 a6 a7 a8 a9 b0 b1 oc b2 b3 b4 b5 ++ (iw_ws a7 cI 256 bf ++ (iw_ws a8 cI 64 sc ++ (iw_ws a9 cI 8 st ++ (iw_ws b0 cI 8 kS ++ (iw_ws b1 cI 64 kR ++ (jw_ws a2 cJ 4 tf ++ (jw_ws a3 cJ 16 lf))))))))) hD hS hA [0, 1, 2, 3, 4, 5, 6, 11] rfl
              refine va_calli (va_runV (As := [.int (nI I), .long (lN Y), .long x3, .long x4]) (rest := [.ref m0]) ⟨hx, hb, hml, hown, hts⟩ (c_Bm_keyHolds l dC dI cJ cI H.size m0 0 (nI N) (nI n) (nI bc) (lN al) (lN pa) (lN pb) cl a0 a1 a2 a3 a4 a5 a6 a7 a8 a9 b0 b1 oc b2 b3 b4 b5 P Q G bf sc st tf lf I (lN Y) x3 x4 hPQ h61F hQ3 hG2 hGP hGQ (by omega)) (cwV 4 hts (gw_V gk_1038 gk_1040 gp_28 gk_7 gk_1041) rfl rfl rfl (by decide +kernel) ⟨Nat.le_of_ble_eq_true rfl, Nat.le_of_ble_eq_true rfl⟩) ⟨fun a U g mk q => by obtain ⟨q0, q1, qP, qK, qD⟩ := q; exact ⟨q0, q1, qP, va_K.moved (u := U) (U := U.calling g mk a) (Vm.Alike.refl U.vm) qK, qD⟩, va_recv hK hP (ci := 8) (q0 := 0) rfl rfl, fun U hU hW => ⟨rfl, by rw [hU], by rw [hU]; exact hPc, va_K.moved hW.alike hKc, hDc.weaken (fun _ _ _ _ => trivial)⟩⟩ rfl rfl hl.1 rfl (lv_room (Nat.le_of_ble_eq_true rfl)) d_Bm_key_77 ⟨Nat.le_of_ble_eq_true rfl, Nat.le_of_ble_eq_true rfl⟩) hS (fun q _ h => hFc q h) hFc (fun r_9 u9 t9 H1 locs ht hvm hw hB hz1 hk1 hS => ?_)
              obtain ⟨⟨gbk_8, gsk_8, gtk_8, gfk_8, gok_8⟩, glk_8⟩ := u9
              have hr_9 := hw
              obtain ⟨hP1, hK1, hD1⟩ := hB
              rw [ht] at hP1
              obtain ⟨hP, hD⟩ := va_join (wr := [(a0, .inl (cJ, 1232, .inr (.inl nf))), (a1, .inl (cJ, 616, .inr (.inl cf))), (a4, .inl (cI, 4, .inl kf)), (b2, .inl (cJ, 4, .inr (.inl ky)))]) (w1 := [(m0, .inr (8, [.int 0, .int (nI N), .int (nI n), .int (nI bc), .long (lN P), .long (lN Q), .long (lN G), .long (lN al), .long (lN pa), .long (lN pb), .int cl, .ref a0, .ref a1, .ref a2, .ref a3, .ref a4, .ref a5, .ref a6, .ref a7, .ref a8, .ref a9, .ref b0, .ref b1, .int (nI gok_8), .ref b2, .ref b3, .ref b4, .ref b5])), (a7, .inl (cI, 256, .inl gbk_8)), (a8, .inl (cI, 64, .inl gsk_8)), (a9, .inl (cI, 8, .inl gtk_8)), (b0, .inl (cI, 8, .inl kS)), (b1, .inl (cI, 64, .inl kR)), (a2, .inl (cJ, 4, .inr (.inl gfk_8))), (a3, .inl (cJ, 16, .inr (.inl glk_8)))]) hP hD [0, 1, 2, 3, 4, 5, 6, 11] [7, 8, 9, 10] rfl rfl (by decide) (by decide) hk1 hFc hP1 hD1
              have hP := hP.sub (ws' := [(m0, .inr (8, [.int 0, .int (nI N), .int (nI n), .int (nI bc), .long (lN P), .long (lN Q), .long (lN G), .long (lN al), .long (lN pa), .long (lN pb), .int cl, .ref a0, .ref a1, .ref a2, .ref a3, .ref a4, .ref a5, .ref a6, .ref a7, .ref a8, .ref a9, .ref b0, .ref b1, .int (nI gok_8), .ref b2, .ref b3, .ref b4, .ref b5])), (a7, .inl (cI, 256, .inl gbk_8)), (a8, .inl (cI, 64, .inl gsk_8)), (a9, .inl (cI, 8, .inl gtk_8)), (b0, .inl (cI, 8, .inl kS)), (b1, .inl (cI, 64, .inl kR)), (a2, .inl (cJ, 4, .inr (.inl gfk_8))), (a0, .inl (cJ, 1232, .inr (.inl nf))), (a1, .inl (cJ, 616, .inr (.inl cf))), (a4, .inl (cI, 4, .inl kf)), (b2, .inl (cJ, 4, .inr (.inl ky))), (a3, .inl (cJ, 16, .inr (.inl glk_8)))]) [4, 5, 6, 7, 8, 9, 10, 0, 1, 2, 3, 11] rfl
              have hD := hD.sub (ws' := [(m0, .inr (8, [.int 0, .int (nI N), .int (nI n), .int (nI bc), .long (lN P), .long (lN Q), .long (lN G), .long (lN al), .long (lN pa), .long (lN pb), .int cl, .ref a0, .ref a1, .ref a2, .ref a3, .ref a4, .ref a5, .ref a6, .ref a7, .ref a8, .ref a9, .ref b0, .ref b1, .int (nI gok_8), .ref b2, .ref b3, .ref b4, .ref b5])), (a7, .inl (cI, 256, .inl gbk_8)), (a8, .inl (cI, 64, .inl gsk_8)), (a9, .inl (cI, 8, .inl gtk_8)), (b0, .inl (cI, 8, .inl kS)), (b1, .inl (cI, 64, .inl kR)), (a2, .inl (cJ, 4, .inr (.inl gfk_8))), (a0, .inl (cJ, 1232, .inr (.inl nf))), (a1, .inl (cJ, 616, .inr (.inl cf))), (a4, .inl (cI, 4, .inl kf)), (b2, .inl (cJ, 4, .inr (.inl ky))), (a3, .inl (cJ, 16, .inr (.inl glk_8)))]) [4, 5, 6, 7, 8, 9, 10, 0, 1, 2, 3, 11] (by decide) rfl
              generalize H1 = H at hP hS ⊢
              refine lv_if_ne (tgt := 87) hx hb d_Bm_key_80 (by decide) (fun c_10 => ?_) (fun c_10 => ?_)
              · -- taken
                have bo_9 := bz_t hr_9 c_10
                refine lv_iconst (v := 0) hx hb d_Bm_key_87 (by decide) ?_
                refine lv_iconst (v := 2) hx hb d_Bm_key_88 (by decide) ?_
                have hPc := hP.sub (ws' := (mo_ws m0 0 (nI N) (nI n) (nI bc) (lN P) (lN Q) (lN G) (lN al) (lN pa) (lN pb) cl a0 a1 a2 a3 a4 a5 a6 a7 a8 a9 b0 b1 gok_8 b2 b3 b4 b5)) [0] rfl
                have hDc := hD.sub (ws' := (mo_ws m0 0 (nI N) (nI n) (nI bc) (lN P) (lN Q) (lN G) (lN al) (lN pa) (lN pb) cl a0 a1 a2 a3 a4 a5 a6 a7 a8 a9 b0 b1 gok_8 b2 b3 b4 b5)) [0] (by decide) rfl
                have hKc := hK.sub (tys' := [(cJ, .long), (cI, .int)]) [0, 1] rfl
                have hFc := va_free (wc := (mo_ws m0 0 (nI N) (nI n) (nI bc) (lN P) (lN Q) (lN G) (lN al) (lN pa) (lN pb) cl a0 a1 a2 a3 a4 a5 a6 a7 a8 a9 b0 b1 gok_8 b2 b3 b4 b5)) hD hS hA [0] rfl
                refine va_calli (va_runV (As := [.int 0, .int 2]) (rest := []) ⟨hx, hb, hml, hown, hts⟩ (c_Bm_fails_0 l dC dI cJ cI H.size m0 (nI N) (nI n) (nI bc) (lN P) (lN Q) (lN G) (lN al) (lN pa) (lN pb) cl a0 a1 a2 a3 a4 a5 a6 a7 a8 a9 b0 b1 gok_8 b2 b3 b4 b5 2) (cwV 2 hts (gw_V gk_1030 gk_1032 gp_27 gk_7 gk_1033) rfl rfl rfl (by decide +kernel) ⟨Nat.le_of_ble_eq_true rfl, Nat.le_of_ble_eq_true rfl⟩) ⟨fun a U g mk q => by obtain ⟨q0, q1, qP, qK, qD⟩ := q; exact ⟨q0, q1, qP, va_K.moved (u := U) (U := U.calling g mk a) (Vm.Alike.refl U.vm) qK, qD⟩, va_recv hK hP (ci := 8) (q0 := 0) rfl rfl, fun U hU hW => ⟨rfl, by rw [hU], by rw [hU]; exact hPc, va_K.moved hW.alike hKc, hDc.weaken (fun _ _ _ _ => trivial)⟩⟩ rfl rfl hl.1 rfl (lv_room (Nat.le_of_ble_eq_true rfl)) d_Bm_key_89 ⟨Nat.le_of_ble_eq_true rfl, Nat.le_of_ble_eq_true rfl⟩) hS (fun q _ h => hFc q h) hFc (fun r_11 u9 t9 H1 locs ht hvm hw hB hz1 hk1 hS => ?_)
                have hw : r_11 = 0 := hw
                subst hw
                obtain ⟨hP1, hK1, hD1⟩ := hB
                rw [ht] at hP1
                obtain ⟨hP, hD⟩ := va_join (wr := [(a7, .inl (cI, 256, .inl gbk_8)), (a8, .inl (cI, 64, .inl gsk_8)), (a9, .inl (cI, 8, .inl gtk_8)), (b0, .inl (cI, 8, .inl kS)), (b1, .inl (cI, 64, .inl kR)), (a2, .inl (cJ, 4, .inr (.inl gfk_8))), (a0, .inl (cJ, 1232, .inr (.inl nf))), (a1, .inl (cJ, 616, .inr (.inl cf))), (a4, .inl (cI, 4, .inl kf)), (b2, .inl (cJ, 4, .inr (.inl ky))), (a3, .inl (cJ, 16, .inr (.inl glk_8)))]) (w1 := [(m0, .inr (8, [.int 0, .int (nI N), .int (nI n), .int (nI bc), .long (lN P), .long (lN Q), .long (lN G), .long (lN al), .long (lN pa), .long (lN pb), .int cl, .ref a0, .ref a1, .ref a2, .ref a3, .ref a4, .ref a5, .ref a6, .ref a7, .ref a8, .ref a9, .ref b0, .ref b1, .int (nI gok_8), .ref b2, .ref b3, .ref b4, .ref b5]))]) hP hD [0] [1, 2, 3, 4, 5, 6, 7, 8, 9, 10, 11] rfl rfl (by decide) (by decide) hk1 hFc hP1 hD1
                have hP := hP.sub (ws' := [(m0, .inr (8, [.int 0, .int (nI N), .int (nI n), .int (nI bc), .long (lN P), .long (lN Q), .long (lN G), .long (lN al), .long (lN pa), .long (lN pb), .int cl, .ref a0, .ref a1, .ref a2, .ref a3, .ref a4, .ref a5, .ref a6, .ref a7, .ref a8, .ref a9, .ref b0, .ref b1, .int (nI gok_8), .ref b2, .ref b3, .ref b4, .ref b5])), (a7, .inl (cI, 256, .inl gbk_8)), (a8, .inl (cI, 64, .inl gsk_8)), (a9, .inl (cI, 8, .inl gtk_8)), (b0, .inl (cI, 8, .inl kS)), (b1, .inl (cI, 64, .inl kR)), (a2, .inl (cJ, 4, .inr (.inl gfk_8))), (a0, .inl (cJ, 1232, .inr (.inl nf))), (a1, .inl (cJ, 616, .inr (.inl cf))), (a4, .inl (cI, 4, .inl kf)), (b2, .inl (cJ, 4, .inr (.inl ky))), (a3, .inl (cJ, 16, .inr (.inl glk_8)))]) [11, 0, 1, 2, 3, 4, 5, 6, 7, 8, 9, 10] rfl
                have hD := hD.sub (ws' := [(m0, .inr (8, [.int 0, .int (nI N), .int (nI n), .int (nI bc), .long (lN P), .long (lN Q), .long (lN G), .long (lN al), .long (lN pa), .long (lN pb), .int cl, .ref a0, .ref a1, .ref a2, .ref a3, .ref a4, .ref a5, .ref a6, .ref a7, .ref a8, .ref a9, .ref b0, .ref b1, .int (nI gok_8), .ref b2, .ref b3, .ref b4, .ref b5])), (a7, .inl (cI, 256, .inl gbk_8)), (a8, .inl (cI, 64, .inl gsk_8)), (a9, .inl (cI, 8, .inl gtk_8)), (b0, .inl (cI, 8, .inl kS)), (b1, .inl (cI, 64, .inl kR)), (a2, .inl (cJ, 4, .inr (.inl gfk_8))), (a0, .inl (cJ, 1232, .inr (.inl nf))), (a1, .inl (cJ, 616, .inr (.inl cf))), (a4, .inl (cI, 4, .inl kf)), (b2, .inl (cJ, 4, .inr (.inl ky))), (a3, .inl (cJ, 16, .inr (.inl glk_8)))]) [11, 0, 1, 2, 3, 4, 5, 6, 7, 8, 9, 10] (by decide) rfl
                generalize H1 = H at hP hS ⊢
                refine lv_if_eq (tgt := 97) hx hb d_Bm_key_92 (by decide) (fun c_12 => ?_) (fun c_12 => ?_)
                · -- taken
                  refine lv_aload_n hx hb d_Bm_key_97 rfl (lv_at hl 0 rfl) ?_
                  refine lv_iload_n hx hb d_Bm_key_98 rfl (lv_at hl 1 rfl) ?_
                  refine lv_lload_n hx hb d_Bm_key_99 rfl (lv_at hl 2 rfl) ?_
                  refine lv_lload hx hb d_Bm_key_100 (lv_at hl 3 rfl) ?_
                  refine lv_lload hx hb d_Bm_key_102 (lv_at hl 4 rfl) ?_
                  have hPc := hP.sub (ws' := (mo_ws m0 0 (nI N) (nI n) (nI bc) (lN P) (lN Q) (lN G) (lN al) (lN pa) (lN pb) cl a0 a1 a2 a3 a4 a5 a6 a7 a8 a9 b0 b1 gok_8 b2 b3 b4 b5 ++ (iw_ws a7 cI 256 gbk_8 ++ (iw_ws a8 cI 64 gsk_8 ++ (iw_ws a9 cI 8 gtk_8 ++ (iw_ws b0 cI 8 kS ++ (iw_ws b1 cI 64 kR ++ (jw_ws a2 cJ 4 gfk_8 ++ (jw_ws a0 cJ 1232 nf ++ (jw_ws a1 cJ 616 cf ++ (iw_ws a4 cI 4 kf ++ (jw_ws b2 cJ 4 ky)))))))))))) [0, 1, 2, 3, 4, 5, 6, 7, 8, 9, 10] rfl
                  have hDc := hD.sub (ws' := (mo_ws m0 0 (nI N) (nI n) (nI bc) (lN P) (lN Q) (lN G) (lN al) (lN pa) (lN pb) cl a0 a1 a2 a3 a4 a5 a6 a7 a8 a9 b0 b1 gok_8 b2 b3 b4 b5 ++ (iw_ws a7 cI 256 gbk_8 ++ (iw_ws a8 cI 64 gsk_8 ++ (iw_ws a9 cI 8 gtk_8 ++ (iw_ws b0 cI 8 kS ++ (iw_ws b1 cI 64 kR ++ (jw_ws a2 cJ 4 gfk_8 ++ (jw_ws a0 cJ 1232 nf ++ (jw_ws a1 cJ 616 cf ++ (iw_ws a4 cI 4 kf ++ (jw_ws b2 cJ 4 ky)))))))))))) [0, 1, 2, 3, 4, 5, 6, 7, 8, 9, 10] (by decide) rfl
                  have hKc := hK.sub (tys' := [(cJ, .long), (cI, .int)]) [0, 1] rfl
                  have hFc := va_free (wc := (mo_ws m0 0 (nI N) (nI n) (nI bc) (lN P) (lN Q) (lN G) (lN al) (lN pa) (lN pb) cl a0 a1 a2 a3 a4 a5 a6 a7 a8 a9 b0 b1 gok_8 b2 b3 b4 b5 ++ (iw_ws a7 cI 256 gbk_8 ++ (iw_ws a8 cI 64 gsk_8 ++ (iw_ws a9 cI 8 gtk_8 ++ (iw_ws b0 cI 8 kS ++ (iw_ws b1 cI 64 kR ++ (jw_ws a2 cJ 4 gfk_8 ++ (jw_ws a0 cJ 1232 nf ++ (jw_ws a1 cJ 616 cf ++ (iw_ws a4 cI 4 kf ++ (jw_ws b2 cJ 4 ky)))))))))))) hD hS hA [0, 1, 2, 3, 4, 5, 6, 7, 8, 9, 10] rfl
                  refine va_calli (va_runV (As := [.int (nI I), .long (lN Y), .long x3, .long x4]) (rest := []) ⟨hx, hb, hml, hown, hts⟩ (c_Bm_putKey_5 l dC dI cJ cI H.size m0 0 N n bc P Q G al pa pb cl a0 a1 a2 a3 a4 a5 a6 a7 a8 a9 b0 b1 gok_8 b2 b3 b4 b5 gbk_8 gsk_8 gtk_8 kf gfk_8 nf cf ky ko I Y x3 x4 hPQ h61F hQ3 (by omega) hn0 hN hI hY0 hYP hkP hrk) (cwV 4 hts (gw_V gk_1090 gk_1092 gp_39 gk_7 gk_1093) rfl rfl rfl (by decide +kernel) ⟨Nat.le_of_ble_eq_true rfl, Nat.le_of_ble_eq_true rfl⟩) ⟨fun a U g mk q => by obtain ⟨q0, q1, qP, qK, qD⟩ := q; exact ⟨q0, q1, qP, va_K.moved (u := U) (U := U.calling g mk a) (Vm.Alike.refl U.vm) qK, qD⟩, va_recv hK hP (ci := 8) (q0 := 0) rfl rfl, fun U hU hW => ⟨rfl, by rw [hU], by rw [hU]; exact hPc, va_K.moved hW.alike hKc, hDc.weaken (fun _ _ _ _ => trivial)⟩⟩ rfl rfl hl.1 rfl (lv_room (Nat.le_of_ble_eq_true rfl)) d_Bm_key_104 ⟨Nat.le_of_ble_eq_true rfl, Nat.le_of_ble_eq_true rfl⟩) hS (fun q _ h => hFc q h) hFc (fun r_14 u9 t9 H1 locs ht hvm hw hB hz1 hk1 hS => ?_)
                  obtain ⟨⟨gbk_13, gsk_13, gtk_13, gfk_13, gok_13⟩, gak_13⟩ := u9
                  obtain ⟨hw, hal9⟩ := hw
                  have hw : r_14 = nI n := hw
                  subst hw
                  obtain ⟨hP1, hK1, hD1⟩ := hB
                  rw [ht] at hP1
                  obtain ⟨hP, hD⟩ := va_join (wr := [(a3, .inl (cJ, 16, .inr (.inl glk_8)))]) (w1 := [(m0, .inr (8, [.int 0, .int (nI N), .int (nI (n + 1)), .int (nI bc), .long (lN P), .long (lN Q), .long (lN G), .long (lN gak_13), .long (lN pa), .long (lN pb), .int cl, .ref a0, .ref a1, .ref a2, .ref a3, .ref a4, .ref a5, .ref a6, .ref a7, .ref a8, .ref a9, .ref b0, .ref b1, .int (nI gok_13), .ref b2, .ref b3, .ref b4, .ref b5])), (a7, .inl (cI, 256, .inl gbk_13)), (a8, .inl (cI, 64, .inl gsk_13)), (a9, .inl (cI, 8, .inl gtk_13)), (b0, .inl (cI, 8, .inl kS)), (b1, .inl (cI, 64, .inl kR)), (a2, .inl (cJ, 4, .inr (.inl gfk_13))), (a0, .inl (cJ, 1232, .inr (.inl (w8 nf (8 * n) (lN 1) (lN I) (lN Y) x3 x4 0 0 0)))), (a1, .inl (cJ, 616, .inr (.inl (c4 cf (4 * n) (lkw [cf (4 * (n - 1) + 0), cf (4 * (n - 1) + 1), cf (4 * (n - 1) + 2), cf (4 * (n - 1) + 3), lN 1, lN I, lN Y, x3, x4]))))), (a4, .inl (cI, 4, .inl (upd kf I (nI n)))), (b2, .inl (cJ, 4, .inr (.inl (vp_updL ky I (lN Y)))))]) hP hD [0, 1, 2, 3, 4, 5, 6, 7, 8, 9, 10] [11] rfl rfl (by decide) (by decide) hk1 hFc hP1 hD1
                  have hP := hP.sub (ws' := [(m0, .inr (8, [.int 0, .int (nI N), .int (nI (n + 1)), .int (nI bc), .long (lN P), .long (lN Q), .long (lN G), .long (lN gak_13), .long (lN pa), .long (lN pb), .int cl, .ref a0, .ref a1, .ref a2, .ref a3, .ref a4, .ref a5, .ref a6, .ref a7, .ref a8, .ref a9, .ref b0, .ref b1, .int (nI gok_13), .ref b2, .ref b3, .ref b4, .ref b5])), (a7, .inl (cI, 256, .inl gbk_13)), (a8, .inl (cI, 64, .inl gsk_13)), (a9, .inl (cI, 8, .inl gtk_13)), (b0, .inl (cI, 8, .inl kS)), (b1, .inl (cI, 64, .inl kR)), (a2, .inl (cJ, 4, .inr (.inl gfk_13))), (a0, .inl (cJ, 1232, .inr (.inl (w8 nf (8 * n) (lN 1) (lN I) (lN Y) x3 x4 0 0 0)))), (a1, .inl (cJ, 616, .inr (.inl (c4 cf (4 * n) (lkw [cf (4 * (n - 1) + 0), cf (4 * (n - 1) + 1), cf (4 * (n - 1) + 2), cf (4 * (n - 1) + 3), lN 1, lN I, lN Y, x3, x4]))))), (a4, .inl (cI, 4, .inl (upd kf I (nI n)))), (b2, .inl (cJ, 4, .inr (.inl (vp_updL ky I (lN Y))))), (a3, .inl (cJ, 16, .inr (.inl glk_8)))]) [1, 2, 3, 4, 5, 6, 7, 8, 9, 10, 11, 0] rfl
                  have hD := hD.sub (ws' := [(m0, .inr (8, [.int 0, .int (nI N), .int (nI (n + 1)), .int (nI bc), .long (lN P), .long (lN Q), .long (lN G), .long (lN gak_13), .long (lN pa), .long (lN pb), .int cl, .ref a0, .ref a1, .ref a2, .ref a3, .ref a4, .ref a5, .ref a6, .ref a7, .ref a8, .ref a9, .ref b0, .ref b1, .int (nI gok_13), .ref b2, .ref b3, .ref b4, .ref b5])), (a7, .inl (cI, 256, .inl gbk_13)), (a8, .inl (cI, 64, .inl gsk_13)), (a9, .inl (cI, 8, .inl gtk_13)), (b0, .inl (cI, 8, .inl kS)), (b1, .inl (cI, 64, .inl kR)), (a2, .inl (cJ, 4, .inr (.inl gfk_13))), (a0, .inl (cJ, 1232, .inr (.inl (w8 nf (8 * n) (lN 1) (lN I) (lN Y) x3 x4 0 0 0)))), (a1, .inl (cJ, 616, .inr (.inl (c4 cf (4 * n) (lkw [cf (4 * (n - 1) + 0), cf (4 * (n - 1) + 1), cf (4 * (n - 1) + 2), cf (4 * (n - 1) + 3), lN 1, lN I, lN Y, x3, x4]))))), (a4, .inl (cI, 4, .inl (upd kf I (nI n)))), (b2, .inl (cJ, 4, .inr (.inl (vp_updL ky I (lN Y))))), (a3, .inl (cJ, 16, .inr (.inl glk_8)))]) [1, 2, 3, 4, 5, 6, 7, 8, 9, 10, 11, 0] (by decide) rfl
                  generalize H1 = H at hP hS ⊢
                  exact W.iret (v := (nI n)) hx hb hr (fun t ht9 hW => ⟨⟨_, ((gbk_13, gsk_13, gtk_13, gfk_13, gok_13), glk_8, gak_13), rfl, ⟨rfl, hal9⟩, by rw [ht9]; exact hP, va_K.moved hW.alike hK, hD⟩, hS.F ht9⟩) hS.2.2 d_Bm_key_107
                · -- not taken
                  exact absurd rfl c_12
              · -- not taken
                exact absurd hh (bz_f hr_9 c_10)
        · -- not taken
          exact absurd ((rK_neg hrk hn (show I < 4 by omega)).mpr hk0) c_4
