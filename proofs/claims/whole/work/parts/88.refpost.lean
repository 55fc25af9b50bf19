abbrev b_Bm_post : ByteArray := prog_10_method_26_code
abbrev y_Bm_post : MethodName := ⟨"BallotBoardModel", "post", "(IIJJJJJJ)I"⟩
abbrev w_Bm_post : List Cond := .code y_Bm_post b_Bm_post 17 (some .int) :: gw
theorem d_Bm_post_0 : decode b_Bm_post 0 = .ok (.bipush 8, 2) := by decide +kernel
theorem d_Bm_post_2 : decode b_Bm_post 2 = .ok (.aload_n 0, 1) := by decide +kernel
theorem d_Bm_post_3 : decode b_Bm_post 3 = .ok (.getfield 214, 3) := by decide +kernel
theorem d_Bm_post_6 : decode b_Bm_post 6 = .ok (.imul, 1) := by decide +kernel
theorem d_Bm_post_7 : decode b_Bm_post 7 = .ok (.istore 15, 2) := by decide +kernel
theorem d_Bm_post_9 : decode b_Bm_post 9 = .ok (.aload_n 0, 1) := by decide +kernel
theorem d_Bm_post_10 : decode b_Bm_post 10 = .ok (.getfield 9, 3) := by decide +kernel
theorem d_Bm_post_13 : decode b_Bm_post 13 = .ok (.iload 15, 2) := by decide +kernel
theorem d_Bm_post_15 : decode b_Bm_post 15 = .ok (.iload_n 1, 1) := by decide +kernel
theorem d_Bm_post_16 : decode b_Bm_post 16 = .ok (.i2l, 1) := by decide +kernel
theorem d_Bm_post_17 : decode b_Bm_post 17 = .ok (.lastore, 1) := by decide +kernel
theorem d_Bm_post_18 : decode b_Bm_post 18 = .ok (.aload_n 0, 1) := by decide +kernel
theorem d_Bm_post_19 : decode b_Bm_post 19 = .ok (.getfield 9, 3) := by decide +kernel
theorem d_Bm_post_22 : decode b_Bm_post 22 = .ok (.iload 15, 2) := by decide +kernel
theorem d_Bm_post_24 : decode b_Bm_post 24 = .ok (.iconst 1, 1) := by decide +kernel
theorem d_Bm_post_25 : decode b_Bm_post 25 = .ok (.iadd, 1) := by decide +kernel
theorem d_Bm_post_26 : decode b_Bm_post 26 = .ok (.iload_n 2, 1) := by decide +kernel
theorem d_Bm_post_27 : decode b_Bm_post 27 = .ok (.i2l, 1) := by decide +kernel
theorem d_Bm_post_28 : decode b_Bm_post 28 = .ok (.lastore, 1) := by decide +kernel
theorem d_Bm_post_29 : decode b_Bm_post 29 = .ok (.aload_n 0, 1) := by decide +kernel
theorem d_Bm_post_30 : decode b_Bm_post 30 = .ok (.getfield 9, 3) := by decide +kernel
theorem d_Bm_post_33 : decode b_Bm_post 33 = .ok (.iload 15, 2) := by decide +kernel
theorem d_Bm_post_35 : decode b_Bm_post 35 = .ok (.iconst 2, 1) := by decide +kernel
theorem d_Bm_post_36 : decode b_Bm_post 36 = .ok (.iadd, 1) := by decide +kernel
theorem d_Bm_post_37 : decode b_Bm_post 37 = .ok (.lload_n 3, 1) := by decide +kernel
theorem d_Bm_post_38 : decode b_Bm_post 38 = .ok (.lastore, 1) := by decide +kernel
theorem d_Bm_post_39 : decode b_Bm_post 39 = .ok (.aload_n 0, 1) := by decide +kernel
theorem d_Bm_post_40 : decode b_Bm_post 40 = .ok (.getfield 9, 3) := by decide +kernel
theorem d_Bm_post_43 : decode b_Bm_post 43 = .ok (.iload 15, 2) := by decide +kernel
theorem d_Bm_post_45 : decode b_Bm_post 45 = .ok (.iconst 3, 1) := by decide +kernel
theorem d_Bm_post_46 : decode b_Bm_post 46 = .ok (.iadd, 1) := by decide +kernel
theorem d_Bm_post_47 : decode b_Bm_post 47 = .ok (.lload 5, 2) := by decide +kernel
theorem d_Bm_post_49 : decode b_Bm_post 49 = .ok (.lastore, 1) := by decide +kernel
theorem d_Bm_post_50 : decode b_Bm_post 50 = .ok (.aload_n 0, 1) := by decide +kernel
theorem d_Bm_post_51 : decode b_Bm_post 51 = .ok (.getfield 9, 3) := by decide +kernel
theorem d_Bm_post_54 : decode b_Bm_post 54 = .ok (.iload 15, 2) := by decide +kernel
theorem d_Bm_post_56 : decode b_Bm_post 56 = .ok (.iconst 4, 1) := by decide +kernel
theorem d_Bm_post_57 : decode b_Bm_post 57 = .ok (.iadd, 1) := by decide +kernel
theorem d_Bm_post_58 : decode b_Bm_post 58 = .ok (.lload 7, 2) := by decide +kernel
theorem d_Bm_post_60 : decode b_Bm_post 60 = .ok (.lastore, 1) := by decide +kernel
theorem d_Bm_post_61 : decode b_Bm_post 61 = .ok (.aload_n 0, 1) := by decide +kernel
theorem d_Bm_post_62 : decode b_Bm_post 62 = .ok (.getfield 9, 3) := by decide +kernel
theorem d_Bm_post_65 : decode b_Bm_post 65 = .ok (.iload 15, 2) := by decide +kernel
theorem d_Bm_post_67 : decode b_Bm_post 67 = .ok (.iconst 5, 1) := by decide +kernel
theorem d_Bm_post_68 : decode b_Bm_post 68 = .ok (.iadd, 1) := by decide +kernel
theorem d_Bm_post_69 : decode b_Bm_post 69 = .ok (.lload 9, 2) := by decide +kernel
theorem d_Bm_post_71 : decode b_Bm_post 71 = .ok (.lastore, 1) := by decide +kernel
theorem d_Bm_post_72 : decode b_Bm_post 72 = .ok (.aload_n 0, 1) := by decide +kernel
theorem d_Bm_post_73 : decode b_Bm_post 73 = .ok (.getfield 9, 3) := by decide +kernel
theorem d_Bm_post_76 : decode b_Bm_post 76 = .ok (.iload 15, 2) := by decide +kernel
theorem d_Bm_post_78 : decode b_Bm_post 78 = .ok (.bipush 6, 2) := by decide +kernel
theorem d_Bm_post_80 : decode b_Bm_post 80 = .ok (.iadd, 1) := by decide +kernel
theorem d_Bm_post_81 : decode b_Bm_post 81 = .ok (.lload 11, 2) := by decide +kernel
theorem d_Bm_post_83 : decode b_Bm_post 83 = .ok (.lastore, 1) := by decide +kernel
theorem d_Bm_post_84 : decode b_Bm_post 84 = .ok (.aload_n 0, 1) := by decide +kernel
theorem d_Bm_post_85 : decode b_Bm_post 85 = .ok (.getfield 9, 3) := by decide +kernel
theorem d_Bm_post_88 : decode b_Bm_post 88 = .ok (.iload 15, 2) := by decide +kernel
theorem d_Bm_post_90 : decode b_Bm_post 90 = .ok (.bipush 7, 2) := by decide +kernel
theorem d_Bm_post_92 : decode b_Bm_post 92 = .ok (.iadd, 1) := by decide +kernel
theorem d_Bm_post_93 : decode b_Bm_post 93 = .ok (.lload 13, 2) := by decide +kernel
theorem d_Bm_post_95 : decode b_Bm_post 95 = .ok (.lastore, 1) := by decide +kernel
theorem d_Bm_post_96 : decode b_Bm_post 96 = .ok (.aload_n 0, 1) := by decide +kernel
theorem d_Bm_post_97 : decode b_Bm_post 97 = .ok (.aload_n 0, 1) := by decide +kernel
theorem d_Bm_post_98 : decode b_Bm_post 98 = .ok (.getfield 214, 3) := by decide +kernel
theorem d_Bm_post_101 : decode b_Bm_post 101 = .ok (.invokevirtual 233, 3) := by decide +kernel
theorem d_Bm_post_104 : decode b_Bm_post 104 = .ok (.iconst 0, 1) := by decide +kernel
theorem d_Bm_post_105 : decode b_Bm_post 105 = .ok (.istore 16, 2) := by decide +kernel
theorem d_Bm_post_107 : decode b_Bm_post 107 = .ok (.iload 16, 2) := by decide +kernel
theorem d_Bm_post_109 : decode b_Bm_post 109 = .ok (.iconst 4, 1) := by decide +kernel
theorem d_Bm_post_110 : decode b_Bm_post 110 = .ok (.if_icmp .ge 30, 3) := by decide +kernel
theorem d_Bm_post_113 : decode b_Bm_post 113 = .ok (.aload_n 0, 1) := by decide +kernel
theorem d_Bm_post_114 : decode b_Bm_post 114 = .ok (.getfield 13, 3) := by decide +kernel
theorem d_Bm_post_117 : decode b_Bm_post 117 = .ok (.iconst 4, 1) := by decide +kernel
theorem d_Bm_post_118 : decode b_Bm_post 118 = .ok (.aload_n 0, 1) := by decide +kernel
theorem d_Bm_post_119 : decode b_Bm_post 119 = .ok (.getfield 214, 3) := by decide +kernel
theorem d_Bm_post_122 : decode b_Bm_post 122 = .ok (.imul, 1) := by decide +kernel
theorem d_Bm_post_123 : decode b_Bm_post 123 = .ok (.iload 16, 2) := by decide +kernel
theorem d_Bm_post_125 : decode b_Bm_post 125 = .ok (.iadd, 1) := by decide +kernel
theorem d_Bm_post_126 : decode b_Bm_post 126 = .ok (.aload_n 0, 1) := by decide +kernel
theorem d_Bm_post_127 : decode b_Bm_post 127 = .ok (.getfield 16, 3) := by decide +kernel
theorem d_Bm_post_130 : decode b_Bm_post 130 = .ok (.iload 16, 2) := by decide +kernel
theorem d_Bm_post_132 : decode b_Bm_post 132 = .ok (.laload, 1) := by decide +kernel
theorem d_Bm_post_133 : decode b_Bm_post 133 = .ok (.lastore, 1) := by decide +kernel
theorem d_Bm_post_134 : decode b_Bm_post 134 = .ok (.iinc 16 1, 3) := by decide +kernel
theorem d_Bm_post_137 : decode b_Bm_post 137 = .ok (.goto (-30), 3) := by decide +kernel
theorem d_Bm_post_140 : decode b_Bm_post 140 = .ok (.aload_n 0, 1) := by decide +kernel
theorem d_Bm_post_141 : decode b_Bm_post 141 = .ok (.dup, 1) := by decide +kernel
theorem d_Bm_post_142 : decode b_Bm_post 142 = .ok (.getfield 214, 3) := by decide +kernel
theorem d_Bm_post_145 : decode b_Bm_post 145 = .ok (.dup_x1, 1) := by decide +kernel
theorem d_Bm_post_146 : decode b_Bm_post 146 = .ok (.iconst 1, 1) := by decide +kernel
theorem d_Bm_post_147 : decode b_Bm_post 147 = .ok (.iadd, 1) := by decide +kernel
theorem d_Bm_post_148 : decode b_Bm_post 148 = .ok (.putfield 214, 3) := by decide +kernel
theorem d_Bm_post_151 : decode b_Bm_post 151 = .ok (.ireturn, 1) := by decide +kernel
set_option maxHeartbeats 8000000 in
set_option maxRecDepth 100000 in
theorem c_Bm_post_0 (l : Launch) (dC : Nat → ClassId) (dI : Nat → Nat → Nat) (cJ cI : ClassId) (sz : Nat) (m0 : Nat) (z0 z1 z3 : Int32) (z4 z5 z6 z7 z8 z9 : Int64) (z10 : Int32) (a0 a1 a2 a3 a4 a5 a6 a7 a8 a9 b0 b1 oc b2 b3 b4 b5 : Nat) (bf sc st : Nat → Int32) (tf nf cf : Nat → Int64) (k K I : Nat) (x2 x3 x4 x5 x6 x7 : Int64) (hk : k < 154) (hk0 : k = 0) (hK4 : K < 4) (hK2 : ¬ K = 2) (hI : I < 2 ^ 31) : Met l y_Bm_post w_Bm_post ({ frames := 4, cells := 0, slots := 0, locals := 97 }) (va_Pc [.ref m0, .int (nI K), .int (nI I), .long x2, .long x3, .long x4, .long x5, .long x6, .long x7] (fun U => U.heap.size = sz ∧ va_P (dC, dI) classes (mo_ws m0 z0 z1 (nI k) z3 z4 z5 z6 z7 z8 z9 z10 a0 a1 a2 a3 a4 a5 a6 a7 a8 a9 b0 b1 oc b2 b3 b4 b5 ++ (iw_ws a7 cI 256 bf ++ (iw_ws a8 cI 64 sc ++ (iw_ws a9 cI 8 st ++ (iw_ws b0 cI 8 kS ++ (iw_ws b1 cI 64 kR ++ (jw_ws a2 cJ 4 tf ++ (jw_ws a0 cJ 1232 nf ++ (jw_ws a1 cJ 616 cf))))))))) U.heap ∧ va_K (dC, dI) classes [(cJ, .long), (cI, .int)] U ∧ va_D (fun _ => True) (mo_ws m0 z0 z1 (nI k) z3 z4 z5 z6 z7 z8 z9 z10 a0 a1 a2 a3 a4 a5 a6 a7 a8 a9 b0 b1 oc b2 b3 b4 b5 ++ (iw_ws a7 cI 256 bf ++ (iw_ws a8 cI 64 sc ++ (iw_ws a9 cI 8 st ++ (iw_ws b0 cI 8 kS ++ (iw_ws b1 cI 64 kR ++ (jw_ws a2 cJ 4 tf ++ (jw_ws a0 cJ 1232 nf ++ (jw_ws a1 cJ 616 cf))))))))))) (va_Qi (fun (r : Int32) (u9 : DU) => r = nI k) (fun u9 t => va_P (dC, dI) classes (mo_ws m0 z0 z1 (nI (k + 1)) z3 z4 z5 z6 z7 z8 z9 z10 a0 a1 a2 a3 a4 a5 a6 a7 a8 a9 b0 b1 u9.2.2.2.2 b2 b3 b4 b5 ++ (iw_ws a7 cI 256 u9.1 ++ (iw_ws a8 cI 64 u9.2.1 ++ (iw_ws a9 cI 8 u9.2.2.1 ++ (iw_ws b0 cI 8 kS ++ (iw_ws b1 cI 64 kR ++ (jw_ws a2 cJ 4 u9.2.2.2.1 ++ (jw_ws a0 cJ 1232 (w8 nf (8 * k) (lN K) (lN I) x2 x3 x4 x5 x6 x7) ++ (jw_ws a1 cJ 616 (c4 cf (4 * k) (lkw [0, 0, 0, 0, lN K, lN I, x2, x3, x4]))))))))))) t.heap ∧ va_K (dC, dI) classes [(cJ, .long), (cI, .int)] t ∧ va_D (va_A (mo_ws m0 z0 z1 (nI k) z3 z4 z5 z6 z7 z8 z9 z10 a0 a1 a2 a3 a4 a5 a6 a7 a8 a9 b0 b1 oc b2 b3 b4 b5 ++ (iw_ws a7 cI 256 bf ++ (iw_ws a8 cI 64 sc ++ (iw_ws a9 cI 8 st ++ (iw_ws b0 cI 8 kS ++ (iw_ws b1 cI 64 kR ++ (jw_ws a2 cJ 4 tf ++ (jw_ws a0 cJ 1232 nf ++ (jw_ws a1 cJ 616 cf))))))))) sz) (mo_ws m0 z0 z1 (nI (k + 1)) z3 z4 z5 z6 z7 z8 z9 z10 a0 a1 a2 a3 a4 a5 a6 a7 a8 a9 b0 b1 u9.2.2.2.2 b2 b3 b4 b5 ++ (iw_ws a7 cI 256 u9.1 ++ (iw_ws a8 cI 64 u9.2.1 ++ (iw_ws a9 cI 8 u9.2.2.1 ++ (iw_ws b0 cI 8 kS ++ (iw_ws b1 cI 64 kR ++ (jw_ws a2 cJ 4 u9.2.2.2.1 ++ (jw_ws a0 cJ 1232 (w8 nf (8 * k) (lN K) (lN I) x2 x3 x4 x5 x6 x7) ++ (jw_ws a1 cJ 616 (c4 cf (4 * k) (lkw [0, 0, 0, 0, lN K, lN I, x2, x3, x4])))))))))))) (va_A (mo_ws m0 z0 z1 (nI k) z3 z4 z5 z6 z7 z8 z9 z10 a0 a1 a2 a3 a4 a5 a6 a7 a8 a9 b0 b1 oc b2 b3 b4 b5 ++ (iw_ws a7 cI 256 bf ++ (iw_ws a8 cI 64 sc ++ (iw_ws a9 cI 8 st ++ (iw_ws b0 cI 8 kS ++ (iw_ws b1 cI 64 kR ++ (jw_ws a2 cJ 4 tf ++ (jw_ws a0 cJ 1232 nf ++ (jw_ws a1 cJ 616 cf))))))))) sz)) 0 0 (va_A (mo_ws m0 z0 z1 (nI k) z3 z4 z5 z6 z7 z8 z9 z10 a0 a1 a2 a3 a4 a5 a6 a7 a8 a9 b0 b1 oc b2 b3 b4 b5 ++ (iw_ws a7 cI 256 bf ++ (iw_ws a8 cI 64 sc ++ (iw_ws a9 cI 8 st ++ (iw_ws b0 cI 8 kS ++ (iw_ws b1 cI 64 kR ++ (jw_ws a2 cJ 4 tf ++ (jw_ws a0 cJ 1232 nf ++ (jw_ws a1 cJ 616 cf))))))))) sz) := by
  refine Met.ofW (cc := b_Bm_post) (maxL := 17) (ret := (some .int)) (by decide) rfl ?_
  intro p e s m args below meth c s₁ Bd hml hv
  obtain ⟨rfl, hsz, hP, hK, hD0⟩ := hv
  have hx := Bd.exec
  have hb := Bd.bytes
  have hr := Bd.returns
  have hts := atoms_spec (ws := w_Bm_post) Bd.pre
  have hown : s.vm.findClass "BallotBoardModel" = some m.cls := findClass_of_methodNamed Bd.named
  have hlocks := Bd.notSynchronized
  subst hsz
  have hD := hD0.self (sz := s.heap.size)
  generalize hAe : va_A (mo_ws m0 z0 z1 (nI k) z3 z4 z5 z6 z7 z8 z9 z10 a0 a1 a2 a3 a4 a5 a6 a7 a8 a9 b0 b1 oc b2 b3 b4 b5 ++ (iw_ws a7 cI 256 bf ++ (iw_ws a8 cI 64 sc ++ (iw_ws a9 cI 8 st ++ (iw_ws b0 cI 8 kS ++ (iw_ws b1 cI 64 kR ++ (jw_ws a2 cJ 4 tf ++ (jw_ws a0 cJ 1232 nf ++ (jw_ws a1 cJ 616 cf))))))))) s.heap.size = A at hD ⊢
  have hA : ∀ q : Nat, s.heap.size ≤ q → A q := fun q h => by rw [← hAe]; exact Or.inr h
  have hS : va_S A s.heap s.heap [] := va_S.rf
  have hl := lv_entry ([.ref m0, .int (nI K), .int (nI I), .long x2, .long x3, .long x4, .long x5, .long x6, .long x7]) (n := 17) (Nat.le_of_ble_eq_true rfl)
  rw [lg_entry_eq]
  generalize (lg_sl ([.ref m0, .int (nI K), .int (nI I), .long x2, .long x3, .long x4, .long x5, .long x6, .long x7]) ++ List.replicate (17 - (lg_sl ([.ref m0, .int (nI K), .int (nI I), .long x2, .long x3, .long x4, .long x5, .long x6, .long x7])).length) Slot.unset).toArray = ls at hl ⊢
  have hl : lv_has ls 17 [(0, .ref m0), (1, .int (nI K)), (2, .int (nI I)), (3, .long x2), (5, .long x3), (7, .long x4), (9, .long x5), (11, .long x6), (13, .long x7)] := hl
  refine lv_bipush (v := 8) hx hb d_Bm_post_0 (by decide) ?_
  refine lv_aload_n hx hb d_Bm_post_2 rfl (lv_at hl 0 rfl) ?_
  refine va_get (D := (dC, dI)) (ci := 8) (v := .int (nI k)) (C := "BallotBoardModel") (T := F_Bm) (N := 28) hx hb hts (fun w9 h9 => List.mem_cons_of_mem _ (i_Bm w9 h9)) hown hK hP 0 rfl rfl 2 (by decide) (hts _ (List.mem_cons_of_mem _ gk_921)) (fun _ h9 => h9) rfl d_Bm_post_3 ?_
  refine lv_imul hx hb d_Bm_post_6 ?_
  rw [show (8 * (nI k) : Int32) = (nI (8 * k)) from pk_mul 8 k]
  refine lv_istore (lv' := [(15, .int (nI (8 * k))), (0, .ref m0), (1, .int (nI K)), (2, .int (nI I)), (3, .long x2), (5, .long x3), (7, .long x4), (9, .long x5), (11, .long x6), (13, .long x7)]) hx hb d_Bm_post_7 hl (by decide) rfl (fun ls hl => ?_)
  refine lv_aload_n hx hb d_Bm_post_9 rfl (lv_at hl 1 rfl) ?_
  refine va_get (D := (dC, dI)) (ci := 8) (v := .ref a0) (C := "BallotBoardModel") (T := F_Bm) (N := 28) hx hb hts (fun w9 h9 => List.mem_cons_of_mem _ (i_Bm w9 h9)) hown hK hP 0 rfl rfl 11 (by decide) (hts _ (List.mem_cons_of_mem _ gk_930)) (fun _ h9 => h9) rfl d_Bm_post_10 ?_
  refine lv_iload hx hb d_Bm_post_13 (lv_at hl 0 rfl) ?_
  refine lv_iload_n hx hb d_Bm_post_15 rfl (lv_at hl 2 rfl) ?_
  refine lv_i2l (v := (nI K : Int32).toInt64) hx hb d_Bm_post_16 rfl ?_
  rw [show ((nI K : Int32).toInt64 : Int64) = (lN K) from nI_l (by omega)]
  refine va_last hx hb hK hP hD hS 7 0 rfl rfl (vp_in_nI (by omega) (by omega)) d_Bm_post_17 (fun H locs hP hD hS => ?_)
  have hfe : vp_updL nf (nI (8 * k) : Int32).toNatClampNeg (lN K) = vp_updL nf (8 * k) (lN K) := by rw [nI_clamp (by omega)]
  have hP : va_P (dC, dI) classes [(m0, .inr (8, [.int z0, .int z1, .int (nI k), .int z3, .long z4, .long z5, .long z6, .long z7, .long z8, .long z9, .int z10, .ref a0, .ref a1, .ref a2, .ref a3, .ref a4, .ref a5, .ref a6, .ref a7, .ref a8, .ref a9, .ref b0, .ref b1, .int (nI oc), .ref b2, .ref b3, .ref b4, .ref b5])), (a7, .inl (cI, 256, .inl bf)), (a8, .inl (cI, 64, .inl sc)), (a9, .inl (cI, 8, .inl st)), (b0, .inl (cI, 8, .inl kS)), (b1, .inl (cI, 64, .inl kR)), (a2, .inl (cJ, 4, .inr (.inl tf))), (a0, .inl (cJ, 1232, .inr (.inl (vp_updL nf (nI (8 * k) : Int32).toNatClampNeg (lN K))))), (a1, .inl (cJ, 616, .inr (.inl cf)))] H := hP
  have hD : va_D A [(m0, .inr (8, [.int z0, .int z1, .int (nI k), .int z3, .long z4, .long z5, .long z6, .long z7, .long z8, .long z9, .int z10, .ref a0, .ref a1, .ref a2, .ref a3, .ref a4, .ref a5, .ref a6, .ref a7, .ref a8, .ref a9, .ref b0, .ref b1, .int (nI oc), .ref b2, .ref b3, .ref b4, .ref b5])), (a7, .inl (cI, 256, .inl bf)), (a8, .inl (cI, 64, .inl sc)), (a9, .inl (cI, 8, .inl st)), (b0, .inl (cI, 8, .inl kS)), (b1, .inl (cI, 64, .inl kR)), (a2, .inl (cJ, 4, .inr (.inl tf))), (a0, .inl (cJ, 1232, .inr (.inl (vp_updL nf (nI (8 * k) : Int32).toNatClampNeg (lN K))))), (a1, .inl (cJ, 616, .inr (.inl cf)))] := hD
  rw [hfe] at hP hD
  refine lv_aload_n hx hb d_Bm_post_18 rfl (lv_at hl 1 rfl) ?_
  refine va_get (D := (dC, dI)) (ci := 8) (v := .ref a0) (C := "BallotBoardModel") (T := F_Bm) (N := 28) hx hb hts (fun w9 h9 => List.mem_cons_of_mem _ (i_Bm w9 h9)) hown hK hP 0 rfl rfl 11 (by decide) (hts _ (List.mem_cons_of_mem _ gk_930)) (fun _ h9 => h9) rfl d_Bm_post_19 ?_
  refine lv_iload hx hb d_Bm_post_22 (lv_at hl 0 rfl) ?_
  refine lv_iconst (v := 1) hx hb d_Bm_post_24 (by decide) ?_
  refine lv_iadd hx hb d_Bm_post_25 ?_
  rw [show ((nI (8 * k)) + 1 : Int32) = (nI (8 * k + 1)) from nI_add _ 1]
  refine lv_iload_n hx hb d_Bm_post_26 rfl (lv_at hl 3 rfl) ?_
  refine lv_i2l (v := (nI I : Int32).toInt64) hx hb d_Bm_post_27 rfl ?_
  rw [show ((nI I : Int32).toInt64 : Int64) = (lN I) from nI_l hI]
  refine va_last hx hb hK hP hD hS 7 0 rfl rfl (vp_in_nI (by omega) (by omega)) d_Bm_post_28 (fun H locs hP hD hS => ?_)
  have hfe : vp_updL (vp_updL nf (8 * k) (lN K)) (nI (8 * k + 1) : Int32).toNatClampNeg (lN I) = vp_updL (vp_updL nf (8 * k) (lN K)) (8 * k + 1) (lN I) := by rw [nI_clamp (by omega)]
  have hP : va_P (dC, dI) classes [(m0, .inr (8, [.int z0, .int z1, .int (nI k), .int z3, .long z4, .long z5, .long z6, .long z7, .long z8, .long z9, .int z10, .ref a0, .ref a1, .ref a2, .ref a3, .ref a4, .ref a5, .ref a6, .ref a7, .ref a8, .ref a9, .ref b0, .ref b1, .int (nI oc), .ref b2, .ref b3, .ref b4, .ref b5])), (a7, .inl (cI, 256, .inl bf)), (a8, .inl (cI, 64, .inl sc)), (a9, .inl (cI, 8, .inl st)), (b0, .inl (cI, 8, .inl kS)), (b1, .inl (cI, 64, .inl kR)), (a2, .inl (cJ, 4, .inr (.inl tf))), (a0, .inl (cJ, 1232, .inr (.inl (vp_updL (vp_updL nf (8 * k) (lN K)) (nI (8 * k + 1) : Int32).toNatClampNeg (lN I))))), (a1, .inl (cJ, 616, .inr (.inl cf)))] H := hP
  have hD : va_D A [(m0, .inr (8, [.int z0, .int z1, .int (nI k), .int z3, .long z4, .long z5, .long z6, .long z7, .long z8, .long z9, .int z10, .ref a0, .ref a1, .ref a2, .ref a3, .ref a4, .ref a5, .ref a6, .ref a7, .ref a8, .ref a9, .ref b0, .ref b1, .int (nI oc), .ref b2, .ref b3, .ref b4, .ref b5])), (a7, .inl (cI, 256, .inl bf)), (a8, .inl (cI, 64, .inl sc)), (a9, .inl (cI, 8, .inl st)), (b0, .inl (cI, 8, .inl kS)), (b1, .inl (cI, 64, .inl kR)), (a2, .inl (cJ, 4, .inr (.inl tf))), (a0, .inl (cJ, 1232, .inr (.inl (vp_updL (vp_updL nf (8 * k) (lN K)) (nI (8 * k + 1) : Int32).toNatClampNeg (lN I))))), (a1, .inl (cJ, 616, .inr (.inl cf)))] := hD
  rw [hfe] at hP hD
  refine lv_aload_n hx hb d_Bm_post_29 rfl (lv_at hl 1 rfl) ?_
  refine va_get (D := (dC, dI)) (ci := 8) (v := .ref a0) (C := "BallotBoardModel") (T := F_Bm) (N := 28) hx hb hts (fun w9 h9 => List.mem_cons_of_mem _ (i_Bm w9 h9)) hown hK hP 0 rfl rfl 11 (by decide) (hts _ (List.mem_cons_of_mem _ gk_930)) (fun _ h9 => h9) rfl d_Bm_post_30 ?_
  refine lv_iload hx hb d_Bm_post_33 (lv_at hl 0 rfl) ?_
  refine lv_iconst (v := 2) hx hb d_Bm_post_35 (by decide) ?_
  refine lv_iadd hx hb d_Bm_post_36 ?_
  rw [show ((nI (8 * k)) + 2 : Int32) = (nI (8 * k + 2)) from nI_add _ 2]
  refine lv_lload_n hx hb d_Bm_post_37 rfl (lv_at hl 4 rfl) ?_
  refine va_last hx hb hK hP hD hS 7 0 rfl rfl (vp_in_nI (by omega) (by omega)) d_Bm_post_38 (fun H locs hP hD hS => ?_)
  have hfe : vp_updL (vp_updL (vp_updL nf (8 * k) (lN K)) (8 * k + 1) (lN I)) (nI (8 * k + 2) : Int32).toNatClampNeg x2 = vp_updL (vp_updL (vp_updL nf (8 * k) (lN K)) (8 * k + 1) (lN I)) (8 * k + 2) x2 := by rw [nI_clamp (by omega)]
  have hP : va_P (dC, dI) classes [(m0, .inr (8, [.int z0, .int z1, .int (nI k), .int z3, .long z4, .long z5, .long z6, .long z7, .long z8, .long z9, .int z10, .ref a0, .ref a1, .ref a2, .ref a3, .ref a4, .ref a5, .ref a6, .ref a7, .ref a8, .ref a9, .ref b0, .ref b1, .int (nI oc), .ref b2, .ref b3, .ref b4, .ref b5])), (a7, .inl (cI, 256, .inl bf)), (a8, .inl (cI, 64, .inl sc)), (a9, .inl (cI, 8, .inl st)), (b0, .inl (cI, 8, .inl kS)), (b1, .inl (cI, 64, .inl kR)), (a2, .inl (cJ, 4, .inr (.inl tf))), (a0, .inl (cJ, 1232, .inr (.inl (vp_updL (vp_updL (vp_updL nf (8 * k) (lN K)) (8 * k + 1) (lN I)) (nI (8 * k + 2) : Int32).toNatClampNeg x2)))), (a1, .inl (cJ, 616, .inr (.inl cf)))] H := hP
  have hD : va_D A [(m0, .inr (8, [.int z0, .int z1, .int (nI k), .int z3, .long z4, .long z5, .long z6, .long z7, .long z8, .long z9, .int z10, .ref a0, .ref a1, .ref a2, .ref a3, .ref a4, .ref a5, .ref a6, .ref a7, .ref a8, .ref a9, .ref b0, .ref b1, .int (nI oc), .ref b2, .ref b3, .ref b4, .ref b5])), (a7, .inl (cI, 256, .inl bf)), (a8, .inl (cI, 64, .inl sc)), (a9, .inl (cI, 8, .inl st)), (b0, .inl (cI, 8, .inl kS)), (b1, .inl (cI, 64, .inl kR)), (a2, .inl (cJ, 4, .inr (.inl tf))), (a0, .inl (cJ, 1232, .inr (.inl (vp_updL (vp_updL (vp_updL nf (8 * k) (lN K)) (8 * k + 1) (lN I)) (nI (8 * k + 2) : Int32).toNatClampNeg x2)))), (a1, .inl (cJ, 616, .inr (.inl cf)))] := hD
  rw [hfe] at hP hD
  refine lv_aload_n hx hb d_Bm_post_39 rfl (lv_at hl 1 rfl) ?_
  refine va_get (D := (dC, dI)) (ci := 8) (v := .ref a0) (C := "BallotBoardModel") (T := F_Bm) (N := 28) hx hb hts (fun w9 h9 => List.mem_cons_of_mem _ (i_Bm w9 h9)) hown hK hP 0 rfl rfl 11 (by decide) (hts _ (List.mem_cons_of_mem _ gk_930)) (fun _ h9 => h9) rfl d_Bm_post_40 ?_
  refine lv_iload hx hb d_Bm_post_43 (lv_at hl 0 rfl) ?_
  refine lv_iconst (v := 3) hx hb d_Bm_post_45 (by decide) ?_
  refine lv_iadd hx hb d_Bm_post_46 ?_
  rw [show ((nI (8 * k)) + 3 : Int32) = (nI (8 * k + 3)) from nI_add _ 3]
  refine lv_lload hx hb d_Bm_post_47 (lv_at hl 5 rfl) ?_
  refine va_last hx hb hK hP hD hS 7 0 rfl rfl (vp_in_nI (by omega) (by omega)) d_Bm_post_49 (fun H locs hP hD hS => ?_)
  have hfe : vp_updL (vp_updL (vp_updL (vp_updL nf (8 * k) (lN K)) (8 * k + 1) (lN I)) (8 * k + 2) x2) (nI (8 * k + 3) : Int32).toNatClampNeg x3 = vp_updL (vp_updL (vp_updL (vp_updL nf (8 * k) (lN K)) (8 * k + 1) (lN I)) (8 * k + 2) x2) (8 * k + 3) x3 := by rw [nI_clamp (by omega)]
  have hP : va_P (dC, dI) classes [(m0, .inr (8, [.int z0, .int z1, .int (nI k), .int z3, .long z4, .long z5, .long z6, .long z7, .long z8, .long z9, .int z10, .ref a0, .ref a1, .ref a2, .ref a3, .ref a4, .ref a5, .ref a6, .ref a7, .ref a8, .ref a9, .ref b0, .ref b1, .int (nI oc), .ref b2, .ref b3, .ref b4, .ref b5])), (a7, .inl (cI, 256, .inl bf)), (a8, .inl (cI, 64, .inl sc)), (a9, .inl (cI, 8, .inl st)), (b0, .inl (cI, 8, .inl kS)), (b1, .inl (cI, 64, .inl kR)), (a2, .inl (cJ, 4, .inr (.inl tf))), (a0, .inl (cJ, 1232, .inr (.inl (vp_updL (vp_updL (vp_updL (vp_updL nf (8 * k) (lN K)) (8 * k + 1) (lN I)) (8 * k + 2) x2) (nI (8 * k + 3) : Int32).toNatClampNeg x3)))), (a1, .inl (cJ, 616, .inr (.inl cf)))] H := hP
  have hD : va_D A [(m0, .inr (8, [.int z0, .int z1, .int (nI k), .int z3, .long z4, .long z5, .long z6, .long z7, .long z8, .long z9, .int z10, .ref a0, .ref a1, .ref a2, .ref a3, .ref a4, .ref a5, .ref a6, .ref a7, .ref a8, .ref a9, .ref b0, .ref b1, .int (nI oc), .ref b2, .ref b3, .ref b4, .ref b5])), (a7, .inl (cI, 256, .inl bf)), (a8, .inl (cI, 64, .inl sc)), (a9, .inl (cI, 8, .inl st)), (b0, .inl (cI, 8, .inl kS)), (b1, .inl (cI, 64, .inl kR)), (a2, .inl (cJ, 4, .inr (.inl tf))), (a0, .inl (cJ, 1232, .inr (.inl (vp_updL (vp_updL (vp_updL (vp_updL nf (8 * k) (lN K)) (8 * k + 1) (lN I)) (8 * k + 2) x2) (nI (8 * k + 3) : Int32).toNatClampNeg x3)))), (a1, .inl (cJ, 616, .inr (.inl cf)))] := hD
  rw [hfe] at hP hD
  refine lv_aload_n hx hb d_Bm_post_50 rfl (lv_at hl 1 rfl) ?_
  refine va_get (D := (dC, dI)) (ci := 8) (v := .ref a0) (C := "BallotBoardModel") (T := F_Bm) (N := 28) hx hb hts (fun w9 h9 => List.mem_cons_of_mem _ (i_Bm w9 h9)) hown hK hP 0 rfl rfl 11 (by decide) (hts _ (List.mem_cons_of_mem _ gk_930)) (fun _ h9 => h9) rfl d_Bm_post_51 ?_
  refine lv_iload hx hb d_Bm_post_54 (lv_at hl 0 rfl) ?_
  refine lv_iconst (v := 4) hx hb d_Bm_post_56 (by decide) ?_
  refine lv_iadd hx hb d_Bm_post_57 ?_
  rw [show ((nI (8 * k)) + 4 : Int32) = (nI (8 * k + 4)) from nI_add _ 4]
  refine lv_lload hx hb d_Bm_post_58 (lv_at hl 6 rfl) ?_
  refine va_last hx hb hK hP hD hS 7 0 rfl rfl (vp_in_nI (by omega) (by omega)) d_Bm_post_60 (fun H locs hP hD hS => ?_)
  have hfe : vp_updL (vp_updL (vp_updL (vp_updL (vp_updL nf (8 * k) (lN K)) (8 * k + 1) (lN I)) (8 * k + 2) x2) (8 * k + 3) x3) (nI (8 * k + 4) : Int32).toNatClampNeg x4 = vp_updL (vp_updL (vp_updL (vp_updL (vp_updL nf (8 * k) (lN K)) (8 * k + 1) (lN I)) (8 * k + 2) x2) (8 * k + 3) x3) (8 * k + 4) x4 := by rw [nI_clamp (by omega)]
  have hP : va_P (dC, dI) classes [(m0, .inr (8, [.int z0, .int z1, .int (nI k), .int z3, .long z4, .long z5, .long z6, .long z7, .long z8, .long z9, .int z10, .ref a0, .ref a1, .ref a2, .ref a3, .ref a4, .ref a5, .ref a6, .ref a7, .ref a8, .ref a9, .ref b0, .ref b1, .int (nI oc), .ref b2, .ref b3, .ref b4, .ref b5])), (a7, .inl (cI, 256, .inl bf)), (a8, .inl (cI, 64, .inl sc)), (a9, .inl (cI, 8, .inl st)), (b0, .inl (cI, 8, .inl kS)), (b1, .inl (cI, 64, .inl kR)), (a2, .inl (cJ, 4, .inr (.inl tf))), (a0, .inl (cJ, 1232, .inr (.inl (vp_updL (vp_updL (vp_updL (vp_updL (vp_updL nf (8 * k) (lN K)) (8 * k + 1) (lN I)) (8 * k + 2) x2) (8 * k + 3) x3) (nI (8 * k + 4) : Int32).toNatClampNeg x4)))), (a1, .inl (cJ, 616, .inr (.inl cf)))] H := hP
  have hD : va_D A [(m0, .inr (8, [.int z0, .int z1, .int (nI k), .int z3, .long z4, .long z5, .long z6, .long z7, .long z8, .long z9, .int z10, .ref a0, .ref a1, .ref a2, .ref a3, .ref a4, .ref a5, .ref a6, .ref a7, .ref a8, .ref a9, .ref b0, .ref b1, .int (nI oc), .ref b2, .ref b3, .ref b4, .ref b5])), (a7, .inl (cI, 256, .inl bf)), (a8, .inl (cI, 64, .inl sc)), (a9, .inl (cI, 8, .inl st)), (b0, .inl (cI, 8, .inl kS)), (b1, .inl (cI, 64, .inl kR)), (a2, .inl (cJ, 4, .inr (.inl tf))), (a0, .inl (cJ, 1232, .inr (.inl (vp_updL (vp_updL (vp_updL (vp_updL (vp_updL nf (8 * k) (lN K)) (8 * k + 1) (lN I)) (8 * k + 2) x2) (8 * k + 3) x3) (nI (8 * k + 4) : Int32).toNatClampNeg x4)))), (a1, .inl (cJ, 616, .inr (.inl cf)))] := hD
  rw [hfe] at hP hD
  refine lv_aload_n hx hb d_Bm_post_61 rfl (lv_at hl 1 rfl) ?_
  refine va_get (D := (dC, dI)) (ci := 8) (v := .ref a0) (C := "BallotBoardModel") (T := F_Bm) (N := 28) hx hb hts (fun w9 h9 => List.mem_cons_of_mem _ (i_Bm w9 h9)) hown hK hP 0 rfl rfl 11 (by decide) (hts _ (List.mem_cons_of_mem _ gk_930)) (fun _ h9 => h9) rfl d_Bm_post_62 ?_
  refine lv_iload hx hb d_Bm_post_65 (lv_at hl 0 rfl) ?_
  refine lv_iconst (v := 5) hx hb d_Bm_post_67 (by decide) ?_
  refine lv_iadd hx hb d_Bm_post_68 ?_
  rw [show ((nI (8 * k)) + 5 : Int32) = (nI (8 * k + 5)) from nI_add _ 5]
  refine lv_lload hx hb d_Bm_post_69 (lv_at hl 7 rfl) ?_
  refine va_last hx hb hK hP hD hS 7 0 rfl rfl (vp_in_nI (by omega) (by omega)) d_Bm_post_71 (fun H locs hP hD hS => ?_)
  have hfe : vp_updL (vp_updL (vp_updL (vp_updL (vp_updL (vp_updL nf (8 * k) (lN K)) (8 * k + 1) (lN I)) (8 * k + 2) x2) (8 * k + 3) x3) (8 * k + 4) x4) (nI (8 * k + 5) : Int32).toNatClampNeg x5 = vp_updL (vp_updL (vp_updL (vp_updL (vp_updL (vp_updL nf (8 * k) (lN K)) (8 * k + 1) (lN I)) (8 * k + 2) x2) (8 * k + 3) x3) (8 * k + 4) x4) (8 * k + 5) x5 := by rw [nI_clamp (by omega)]
  have hP : va_P (dC, dI) classes [(m0, .inr (8, [.int z0, .int z1, .int (nI k), .int z3, .long z4, .long z5, .long z6, .long z7, .long z8, .long z9, .int z10, .ref a0, .ref a1, .ref a2, .ref a3, .ref a4, .ref a5, .ref a6, .ref a7, .ref a8, .ref a9, .ref b0, .ref b1, .int (nI oc), .ref b2, .ref b3, .ref b4, .ref b5])), (a7, .inl (cI, 256, .inl bf)), (a8, .inl (cI, 64, .inl sc)), (a9, .inl (cI, 8, .inl st)), (b0, .inl (cI, 8, .inl kS)), (b1, .inl (cI, 64, .inl kR)), (a2, .inl (cJ, 4, .inr (.inl tf))), (a0, .inl (cJ, 1232, .inr (.inl (vp_updL (vp_updL (vp_updL (vp_updL (vp_updL (vp_updL nf (8 * k) (lN K)) (8 * k + 1) (lN I)) (8 * k + 2) x2) (8 * k + 3) x3) (8 * k + 4) x4) (nI (8 * k + 5) : Int32).toNatClampNeg x5)))), (a1, .inl (cJ, 616, .inr (.inl cf)))] H := hP
  have hD : va_D A [(m0, .inr (8, [.int z0, .int z1, .int (nI k), .int z3, .long z4, .long z5, .long z6, .long z7, .long z8, .long z9, .int z10, .ref a0, .ref a1, .ref a2, .ref a3, .ref a4, .ref a5, .ref a6, .ref a7, .ref a8, .ref a9, .ref b0, .ref b1, .int (nI oc), .ref b2, .ref b3, .ref b4, .ref b5])), (a7, .inl (cI, 256, .inl bf)), (a8, .inl (cI, 64, .inl sc)), (a9, .inl (cI, 8, .inl st)), (b0, .inl (cI, 8, .inl kS)), (b1, .inl (cI, 64, .inl kR)), (a2, .inl (cJ, 4, .inr (.inl tf))), (a0, .inl (cJ, 1232, .inr (.inl (vp_updL (vp_updL (vp_updL (vp_updL (vp_updL (vp_updL nf (8 * k) (lN K)) (8 * k + 1) (lN I)) (8 * k + 2) x2) (8 * k + 3) x3) (8 * k + 4) x4) (nI (8 * k + 5) : Int32).toNatClampNeg x5)))), (a1, .inl (cJ, 616, .inr (.inl cf)))] := hD
  rw [hfe] at hP hD
  refine lv_aload_n hx hb d_Bm_post_72 rfl (lv_at hl 1 rfl) ?_
  refine va_get (D := (dC, dI)) (ci := 8) (v := .ref a0) (C := "BallotBoardModel") (T := F_Bm) (N := 28) hx hb hts (fun w9 h9 => List.mem_cons_of_mem _ (i_Bm w9 h9)) hown hK hP 0 rfl rfl 11 (by decide) (hts _ (List.mem_cons_of_mem _ gk_930)) (fun _ h9 => h9) rfl d_Bm_post_73 ?_
  refine lv_iload hx hb d_Bm_post_76 (lv_at hl 0 rfl) ?_
  refine lv_bipush (v := 6) hx hb d_Bm_post_78 (by decide) ?_
  refine lv_iadd hx hb d_Bm_post_80 ?_
  rw [show ((nI (8 * k)) + 6 : Int32) = (nI (8 * k + 6)) from nI_add _ 6]
  refine lv_lload hx hb d_Bm_post_81 (lv_at hl 8 rfl) ?_
  refine va_last hx hb hK hP hD hS 7 0 rfl rfl (vp_in_nI (by omega) (by omega)) d_Bm_post_83 (fun H locs hP hD hS => ?_)
  have hfe : vp_updL (vp_updL (vp_updL (vp_updL (vp_updL (vp_updL (vp_updL nf (8 * k) (lN K)) (8 * k + 1) (lN I)) (8 * k + 2) x2) (8 * k + 3) x3) (8 * k + 4) x4) (8 * k + 5) x5) (nI (8 * k + 6) : Int32).toNatClampNeg x6 = vp_updL (vp_updL (vp_updL (vp_updL (vp_updL (vp_updL (vp_updL nf (8 * k) (lN K)) (8 * k + 1) (lN I)) (8 * k + 2) x2) (8 * k + 3) x3) (8 * k + 4) x4) (8 * k + 5) x5) (8 * k + 6) x6 := by rw [nI_clamp (by omega)]
  have hP : va_P (dC, dI) classes [(m0, .inr (8, [.int z0, .int z1, .int (nI k), .int z3, .long z4, .long z5, .long z6, .long z7, .long z8, .long z9, .int z10, .ref a0, .ref a1, .ref a2, .ref a3, .ref a4, .ref a5, .ref a6, .ref a7, .ref a8, .ref a9, .ref b0, .ref b1, .int (nI oc), .ref b2, .ref b3, .ref b4, .ref b5])), (a7, .inl (cI, 256, .inl bf)), (a8, .inl (cI, 64, .inl sc)), (a9, .inl (cI, 8, .inl st)), (b0, .inl (cI, 8, .inl kS)), (b1, .inl (cI, 64, .inl kR)), (a2, .inl (cJ, 4, .inr (.inl tf))), (a0, .inl (cJ, 1232, .inr (.inl (vp_updL (vp_updL (vp_updL (vp_updL (vp_updL (vp_updL (vp_updL nf (8 * k) (lN K)) (8 * k + 1) (lN I)) (8 * k + 2) x2) (8 * k + 3) x3) (8 * k + 4) x4) (8 * k + 5) x5) (nI (8 * k + 6) : Int32).toNatClampNeg x6)))), (a1, .inl (cJ, 616, .inr (.inl cf)))] H := hP
  have hD : va_D A [(m0, .inr (8, [.int z0, .int z1, .int (nI k), .int z3, .long z4, .long z5, .long z6, .long z7, .long z8, .long z9, .int z10, .ref a0, .ref a1, .ref a2, .ref a3, .ref a4, .ref a5, .ref a6, .ref a7, .ref a8, .ref a9, .ref b0, .ref b1, .int (nI oc), .ref b2, .ref b3, .ref b4, .ref b5])), (a7, .inl (cI, 256, .inl bf)), (a8, .inl (cI, 64, .inl sc)), (a9, .inl (cI, 8, .inl st)), (b0, .inl (cI, 8, .inl kS)), (b1, .inl (cI, 64, .inl kR)), (a2, .inl (cJ, 4, .inr (.inl tf))), (a0, .inl (cJ, 1232, .inr (.inl (vp_updL (vp_updL (vp_updL (vp_updL (vp_updL (vp_updL (vp_updL nf (8 * k) (lN K)) (8 * k + 1) (lN I)) (8 * k + 2) x2) (8 * k + 3) x3) (8 * k + 4) x4) (8 * k + 5) x5) (nI (8 * k + 6) : Int32).toNatClampNeg x6)))), (a1, .inl (cJ, 616, .inr (.inl cf)))] := hD
  rw [hfe] at hP hD
  refine lv_aload_n hx hb d_Bm_post_84 rfl (lv_at hl 1 rfl) ?_
  refine va_get (D := (dC, dI)) (ci := 8) (v := .ref a0) (C := "BallotBoardModel") (T := F_Bm) (N := 28) hx hb hts (fun w9 h9 => List.mem_cons_of_mem _ (i_Bm w9 h9)) hown hK hP 0 rfl rfl 11 (by decide) (hts _ (List.mem_cons_of_mem _ gk_930)) (fun _ h9 => h9) rfl d_Bm_post_85 ?_
  refine lv_iload hx hb d_Bm_post_88 (lv_at hl 0 rfl) ?_
  refine lv_bipush (v := 7) hx hb d_Bm_post_90 (by decide) ?_
  refine lv_iadd hx hb d_Bm_post_92 ?_
  rw [show ((nI (8 * k)) + 7 : Int32) = (nI (8 * k + 7)) from nI_add _ 7]
  refine lv_lload hx hb d_Bm_post_93 (lv_at hl 9 rfl) ?_
  refine va_last hx hb hK hP hD hS 7 0 rfl rfl (vp_in_nI (by omega) (by omega)) d_Bm_post_95 (fun H locs hP hD hS => ?_)
  have hfe : vp_updL (vp_updL (vp_updL (vp_updL (vp_updL (vp_updL (vp_updL (vp_updL nf (8 * k) (lN K)) (8 * k + 1) (lN I)) (8 * k + 2) x2) (8 * k + 3) x3) (8 * k + 4) x4) (8 * k + 5) x5) (8 * k + 6) x6) (nI (8 * k + 7) : Int32).toNatClampNeg x7 = vp_updL (vp_updL (vp_updL (vp_updL (vp_updL (vp_updL (vp_updL (vp_updL nf (8 * k) (lN K)) (8 * k + 1) (lN I)) (8 * k + 2) x2) (8 * k + 3) x3) (8 * k + 4) x4) (8 * k + 5) x5) (8 * k + 6) x6) (8 * k + 7) x7 := by rw [nI_clamp (by omega)]
  have hP : va_P (dC, dI) classes [(m0, .inr (8, [.int z0, .int z1, .int (nI k), .int z3, .long z4, .long z5, .long z6, .long z7, .long z8, .long z9, .int z10, .ref a0, .ref a1, .ref a2, .ref a3, .ref a4, .ref a5, .ref a6, .ref a7, .ref a8, .ref a9, .ref b0, .ref b1, .int (nI oc), .ref b2, .ref b3, .ref b4, .ref b5])), (a7, .inl (cI, 256, .inl bf)), (a8, .inl (cI, 64, .inl sc)), (a9, .inl (cI, 8, .inl st)), (b0, .inl (cI, 8, .inl kS)), (b1, .inl (cI, 64, .inl kR)), (a2, .inl (cJ, 4, .inr (.inl tf))), (a0, .inl (cJ, 1232, .inr (.inl (vp_updL (vp_updL (vp_updL (vp_updL (vp_updL (vp_updL (vp_updL (vp_updL nf (8 * k) (lN K)) (8 * k + 1) (lN I)) (8 * k + 2) x2) (8 * k + 3) x3) (8 * k + 4) x4) (8 * k + 5) x5) (8 * k + 6) x6) (nI (8 * k + 7) : Int32).toNatClampNeg x7)))), (a1, .inl (cJ, 616, .inr (.inl cf)))] H := hP
  have hD : va_D A [(m0, .inr (8, [.int z0, .int z1, .int (nI k), .int z3, .long z4, .long z5, .long z6, .long z7, .long z8, .long z9, .int z10, .ref a0, .ref a1, .ref a2, .ref a3, .ref a4, .ref a5, .ref a6, .ref a7, .ref a8, .ref a9, .ref b0, .ref b1, .int (nI oc), .ref b2, .ref b3, .ref b4, .ref b5])), (a7, .inl (cI, 256, .inl bf)), (a8, .inl (cI, 64, .inl sc)), (a9, .inl (cI, 8, .inl st)), (b0, .inl (cI, 8, .inl kS)), (b1, .inl (cI, 64, .inl kR)), (a2, .inl (cJ, 4, .inr (.inl tf))), (a0, .inl (cJ, 1232, .inr (.inl (vp_updL (vp_updL (vp_updL (vp_updL (vp_updL (vp_updL (vp_updL (vp_updL nf (8 * k) (lN K)) (8 * k + 1) (lN I)) (8 * k + 2) x2) (8 * k + 3) x3) (8 * k + 4) x4) (8 * k + 5) x5) (8 * k + 6) x6) (nI (8 * k + 7) : Int32).toNatClampNeg x7)))), (a1, .inl (cJ, 616, .inr (.inl cf)))] := hD
  rw [hfe] at hP hD
  have hP : va_P (dC, dI) classes [(m0, .inr (8, [.int z0, .int z1, .int (nI k), .int z3, .long z4, .long z5, .long z6, .long z7, .long z8, .long z9, .int z10, .ref a0, .ref a1, .ref a2, .ref a3, .ref a4, .ref a5, .ref a6, .ref a7, .ref a8, .ref a9, .ref b0, .ref b1, .int (nI oc), .ref b2, .ref b3, .ref b4, .ref b5])), (a7, .inl (cI, 256, .inl bf)), (a8, .inl (cI, 64, .inl sc)), (a9, .inl (cI, 8, .inl st)), (b0, .inl (cI, 8, .inl kS)), (b1, .inl (cI, 64, .inl kR)), (a2, .inl (cJ, 4, .inr (.inl tf))), (a0, .inl (cJ, 1232, .inr (.inl (w8 nf (8 * k) (lN K) (lN I) x2 x3 x4 x5 x6 x7)))), (a1, .inl (cJ, 616, .inr (.inl cf)))] H := hP
  have hD : va_D A [(m0, .inr (8, [.int z0, .int z1, .int (nI k), .int z3, .long z4, .long z5, .long z6, .long z7, .long z8, .long z9, .int z10, .ref a0, .ref a1, .ref a2, .ref a3, .ref a4, .ref a5, .ref a6, .ref a7, .ref a8, .ref a9, .ref b0, .ref b1, .int (nI oc), .ref b2, .ref b3, .ref b4, .ref b5])), (a7, .inl (cI, 256, .inl bf)), (a8, .inl (cI, 64, .inl sc)), (a9, .inl (cI, 8, .inl st)), (b0, .inl (cI, 8, .inl kS)), (b1, .inl (cI, 64, .inl kR)), (a2, .inl (cJ, 4, .inr (.inl tf))), (a0, .inl (cJ, 1232, .inr (.inl (w8 nf (8 * k) (lN K) (lN I) x2 x3 x4 x5 x6 x7)))), (a1, .inl (cJ, 616, .inr (.inl cf)))] := hD
  refine lv_aload_n hx hb d_Bm_post_96 rfl (lv_at hl 1 rfl) ?_
  refine lv_aload_n hx hb d_Bm_post_97 rfl (lv_at hl 1 rfl) ?_
  refine va_get (D := (dC, dI)) (ci := 8) (v := .int (nI k)) (C := "BallotBoardModel") (T := F_Bm) (N := 28) hx hb hts (fun w9 h9 => List.mem_cons_of_mem _ (i_Bm w9 h9)) hown hK hP 0 rfl rfl 2 (by decide) (hts _ (List.mem_cons_of_mem _ gk_921)) (fun _ h9 => h9) rfl d_Bm_post_98 ?_
  have hPc := hP.sub (ws' := (mo_ws m0 z0 z1 (nI k) z3 z4 z5 z6 z7 z8 z9 z10 a0 a1 a2 a3 a4 a5 a6 a7 a8 a9 b0 b1 oc b2 b3 b4 b5 ++ (iw_ws a7 cI 256 bf ++ (iw_ws a8 cI 64 sc ++ (iw_ws a9 cI 8 st ++ (iw_ws b0 cI 8 kS ++ (iw_ws b1 cI 64 kR ++ (jw_ws a2 cJ 4 tf ++ (jw_ws a0 cJ 1232 (w8 nf (8 * k) (lN K) (lN I) x2 x3 x4 x5 x6 x7) ++ (jw_ws a1 cJ 616 cf)))))))))) [0, 1, 2, 3, 4, 5, 6, 7, 8] rfl
  have hDc := hD.sub (ws' := (mo_ws m0 z0 z1 (nI k) z3 z4 z5 z6 z7 z8 z9 z10 a0 a1 a2 a3 a4 a5 a6 a7 a8 a9 b0 b1 oc b2 b3 b4 b5 ++ (iw_ws a7 cI 256 bf ++ (iw_ws a8 cI 64 sc ++ (iw_ws a9 cI 8 st ++ (iw_ws b0 cI 8 kS ++ (iw_ws b1 cI 64 kR ++ (jw_ws a2 cJ 4 tf ++ (jw_ws a0 cJ 1232 (w8 nf (8 * k) (lN K) (lN I) x2 x3 x4 x5 x6 x7) ++ (jw_ws a1 cJ 616 cf)))))))))) [0, 1, 2, 3, 4, 5, 6, 7, 8] (by decide) rfl
  have hKc := hK.sub (tys' := [(cJ, .long), (cI, .int)]) [0, 1] rfl
  have hFc := va_free (wc := (mo_ws m0 z0 z1 (nI k) z3 z4 z5 z6 z7 z8 z9 z10 a0 a1 a2 a3 a4 a5 a6 a7 a8 a9 b0 b1 oc b2 b3 b4 b5 ++ (iw_ws a7 cI 256 bf ++ (iw_ws a8 cI 64 sc ++ (iw_ws a9 cI 8 st ++ (iw_ws b0 cI 8 kS ++ (iw_ws b1 cI 64 kR ++ (jw_ws a2 cJ 4 tf ++ (jw_ws a0 cJ 1232 (w8 nf (8 * k) (lN K) (lN I) x2 x3 x4 x5 x6 x7) ++ (jw_ws a1 cJ 616 cf)))))))))) hD hS hA [0, 1, 2, 3, 4, 5, 6, 7, 8] rfl
  refine va_callv (va_runV (As := [.int (nI k)]) (rest := []) ⟨hx, hb, hml, hown, hts⟩ (c_Bm_link_0 l dC dI cJ cI H.size m0 z0 z1 (nI k) z3 z4 z5 z6 z7 z8 z9 z10 a0 a1 a2 a3 a4 a5 a6 a7 a8 a9 b0 b1 oc b2 b3 b4 b5 bf sc st tf (w8 nf (8 * k) (lN K) (lN I) x2 x3 x4 x5 x6 x7) cf k ([0, 0, 0, 0, lN K, lN I, x2, x3, x4]) (by omega) hk0 (by rw [w8_in nf (8 * k) (lN K) (lN I) x2 x3 x4 x5 x6 x7 0 (by omega)]; show ¬ lN K = 2; exact fun h => hK2 (lN_inj (b := 2) (by omega) (by omega) h)) (by
    rw [w8_in nf (8 * k) (lN K) (lN I) x2 x3 x4 x5 x6 x7 0 (by omega), w8_in nf (8 * k) (lN K) (lN I) x2 x3 x4 x5 x6 x7 1 (by omega), w8_in nf (8 * k) (lN K) (lN I) x2 x3 x4 x5 x6 x7 2 (by omega), w8_in nf (8 * k) (lN K) (lN I) x2 x3 x4 x5 x6 x7 3 (by omega), w8_in nf (8 * k) (lN K) (lN I) x2 x3 x4 x5 x6 x7 4 (by omega)]
    rfl)) (cwV 1 hts (gw_V gk_1098 gk_1100 gp_41 gk_7 gk_1101) rfl rfl rfl (by decide +kernel) ⟨Nat.le_of_ble_eq_true rfl, Nat.le_of_ble_eq_true rfl⟩) ⟨fun a U g mk q => by obtain ⟨q0, q1, qP, qK, qD⟩ := q; exact ⟨q0, q1, qP, va_K.moved (u := U) (U := U.calling g mk a) (Vm.Alike.refl U.vm) qK, qD⟩, va_recv hK hP (ci := 8) (q0 := 0) rfl rfl, fun U hU hW => ⟨rfl, by rw [hU], by rw [hU]; exact hPc, va_K.moved hW.alike hKc, hDc.weaken (fun _ _ _ _ => trivial)⟩⟩ rfl rfl hl.1 rfl (lv_room (Nat.le_of_ble_eq_true rfl)) d_Bm_post_101 ⟨Nat.le_of_ble_eq_true rfl, Nat.le_of_ble_eq_true rfl⟩) hS (fun q _ h => hFc q h) hFc (fun u9 t9 H1 locs ht hvm hw hB hz1 hk1 hS => ?_)
  obtain ⟨gbk_1, gsk_1, gtk_1, gfk_1, gok_1⟩ := u9
  have hdg : dgo gtk_1 ([0, 0, 0, 0, lN K, lN I, x2, x3, x4]) ∧ ∀ j, j < 4 → gfk_1 j = lkw ([0, 0, 0, 0, lN K, lN I, x2, x3, x4]) j := hw
  obtain ⟨hP1, hK1, hD1⟩ := hB
  rw [ht] at hP1
  obtain ⟨hP, hD⟩ := va_join (wr := []) (w1 := [(m0, .inr (8, [.int z0, .int z1, .int (nI k), .int z3, .long z4, .long z5, .long z6, .long z7, .long z8, .long z9, .int z10, .ref a0, .ref a1, .ref a2, .ref a3, .ref a4, .ref a5, .ref a6, .ref a7, .ref a8, .ref a9, .ref b0, .ref b1, .int (nI gok_1), .ref b2, .ref b3, .ref b4, .ref b5])), (a7, .inl (cI, 256, .inl gbk_1)), (a8, .inl (cI, 64, .inl gsk_1)), (a9, .inl (cI, 8, .inl gtk_1)), (b0, .inl (cI, 8, .inl kS)), (b1, .inl (cI, 64, .inl kR)), (a2, .inl (cJ, 4, .inr (.inl gfk_1))), (a0, .inl (cJ, 1232, .inr (.inl (w8 nf (8 * k) (lN K) (lN I) x2 x3 x4 x5 x6 x7)))), (a1, .inl (cJ, 616, .inr (.inl cf)))]) hP hD [0, 1, 2, 3, 4, 5, 6, 7, 8] [] rfl rfl (by decide) (by decide) hk1 hFc hP1 hD1
  have hP := hP.sub (ws' := [(m0, .inr (8, [.int z0, .int z1, .int (nI k), .int z3, .long z4, .long z5, .long z6, .long z7, .long z8, .long z9, .int z10, .ref a0, .ref a1, .ref a2, .ref a3, .ref a4, .ref a5, .ref a6, .ref a7, .ref a8, .ref a9, .ref b0, .ref b1, .int (nI gok_1), .ref b2, .ref b3, .ref b4, .ref b5])), (a7, .inl (cI, 256, .inl gbk_1)), (a8, .inl (cI, 64, .inl gsk_1)), (a9, .inl (cI, 8, .inl gtk_1)), (b0, .inl (cI, 8, .inl kS)), (b1, .inl (cI, 64, .inl kR)), (a2, .inl (cJ, 4, .inr (.inl gfk_1))), (a0, .inl (cJ, 1232, .inr (.inl (w8 nf (8 * k) (lN K) (lN I) x2 x3 x4 x5 x6 x7)))), (a1, .inl (cJ, 616, .inr (.inl cf)))]) [0, 1, 2, 3, 4, 5, 6, 7, 8] rfl
  have hD := hD.sub (ws' := [(m0, .inr (8, [.int z0, .int z1, .int (nI k), .int z3, .long z4, .long z5, .long z6, .long z7, .long z8, .long z9, .int z10, .ref a0, .ref a1, .ref a2, .ref a3, .ref a4, .ref a5, .ref a6, .ref a7, .ref a8, .ref a9, .ref b0, .ref b1, .int (nI gok_1), .ref b2, .ref b3, .ref b4, .ref b5])), (a7, .inl (cI, 256, .inl gbk_1)), (a8, .inl (cI, 64, .inl gsk_1)), (a9, .inl (cI, 8, .inl gtk_1)), (b0, .inl (cI, 8, .inl kS)), (b1, .inl (cI, 64, .inl kR)), (a2, .inl (cJ, 4, .inr (.inl gfk_1))), (a0, .inl (cJ, 1232, .inr (.inl (w8 nf (8 * k) (lN K) (lN I) x2 x3 x4 x5 x6 x7)))), (a1, .inl (cJ, 616, .inr (.inl cf)))]) [0, 1, 2, 3, 4, 5, 6, 7, 8] (by decide) rfl
  generalize H1 = H at hP hS ⊢
  refine lv_iconst (v := 0) hx hb d_Bm_post_104 (by decide) ?_
  refine lv_istore (lv' := [(16, .int 0), (15, .int (nI (8 * k))), (0, .ref m0), (1, .int (nI K)), (2, .int (nI I)), (3, .long x2), (5, .long x3), (7, .long x4), (9, .long x5), (11, .long x6), (13, .long x7)]) hx hb d_Bm_post_105 hl (by decide) rfl (fun ls hl => ?_)
  refine lv_iload hx hb d_Bm_post_107 (lv_at hl 0 rfl) ?_
  refine lv_iconst (v := 4) hx hb d_Bm_post_109 (by decide) ?_
  refine lv_icmp_ge (tgt := 140) hx hb d_Bm_post_110 (by decide) (fun c_3 => ?_) (fun c_3 => ?_)
  · -- taken
    exact absurd c_3 (by decide)
  · -- not taken
    refine lv_aload_n hx hb d_Bm_post_113 rfl (lv_at hl 2 rfl) ?_
    refine va_get (D := (dC, dI)) (ci := 8) (v := .ref a1) (C := "BallotBoardModel") (T := F_Bm) (N := 28) hx hb hts (fun w9 h9 => List.mem_cons_of_mem _ (i_Bm w9 h9)) hown hK hP 0 rfl rfl 12 (by decide) (hts _ (List.mem_cons_of_mem _ gk_931)) (fun _ h9 => h9) rfl d_Bm_post_114 ?_
    refine lv_iconst (v := 4) hx hb d_Bm_post_117 (by decide) ?_
    refine lv_aload_n hx hb d_Bm_post_118 rfl (lv_at hl 2 rfl) ?_
    refine va_get (D := (dC, dI)) (ci := 8) (v := .int (nI k)) (C := "BallotBoardModel") (T := F_Bm) (N := 28) hx hb hts (fun w9 h9 => List.mem_cons_of_mem _ (i_Bm w9 h9)) hown hK hP 0 rfl rfl 2 (by decide) (hts _ (List.mem_cons_of_mem _ gk_921)) (fun _ h9 => h9) rfl d_Bm_post_119 ?_
    refine lv_imul hx hb d_Bm_post_122 ?_
    rw [show (4 * (nI k) : Int32) = (nI (4 * k)) from pk_mul 4 k]
    refine lv_iload hx hb d_Bm_post_123 (lv_at hl 0 rfl) ?_
    refine lv_iadd hx hb d_Bm_post_125 ?_
    rw [show ((nI (4 * k)) + 0 : Int32) = (nI (4 * k + 0)) from nI_add _ 0]
    refine lv_aload_n hx hb d_Bm_post_126 rfl (lv_at hl 2 rfl) ?_
    refine va_get (D := (dC, dI)) (ci := 8) (v := .ref a2) (C := "BallotBoardModel") (T := F_Bm) (N := 28) hx hb hts (fun w9 h9 => List.mem_cons_of_mem _ (i_Bm w9 h9)) hown hK hP 0 rfl rfl 13 (by decide) (hts _ (List.mem_cons_of_mem _ gk_932)) (fun _ h9 => h9) rfl d_Bm_post_127 ?_
    refine lv_iload hx hb d_Bm_post_130 (lv_at hl 0 rfl) ?_
    refine va_lald hx hb hK hP 6 0 rfl rfl (vp_lit rfl) d_Bm_post_132 ?_
    rw [show (gfk_1 (0 : Int32).toNatClampNeg : Int64) = gfk_1 0 from rfl]
    rw [show (gfk_1 0 : Int64) = (lkw [0, 0, 0, 0, lN K, lN I, x2, x3, x4] 0) from hdg.2 0 (by omega)]
    refine va_last hx hb hK hP hD hS 8 0 rfl rfl (vp_in_nI (by omega) (by omega)) d_Bm_post_133 (fun H locs hP hD hS => ?_)
    have hfe : vp_updL cf (nI (4 * k + 0) : Int32).toNatClampNeg (lkw [0, 0, 0, 0, lN K, lN I, x2, x3, x4] 0) = vp_updL cf (4 * k + 0) (lkw [0, 0, 0, 0, lN K, lN I, x2, x3, x4] 0) := by rw [nI_clamp (by omega)]
    have hP : va_P (dC, dI) classes [(m0, .inr (8, [.int z0, .int z1, .int (nI k), .int z3, .long z4, .long z5, .long z6, .long z7, .long z8, .long z9, .int z10, .ref a0, .ref a1, .ref a2, .ref a3, .ref a4, .ref a5, .ref a6, .ref a7, .ref a8, .ref a9, .ref b0, .ref b1, .int (nI gok_1), .ref b2, .ref b3, .ref b4, .ref b5])), (a7, .inl (cI, 256, .inl gbk_1)), (a8, .inl (cI, 64, .inl gsk_1)), (a9, .inl (cI, 8, .inl gtk_1)), (b0, .inl (cI, 8, .inl kS)), (b1, .inl (cI, 64, .inl kR)), (a2, .inl (cJ, 4, .inr (.inl gfk_1))), (a0, .inl (cJ, 1232, .inr (.inl (w8 nf (8 * k) (lN K) (lN I) x2 x3 x4 x5 x6 x7)))), (a1, .inl (cJ, 616, .inr (.inl (vp_updL cf (nI (4 * k + 0) : Int32).toNatClampNeg (lkw [0, 0, 0, 0, lN K, lN I, x2, x3, x4] 0)))))] H := hP
    have hD : va_D A [(m0, .inr (8, [.int z0, .int z1, .int (nI k), .int z3, .long z4, .long z5, .long z6, .long z7, .long z8, .long z9, .int z10, .ref a0, .ref a1, .ref a2, .ref a3, .ref a4, .ref a5, .ref a6, .ref a7, .ref a8, .ref a9, .ref b0, .ref b1, .int (nI gok_1), .ref b2, .ref b3, .ref b4, .ref b5])), (a7, .inl (cI, 256, .inl gbk_1)), (a8, .inl (cI, 64, .inl gsk_1)), (a9, .inl (cI, 8, .inl gtk_1)), (b0, .inl (cI, 8, .inl kS)), (b1, .inl (cI, 64, .inl kR)), (a2, .inl (cJ, 4, .inr (.inl gfk_1))), (a0, .inl (cJ, 1232, .inr (.inl (w8 nf (8 * k) (lN K) (lN I) x2 x3 x4 x5 x6 x7)))), (a1, .inl (cJ, 616, .inr (.inl (vp_updL cf (nI (4 * k + 0) : Int32).toNatClampNeg (lkw [0, 0, 0, 0, lN K, lN I, x2, x3, x4] 0)))))] := hD
    rw [hfe] at hP hD
    obtain ⟨i_4, ei_4⟩ : ∃ y : Int32, y = 0 + 1 := ⟨_, rfl⟩
    refine lv_iinc (v := i_4) (lv' := [(16, .int i_4), (15, .int (nI (8 * k))), (0, .ref m0), (1, .int (nI K)), (2, .int (nI I)), (3, .long x2), (5, .long x3), (7, .long x4), (9, .long x5), (11, .long x6), (13, .long x7)]) hx hb d_Bm_post_134 hl (k := 0) rfl (by rw [ei_4]; rfl) (by decide) rfl (fun ls hl => ?_)
    obtain rfl : i_4 = 1 := by rw [ei_4]; exact by decide
    refine lv_goto (tgt := 107) hx hb d_Bm_post_137 (by decide) ?_
    refine lv_iload hx hb d_Bm_post_107 (lv_at hl 0 rfl) ?_
    refine lv_iconst (v := 4) hx hb d_Bm_post_109 (by decide) ?_
    refine lv_icmp_ge (tgt := 140) hx hb d_Bm_post_110 (by decide) (fun c_5 => ?_) (fun c_5 => ?_)
    · -- taken
      exact absurd c_5 (by decide)
    · -- not taken
      refine lv_aload_n hx hb d_Bm_post_113 rfl (lv_at hl 2 rfl) ?_
      refine va_get (D := (dC, dI)) (ci := 8) (v := .ref a1) (C := "BallotBoardModel") (T := F_Bm) (N := 28) hx hb hts (fun w9 h9 => List.mem_cons_of_mem _ (i_Bm w9 h9)) hown hK hP 0 rfl rfl 12 (by decide) (hts _ (List.mem_cons_of_mem _ gk_931)) (fun _ h9 => h9) rfl d_Bm_post_114 ?_
      refine lv_iconst (v := 4) hx hb d_Bm_post_117 (by decide) ?_
      refine lv_aload_n hx hb d_Bm_post_118 rfl (lv_at hl 2 rfl) ?_
      refine va_get (D := (dC, dI)) (ci := 8) (v := .int (nI k)) (C := "BallotBoardModel") (T := F_Bm) (N := 28) hx hb hts (fun w9 h9 => List.mem_cons_of_mem _ (i_Bm w9 h9)) hown hK hP 0 rfl rfl 2 (by decide) (hts _ (List.mem_cons_of_mem _ gk_921)) (fun _ h9 => h9) rfl d_Bm_post_119 ?_
      refine lv_imul hx hb d_Bm_post_122 ?_
      rw [show (4 * (nI k) : Int32) = (nI (4 * k)) from pk_mul 4 k]
      refine lv_iload hx hb d_Bm_post_123 (lv_at hl 0 rfl) ?_
      refine lv_iadd hx hb d_Bm_post_125 ?_
      rw [show ((nI (4 * k)) + 1 : Int32) = (nI (4 * k + 1)) from nI_add _ 1]
      refine lv_aload_n hx hb d_Bm_post_126 rfl (lv_at hl 2 rfl) ?_
      refine va_get (D := (dC, dI)) (ci := 8) (v := .ref a2) (C := "BallotBoardModel") (T := F_Bm) (N := 28) hx hb hts (fun w9 h9 => List.mem_cons_of_mem _ (i_Bm w9 h9)) hown hK hP 0 rfl rfl 13 (by decide) (hts _ (List.mem_cons_of_mem _ gk_932)) (fun _ h9 => h9) rfl d_Bm_post_127 ?_
      refine lv_iload hx hb d_Bm_post_130 (lv_at hl 0 rfl) ?_
      refine va_lald hx hb hK hP 6 0 rfl rfl (vp_lit rfl) d_Bm_post_132 ?_
      rw [show (gfk_1 (1 : Int32).toNatClampNeg : Int64) = gfk_1 1 from rfl]
      rw [show (gfk_1 1 : Int64) = (lkw [0, 0, 0, 0, lN K, lN I, x2, x3, x4] 1) from hdg.2 1 (by omega)]
      refine va_last hx hb hK hP hD hS 8 0 rfl rfl (vp_in_nI (by omega) (by omega)) d_Bm_post_133 (fun H locs hP hD hS => ?_)
      have hfe : vp_updL (vp_updL cf (4 * k + 0) (lkw [0, 0, 0, 0, lN K, lN I, x2, x3, x4] 0)) (nI (4 * k + 1) : Int32).toNatClampNeg (lkw [0, 0, 0, 0, lN K, lN I, x2, x3, x4] 1) = vp_updL (vp_updL cf (4 * k + 0) (lkw [0, 0, 0, 0, lN K, lN I, x2, x3, x4] 0)) (4 * k + 1) (lkw [0, 0, 0, 0, lN K, lN I, x2, x3, x4] 1) := by rw [nI_clamp (by omega)]
      have hP : va_P (dC, dI) classes [(m0, .inr (8, [.int z0, .int z1, .int (nI k), .int z3, .long z4, .long z5, .long z6, .long z7, .long z8, .long z9, .int z10, .ref a0, .ref a1, .ref a2, .ref a3, .ref a4, .ref a5, .ref a6, .ref a7, .ref a8, .ref a9, .ref b0, .ref b1, .int (nI gok_1), .ref b2, .ref b3, .ref b4, .ref b5])), (a7, .inl (cI, 256, .inl gbk_1)), (a8, .inl (cI, 64, .inl gsk_1)), (a9, .inl (cI, 8, .inl gtk_1)), (b0, .inl (cI, 8, .inl kS)), (b1, .inl (cI, 64, .inl kR)), (a2, .inl (cJ, 4, .inr (.inl gfk_1))), (a0, .inl (cJ, 1232, .inr (.inl (w8 nf (8 * k) (lN K) (lN I) x2 x3 x4 x5 x6 x7)))), (a1, .inl (cJ, 616, .inr (.inl (vp_updL (vp_updL cf (4 * k + 0) (lkw [0, 0, 0, 0, lN K, lN I, x2, x3, x4] 0)) (nI (4 * k + 1) : Int32).toNatClampNeg (lkw [0, 0, 0, 0, lN K, lN I, x2, x3, x4] 1)))))] H := hP
      have hD : va_D A [(m0, .inr (8, [.int z0, .int z1, .int (nI k), .int z3, .long z4, .long z5, .long z6, .long z7, .long z8, .long z9, .int z10, .ref a0, .ref a1, .ref a2, .ref a3, .ref a4, .ref a5, .ref a6, .ref a7, .ref a8, .ref a9, .ref b0, .ref b1, .int (nI gok_1), .ref b2, .ref b3, .ref b4, .ref b5])), (a7, .inl (cI, 256, .inl gbk_1)), (a8, .inl (cI, 64, .inl gsk_1)), (a9, .inl (cI, 8, .inl gtk_1)), (b0, .inl (cI, 8, .inl kS)), (b1, .inl (cI, 64, .inl kR)), (a2, .inl (cJ, 4, .inr (.inl gfk_1))), (a0, .inl (cJ, 1232, .inr (.inl (w8 nf (8 * k) (lN K) (lN I) x2 x3 x4 x5 x6 x7)))), (a1, .inl (cJ, 616, .inr (.inl (vp_updL (vp_updL cf (4 * k + 0) (lkw [0, 0, 0, 0, lN K, lN I, x2, x3, x4] 0)) (nI (4 * k + 1) : Int32).toNatClampNeg (lkw [0, 0, 0, 0, lN K, lN I, x2, x3, x4] 1)))))] := hD
      rw [hfe] at hP hD
      obtain ⟨i_6, ei_6⟩ : ∃ y : Int32, y = 1 + 1 := ⟨_, rfl⟩
      refine lv_iinc (v := i_6) (lv' := [(16, .int i_6), (15, .int (nI (8 * k))), (0, .ref m0), (1, .int (nI K)), (2, .int (nI I)), (3, .long x2), (5, .long x3), (7, .long x4), (9, .long x5), (11, .long x6), (13, .long x7)]) hx hb d_Bm_post_134 hl (k := 0) rfl (by rw [ei_6]; rfl) (by decide) rfl (fun ls hl => ?_)
      obtain rfl : i_6 = 2 := by rw [ei_6]; exact by decide
      refine lv_goto (tgt := 107) hx hb d_Bm_post_137 (by decide) ?_
      refine lv_iload hx hb d_Bm_post_107 (lv_at hl 0 rfl) ?_
      refine lv_iconst (v := 4) hx hb d_Bm_post_109 (by decide) ?_
      refine lv_icmp_ge (tgt := 140) hx hb d_Bm_post_110 (by decide) (fun c_7 => ?_) (fun c_7 => ?_)
      · -- taken
        exact absurd c_7 (by decide)
      · -- not taken
        refine lv_aload_n hx hb d_Bm_post_113 rfl (lv_at hl 2 rfl) ?_
        refine va_get (D := (dC, dI)) (ci := 8) (v := .ref a1) (C := "BallotBoardModel") (T := F_Bm) (N := 28) hx hb hts (fun w9 h9 => List.mem_cons_of_mem _ (i_Bm w9 h9)) hown hK hP 0 rfl rfl 12 (by decide) (hts _ (List.mem_cons_of_mem _ gk_931)) (fun _ h9 => h9) rfl d_Bm_post_114 ?_
        refine lv_iconst (v := 4) hx hb d_Bm_post_117 (by decide) ?_
        refine lv_aload_n hx hb d_Bm_post_118 rfl (lv_at hl 2 rfl) ?_
        refine va_get (D := (dC, dI)) (ci := 8) (v := .int (nI k)) (C := "BallotBoardModel") (T := F_Bm) (N := 28) hx hb hts (fun w9 h9 => List.mem_cons_of_mem _ (i_Bm w9 h9)) hown hK hP 0 rfl rfl 2 (by decide) (hts _ (List.mem_cons_of_mem _ gk_921)) (fun _ h9 => h9) rfl d_Bm_post_119 ?_
        refine lv_imul hx hb d_Bm_post_122 ?_
        rw [show (4 * (nI k) : Int32) = (nI (4 * k)) from pk_mul 4 k]
        refine lv_iload hx hb d_Bm_post_123 (lv_at hl 0 rfl) ?_
        refine lv_iadd hx hb d_Bm_post_125 ?_
        rw [show ((nI (4 * k)) + 2 : Int32) = (nI (4 * k + 2)) from nI_add _ 2]
        refine lv_aload_n hx hb d_Bm_post_126 rfl (lv_at hl 2 rfl) ?_
        refine va_get (D := (dC, dI)) (ci := 8) (v := .ref a2) (C := "BallotBoardModel") (T := F_Bm) (N := 28) hx hb hts (fun w9 h9 => List.mem_cons_of_mem _ (i_Bm w9 h9)) hown hK hP 0 rfl rfl 13 (by decide) (hts _ (List.mem_cons_of_mem _ gk_932)) (fun _ h9 => h9) rfl d_Bm_post_127 ?_
        refine lv_iload hx hb d_Bm_post_130 (lv_at hl 0 rfl) ?_
        refine va_lald hx hb hK hP 6 0 rfl rfl (vp_lit rfl) d_Bm_post_132 ?_
        rw [show (gfk_1 (2 : Int32).toNatClampNeg : Int64) = gfk_1 2 from rfl]
        rw [show (gfk_1 2 : Int64) = (lkw [0, 0, 0, 0, lN K, lN I, x2, x3, x4] 2) from hdg.2 2 (by omega)]
        refine va_last hx hb hK hP hD hS 8 0 rfl rfl (vp_in_nI (by omega) (by omega)) d_Bm_post_133 (fun H locs hP hD hS => ?_)
        have hfe : vp_updL (vp_updL (vp_updL cf (4 * k + 0) (lkw [0, 0, 0, 0, lN K, lN I, x2, x3, x4] 0)) (4 * k + 1) (lkw [0, 0, 0, 0, lN K, lN I, x2, x3, x4] 1)) (nI (4 * k + 2) : Int32).toNatClampNeg (lkw [0, 0, 0, 0, lN K, lN I, x2, x3, x4] 2) = vp_updL (vp_updL (vp_updL cf (4 * k + 0) (lkw [0, 0, 0, 0, lN K, lN I, x2, x3, x4] 0)) (4 * k + 1) (lkw [0, 0, 0, 0, lN K, lN I, x2, x3, x4] 1)) (4 * k + 2) (lkw [0, 0, 0, 0, lN K, lN I, x2, x3, x4] 2) := by rw [nI_clamp (by omega)]
        have hP : va_P (dC, dI) classes [(m0, .inr (8, [.int z0, .int z1, .int (nI k), .int z3, .long z4, .long z5, .long z6, .long z7, .long z8, .long z9, .int z10, .ref a0, .ref a1, .ref a2, .ref a3, .ref a4, .ref a5, .ref a6, .ref a7, .ref a8, .ref a9, .ref b0, .ref b1, .int (nI gok_1), .ref b2, .ref b3, .ref b4, .ref b5])), (a7, .inl (cI, 256, .inl gbk_1)), (a8, .inl (cI, 64, .inl gsk_1)), (a9, .inl (cI, 8, .inl gtk_1)), (b0, .inl (cI, 8, .inl kS)), (b1, .inl (cI, 64, .inl kR)), (a2, .inl (cJ, 4, .inr (.inl gfk_1))), (a0, .inl (cJ, 1232, .inr (.inl (w8 nf (8 * k) (lN K) (lN I) x2 x3 x4 x5 x6 x7)))), (a1, .inl (cJ, 616, .inr (.inl (vp_updL (vp_updL (vp_updL cf (4 * k + 0) (lkw [0, 0, 0, 0, lN K, lN I, x2, x3, x4] 0)) (4 * k + 1) (lkw [0, 0, 0, 0, lN K, lN I, x2, x3, x4] 1)) (nI (4 * k + 2) : Int32).toNatClampNeg (lkw [0, 0, 0, 0, lN K, lN I, x2, x3, x4] 2)))))] H := hP
        have hD : va_D A [(m0, .inr (8, [.int z0, .int z1, .int (nI k), .int z3, .long z4, .long z5, .long z6, .long z7, .long z8, .long z9, .int z10, .ref a0, .ref a1, .ref a2, .ref a3, .ref a4, .ref a5, .ref a6, .ref a7, .ref a8, .ref a9, .ref b0, .ref b1, .int (nI gok_1), .ref b2, .ref b3, .ref b4, .ref b5])), (a7, .inl (cI, 256, .inl gbk_1)), (a8, .inl (cI, 64, .inl gsk_1)), (a9, .inl (cI, 8, .inl gtk_1)), (b0, .inl (cI, 8, .inl kS)), (b1, .inl (cI, 64, .inl kR)), (a2, .inl (cJ, 4, .inr (.inl gfk_1))), (a0, .inl (cJ, 1232, .inr (.inl (w8 nf (8 * k) (lN K) (lN I) x2 x3 x4 x5 x6 x7)))), (a1, .inl (cJ, 616, .inr (.inl (vp_updL (vp_updL (vp_updL cf (4 * k + 0) (lkw [0, 0, 0, 0, lN K, lN I, x2, x3, x4] 0)) (4 * k + 1) (lkw [0, 0, 0, 0, lN K, lN I, x2, x3, x4] 1)) (nI (4 * k + 2) : Int32).toNatClampNeg (lkw [0, 0, 0, 0, lN K, lN I, x2, x3, x4] 2)))))] := hD
        rw [hfe] at hP hD
        obtain ⟨i_8, ei_8⟩ : ∃ y : Int32, y = 2 + 1 := ⟨_, rfl⟩
        refine lv_iinc (v := i_8) (lv' := [(16, .int i_8), (15, .int (nI (8 * k))), (0, .ref m0), (1, .int (nI K)), (2, .int (nI I)), (3, .long x2), (5, .long x3), (7, .long x4), (9, .long x5), (11, .long x6), (13, .long x7)]) hx hb d_Bm_post_134 hl (k := 0) rfl (by rw [ei_8]; rfl) (by decide) rfl (fun ls hl => ?_)
        obtain rfl : i_8 = 3 := by rw [ei_8]; exact by decide
        refine lv_goto (tgt := 107) hx hb d_Bm_post_137 (by decide) ?_
        refine lv_iload hx hb d_Bm_post_107 (lv_at hl 0 rfl) ?_
        refine lv_iconst (v := 4) hx hb d_Bm_post_109 (by decide) ?_
        refine lv_icmp_ge (tgt := 140) hx hb d_Bm_post_110 (by decide) (fun c_9 => ?_) (fun c_9 => ?_)
        · -- taken
          exact absurd c_9 (by decide)
        · -- not taken
          refine lv_aload_n hx hb d_Bm_post_113 rfl (lv_at hl 2 rfl) ?_
          refine va_get (D := (dC, dI)) (ci := 8) (v := .ref a1) (C := "BallotBoardModel") (T := F_Bm) (N := 28) hx hb hts (fun w9 h9 => List.mem_cons_of_mem _ (i_Bm w9 h9)) hown hK hP 0 rfl rfl 12 (by decide) (hts _ (List.mem_cons_of_mem _ gk_931)) (fun _ h9 => h9) rfl d_Bm_post_114 ?_
          refine lv_iconst (v := 4) hx hb d_Bm_post_117 (by decide) ?_
          refine lv_aload_n hx hb d_Bm_post_118 rfl (lv_at hl 2 rfl) ?_
          refine va_get (D := (dC, dI)) (ci := 8) (v := .int (nI k)) (C := "BallotBoardModel") (T := F_Bm) (N := 28) hx hb hts (fun w9 h9 => List.mem_cons_of_mem _ (i_Bm w9 h9)) hown hK hP 0 rfl rfl 2 (by decide) (hts _ (List.mem_cons_of_mem _ gk_921)) (fun _ h9 => h9) rfl d_Bm_post_119 ?_
          refine lv_imul hx hb d_Bm_post_122 ?_
          rw [show (4 * (nI k) : Int32) = (nI (4 * k)) from pk_mul 4 k]
          refine lv_iload hx hb d_Bm_post_123 (lv_at hl 0 rfl) ?_
          refine lv_iadd hx hb d_Bm_post_125 ?_
          rw [show ((nI (4 * k)) + 3 : Int32) = (nI (4 * k + 3)) from nI_add _ 3]
          refine lv_aload_n hx hb d_Bm_post_126 rfl (lv_at hl 2 rfl) ?_
          refine va_get (D := (dC, dI)) (ci := 8) (v := .ref a2) (C := "BallotBoardModel") (T := F_Bm) (N := 28) hx hb hts (fun w9 h9 => List.mem_cons_of_mem _ (i_Bm w9 h9)) hown hK hP 0 rfl rfl 13 (by decide) (hts _ (List.mem_cons_of_mem _ gk_932)) (fun _ h9 => h9) rfl d_Bm_post_127 ?_
          refine lv_iload hx hb d_Bm_post_130 (lv_at hl 0 rfl) ?_
          refine va_lald hx hb hK hP 6 0 rfl rfl (vp_lit rfl) d_Bm_post_132 ?_
          rw [show (gfk_1 (3 : Int32).toNatClampNeg : Int64) = gfk_1 3 from rfl]
          rw [show (gfk_1 3 : Int64) = (lkw [0, 0, 0, 0, lN K, lN I, x2, x3, x4] 3) from hdg.2 3 (by omega)]
          refine va_last hx hb hK hP hD hS 8 0 rfl rfl (vp_in_nI (by omega) (by omega)) d_Bm_post_133 (fun H locs hP hD hS => ?_)
          have hfe : vp_updL (vp_updL (vp_updL (vp_updL cf (4 * k + 0) (lkw [0, 0, 0, 0, lN K, lN I, x2, x3, x4] 0)) (4 * k + 1) (lkw [0, 0, 0, 0, lN K, lN I, x2, x3, x4] 1)) (4 * k + 2) (lkw [0, 0, 0, 0, lN K, lN I, x2, x3, x4] 2)) (nI (4 * k + 3) : Int32).toNatClampNeg (lkw [0, 0, 0, 0, lN K, lN I, x2, x3, x4] 3) = vp_updL (vp_updL (vp_updL (vp_updL cf (4 * k + 0) (lkw [0, 0, 0, 0, lN K, lN I, x2, x3, x4] 0)) (4 * k + 1) (lkw [0, 0, 0, 0, lN K, lN I, x2, x3, x4] 1)) (4 * k + 2) (lkw [0, 0, 0, 0, lN K, lN I, x2, x3, x4] 2)) (4 * k + 3) (lkw [0, 0, 0, 0, lN K, lN I, x2, x3, x4] 3) := by rw [nI_clamp (by omega)]
          have hP : va_P (dC, dI) classes [(m0, .inr (8, [.int z0, .int z1, .int (nI k), .int z3, .long z4, .long z5, .long z6, .long z7, .long z8, .long z9, .int z10, .ref a0, .ref a1, .ref a2, .ref a3, .ref a4, .ref a5, .ref a6, .ref a7, .ref a8, .ref a9, .ref b0, .ref b1, .int (nI gok_1), .ref b2, .ref b3, .ref b4, .ref b5])), (a7, .inl (cI, 256, .inl gbk_1)), (a8, .inl (cI, 64, .inl gsk_1)), (a9, .inl (cI, 8, .inl gtk_1)), (b0, .inl (cI, 8, .inl kS)), (b1, .inl (cI, 64, .inl kR)), (a2, .inl (cJ, 4, .inr (.inl gfk_1))), (a0, .inl (cJ, 1232, .inr (.inl (w8 nf (8 * k) (lN K) (lN I) x2 x3 x4 x5 x6 x7)))), (a1, .inl (cJ, 616, .inr (.inl (vp_updL (vp_updL (vp_updL (vp_updL cf (4 * k + 0) (lkw [0, 0, 0, 0, lN K, lN I, x2, x3, x4] 0)) (4 * k + 1) (lkw [0, 0, 0, 0, lN K, lN I, x2, x3, x4] 1)) (4 * k + 2) (lkw [0, 0, 0, 0, lN K, lN I, x2, x3, x4] 2)) (nI (4 * k + 3) : Int32).toNatClampNeg (lkw [0, 0, 0, 0, lN K, lN I, x2, x3, x4] 3)))))] H := hP
          have hD : va_D A [(m0, .inr (8, [.int z0, .int z1, .int (nI k), .int z3, .long z4, .long z5, .long z6, .long z7, .long z8, .long z9, .int z10, .ref a0, .ref a1, .ref a2, .ref a3, .ref a4, .ref a5, .ref a6, .ref a7, .ref a8, .ref a9, .ref b0, .ref b1, .int (nI gok_1), .ref b2, .ref b3, .ref b4, .ref b5])), (a7, .inl (cI, 256, .inl gbk_1)), (a8, .inl (cI, 64, .inl gsk_1)), (a9, .inl (cI, 8, .inl gtk_1)), (b0, .inl (cI, 8, .inl kS)), (b1, .inl (cI, 64, .inl kR)), (a2, .inl (cJ, 4, .inr (.inl gfk_1))), (a0, .inl (cJ, 1232, .inr (.inl (w8 nf (8 * k) (lN K) (lN I) x2 x3 x4 x5 x6 x7)))), (a1, .inl (cJ, 616, .inr (.inl (vp_updL (vp_updL (vp_updL (vp_updL cf (4 * k + 0) (lkw [0, 0, 0, 0, lN K, lN I, x2, x3, x4] 0)) (4 * k + 1) (lkw [0, 0, 0, 0, lN K, lN I, x2, x3, x4] 1)) (4 * k + 2) (lkw [0, 0, 0, 0, lN K, lN I, x2, x3, x4] 2)) (nI (4 * k + 3) : Int32).toNatClampNeg (lkw [0, 0, 0, 0, lN K, lN I, x2, x3, x4] 3)))))] := hD
          rw [hfe] at hP hD
          obtain ⟨i_10, ei_10⟩ : ∃ y : Int32, y = 3 + 1 := ⟨_, rfl⟩
          refine lv_iinc (v := i_10) (lv' := [(16, .int i_10), (15, .int (nI (8 * k))), (0, .ref m0), (1, .int (nI K)), (2, .int (nI I)), (3, .long x2), (5, .long x3), (7, .long x4), (9, .long x5), (11, .long x6), (13, .long x7)]) hx hb d_Bm_post_134 hl (k := 0) rfl (by rw [ei_10]; rfl) (by decide) rfl (fun ls hl => ?_)
          obtain rfl : i_10 = 4 := by rw [ei_10]; exact by decide
          refine lv_goto (tgt := 107) hx hb d_Bm_post_137 (by decide) ?_
          refine lv_iload hx hb d_Bm_post_107 (lv_at hl 0 rfl) ?_
          refine lv_iconst (v := 4) hx hb d_Bm_post_109 (by decide) ?_
          refine lv_icmp_ge (tgt := 140) hx hb d_Bm_post_110 (by decide) (fun c_11 => ?_) (fun c_11 => ?_)
          · -- taken
            refine lv_aload_n hx hb d_Bm_post_140 rfl (lv_at hl 2 rfl) ?_
            refine lv_dup hx hb d_Bm_post_141 rfl ?_
            refine va_get (D := (dC, dI)) (ci := 8) (v := .int (nI k)) (C := "BallotBoardModel") (T := F_Bm) (N := 28) hx hb hts (fun w9 h9 => List.mem_cons_of_mem _ (i_Bm w9 h9)) hown hK hP 0 rfl rfl 2 (by decide) (hts _ (List.mem_cons_of_mem _ gk_921)) (fun _ h9 => h9) rfl d_Bm_post_142 ?_
            refine lv_dup_x1 hx hb d_Bm_post_145 rfl rfl ?_
            refine lv_iconst (v := 1) hx hb d_Bm_post_146 (by decide) ?_
            refine lv_iadd hx hb d_Bm_post_147 ?_
            rw [show ((nI k) + 1 : Int32) = (nI (k + 1)) from nI_1 k]
            refine va_put (D := (dC, dI)) (ci := 8) (v := .int (nI (k + 1))) (ty := .int) (C := "BallotBoardModel") (T := F_Bm) (N := 28) hx hb hts (fun w9 h9 => List.mem_cons_of_mem _ (i_Bm w9 h9)) t_Bm t_Bm_ok n_Bm hown hK hP hD hS 0 rfl rfl 2 (by decide) (hts _ (List.mem_cons_of_mem _ gk_921)) (fun _ h9 => h9) rfl (by decide +kernel) rfl rfl (Nat.le_of_ble_eq_true rfl) d_Bm_post_148 (fun H locs hP hD hS => ?_)
            have hP : va_P (dC, dI) classes [(m0, .inr (8, [.int z0, .int z1, .int (nI (k + 1)), .int z3, .long z4, .long z5, .long z6, .long z7, .long z8, .long z9, .int z10, .ref a0, .ref a1, .ref a2, .ref a3, .ref a4, .ref a5, .ref a6, .ref a7, .ref a8, .ref a9, .ref b0, .ref b1, .int (nI gok_1), .ref b2, .ref b3, .ref b4, .ref b5])), (a7, .inl (cI, 256, .inl gbk_1)), (a8, .inl (cI, 64, .inl gsk_1)), (a9, .inl (cI, 8, .inl gtk_1)), (b0, .inl (cI, 8, .inl kS)), (b1, .inl (cI, 64, .inl kR)), (a2, .inl (cJ, 4, .inr (.inl gfk_1))), (a0, .inl (cJ, 1232, .inr (.inl (w8 nf (8 * k) (lN K) (lN I) x2 x3 x4 x5 x6 x7)))), (a1, .inl (cJ, 616, .inr (.inl (vp_updL (vp_updL (vp_updL (vp_updL cf (4 * k + 0) (lkw [0, 0, 0, 0, lN K, lN I, x2, x3, x4] 0)) (4 * k + 1) (lkw [0, 0, 0, 0, lN K, lN I, x2, x3, x4] 1)) (4 * k + 2) (lkw [0, 0, 0, 0, lN K, lN I, x2, x3, x4] 2)) (4 * k + 3) (lkw [0, 0, 0, 0, lN K, lN I, x2, x3, x4] 3)))))] H := hP
            have hD : va_D A [(m0, .inr (8, [.int z0, .int z1, .int (nI (k + 1)), .int z3, .long z4, .long z5, .long z6, .long z7, .long z8, .long z9, .int z10, .ref a0, .ref a1, .ref a2, .ref a3, .ref a4, .ref a5, .ref a6, .ref a7, .ref a8, .ref a9, .ref b0, .ref b1, .int (nI gok_1), .ref b2, .ref b3, .ref b4, .ref b5])), (a7, .inl (cI, 256, .inl gbk_1)), (a8, .inl (cI, 64, .inl gsk_1)), (a9, .inl (cI, 8, .inl gtk_1)), (b0, .inl (cI, 8, .inl kS)), (b1, .inl (cI, 64, .inl kR)), (a2, .inl (cJ, 4, .inr (.inl gfk_1))), (a0, .inl (cJ, 1232, .inr (.inl (w8 nf (8 * k) (lN K) (lN I) x2 x3 x4 x5 x6 x7)))), (a1, .inl (cJ, 616, .inr (.inl (vp_updL (vp_updL (vp_updL (vp_updL cf (4 * k + 0) (lkw [0, 0, 0, 0, lN K, lN I, x2, x3, x4] 0)) (4 * k + 1) (lkw [0, 0, 0, 0, lN K, lN I, x2, x3, x4] 1)) (4 * k + 2) (lkw [0, 0, 0, 0, lN K, lN I, x2, x3, x4] 2)) (4 * k + 3) (lkw [0, 0, 0, 0, lN K, lN I, x2, x3, x4] 3)))))] := hD
            exact W.iret (v := (nI k)) hx hb hr (fun t ht9 hW => ⟨⟨_, (gbk_1, gsk_1, gtk_1, gfk_1, gok_1), rfl, rfl, by rw [ht9]; exact hP, va_K.moved hW.alike hK, hD⟩, hS.F ht9⟩) hS.2.2 d_Bm_post_151
          · -- not taken
            exact absurd c_11 (by decide)
set_option maxHeartbeats 8000000 in
set_option maxRecDepth 100000 in
theorem c_Bm_post_5 (l : Launch) (dC : Nat → ClassId) (dI : Nat → Nat → Nat) (cJ cI : ClassId) (sz : Nat) (m0 : Nat) (z0 z1 z3 : Int32) (z4 z5 z6 z7 z8 z9 : Int64) (z10 : Int32) (a0 a1 a2 a3 a4 a5 a6 a7 a8 a9 b0 b1 oc b2 b3 b4 b5 : Nat) (bf sc st : Nat → Int32) (tf nf cf : Nat → Int64) (k K I : Nat) (x2 x3 x4 x5 x6 x7 : Int64) (hk : k < 154) (hk0 : 0 < k) (hK4 : K < 4) (hK2 : ¬ K = 2) (hI : I < 2 ^ 31) : Met l y_Bm_post w_Bm_post ({ frames := 4, cells := 0, slots := 0, locals := 97 }) (va_Pc [.ref m0, .int (nI K), .int (nI I), .long x2, .long x3, .long x4, .long x5, .long x6, .long x7] (fun U => U.heap.size = sz ∧ va_P (dC, dI) classes (mo_ws m0 z0 z1 (nI k) z3 z4 z5 z6 z7 z8 z9 z10 a0 a1 a2 a3 a4 a5 a6 a7 a8 a9 b0 b1 oc b2 b3 b4 b5 ++ (iw_ws a7 cI 256 bf ++ (iw_ws a8 cI 64 sc ++ (iw_ws a9 cI 8 st ++ (iw_ws b0 cI 8 kS ++ (iw_ws b1 cI 64 kR ++ (jw_ws a2 cJ 4 tf ++ (jw_ws a0 cJ 1232 nf ++ (jw_ws a1 cJ 616 cf))))))))) U.heap ∧ va_K (dC, dI) classes [(cJ, .long), (cI, .int)] U ∧ va_D (fun _ => True) (mo_ws m0 z0 z1 (nI k) z3 z4 z5 z6 z7 z8 z9 z10 a0 a1 a2 a3 a4 a5 a6 a7 a8 a9 b0 b1 oc b2 b3 b4 b5 ++ (iw_ws a7 cI 256 bf ++ (iw_ws a8 cI 64 sc ++ (iw_ws a9 cI 8 st ++ (iw_ws b0 cI 8 kS ++ (iw_ws b1 cI 64 kR ++ (jw_ws a2 cJ 4 tf ++ (jw_ws a0 cJ 1232 nf ++ (jw_ws a1 cJ 616 cf))))))))))) (va_Qi (fun (r : Int32) (u9 : DU) => r = nI k) (fun u9 t => va_P (dC, dI) classes (mo_ws m0 z0 z1 (nI (k + 1)) z3 z4 z5 z6 z7 z8 z9 z10 a0 a1 a2 a3 a4 a5 a6 a7 a8 a9 b0 b1 u9.2.2.2.2 b2 b3 b4 b5 ++ (iw_ws a7 cI 256 u9.1 ++ (iw_ws a8 cI 64 u9.2.1 ++ (iw_ws a9 cI 8 u9.2.2.1 ++ (iw_ws b0 cI 8 kS ++ (iw_ws b1 cI 64 kR ++ (jw_ws a2 cJ 4 u9.2.2.2.1 ++ (jw_ws a0 cJ 1232 (w8 nf (8 * k) (lN K) (lN I) x2 x3 x4 x5 x6 x7) ++ (jw_ws a1 cJ 616 (c4 cf (4 * k) (lkw [cf (4 * (k - 1) + 0), cf (4 * (k - 1) + 1), cf (4 * (k - 1) + 2), cf (4 * (k - 1) + 3), lN K, lN I, x2, x3, x4]))))))))))) t.heap ∧ va_K (dC, dI) classes [(cJ, .long), (cI, .int)] t ∧ va_D (va_A (mo_ws m0 z0 z1 (nI k) z3 z4 z5 z6 z7 z8 z9 z10 a0 a1 a2 a3 a4 a5 a6 a7 a8 a9 b0 b1 oc b2 b3 b4 b5 ++ (iw_ws a7 cI 256 bf ++ (iw_ws a8 cI 64 sc ++ (iw_ws a9 cI 8 st ++ (iw_ws b0 cI 8 kS ++ (iw_ws b1 cI 64 kR ++ (jw_ws a2 cJ 4 tf ++ (jw_ws a0 cJ 1232 nf ++ (jw_ws a1 cJ 616 cf))))))))) sz) (mo_ws m0 z0 z1 (nI (k + 1)) z3 z4 z5 z6 z7 z8 z9 z10 a0 a1 a2 a3 a4 a5 a6 a7 a8 a9 b0 b1 u9.2.2.2.2 b2 b3 b4 b5 ++ (iw_ws a7 cI 256 u9.1 ++ (iw_ws a8 cI 64 u9.2.1 ++ (iw_ws a9 cI 8 u9.2.2.1 ++ (iw_ws b0 cI 8 kS ++ (iw_ws b1 cI 64 kR ++ (jw_ws a2 cJ 4 u9.2.2.2.1 ++ (jw_ws a0 cJ 1232 (w8 nf (8 * k) (lN K) (lN I) x2 x3 x4 x5 x6 x7) ++ (jw_ws a1 cJ 616 (c4 cf (4 * k) (lkw [cf (4 * (k - 1) + 0), cf (4 * (k - 1) + 1), cf (4 * (k - 1) + 2), cf (4 * (k - 1) + 3), lN K, lN I, x2, x3, x4])))))))))))) (va_A (mo_ws m0 z0 z1 (nI k) z3 z4 z5 z6 z7 z8 z9 z10 a0 a1 a2 a3 a4 a5 a6 a7 a8 a9 b0 b1 oc b2 b3 b4 b5 ++ (iw_ws a7 cI 256 bf ++ (iw_ws a8 cI 64 sc ++ (iw_ws a9 cI 8 st ++ (iw_ws b0 cI 8 kS ++ (iw_ws b1 cI 64 kR ++ (jw_ws a2 cJ 4 tf ++ (jw_ws a0 cJ 1232 nf ++ (jw_ws a1 cJ 616 cf))))))))) sz)) 0 0 (va_A (mo_ws m0 z0 z1 (nI k) z3 z4 z5 z6 z7 z8 z9 z10 a0 a1 a2 a3 a4 a5 a6 a7 a8 a9 b0 b1 oc b2 b3 b4 b5 ++ (iw_ws a7 cI 256 bf ++ (iw_ws a8 cI 64 sc ++ (iw_ws a9 cI 8 st ++ (iw_ws b0 cI 8 kS ++ (iw_ws b1 cI 64 kR ++ (jw_ws a2 cJ 4 tf ++ (jw_ws a0 cJ 1232 nf ++ (jw_ws a1 cJ 616 cf))))))))) sz) := by
  refine Met.ofW (cc := b_Bm_post) (maxL := 17) (ret := (some .int)) (by decide) rfl ?_
  intro p e s m args below meth c s₁ Bd hml hv
  obtain ⟨rfl, hsz, hP, hK, hD0⟩ := hv
  have hx := Bd.exec
  have hb := Bd.bytes
  have hr := Bd.returns
  have hts := atoms_spec (ws := w_Bm_post) Bd.pre
  have hown : s.vm.findClass "BallotBoardModel" = some m.cls := findClass_of_methodNamed Bd.named
  have hlocks := Bd.notSynchronized
  subst hsz
  have hD := hD0.self (sz := s.heap.size)
  generalize hAe : va_A (mo_ws m0 z0 z1 (nI k) z3 z4 z5 z6 z7 z8 z9 z10 a0 a1 a2 a3 a4 a5 a6 a7 a8 a9 b0 b1 oc b2 b3 b4 b5 ++ (iw_ws a7 cI 256 bf ++ (iw_ws a8 cI 64 sc ++ (iw_ws a9 cI 8 st ++ (iw_ws b0 cI 8 kS ++ (iw_ws b1 cI 64 kR ++ (jw_ws a2 cJ 4 tf ++ (jw_ws a0 cJ 1232 nf ++ (jw_ws a1 cJ 616 cf))))))))) s.heap.size = A at hD ⊢
  have hA : ∀ q : Nat, s.heap.size ≤ q → A q := fun q h => by rw [← hAe]; exact Or.inr h
  have hS : va_S A s.heap s.heap [] := va_S.rf
  have hl := lv_entry ([.ref m0, .int (nI K), .int (nI I), .long x2, .long x3, .long x4, .long x5, .long x6, .long x7]) (n := 17) (Nat.le_of_ble_eq_true rfl)
  rw [lg_entry_eq]
  generalize (lg_sl ([.ref m0, .int (nI K), .int (nI I), .long x2, .long x3, .long x4, .long x5, .long x6, .long x7]) ++ List.replicate (17 - (lg_sl ([.ref m0, .int (nI K), .int (nI I), .long x2, .long x3, .long x4, .long x5, .long x6, .long x7])).length) Slot.unset).toArray = ls at hl ⊢
  have hl : lv_has ls 17 [(0, .ref m0), (1, .int (nI K)), (2, .int (nI I)), (3, .long x2), (5, .long x3), (7, .long x4), (9, .long x5), (11, .long x6), (13, .long x7)] := hl
  refine lv_bipush (v := 8) hx hb d_Bm_post_0 (by decide) ?_
  refine lv_aload_n hx hb d_Bm_post_2 rfl (lv_at hl 0 rfl) ?_
  refine va_get (D := (dC, dI)) (ci := 8) (v := .int (nI k)) (C := "BallotBoardModel") (T := F_Bm) (N := 28) hx hb hts (fun w9 h9 => List.mem_cons_of_mem _ (i_Bm w9 h9)) hown hK hP 0 rfl rfl 2 (by decide) (hts _ (List.mem_cons_of_mem _ gk_921)) (fun _ h9 => h9) rfl d_Bm_post_3 ?_
  refine lv_imul hx hb d_Bm_post_6 ?_
  rw [show (8 * (nI k) : Int32) = (nI (8 * k)) from pk_mul 8 k]
  refine lv_istore (lv' := [(15, .int (nI (8 * k))), (0, .ref m0), (1, .int (nI K)), (2, .int (nI I)), (3, .long x2), (5, .long x3), (7, .long x4), (9, .long x5), (11, .long x6), (13, .long x7)]) hx hb d_Bm_post_7 hl (by decide) rfl (fun ls hl => ?_)
  refine lv_aload_n hx hb d_Bm_post_9 rfl (lv_at hl 1 rfl) ?_
  refine va_get (D := (dC, dI)) (ci := 8) (v := .ref a0) (C := "BallotBoardModel") (T := F_Bm) (N := 28) hx hb hts (fun w9 h9 => List.mem_cons_of_mem _ (i_Bm w9 h9)) hown hK hP 0 rfl rfl 11 (by decide) (hts _ (List.mem_cons_of_mem _ gk_930)) (fun _ h9 => h9) rfl d_Bm_post_10 ?_
  refine lv_iload hx hb d_Bm_post_13 (lv_at hl 0 rfl) ?_
  refine lv_iload_n hx hb d_Bm_post_15 rfl (lv_at hl 2 rfl) ?_
  refine lv_i2l (v := (nI K : Int32).toInt64) hx hb d_Bm_post_16 rfl ?_
  rw [show ((nI K : Int32).toInt64 : Int64) = (lN K) from nI_l (by omega)]
  refine va_last hx hb hK hP hD hS 7 0 rfl rfl (vp_in_nI (by omega) (by omega)) d_Bm_post_17 (fun H locs hP hD hS => ?_)
  have hfe : vp_updL nf (nI (8 * k) : Int32).toNatClampNeg (lN K) = vp_updL nf (8 * k) (lN K) := by rw [nI_clamp (by omega)]
  have hP : va_P (dC, dI) classes [(m0, .inr (8, [.int z0, .int z1, .int (nI k), .int z3, .long z4, .long z5, .long z6, .long z7, .long z8, .long z9, .int z10, .ref a0, .ref a1, .ref a2, .ref a3, .ref a4, .ref a5, .ref a6, .ref a7, .ref a8, .ref a9, .ref b0, .ref b1, .int (nI oc), .ref b2, .ref b3, .ref b4, .ref b5])), (a7, .inl (cI, 256, .inl bf)), (a8, .inl (cI, 64, .inl sc)), (a9, .inl (cI, 8, .inl st)), (b0, .inl (cI, 8, .inl kS)), (b1, .inl (cI, 64, .inl kR)), (a2, .inl (cJ, 4, .inr (.inl tf))), (a0, .inl (cJ, 1232, .inr (.inl (vp_updL nf (nI (8 * k) : Int32).toNatClampNeg (lN K))))), (a1, .inl (cJ, 616, .inr (.inl cf)))] H := hP
  have hD : va_D A [(m0, .inr (8, [.int z0, .int z1, .int (nI k), .int z3, .long z4, .long z5, .long z6, .long z7, .long z8, .long z9, .int z10, .ref a0, .ref a1, .ref a2, .ref a3, .ref a4, .ref a5, .ref a6, .ref a7, .ref a8, .ref a9, .ref b0, .ref b1, .int (nI oc), .ref b2, .ref b3, .ref b4, .ref b5])), (a7, .inl (cI, 256, .inl bf)), (a8, .inl (cI, 64, .inl sc)), (a9, .inl (cI, 8, .inl st)), (b0, .inl (cI, 8, .inl kS)), (b1, .inl (cI, 64, .inl kR)), (a2, .inl (cJ, 4, .inr (.inl tf))), (a0, .inl (cJ, 1232, .inr (.inl (vp_updL nf (nI (8 * k) : Int32).toNatClampNeg (lN K))))), (a1, .inl (cJ, 616, .inr (.inl cf)))] := hD
  rw [hfe] at hP hD
  refine lv_aload_n hx hb d_Bm_post_18 rfl (lv_at hl 1 rfl) ?_
  refine va_get (D := (dC, dI)) (ci := 8) (v := .ref a0) (C := "BallotBoardModel") (T := F_Bm) (N := 28) hx hb hts (fun w9 h9 => List.mem_cons_of_mem _ (i_Bm w9 h9)) hown hK hP 0 rfl rfl 11 (by decide) (hts _ (List.mem_cons_of_mem _ gk_930)) (fun _ h9 => h9) rfl d_Bm_post_19 ?_
  refine lv_iload hx hb d_Bm_post_22 (lv_at hl 0 rfl) ?_
  refine lv_iconst (v := 1) hx hb d_Bm_post_24 (by decide) ?_
  refine lv_iadd hx hb d_Bm_post_25 ?_
  rw [show ((nI (8 * k)) + 1 : Int32) = (nI (8 * k + 1)) from nI_add _ 1]
  refine lv_iload_n hx hb d_Bm_post_26 rfl (lv_at hl 3 rfl) ?_
  refine lv_i2l (v := (nI I : Int32).toInt64) hx hb d_Bm_post_27 rfl ?_
  rw [show ((nI I : Int32).toInt64 : Int64) = (lN I) from nI_l hI]
  refine va_last hx hb hK hP hD hS 7 0 rfl rfl (vp_in_nI (by omega) (by omega)) d_Bm_post_28 (fun H locs hP hD hS => ?_)
  have hfe : vp_updL (vp_updL nf (8 * k) (lN K)) (nI (8 * k + 1) : Int32).toNatClampNeg (lN I) = vp_updL (vp_updL nf (8 * k) (lN K)) (8 * k + 1) (lN I) := by rw [nI_clamp (by omega)]
  have hP : va_P (dC, dI) classes [(m0, .inr (8, [.int z0, .int z1, .int (nI k), .int z3, .long z4, .long z5, .long z6, .long z7, .long z8, .long z9, .int z10, .ref a0, .ref a1, .ref a2, .ref a3, .ref a4, .ref a5, .ref a6, .ref a7, .ref a8, .ref a9, .ref b0, .ref b1, .int (nI oc), .ref b2, .ref b3, .ref b4, .ref b5])), (a7, .inl (cI, 256, .inl bf)), (a8, .inl (cI, 64, .inl sc)), (a9, .inl (cI, 8, .inl st)), (b0, .inl (cI, 8, .inl kS)), (b1, .inl (cI, 64, .inl kR)), (a2, .inl (cJ, 4, .inr (.inl tf))), (a0, .inl (cJ, 1232, .inr (.inl (vp_updL (vp_updL nf (8 * k) (lN K)) (nI (8 * k + 1) : Int32).toNatClampNeg (lN I))))), (a1, .inl (cJ, 616, .inr (.inl cf)))] H := hP
  have hD : va_D A [(m0, .inr (8, [.int z0, .int z1, .int (nI k), .int z3, .long z4, .long z5, .long z6, .long z7, .long z8, .long z9, .int z10, .ref a0, .ref a1, .ref a2, .ref a3, .ref a4, .ref a5, .ref a6, .ref a7, .ref a8, .ref a9, .ref b0, .ref b1, .int (nI oc), .ref b2, .ref b3, .ref b4, .ref b5])), (a7, .inl (cI, 256, .inl bf)), (a8, .inl (cI, 64, .inl sc)), (a9, .inl (cI, 8, .inl st)), (b0, .inl (cI, 8, .inl kS)), (b1, .inl (cI, 64, .inl kR)), (a2, .inl (cJ, 4, .inr (.inl tf))), (a0, .inl (cJ, 1232, .inr (.inl (vp_updL (vp_updL nf (8 * k) (lN K)) (nI (8 * k + 1) : Int32).toNatClampNeg (lN I))))), (a1, .inl (cJ, 616, .inr (.inl cf)))] := hD
  rw [hfe] at hP hD
  refine lv_aload_n hx hb d_Bm_post_29 rfl (lv_at hl 1 rfl) ?_
  refine va_get (D := (dC, dI)) (ci := 8) (v := .ref a0) (C := "BallotBoardModel") (T := F_Bm) (N := 28) hx hb hts (fun w9 h9 => List.mem_cons_of_mem _ (i_Bm w9 h9)) hown hK hP 0 rfl rfl 11 (by decide) (hts _ (List.mem_cons_of_mem _ gk_930)) (fun _ h9 => h9) rfl d_Bm_post_30 ?_
  refine lv_iload hx hb d_Bm_post_33 (lv_at hl 0 rfl) ?_
  refine lv_iconst (v := 2) hx hb d_Bm_post_35 (by decide) ?_
  refine lv_iadd hx hb d_Bm_post_36 ?_
  rw [show ((nI (8 * k)) + 2 : Int32) = (nI (8 * k + 2)) from nI_add _ 2]
  refine lv_lload_n hx hb d_Bm_post_37 rfl (lv_at hl 4 rfl) ?_
  refine va_last hx hb hK hP hD hS 7 0 rfl rfl (vp_in_nI (by omega) (by omega)) d_Bm_post_38 (fun H locs hP hD hS => ?_)
  have hfe : vp_updL (vp_updL (vp_updL nf (8 * k) (lN K)) (8 * k + 1) (lN I)) (nI (8 * k + 2) : Int32).toNatClampNeg x2 = vp_updL (vp_updL (vp_updL nf (8 * k) (lN K)) (8 * k + 1) (lN I)) (8 * k + 2) x2 := by rw [nI_clamp (by omega)]
  have hP : va_P (dC, dI) classes [(m0, .inr (8, [.int z0, .int z1, .int (nI k), .int z3, .long z4, .long z5, .long z6, .long z7, .long z8, .long z9, .int z10, .ref a0, .ref a1, .ref a2, .ref a3, .ref a4, .ref a5, .ref a6, .ref a7, .ref a8, .ref a9, .ref b0, .ref b1, .int (nI oc), .ref b2, .ref b3, .ref b4, .ref b5])), (a7, .inl (cI, 256, .inl bf)), (a8, .inl (cI, 64, .inl sc)), (a9, .inl (cI, 8, .inl st)), (b0, .inl (cI, 8, .inl kS)), (b1, .inl (cI, 64, .inl kR)), (a2, .inl (cJ, 4, .inr (.inl tf))), (a0, .inl (cJ, 1232, .inr (.inl (vp_updL (vp_updL (vp_updL nf (8 * k) (lN K)) (8 * k + 1) (lN I)) (nI (8 * k + 2) : Int32).toNatClampNeg x2)))), (a1, .inl (cJ, 616, .inr (.inl cf)))] H := hP
  have hD : va_D A [(m0, .inr (8, [.int z0, .int z1, .int (nI k), .int z3, .long z4, .long z5, .long z6, .long z7, .long z8, .long z9, .int z10, .ref a0, .ref a1, .ref a2, .ref a3, .ref a4, .ref a5, .ref a6, .ref a7, .ref a8, .ref a9, .ref b0, .ref b1, .int (nI oc), .ref b2, .ref b3, .ref b4, .ref b5])), (a7, .inl (cI, 256, .inl bf)), (a8, .inl (cI, 64, .inl sc)), (a9, .inl (cI, 8, .inl st)), (b0, .inl (cI, 8, .inl kS)), (b1, .inl (cI, 64, .inl kR)), (a2, .inl (cJ, 4, .inr (.inl tf))), (a0, .inl (cJ, 1232, .inr (.inl (vp_updL (vp_updL (vp_updL nf (8 * k) (lN K)) (8 * k + 1) (lN I)) (nI (8 * k + 2) : Int32).toNatClampNeg x2)))), (a1, .inl (cJ, 616, .inr (.inl cf)))] := hD
  rw [hfe] at hP hD
  refine lv_aload_n hx hb d_Bm_post_39 rfl (lv_at hl 1 rfl) ?_
  refine va_get (D := (dC, dI)) (ci := 8) (v := .ref a0) (C := "BallotBoardModel") (T := F_Bm) (N := 28) hx hb hts (fun w9 h9 => List.mem_cons_of_mem _ (i_Bm w9 h9)) hown hK hP 0 rfl rfl 11 (by decide) (hts _ (List.mem_cons_of_mem _ gk_930)) (fun _ h9 => h9) rfl d_Bm_post_40 ?_
  refine lv_iload hx hb d_Bm_post_43 (lv_at hl 0 rfl) ?_
  refine lv_iconst (v := 3) hx hb d_Bm_post_45 (by decide) ?_
  refine lv_iadd hx hb d_Bm_post_46 ?_
  rw [show ((nI (8 * k)) + 3 : Int32) = (nI (8 * k + 3)) from nI_add _ 3]
  refine lv_lload hx hb d_Bm_post_47 (lv_at hl 5 rfl) ?_
  refine va_last hx hb hK hP hD hS 7 0 rfl rfl (vp_in_nI (by omega) (by omega)) d_Bm_post_49 (fun H locs hP hD hS => ?_)
  have hfe : vp_updL (vp_updL (vp_updL (vp_updL nf (8 * k) (lN K)) (8 * k + 1) (lN I)) (8 * k + 2) x2) (nI (8 * k + 3) : Int32).toNatClampNeg x3 = vp_updL (vp_updL (vp_updL (vp_updL nf (8 * k) (lN K)) (8 * k + 1) (lN I)) (8 * k + 2) x2) (8 * k + 3) x3 := by rw [nI_clamp (by omega)]
  have hP : va_P (dC, dI) classes [(m0, .inr (8, [.int z0, .int z1, .int (nI k), .int z3, .long z4, .long z5, .long z6, .long z7, .long z8, .long z9, .int z10, .ref a0, .ref a1, .ref a2, .ref a3, .ref a4, .ref a5, .ref a6, .ref a7, .ref a8, .ref a9, .ref b0, .ref b1, .int (nI oc), .ref b2, .ref b3, .ref b4, .ref b5])), (a7, .inl (cI, 256, .inl bf)), (a8, .inl (cI, 64, .inl sc)), (a9, .inl (cI, 8, .inl st)), (b0, .inl (cI, 8, .inl kS)), (b1, .inl (cI, 64, .inl kR)), (a2, .inl (cJ, 4, .inr (.inl tf))), (a0, .inl (cJ, 1232, .inr (.inl (vp_updL (vp_updL (vp_updL (vp_updL nf (8 * k) (lN K)) (8 * k + 1) (lN I)) (8 * k + 2) x2) (nI (8 * k + 3) : Int32).toNatClampNeg x3)))), (a1, .inl (cJ, 616, .inr (.inl cf)))] H := hP
  have hD : va_D A [(m0, .inr (8, [.int z0, .int z1, .int (nI k), .int z3, .long z4, .long z5, .long z6, .long z7, .long z8, .long z9, .int z10, .ref a0, .ref a1, .ref a2, .ref a3, .ref a4, .ref a5, .ref a6, .ref a7, .ref a8, .ref a9, .ref b0, .ref b1, .int (nI oc), .ref b2, .ref b3, .ref b4, .ref b5])), (a7, .inl (cI, 256, .inl bf)), (a8, .inl (cI, 64, .inl sc)), (a9, .inl (cI, 8, .inl st)), (b0, .inl (cI, 8, .inl kS)), (b1, .inl (cI, 64, .inl kR)), (a2, .inl (cJ, 4, .inr (.inl tf))), (a0, .inl (cJ, 1232, .inr (.inl (vp_updL (vp_updL (vp_updL (vp_updL nf (8 * k) (lN K)) (8 * k + 1) (lN I)) (8 * k + 2) x2) (nI (8 * k + 3) : Int32).toNatClampNeg x3)))), (a1, .inl (cJ, 616, .inr (.inl cf)))] := hD
  rw [hfe] at hP hD
  refine lv_aload_n hx hb d_Bm_post_50 rfl (lv_at hl 1 rfl) ?_
  refine va_get (D := (dC, dI)) (ci := 8) (v := .ref a0) (C := "BallotBoardModel") (T := F_Bm) (N := 28) hx hb hts (fun w9 h9 => List.mem_cons_of_mem _ (i_Bm w9 h9)) hown hK hP 0 rfl rfl 11 (by decide) (hts _ (List.mem_cons_of_mem _ gk_930)) (fun _ h9 => h9) rfl d_Bm_post_51 ?_
  refine lv_iload hx hb d_Bm_post_54 (lv_at hl 0 rfl) ?_
  refine lv_iconst (v := 4) hx hb d_Bm_post_56 (by decide) ?_
  refine lv_iadd hx hb d_Bm_post_57 ?_
  rw [show ((nI (8 * k)) + 4 : Int32) = (nI (8 * k + 4)) from nI_add _ 4]
  refine lv_lload hx hb d_Bm_post_58 (lv_at hl 6 rfl) ?_
  refine va_last hx hb hK hP hD hS 7 0 rfl rfl (vp_in_nI (by omega) (by omega)) d_Bm_post_60 (fun H locs hP hD hS => ?_)
  have hfe : vp_updL (vp_updL (vp_updL (vp_updL (vp_updL nf (8 * k) (lN K)) (8 * k + 1) (lN I)) (8 * k + 2) x2) (8 * k + 3) x3) (nI (8 * k + 4) : Int32).toNatClampNeg x4 = vp_updL (vp_updL (vp_updL (vp_updL (vp_updL nf (8 * k) (lN K)) (8 * k + 1) (lN I)) (8 * k + 2) x2) (8 * k + 3) x3) (8 * k + 4) x4 := by rw [nI_clamp (by omega)]
  have hP : va_P (dC, dI) classes [(m0, .inr (8, [.int z0, .int z1, .int (nI k), .int z3, .long z4, .long z5, .long z6, .long z7, .long z8, .long z9, .int z10, .ref a0, .ref a1, .ref a2, .ref a3, .ref a4, .ref a5, .ref a6, .ref a7, .ref a8, .ref a9, .ref b0, .ref b1, .int (nI oc), .ref b2, .ref b3, .ref b4, .ref b5])), (a7, .inl (cI, 256, .inl bf)), (a8, .inl (cI, 64, .inl sc)), (a9, .inl (cI, 8, .inl st)), (b0, .inl (cI, 8, .inl kS)), (b1, .inl (cI, 64, .inl kR)), (a2, .inl (cJ, 4, .inr (.inl tf))), (a0, .inl (cJ, 1232, .inr (.inl (vp_updL (vp_updL (vp_updL (vp_updL (vp_updL nf (8 * k) (lN K)) (8 * k + 1) (lN I)) (8 * k + 2) x2) (8 * k + 3) x3) (nI (8 * k + 4) : Int32).toNatClampNeg x4)))), (a1, .inl (cJ, 616, .inr (.inl cf)))] H := hP
  have hD : va_D A [(m0, .inr (8, [.int z0, .int z1, .int (nI k), .int z3, .long z4, .long z5, .long z6, .long z7, .long z8, .long z9, .int z10, .ref a0, .ref a1, .ref a2, .ref a3, .ref a4, .ref a5, .ref a6, .ref a7, .ref a8, .ref a9, .ref b0, .ref b1, .int (nI oc), .ref b2, .ref b3, .ref b4, .ref b5])), (a7, .inl (cI, 256, .inl bf)), (a8, .inl (cI, 64, .inl sc)), (a9, .inl (cI, 8, .inl st)), (b0, .inl (cI, 8, .inl kS)), (b1, .inl (cI, 64, .inl kR)), (a2, .inl (cJ, 4, .inr (.inl tf))), (a0, .inl (cJ, 1232, .inr (.inl (vp_updL (vp_updL (vp_updL (vp_updL (vp_updL nf (8 * k) (lN K)) (8 * k + 1) (lN I)) (8 * k + 2) x2) (8 * k + 3) x3) (nI (8 * k + 4) : Int32).toNatClampNeg x4)))), (a1, .inl (cJ, 616, .inr (.inl cf)))] := hD
  rw [hfe] at hP hD
  refine lv_aload_n hx hb d_Bm_post_61 rfl (lv_at hl 1 rfl) ?_
  refine va_get (D := (dC, dI)) (ci := 8) (v := .ref a0) (C := "BallotBoardModel") (T := F_Bm) (N := 28) hx hb hts (fun w9 h9 => List.mem_cons_of_mem _ (i_Bm w9 h9)) hown hK hP 0 rfl rfl 11 (by decide) (hts _ (List.mem_cons_of_mem _ gk_930)) (fun _ h9 => h9) rfl d_Bm_post_62 ?_
  refine lv_iload hx hb d_Bm_post_65 (lv_at hl 0 rfl) ?_
  refine lv_iconst (v := 5) hx hb d_Bm_post_67 (by decide) ?_
  refine lv_iadd hx hb d_Bm_post_68 ?_
  rw [show ((nI (8 * k)) + 5 : Int32) = (nI (8 * k + 5)) from nI_add _ 5]
  refine lv_lload hx hb d_Bm_post_69 (lv_at hl 7 rfl) ?_
  refine va_last hx hb hK hP hD hS 7 0 rfl rfl (vp_in_nI (by omega) (by omega)) d_Bm_post_71 (fun H locs hP hD hS => ?_)
  have hfe : vp_updL (vp_updL (vp_updL (vp_updL (vp_updL (vp_updL nf (8 * k) (lN K)) (8 * k + 1) (lN I)) (8 * k + 2) x2) (8 * k + 3) x3) (8 * k + 4) x4) (nI (8 * k + 5) : Int32).toNatClampNeg x5 = vp_updL (vp_updL (vp_updL (vp_updL (vp_updL (vp_updL nf (8 * k) (lN K)) (8 * k + 1) (lN I)) (8 * k + 2) x2) (8 * k + 3) x3) (8 * k + 4) x4) (8 * k + 5) x5 := by rw [nI_clamp (by omega)]
  have hP : va_P (dC, dI) classes [(m0, .inr (8, [.int z0, .int z1, .int (nI k), .int z3, .long z4, .long z5, .long z6, .long z7, .long z8, .long z9, .int z10, .ref a0, .ref a1, .ref a2, .ref a3, .ref a4, .ref a5, .ref a6, .ref a7, .ref a8, .ref a9, .ref b0, .ref b1, .int (nI oc), .ref b2, .ref b3, .ref b4, .ref b5])), (a7, .inl (cI, 256, .inl bf)), (a8, .inl (cI, 64, .inl sc)), (a9, .inl (cI, 8, .inl st)), (b0, .inl (cI, 8, .inl kS)), (b1, .inl (cI, 64, .inl kR)), (a2, .inl (cJ, 4, .inr (.inl tf))), (a0, .inl (cJ, 1232, .inr (.inl (vp_updL (vp_updL (vp_updL (vp_updL (vp_updL (vp_updL nf (8 * k) (lN K)) (8 * k + 1) (lN I)) (8 * k + 2) x2) (8 * k + 3) x3) (8 * k + 4) x4) (nI (8 * k + 5) : Int32).toNatClampNeg x5)))), (a1, .inl (cJ, 616, .inr (.inl cf)))] H := hP
  have hD : va_D A [(m0, .inr (8, [.int z0, .int z1, .int (nI k), .int z3, .long z4, .long z5, .long z6, .long z7, .long z8, .long z9, .int z10, .ref a0, .ref a1, .ref a2, .ref a3, .ref a4, .ref a5, .ref a6, .ref a7, .ref a8, .ref a9, .ref b0, .ref b1, .int (nI oc), .ref b2, .ref b3, .ref b4, .ref b5])), (a7, .inl (cI, 256, .inl bf)), (a8, .inl (cI, 64, .inl sc)), (a9, .inl (cI, 8, .inl st)), (b0, .inl (cI, 8, .inl kS)), (b1, .inl (cI, 64, .inl kR)), (a2, .inl (cJ, 4, .inr (.inl tf))), (a0, .inl (cJ, 1232, .inr (.inl (vp_updL (vp_updL (vp_updL (vp_updL (vp_updL (vp_updL nf (8 * k) (lN K)) (8 * k + 1) (lN I)) (8 * k + 2) x2) (8 * k + 3) x3) (8 * k + 4) x4) (nI (8 * k + 5) : Int32).toNatClampNeg x5)))), (a1, .inl (cJ, 616, .inr (.inl cf)))] := hD
  rw [hfe] at hP hD
  refine lv_aload_n hx hb d_Bm_post_72 rfl (lv_at hl 1 rfl) ?_
  refine va_get (D := (dC, dI)) (ci := 8) (v := .ref a0) (C := "BallotBoardModel") (T := F_Bm) (N := 28) hx hb hts (fun w9 h9 => List.mem_cons_of_mem _ (i_Bm w9 h9)) hown hK hP 0 rfl rfl 11 (by decide) (hts _ (List.mem_cons_of_mem _ gk_930)) (fun _ h9 => h9) rfl d_Bm_post_73 ?_
  refine lv_iload hx hb d_Bm_post_76 (lv_at hl 0 rfl) ?_
  refine lv_bipush (v := 6) hx hb d_Bm_post_78 (by decide) ?_
  refine lv_iadd hx hb d_Bm_post_80 ?_
  rw [show ((nI (8 * k)) + 6 : Int32) = (nI (8 * k + 6)) from nI_add _ 6]
  refine lv_lload hx hb d_Bm_post_81 (lv_at hl 8 rfl) ?_
  refine va_last hx hb hK hP hD hS 7 0 rfl rfl (vp_in_nI (by omega) (by omega)) d_Bm_post_83 (fun H locs hP hD hS => ?_)
  have hfe : vp_updL (vp_updL (vp_updL (vp_updL (vp_updL (vp_updL (vp_updL nf (8 * k) (lN K)) (8 * k + 1) (lN I)) (8 * k + 2) x2) (8 * k + 3) x3) (8 * k + 4) x4) (8 * k + 5) x5) (nI (8 * k + 6) : Int32).toNatClampNeg x6 = vp_updL (vp_updL (vp_updL (vp_updL (vp_updL (vp_updL (vp_updL nf (8 * k) (lN K)) (8 * k + 1) (lN I)) (8 * k + 2) x2) (8 * k + 3) x3) (8 * k + 4) x4) (8 * k + 5) x5) (8 * k + 6) x6 := by rw [nI_clamp (by omega)]
  have hP : va_P (dC, dI) classes [(m0, .inr (8, [.int z0, .int z1, .int (nI k), .int z3, .long z4, .long z5, .long z6, .long z7, .long z8, .long z9, .int z10, .ref a0, .ref a1, .ref a2, .ref a3, .ref a4, .ref a5, .ref a6, .ref a7, .ref a8, .ref a9, .ref b0, .ref b1, .int (nI oc), .ref b2, .ref b3, .ref b4, .ref b5])), (a7, .inl (cI, 256, .inl bf)), (a8, .inl (cI, 64, .inl sc)), (a9, .inl (cI, 8, .inl st)), (b0, .inl (cI, 8, .inl kS)), (b1, .inl (cI, 64, .inl kR)), (a2, .inl (cJ, 4, .inr (.inl tf))), (a0, .inl (cJ, 1232, .inr (.inl (vp_updL (vp_updL (vp_updL (vp_updL (vp_updL (vp_updL (vp_updL nf (8 * k) (lN K)) (8 * k + 1) (lN I)) (8 * k + 2) x2) (8 * k + 3) x3) (8 * k + 4) x4) (8 * k + 5) x5) (nI (8 * k + 6) : Int32).toNatClampNeg x6)))), (a1, .inl (cJ, 616, .inr (.inl cf)))] H := hP
  have hD : va_D A [(m0, .inr (8, [.int z0, .int z1, .int (nI k), .int z3, .long z4, .long z5, .long z6, .long z7, .long z8, .long z9, .int z10, .ref a0, .ref a1, .ref a2, .ref a3, .ref a4, .ref a5, .ref a6, .ref a7, .ref a8, .ref a9, .ref b0, .ref b1, .int (nI oc), .ref b2, .ref b3, .ref b4, .ref b5])), (a7, .inl (cI, 256, .inl bf)), (a8, .inl (cI, 64, .inl sc)), (a9, .inl (cI, 8, .inl st)), (b0, .inl (cI, 8, .inl kS)), (b1, .inl (cI, 64, .inl kR)), (a2, .inl (cJ, 4, .inr (.inl tf))), (a0, .inl (cJ, 1232, .inr (.inl (vp_updL (vp_updL (vp_updL (vp_updL (vp_updL (vp_updL (vp_updL nf (8 * k) (lN K)) (8 * k + 1) (lN I)) (8 * k + 2) x2) (8 * k + 3) x3) (8 * k + 4) x4) (8 * k + 5) x5) (nI (8 * k + 6) : Int32).toNatClampNeg x6)))), (a1, .inl (cJ, 616, .inr (.inl cf)))] := hD
  rw [hfe] at hP hD
  refine lv_aload_n hx hb d_Bm_post_84 rfl (lv_at hl 1 rfl) ?_
  refine va_get (D := (dC, dI)) (ci := 8) (v := .ref a0) (C := "BallotBoardModel") (T := F_Bm) (N := 28) hx hb hts (fun w9 h9 => List.mem_cons_of_mem _ (i_Bm w9 h9)) hown hK hP 0 rfl rfl 11 (by decide) (hts _ (List.mem_cons_of_mem _ gk_930)) (fun _ h9 => h9) rfl d_Bm_post_85 ?_
  refine lv_iload hx hb d_Bm_post_88 (lv_at hl 0 rfl) ?_
  refine lv_bipush (v := 7) hx hb d_Bm_post_90 (by decide) ?_
  refine lv_iadd hx hb d_Bm_post_92 ?_
  rw [show ((nI (8 * k)) + 7 : Int32) = (nI (8 * k + 7)) from nI_add _ 7]
  refine lv_lload hx hb d_Bm_post_93 (lv_at hl 9 rfl) ?_
  refine va_last hx hb hK hP hD hS 7 0 rfl rfl (vp_in_nI (by omega) (by omega)) d_Bm_post_95 (fun H locs hP hD hS => ?_)
  have hfe : vp_updL (vp_updL (vp_updL (vp_updL (vp_updL (vp_updL (vp_updL (vp_updL nf (8 * k) (lN K)) (8 * k + 1) (lN I)) (8 * k + 2) x2) (8 * k + 3) x3) (8 * k + 4) x4) (8 * k + 5) x5) (8 * k + 6) x6) (nI (8 * k + 7) : Int32).toNatClampNeg x7 = vp_updL (vp_updL (vp_updL (vp_updL (vp_updL (vp_updL (vp_updL (vp_updL nf (8 * k) (lN K)) (8 * k + 1) (lN I)) (8 * k + 2) x2) (8 * k + 3) x3) (8 * k + 4) x4) (8 * k + 5) x5) (8 * k + 6) x6) (8 * k + 7) x7 := by rw [nI_clamp (by omega)]
  have hP : va_P (dC, dI) classes [(m0, .inr (8, [.int z0, .int z1, .int (nI k), .int z3, .long z4, .long z5, .long z6, .long z7, .long z8, .long z9, .int z10, .ref a0, .ref a1, .ref a2, .ref a3, .ref a4, .ref a5, .ref a6, .ref a7, .ref a8, .ref a9, .ref b0, .ref b1, .int (nI oc), .ref b2, .ref b3, .ref b4, .ref b5])), (a7, .inl (cI, 256, .inl bf)), (a8, .inl (cI, 64, .inl sc)), (a9, .inl (cI, 8, .inl st)), (b0, .inl (cI, 8, .inl kS)), (b1, .inl (cI, 64, .inl kR)), (a2, .inl (cJ, 4, .inr (.inl tf))), (a0, .inl (cJ, 1232, .inr (.inl (vp_updL (vp_updL (vp_updL (vp_updL (vp_updL (vp_updL (vp_updL (vp_updL nf (8 * k) (lN K)) (8 * k + 1) (lN I)) (8 * k + 2) x2) (8 * k + 3) x3) (8 * k + 4) x4) (8 * k + 5) x5) (8 * k + 6) x6) (nI (8 * k + 7) : Int32).toNatClampNeg x7)))), (a1, .inl (cJ, 616, .inr (.inl cf)))] H := hP
  have hD : va_D A [(m0, .inr (8, [.int z0, .int z1, .int (nI k), .int z3, .long z4, .long z5, .long z6, .long z7, .long z8, .long z9, .int z10, .ref a0, .ref a1, .ref a2, .ref a3, .ref a4, .ref a5, .ref a6, .ref a7, .ref a8, .ref a9, .ref b0, .ref b1, .int (nI oc), .ref b2, .ref b3, .ref b4, .ref b5])), (a7, .inl (cI, 256, .inl bf)), (a8, .inl (cI, 64, .inl sc)), (a9, .inl (cI, 8, .inl st)), (b0, .inl (cI, 8, .inl kS)), (b1, .inl (cI, 64, .inl kR)), (a2, .inl (cJ, 4, .inr (.inl tf))), (a0, .inl (cJ, 1232, .inr (.inl (vp_updL (vp_updL (vp_updL (vp_updL (vp_updL (vp_updL (vp_updL (vp_updL nf (8 * k) (lN K)) (8 * k + 1) (lN I)) (8 * k + 2) x2) (8 * k + 3) x3) (8 * k + 4) x4) (8 * k + 5) x5) (8 * k + 6) x6) (nI (8 * k + 7) : Int32).toNatClampNeg x7)))), (a1, .inl (cJ, 616, .inr (.inl cf)))] := hD
  rw [hfe] at hP hD
  have hP : va_P (dC, dI) classes [(m0, .inr (8, [.int z0, .int z1, .int (nI k), .int z3, .long z4, .long z5, .long z6, .long z7, .long z8, .long z9, .int z10, .ref a0, .ref a1, .ref a2, .ref a3, .ref a4, .ref a5, .ref a6, .ref a7, .ref a8, .ref a9, .ref b0, .ref b1, .int (nI oc), .ref b2, .ref b3, .ref b4, .ref b5])), (a7, .inl (cI, 256, .inl bf)), (a8, .inl (cI, 64, .inl sc)), (a9, .inl (cI, 8, .inl st)), (b0, .inl (cI, 8, .inl kS)), (b1, .inl (cI, 64, .inl kR)), (a2, .inl (cJ, 4, .inr (.inl tf))), (a0, .inl (cJ, 1232, .inr (.inl (w8 nf (8 * k) (lN K) (lN I) x2 x3 x4 x5 x6 x7)))), (a1, .inl (cJ, 616, .inr (.inl cf)))] H := hP
  have hD : va_D A [(m0, .inr (8, [.int z0, .int z1, .int (nI k), .int z3, .long z4, .long z5, .long z6, .long z7, .long z8, .long z9, .int z10, .ref a0, .ref a1, .ref a2, .ref a3, .ref a4, .ref a5, .ref a6, .ref a7, .ref a8, .ref a9, .ref b0, .ref b1, .int (nI oc), .ref b2, .ref b3, .ref b4, .ref b5])), (a7, .inl (cI, 256, .inl bf)), (a8, .inl (cI, 64, .inl sc)), (a9, .inl (cI, 8, .inl st)), (b0, .inl (cI, 8, .inl kS)), (b1, .inl (cI, 64, .inl kR)), (a2, .inl (cJ, 4, .inr (.inl tf))), (a0, .inl (cJ, 1232, .inr (.inl (w8 nf (8 * k) (lN K) (lN I) x2 x3 x4 x5 x6 x7)))), (a1, .inl (cJ, 616, .inr (.inl cf)))] := hD
  refine lv_aload_n hx hb d_Bm_post_96 rfl (lv_at hl 1 rfl) ?_
  refine lv_aload_n hx hb d_Bm_post_97 rfl (lv_at hl 1 rfl) ?_
  refine va_get (D := (dC, dI)) (ci := 8) (v := .int (nI k)) (C := "BallotBoardModel") (T := F_Bm) (N := 28) hx hb hts (fun w9 h9 => List.mem_cons_of_mem _ (i_Bm w9 h9)) hown hK hP 0 rfl rfl 2 (by decide) (hts _ (List.mem_cons_of_mem _ gk_921)) (fun _ h9 => h9) rfl d_Bm_post_98 ?_
  have hPc := hP.sub (ws' := (mo_ws m0 z0 z1 (nI k) z3 z4 z5 z6 z7 z8 z9 z10 a0 a1 a2 a3 a4 a5 a6 a7 a8 a9 b0 b1 oc b2 b3 b4 b5 ++ (iw_ws a7 cI 256 bf ++ (iw_ws a8 cI 64 sc ++ (iw_ws a9 cI 8 st ++ (iw_ws b0 cI 8 kS ++ (iw_ws b1 cI 64 kR ++ (jw_ws a2 cJ 4 tf ++ (jw_ws a0 cJ 1232 (w8 nf (8 * k) (lN K) (lN I) x2 x3 x4 x5 x6 x7) ++ (jw_ws a1 cJ 616 cf)))))))))) [0, 1, 2, 3, 4, 5, 6, 7, 8] rfl
  have hDc := hD.sub (ws' := (mo_ws m0 z0 z1 (nI k) z3 z4 z5 z6 z7 z8 z9 z10 a0 a1 a2 a3 a4 a5 a6 a7 a8 a9 b0 b1 oc b2 b3 b4 b5 ++ (iw_ws a7 cI 256 bf ++ (iw_ws a8 cI 64 sc ++ (iw_ws a9 cI 8 st ++ (iw_ws b0 cI 8 kS ++ (iw_ws b1 cI 64 kR ++ (jw_ws a2 cJ 4 tf ++ (jw_ws a0 cJ 1232 (w8 nf (8 * k) (lN K) (lN I) x2 x3 x4 x5 x6 x7) ++ (jw_ws a1 cJ 616 cf)))))))))) [0, 1, 2, 3, 4, 5, 6, 7, 8] (by decide) rfl
  have hKc := hK.sub (tys' := [(cJ, .long), (cI, .int)]) [0, 1] rfl
  have hFc := va_free (wc := (mo_ws m0 z0 z1 (nI k) z3 z4 z5 z6 z7 z8 z9 z10 a0 a1 a2 a3 a4 a5 a6 a7 a8 a9 b0 b1 oc b2 b3 b4 b5 ++ (iw_ws a7 cI 256 bf ++ (iw_ws a8 cI 64 sc ++ (iw_ws a9 cI 8 st ++ (iw_ws b0 cI 8 kS ++ (iw_ws b1 cI 64 kR ++ (jw_ws a2 cJ 4 tf ++ (jw_ws a0 cJ 1232 (w8 nf (8 * k) (lN K) (lN I) x2 x3 x4 x5 x6 x7) ++ (jw_ws a1 cJ 616 cf)))))))))) hD hS hA [0, 1, 2, 3, 4, 5, 6, 7, 8] rfl
  refine va_callv (va_runV (As := [.int (nI k)]) (rest := []) ⟨hx, hb, hml, hown, hts⟩ (c_Bm_link_5 l dC dI cJ cI H.size m0 z0 z1 (nI k) z3 z4 z5 z6 z7 z8 z9 z10 a0 a1 a2 a3 a4 a5 a6 a7 a8 a9 b0 b1 oc b2 b3 b4 b5 bf sc st tf (w8 nf (8 * k) (lN K) (lN I) x2 x3 x4 x5 x6 x7) cf k ([cf (4 * (k - 1) + 0), cf (4 * (k - 1) + 1), cf (4 * (k - 1) + 2), cf (4 * (k - 1) + 3), lN K, lN I, x2, x3, x4]) (by omega) hk0 (by rw [w8_in nf (8 * k) (lN K) (lN I) x2 x3 x4 x5 x6 x7 0 (by omega)]; show ¬ lN K = 2; exact fun h => hK2 (lN_inj (b := 2) (by omega) (by omega) h)) (by
    rw [w8_in nf (8 * k) (lN K) (lN I) x2 x3 x4 x5 x6 x7 0 (by omega), w8_in nf (8 * k) (lN K) (lN I) x2 x3 x4 x5 x6 x7 1 (by omega), w8_in nf (8 * k) (lN K) (lN I) x2 x3 x4 x5 x6 x7 2 (by omega), w8_in nf (8 * k) (lN K) (lN I) x2 x3 x4 x5 x6 x7 3 (by omega), w8_in nf (8 * k) (lN K) (lN I) x2 x3 x4 x5 x6 x7 4 (by omega)]
    rfl)) (cwV 1 hts (gw_V gk_1098 gk_1100 gp_41 gk_7 gk_1101) rfl rfl rfl (by decide +kernel) ⟨Nat.le_of_ble_eq_true rfl, Nat.le_of_ble_eq_true rfl⟩) ⟨fun a U g mk q => by obtain ⟨q0, q1, qP, qK, qD⟩ := q; exact ⟨q0, q1, qP, va_K.moved (u := U) (U := U.calling g mk a) (Vm.Alike.refl U.vm) qK, qD⟩, va_recv hK hP (ci := 8) (q0 := 0) rfl rfl, fun U hU hW => ⟨rfl, by rw [hU], by rw [hU]; exact hPc, va_K.moved hW.alike hKc, hDc.weaken (fun _ _ _ _ => trivial)⟩⟩ rfl rfl hl.1 rfl (lv_room (Nat.le_of_ble_eq_true rfl)) d_Bm_post_101 ⟨Nat.le_of_ble_eq_true rfl, Nat.le_of_ble_eq_true rfl⟩) hS (fun q _ h => hFc q h) hFc (fun u9 t9 H1 locs ht hvm hw hB hz1 hk1 hS => ?_)
  obtain ⟨gbk_1, gsk_1, gtk_1, gfk_1, gok_1⟩ := u9
  have hdg : dgo gtk_1 ([cf (4 * (k - 1) + 0), cf (4 * (k - 1) + 1), cf (4 * (k - 1) + 2), cf (4 * (k - 1) + 3), lN K, lN I, x2, x3, x4]) ∧ ∀ j, j < 4 → gfk_1 j = lkw ([cf (4 * (k - 1) + 0), cf (4 * (k - 1) + 1), cf (4 * (k - 1) + 2), cf (4 * (k - 1) + 3), lN K, lN I, x2, x3, x4]) j := hw
  obtain ⟨hP1, hK1, hD1⟩ := hB
  rw [ht] at hP1
  obtain ⟨hP, hD⟩ := va_join (wr := []) (w1 := [(m0, .inr (8, [.int z0, .int z1, .int (nI k), .int z3, .long z4, .long z5, .long z6, .long z7, .long z8, .long z9, .int z10, .ref a0, .ref a1, .ref a2, .ref a3, .ref a4, .ref a5, .ref a6, .ref a7, .ref a8, .ref a9, .ref b0, .ref b1, .int (nI gok_1), .ref b2, .ref b3, .ref b4, .ref b5])), (a7, .inl (cI, 256, .inl gbk_1)), (a8, .inl (cI, 64, .inl gsk_1)), (a9, .inl (cI, 8, .inl gtk_1)), (b0, .inl (cI, 8, .inl kS)), (b1, .inl (cI, 64, .inl kR)), (a2, .inl (cJ, 4, .inr (.inl gfk_1))), (a0, .inl (cJ, 1232, .inr (.inl (w8 nf (8 * k) (lN K) (lN I) x2 x3 x4 x5 x6 x7)))), (a1, .inl (cJ, 616, .inr (.inl cf)))]) hP hD [0, 1, 2, 3, 4, 5, 6, 7, 8] [] rfl rfl (by decide) (by decide) hk1 hFc hP1 hD1
  have hP := hP.sub (ws' := [(m0, .inr (8, [.int z0, .int z1, .int (nI k), .int z3, .long z4, .long z5, .long z6, .long z7, .long z8, .long z9, .int z10, .ref a0, .ref a1, .ref a2, .ref a3, .ref a4, .ref a5, .ref a6, .ref a7, .ref a8, .ref a9, .ref b0, .ref b1, .int (nI gok_1), .ref b2, .ref b3, .ref b4, .ref b5])), (a7, .inl (cI, 256, .inl gbk_1)), (a8, .inl (cI, 64, .inl gsk_1)), (a9, .inl (cI, 8, .inl gtk_1)), (b0, .inl (cI, 8, .inl kS)), (b1, .inl (cI, 64, .inl kR)), (a2, .inl (cJ, 4, .inr (.inl gfk_1))), (a0, .inl (cJ, 1232, .inr (.inl (w8 nf (8 * k) (lN K) (lN I) x2 x3 x4 x5 x6 x7)))), (a1, .inl (cJ, 616, .inr (.inl cf)))]) [0, 1, 2, 3, 4, 5, 6, 7, 8] rfl
  have hD := hD.sub (ws' := [(m0, .inr (8, [.int z0, .int z1, .int (nI k), .int z3, .long z4, .long z5, .long z6, .long z7, .long z8, .long z9, .int z10, .ref a0, .ref a1, .ref a2, .ref a3, .ref a4, .ref a5, .ref a6, .ref a7, .ref a8, .ref a9, .ref b0, .ref b1, .int (nI gok_1), .ref b2, .ref b3, .ref b4, .ref b5])), (a7, .inl (cI, 256, .inl gbk_1)), (a8, .inl (cI, 64, .inl gsk_1)), (a9, .inl (cI, 8, .inl gtk_1)), (b0, .inl (cI, 8, .inl kS)), (b1, .inl (cI, 64, .inl kR)), (a2, .inl (cJ, 4, .inr (.inl gfk_1))), (a0, .inl (cJ, 1232, .inr (.inl (w8 nf (8 * k) (lN K) (lN I) x2 x3 x4 x5 x6 x7)))), (a1, .inl (cJ, 616, .inr (.inl cf)))]) [0, 1, 2, 3, 4, 5, 6, 7, 8] (by decide) rfl
  generalize H1 = H at hP hS ⊢
  refine lv_iconst (v := 0) hx hb d_Bm_post_104 (by decide) ?_
  refine lv_istore (lv' := [(16, .int 0), (15, .int (nI (8 * k))), (0, .ref m0), (1, .int (nI K)), (2, .int (nI I)), (3, .long x2), (5, .long x3), (7, .long x4), (9, .long x5), (11, .long x6), (13, .long x7)]) hx hb d_Bm_post_105 hl (by decide) rfl (fun ls hl => ?_)
  refine lv_iload hx hb d_Bm_post_107 (lv_at hl 0 rfl) ?_
  refine lv_iconst (v := 4) hx hb d_Bm_post_109 (by decide) ?_
  refine lv_icmp_ge (tgt := 140) hx hb d_Bm_post_110 (by decide) (fun c_3 => ?_) (fun c_3 => ?_)
  · -- taken
    exact absurd c_3 (by decide)
  · -- not taken
    refine lv_aload_n hx hb d_Bm_post_113 rfl (lv_at hl 2 rfl) ?_
    refine va_get (D := (dC, dI)) (ci := 8) (v := .ref a1) (C := "BallotBoardModel") (T := F_Bm) (N := 28) hx hb hts (fun w9 h9 => List.mem_cons_of_mem _ (i_Bm w9 h9)) hown hK hP 0 rfl rfl 12 (by decide) (hts _ (List.mem_cons_of_mem _ gk_931)) (fun _ h9 => h9) rfl d_Bm_post_114 ?_
    refine lv_iconst (v := 4) hx hb d_Bm_post_117 (by decide) ?_
    refine lv_aload_n hx hb d_Bm_post_118 rfl (lv_at hl 2 rfl) ?_
    refine va_get (D := (dC, dI)) (ci := 8) (v := .int (nI k)) (C := "BallotBoardModel") (T := F_Bm) (N := 28) hx hb hts (fun w9 h9 => List.mem_cons_of_mem _ (i_Bm w9 h9)) hown hK hP 0 rfl rfl 2 (by decide) (hts _ (List.mem_cons_of_mem _ gk_921)) (fun _ h9 => h9) rfl d_Bm_post_119 ?_
    refine lv_imul hx hb d_Bm_post_122 ?_
    rw [show (4 * (nI k) : Int32) = (nI (4 * k)) from pk_mul 4 k]
    refine lv_iload hx hb d_Bm_post_123 (lv_at hl 0 rfl) ?_
    refine lv_iadd hx hb d_Bm_post_125 ?_
    rw [show ((nI (4 * k)) + 0 : Int32) = (nI (4 * k + 0)) from nI_add _ 0]
    refine lv_aload_n hx hb d_Bm_post_126 rfl (lv_at hl 2 rfl) ?_
    refine va_get (D := (dC, dI)) (ci := 8) (v := .ref a2) (C := "BallotBoardModel") (T := F_Bm) (N := 28) hx hb hts (fun w9 h9 => List.mem_cons_of_mem _ (i_Bm w9 h9)) hown hK hP 0 rfl rfl 13 (by decide) (hts _ (List.mem_cons_of_mem _ gk_932)) (fun _ h9 => h9) rfl d_Bm_post_127 ?_
    refine lv_iload hx hb d_Bm_post_130 (lv_at hl 0 rfl) ?_
    refine va_lald hx hb hK hP 6 0 rfl rfl (vp_lit rfl) d_Bm_post_132 ?_
    rw [show (gfk_1 (0 : Int32).toNatClampNeg : Int64) = gfk_1 0 from rfl]
    rw [show (gfk_1 0 : Int64) = (lkw [cf (4 * (k - 1) + 0), cf (4 * (k - 1) + 1), cf (4 * (k - 1) + 2), cf (4 * (k - 1) + 3), lN K, lN I, x2, x3, x4] 0) from hdg.2 0 (by omega)]
    refine va_last hx hb hK hP hD hS 8 0 rfl rfl (vp_in_nI (by omega) (by omega)) d_Bm_post_133 (fun H locs hP hD hS => ?_)
    have hfe : vp_updL cf (nI (4 * k + 0) : Int32).toNatClampNeg (lkw [cf (4 * (k - 1) + 0), cf (4 * (k - 1) + 1), cf (4 * (k - 1) + 2), cf (4 * (k - 1) + 3), lN K, lN I, x2, x3, x4] 0) = vp_updL cf (4 * k + 0) (lkw [cf (4 * (k - 1) + 0), cf (4 * (k - 1) + 1), cf (4 * (k - 1) + 2), cf (4 * (k - 1) + 3), lN K, lN I, x2, x3, x4] 0) := by rw [nI_clamp (by omega)]
    have hP : va_P (dC, dI) classes [(m0, .inr (8, [.int z0, .int z1, .int (nI k), .int z3, .long z4, .long z5, .long z6, .long z7, .long z8, .long z9, .int z10, .ref a0, .ref a1, .ref a2, .ref a3, .ref a4, .ref a5, .ref a6, .ref a7, .ref a8, .ref a9, .ref b0, .ref b1, .int (nI gok_1), .ref b2, .ref b3, .ref b4, .ref b5])), (a7, .inl (cI, 256, .inl gbk_1)), (a8, .inl (cI, 64, .inl gsk_1)), (a9, .inl (cI, 8, .inl gtk_1)), (b0, .inl (cI, 8, .inl kS)), (b1, .inl (cI, 64, .inl kR)), (a2, .inl (cJ, 4, .inr (.inl gfk_1))), (a0, .inl (cJ, 1232, .inr (.inl (w8 nf (8 * k) (lN K) (lN I) x2 x3 x4 x5 x6 x7)))), (a1, .inl (cJ, 616, .inr (.inl (vp_updL cf (nI (4 * k + 0) : Int32).toNatClampNeg (lkw [cf (4 * (k - 1) + 0), cf (4 * (k - 1) + 1), cf (4 * (k - 1) + 2), cf (4 * (k - 1) + 3), lN K, lN I, x2, x3, x4] 0)))))] H := hP
    have hD : va_D A [(m0, .inr (8, [.int z0, .int z1, .int (nI k), .int z3, .long z4, .long z5, .long z6, .long z7, .long z8, .long z9, .int z10, .ref a0, .ref a1, .ref a2, .ref a3, .ref a4, .ref a5, .ref a6, .ref a7, .ref a8, .ref a9, .ref b0, .ref b1, .int (nI gok_1), .ref b2, .ref b3, .ref b4, .ref b5])), (a7, .inl (cI, 256, .inl gbk_1)), (a8, .inl (cI, 64, .inl gsk_1)), (a9, .inl (cI, 8, .inl gtk_1)), (b0, .inl (cI, 8, .inl kS)), (b1, .inl (cI, 64, .inl kR)), (a2, .inl (cJ, 4, .inr (.inl gfk_1))), (a0, .inl (cJ, 1232, .inr (.inl (w8 nf (8 * k) (lN K) (lN I) x2 x3 x4 x5 x6 x7)))), (a1, .inl (cJ, 616, .inr (.inl (vp_updL cf (nI (4 * k + 0) : Int32).toNatClampNeg (lkw [cf (4 * (k - 1) + 0), cf (4 * (k - 1) + 1), cf (4 * (k - 1) + 2), cf (4 * (k - 1) + 3), lN K, lN I, x2, x3, x4] 0)))))] := hD
    rw [hfe] at hP hD
    obtain ⟨i_4, ei_4⟩ : ∃ y : Int32, y = 0 + 1 := ⟨_, rfl⟩
    refine lv_iinc (v := i_4) (lv' := [(16, .int i_4), (15, .int (nI (8 * k))), (0, .ref m0), (1, .int (nI K)), (2, .int (nI I)), (3, .long x2), (5, .long x3), (7, .long x4), (9, .long x5), (11, .long x6), (13, .long x7)]) hx hb d_Bm_post_134 hl (k := 0) rfl (by rw [ei_4]; rfl) (by decide) rfl (fun ls hl => ?_)
    obtain rfl : i_4 = 1 := by rw [ei_4]; exact by decide
    refine lv_goto (tgt := 107) hx hb d_Bm_post_137 (by decide) ?_
    refine lv_iload hx hb d_Bm_post_107 (lv_at hl 0 rfl) ?_
    refine lv_iconst (v := 4) hx hb d_Bm_post_109 (by decide) ?_
    refine lv_icmp_ge (tgt := 140) hx hb d_Bm_post_110 (by decide) (fun c_5 => ?_) (fun c_5 => ?_)
    · -- taken
      exact absurd c_5 (by decide)
    · -- not taken
      refine lv_aload_n hx hb d_Bm_post_113 rfl (lv_at hl 2 rfl) ?_
      refine va_get (D := (dC, dI)) (ci := 8) (v := .ref a1) (C := "BallotBoardModel") (T := F_Bm) (N := 28) hx hb hts (fun w9 h9 => List.mem_cons_of_mem _ (i_Bm w9 h9)) hown hK hP 0 rfl rfl 12 (by decide) (hts _ (List.mem_cons_of_mem _ gk_931)) (fun _ h9 => h9) rfl d_Bm_post_114 ?_
      refine lv_iconst (v := 4) hx hb d_Bm_post_117 (by decide) ?_
      refine lv_aload_n hx hb d_Bm_post_118 rfl (lv_at hl 2 rfl) ?_
      refine va_get (D := (dC, dI)) (ci := 8) (v := .int (nI k)) (C := "BallotBoardModel") (T := F_Bm) (N := 28) hx hb hts (fun w9 h9 => List.mem_cons_of_mem _ (i_Bm w9 h9)) hown hK hP 0 rfl rfl 2 (by decide) (hts _ (List.mem_cons_of_mem _ gk_921)) (fun _ h9 => h9) rfl d_Bm_post_119 ?_
      refine lv_imul hx hb d_Bm_post_122 ?_
      rw [show (4 * (nI k) : Int32) = (nI (4 * k)) from pk_mul 4 k]
      refine lv_iload hx hb d_Bm_post_123 (lv_at hl 0 rfl) ?_
      refine lv_iadd hx hb d_Bm_post_125 ?_
      rw [show ((nI (4 * k)) + 1 : Int32) = (nI (4 * k + 1)) from nI_add _ 1]
      refine lv_aload_n hx hb d_Bm_post_126 rfl (lv_at hl 2 rfl) ?_
      refine va_get (D := (dC, dI)) (ci := 8) (v := .ref a2) (C := "BallotBoardModel") (T := F_Bm) (N := 28) hx hb hts (fun w9 h9 => List.mem_cons_of_mem _ (i_Bm w9 h9)) hown hK hP 0 rfl rfl 13 (by decide) (hts _ (List.mem_cons_of_mem _ gk_932)) (fun _ h9 => h9) rfl d_Bm_post_127 ?_
      refine lv_iload hx hb d_Bm_post_130 (lv_at hl 0 rfl) ?_
      refine va_lald hx hb hK hP 6 0 rfl rfl (vp_lit rfl) d_Bm_post_132 ?_
      rw [show (gfk_1 (1 : Int32).toNatClampNeg : Int64) = gfk_1 1 from rfl]
      rw [show (gfk_1 1 : Int64) = (lkw [cf (4 * (k - 1) + 0), cf (4 * (k - 1) + 1), cf (4 * (k - 1) + 2), cf (4 * (k - 1) + 3), lN K, lN I, x2, x3, x4] 1) from hdg.2 1 (by omega)]
      refine va_last hx hb hK hP hD hS 8 0 rfl rfl (vp_in_nI (by omega) (by omega)) d_Bm_post_133 (fun H locs hP hD hS => ?_)
      have hfe : vp_updL (vp_updL cf (4 * k + 0) (lkw [cf (4 * (k - 1) + 0), cf (4 * (k - 1) + 1), cf (4 * (k - 1) + 2), cf (4 * (k - 1) + 3), lN K, lN I, x2, x3, x4] 0)) (nI (4 * k + 1) : Int32).toNatClampNeg (lkw [cf (4 * (k - 1) + 0), cf (4 * (k - 1) + 1), cf (4 * (k - 1) + 2), cf (4 * (k - 1) + 3), lN K, lN I, x2, x3, x4] 1) = vp_updL (vp_updL cf (4 * k + 0) (lkw [cf (4 * (k - 1) + 0), cf (4 * (k - 1) + 1), cf (4 * (k - 1) + 2), cf (4 * (k - 1) + 3), lN K, lN I, x2, x3, x4] 0)) (4 * k + 1) (lkw [cf (4 * (k - 1) + 0), cf (4 * (k - 1) + 1), cf (4 * (k - 1) + 2), cf (4 * (k - 1) + 3), lN K, lN I, x2, x3, x4] 1) := by rw [nI_clamp (by omega)]
      have hP : va_P (dC, dI) classes [(m0, .inr (8, [.int z0, .int z1, .int (nI k), .int z3, .long z4, .long z5, .long z6, .long z7, .long z8, .long z9, .int z10, .ref a0, .ref a1, .ref a2, .ref a3, .ref a4, .ref a5, .ref a6, .ref a7, .ref a8, .ref a9, .ref b0, .ref b1, .int (nI gok_1), .ref b2, .ref b3, .ref b4, .ref b5])), (a7, .inl (cI, 256, .inl gbk_1)), (a8, .inl (cI, 64, .inl gsk_1)), (a9, .inl (cI, 8, .inl gtk_1)), (b0, .inl (cI, 8, .inl kS)), (b1, .inl (cI, 64, .inl kR)), (a2, .inl (cJ, 4, .inr (.inl gfk_1))), (a0, .inl (cJ, 1232, .inr (.inl (w8 nf (8 * k) (lN K) (lN I) x2 x3 x4 x5 x6 x7)))), (a1, .inl (cJ, 616, .inr (.inl (vp_updL (vp_updL cf (4 * k + 0) (lkw [cf (4 * (k - 1) + 0), cf (4 * (k - 1) + 1), cf (4 * (k - 1) + 2), cf (4 * (k - 1) + 3), lN K, lN I, x2, x3, x4] 0)) (nI (4 * k + 1) : Int32).toNatClampNeg (lkw [cf (4 * (k - 1) + 0), cf (4 * (k - 1) + 1), cf (4 * (k - 1) + 2), cf (4 * (k - 1) + 3), lN K, lN I, x2, x3, x4] 1)))))] H := hP
      have hD : va_D A [(m0, .inr (8, [.int z0, .int z1, .int (nI k), .int z3, .long z4, .long z5, .long z6, .long z7, .long z8, .long z9, .int z10, .ref a0, .ref a1, .ref a2, .ref a3, .ref a4, .ref a5, .ref a6, .ref a7, .ref a8, .ref a9, .ref b0, .ref b1, .int (nI gok_1), .ref b2, .ref b3, .ref b4, .ref b5])), (a7, .inl (cI, 256, .inl gbk_1)), (a8, .inl (cI, 64, .inl gsk_1)), (a9, .inl (cI, 8, .inl gtk_1)), (b0, .inl (cI, 8, .inl kS)), (b1, .inl (cI, 64, .inl kR)), (a2, .inl (cJ, 4, .inr (.inl gfk_1))), (a0, .inl (cJ, 1232, .inr (.inl (w8 nf (8 * k) (lN K) (lN I) x2 x3 x4 x5 x6 x7)))), (a1, .inl (cJ, 616, .inr (.inl (vp_updL (vp_updL cf (4 * k + 0) (lkw [cf (4 * (k - 1) + 0), cf (4 * (k - 1) + 1), cf (4 * (k - 1) + 2), cf (4 * (k - 1) + 3), lN K, lN I, x2, x3, x4] 0)) (nI (4 * k + 1) : Int32).toNatClampNeg (lkw [cf (4 * (k - 1) + 0), cf (4 * (k - 1) + 1), cf (4 * (k - 1) + 2), cf (4 * (k - 1) + 3), lN K, lN I, x2, x3, x4] 1)))))] := hD
      rw [hfe] at hP hD
      obtain ⟨i_6, ei_6⟩ : ∃ y : Int32, y = 1 + 1 := ⟨_, rfl⟩
      refine lv_iinc (v := i_6) (lv' := [(16, .int i_6), (15, .int (nI (8 * k))), (0, .ref m0), (1, .int (nI K)), (2, .int (nI I)), (3, .long x2), (5, .long x3), (7, .long x4), (9, .long x5), (11, .long x6), (13, .long x7)]) hx hb d_Bm_post_134 hl (k := 0) rfl (by rw [ei_6]; rfl) (by decide) rfl (fun ls hl => ?_)
      obtain rfl : i_6 = 2 := by rw [ei_6]; exact by decide
      refine lv_goto (tgt := 107) hx hb d_Bm_post_137 (by decide) ?_
      refine lv_iload hx hb d_Bm_post_107 (lv_at hl 0 rfl) ?_
      refine lv_iconst (v := 4) hx hb d_Bm_post_109 (by decide) ?_
      refine lv_icmp_ge (tgt := 140) hx hb d_Bm_post_110 (by decide) (fun c_7 => ?_) (fun c_7 => ?_)
      · -- taken
        exact absurd c_7 (by decide)
      · -- not taken
        refine lv_aload_n hx hb d_Bm_post_113 rfl (lv_at hl 2 rfl) ?_
        refine va_get (D := (dC, dI)) (ci := 8) (v := .ref a1) (C := "BallotBoardModel") (T := F_Bm) (N := 28) hx hb hts (fun w9 h9 => List.mem_cons_of_mem _ (i_Bm w9 h9)) hown hK hP 0 rfl rfl 12 (by decide) (hts _ (List.mem_cons_of_mem _ gk_931)) (fun _ h9 => h9) rfl d_Bm_post_114 ?_
        refine lv_iconst (v := 4) hx hb d_Bm_post_117 (by decide) ?_
        refine lv_aload_n hx hb d_Bm_post_118 rfl (lv_at hl 2 rfl) ?_
        refine va_get (D := (dC, dI)) (ci := 8) (v := .int (nI k)) (C := "BallotBoardModel") (T := F_Bm) (N := 28) hx hb hts (fun w9 h9 => List.mem_cons_of_mem _ (i_Bm w9 h9)) hown hK hP 0 rfl rfl 2 (by decide) (hts _ (List.mem_cons_of_mem _ gk_921)) (fun _ h9 => h9) rfl d_Bm_post_119 ?_
        refine lv_imul hx hb d_Bm_post_122 ?_
        rw [show (4 * (nI k) : Int32) = (nI (4 * k)) from pk_mul 4 k]
        refine lv_iload hx hb d_Bm_post_123 (lv_at hl 0 rfl) ?_
        refine lv_iadd hx hb d_Bm_post_125 ?_
        rw [show ((nI (4 * k)) + 2 : Int32) = (nI (4 * k + 2)) from nI_add _ 2]
        refine lv_aload_n hx hb d_Bm_post_126 rfl (lv_at hl 2 rfl) ?_
        refine va_get (D := (dC, dI)) (ci := 8) (v := .ref a2) (C := "BallotBoardModel") (T := F_Bm) (N := 28) hx hb hts (fun w9 h9 => List.mem_cons_of_mem _ (i_Bm w9 h9)) hown hK hP 0 rfl rfl 13 (by decide) (hts _ (List.mem_cons_of_mem _ gk_932)) (fun _ h9 => h9) rfl d_Bm_post_127 ?_
        refine lv_iload hx hb d_Bm_post_130 (lv_at hl 0 rfl) ?_
        refine va_lald hx hb hK hP 6 0 rfl rfl (vp_lit rfl) d_Bm_post_132 ?_
        rw [show (gfk_1 (2 : Int32).toNatClampNeg : Int64) = gfk_1 2 from rfl]
        rw [show (gfk_1 2 : Int64) = (lkw [cf (4 * (k - 1) + 0), cf (4 * (k - 1) + 1), cf (4 * (k - 1) + 2), cf (4 * (k - 1) + 3), lN K, lN I, x2, x3, x4] 2) from hdg.2 2 (by omega)]
        refine va_last hx hb hK hP hD hS 8 0 rfl rfl (vp_in_nI (by omega) (by omega)) d_Bm_post_133 (fun H locs hP hD hS => ?_)
        have hfe : vp_updL (vp_updL (vp_updL cf (4 * k + 0) (lkw [cf (4 * (k - 1) + 0), cf (4 * (k - 1) + 1), cf (4 * (k - 1) + 2), cf (4 * (k - 1) + 3), lN K, lN I, x2, x3, x4] 0)) (4 * k + 1) (lkw [cf (4 * (k - 1) + 0), cf (4 * (k - 1) + 1), cf (4 * (k - 1) + 2), cf (4 * (k - 1) + 3), lN K, lN I, x2, x3, x4] 1)) (nI (4 * k + 2) : Int32).toNatClampNeg (lkw [cf (4 * (k - 1) + 0), cf (4 * (k - 1) + 1), cf (4 * (k - 1) + 2), cf (4 * (k - 1) + 3), lN K, lN I, x2, x3, x4] 2) = vp_updL (vp_updL (vp_updL cf (4 * k + 0) (lkw [cf (4 * (k - 1) + 0), cf (4 * (k - 1) + 1), cf (4 * (k - 1) + 2), cf (4 * (k - 1) + 3), lN K, lN I, x2, x3, x4] 0)) (4 * k + 1) (lkw [cf (4 * (k - 1) + 0), cf (4 * (k - 1) + 1), cf (4 * (k - 1) + 2), cf (4 * (k - 1) + 3), lN K, lN I, x2, x3, x4] 1)) (4 * k + 2) (lkw [cf (4 * (k - 1) + 0), cf (4 * (k - 1) + 1), cf (4 * (k - 1) + 2), cf (4 * (k - 1) + 3), lN K, lN I, x2, x3, x4] 2) := by rw [nI_clamp (by omega)]
        have hP : va_P (dC, dI) classes [(m0, .inr (8, [.int z0, .int z1, .int (nI k), .int z3, .long z4, .long z5, .long z6, .long z7, .long z8, .long z9, .int z10, .ref a0, .ref a1, .ref a2, .ref a3, .ref a4, .ref a5, .ref a6, .ref a7, .ref a8, .ref a9, .ref b0, .ref b1, .int (nI gok_1), .ref b2, .ref b3, .ref b4, .ref b5])), (a7, .inl (cI, 256, .inl gbk_1)), (a8, .inl (cI, 64, .inl gsk_1)), (a9, .inl (cI, 8, .inl gtk_1)), (b0, .inl (cI, 8, .inl kS)), (b1, .inl (cI, 64, .inl kR)), (a2, .inl (cJ, 4, .inr (.inl gfk_1))), (a0, .inl (cJ, 1232, .inr (.inl (w8 nf (8 * k) (lN K) (lN I) x2 x3 x4 x5 x6 x7)))), (a1, .inl (cJ, 616, .inr (.inl (vp_updL (vp_updL (vp_updL cf (4 * k + 0) (lkw [cf (4 * (k - 1) + 0), cf (4 * (k - 1) + 1), cf (4 * (k - 1) + 2), cf (4 * (k - 1) + 3), lN K, lN I, x2, x3, x4] 0)) (4 * k + 1) (lkw [cf (4 * (k - 1) + 0), cf (4 * (k - 1) + 1), cf (4 * (k - 1) + 2), cf (4 * (k - 1) + 3), lN K, lN I, x2, x3, x4] 1)) (nI (4 * k + 2) : Int32).toNatClampNeg (lkw [cf (4 * (k - 1) + 0), cf (4 * (k - 1) + 1), cf (4 * (k - 1) + 2), cf (4 * (k - 1) + 3), lN K, lN I, x2, x3, x4] 2)))))] H := hP
        have hD : va_D A [(m0, .inr (8, [.int z0, .int z1, .int (nI k), .int z3, .long z4, .long z5, .long z6, .long z7, .long z8, .long z9, .int z10, .ref a0, .ref a1, .ref a2, .ref a3, .ref a4, .ref a5, .ref a6, .ref a7, .ref a8, .ref a9, .ref b0, .ref b1, .int (nI gok_1), .ref b2, .ref b3, .ref b4, .ref b5])), (a7, .inl (cI, 256, .inl gbk_1)), (a8, .inl (cI, 64, .inl gsk_1)), (a9, .inl (cI, 8, .inl gtk_1)), (b0, .inl (cI, 8, .inl kS)), (b1, .inl (cI, 64, .inl kR)), (a2, .inl (cJ, 4, .inr (.inl gfk_1))), (a0, .inl (cJ, 1232, .inr (.inl (w8 nf (8 * k) (lN K) (lN I) x2 x3 x4 x5 x6 x7)))), (a1, .inl (cJ, 616, .inr (.inl (vp_updL (vp_updL (vp_updL cf (4 * k + 0) (lkw [cf (4 * (k - 1) + 0), cf (4 * (k - 1) + 1), cf (4 * (k - 1) + 2), cf (4 * (k - 1) + 3), lN K, lN I, x2, x3, x4] 0)) (4 * k + 1) (lkw [cf (4 * (k - 1) + 0), cf (4 * (k - 1) + 1), cf (4 * (k - 1) + 2), cf (4 * (k - 1) + 3), lN K, lN I, x2, x3, x4] 1)) (nI (4 * k + 2) : Int32).toNatClampNeg (lkw [cf (4 * (k - 1) + 0), cf (4 * (k - 1) + 1), cf (4 * (k - 1) + 2), cf (4 * (k - 1) + 3), lN K, lN I, x2, x3, x4] 2)))))] := hD
        rw [hfe] at hP hD
        obtain ⟨i_8, ei_8⟩ : ∃ y : Int32, y = 2 + 1 := ⟨_, rfl⟩
        refine lv_iinc (v := i_8) (lv' := [(16, .int i_8), (15, .int (nI (8 * k))), (0, .ref m0), (1, .int (nI K)), (2, .int (nI I)), (3, .long x2), (5, .long x3), (7, .long x4), (9, .long x5), (11, .long x6), (13, .long x7)]) hx hb d_Bm_post_134 hl (k := 0) rfl (by rw [ei_8]; rfl) (by decide) rfl (fun ls hl => ?_)
        obtain rfl : i_8 = 3 := by rw [ei_8]; exact by decide
        refine lv_goto (tgt := 107) hx hb d_Bm_post_137 (by decide) ?_
        refine lv_iload hx hb d_Bm_post_107 (lv_at hl 0 rfl) ?_
        refine lv_iconst (v := 4) hx hb d_Bm_post_109 (by decide) ?_
        refine lv_icmp_ge (tgt := 140) hx hb d_Bm_post_110 (by decide) (fun c_9 => ?_) (fun c_9 => ?_)
        · -- taken
          exact absurd c_9 (by decide)
        · -- not taken
          refine lv_aload_n hx hb d_Bm_post_113 rfl (lv_at hl 2 rfl) ?_
          refine va_get (D := (dC, dI)) (ci := 8) (v := .ref a1) (C := "BallotBoardModel") (T := F_Bm) (N := 28) hx hb hts (fun w9 h9 => List.mem_cons_of_mem _ (i_Bm w9 h9)) hown hK hP 0 rfl rfl 12 (by decide) (hts _ (List.mem_cons_of_mem _ gk_931)) (fun _ h9 => h9) rfl d_Bm_post_114 ?_
          refine lv_iconst (v := 4) hx hb d_Bm_post_117 (by decide) ?_
          refine lv_aload_n hx hb d_Bm_post_118 rfl (lv_at hl 2 rfl) ?_
          refine va_get (D := (dC, dI)) (ci := 8) (v := .int (nI k)) (C := "BallotBoardModel") (T := F_Bm) (N := 28) hx hb hts (fun w9 h9 => List.mem_cons_of_mem _ (i_Bm w9 h9)) hown hK hP 0 rfl rfl 2 (by decide) (hts _ (List.mem_cons_of_mem _ gk_921)) (fun _ h9 => h9) rfl d_Bm_post_119 ?_
          refine lv_imul hx hb d_Bm_post_122 ?_
          rw [show (4 * (nI k) : Int32) = (nI (4 * k)) from pk_mul 4 k]
          refine lv_iload hx hb d_Bm_post_123 (lv_at hl 0 rfl) ?_
          refine lv_iadd hx hb d_Bm_post_125 ?_
          rw [show ((nI (4 * k)) + 3 : Int32) = (nI (4 * k + 3)) from nI_add _ 3]
          refine lv_aload_n hx hb d_Bm_post_126 rfl (lv_at hl 2 rfl) ?_
          refine va_get (D := (dC, dI)) (ci := 8) (v := .ref a2) (C := "BallotBoardModel") (T := F_Bm) (N := 28) hx hb hts (fun w9 h9 => List.mem_cons_of_mem _ (i_Bm w9 h9)) hown hK hP 0 rfl rfl 13 (by decide) (hts _ (List.mem_cons_of_mem _ gk_932)) (fun _ h9 => h9) rfl d_Bm_post_127 ?_
          refine lv_iload hx hb d_Bm_post_130 (lv_at hl 0 rfl) ?_
          refine va_lald hx hb hK hP 6 0 rfl rfl (vp_lit rfl) d_Bm_post_132 ?_
          rw [show (gfk_1 (3 : Int32).toNatClampNeg : Int64) = gfk_1 3 from rfl]
          rw [show (gfk_1 3 : Int64) = (lkw [cf (4 * (k - 1) + 0), cf (4 * (k - 1) + 1), cf (4 * (k - 1) + 2), cf (4 * (k - 1) + 3), lN K, lN I, x2, x3, x4] 3) from hdg.2 3 (by omega)]
          refine va_last hx hb hK hP hD hS 8 0 rfl rfl (vp_in_nI (by omega) (by omega)) d_Bm_post_133 (fun H locs hP hD hS => ?_)
          have hfe : vp_updL (vp_updL (vp_updL (vp_updL cf (4 * k + 0) (lkw [cf (4 * (k - 1) + 0), cf (4 * (k - 1) + 1), cf (4 * (k - 1) + 2), cf (4 * (k - 1) + 3), lN K, lN I, x2, x3, x4] 0)) (4 * k + 1) (lkw [cf (4 * (k - 1) + 0), cf (4 * (k - 1) + 1), cf (4 * (k - 1) + 2), cf (4 * (k - 1) + 3), lN K, lN I, x2, x3, x4] 1)) (4 * k + 2) (lkw [cf (4 * (k - 1) + 0), cf (4 * (k - 1) + 1), cf (4 * (k - 1) + 2), cf (4 * (k - 1) + 3), lN K, lN I, x2, x3, x4] 2)) (nI (4 * k + 3) : Int32).toNatClampNeg (lkw [cf (4 * (k - 1) + 0), cf (4 * (k - 1) + 1), cf (4 * (k - 1) + 2), cf (4 * (k - 1) + 3), lN K, lN I, x2, x3, x4] 3) = vp_updL (vp_updL (vp_updL (vp_updL cf (4 * k + 0) (lkw [cf (4 * (k - 1) + 0), cf (4 * (k - 1) + 1), cf (4 * (k - 1) + 2), cf (4 * (k - 1) + 3), lN K, lN I, x2, x3, x4] 0)) (4 * k + 1) (lkw [cf (4 * (k - 1) + 0), cf (4 * (k - 1) + 1), cf (4 * (k - 1) + 2), cf (4 * (k - 1) + 3), lN K, lN I, x2, x3, x4] 1)) (4 * k + 2) (lkw [cf (4 * (k - 1) + 0), cf (4 * (k - 1) + 1), cf (4 * (k - 1) + 2), cf (4 * (k - 1) + 3), lN K, lN I, x2, x3, x4] 2)) (4 * k + 3) (lkw [cf (4 * (k - 1) + 0), cf (4 * (k - 1) + 1), cf (4 * (k - 1) + 2), cf (4 * (k - 1) + 3), lN K, lN I, x2, x3, x4] 3) := by rw [nI_clamp (by omega)]
          have hP : va_P (dC, dI) classes [(m0, .inr (8, [.int z0, .int z1, .int (nI k), .int z3, .long z4, .long z5, .long z6, .long z7, .long z8, .long z9, .int z10, .ref a0, .ref a1, .ref a2, .ref a3, .ref a4, .ref a5, .ref a6, .ref a7, .ref a8, .ref a9, .ref b0, .ref b1, .int (nI gok_1), .ref b2, .ref b3, .ref b4, .ref b5])), (a7, .inl (cI, 256, .inl gbk_1)), (a8, .inl (cI, 64, .inl gsk_1)), (a9, .inl (cI, 8, .inl gtk_1)), (b0, .inl (cI, 8, .inl kS)), (b1, .inl (cI, 64, .inl kR)), (a2, .inl (cJ, 4, .inr (.inl gfk_1))), (a0, .inl (cJ, 1232, .inr (.inl (w8 nf (8 * k) (lN K) (lN I) x2 x3 x4 x5 x6 x7)))), (a1, .inl (cJ, 616, .inr (.inl (vp_updL (vp_updL (vp_updL (vp_updL cf (4 * k + 0) (lkw [cf (4 * (k - 1) + 0), cf (4 * (k - 1) + 1), cf (4 * (k - 1) + 2), cf (4 * (k - 1) + 3), lN K, lN I, x2, x3, x4] 0)) (4 * k + 1) (lkw [cf (4 * (k - 1) + 0), cf (4 * (k - 1) + 1), cf (4 * (k - 1) + 2), cf (4 * (k - 1) + 3), lN K, lN I, x2, x3, x4] 1)) (4 * k + 2) (lkw [cf (4 * (k - 1) + 0), cf (4 * (k - 1) + 1), cf (4 * (k - 1) + 2), cf (4 * (k - 1) + 3), lN K, lN I, x2, x3, x4] 2)) (nI (4 * k + 3) : Int32).toNatClampNeg (lkw [cf (4 * (k - 1) + 0), cf (4 * (k - 1) + 1), cf (4 * (k - 1) + 2), cf (4 * (k - 1) + 3), lN K, lN I, x2, x3, x4] 3)))))] H := hP
          have hD : va_D A [(m0, .inr (8, [.int z0, .int z1, .int (nI k), .int z3, .long z4, .long z5, .long z6, .long z7, .long z8, .long z9, .int z10, .ref a0, .ref a1, .ref a2, .ref a3, .ref a4, .ref a5, .ref a6, .ref a7, .ref a8, .ref a9, .ref b0, .ref b1, .int (nI gok_1), .ref b2, .ref b3, .ref b4, .ref b5])), (a7, .inl (cI, 256, .inl gbk_1)), (a8, .inl (cI, 64, .inl gsk_1)), (a9, .inl (cI, 8, .inl gtk_1)), (b0, .inl (cI, 8, .inl kS)), (b1, .inl (cI, 64, .inl kR)), (a2, .inl (cJ, 4, .inr (.inl gfk_1))), (a0, .inl (cJ, 1232, .inr (.inl (w8 nf (8 * k) (lN K) (lN I) x2 x3 x4 x5 x6 x7)))), (a1, .inl (cJ, 616, .inr (.inl (vp_updL (vp_updL (vp_updL (vp_updL cf (4 * k + 0) (lkw [cf (4 * (k - 1) + 0), cf (4 * (k - 1) + 1), cf (4 * (k - 1) + 2), cf (4 * (k - 1) + 3), lN K, lN I, x2, x3, x4] 0)) (4 * k + 1) (lkw [cf (4 * (k - 1) + 0), cf (4 * (k - 1) + 1), cf (4 * (k - 1) + 2), cf (4 * (k - 1) + 3), lN K, lN I, x2, x3, x4] 1)) (4 * k + 2) (lkw [cf (4 * (k - 1) + 0), cf (4 * (k - 1) + 1), cf (4 * (k - 1) + 2), cf (4 * (k - 1) + 3), lN K, lN I, x2, x3, x4] 2)) (nI (4 * k + 3) : Int32).toNatClampNeg (lkw [cf (4 * (k - 1) + 0), cf (4 * (k - 1) + 1), cf (4 * (k - 1) + 2), cf (4 * (k - 1) + 3), lN K, lN I, x2, x3, x4] 3)))))] := hD
          rw [hfe] at hP hD
          obtain ⟨i_10, ei_10⟩ : ∃ y : Int32, y = 3 + 1 := ⟨_, rfl⟩
          refine lv_iinc (v := i_10) (lv' := [(16, .int i_10), (15, .int (nI (8 * k))), (0, .ref m0), (1, .int (nI K)), (2, .int (nI I)), (3, .long x2), (5, .long x3), (7, .long x4), (9, .long x5), (11, .long x6), (13, .long x7)]) hx hb d_Bm_post_134 hl (k := 0) rfl (by rw [ei_10]; rfl) (by decide) rfl (fun ls hl => ?_)
          obtain rfl : i_10 = 4 := by rw [ei_10]; exact by decide
          refine lv_goto (tgt := 107) hx hb d_Bm_post_137 (by decide) ?_
          refine lv_iload hx hb d_Bm_post_107 (lv_at hl 0 rfl) ?_
          refine lv_iconst (v := 4) hx hb d_Bm_post_109 (by decide) ?_
          refine lv_icmp_ge (tgt := 140) hx hb d_Bm_post_110 (by decide) (fun c_11 => ?_) (fun c_11 => ?_)
          · -- taken
            refine lv_aload_n hx hb d_Bm_post_140 rfl (lv_at hl 2 rfl) ?_
            refine lv_dup hx hb d_Bm_post_141 rfl ?_
            refine va_get (D := (dC, dI)) (ci := 8) (v := .int (nI k)) (C := "BallotBoardModel") (T := F_Bm) (N := 28) hx hb hts (fun w9 h9 => List.mem_cons_of_mem _ (i_Bm w9 h9)) hown hK hP 0 rfl rfl 2 (by decide) (hts _ (List.mem_cons_of_mem _ gk_921)) (fun _ h9 => h9) rfl d_Bm_post_142 ?_
            refine lv_dup_x1 hx hb d_Bm_post_145 rfl rfl ?_
            refine lv_iconst (v := 1) hx hb d_Bm_post_146 (by decide) ?_
            refine lv_iadd hx hb d_Bm_post_147 ?_
            rw [show ((nI k) + 1 : Int32) = (nI (k + 1)) from nI_1 k]
            refine va_put (D := (dC, dI)) (ci := 8) (v := .int (nI (k + 1))) (ty := .int) (C := "BallotBoardModel") (T := F_Bm) (N := 28) hx hb hts (fun w9 h9 => List.mem_cons_of_mem _ (i_Bm w9 h9)) t_Bm t_Bm_ok n_Bm hown hK hP hD hS 0 rfl rfl 2 (by decide) (hts _ (List.mem_cons_of_mem _ gk_921)) (fun _ h9 => h9) rfl (by decide +kernel) rfl rfl (Nat.le_of_ble_eq_true rfl) d_Bm_post_148 (fun H locs hP hD hS => ?_)
            have hP : va_P (dC, dI) classes [(m0, .inr (8, [.int z0, .int z1, .int (nI (k + 1)), .int z3, .long z4, .long z5, .long z6, .long z7, .long z8, .long z9, .int z10, .ref a0, .ref a1, .ref a2, .ref a3, .ref a4, .ref a5, .ref a6, .ref a7, .ref a8, .ref a9, .ref b0, .ref b1, .int (nI gok_1), .ref b2, .ref b3, .ref b4, .ref b5])), (a7, .inl (cI, 256, .inl gbk_1)), (a8, .inl (cI, 64, .inl gsk_1)), (a9, .inl (cI, 8, .inl gtk_1)), (b0, .inl (cI, 8, .inl kS)), (b1, .inl (cI, 64, .inl kR)), (a2, .inl (cJ, 4, .inr (.inl gfk_1))), (a0, .inl (cJ, 1232, .inr (.inl (w8 nf (8 * k) (lN K) (lN I) x2 x3 x4 x5 x6 x7)))), (a1, .inl (cJ, 616, .inr (.inl (vp_updL (vp_updL (vp_updL (vp_updL cf (4 * k + 0) (lkw [cf (4 * (k - 1) + 0), cf (4 * (k - 1) + 1), cf (4 * (k - 1) + 2), cf (4 * (k - 1) + 3), lN K, lN I, x2, x3, x4] 0)) (4 * k + 1) (lkw [cf (4 * (k - 1) + 0), cf (4 * (k - 1) + 1), cf (4 * (k - 1) + 2), cf (4 * (k - 1) + 3), lN K, lN I, x2, x3, x4] 1)) (4 * k + 2) (lkw [cf (4 * (k - 1) + 0), cf (4 * (k - 1) + 1), cf (4 * (k - 1) + 2), cf (4 * (k - 1) + 3), lN K, lN I, x2, x3, x4] 2)) (4 * k + 3) (lkw [cf (4 * (k - 1) + 0), cf (4 * (k - 1) + 1), cf (4 * (k - 1) + 2), cf (4 * (k - 1) + 3), lN K, lN I, x2, x3, x4] 3)))))] H := hP
            have hD : va_D A [(m0, .inr (8, [.int z0, .int z1, .int (nI (k + 1)), .int z3, .long z4, .long z5, .long z6, .long z7, .long z8, .long z9, .int z10, .ref a0, .ref a1, .ref a2, .ref a3, .ref a4, .ref a5, .ref a6, .ref a7, .ref a8, .ref a9, .ref b0, .ref b1, .int (nI gok_1), .ref b2, .ref b3, .ref b4, .ref b5])), (a7, .inl (cI, 256, .inl gbk_1)), (a8, .inl (cI, 64, .inl gsk_1)), (a9, .inl (cI, 8, .inl gtk_1)), (b0, .inl (cI, 8, .inl kS)), (b1, .inl (cI, 64, .inl kR)), (a2, .inl (cJ, 4, .inr (.inl gfk_1))), (a0, .inl (cJ, 1232, .inr (.inl (w8 nf (8 * k) (lN K) (lN I) x2 x3 x4 x5 x6 x7)))), (a1, .inl (cJ, 616, .inr (.inl (vp_updL (vp_updL (vp_updL (vp_updL cf (4 * k + 0) (lkw [cf (4 * (k - 1) + 0), cf (4 * (k - 1) + 1), cf (4 * (k - 1) + 2), cf (4 * (k - 1) + 3), lN K, lN I, x2, x3, x4] 0)) (4 * k + 1) (lkw [cf (4 * (k - 1) + 0), cf (4 * (k - 1) + 1), cf (4 * (k - 1) + 2), cf (4 * (k - 1) + 3), lN K, lN I, x2, x3, x4] 1)) (4 * k + 2) (lkw [cf (4 * (k - 1) + 0), cf (4 * (k - 1) + 1), cf (4 * (k - 1) + 2), cf (4 * (k - 1) + 3), lN K, lN I, x2, x3, x4] 2)) (4 * k + 3) (lkw [cf (4 * (k - 1) + 0), cf (4 * (k - 1) + 1), cf (4 * (k - 1) + 2), cf (4 * (k - 1) + 3), lN K, lN I, x2, x3, x4] 3)))))] := hD
            exact W.iret (v := (nI k)) hx hb hr (fun t ht9 hW => ⟨⟨_, (gbk_1, gsk_1, gtk_1, gfk_1, gok_1), rfl, rfl, by rw [ht9]; exact hP, va_K.moved hW.alike hK, hD⟩, hS.F ht9⟩) hS.2.2 d_Bm_post_151
          · -- not taken
            exact absurd c_11 (by decide)
set_option maxHeartbeats 8000000 in
set_option maxRecDepth 100000 in
theorem c_Bm_post_8 (l : Launch) (dC : Nat → ClassId) (dI : Nat → Nat → Nat) (cJ cI : ClassId) (sz : Nat) (m0 : Nat) (z0 z1 z3 : Int32) (z4 z5 z6 z7 z8 z9 : Int64) (z10 : Int32) (a0 a1 a2 a3 a4 a5 a6 a7 a8 a9 b0 b1 oc b2 b3 b4 b5 : Nat) (bf sc st : Nat → Int32) (tf nf cf : Nat → Int64) (k K I : Nat) (x2 x3 x4 x5 x6 x7 : Int64) (hk : k < 154) (hk0 : 0 < k) (hK4 : K < 4) (hK2 : K = 2) (hI : I < 2 ^ 31) : Met l y_Bm_post w_Bm_post ({ frames := 4, cells := 0, slots := 0, locals := 97 }) (va_Pc [.ref m0, .int (nI K), .int (nI I), .long x2, .long x3, .long x4, .long x5, .long x6, .long x7] (fun U => U.heap.size = sz ∧ va_P (dC, dI) classes (mo_ws m0 z0 z1 (nI k) z3 z4 z5 z6 z7 z8 z9 z10 a0 a1 a2 a3 a4 a5 a6 a7 a8 a9 b0 b1 oc b2 b3 b4 b5 ++ (iw_ws a7 cI 256 bf ++ (iw_ws a8 cI 64 sc ++ (iw_ws a9 cI 8 st ++ (iw_ws b0 cI 8 kS ++ (iw_ws b1 cI 64 kR ++ (jw_ws a2 cJ 4 tf ++ (jw_ws a0 cJ 1232 nf ++ (jw_ws a1 cJ 616 cf))))))))) U.heap ∧ va_K (dC, dI) classes [(cJ, .long), (cI, .int)] U ∧ va_D (fun _ => True) (mo_ws m0 z0 z1 (nI k) z3 z4 z5 z6 z7 z8 z9 z10 a0 a1 a2 a3 a4 a5 a6 a7 a8 a9 b0 b1 oc b2 b3 b4 b5 ++ (iw_ws a7 cI 256 bf ++ (iw_ws a8 cI 64 sc ++ (iw_ws a9 cI 8 st ++ (iw_ws b0 cI 8 kS ++ (iw_ws b1 cI 64 kR ++ (jw_ws a2 cJ 4 tf ++ (jw_ws a0 cJ 1232 nf ++ (jw_ws a1 cJ 616 cf))))))))))) (va_Qi (fun (r : Int32) (u9 : DU) => r = nI k) (fun u9 t => va_P (dC, dI) classes (mo_ws m0 z0 z1 (nI (k + 1)) z3 z4 z5 z6 z7 z8 z9 z10 a0 a1 a2 a3 a4 a5 a6 a7 a8 a9 b0 b1 u9.2.2.2.2 b2 b3 b4 b5 ++ (iw_ws a7 cI 256 u9.1 ++ (iw_ws a8 cI 64 u9.2.1 ++ (iw_ws a9 cI 8 u9.2.2.1 ++ (iw_ws b0 cI 8 kS ++ (iw_ws b1 cI 64 kR ++ (jw_ws a2 cJ 4 u9.2.2.2.1 ++ (jw_ws a0 cJ 1232 (w8 nf (8 * k) (lN K) (lN I) x2 x3 x4 x5 x6 x7) ++ (jw_ws a1 cJ 616 (c4 cf (4 * k) (lkw [cf (4 * (k - 1) + 0), cf (4 * (k - 1) + 1), cf (4 * (k - 1) + 2), cf (4 * (k - 1) + 3), lN K, lN I, x2, x3, x4, x5, x6, x7]))))))))))) t.heap ∧ va_K (dC, dI) classes [(cJ, .long), (cI, .int)] t ∧ va_D (va_A (mo_ws m0 z0 z1 (nI k) z3 z4 z5 z6 z7 z8 z9 z10 a0 a1 a2 a3 a4 a5 a6 a7 a8 a9 b0 b1 oc b2 b3 b4 b5 ++ (iw_ws a7 cI 256 bf ++ (iw_ws a8 cI 64 sc ++ (iw_ws a9 cI 8 st ++ (iw_ws b0 cI 8 kS ++ (iw_ws b1 cI 64 kR ++ (jw_ws a2 cJ 4 tf ++ (jw_ws a0 cJ 1232 nf ++ (jw_ws a1 cJ 616 cf))))))))) sz) (mo_ws m0 z0 z1 (nI (k + 1)) z3 z4 z5 z6 z7 z8 z9 z10 a0 a1 a2 a3 a4 a5 a6 a7 a8 a9 b0 b1 u9.2.2.2.2 b2 b3 b4 b5 ++ (iw_ws a7 cI 256 u9.1 ++ (iw_ws a8 cI 64 u9.2.1 ++ (iw_ws a9 cI 8 u9.2.2.1 ++ (iw_ws b0 cI 8 kS ++ (iw_ws b1 cI 64 kR ++ (jw_ws a2 cJ 4 u9.2.2.2.1 ++ (jw_ws a0 cJ 1232 (w8 nf (8 * k) (lN K) (lN I) x2 x3 x4 x5 x6 x7) ++ (jw_ws a1 cJ 616 (c4 cf (4 * k) (lkw [cf (4 * (k - 1) + 0), cf (4 * (k - 1) + 1), cf (4 * (k - 1) + 2), cf (4 * (k - 1) + 3), lN K, lN I, x2, x3, x4, x5, x6, x7])))))))))))) (va_A (mo_ws m0 z0 z1 (nI k) z3 z4 z5 z6 z7 z8 z9 z10 a0 a1 a2 a3 a4 a5 a6 a7 a8 a9 b0 b1 oc b2 b3 b4 b5 ++ (iw_ws a7 cI 256 bf ++ (iw_ws a8 cI 64 sc ++ (iw_ws a9 cI 8 st ++ (iw_ws b0 cI 8 kS ++ (iw_ws b1 cI 64 kR ++ (jw_ws a2 cJ 4 tf ++ (jw_ws a0 cJ 1232 nf ++ (jw_ws a1 cJ 616 cf))))))))) sz)) 0 0 (va_A (mo_ws m0 z0 z1 (nI k) z3 z4 z5 z6 z7 z8 z9 z10 a0 a1 a2 a3 a4 a5 a6 a7 a8 a9 b0 b1 oc b2 b3 b4 b5 ++ (iw_ws a7 cI 256 bf ++ (iw_ws a8 cI 64 sc ++ (iw_ws a9 cI 8 st ++ (iw_ws b0 cI 8 kS ++ (iw_ws b1 cI 64 kR ++ (jw_ws a2 cJ 4 tf ++ (jw_ws a0 cJ 1232 nf ++ (jw_ws a1 cJ 616 cf))))))))) sz) := by
  refine Met.ofW (cc := b_Bm_post) (maxL := 17) (ret := (some .int)) (by decide) rfl ?_
  intro p e s m args below meth c s₁ Bd hml hv
  obtain ⟨rfl, hsz, hP, hK, hD0⟩ := hv
  have hx := Bd.exec
  have hb := Bd.bytes
  have hr := Bd.returns
  have hts := atoms_spec (ws := w_Bm_post) Bd.pre
  have hown : s.vm.findClass "BallotBoardModel" = some m.cls := findClass_of_methodNamed Bd.named
  have hlocks := Bd.notSynchronized
  subst hsz
  have hD := hD0.self (sz := s.heap.size)
  generalize hAe : va_A (mo_ws m0 z0 z1 (nI k) z3 z4 z5 z6 z7 z8 z9 z10 a0 a1 a2 a3 a4 a5 a6 a7 a8 a9 b0 b1 oc b2 b3 b4 b5 ++ (iw_ws a7 cI 256 bf ++ (iw_ws a8 cI 64 sc ++ (iw_ws a9 cI 8 st ++ (iw_ws b0 cI 8 kS ++ (iw_ws b1 cI 64 kR ++ (jw_ws a2 cJ 4 tf ++ (jw_ws a0 cJ 1232 nf ++ (jw_ws a1 cJ 616 cf))))))))) s.heap.size = A at hD ⊢
  have hA : ∀ q : Nat, s.heap.size ≤ q → A q := fun q h => by rw [← hAe]; exact Or.inr h
  have hS : va_S A s.heap s.heap [] := va_S.rf
  have hl := lv_entry ([.ref m0, .int (nI K), .int (nI I), .long x2, .long x3, .long x4, .long x5, .long x6, .long x7]) (n := 17) (Nat.le_of_ble_eq_true rfl)
  rw [lg_entry_eq]
  generalize (lg_sl ([.ref m0, .int (nI K), .int (nI I), .long x2, .long x3, .long x4, .long x5, .long x6, .long x7]) ++ List.replicate (17 - (lg_sl ([.ref m0, .int (nI K), .int (nI I), .long x2, .long x3, .long x4, .long x5, .long x6, .long x7])).length) Slot.unset).toArray = ls at hl ⊢
  have hl : lv_has ls 17 [(0, .ref m0), (1, .int (nI K)), (2, .int (nI I)), (3, .long x2), (5, .long x3), (7, .long x4), (9, .long x5), (11, .long x6), (13, .long x7)] := hl
  refine lv_bipush (v := 8) hx hb d_Bm_post_0 (by decide) ?_
  refine lv_aload_n hx hb d_Bm_post_2 rfl (lv_at hl 0 rfl) ?_
  refine va_get (D := (dC, dI)) (ci := 8) (v := .int (nI k)) (C := "BallotBoardModel") (T := F_Bm) (N := 28) hx hb hts (fun w9 h9 => List.mem_cons_of_mem _ (i_Bm w9 h9)) hown hK hP 0 rfl rfl 2 (by decide) (hts _ (List.mem_cons_of_mem _ gk_921)) (fun _ h9 => h9) rfl d_Bm_post_3 ?_
  refine lv_imul hx hb d_Bm_post_6 ?_
  rw [show (8 * (nI k) : Int32) = (nI (8 * k)) from pk_mul 8 k]
  refine lv_istore (lv' := [(15, .int (nI (8 * k))), (0, .ref m0), (1, .int (nI K)), (2, .int (nI I)), (3, .long x2), (5, .long x3), (7, .long x4), (9, .long x5), (11, .long x6), (13, .long x7)]) hx hb d_Bm_post_7 hl (by decide) rfl (fun ls hl => ?_)
  refine lv_aload_n hx hb d_Bm_post_9 rfl (lv_at hl 1 rfl) ?_
  refine va_get (D := (dC, dI)) (ci := 8) (v := .ref a0) (C := "BallotBoardModel") (T := F_Bm) (N := 28) hx hb hts (fun w9 h9 => List.mem_cons_of_mem _ (i_Bm w9 h9)) hown hK hP 0 rfl rfl 11 (by decide) (hts _ (List.mem_cons_of_mem _ gk_930)) (fun _ h9 => h9) rfl d_Bm_post_10 ?_
  refine lv_iload hx hb d_Bm_post_13 (lv_at hl 0 rfl) ?_
  refine lv_iload_n hx hb d_Bm_post_15 rfl (lv_at hl 2 rfl) ?_
  refine lv_i2l (v := (nI K : Int32).toInt64) hx hb d_Bm_post_16 rfl ?_
  rw [show ((nI K : Int32).toInt64 : Int64) = (lN K) from nI_l (by omega)]
  refine va_last hx hb hK hP hD hS 7 0 rfl rfl (vp_in_nI (by omega) (by omega)) d_Bm_post_17 (fun H locs hP hD hS => ?_)
  have hfe : vp_updL nf (nI (8 * k) : Int32).toNatClampNeg (lN K) = vp_updL nf (8 * k) (lN K) := by rw [nI_clamp (by omega)]
  have hP : va_P (dC, dI) classes [(m0, .inr (8, [.int z0, .int z1, .int (nI k), .int z3, .long z4, .long z5, .long z6, .long z7, .long z8, .long z9, .int z10, .ref a0, .ref a1, .ref a2, .ref a3, .ref a4, .ref a5, .ref a6, .ref a7, .ref a8, .ref a9, .ref b0, .ref b1, .int (nI oc), .ref b2, .ref b3, .ref b4, .ref b5])), (a7, .inl (cI, 256, .inl bf)), (a8, .inl (cI, 64, .inl sc)), (a9, .inl (cI, 8, .inl st)), (b0, .inl (cI, 8, .inl kS)), (b1, .inl (cI, 64, .inl kR)), (a2, .inl (cJ, 4, .inr (.inl tf))), (a0, .inl (cJ, 1232, .inr (.inl (vp_updL nf (nI (8 * k) : Int32).toNatClampNeg (lN K))))), (a1, .inl (cJ, 616, .inr (.inl cf)))] H := hP
  have hD : va_D A [(m0, .inr (8, [.int z0, .int z1, .int (nI k), .int z3, .long z4, .long z5, .long z6, .long z7, .long z8, .long z9, .int z10, .ref a0, .ref a1, .ref a2, .ref a3, .ref a4, .ref a5, .ref a6, .ref a7, .ref a8, .ref a9, .ref b0, .ref b1, .int (nI oc), .ref b2, .ref b3, .ref b4, .ref b5])), (a7, .inl (cI, 256, .inl bf)), (a8, .inl (cI, 64, .inl sc)), (a9, .inl (cI, 8, .inl st)), (b0, .inl (cI, 8, .inl kS)), (b1, .inl (cI, 64, .inl kR)), (a2, .inl (cJ, 4, .inr (.inl tf))), (a0, .inl (cJ, 1232, .inr (.inl (vp_updL nf (nI (8 * k) : Int32).toNatClampNeg (lN K))))), (a1, .inl (cJ, 616, .inr (.inl cf)))] := hD
  rw [hfe] at hP hD
  refine lv_aload_n hx hb d_Bm_post_18 rfl (lv_at hl 1 rfl) ?_
  refine va_get (D := (dC, dI)) (ci := 8) (v := .ref a0) (C := "BallotBoardModel") (T := F_Bm) (N := 28) hx hb hts (fun w9 h9 => List.mem_cons_of_mem _ (i_Bm w9 h9)) hown hK hP 0 rfl rfl 11 (by decide) (hts _ (List.mem_cons_of_mem _ gk_930)) (fun _ h9 => h9) rfl d_Bm_post_19 ?_
  refine lv_iload hx hb d_Bm_post_22 (lv_at hl 0 rfl) ?_
  refine lv_iconst (v := 1) hx hb d_Bm_post_24 (by decide) ?_
  refine lv_iadd hx hb d_Bm_post_25 ?_
  rw [show ((nI (8 * k)) + 1 : Int32) = (nI (8 * k + 1)) from nI_add _ 1]
  refine lv_iload_n hx hb d_Bm_post_26 rfl (lv_at hl 3 rfl) ?_
  refine lv_i2l (v := (nI I : Int32).toInt64) hx hb d_Bm_post_27 rfl ?_
  rw [show ((nI I : Int32).toInt64 : Int64) = (lN I) from nI_l hI]
  refine va_last hx hb hK hP hD hS 7 0 rfl rfl (vp_in_nI (by omega) (by omega)) d_Bm_post_28 (fun H locs hP hD hS => ?_)
  have hfe : vp_updL (vp_updL nf (8 * k) (lN K)) (nI (8 * k + 1) : Int32).toNatClampNeg (lN I) = vp_updL (vp_updL nf (8 * k) (lN K)) (8 * k + 1) (lN I) := by rw [nI_clamp (by omega)]
  have hP : va_P (dC, dI) classes [(m0, .inr (8, [.int z0, .int z1, .int (nI k), .int z3, .long z4, .long z5, .long z6, .long z7, .long z8, .long z9, .int z10, .ref a0, .ref a1, .ref a2, .ref a3, .ref a4, .ref a5, .ref a6, .ref a7, .ref a8, .ref a9, .ref b0, .ref b1, .int (nI oc), .ref b2, .ref b3, .ref b4, .ref b5])), (a7, .inl (cI, 256, .inl bf)), (a8, .inl (cI, 64, .inl sc)), (a9, .inl (cI, 8, .inl st)), (b0, .inl (cI, 8, .inl kS)), (b1, .inl (cI, 64, .inl kR)), (a2, .inl (cJ, 4, .inr (.inl tf))), (a0, .inl (cJ, 1232, .inr (.inl (vp_updL (vp_updL nf (8 * k) (lN K)) (nI (8 * k + 1) : Int32).toNatClampNeg (lN I))))), (a1, .inl (cJ, 616, .inr (.inl cf)))] H := hP
  have hD : va_D A [(m0, .inr (8, [.int z0, .int z1, .int (nI k), .int z3, .long z4, .long z5, .long z6, .long z7, .long z8, .long z9, .int z10, .ref a0, .ref a1, .ref a2, .ref a3, .ref a4, .ref a5, .ref a6, .ref a7, .ref a8, .ref a9, .ref b0, .ref b1, .int (nI oc), .ref b2, .ref b3, .ref b4, .ref b5])), (a7, .inl (cI, 256, .inl bf)), (a8, .inl (cI, 64, .inl sc)), (a9, .inl (cI, 8, .inl st)), (b0, .inl (cI, 8, .inl kS)), (b1, .inl (cI, 64, .inl kR)), (a2, .inl (cJ, 4, .inr (.inl tf))), (a0, .inl (cJ, 1232, .inr (.inl (vp_updL (vp_updL nf (8 * k) (lN K)) (nI (8 * k + 1) : Int32).toNatClampNeg (lN I))))), (a1, .inl (cJ, 616, .inr (.inl cf)))] := hD
  rw [hfe] at hP hD
  refine lv_aload_n hx hb d_Bm_post_29 rfl (lv_at hl 1 rfl) ?_
  refine va_get (D := (dC, dI)) (ci := 8) (v := .ref a0) (C := "BallotBoardModel") (T := F_Bm) (N := 28) hx hb hts (fun w9 h9 => List.mem_cons_of_mem _ (i_Bm w9 h9)) hown hK hP 0 rfl rfl 11 (by decide) (hts _ (List.mem_cons_of_mem _ gk_930)) (fun _ h9 => h9) rfl d_Bm_post_30 ?_
  refine lv_iload hx hb d_Bm_post_33 (lv_at hl 0 rfl) ?_
  refine lv_iconst (v := 2) hx hb d_Bm_post_35 (by decide) ?_
  refine lv_iadd hx hb d_Bm_post_36 ?_
  rw [show ((nI (8 * k)) + 2 : Int32) = (nI (8 * k + 2)) from nI_add _ 2]
  refine lv_lload_n hx hb d_Bm_post_37 rfl (lv_at hl 4 rfl) ?_
  refine va_last hx hb hK hP hD hS 7 0 rfl rfl (vp_in_nI (by omega) (by omega)) d_Bm_post_38 (fun H locs hP hD hS => ?_)
  have hfe : vp_updL (vp_updL (vp_updL nf (8 * k) (lN K)) (8 * k + 1) (lN I)) (nI (8 * k + 2) : Int32).toNatClampNeg x2 = vp_updL (vp_updL (vp_updL nf (8 * k) (lN K)) (8 * k + 1) (lN I)) (8 * k + 2) x2 := by rw [nI_clamp (by omega)]
  have hP : va_P (dC, dI) classes [(m0, .inr (8, [.int z0, .int z1, .int (nI k), .int z3, .long z4, .long z5, .long z6, .long z7, .long z8, .long z9, .int z10, .ref a0, .ref a1, .ref a2, .ref a3, .ref a4, .ref a5, .ref a6, .ref a7, .ref a8, .ref a9, .ref b0, .ref b1, .int (nI oc), .ref b2, .ref b3, .ref b4, .ref b5])), (a7, .inl (cI, 256, .inl bf)), (a8, .inl (cI, 64, .inl sc)), (a9, .inl (cI, 8, .inl st)), (b0, .inl (cI, 8, .inl kS)), (b1, .inl (cI, 64, .inl kR)), (a2, .inl (cJ, 4, .inr (.inl tf))), (a0, .inl (cJ, 1232, .inr (.inl (vp_updL (vp_updL (vp_updL nf (8 * k) (lN K)) (8 * k + 1) (lN I)) (nI (8 * k + 2) : Int32).toNatClampNeg x2)))), (a1, .inl (cJ, 616, .inr (.inl cf)))] H := hP
  have hD : va_D A [(m0, .inr (8, [.int z0, .int z1, .int (nI k), .int z3, .long z4, .long z5, .long z6, .long z7, .long z8, .long z9, .int z10, .ref a0, .ref a1, .ref a2, .ref a3, .ref a4, .ref a5, .ref a6, .ref a7, .ref a8, .ref a9, .ref b0, .ref b1, .int (nI oc), .ref b2, .ref b3, .ref b4, .ref b5])), (a7, .inl (cI, 256, .inl bf)), (a8, .inl (cI, 64, .inl sc)), (a9, .inl (cI, 8, .inl st)), (b0, .inl (cI, 8, .inl kS)), (b1, .inl (cI, 64, .inl kR)), (a2, .inl (cJ, 4, .inr (.inl tf))), (a0, .inl (cJ, 1232, .inr (.inl (vp_updL (vp_updL (vp_updL nf (8 * k) (lN K)) (8 * k + 1) (lN I)) (nI (8 * k + 2) : Int32).toNatClampNeg x2)))), (a1, .inl (cJ, 616, .inr (.inl cf)))] := hD
  rw [hfe] at hP hD
  refine lv_aload_n hx hb d_Bm_post_39 rfl (lv_at hl 1 rfl) ?_
  refine va_get (D := (dC, dI)) (ci := 8) (v := .ref a0) (C := "BallotBoardModel") (T := F_Bm) (N := 28) hx hb hts (fun w9 h9 => List.mem_cons_of_mem _ (i_Bm w9 h9)) hown hK hP 0 rfl rfl 11 (by decide) (hts _ (List.mem_cons_of_mem _ gk_930)) (fun _ h9 => h9) rfl d_Bm_post_40 ?_
  refine lv_iload hx hb d_Bm_post_43 (lv_at hl 0 rfl) ?_
  refine lv_iconst (v := 3) hx hb d_Bm_post_45 (by decide) ?_
  refine lv_iadd hx hb d_Bm_post_46 ?_
  rw [show ((nI (8 * k)) + 3 : Int32) = (nI (8 * k + 3)) from nI_add _ 3]
  refine lv_lload hx hb d_Bm_post_47 (lv_at hl 5 rfl) ?_
  refine va_last hx hb hK hP hD hS 7 0 rfl rfl (vp_in_nI (by omega) (by omega)) d_Bm_post_49 (fun H locs hP hD hS => ?_)
  have hfe : vp_updL (vp_updL (vp_updL (vp_updL nf (8 * k) (lN K)) (8 * k + 1) (lN I)) (8 * k + 2) x2) (nI (8 * k + 3) : Int32).toNatClampNeg x3 = vp_updL (vp_updL (vp_updL (vp_updL nf (8 * k) (lN K)) (8 * k + 1) (lN I)) (8 * k + 2) x2) (8 * k + 3) x3 := by rw [nI_clamp (by omega)]
  have hP : va_P (dC, dI) classes [(m0, .inr (8, [.int z0, .int z1, .int (nI k), .int z3, .long z4, .long z5, .long z6, .long z7, .long z8, .long z9, .int z10, .ref a0, .ref a1, .ref a2, .ref a3, .ref a4, .ref a5, .ref a6, .ref a7, .ref a8, .ref a9, .ref b0, .ref b1, .int (nI oc), .ref b2, .ref b3, .ref b4, .ref b5])), (a7, .inl (cI, 256, .inl bf)), (a8, .inl (cI, 64, .inl sc)), (a9, .inl (cI, 8, .inl st)), (b0, .inl (cI, 8, .inl kS)), (b1, .inl (cI, 64, .inl kR)), (a2, .inl (cJ, 4, .inr (.inl tf))), (a0, .inl (cJ, 1232, .inr (.inl (vp_updL (vp_updL (vp_updL (vp_updL nf (8 * k) (lN K)) (8 * k + 1) (lN I)) (8 * k + 2) x2) (nI (8 * k + 3) : Int32).toNatClampNeg x3)))), (a1, .inl (cJ, 616, .inr (.inl cf)))] H := hP
  have hD : va_D A [(m0, .inr (8, [.int z0, .int z1, .int (nI k), .int z3, .long z4, .long z5, .long z6, .long z7, .long z8, .long z9, .int z10, .ref a0, .ref a1, .ref a2, .ref a3, .ref a4, .ref a5, .ref a6, .ref a7, .ref a8, .ref a9, .ref b0, .ref b1, .int (nI oc), .ref b2, .ref b3, .ref b4, .ref b5])), (a7, .inl (cI, 256, .inl bf)), (a8, .inl (cI, 64, .inl sc)), (a9, .inl (cI, 8, .inl st)), (b0, .inl (cI, 8, .inl kS)), (b1, .inl (cI, 64, .inl kR)), (a2, .inl (cJ, 4, .inr (.inl tf))), (a0, .inl (cJ, 1232, .inr (.inl (vp_updL (vp_updL (vp_updL (vp_updL nf (8 * k) (lN K)) (8 * k + 1) (lN I)) (8 * k + 2) x2) (nI (8 * k + 3) : Int32).toNatClampNeg x3)))), (a1, .inl (cJ, 616, .inr (.inl cf)))] := hD
  rw [hfe] at hP hD
  refine lv_aload_n hx hb d_Bm_post_50 rfl (lv_at hl 1 rfl) ?_
  refine va_get (D := (dC, dI)) (ci := 8) (v := .ref a0) (C := "BallotBoardModel") (T := F_Bm) (N := 28) hx hb hts (fun w9 h9 => List.mem_cons_of_mem _ (i_Bm w9 h9)) hown hK hP 0 rfl rfl 11 (by decide) (hts _ (List.mem_cons_of_mem _ gk_930)) (fun _ h9 => h9) rfl d_Bm_post_51 ?_
  refine lv_iload hx hb d_Bm_post_54 (lv_at hl 0 rfl) ?_
  refine lv_iconst (v := 4) hx hb d_Bm_post_56 (by decide) ?_
  refine lv_iadd hx hb d_Bm_post_57 ?_
  rw [show ((nI (8 * k)) + 4 : Int32) = (nI (8 * k + 4)) from nI_add _ 4]
  refine lv_lload hx hb d_Bm_post_58 (lv_at hl 6 rfl) ?_
  refine va_last hx hb hK hP hD hS 7 0 rfl rfl (vp_in_nI (by omega) (by omega)) d_Bm_post_60 (fun H locs hP hD hS => ?_)
  have hfe : vp_updL (vp_updL (vp_updL (vp_updL (vp_updL nf (8 * k) (lN K)) (8 * k + 1) (lN I)) (8 * k + 2) x2) (8 * k + 3) x3) (nI (8 * k + 4) : Int32).toNatClampNeg x4 = vp_updL (vp_updL (vp_updL (vp_updL (vp_updL nf (8 * k) (lN K)) (8 * k + 1) (lN I)) (8 * k + 2) x2) (8 * k + 3) x3) (8 * k + 4) x4 := by rw [nI_clamp (by omega)]
  have hP : va_P (dC, dI) classes [(m0, .inr (8, [.int z0, .int z1, .int (nI k), .int z3, .long z4, .long z5, .long z6, .long z7, .long z8, .long z9, .int z10, .ref a0, .ref a1, .ref a2, .ref a3, .ref a4, .ref a5, .ref a6, .ref a7, .ref a8, .ref a9, .ref b0, .ref b1, .int (nI oc), .ref b2, .ref b3, .ref b4, .ref b5])), (a7, .inl (cI, 256, .inl bf)), (a8, .inl (cI, 64, .inl sc)), (a9, .inl (cI, 8, .inl st)), (b0, .inl (cI, 8, .inl kS)), (b1, .inl (cI, 64, .inl kR)), (a2, .inl (cJ, 4, .inr (.inl tf))), (a0, .inl (cJ, 1232, .inr (.inl (vp_updL (vp_updL (vp_updL (vp_updL (vp_updL nf (8 * k) (lN K)) (8 * k + 1) (lN I)) (8 * k + 2) x2) (8 * k + 3) x3) (nI (8 * k + 4) : Int32).toNatClampNeg x4)))), (a1, .inl (cJ, 616, .inr (.inl cf)))] H := hP
  have hD : va_D A [(m0, .inr (8, [.int z0, .int z1, .int (nI k), .int z3, .long z4, .long z5, .long z6, .long z7, .long z8, .long z9, .int z10, .ref a0, .ref a1, .ref a2, .ref a3, .ref a4, .ref a5, .ref a6, .ref a7, .ref a8, .ref a9, .ref b0, .ref b1, .int (nI oc), .ref b2, .ref b3, .ref b4, .ref b5])), (a7, .inl (cI, 256, .inl bf)), (a8, .inl (cI, 64, .inl sc)), (a9, .inl (cI, 8, .inl st)), (b0, .inl (cI, 8, .inl kS)), (b1, .inl (cI, 64, .inl kR)), (a2, .inl (cJ, 4, .inr (.inl tf))), (a0, .inl (cJ, 1232, .inr (.inl (vp_updL (vp_updL (vp_updL (vp_updL (vp_updL nf (8 * k) (lN K)) (8 * k + 1) (lN I)) (8 * k + 2) x2) (8 * k + 3) x3) (nI (8 * k + 4) : Int32).toNatClampNeg x4)))), (a1, .inl (cJ, 616, .inr (.inl cf)))] := hD
  rw [hfe] at hP hD
  refine lv_aload_n hx hb d_Bm_post_61 rfl (lv_at hl 1 rfl) ?_
  refine va_get (D := (dC, dI)) (ci := 8) (v := .ref a0) (C := "BallotBoardModel") (T := F_Bm) (N := 28) hx hb hts (fun w9 h9 => List.mem_cons_of_mem _ (i_Bm w9 h9)) hown hK hP 0 rfl rfl 11 (by decide) (hts _ (List.mem_cons_of_mem _ gk_930)) (fun _ h9 => h9) rfl d_Bm_post_62 ?_
  refine lv_iload hx hb d_Bm_post_65 (lv_at hl 0 rfl) ?_
  refine lv_iconst (v := 5) hx hb d_Bm_post_67 (by decide) ?_
  refine lv_iadd hx hb d_Bm_post_68 ?_
  rw [show ((nI (8 * k)) + 5 : Int32) = (nI (8 * k + 5)) from nI_add _ 5]
  refine lv_lload hx hb d_Bm_post_69 (lv_at hl 7 rfl) ?_
  refine va_last hx hb hK hP hD hS 7 0 rfl rfl (vp_in_nI (by omega) (by omega)) d_Bm_post_71 (fun H locs hP hD hS => ?_)
  have hfe : vp_updL (vp_updL (vp_updL (vp_updL (vp_updL (vp_updL nf (8 * k) (lN K)) (8 * k + 1) (lN I)) (8 * k + 2) x2) (8 * k + 3) x3) (8 * k + 4) x4) (nI (8 * k + 5) : Int32).toNatClampNeg x5 = vp_updL (vp_updL (vp_updL (vp_updL (vp_updL (vp_updL nf (8 * k) (lN K)) (8 * k + 1) (lN I)) (8 * k + 2) x2) (8 * k + 3) x3) (8 * k + 4) x4) (8 * k + 5) x5 := by rw [nI_clamp (by omega)]
  have hP : va_P (dC, dI) classes [(m0, .inr (8, [.int z0, .int z1, .int (nI k), .int z3, .long z4, .long z5, .long z6, .long z7, .long z8, .long z9, .int z10, .ref a0, .ref a1, .ref a2, .ref a3, .ref a4, .ref a5, .ref a6, .ref a7, .ref a8, .ref a9, .ref b0, .ref b1, .int (nI oc), .ref b2, .ref b3, .ref b4, .ref b5])), (a7, .inl (cI, 256, .inl bf)), (a8, .inl (cI, 64, .inl sc)), (a9, .inl (cI, 8, .inl st)), (b0, .inl (cI, 8, .inl kS)), (b1, .inl (cI, 64, .inl kR)), (a2, .inl (cJ, 4, .inr (.inl tf))), (a0, .inl (cJ, 1232, .inr (.inl (vp_updL (vp_updL (vp_updL (vp_updL (vp_updL (vp_updL nf (8 * k) (lN K)) (8 * k + 1) (lN I)) (8 * k + 2) x2) (8 * k + 3) x3) (8 * k + 4) x4) (nI (8 * k + 5) : Int32).toNatClampNeg x5)))), (a1, .inl (cJ, 616, .inr (.inl cf)))] H := hP
  have hD : va_D A [(m0, .inr (8, [.int z0, .int z1, .int (nI k), .int z3, .long z4, .long z5, .long z6, .long z7, .long z8, .long z9, .int z10, .ref a0, .ref a1, .ref a2, .ref a3, .ref a4, .ref a5, .ref a6, .ref a7, .ref a8, .ref a9, .ref b0, .ref b1, .int (nI oc), .ref b2, .ref b3, .ref b4, .ref b5])), (a7, .inl (cI, 256, .inl bf)), (a8, .inl (cI, 64, .inl sc)), (a9, .inl (cI, 8, .inl st)), (b0, .inl (cI, 8, .inl kS)), (b1, .inl (cI, 64, .inl kR)), (a2, .inl (cJ, 4, .inr (.inl tf))), (a0, .inl (cJ, 1232, .inr (.inl (vp_updL (vp_updL (vp_updL (vp_updL (vp_updL (vp_updL nf (8 * k) (lN K)) (8 * k + 1) (lN I)) (8 * k + 2) x2) (8 * k + 3) x3) (8 * k + 4) x4) (nI (8 * k + 5) : Int32).toNatClampNeg x5)))), (a1, .inl (cJ, 616, .inr (.inl cf)))] := hD
  rw [hfe] at hP hD
  refine lv_aload_n hx hb d_Bm_post_72 rfl (lv_at hl 1 rfl) ?_
  refine va_get (D := (dC, dI)) (ci := 8) (v := .ref a0) (C := "BallotBoardModel") (T := F_Bm) (N := 28) hx hb hts (fun w9 h9 => List.mem_cons_of_mem _ (i_Bm w9 h9)) hown hK hP 0 rfl rfl 11 (by decide) (hts _ (List.mem_cons_of_mem _ gk_930)) (fun _ h9 => h9) rfl d_Bm_post_73 ?_
  refine lv_iload hx hb d_Bm_post_76 (lv_at hl 0 rfl) ?_
  refine lv_bipush (v := 6) hx hb d_Bm_post_78 (by decide) ?_
  refine lv_iadd hx hb d_Bm_post_80 ?_
  rw [show ((nI (8 * k)) + 6 : Int32) = (nI (8 * k + 6)) from nI_add _ 6]
  refine lv_lload hx hb d_Bm_post_81 (lv_at hl 8 rfl) ?_
  refine va_last hx hb hK hP hD hS 7 0 rfl rfl (vp_in_nI (by omega) (by omega)) d_Bm_post_83 (fun H locs hP hD hS => ?_)
  have hfe : vp_updL (vp_updL (vp_updL (vp_updL (vp_updL (vp_updL (vp_updL nf (8 * k) (lN K)) (8 * k + 1) (lN I)) (8 * k + 2) x2) (8 * k + 3) x3) (8 * k + 4) x4) (8 * k + 5) x5) (nI (8 * k + 6) : Int32).toNatClampNeg x6 = vp_updL (vp_updL (vp_updL (vp_updL (vp_updL (vp_updL (vp_updL nf (8 * k) (lN K)) (8 * k + 1) (lN I)) (8 * k + 2) x2) (8 * k + 3) x3) (8 * k + 4) x4) (8 * k + 5) x5) (8 * k + 6) x6 := by rw [nI_clamp (by omega)]
  have hP : va_P (dC, dI) classes [(m0, .inr (8, [.int z0, .int z1, .int (nI k), .int z3, .long z4, .long z5, .long z6, .long z7, .long z8, .long z9, .int z10, .ref a0, .ref a1, .ref a2, .ref a3, .ref a4, .ref a5, .ref a6, .ref a7, .ref a8, .ref a9, .ref b0, .ref b1, .int (nI oc), .ref b2, .ref b3, .ref b4, .ref b5])), (a7, .inl (cI, 256, .inl bf)), (a8, .inl (cI, 64, .inl sc)), (a9, .inl (cI, 8, .inl st)), (b0, .inl (cI, 8, .inl kS)), (b1, .inl (cI, 64, .inl kR)), (a2, .inl (cJ, 4, .inr (.inl tf))), (a0, .inl (cJ, 1232, .inr (.inl (vp_updL (vp_updL (vp_updL (vp_updL (vp_updL (vp_updL (vp_updL nf (8 * k) (lN K)) (8 * k + 1) (lN I)) (8 * k + 2) x2) (8 * k + 3) x3) (8 * k + 4) x4) (8 * k + 5) x5) (nI (8 * k + 6) : Int32).toNatClampNeg x6)))), (a1, .inl (cJ, 616, .inr (.inl cf)))] H := hP
  have hD : va_D A [(m0, .inr (8, [.int z0, .int z1, .int (nI k), .int z3, .long z4, .long z5, .long z6, .long z7, .long z8, .long z9, .int z10, .ref a0, .ref a1, .ref a2, .ref a3, .ref a4, .ref a5, .ref a6, .ref a7, .ref a8, .ref a9, .ref b0, .ref b1, .int (nI oc), .ref b2, .ref b3, .ref b4, .ref b5])), (a7, .inl (cI, 256, .inl bf)), (a8, .inl (cI, 64, .inl sc)), (a9, .inl (cI, 8, .inl st)), (b0, .inl (cI, 8, .inl kS)), (b1, .inl (cI, 64, .inl kR)), (a2, .inl (cJ, 4, .inr (.inl tf))), (a0, .inl (cJ, 1232, .inr (.inl (vp_updL (vp_updL (vp_updL (vp_updL (vp_updL (vp_updL (vp_updL nf (8 * k) (lN K)) (8 * k + 1) (lN I)) (8 * k + 2) x2) (8 * k + 3) x3) (8 * k + 4) x4) (8 * k + 5) x5) (nI (8 * k + 6) : Int32).toNatClampNeg x6)))), (a1, .inl (cJ, 616, .inr (.inl cf)))] := hD
  rw [hfe] at hP hD
  refine lv_aload_n hx hb d_Bm_post_84 rfl (lv_at hl 1 rfl) ?_
  refine va_get (D := (dC, dI)) (ci := 8) (v := .ref a0) (C := "BallotBoardModel") (T := F_Bm) (N := 28) hx hb hts (fun w9 h9 => List.mem_cons_of_mem _ (i_Bm w9 h9)) hown hK hP 0 rfl rfl 11 (by decide) (hts _ (List.mem_cons_of_mem _ gk_930)) (fun _ h9 => h9) rfl d_Bm_post_85 ?_
  refine lv_iload hx hb d_Bm_post_88 (lv_at hl 0 rfl) ?_
  refine lv_bipush (v := 7) hx hb d_Bm_post_90 (by decide) ?_
  refine lv_iadd hx hb d_Bm_post_92 ?_
  rw [show ((nI (8 * k)) + 7 : Int32) = (nI (8 * k + 7)) from nI_add _ 7]
  refine lv_lload hx hb d_Bm_post_93 (lv_at hl 9 rfl) ?_
  refine va_last hx hb hK hP hD hS 7 0 rfl rfl (vp_in_nI (by omega) (by omega)) d_Bm_post_95 (fun H locs hP hD hS => ?_)
  have hfe : vp_updL (vp_updL (vp_updL (vp_updL (vp_updL (vp_updL (vp_updL (vp_updL nf (8 * k) (lN K)) (8 * k + 1) (lN I)) (8 * k + 2) x2) (8 * k + 3) x3) (8 * k + 4) x4) (8 * k + 5) x5) (8 * k + 6) x6) (nI (8 * k + 7) : Int32).toNatClampNeg x7 = vp_updL (vp_updL (vp_updL (vp_updL (vp_updL (vp_updL (vp_updL (vp_updL nf (8 * k) (lN K)) (8 * k + 1) (lN I)) (8 * k + 2) x2) (8 * k + 3) x3) (8 * k + 4) x4) (8 * k + 5) x5) (8 * k + 6) x6) (8 * k + 7) x7 := by rw [nI_clamp (by omega)]
  have hP : va_P (dC, dI) classes [(m0, .inr (8, [.int z0, .int z1, .int (nI k), .int z3, .long z4, .long z5, .long z6, .long z7, .long z8, .long z9, .int z10, .ref a0, .ref a1, .ref a2, .ref a3, .ref a4, .ref a5, .ref a6, .ref a7, .ref a8, .ref a9, .ref b0, .ref b1, .int (nI oc), .ref b2, .ref b3, .ref b4, .ref b5])), (a7, .inl (cI, 256, .inl bf)), (a8, .inl (cI, 64, .inl sc)), (a9, .inl (cI, 8, .inl st)), (b0, .inl (cI, 8, .inl kS)), (b1, .inl (cI, 64, .inl kR)), (a2, .inl (cJ, 4, .inr (.inl tf))), (a0, .inl (cJ, 1232, .inr (.inl (vp_updL (vp_updL (vp_updL (vp_updL (vp_updL (vp_updL (vp_updL (vp_updL nf (8 * k) (lN K)) (8 * k + 1) (lN I)) (8 * k + 2) x2) (8 * k + 3) x3) (8 * k + 4) x4) (8 * k + 5) x5) (8 * k + 6) x6) (nI (8 * k + 7) : Int32).toNatClampNeg x7)))), (a1, .inl (cJ, 616, .inr (.inl cf)))] H := hP
  have hD : va_D A [(m0, .inr (8, [.int z0, .int z1, .int (nI k), .int z3, .long z4, .long z5, .long z6, .long z7, .long z8, .long z9, .int z10, .ref a0, .ref a1, .ref a2, .ref a3, .ref a4, .ref a5, .ref a6, .ref a7, .ref a8, .ref a9, .ref b0, .ref b1, .int (nI oc), .ref b2, .ref b3, .ref b4, .ref b5])), (a7, .inl (cI, 256, .inl bf)), (a8, .inl (cI, 64, .inl sc)), (a9, .inl (cI, 8, .inl st)), (b0, .inl (cI, 8, .inl kS)), (b1, .inl (cI, 64, .inl kR)), (a2, .inl (cJ, 4, .inr (.inl tf))), (a0, .inl (cJ, 1232, .inr (.inl (vp_updL (vp_updL (vp_updL (vp_updL (vp_updL (vp_updL (vp_updL (vp_updL nf (8 * k) (lN K)) (8 * k + 1) (lN I)) (8 * k + 2) x2) (8 * k + 3) x3) (8 * k + 4) x4) (8 * k + 5) x5) (8 * k + 6) x6) (nI (8 * k + 7) : Int32).toNatClampNeg x7)))), (a1, .inl (cJ, 616, .inr (.inl cf)))] := hD
  rw [hfe] at hP hD
  have hP : va_P (dC, dI) classes [(m0, .inr (8, [.int z0, .int z1, .int (nI k), .int z3, .long z4, .long z5, .long z6, .long z7, .long z8, .long z9, .int z10, .ref a0, .ref a1, .ref a2, .ref a3, .ref a4, .ref a5, .ref a6, .ref a7, .ref a8, .ref a9, .ref b0, .ref b1, .int (nI oc), .ref b2, .ref b3, .ref b4, .ref b5])), (a7, .inl (cI, 256, .inl bf)), (a8, .inl (cI, 64, .inl sc)), (a9, .inl (cI, 8, .inl st)), (b0, .inl (cI, 8, .inl kS)), (b1, .inl (cI, 64, .inl kR)), (a2, .inl (cJ, 4, .inr (.inl tf))), (a0, .inl (cJ, 1232, .inr (.inl (w8 nf (8 * k) (lN K) (lN I) x2 x3 x4 x5 x6 x7)))), (a1, .inl (cJ, 616, .inr (.inl cf)))] H := hP
  have hD : va_D A [(m0, .inr (8, [.int z0, .int z1, .int (nI k), .int z3, .long z4, .long z5, .long z6, .long z7, .long z8, .long z9, .int z10, .ref a0, .ref a1, .ref a2, .ref a3, .ref a4, .ref a5, .ref a6, .ref a7, .ref a8, .ref a9, .ref b0, .ref b1, .int (nI oc), .ref b2, .ref b3, .ref b4, .ref b5])), (a7, .inl (cI, 256, .inl bf)), (a8, .inl (cI, 64, .inl sc)), (a9, .inl (cI, 8, .inl st)), (b0, .inl (cI, 8, .inl kS)), (b1, .inl (cI, 64, .inl kR)), (a2, .inl (cJ, 4, .inr (.inl tf))), (a0, .inl (cJ, 1232, .inr (.inl (w8 nf (8 * k) (lN K) (lN I) x2 x3 x4 x5 x6 x7)))), (a1, .inl (cJ, 616, .inr (.inl cf)))] := hD
  refine lv_aload_n hx hb d_Bm_post_96 rfl (lv_at hl 1 rfl) ?_
  refine lv_aload_n hx hb d_Bm_post_97 rfl (lv_at hl 1 rfl) ?_
  refine va_get (D := (dC, dI)) (ci := 8) (v := .int (nI k)) (C := "BallotBoardModel") (T := F_Bm) (N := 28) hx hb hts (fun w9 h9 => List.mem_cons_of_mem _ (i_Bm w9 h9)) hown hK hP 0 rfl rfl 2 (by decide) (hts _ (List.mem_cons_of_mem _ gk_921)) (fun _ h9 => h9) rfl d_Bm_post_98 ?_
  have hPc := hP.sub (ws' := (mo_ws m0 z0 z1 (nI k) z3 z4 z5 z6 z7 z8 z9 z10 a0 a1 a2 a3 a4 a5 a6 a7 a8 a9 b0 b1 oc b2 b3 b4 b5 ++ (iw_ws a7 cI 256 bf ++ (iw_ws a8 cI 64 sc ++ (iw_ws a9 cI 8 st ++ (iw_ws b0 cI 8 kS ++ (iw_ws b1 cI 64 kR ++ (jw_ws a2 cJ 4 tf ++ (jw_ws a0 cJ 1232 (w8 nf (8 * k) (lN K) (lN I) x2 x3 x4 x5 x6 x7) ++ (jw_ws a1 cJ 616 cf)))))))))) [0, 1, 2, 3, 4, 5, 6, 7, 8] rfl
  have hDc := hD.sub (ws' := (mo_ws m0 z0 z1 (nI k) z3 z4 z5 z6 z7 z8 z9 z10 a0 a1 a2 a3 a4 a5 a6 a7 a8 a9 b0 b1 oc b2 b3 b4 b5 ++ (iw_ws a7 cI 256 bf ++ (iw_ws a8 cI 64 sc ++ (iw_ws a9 cI 8 st ++ (iw_ws b0 cI 8 kS ++ (iw_ws b1 cI 64 kR ++ (jw_ws a2 cJ 4 tf ++ (jw_ws a0 cJ 1232 (w8 nf (8 * k) (lN K) (lN I) x2 x3 x4 x5 x6 x7) ++ (jw_ws a1 cJ 616 cf)))))))))) [0, 1, 2, 3, 4, 5, 6, 7, 8] (by decide) rfl
  have hKc := hK.sub (tys' := [(cJ, .long), (cI, .int)]) [0, 1] rfl
  have hFc := va_free (wc := (mo_ws m0 z0 z1 (nI k) z3 z4 z5 z6 z7 z8 z9 z10 a0 a1 a2 a3 a4 a5 a6 a7 a8 a9 b0 b1 oc b2 b3 b4 b5 ++ (iw_ws a7 cI 256 bf ++ (iw_ws a8 cI 64 sc ++ (iw_ws a9 cI 8 st ++ (iw_ws b0 cI 8 kS ++ (iw_ws b1 cI 64 kR ++ (jw_ws a2 cJ 4 tf ++ (jw_ws a0 cJ 1232 (w8 nf (8 * k) (lN K) (lN I) x2 x3 x4 x5 x6 x7) ++ (jw_ws a1 cJ 616 cf)))))))))) hD hS hA [0, 1, 2, 3, 4, 5, 6, 7, 8] rfl
  refine va_callv (va_runV (As := [.int (nI k)]) (rest := []) ⟨hx, hb, hml, hown, hts⟩ (c_Bm_link_8 l dC dI cJ cI H.size m0 z0 z1 (nI k) z3 z4 z5 z6 z7 z8 z9 z10 a0 a1 a2 a3 a4 a5 a6 a7 a8 a9 b0 b1 oc b2 b3 b4 b5 bf sc st tf (w8 nf (8 * k) (lN K) (lN I) x2 x3 x4 x5 x6 x7) cf k ([cf (4 * (k - 1) + 0), cf (4 * (k - 1) + 1), cf (4 * (k - 1) + 2), cf (4 * (k - 1) + 3), lN K, lN I, x2, x3, x4, x5, x6, x7]) (by omega) hk0 (by rw [w8_in nf (8 * k) (lN K) (lN I) x2 x3 x4 x5 x6 x7 0 (by omega)]; show lN K = 2; rw [hK2]; rfl) (by
    rw [w8_in nf (8 * k) (lN K) (lN I) x2 x3 x4 x5 x6 x7 0 (by omega), w8_in nf (8 * k) (lN K) (lN I) x2 x3 x4 x5 x6 x7 1 (by omega), w8_in nf (8 * k) (lN K) (lN I) x2 x3 x4 x5 x6 x7 2 (by omega), w8_in nf (8 * k) (lN K) (lN I) x2 x3 x4 x5 x6 x7 3 (by omega), w8_in nf (8 * k) (lN K) (lN I) x2 x3 x4 x5 x6 x7 4 (by omega), w8_in nf (8 * k) (lN K) (lN I) x2 x3 x4 x5 x6 x7 5 (by omega), w8_in nf (8 * k) (lN K) (lN I) x2 x3 x4 x5 x6 x7 6 (by omega), w8_in nf (8 * k) (lN K) (lN I) x2 x3 x4 x5 x6 x7 7 (by omega)]
    rfl)) (cwV 1 hts (gw_V gk_1098 gk_1100 gp_41 gk_7 gk_1101) rfl rfl rfl (by decide +kernel) ⟨Nat.le_of_ble_eq_true rfl, Nat.le_of_ble_eq_true rfl⟩) ⟨fun a U g mk q => by obtain ⟨q0, q1, qP, qK, qD⟩ := q; exact ⟨q0, q1, qP, va_K.moved (u := U) (U := U.calling g mk a) (Vm.Alike.refl U.vm) qK, qD⟩, va_recv hK hP (ci := 8) (q0 := 0) rfl rfl, fun U hU hW => ⟨rfl, by rw [hU], by rw [hU]; exact hPc, va_K.moved hW.alike hKc, hDc.weaken (fun _ _ _ _ => trivial)⟩⟩ rfl rfl hl.1 rfl (lv_room (Nat.le_of_ble_eq_true rfl)) d_Bm_post_101 ⟨Nat.le_of_ble_eq_true rfl, Nat.le_of_ble_eq_true rfl⟩) hS (fun q _ h => hFc q h) hFc (fun u9 t9 H1 locs ht hvm hw hB hz1 hk1 hS => ?_)
  obtain ⟨gbk_1, gsk_1, gtk_1, gfk_1, gok_1⟩ := u9
  have hdg : dgo gtk_1 ([cf (4 * (k - 1) + 0), cf (4 * (k - 1) + 1), cf (4 * (k - 1) + 2), cf (4 * (k - 1) + 3), lN K, lN I, x2, x3, x4, x5, x6, x7]) ∧ ∀ j, j < 4 → gfk_1 j = lkw ([cf (4 * (k - 1) + 0), cf (4 * (k - 1) + 1), cf (4 * (k - 1) + 2), cf (4 * (k - 1) + 3), lN K, lN I, x2, x3, x4, x5, x6, x7]) j := hw
  obtain ⟨hP1, hK1, hD1⟩ := hB
  rw [ht] at hP1
  obtain ⟨hP, hD⟩ := va_join (wr := []) (w1 := [(m0, .inr (8, [.int z0, .int z1, .int (nI k), .int z3, .long z4, .long z5, .long z6, .long z7, .long z8, .long z9, .int z10, .ref a0, .ref a1, .ref a2, .ref a3, .ref a4, .ref a5, .ref a6, .ref a7, .ref a8, .ref a9, .ref b0, .ref b1, .int (nI gok_1), .ref b2, .ref b3, .ref b4, .ref b5])), (a7, .inl (cI, 256, .inl gbk_1)), (a8, .inl (cI, 64, .inl gsk_1)), (a9, .inl (cI, 8, .inl gtk_1)), (b0, .inl (cI, 8, .inl kS)), (b1, .inl (cI, 64, .inl kR)), (a2, .inl (cJ, 4, .inr (.inl gfk_1))), (a0, .inl (cJ, 1232, .inr (.inl (w8 nf (8 * k) (lN K) (lN I) x2 x3 x4 x5 x6 x7)))), (a1, .inl (cJ, 616, .inr (.inl cf)))]) hP hD [0, 1, 2, 3, 4, 5, 6, 7, 8] [] rfl rfl (by decide) (by decide) hk1 hFc hP1 hD1
  have hP := hP.sub (ws' := [(m0, .inr (8, [.int z0, .int z1, .int (nI k), .int z3, .long z4, .long z5, .long z6, .long z7, .long z8, .long z9, .int z10, .ref a0, .ref a1, .ref a2, .ref a3, .ref a4, .ref a5, .ref a6, .ref a7, .ref a8, .ref a9, .ref b0, .ref b1, .int (nI gok_1), .ref b2, .ref b3, .ref b4, .ref b5])), (a7, .inl (cI, 256, .inl gbk_1)), (a8, .inl (cI, 64, .inl gsk_1)), (a9, .inl (cI, 8, .inl gtk_1)), (b0, .inl (cI, 8, .inl kS)), (b1, .inl (cI, 64, .inl kR)), (a2, .inl (cJ, 4, .inr (.inl gfk_1))), (a0, .inl (cJ, 1232, .inr (.inl (w8 nf (8 * k) (lN K) (lN I) x2 x3 x4 x5 x6 x7)))), (a1, .inl (cJ, 616, .inr (.inl cf)))]) [0, 1, 2, 3, 4, 5, 6, 7, 8] rfl
  have hD := hD.sub (ws' := [(m0, .inr (8, [.int z0, .int z1, .int (nI k), .int z3, .long z4, .long z5, .long z6, .long z7, .long z8, .long z9, .int z10, .ref a0, .ref a1, .ref a2, .ref a3, .ref a4, .ref a5, .ref a6, .ref a7, .ref a8, .ref a9, .ref b0, .ref b1, .int (nI gok_1), .ref b2, .ref b3, .ref b4, .ref b5])), (a7, .inl (cI, 256, .inl gbk_1)), (a8, .inl (cI, 64, .inl gsk_1)), (a9, .inl (cI, 8, .inl gtk_1)), (b0, .inl (cI, 8, .inl kS)), (b1, .inl (cI, 64, .inl kR)), (a2, .inl (cJ, 4, .inr (.inl gfk_1))), (a0, .inl (cJ, 1232, .inr (.inl (w8 nf (8 * k) (lN K) (lN I) x2 x3 x4 x5 x6 x7)))), (a1, .inl (cJ, 616, .inr (.inl cf)))]) [0, 1, 2, 3, 4, 5, 6, 7, 8] (by decide) rfl
  generalize H1 = H at hP hS ⊢
  refine lv_iconst (v := 0) hx hb d_Bm_post_104 (by decide) ?_
  refine lv_istore (lv' := [(16, .int 0), (15, .int (nI (8 * k))), (0, .ref m0), (1, .int (nI K)), (2, .int (nI I)), (3, .long x2), (5, .long x3), (7, .long x4), (9, .long x5), (11, .long x6), (13, .long x7)]) hx hb d_Bm_post_105 hl (by decide) rfl (fun ls hl => ?_)
  refine lv_iload hx hb d_Bm_post_107 (lv_at hl 0 rfl) ?_
  refine lv_iconst (v := 4) hx hb d_Bm_post_109 (by decide) ?_
  refine lv_icmp_ge (tgt := 140) hx hb d_Bm_post_110 (by decide) (fun c_3 => ?_) (fun c_3 => ?_)
  · -- taken
    exact absurd c_3 (by decide)
  · -- not taken
    refine lv_aload_n hx hb d_Bm_post_113 rfl (lv_at hl 2 rfl) ?_
    refine va_get (D := (dC, dI)) (ci := 8) (v := .ref a1) (C := "BallotBoardModel") (T := F_Bm) (N := 28) hx hb hts (fun w9 h9 => List.mem_cons_of_mem _ (i_Bm w9 h9)) hown hK hP 0 rfl rfl 12 (by decide) (hts _ (List.mem_cons_of_mem _ gk_931)) (fun _ h9 => h9) rfl d_Bm_post_114 ?_
    refine lv_iconst (v := 4) hx hb d_Bm_post_117 (by decide) ?_
    refine lv_aload_n hx hb d_Bm_post_118 rfl (lv_at hl 2 rfl) ?_
    refine va_get (D := (dC, dI)) (ci := 8) (v := .int (nI k)) (C := "BallotBoardModel") (T := F_Bm) (N := 28) hx hb hts (fun w9 h9 => List.mem_cons_of_mem _ (i_Bm w9 h9)) hown hK hP 0 rfl rfl 2 (by decide) (hts _ (List.mem_cons_of_mem _ gk_921)) (fun _ h9 => h9) rfl d_Bm_post_119 ?_
    refine lv_imul hx hb d_Bm_post_122 ?_
    rw [show (4 * (nI k) : Int32) = (nI (4 * k)) from pk_mul 4 k]
    refine lv_iload hx hb d_Bm_post_123 (lv_at hl 0 rfl) ?_
    refine lv_iadd hx hb d_Bm_post_125 ?_
    rw [show ((nI (4 * k)) + 0 : Int32) = (nI (4 * k + 0)) from nI_add _ 0]
    refine lv_aload_n hx hb d_Bm_post_126 rfl (lv_at hl 2 rfl) ?_
    refine va_get (D := (dC, dI)) (ci := 8) (v := .ref a2) (C := "BallotBoardModel") (T := F_Bm) (N := 28) hx hb hts (fun w9 h9 => List.mem_cons_of_mem _ (i_Bm w9 h9)) hown hK hP 0 rfl rfl 13 (by decide) (hts _ (List.mem_cons_of_mem _ gk_932)) (fun _ h9 => h9) rfl d_Bm_post_127 ?_
    refine lv_iload hx hb d_Bm_post_130 (lv_at hl 0 rfl) ?_
    refine va_lald hx hb hK hP 6 0 rfl rfl (vp_lit rfl) d_Bm_post_132 ?_
    rw [show (gfk_1 (0 : Int32).toNatClampNeg : Int64) = gfk_1 0 from rfl]
    rw [show (gfk_1 0 : Int64) = (lkw [cf (4 * (k - 1) + 0), cf (4 * (k - 1) + 1), cf (4 * (k - 1) + 2), cf (4 * (k - 1) + 3), lN K, lN I, x2, x3, x4, x5, x6, x7] 0) from hdg.2 0 (by omega)]
    refine va_last hx hb hK hP hD hS 8 0 rfl rfl (vp_in_nI (by omega) (by omega)) d_Bm_post_133 (fun H locs hP hD hS => ?_)
    have hfe : vp_updL cf (nI (4 * k + 0) : Int32).toNatClampNeg (lkw [cf (4 * (k - 1) + 0), cf (4 * (k - 1) + 1), cf (4 * (k - 1) + 2), cf (4 * (k - 1) + 3), lN K, lN I, x2, x3, x4, x5, x6, x7] 0) = vp_updL cf (4 * k + 0) (lkw [cf (4 * (k - 1) + 0), cf (4 * (k - 1) + 1), cf (4 * (k - 1) + 2), cf (4 * (k - 1) + 3), lN K, lN I, x2, x3, x4, x5, x6, x7] 0) := by rw [nI_clamp (by omega)]
    have hP : va_P (dC, dI) classes [(m0, .inr (8, [.int z0, .int z1, .int (nI k), .int z3, .long z4, .long z5, .long z6, .long z7, .long z8, .long z9, .int z10, .ref a0, .ref a1, .ref a2, .ref a3, .ref a4, .ref a5, .ref a6, .ref a7, .ref a8, .ref a9, .ref b0, .ref b1, .int (nI gok_1), .ref b2, .ref b3, .ref b4, .ref b5])), (a7, .inl (cI, 256, .inl gbk_1)), (a8, .inl (cI, 64, .inl gsk_1)), (a9, .inl (cI, 8, .inl gtk_1)), (b0, .inl (cI, 8, .inl kS)), (b1, .inl (cI, 64, .inl kR)), (a2, .inl (cJ, 4, .inr (.inl gfk_1))), (a0, .inl (cJ, 1232, .inr (.inl (w8 nf (8 * k) (lN K) (lN I) x2 x3 x4 x5 x6 x7)))), (a1, .inl (cJ, 616, .inr (.inl (vp_updL cf (nI (4 * k + 0) : Int32).toNatClampNeg (lkw [cf (4 * (k - 1) + 0), cf (4 * (k - 1) + 1), cf (4 * (k - 1) + 2), cf (4 * (k - 1) + 3), lN K, lN I, x2, x3, x4, x5, x6, x7] 0)))))] H := hP
    have hD : va_D A [(m0, .inr (8, [.int z0, .int z1, .int (nI k), .int z3, .long z4, .long z5, .long z6, .long z7, .long z8, .long z9, .int z10, .ref a0, .ref a1, .ref a2, .ref a3, .ref a4, .ref a5, .ref a6, .ref a7, .ref a8, .ref a9, .ref b0, .ref b1, .int (nI gok_1), .ref b2, .ref b3, .ref b4, .ref b5])), (a7, .inl (cI, 256, .inl gbk_1)), (a8, .inl (cI, 64, .inl gsk_1)), (a9, .inl (cI, 8, .inl gtk_1)), (b0, .inl (cI, 8, .inl kS)), (b1, .inl (cI, 64, .inl kR)), (a2, .inl (cJ, 4, .inr (.inl gfk_1))), (a0, .inl (cJ, 1232, .inr (.inl (w8 nf (8 * k) (lN K) (lN I) x2 x3 x4 x5 x6 x7)))), (a1, .inl (cJ, 616, .inr (.inl (vp_updL cf (nI (4 * k + 0) : Int32).toNatClampNeg (lkw [cf (4 * (k - 1) + 0), cf (4 * (k - 1) + 1), cf (4 * (k - 1) + 2), cf (4 * (k - 1) + 3), lN K, lN I, x2, x3, x4, x5, x6, x7] 0)))))] := hD
    rw [hfe] at hP hD
    obtain ⟨i_4, ei_4⟩ : ∃ y : Int32, y = 0 + 1 := ⟨_, rfl⟩
    refine lv_iinc (v := i_4) (lv' := [(16, .int i_4), (15, .int (nI (8 * k))), (0, .ref m0), (1, .int (nI K)), (2, .int (nI I)), (3, .long x2), (5, .long x3), (7, .long x4), (9, .long x5), (11, .long x6), (13, .long x7)]) hx hb d_Bm_post_134 hl (k := 0) rfl (by rw [ei_4]; rfl) (by decide) rfl (fun ls hl => ?_)
    obtain rfl : i_4 = 1 := by rw [ei_4]; exact by decide
    refine lv_goto (tgt := 107) hx hb d_Bm_post_137 (by decide) ?_
    refine lv_iload hx hb d_Bm_post_107 (lv_at hl 0 rfl) ?_
    refine lv_iconst (v := 4) hx hb d_Bm_post_109 (by decide) ?_
    refine lv_icmp_ge (tgt := 140) hx hb d_Bm_post_110 (by decide) (fun c_5 => ?_) (fun c_5 => ?_)
    · -- taken
      exact absurd c_5 (by decide)
    · -- not taken
      refine lv_aload_n hx hb d_Bm_post_113 rfl (lv_at hl 2 rfl) ?_
      refine va_get (D := (dC, dI)) (ci := 8) (v := .ref a1) (C := "BallotBoardModel") (T := F_Bm) (N := 28) hx hb hts (fun w9 h9 => List.mem_cons_of_mem _ (i_Bm w9 h9)) hown hK hP 0 rfl rfl 12 (by decide) (hts _ (List.mem_cons_of_mem _ gk_931)) (fun _ h9 => h9) rfl d_Bm_post_114 ?_
      refine lv_iconst (v := 4) hx hb d_Bm_post_117 (by decide) ?_
      refine lv_aload_n hx hb d_Bm_post_118 rfl (lv_at hl 2 rfl) ?_
      refine va_get (D := (dC, dI)) (ci := 8) (v := .int (nI k)) (C := "BallotBoardModel") (T := F_Bm) (N := 28) hx hb hts (fun w9 h9 => List.mem_cons_of_mem _ (i_Bm w9 h9)) hown hK hP 0 rfl rfl 2 (by decide) (hts _ (List.mem_cons_of_mem _ gk_921)) (fun _ h9 => h9) rfl d_Bm_post_119 ?_
      refine lv_imul hx hb d_Bm_post_122 ?_
      rw [show (4 * (nI k) : Int32) = (nI (4 * k)) from pk_mul 4 k]
      refine lv_iload hx hb d_Bm_post_123 (lv_at hl 0 rfl) ?_
      refine lv_iadd hx hb d_Bm_post_125 ?_
      rw [show ((nI (4 * k)) + 1 : Int32) = (nI (4 * k + 1)) from nI_add _ 1]
      refine lv_aload_n hx hb d_Bm_post_126 rfl (lv_at hl 2 rfl) ?_
      refine va_get (D := (dC, dI)) (ci := 8) (v := .ref a2) (C := "BallotBoardModel") (T := F_Bm) (N := 28) hx hb hts (fun w9 h9 => List.mem_cons_of_mem _ (i_Bm w9 h9)) hown hK hP 0 rfl rfl 13 (by decide) (hts _ (List.mem_cons_of_mem _ gk_932)) (fun _ h9 => h9) rfl d_Bm_post_127 ?_
      refine lv_iload hx hb d_Bm_post_130 (lv_at hl 0 rfl) ?_
      refine va_lald hx hb hK hP 6 0 rfl rfl (vp_lit rfl) d_Bm_post_132 ?_
      rw [show (gfk_1 (1 : Int32).toNatClampNeg : Int64) = gfk_1 1 from rfl]
      rw [show (gfk_1 1 : Int64) = (lkw [cf (4 * (k - 1) + 0), cf (4 * (k - 1) + 1), cf (4 * (k - 1) + 2), cf (4 * (k - 1) + 3), lN K, lN I, x2, x3, x4, x5, x6, x7] 1) from hdg.2 1 (by omega)]
      refine va_last hx hb hK hP hD hS 8 0 rfl rfl (vp_in_nI (by omega) (by omega)) d_Bm_post_133 (fun H locs hP hD hS => ?_)
      have hfe : vp_updL (vp_updL cf (4 * k + 0) (lkw [cf (4 * (k - 1) + 0), cf (4 * (k - 1) + 1), cf (4 * (k - 1) + 2), cf (4 * (k - 1) + 3), lN K, lN I, x2, x3, x4, x5, x6, x7] 0)) (nI (4 * k + 1) : Int32).toNatClampNeg (lkw [cf (4 * (k - 1) + 0), cf (4 * (k - 1) + 1), cf (4 * (k - 1) + 2), cf (4 * (k - 1) + 3), lN K, lN I, x2, x3, x4, x5, x6, x7] 1) = vp_updL (vp_updL cf (4 * k + 0) (lkw [cf (4 * (k - 1) + 0), cf (4 * (k - 1) + 1), cf (4 * (k - 1) + 2), cf (4 * (k - 1) + 3), lN K, lN I, x2, x3, x4, x5, x6, x7] 0)) (4 * k + 1) (lkw [cf (4 * (k - 1) + 0), cf (4 * (k - 1) + 1), cf (4 * (k - 1) + 2), cf (4 * (k - 1) + 3), lN K, lN I, x2, x3, x4, x5, x6, x7] 1) := by rw [nI_clamp (by omega)]
      have hP : va_P (dC, dI) classes [(m0, .inr (8, [.int z0, .int z1, .int (nI k), .int z3, .long z4, .long z5, .long z6, .long z7, .long z8, .long z9, .int z10, .ref a0, .ref a1, .ref a2, .ref a3, .ref a4, .ref a5, .ref a6, .ref a7, .ref a8, .ref a9, .ref b0, .ref b1, .int (nI gok_1), .ref b2, .ref b3, .ref b4, .ref b5])), (a7, .inl (cI, 256, .inl gbk_1)), (a8, .inl (cI, 64, .inl gsk_1)), (a9, .inl (cI, 8, .inl gtk_1)), (b0, .inl (cI, 8, .inl kS)), (b1, .inl (cI, 64, .inl kR)), (a2, .inl (cJ, 4, .inr (.inl gfk_1))), (a0, .inl (cJ, 1232, .inr (.inl (w8 nf (8 * k) (lN K) (lN I) x2 x3 x4 x5 x6 x7)))), (a1, .inl (cJ, 616, .inr (.inl (vp_updL (vp_updL cf (4 * k + 0) (lkw [cf (4 * (k - 1) + 0), cf (4 * (k - 1) + 1), cf (4 * (k - 1) + 2), cf (4 * (k - 1) + 3), lN K, lN I, x2, x3, x4, x5, x6, x7] 0)) (nI (4 * k + 1) : Int32).toNatClampNeg (lkw [cf (4 * (k - 1) + 0), cf (4 * (k - 1) + 1), cf (4 * (k - 1) + 2), cf (4 * (k - 1) + 3), lN K, lN I, x2, x3, x4, x5, x6, x7] 1)))))] H := hP
      have hD : va_D A [(m0, .inr (8, [.int z0, .int z1, .int (nI k), .int z3, .long z4, .long z5, .long z6, .long z7, .long z8, .long z9, .int z10, .ref a0, .ref a1, .ref a2, .ref a3, .ref a4, .ref a5, .ref a6, .ref a7, .ref a8, .ref a9, .ref b0, .ref b1, .int (nI gok_1), .ref b2, .ref b3, .ref b4, .ref b5])), (a7, .inl (cI, 256, .inl gbk_1)), (a8, .inl (cI, 64, .inl gsk_1)), (a9, .inl (cI, 8, .inl gtk_1)), (b0, .inl (cI, 8, .inl kS)), (b1, .inl (cI, 64, .inl kR)), (a2, .inl (cJ, 4, .inr (.inl gfk_1))), (a0, .inl (cJ, 1232, .inr (.inl (w8 nf (8 * k) (lN K) (lN I) x2 x3 x4 x5 x6 x7)))), (a1, .inl (cJ, 616, .inr (.inl (vp_updL (vp_updL cf (4 * k + 0) (lkw [cf (4 * (k - 1) + 0), cf (4 * (k - 1) + 1), cf (4 * (k - 1) + 2), cf (4 * (k - 1) + 3), lN K, lN I, x2, x3, x4, x5, x6, x7] 0)) (nI (4 * k + 1) : Int32).toNatClampNeg (lkw [cf (4 * (k - 1) + 0), cf (4 * (k - 1) + 1), cf (4 * (k - 1) + 2), cf (4 * (k - 1) + 3), lN K, lN I, x2, x3, x4, x5, x6, x7] 1)))))] := hD
      rw [hfe] at hP hD
      obtain ⟨i_6, ei_6⟩ : ∃ y : Int32, y = 1 + 1 := ⟨_, rfl⟩
      refine lv_iinc (v := i_6) (lv' := [(16, .int i_6), (15, .int (nI (8 * k))), (0, .ref m0), (1, .int (nI K)), (2, .int (nI I)), (3, .long x2), (5, .long x3), (7, .long x4), (9, .long x5), (11, .long x6), (13, .long x7)]) hx hb d_Bm_post_134 hl (k := 0) rfl (by rw [ei_6]; rfl) (by decide) rfl (fun ls hl => ?_)
      obtain rfl : i_6 = 2 := by rw [ei_6]; exact by decide
      refine lv_goto (tgt := 107) hx hb d_Bm_post_137 (by decide) ?_
      refine lv_iload hx hb d_Bm_post_107 (lv_at hl 0 rfl) ?_
      refine lv_iconst (v := 4) hx hb d_Bm_post_109 (by decide) ?_
      refine lv_icmp_ge (tgt := 140) hx hb d_Bm_post_110 (by decide) (fun c_7 => ?_) (fun c_7 => ?_)
      · -- taken
        exact absurd c_7 (by decide)
      · -- not taken
        refine lv_aload_n hx hb d_Bm_post_113 rfl (lv_at hl 2 rfl) ?_
        refine va_get (D := (dC, dI)) (ci := 8) (v := .ref a1) (C := "BallotBoardModel") (T := F_Bm) (N := 28) hx hb hts (fun w9 h9 => List.mem_cons_of_mem _ (i_Bm w9 h9)) hown hK hP 0 rfl rfl 12 (by decide) (hts _ (List.mem_cons_of_mem _ gk_931)) (fun _ h9 => h9) rfl d_Bm_post_114 ?_
        refine lv_iconst (v := 4) hx hb d_Bm_post_117 (by decide) ?_
        refine lv_aload_n hx hb d_Bm_post_118 rfl (lv_at hl 2 rfl) ?_
        refine va_get (D := (dC, dI)) (ci := 8) (v := .int (nI k)) (C := "BallotBoardModel") (T := F_Bm) (N := 28) hx hb hts (fun w9 h9 => List.mem_cons_of_mem _ (i_Bm w9 h9)) hown hK hP 0 rfl rfl 2 (by decide) (hts _ (List.mem_cons_of_mem _ gk_921)) (fun _ h9 => h9) rfl d_Bm_post_119 ?_
        refine lv_imul hx hb d_Bm_post_122 ?_
        rw [show (4 * (nI k) : Int32) = (nI (4 * k)) from pk_mul 4 k]
        refine lv_iload hx hb d_Bm_post_123 (lv_at hl 0 rfl) ?_
        refine lv_iadd hx hb d_Bm_post_125 ?_
        rw [show ((nI (4 * k)) + 2 : Int32) = (nI (4 * k + 2)) from nI_add _ 2]
        refine lv_aload_n hx hb d_Bm_post_126 rfl (lv_at hl 2 rfl) ?_
        refine va_get (D := (dC, dI)) (ci := 8) (v := .ref a2) (C := "BallotBoardModel") (T := F_Bm) (N := 28) hx hb hts (fun w9 h9 => List.mem_cons_of_mem _ (i_Bm w9 h9)) hown hK hP 0 rfl rfl 13 (by decide) (hts _ (List.mem_cons_of_mem _ gk_932)) (fun _ h9 => h9) rfl d_Bm_post_127 ?_
        refine lv_iload hx hb d_Bm_post_130 (lv_at hl 0 rfl) ?_
        refine va_lald hx hb hK hP 6 0 rfl rfl (vp_lit rfl) d_Bm_post_132 ?_
        rw [show (gfk_1 (2 : Int32).toNatClampNeg : Int64) = gfk_1 2 from rfl]
        rw [show (gfk_1 2 : Int64) = (lkw [cf (4 * (k - 1) + 0), cf (4 * (k - 1) + 1), cf (4 * (k - 1) + 2), cf (4 * (k - 1) + 3), lN K, lN I, x2, x3, x4, x5, x6, x7] 2) from hdg.2 2 (by omega)]
        refine va_last hx hb hK hP hD hS 8 0 rfl rfl (vp_in_nI (by omega) (by omega)) d_Bm_post_133 (fun H locs hP hD hS => ?_)
        have hfe : vp_updL (vp_updL (vp_updL cf (4 * k + 0) (lkw [cf (4 * (k - 1) + 0), cf (4 * (k - 1) + 1), cf (4 * (k - 1) + 2), cf (4 * (k - 1) + 3), lN K, lN I, x2, x3, x4, x5, x6, x7] 0)) (4 * k + 1) (lkw [cf (4 * (k - 1) + 0), cf (4 * (k - 1) + 1), cf (4 * (k - 1) + 2), cf (4 * (k - 1) + 3), lN K, lN I, x2, x3, x4, x5, x6, x7] 1)) (nI (4 * k + 2) : Int32).toNatClampNeg (lkw [cf (4 * (k - 1) + 0), cf (4 * (k - 1) + 1), cf (4 * (k - 1) + 2), cf (4 * (k - 1) + 3), lN K, lN I, x2, x3, x4, x5, x6, x7] 2) = vp_updL (vp_updL (vp_updL cf (4 * k + 0) (lkw [cf (4 * (k - 1) + 0), cf (4 * (k - 1) + 1), cf (4 * (k - 1) + 2), cf (4 * (k - 1) + 3), lN K, lN I, x2, x3, x4, x5, x6, x7] 0)) (4 * k + 1) (lkw [cf (4 * (k - 1) + 0), cf (4 * (k - 1) + 1), cf (4 * (k - 1) + 2), cf (4 * (k - 1) + 3), lN K, lN I, x2, x3, x4, x5, x6, x7] 1)) (4 * k + 2) (lkw [cf (4 * (k - 1) + 0), cf (4 * (k - 1) + 1), cf (4 * (k - 1) + 2), cf (4 * (k - 1) + 3), lN K, lN I, x2, x3, x4, x5, x6, x7] 2) := by rw [nI_clamp (by omega)]
        have hP : va_P (dC, dI) classes [(m0, .inr (8, [.int z0, .int z1, .int (nI k), .int z3, .long z4, .long z5, .long z6, .long z7, .long z8, .long z9, .int z10, .ref a0, .ref a1, .ref a2, .ref a3, .ref a4, .ref a5, .ref a6, .ref a7, .ref a8, .ref a9, .ref b0, .ref b1, .int (nI gok_1), .ref b2, .ref b3, .ref b4, .ref b5])), (a7, .inl (cI, 256, .inl gbk_1)), (a8, .inl (cI, 64, .inl gsk_1)), (a9, .inl (cI, 8, .inl gtk_1)), (b0, .inl (cI, 8, .inl kS)), (b1, .inl (cI, 64, .inl kR)), (a2, .inl (cJ, 4, .inr (.inl gfk_1))), (a0, .inl (cJ, 1232, .inr (.inl (w8 nf (8 * k) (lN K) (lN I) x2 x3 x4 x5 x6 x7)))), (a1, .inl (cJ, 616, .inr (.inl (vp_updL (vp_updL (vp_updL cf (4 * k + 0) (lkw [cf (4 * (k - 1) + 0), cf (4 * (k - 1) + 1), cf (4 * (k - 1) + 2), cf (4 * (k - 1) + 3), lN K, lN I, x2, x3, x4, x5, x6, x7] 0)) (4 * k + 1) (lkw [cf (4 * (k - 1) + 0), cf (4 * (k - 1) + 1), cf (4 * (k - 1) + 2), cf (4 * (k - 1) + 3), lN K, lN I, x2, x3, x4, x5, x6, x7] 1)) (nI (4 * k + 2) : Int32).toNatClampNeg (lkw [cf (4 * (k - 1) + 0), cf (4 * (k - 1) + 1), cf (4 * (k - 1) + 2), cf (4 * (k - 1) + 3), lN K, lN I, x2, x3, x4, x5, x6, x7] 2)))))] H := hP
        have hD : va_D A [(m0, .inr (8, [.int z0, .int z1, .int (nI k), .int z3, .long z4, .long z5, .long z6, .long z7, .long z8, .long z9, .int z10, .ref a0, .ref a1, .ref a2, .ref a3, .ref a4, .ref a5, .ref a6, .ref a7, .ref a8, .ref a9, .ref b0, .ref b1, .int (nI gok_1), .ref b2, .ref b3, .ref b4, .ref b5])), (a7, .inl (cI, 256, .inl gbk_1)), (a8, .inl (cI, 64, .inl gsk_1)), (a9, .inl (cI, 8, .inl gtk_1)), (b0, .inl (cI, 8, .inl kS)), (b1, .inl (cI, 64, .inl kR)), (a2, .inl (cJ, 4, .inr (.inl gfk_1))), (a0, .inl (cJ, 1232, .inr (.inl (w8 nf (8 * k) (lN K) (lN I) x2 x3 x4 x5 x6 x7)))), (a1, .inl (cJ, 616, .inr (.inl (vp_updL (vp_updL (vp_updL cf (4 * k + 0) (lkw [cf (4 * (k - 1) + 0), cf (4 * (k - 1) + 1), cf (4 * (k - 1) + 2), cf (4 * (k - 1) + 3), lN K, lN I, x2, x3, x4, x5, x6, x7] 0)) (4 * k + 1) (lkw [cf (4 * (k - 1) + 0), cf (4 * (k - 1) + 1), cf (4 * (k - 1) + 2), cf (4 * (k - 1) + 3), lN K, lN I, x2, x3, x4, x5, x6, x7] 1)) (nI (4 * k + 2) : Int32).toNatClampNeg (lkw [cf (4 * (k - 1) + 0), cf (4 * (k - 1) + 1), cf (4 * (k - 1) + 2), cf (4 * (k - 1) + 3), lN K, lN I, x2, x3, x4, x5, x6, x7] 2)))))] := hD
        rw [hfe] at hP hD
        obtain ⟨i_8, ei_8⟩ : ∃ y : Int32, y = 2 + 1 := ⟨_, rfl⟩
        refine lv_iinc (v := i_8) (lv' := [(16, .int i_8), (15, .int (nI (8 * k))), (0, .ref m0), (1, .int (nI K)), (2, .int (nI I)), (3, .long x2), (5, .long x3), (7, .long x4), (9, .long x5), (11, .long x6), (13, .long x7)]) hx hb d_Bm_post_134 hl (k := 0) rfl (by rw [ei_8]; rfl) (by decide) rfl (fun ls hl => ?_)
        obtain rfl : i_8 = 3 := by rw [ei_8]; exact by decide
        refine lv_goto (tgt := 107) hx hb d_Bm_post_137 (by decide) ?_
        refine lv_iload hx hb d_Bm_post_107 (lv_at hl 0 rfl) ?_
        refine lv_iconst (v := 4) hx hb d_Bm_post_109 (by decide) ?_
        refine lv_icmp_ge (tgt := 140) hx hb d_Bm_post_110 (by decide) (fun c_9 => ?_) (fun c_9 => ?_)
        · -- taken
          exact absurd c_9 (by decide)
        · -- not taken
          refine lv_aload_n hx hb d_Bm_post_113 rfl (lv_at hl 2 rfl) ?_
          refine va_get (D := (dC, dI)) (ci := 8) (v := .ref a1) (C := "BallotBoardModel") (T := F_Bm) (N := 28) hx hb hts (fun w9 h9 => List.mem_cons_of_mem _ (i_Bm w9 h9)) hown hK hP 0 rfl rfl 12 (by decide) (hts _ (List.mem_cons_of_mem _ gk_931)) (fun _ h9 => h9) rfl d_Bm_post_114 ?_
          refine lv_iconst (v := 4) hx hb d_Bm_post_117 (by decide) ?_
          refine lv_aload_n hx hb d_Bm_post_118 rfl (lv_at hl 2 rfl) ?_
          refine va_get (D := (dC, dI)) (ci := 8) (v := .int (nI k)) (C := "BallotBoardModel") (T := F_Bm) (N := 28) hx hb hts (fun w9 h9 => List.mem_cons_of_mem _ (i_Bm w9 h9)) hown hK hP 0 rfl rfl 2 (by decide) (hts _ (List.mem_cons_of_mem _ gk_921)) (fun _ h9 => h9) rfl d_Bm_post_119 ?_
          refine lv_imul hx hb d_Bm_post_122 ?_
          rw [show (4 * (nI k) : Int32) = (nI (4 * k)) from pk_mul 4 k]
          refine lv_iload hx hb d_Bm_post_123 (lv_at hl 0 rfl) ?_
          refine lv_iadd hx hb d_Bm_post_125 ?_
          rw [show ((nI (4 * k)) + 3 : Int32) = (nI (4 * k + 3)) from nI_add _ 3]
          refine lv_aload_n hx hb d_Bm_post_126 rfl (lv_at hl 2 rfl) ?_
          refine va_get (D := (dC, dI)) (ci := 8) (v := .ref a2) (C := "BallotBoardModel") (T := F_Bm) (N := 28) hx hb hts (fun w9 h9 => List.mem_cons_of_mem _ (i_Bm w9 h9)) hown hK hP 0 rfl rfl 13 (by decide) (hts _ (List.mem_cons_of_mem _ gk_932)) (fun _ h9 => h9) rfl d_Bm_post_127 ?_
          refine lv_iload hx hb d_Bm_post_130 (lv_at hl 0 rfl) ?_
          refine va_lald hx hb hK hP 6 0 rfl rfl (vp_lit rfl) d_Bm_post_132 ?_
          rw [show (gfk_1 (3 : Int32).toNatClampNeg : Int64) = gfk_1 3 from rfl]
          rw [show (gfk_1 3 : Int64) = (lkw [cf (4 * (k - 1) + 0), cf (4 * (k - 1) + 1), cf (4 * (k - 1) + 2), cf (4 * (k - 1) + 3), lN K, lN I, x2, x3, x4, x5, x6, x7] 3) from hdg.2 3 (by omega)]
          refine va_last hx hb hK hP hD hS 8 0 rfl rfl (vp_in_nI (by omega) (by omega)) d_Bm_post_133 (fun H locs hP hD hS => ?_)
          have hfe : vp_updL (vp_updL (vp_updL (vp_updL cf (4 * k + 0) (lkw [cf (4 * (k - 1) + 0), cf (4 * (k - 1) + 1), cf (4 * (k - 1) + 2), cf (4 * (k - 1) + 3), lN K, lN I, x2, x3, x4, x5, x6, x7] 0)) (4 * k + 1) (lkw [cf (4 * (k - 1) + 0), cf (4 * (k - 1) + 1), cf (4 * (k - 1) + 2), cf (4 * (k - 1) + 3), lN K, lN I, x2, x3, x4, x5, x6, x7] 1)) (4 * k + 2) (lkw [cf (4 * (k - 1) + 0), cf (4 * (k - 1) + 1), cf (4 * (k - 1) + 2), cf (4 * (k - 1) + 3), lN K, lN I, x2, x3, x4, x5, x6, x7] 2)) (nI (4 * k + 3) : Int32).toNatClampNeg (lkw [cf (4 * (k - 1) + 0), cf (4 * (k - 1) + 1), cf (4 * (k - 1) + 2), cf (4 * (k - 1) + 3), lN K, lN I, x2, x3, x4, x5, x6, x7] 3) = vp_updL (vp_updL (vp_updL (vp_updL cf (4 * k + 0) (lkw [cf (4 * (k - 1) + 0), cf (4 * (k - 1) + 1), cf (4 * (k - 1) + 2), cf (4 * (k - 1) + 3), lN K, lN I, x2, x3, x4, x5, x6, x7] 0)) (4 * k + 1) (lkw [cf (4 * (k - 1) + 0), cf (4 * (k - 1) + 1), cf (4 * (k - 1) + 2), cf (4 * (k - 1) + 3), lN K, lN I, x2, x3, x4, x5, x6, x7] 1)) (4 * k + 2) (lkw [cf (4 * (k - 1) + 0), cf (4 * (k - 1) + 1), cf (4 * (k - 1) + 2), cf (4 * (k - 1) + 3), lN K, lN I, x2, x3, x4, x5, x6, x7] 2)) (4 * k + 3) (lkw [cf (4 * (k - 1) + 0), cf (4 * (k - 1) + 1), cf (4 * (k - 1) + 2), cf (4 * (k - 1) + 3), lN K, lN I, x2, x3, x4, x5, x6, x7] 3) := by rw [nI_clamp (by omega)]
          have hP : va_P (dC, dI) classes [(m0, .inr (8, [.int z0, .int z1, .int (nI k), .int z3, .long z4, .long z5, .long z6, .long z7, .long z8, .long z9, .int z10, .ref a0, .ref a1, .ref a2, .ref a3, .ref a4, .ref a5, .ref a6, .ref a7, .ref a8, .ref a9, .ref b0, .ref b1, .int (nI gok_1), .ref b2, .ref b3, .ref b4, .ref b5])), (a7, .inl (cI, 256, .inl gbk_1)), (a8, .inl (cI, 64, .inl gsk_1)), (a9, .inl (cI, 8, .inl gtk_1)), (b0, .inl (cI, 8, .inl kS)), (b1, .inl (cI, 64, .inl kR)), (a2, .inl (cJ, 4, .inr (.inl gfk_1))), (a0, .inl (cJ, 1232, .inr (.inl (w8 nf (8 * k) (lN K) (lN I) x2 x3 x4 x5 x6 x7)))), (a1, .inl (cJ, 616, .inr (.inl (vp_updL (vp_updL (vp_updL (vp_updL cf (4 * k + 0) (lkw [cf (4 * (k - 1) + 0), cf (4 * (k - 1) + 1), cf (4 * (k - 1) + 2), cf (4 * (k - 1) + 3), lN K, lN I, x2, x3, x4, x5, x6, x7] 0)) (4 * k + 1) (lkw [cf (4 * (k - 1) + 0), cf (4 * (k - 1) + 1), cf (4 * (k - 1) + 2), cf (4 * (k - 1) + 3), lN K, lN I, x2, x3, x4, x5, x6, x7] 1)) (4 * k + 2) (lkw [cf (4 * (k - 1) + 0), cf (4 * (k - 1) + 1), cf (4 * (k - 1) + 2), cf (4 * (k - 1) + 3), lN K, lN I, x2, x3, x4, x5, x6, x7] 2)) (nI (4 * k + 3) : Int32).toNatClampNeg (lkw [cf (4 * (k - 1) + 0), cf (4 * (k - 1) + 1), cf (4 * (k - 1) + 2), cf (4 * (k - 1) + 3), lN K, lN I, x2, x3, x4, x5, x6, x7] 3)))))] H := hP
          have hD : va_D A [(m0, .inr (8, [.int z0, .int z1, .int (nI k), .int z3, .long z4, .long z5, .long z6, .long z7, .long z8, .long z9, .int z10, .ref a0, .ref a1, .ref a2, .ref a3, .ref a4, .ref a5, .ref a6, .ref a7, .ref a8, .ref a9, .ref b0, .ref b1, .int (nI gok_1), .ref b2, .ref b3, .ref b4, .ref b5])), (a7, .inl (cI, 256, .inl gbk_1)), (a8, .inl (cI, 64, .inl gsk_1)), (a9, .inl (cI, 8, .inl gtk_1)), (b0, .inl (cI, 8, .inl kS)), (b1, .inl (cI, 64, .inl kR)), (a2, .inl (cJ, 4, .inr (.inl gfk_1))), (a0, .inl (cJ, 1232, .inr (.inl (w8 nf (8 * k) (lN K) (lN I) x2 x3 x4 x5 x6 x7)))), (a1, .inl (cJ, 616, .inr (.inl (vp_updL (vp_updL (vp_updL (vp_updL cf (4 * k + 0) (lkw [cf (4 * (k - 1) + 0), cf (4 * (k - 1) + 1), cf (4 * (k - 1) + 2), cf (4 * (k - 1) + 3), lN K, lN I, x2, x3, x4, x5, x6, x7] 0)) (4 * k + 1) (lkw [cf (4 * (k - 1) + 0), cf (4 * (k - 1) + 1), cf (4 * (k - 1) + 2), cf (4 * (k - 1) + 3), lN K, lN I, x2, x3, x4, x5, x6, x7] 1)) (4 * k + 2) (lkw [cf (4 * (k - 1) + 0), cf (4 * (k - 1) + 1), cf (4 * (k - 1) + 2), cf (4 * (k - 1) + 3), lN K, lN I, x2, x3, x4, x5, x6, x7] 2)) (nI (4 * k + 3) : Int32).toNatClampNeg (lkw [cf (4 * (k - 1) + 0), cf (4 * (k - 1) + 1), cf (4 * (k - 1) + 2), cf (4 * (k - 1) + 3), lN K, lN I, x2, x3, x4, x5, x6, x7] 3)))))] := hD
          rw [hfe] at hP hD
          obtain ⟨i_10, ei_10⟩ : ∃ y : Int32, y = 3 + 1 := ⟨_, rfl⟩
          refine lv_iinc (v := i_10) (lv' := [(16, .int i_10), (15, .int (nI (8 * k))), (0, .ref m0), (1, .int (nI K)), (2, .int (nI I)), (3, .long x2), (5, .long x3), (7, .long x4), (9, .long x5), (11, .long x6), (13, .long x7)]) hx hb d_Bm_post_134 hl (k := 0) rfl (by rw [ei_10]; rfl) (by decide) rfl (fun ls hl => ?_)
          obtain rfl : i_10 = 4 := by rw [ei_10]; exact by decide
          refine lv_goto (tgt := 107) hx hb d_Bm_post_137 (by decide) ?_
          refine lv_iload hx hb d_Bm_post_107 (lv_at hl 0 rfl) ?_
          refine lv_iconst (v := 4) hx hb d_Bm_post_109 (by decide) ?_
          refine lv_icmp_ge (tgt := 140) hx hb d_Bm_post_110 (by decide) (fun c_11 => ?_) (fun c_11 => ?_)
          · -- taken
            refine lv_aload_n hx hb d_Bm_post_140 rfl (lv_at hl 2 rfl) ?_
            refine lv_dup hx hb d_Bm_post_141 rfl ?_
            refine va_get (D := (dC, dI)) (ci := 8) (v := .int (nI k)) (C := "BallotBoardModel") (T := F_Bm) (N := 28) hx hb hts (fun w9 h9 => List.mem_cons_of_mem _ (i_Bm w9 h9)) hown hK hP 0 rfl rfl 2 (by decide) (hts _ (List.mem_cons_of_mem _ gk_921)) (fun _ h9 => h9) rfl d_Bm_post_142 ?_
            refine lv_dup_x1 hx hb d_Bm_post_145 rfl rfl ?_
            refine lv_iconst (v := 1) hx hb d_Bm_post_146 (by decide) ?_
            refine lv_iadd hx hb d_Bm_post_147 ?_
            rw [show ((nI k) + 1 : Int32) = (nI (k + 1)) from nI_1 k]
            refine va_put (D := (dC, dI)) (ci := 8) (v := .int (nI (k + 1))) (ty := .int) (C := "BallotBoardModel") (T := F_Bm) (N := 28) hx hb hts (fun w9 h9 => List.mem_cons_of_mem _ (i_Bm w9 h9)) t_Bm t_Bm_ok n_Bm hown hK hP hD hS 0 rfl rfl 2 (by decide) (hts _ (List.mem_cons_of_mem _ gk_921)) (fun _ h9 => h9) rfl (by decide +kernel) rfl rfl (Nat.le_of_ble_eq_true rfl) d_Bm_post_148 (fun H locs hP hD hS => ?_)
            have hP : va_P (dC, dI) classes [(m0, .inr (8, [.int z0, .int z1, .int (nI (k + 1)), .int z3, .long z4, .long z5, .long z6, .long z7, .long z8, .long z9, .int z10, .ref a0, .ref a1, .ref a2, .ref a3, .ref a4, .ref a5, .ref a6, .ref a7, .ref a8, .ref a9, .ref b0, .ref b1, .int (nI gok_1), .ref b2, .ref b3, .ref b4, .ref b5])), (a7, .inl (cI, 256, .inl gbk_1)), (a8, .inl (cI, 64, .inl gsk_1)), (a9, .inl (cI, 8, .inl gtk_1)), (b0, .inl (cI, 8, .inl kS)), (b1, .inl (cI, 64, .inl kR)), (a2, .inl (cJ, 4, .inr (.inl gfk_1))), (a0, .inl (cJ, 1232, .inr (.inl (w8 nf (8 * k) (lN K) (lN I) x2 x3 x4 x5 x6 x7)))), (a1, .inl (cJ, 616, .inr (.inl (vp_updL (vp_updL (vp_updL (vp_updL cf (4 * k + 0) (lkw [cf (4 * (k - 1) + 0), cf (4 * (k - 1) + 1), cf (4 * (k - 1) + 2), cf (4 * (k - 1) + 3), lN K, lN I, x2, x3, x4, x5, x6, x7] 0)) (4 * k + 1) (lkw [cf (4 * (k - 1) + 0), cf (4 * (k - 1) + 1), cf (4 * (k - 1) + 2), cf (4 * (k - 1) + 3), lN K, lN I, x2, x3, x4, x5, x6, x7] 1)) (4 * k + 2) (lkw [cf (4 * (k - 1) + 0), cf (4 * (k - 1) + 1), cf (4 * (k - 1) + 2), cf (4 * (k - 1) + 3), lN K, lN I, x2, x3, x4, x5, x6, x7] 2)) (4 * k + 3) (lkw [cf (4 * (k - 1) + 0), cf (4 * (k - 1) + 1), cf (4 * (k - 1) + 2), cf (4 * (k - 1) + 3), lN K, lN I, x2, x3, x4, x5, x6, x7] 3)))))] H := hP
            have hD : va_D A [(m0, .inr (8, [.int z0, .int z1, .int (nI (k + 1)), .int z3, .long z4, .long z5, .long z6, .long z7, .long z8, .long z9, .int z10, .ref a0, .ref a1, .ref a2, .ref a3, .ref a4, .ref a5, .ref a6, .ref a7, .ref a8, .ref a9, .ref b0, .ref b1, .int (nI gok_1), .ref b2, .ref b3, .ref b4, .ref b5])), (a7, .inl (cI, 256, .inl gbk_1)), (a8, .inl (cI, 64, .inl gsk_1)), (a9, .inl (cI, 8, .inl gtk_1)), (b0, .inl (cI, 8, .inl kS)), (b1, .inl (cI, 64, .inl kR)), (a2, .inl (cJ, 4, .inr (.inl gfk_1))), (a0, .inl (cJ, 1232, .inr (.inl (w8 nf (8 * k) (lN K) (lN I) x2 x3 x4 x5 x6 x7)))), (a1, .inl (cJ, 616, .inr (.inl (vp_updL (vp_updL (vp_updL (vp_updL cf (4 * k + 0) (lkw [cf (4 * (k - 1) + 0), cf (4 * (k - 1) + 1), cf (4 * (k - 1) + 2), cf (4 * (k - 1) + 3), lN K, lN I, x2, x3, x4, x5, x6, x7] 0)) (4 * k + 1) (lkw [cf (4 * (k - 1) + 0), cf (4 * (k - 1) + 1), cf (4 * (k - 1) + 2), cf (4 * (k - 1) + 3), lN K, lN I, x2, x3, x4, x5, x6, x7] 1)) (4 * k + 2) (lkw [cf (4 * (k - 1) + 0), cf (4 * (k - 1) + 1), cf (4 * (k - 1) + 2), cf (4 * (k - 1) + 3), lN K, lN I, x2, x3, x4, x5, x6, x7] 2)) (4 * k + 3) (lkw [cf (4 * (k - 1) + 0), cf (4 * (k - 1) + 1), cf (4 * (k - 1) + 2), cf (4 * (k - 1) + 3), lN K, lN I, x2, x3, x4, x5, x6, x7] 3)))))] := hD
            exact W.iret (v := (nI k)) hx hb hr (fun t ht9 hW => ⟨⟨_, (gbk_1, gsk_1, gtk_1, gfk_1, gok_1), rfl, rfl, by rw [ht9]; exact hP, va_K.moved hW.alike hK, hD⟩, hS.F ht9⟩) hS.2.2 d_Bm_post_151
          · -- not taken
            exact absurd c_11 (by decide)
