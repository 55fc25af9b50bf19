theorem one_le_of2 {Y Q P : Nat} (h : Y ^ Q % P = 1) (hQ : 0 < Q) : 1 ≤ Y := by
  rcases Nat.eq_zero_or_pos Y with h0 | h0
  · rw [h0, Nat.zero_pow hQ, Nat.zero_mod] at h
    omega
  · exact h0
theorem rK_i {M n I : Nat} {f : Nat → Nat} {g : Nat → Int32} {v : Nat → Int64} (h : rK M n f g v) (hn : n ≤ 154) (hI : I < M) : ¬ f I = 0 ↔ 0 ≤ g I := by
  rw [← rK_neg h hn hI]
  exact Int32.not_lt
theorem lN_2 : lN 2 = 2 := rfl
def exN (Q : Nat) (x : Int64) : Prop := in_ex Q x
abbrev b_Bm_thrown : ByteArray := prog_10_method_2_code
abbrev y_Bm_thrown : MethodName := ⟨"BallotBoardModel", "thrown", "()I"⟩
abbrev w_Bm_thrown : List Cond := .code y_Bm_thrown b_Bm_thrown 1 (some .int) :: gw
theorem d_Bm_thrown_0 : decode b_Bm_thrown 0 = .ok (.aload_n 0, 1) := by decide +kernel
theorem d_Bm_thrown_1 : decode b_Bm_thrown 1 = .ok (.getfield 131, 3) := by decide +kernel
theorem d_Bm_thrown_4 : decode b_Bm_thrown 4 = .ok (.ireturn, 1) := by decide +kernel
set_option maxHeartbeats 8000000 in
set_option maxRecDepth 100000 in
theorem c_Bm_thrown (l : Launch) (H0 : Heap) (dC : Nat → ClassId) (dI : Nat → Nat → Nat) (cJ cI : ClassId) (m0 : Nat) (z0 z1 z2 z3 : Int32) (z4 z5 z6 z7 z8 z9 : Int64) (z10 : Int32) (a0 a1 a2 a3 a4 a5 a6 a7 a8 a9 b0 b1 oc b2 b3 b4 b5 : Nat) (hP : va_P (dC, dI) classes (mo_ws m0 z0 z1 z2 z3 z4 z5 z6 z7 z8 z9 z10 a0 a1 a2 a3 a4 a5 a6 a7 a8 a9 b0 b1 oc b2 b3 b4 b5) H0)  : Met l y_Bm_thrown w_Bm_thrown ({ frames := 0, cells := 0, slots := 0, locals := 0 }) (va_Pc [.ref m0] (fun U => U.heap = H0 ∧ va_K (dC, dI) classes [(cJ, .long), (cI, .int)] U)) (va_Qi (fun (r : Int32) (_ : Unit) => r = z0) (fun _ t => t.heap = H0) (fun _ => False)) 0 0 (fun _ => False) := by
  refine Met.ofW (cc := b_Bm_thrown) (maxL := 1) (ret := (some .int)) (by decide) rfl ?_
  intro p e s m args below meth c s₁ Bd hml hv
  obtain ⟨rfl, hH, hK⟩ := hv
  subst hH
  have hx := Bd.exec
  have hb := Bd.bytes
  have hr := Bd.returns
  have hts := atoms_spec (ws := w_Bm_thrown) Bd.pre
  have hown : s.vm.findClass "BallotBoardModel" = some m.cls := findClass_of_methodNamed Bd.named
  have hlocks := Bd.notSynchronized
  have hS : va_S (fun _ => False) s.heap s.heap [] := va_S.rf
  have hl := lv_entry ([.ref m0]) (n := 1) (Nat.le_of_ble_eq_true rfl)
  rw [lg_entry_eq]
  generalize (lg_sl ([.ref m0]) ++ List.replicate (1 - (lg_sl ([.ref m0])).length) Slot.unset).toArray = ls at hl ⊢
  have hl : lv_has ls 1 [(0, .ref m0)] := hl
  refine lv_aload_n hx hb d_Bm_thrown_0 rfl (lv_at hl 0 rfl) ?_
  refine va_get (D := (dC, dI)) (ci := 8) (v := .int z0) (C := "BallotBoardModel") (T := F_Bm) (N := 28) hx hb hts (fun w9 h9 => List.mem_cons_of_mem _ (i_Bm w9 h9)) hown hK hP 0 rfl rfl 0 (by decide) (hts _ (List.mem_cons_of_mem _ gk_919)) (fun _ h9 => h9) rfl d_Bm_thrown_1 ?_
  exact W.iret (v := z0) hx hb hr (fun t ht hW => ⟨⟨_, (), rfl, rfl, ht⟩, hS.F ht⟩) hS.2.2 d_Bm_thrown_4
abbrev b_Bm_makeKey : ByteArray := prog_10_method_32_code
abbrev y_Bm_makeKey : MethodName := ⟨"BallotBoardModel", "makeKey", "(IJJ)I"⟩
abbrev w_Bm_makeKey : List Cond := .code y_Bm_makeKey b_Bm_makeKey 10 (some .int) :: gw
theorem d_Bm_makeKey_0 : decode b_Bm_makeKey 0 = .ok (.aload_n 0, 1) := by decide +kernel
theorem d_Bm_makeKey_1 : decode b_Bm_makeKey 1 = .ok (.iconst 0, 1) := by decide +kernel
theorem d_Bm_makeKey_2 : decode b_Bm_makeKey 2 = .ok (.putfield 131, 3) := by decide +kernel
theorem d_Bm_makeKey_5 : decode b_Bm_makeKey 5 = .ok (.aload_n 0, 1) := by decide +kernel
theorem d_Bm_makeKey_6 : decode b_Bm_makeKey 6 = .ok (.aload_n 0, 1) := by decide +kernel
theorem d_Bm_makeKey_7 : decode b_Bm_makeKey 7 = .ok (.getfield 211, 3) := by decide +kernel
theorem d_Bm_makeKey_10 : decode b_Bm_makeKey 10 = .ok (.ifCond .eq 33, 3) := by decide +kernel
theorem d_Bm_makeKey_13 : decode b_Bm_makeKey 13 = .ok (.aload_n 0, 1) := by decide +kernel
theorem d_Bm_makeKey_14 : decode b_Bm_makeKey 14 = .ok (.getfield 220, 3) := by decide +kernel
theorem d_Bm_makeKey_17 : decode b_Bm_makeKey 17 = .ok (.ifCond .ne 26, 3) := by decide +kernel
theorem d_Bm_makeKey_20 : decode b_Bm_makeKey 20 = .ok (.iload_n 1, 1) := by decide +kernel
theorem d_Bm_makeKey_21 : decode b_Bm_makeKey 21 = .ok (.iconst 0, 1) := by decide +kernel
theorem d_Bm_makeKey_22 : decode b_Bm_makeKey 22 = .ok (.aload_n 0, 1) := by decide +kernel
theorem d_Bm_makeKey_23 : decode b_Bm_makeKey 23 = .ok (.getfield 211, 3) := by decide +kernel
theorem d_Bm_makeKey_26 : decode b_Bm_makeKey 26 = .ok (.iconst 1, 1) := by decide +kernel
theorem d_Bm_makeKey_27 : decode b_Bm_makeKey 27 = .ok (.isub, 1) := by decide +kernel
theorem d_Bm_makeKey_28 : decode b_Bm_makeKey 28 = .ok (.invokestatic 203, 3) := by decide +kernel
theorem d_Bm_makeKey_31 : decode b_Bm_makeKey 31 = .ok (.ifCond .eq 16, 3) := by decide +kernel
theorem d_Bm_makeKey_34 : decode b_Bm_makeKey 34 = .ok (.aload_n 0, 1) := by decide +kernel
theorem d_Bm_makeKey_35 : decode b_Bm_makeKey 35 = .ok (.getfield 22, 3) := by decide +kernel
theorem d_Bm_makeKey_38 : decode b_Bm_makeKey 38 = .ok (.iload_n 1, 1) := by decide +kernel
theorem d_Bm_makeKey_39 : decode b_Bm_makeKey 39 = .ok (.iaload, 1) := by decide +kernel
theorem d_Bm_makeKey_40 : decode b_Bm_makeKey 40 = .ok (.ifCond .lt 7, 3) := by decide +kernel
theorem d_Bm_makeKey_43 : decode b_Bm_makeKey 43 = .ok (.iconst 1, 1) := by decide +kernel
theorem d_Bm_makeKey_44 : decode b_Bm_makeKey 44 = .ok (.goto 4, 3) := by decide +kernel
theorem d_Bm_makeKey_47 : decode b_Bm_makeKey 47 = .ok (.iconst 0, 1) := by decide +kernel
theorem d_Bm_makeKey_48 : decode b_Bm_makeKey 48 = .ok (.iconst 1, 1) := by decide +kernel
theorem d_Bm_makeKey_49 : decode b_Bm_makeKey 49 = .ok (.invokevirtual 207, 3) := by decide +kernel
theorem d_Bm_makeKey_52 : decode b_Bm_makeKey 52 = .ok (.ifCond .ne 47, 3) := by decide +kernel
theorem d_Bm_makeKey_55 : decode b_Bm_makeKey 55 = .ok (.aload_n 0, 1) := by decide +kernel
theorem d_Bm_makeKey_56 : decode b_Bm_makeKey 56 = .ok (.iload_n 1, 1) := by decide +kernel
theorem d_Bm_makeKey_57 : decode b_Bm_makeKey 57 = .ok (.iconst 0, 1) := by decide +kernel
theorem d_Bm_makeKey_58 : decode b_Bm_makeKey 58 = .ok (.aload_n 0, 1) := by decide +kernel
theorem d_Bm_makeKey_59 : decode b_Bm_makeKey 59 = .ok (.getfield 211, 3) := by decide +kernel
theorem d_Bm_makeKey_62 : decode b_Bm_makeKey 62 = .ok (.iconst 1, 1) := by decide +kernel
theorem d_Bm_makeKey_63 : decode b_Bm_makeKey 63 = .ok (.isub, 1) := by decide +kernel
theorem d_Bm_makeKey_64 : decode b_Bm_makeKey 64 = .ok (.invokestatic 203, 3) := by decide +kernel
theorem d_Bm_makeKey_67 : decode b_Bm_makeKey 67 = .ok (.ifCond .eq 20, 3) := by decide +kernel
theorem d_Bm_makeKey_70 : decode b_Bm_makeKey 70 = .ok (.aload_n 0, 1) := by decide +kernel
theorem d_Bm_makeKey_71 : decode b_Bm_makeKey 71 = .ok (.lload_n 2, 1) := by decide +kernel
theorem d_Bm_makeKey_72 : decode b_Bm_makeKey 72 = .ok (.invokevirtual 244, 3) := by decide +kernel
theorem d_Bm_makeKey_75 : decode b_Bm_makeKey 75 = .ok (.ifCond .eq 12, 3) := by decide +kernel
theorem d_Bm_makeKey_78 : decode b_Bm_makeKey 78 = .ok (.aload_n 0, 1) := by decide +kernel
theorem d_Bm_makeKey_79 : decode b_Bm_makeKey 79 = .ok (.lload 4, 2) := by decide +kernel
theorem d_Bm_makeKey_81 : decode b_Bm_makeKey 81 = .ok (.invokevirtual 244, 3) := by decide +kernel
theorem d_Bm_makeKey_84 : decode b_Bm_makeKey 84 = .ok (.ifCond .ne 7, 3) := by decide +kernel
theorem d_Bm_makeKey_87 : decode b_Bm_makeKey 87 = .ok (.iconst 1, 1) := by decide +kernel
theorem d_Bm_makeKey_88 : decode b_Bm_makeKey 88 = .ok (.goto 4, 3) := by decide +kernel
theorem d_Bm_makeKey_91 : decode b_Bm_makeKey 91 = .ok (.iconst 0, 1) := by decide +kernel
theorem d_Bm_makeKey_92 : decode b_Bm_makeKey 92 = .ok (.iconst 2, 1) := by decide +kernel
theorem d_Bm_makeKey_93 : decode b_Bm_makeKey 93 = .ok (.invokevirtual 207, 3) := by decide +kernel
theorem d_Bm_makeKey_96 : decode b_Bm_makeKey 96 = .ok (.ifCond .eq 5, 3) := by decide +kernel
theorem d_Bm_makeKey_99 : decode b_Bm_makeKey 99 = .ok (.iconst 0, 1) := by decide +kernel
theorem d_Bm_makeKey_100 : decode b_Bm_makeKey 100 = .ok (.ireturn, 1) := by decide +kernel
theorem d_Bm_makeKey_101 : decode b_Bm_makeKey 101 = .ok (.aload_n 0, 1) := by decide +kernel
theorem d_Bm_makeKey_102 : decode b_Bm_makeKey 102 = .ok (.aload_n 0, 1) := by decide +kernel
theorem d_Bm_makeKey_103 : decode b_Bm_makeKey 103 = .ok (.getfield 180, 3) := by decide +kernel
theorem d_Bm_makeKey_106 : decode b_Bm_makeKey 106 = .ok (.lload_n 2, 1) := by decide +kernel
theorem d_Bm_makeKey_107 : decode b_Bm_makeKey 107 = .ok (.invokevirtual 171, 3) := by decide +kernel
theorem d_Bm_makeKey_110 : decode b_Bm_makeKey 110 = .ok (.lstore 6, 2) := by decide +kernel
theorem d_Bm_makeKey_112 : decode b_Bm_makeKey 112 = .ok (.aload_n 0, 1) := by decide +kernel
theorem d_Bm_makeKey_113 : decode b_Bm_makeKey 113 = .ok (.lconst 1, 1) := by decide +kernel
theorem d_Bm_makeKey_114 : decode b_Bm_makeKey 114 = .ok (.iload_n 1, 1) := by decide +kernel
theorem d_Bm_makeKey_115 : decode b_Bm_makeKey 115 = .ok (.i2l, 1) := by decide +kernel
theorem d_Bm_makeKey_116 : decode b_Bm_makeKey 116 = .ok (.lload 6, 2) := by decide +kernel
theorem d_Bm_makeKey_118 : decode b_Bm_makeKey 118 = .ok (.aload_n 0, 1) := by decide +kernel
theorem d_Bm_makeKey_119 : decode b_Bm_makeKey 119 = .ok (.aload_n 0, 1) := by decide +kernel
theorem d_Bm_makeKey_120 : decode b_Bm_makeKey 120 = .ok (.getfield 180, 3) := by decide +kernel
theorem d_Bm_makeKey_123 : decode b_Bm_makeKey 123 = .ok (.lload 4, 2) := by decide +kernel
theorem d_Bm_makeKey_125 : decode b_Bm_makeKey 125 = .ok (.invokevirtual 171, 3) := by decide +kernel
theorem d_Bm_makeKey_128 : decode b_Bm_makeKey 128 = .ok (.invokevirtual 250, 3) := by decide +kernel
theorem d_Bm_makeKey_131 : decode b_Bm_makeKey 131 = .ok (.lstore 8, 2) := by decide +kernel
theorem d_Bm_makeKey_133 : decode b_Bm_makeKey 133 = .ok (.aload_n 0, 1) := by decide +kernel
theorem d_Bm_makeKey_134 : decode b_Bm_makeKey 134 = .ok (.iload_n 1, 1) := by decide +kernel
theorem d_Bm_makeKey_135 : decode b_Bm_makeKey 135 = .ok (.lload 6, 2) := by decide +kernel
theorem d_Bm_makeKey_137 : decode b_Bm_makeKey 137 = .ok (.lload 8, 2) := by decide +kernel
theorem d_Bm_makeKey_139 : decode b_Bm_makeKey 139 = .ok (.lload 4, 2) := by decide +kernel
theorem d_Bm_makeKey_141 : decode b_Bm_makeKey 141 = .ok (.lload 8, 2) := by decide +kernel
theorem d_Bm_makeKey_143 : decode b_Bm_makeKey 143 = .ok (.lload_n 2, 1) := by decide +kernel
theorem d_Bm_makeKey_144 : decode b_Bm_makeKey 144 = .ok (.aload_n 0, 1) := by decide +kernel
theorem d_Bm_makeKey_145 : decode b_Bm_makeKey 145 = .ok (.getfield 168, 3) := by decide +kernel
theorem d_Bm_makeKey_148 : decode b_Bm_makeKey 148 = .ok (.invokestatic 156, 3) := by decide +kernel
theorem d_Bm_makeKey_151 : decode b_Bm_makeKey 151 = .ok (.aload_n 0, 1) := by decide +kernel
theorem d_Bm_makeKey_152 : decode b_Bm_makeKey 152 = .ok (.getfield 168, 3) := by decide +kernel
theorem d_Bm_makeKey_155 : decode b_Bm_makeKey 155 = .ok (.invokestatic 152, 3) := by decide +kernel
theorem d_Bm_makeKey_158 : decode b_Bm_makeKey 158 = .ok (.invokevirtual 258, 3) := by decide +kernel
theorem d_Bm_makeKey_161 : decode b_Bm_makeKey 161 = .ok (.ireturn, 1) := by decide +kernel
set_option maxHeartbeats 8000000 in
set_option maxRecDepth 100000 in
theorem c_Bm_makeKey_1 (l : Launch) (dC : Nat → ClassId) (dI : Nat → Nat → Nat) (cJ cI : ClassId) (sz : Nat) (m0 : Nat) (e0 : Int32) (N n bc P Q G al pa pb : Nat) (cl : Int32) (a0 a1 a2 a3 a4 a5 a6 a7 a8 a9 b0 b1 oc b2 b3 b4 b5 : Nat) (bf sc st kf : Nat → Int32) (tf nf cf ky lf : Nat → Int64) (ko : Nat → Nat) (x1 : Int32) (x2 x3 : Int64) (hN : N ≤ 4) (hgr : 0 < N → gfx P Q G) (hcl : cl = 0 ∨ cl = 1) (hn : n ≤ 154) (hrk : rK 4 n ko kf ky) (hko : ∀ j, ko j < 2 ^ 61) (hC1 : kC1 N cl ko x1) : Met l y_Bm_makeKey w_Bm_makeKey ({ frames := 7, cells := 0, slots := 0, locals := 204 }) (va_Pc [.ref m0, .int x1, .long x2, .long x3] (fun U => U.heap.size = sz ∧ va_P (dC, dI) classes (mo_ws m0 e0 (nI N) (nI n) (nI bc) (lN P) (lN Q) (lN G) (lN al) (lN pa) (lN pb) cl a0 a1 a2 a3 a4 a5 a6 a7 a8 a9 b0 b1 oc b2 b3 b4 b5 ++ (iw_ws a7 cI 256 bf ++ (iw_ws a8 cI 64 sc ++ (iw_ws a9 cI 8 st ++ (iw_ws b0 cI 8 kS ++ (iw_ws b1 cI 64 kR ++ (jw_ws a2 cJ 4 tf ++ (jw_ws a0 cJ 1232 nf ++ (jw_ws a1 cJ 616 cf ++ (iw_ws a4 cI 4 kf ++ (jw_ws b2 cJ 4 ky ++ (jw_ws a3 cJ 16 lf)))))))))))) U.heap ∧ va_K (dC, dI) classes [(cJ, .long), (cI, .int)] U ∧ va_D (fun _ => True) (mo_ws m0 e0 (nI N) (nI n) (nI bc) (lN P) (lN Q) (lN G) (lN al) (lN pa) (lN pb) cl a0 a1 a2 a3 a4 a5 a6 a7 a8 a9 b0 b1 oc b2 b3 b4 b5 ++ (iw_ws a7 cI 256 bf ++ (iw_ws a8 cI 64 sc ++ (iw_ws a9 cI 8 st ++ (iw_ws b0 cI 8 kS ++ (iw_ws b1 cI 64 kR ++ (jw_ws a2 cJ 4 tf ++ (jw_ws a0 cJ 1232 nf ++ (jw_ws a1 cJ 616 cf ++ (iw_ws a4 cI 4 kf ++ (jw_ws b2 cJ 4 ky ++ (jw_ws a3 cJ 16 lf)))))))))))))) (va_Qi (fun (r : Int32) (_ : Unit) => True) (fun _ t => va_P (dC, dI) classes (mo_ws m0 1 (nI N) (nI n) (nI bc) (lN P) (lN Q) (lN G) (lN al) (lN pa) (lN pb) cl a0 a1 a2 a3 a4 a5 a6 a7 a8 a9 b0 b1 oc b2 b3 b4 b5 ++ (iw_ws a7 cI 256 bf ++ (iw_ws a8 cI 64 sc ++ (iw_ws a9 cI 8 st ++ (iw_ws b0 cI 8 kS ++ (iw_ws b1 cI 64 kR ++ (jw_ws a2 cJ 4 tf ++ (jw_ws a0 cJ 1232 nf ++ (jw_ws a1 cJ 616 cf ++ (iw_ws a4 cI 4 kf ++ (jw_ws b2 cJ 4 ky ++ (jw_ws a3 cJ 16 lf)))))))))))) t.heap ∧ va_K (dC, dI) classes [(cJ, .long), (cI, .int)] t ∧ va_D (va_A (mo_ws m0 e0 (nI N) (nI n) (nI bc) (lN P) (lN Q) (lN G) (lN al) (lN pa) (lN pb) cl a0 a1 a2 a3 a4 a5 a6 a7 a8 a9 b0 b1 oc b2 b3 b4 b5 ++ (iw_ws a7 cI 256 bf ++ (iw_ws a8 cI 64 sc ++ (iw_ws a9 cI 8 st ++ (iw_ws b0 cI 8 kS ++ (iw_ws b1 cI 64 kR ++ (jw_ws a2 cJ 4 tf ++ (jw_ws a0 cJ 1232 nf ++ (jw_ws a1 cJ 616 cf ++ (iw_ws a4 cI 4 kf ++ (jw_ws b2 cJ 4 ky ++ (jw_ws a3 cJ 16 lf)))))))))))) sz) (mo_ws m0 1 (nI N) (nI n) (nI bc) (lN P) (lN Q) (lN G) (lN al) (lN pa) (lN pb) cl a0 a1 a2 a3 a4 a5 a6 a7 a8 a9 b0 b1 oc b2 b3 b4 b5 ++ (iw_ws a7 cI 256 bf ++ (iw_ws a8 cI 64 sc ++ (iw_ws a9 cI 8 st ++ (iw_ws b0 cI 8 kS ++ (iw_ws b1 cI 64 kR ++ (jw_ws a2 cJ 4 tf ++ (jw_ws a0 cJ 1232 nf ++ (jw_ws a1 cJ 616 cf ++ (iw_ws a4 cI 4 kf ++ (jw_ws b2 cJ 4 ky ++ (jw_ws a3 cJ 16 lf))))))))))))) (va_A (mo_ws m0 e0 (nI N) (nI n) (nI bc) (lN P) (lN Q) (lN G) (lN al) (lN pa) (lN pb) cl a0 a1 a2 a3 a4 a5 a6 a7 a8 a9 b0 b1 oc b2 b3 b4 b5 ++ (iw_ws a7 cI 256 bf ++ (iw_ws a8 cI 64 sc ++ (iw_ws a9 cI 8 st ++ (iw_ws b0 cI 8 kS ++ (iw_ws b1 cI 64 kR ++ (jw_ws a2 cJ 4 tf ++ (jw_ws a0 cJ 1232 nf ++ (jw_ws a1 cJ 616 cf ++ (iw_ws a4 cI 4 kf ++ (jw_ws b2 cJ 4 ky ++ (jw_ws a3 cJ 16 lf)))))))))))) sz)) 0 0 (va_A (mo_ws m0 e0 (nI N) (nI n) (nI bc) (lN P) (lN Q) (lN G) (lN al) (lN pa) (lN pb) cl a0 a1 a2 a3 a4 a5 a6 a7 a8 a9 b0 b1 oc b2 b3 b4 b5 ++ (iw_ws a7 cI 256 bf ++ (iw_ws a8 cI 64 sc ++ (iw_ws a9 cI 8 st ++ (iw_ws b0 cI 8 kS ++ (iw_ws b1 cI 64 kR ++ (jw_ws a2 cJ 4 tf ++ (jw_ws a0 cJ 1232 nf ++ (jw_ws a1 cJ 616 cf ++ (iw_ws a4 cI 4 kf ++ (jw_ws b2 cJ 4 ky ++ (jw_ws a3 cJ 16 lf)))))))))))) sz) := by
  refine Met.ofW (cc := b_Bm_makeKey) (maxL := 10) (ret := (some .int)) (by decide) rfl ?_
  intro p e s m args below meth c s₁ Bd hml hv
  obtain ⟨rfl, hsz, hP, hK, hD0⟩ := hv
  have hx := Bd.exec
  have hb := Bd.bytes
  have hr := Bd.returns
  have hts := atoms_spec (ws := w_Bm_makeKey) Bd.pre
  have hown : s.vm.findClass "BallotBoardModel" = some m.cls := findClass_of_methodNamed Bd.named
  have hlocks := Bd.notSynchronized
  subst hsz
  have hD := hD0.self (sz := s.heap.size)
  generalize hAe : va_A (mo_ws m0 e0 (nI N) (nI n) (nI bc) (lN P) (lN Q) (lN G) (lN al) (lN pa) (lN pb) cl a0 a1 a2 a3 a4 a5 a6 a7 a8 a9 b0 b1 oc b2 b3 b4 b5 ++ (iw_ws a7 cI 256 bf ++ (iw_ws a8 cI 64 sc ++ (iw_ws a9 cI 8 st ++ (iw_ws b0 cI 8 kS ++ (iw_ws b1 cI 64 kR ++ (jw_ws a2 cJ 4 tf ++ (jw_ws a0 cJ 1232 nf ++ (jw_ws a1 cJ 616 cf ++ (iw_ws a4 cI 4 kf ++ (jw_ws b2 cJ 4 ky ++ (jw_ws a3 cJ 16 lf)))))))))))) s.heap.size = A at hD ⊢
  have hA : ∀ q : Nat, s.heap.size ≤ q → A q := fun q h => by rw [← hAe]; exact Or.inr h
  have hS : va_S A s.heap s.heap [] := va_S.rf
  have hl := lv_entry ([.ref m0, .int x1, .long x2, .long x3]) (n := 10) (Nat.le_of_ble_eq_true rfl)
  rw [lg_entry_eq]
  generalize (lg_sl ([.ref m0, .int x1, .long x2, .long x3]) ++ List.replicate (10 - (lg_sl ([.ref m0, .int x1, .long x2, .long x3])).length) Slot.unset).toArray = ls at hl ⊢
  have hl : lv_has ls 10 [(0, .ref m0), (1, .int x1), (2, .long x2), (4, .long x3)] := hl
  refine lv_aload_n hx hb d_Bm_makeKey_0 rfl (lv_at hl 0 rfl) ?_
  refine lv_iconst (v := 0) hx hb d_Bm_makeKey_1 (by decide) ?_
  refine va_put (D := (dC, dI)) (ci := 8) (v := .int 0) (ty := .int) (C := "BallotBoardModel") (T := F_Bm) (N := 28) hx hb hts (fun w9 h9 => List.mem_cons_of_mem _ (i_Bm w9 h9)) t_Bm t_Bm_ok n_Bm hown hK hP hD hS 0 rfl rfl 0 (by decide) (hts _ (List.mem_cons_of_mem _ gk_919)) (fun _ h9 => h9) rfl (by decide +kernel) rfl rfl (Nat.le_of_ble_eq_true rfl) d_Bm_makeKey_2 (fun H locs hP hD hS => ?_)
  have hP : va_P (dC, dI) classes [(m0, .inr (8, [.int 0, .int (nI N), .int (nI n), .int (nI bc), .long (lN P), .long (lN Q), .long (lN G), .long (lN al), .long (lN pa), .long (lN pb), .int cl, .ref a0, .ref a1, .ref a2, .ref a3, .ref a4, .ref a5, .ref a6, .ref a7, .ref a8, .ref a9, .ref b0, .ref b1, .int (nI oc), .ref b2, .ref b3, .ref b4, .ref b5])), (a7, .inl (cI, 256, .inl bf)), (a8, .inl (cI, 64, .inl sc)), (a9, .inl (cI, 8, .inl st)), (b0, .inl (cI, 8, .inl kS)), (b1, .inl (cI, 64, .inl kR)), (a2, .inl (cJ, 4, .inr (.inl tf))), (a0, .inl (cJ, 1232, .inr (.inl nf))), (a1, .inl (cJ, 616, .inr (.inl cf))), (a4, .inl (cI, 4, .inl kf)), (b2, .inl (cJ, 4, .inr (.inl ky))), (a3, .inl (cJ, 16, .inr (.inl lf)))] H := hP
  have hD : va_D A [(m0, .inr (8, [.int 0, .int (nI N), .int (nI n), .int (nI bc), .long (lN P), .long (lN Q), .long (lN G), .long (lN al), .long (lN pa), .long (lN pb), .int cl, .ref a0, .ref a1, .ref a2, .ref a3, .ref a4, .ref a5, .ref a6, .ref a7, .ref a8, .ref a9, .ref b0, .ref b1, .int (nI oc), .ref b2, .ref b3, .ref b4, .ref b5])), (a7, .inl (cI, 256, .inl bf)), (a8, .inl (cI, 64, .inl sc)), (a9, .inl (cI, 8, .inl st)), (b0, .inl (cI, 8, .inl kS)), (b1, .inl (cI, 64, .inl kR)), (a2, .inl (cJ, 4, .inr (.inl tf))), (a0, .inl (cJ, 1232, .inr (.inl nf))), (a1, .inl (cJ, 616, .inr (.inl cf))), (a4, .inl (cI, 4, .inl kf)), (b2, .inl (cJ, 4, .inr (.inl ky))), (a3, .inl (cJ, 16, .inr (.inl lf)))] := hD
  refine lv_aload_n hx hb d_Bm_makeKey_5 rfl (lv_at hl 0 rfl) ?_
  refine lv_aload_n hx hb d_Bm_makeKey_6 rfl (lv_at hl 0 rfl) ?_
  refine va_get (D := (dC, dI)) (ci := 8) (v := .int (nI N)) (C := "BallotBoardModel") (T := F_Bm) (N := 28) hx hb hts (fun w9 h9 => List.mem_cons_of_mem _ (i_Bm w9 h9)) hown hK hP 0 rfl rfl 1 (by decide) (hts _ (List.mem_cons_of_mem _ gk_920)) (fun _ h9 => h9) rfl d_Bm_makeKey_7 ?_
  refine lv_if_eq (tgt := 43) hx hb d_Bm_makeKey_10 (by decide) (fun c_1 => ?_) (fun c_1 => ?_)
  · -- taken
    have hN0 : N = 0 := nI_inj (b := 0) (by omega) (by omega) c_1
    refine lv_iconst (v := 1) hx hb d_Bm_makeKey_43 (by decide) ?_
    refine lv_goto (tgt := 48) hx hb d_Bm_makeKey_44 (by decide) ?_
    refine lv_iconst (v := 1) hx hb d_Bm_makeKey_48 (by decide) ?_
    have hPc := hP.sub (ws' := (mo_ws m0 0 (nI N) (nI n) (nI bc) (lN P) (lN Q) (lN G) (lN al) (lN pa) (lN pb) cl a0 a1 a2 a3 a4 a5 a6 a7 a8 a9 b0 b1 oc b2 b3 b4 b5)) [0] rfl
    have hDc := hD.sub (ws' := (mo_ws m0 0 (nI N) (nI n) (nI bc) (lN P) (lN Q) (lN G) (lN al) (lN pa) (lN pb) cl a0 a1 a2 a3 a4 a5 a6 a7 a8 a9 b0 b1 oc b2 b3 b4 b5)) [0] (by decide) rfl
    have hKc := hK.sub (tys' := [(cJ, .long), (cI, .int)]) [0, 1] rfl
    have hFc := va_free (wc := (mo_ws m0 0 (nI N) (nI n) (nI bc) (lN P) (lN Q) (lN G) (lN al) (lN pa) (lN pb) cl a0 a1 a2 a3 a4 a5 a6 a7 a8 a9 b0 b1 oc b2 b3 b4 b5)) hD hS hA [0] rfl
    refine va_calli (va_runV (As := [.int 1, .int 1]) (rest := []) ⟨hx, hb, hml, hown, hts⟩ (c_Bm_fails_1 l dC dI cJ cI H.size m0 (nI N) (nI n) (nI bc) (lN P) (lN Q) (lN G) (lN al) (lN pa) (lN pb) cl a0 a1 a2 a3 a4 a5 a6 a7 a8 a9 b0 b1 oc b2 b3 b4 b5 1 (by decide)) (cwV 2 hts (gw_V gk_1030 gk_1032 gp_27 gk_7 gk_1033) rfl rfl rfl (by decide +kernel) ⟨Nat.le_of_ble_eq_true rfl, Nat.le_of_ble_eq_true rfl⟩) ⟨fun a U g mk q => by obtain ⟨q0, q1, qP, qK, qD⟩ := q; exact ⟨q0, q1, qP, va_K.moved (u := U) (U := U.calling g mk a) (Vm.Alike.refl U.vm) qK, qD⟩, va_recv hK hP (ci := 8) (q0 := 0) rfl rfl, fun U hU hW => ⟨rfl, by rw [hU], by rw [hU]; exact hPc, va_K.moved hW.alike hKc, hDc.weaken (fun _ _ _ _ => trivial)⟩⟩ rfl rfl hl.1 rfl (lv_room (Nat.le_of_ble_eq_true rfl)) d_Bm_makeKey_49 ⟨Nat.le_of_ble_eq_true rfl, Nat.le_of_ble_eq_true rfl⟩) hS (fun q _ h => hFc q h) hFc (fun r_2 u9 t9 H1 locs ht hvm hw hB hz1 hk1 hS => ?_)
    have hw : r_2 = 1 := hw
    subst hw
    obtain ⟨hP1, hK1, hD1⟩ := hB
    rw [ht] at hP1
    obtain ⟨hP, hD⟩ := va_join (wr := [(a7, .inl (cI, 256, .inl bf)), (a8, .inl (cI, 64, .inl sc)), (a9, .inl (cI, 8, .inl st)), (b0, .inl (cI, 8, .inl kS)), (b1, .inl (cI, 64, .inl kR)), (a2, .inl (cJ, 4, .inr (.inl tf))), (a0, .inl (cJ, 1232, .inr (.inl nf))), (a1, .inl (cJ, 616, .inr (.inl cf))), (a4, .inl (cI, 4, .inl kf)), (b2, .inl (cJ, 4, .inr (.inl ky))), (a3, .inl (cJ, 16, .inr (.inl lf)))]) (w1 := [(m0, .inr (8, [.int 1, .int (nI N), .int (nI n), .int (nI bc), .long (lN P), .long (lN Q), .long (lN G), .long (lN al), .long (lN pa), .long (lN pb), .int cl, .ref a0, .ref a1, .ref a2, .ref a3, .ref a4, .ref a5, .ref a6, .ref a7, .ref a8, .ref a9, .ref b0, .ref b1, .int (nI oc), .ref b2, .ref b3, .ref b4, .ref b5]))]) hP hD [0] [1, 2, 3, 4, 5, 6, 7, 8, 9, 10, 11] rfl rfl (by decide) (by decide) hk1 hFc hP1 hD1
    have hP := hP.sub (ws' := [(m0, .inr (8, [.int 1, .int (nI N), .int (nI n), .int (nI bc), .long (lN P), .long (lN Q), .long (lN G), .long (lN al), .long (lN pa), .long (lN pb), .int cl, .ref a0, .ref a1, .ref a2, .ref a3, .ref a4, .ref a5, .ref a6, .ref a7, .ref a8, .ref a9, .ref b0, .ref b1, .int (nI oc), .ref b2, .ref b3, .ref b4, .ref b5])), (a7, .inl (cI, 256, .inl bf)), (a8, .inl (cI, 64, .inl sc)), (a9, .inl (cI, 8, .inl st)), (b0, .inl (cI, 8, .inl kS)), (b1, .inl (cI, 64, .inl kR)), (a2, .inl (cJ, 4, .inr (.inl tf))), (a0, .inl (cJ, 1232, .inr (.inl nf))), (a1, .inl (cJ, 616, .inr (.inl cf))), (a4, .inl (cI, 4, .inl kf)), (b2, .inl (cJ, 4, .inr (.inl ky))), (a3, .inl (cJ, 16, .inr (.inl lf)))]) [11, 0, 1, 2, 3, 4, 5, 6, 7, 8, 9, 10] rfl
    have hD := hD.sub (ws' := [(m0, .inr (8, [.int 1, .int (nI N), .int (nI n), .int (nI bc), .long (lN P), .long (lN Q), .long (lN G), .long (lN al), .long (lN pa), .long (lN pb), .int cl, .ref a0, .ref a1, .ref a2, .ref a3, .ref a4, .ref a5, .ref a6, .ref a7, .ref a8, .ref a9, .ref b0, .ref b1, .int (nI oc), .ref b2, .ref b3, .ref b4, .ref b5])), (a7, .inl (cI, 256, .inl bf)), (a8, .inl (cI, 64, .inl sc)), (a9, .inl (cI, 8, .inl st)), (b0, .inl (cI, 8, .inl kS)), (b1, .inl (cI, 64, .inl kR)), (a2, .inl (cJ, 4, .inr (.inl tf))), (a0, .inl (cJ, 1232, .inr (.inl nf))), (a1, .inl (cJ, 616, .inr (.inl cf))), (a4, .inl (cI, 4, .inl kf)), (b2, .inl (cJ, 4, .inr (.inl ky))), (a3, .inl (cJ, 16, .inr (.inl lf)))]) [11, 0, 1, 2, 3, 4, 5, 6, 7, 8, 9, 10] (by decide) rfl
    generalize H1 = H at hP hS ⊢
    refine lv_if_ne (tgt := 99) hx hb d_Bm_makeKey_52 (by decide) (fun c_3 => ?_) (fun c_3 => ?_)
    · -- taken
      refine lv_iconst (v := 0) hx hb d_Bm_makeKey_99 (by decide) ?_
      exact W.iret (v := 0) hx hb hr (fun t ht9 hW => ⟨⟨_, (), rfl, trivial, by rw [ht9]; exact hP, va_K.moved hW.alike hK, hD⟩, hS.F ht9⟩) hS.2.2 d_Bm_makeKey_100
    · -- not taken
      exact absurd c_3 (by decide)
  · -- not taken
    have hN0 : 0 < N := Nat.pos_of_ne_zero (fun h => c_1 (by rw [h]; rfl))
    obtain ⟨hPQ, h61F, hQ3, hG2, hGP, hGQ⟩ := hgr hN0
    refine lv_aload_n hx hb d_Bm_makeKey_13 rfl (lv_at hl 0 rfl) ?_
    refine va_get (D := (dC, dI)) (ci := 8) (v := .int cl) (C := "BallotBoardModel") (T := F_Bm) (N := 28) hx hb hts (fun w9 h9 => List.mem_cons_of_mem _ (i_Bm w9 h9)) hown hK hP 0 rfl rfl 10 (by decide) (hts _ (List.mem_cons_of_mem _ gk_929)) (fun _ h9 => h9) rfl d_Bm_makeKey_14 ?_
    refine lv_if_ne (tgt := 43) hx hb d_Bm_makeKey_17 (by decide) (fun c_4 => ?_) (fun c_4 => ?_)
    · -- taken
      have hcl1 := c_4
      refine lv_iconst (v := 1) hx hb d_Bm_makeKey_43 (by decide) ?_
      refine lv_goto (tgt := 48) hx hb d_Bm_makeKey_44 (by decide) ?_
      refine lv_iconst (v := 1) hx hb d_Bm_makeKey_48 (by decide) ?_
      have hPc := hP.sub (ws' := (mo_ws m0 0 (nI N) (nI n) (nI bc) (lN P) (lN Q) (lN G) (lN al) (lN pa) (lN pb) cl a0 a1 a2 a3 a4 a5 a6 a7 a8 a9 b0 b1 oc b2 b3 b4 b5)) [0] rfl
      have hDc := hD.sub (ws' := (mo_ws m0 0 (nI N) (nI n) (nI bc) (lN P) (lN Q) (lN G) (lN al) (lN pa) (lN pb) cl a0 a1 a2 a3 a4 a5 a6 a7 a8 a9 b0 b1 oc b2 b3 b4 b5)) [0] (by decide) rfl
      have hKc := hK.sub (tys' := [(cJ, .long), (cI, .int)]) [0, 1] rfl
      have hFc := va_free (wc := (mo_ws m0 0 (nI N) (nI n) (nI bc) (lN P) (lN Q) (lN G) (lN al) (lN pa) (lN pb) cl a0 a1 a2 a3 a4 a5 a6 a7 a8 a9 b0 b1 oc b2 b3 b4 b5)) hD hS hA [0] rfl
      refine va_calli (va_runV (As := [.int 1, .int 1]) (rest := []) ⟨hx, hb, hml, hown, hts⟩ (c_Bm_fails_1 l dC dI cJ cI H.size m0 (nI N) (nI n) (nI bc) (lN P) (lN Q) (lN G) (lN al) (lN pa) (lN pb) cl a0 a1 a2 a3 a4 a5 a6 a7 a8 a9 b0 b1 oc b2 b3 b4 b5 1 (by decide)) (cwV 2 hts (gw_V gk_1030 gk_1032 gp_27 gk_7 gk_1033) rfl rfl rfl (by decide +kernel) ⟨Nat.le_of_ble_eq_true rfl, Nat.le_of_ble_eq_true rfl⟩) ⟨fun a U g mk q => by obtain ⟨q0, q1, qP, qK, qD⟩ := q; exact ⟨q0, q1, qP, va_K.moved (u := U) (U := U.calling g mk a) (Vm.Alike.refl U.vm) qK, qD⟩, va_recv hK hP (ci := 8) (q0 := 0) rfl rfl, fun U hU hW => ⟨rfl, by rw [hU], by rw [hU]; exact hPc, va_K.moved hW.alike hKc, hDc.weaken (fun _ _ _ _ => trivial)⟩⟩ rfl rfl hl.1 rfl (lv_room (Nat.le_of_ble_eq_true rfl)) d_Bm_makeKey_49 ⟨Nat.le_of_ble_eq_true rfl, Nat.le_of_ble_eq_true rfl⟩) hS (fun q _ h => hFc q h) hFc (fun r_5 u9 t9 H1 locs ht hvm hw hB hz1 hk1 hS => ?_)
      have hw : r_5 = 1 := hw
      subst hw
      obtain ⟨hP1, hK1, hD1⟩ := hB
      rw [ht] at hP1
      obtain ⟨hP, hD⟩ := va_join (wr := [(a7, .inl (cI, 256, .inl bf)), (a8, .inl (cI, 64, .inl sc)), (a9, .inl (cI, 8, .inl st)), (b0, .inl (cI, 8, .inl kS)), (b1, .inl (cI, 64, .inl kR)), (a2, .inl (cJ, 4, .inr (.inl tf))), (a0, .inl (cJ, 1232, .inr (.inl nf))), (a1, .inl (cJ, 616, .inr (.inl cf))), (a4, .inl (cI, 4, .inl kf)), (b2, .inl (cJ, 4, .inr (.inl ky))), (a3, .inl (cJ, 16, .inr (.inl lf)))]) (w1 := [(m0, .inr (8, [.int 1, .int (nI N), .int (nI n), .int (nI bc), .long (lN P), .long (lN Q), .long (lN G), .long (lN al), .long (lN pa), .long (lN pb), .int cl, .ref a0, .ref a1, .ref a2, .ref a3, .ref a4, .ref a5, .ref a6, .ref a7, .ref a8, .ref a9, .ref b0, .ref b1, .int (nI oc), .ref b2, .ref b3, .ref b4, .ref b5]))]) hP hD [0] [1, 2, 3, 4, 5, 6, 7, 8, 9, 10, 11] rfl rfl (by decide) (by decide) hk1 hFc hP1 hD1
      have hP := hP.sub (ws' := [(m0, .inr (8, [.int 1, .int (nI N), .int (nI n), .int (nI bc), .long (lN P), .long (lN Q), .long (lN G), .long (lN al), .long (lN pa), .long (lN pb), .int cl, .ref a0, .ref a1, .ref a2, .ref a3, .ref a4, .ref a5, .ref a6, .ref a7, .ref a8, .ref a9, .ref b0, .ref b1, .int (nI oc), .ref b2, .ref b3, .ref b4, .ref b5])), (a7, .inl (cI, 256, .inl bf)), (a8, .inl (cI, 64, .inl sc)), (a9, .inl (cI, 8, .inl st)), (b0, .inl (cI, 8, .inl kS)), (b1, .inl (cI, 64, .inl kR)), (a2, .inl (cJ, 4, .inr (.inl tf))), (a0, .inl (cJ, 1232, .inr (.inl nf))), (a1, .inl (cJ, 616, .inr (.inl cf))), (a4, .inl (cI, 4, .inl kf)), (b2, .inl (cJ, 4, .inr (.inl ky))), (a3, .inl (cJ, 16, .inr (.inl lf)))]) [11, 0, 1, 2, 3, 4, 5, 6, 7, 8, 9, 10] rfl
      have hD := hD.sub (ws' := [(m0, .inr (8, [.int 1, .int (nI N), .int (nI n), .int (nI bc), .long (lN P), .long (lN Q), .long (lN G), .long (lN al), .long (lN pa), .long (lN pb), .int cl, .ref a0, .ref a1, .ref a2, .ref a3, .ref a4, .ref a5, .ref a6, .ref a7, .ref a8, .ref a9, .ref b0, .ref b1, .int (nI oc), .ref b2, .ref b3, .ref b4, .ref b5])), (a7, .inl (cI, 256, .inl bf)), (a8, .inl (cI, 64, .inl sc)), (a9, .inl (cI, 8, .inl st)), (b0, .inl (cI, 8, .inl kS)), (b1, .inl (cI, 64, .inl kR)), (a2, .inl (cJ, 4, .inr (.inl tf))), (a0, .inl (cJ, 1232, .inr (.inl nf))), (a1, .inl (cJ, 616, .inr (.inl cf))), (a4, .inl (cI, 4, .inl kf)), (b2, .inl (cJ, 4, .inr (.inl ky))), (a3, .inl (cJ, 16, .inr (.inl lf)))]) [11, 0, 1, 2, 3, 4, 5, 6, 7, 8, 9, 10] (by decide) rfl
      generalize H1 = H at hP hS ⊢
      refine lv_if_ne (tgt := 99) hx hb d_Bm_makeKey_52 (by decide) (fun c_6 => ?_) (fun c_6 => ?_)
      · -- taken
        refine lv_iconst (v := 0) hx hb d_Bm_makeKey_99 (by decide) ?_
        exact W.iret (v := 0) hx hb hr (fun t ht9 hW => ⟨⟨_, (), rfl, trivial, by rw [ht9]; exact hP, va_K.moved hW.alike hK, hD⟩, hS.F ht9⟩) hS.2.2 d_Bm_makeKey_100
      · -- not taken
        exact absurd c_6 (by decide)
    · -- not taken
      have hcl0 : cl = 0 := c_4
      refine lv_iload_n hx hb d_Bm_makeKey_20 rfl (lv_at hl 1 rfl) ?_
      refine lv_iconst (v := 0) hx hb d_Bm_makeKey_21 (by decide) ?_
      refine lv_aload_n hx hb d_Bm_makeKey_22 rfl (lv_at hl 0 rfl) ?_
      refine va_get (D := (dC, dI)) (ci := 8) (v := .int (nI N)) (C := "BallotBoardModel") (T := F_Bm) (N := 28) hx hb hts (fun w9 h9 => List.mem_cons_of_mem _ (i_Bm w9 h9)) hown hK hP 0 rfl rfl 1 (by decide) (hts _ (List.mem_cons_of_mem _ gk_920)) (fun _ h9 => h9) rfl d_Bm_makeKey_23 ?_
      refine lv_iconst (v := 1) hx hb d_Bm_makeKey_26 (by decide) ?_
      refine lv_isub hx hb d_Bm_makeKey_27 ?_
      rw [show ((nI N) - 1 : Int32) = (nI (N - 1)) from nI_subI (b := 1) (by omega) rfl]
      refine va_calli (va_runS (As := [.int x1, .int 0, .int (nI (N - 1))]) (rest := [.ref m0]) ⟨hx, hb, hml, hown, hts⟩ (c_Bm_in l H x1 0 (nI (N - 1))) (cwS 3 hts (gw_S gk_1027 gk_1028 gk_7 gk_1029) rfl rfl rfl (by decide +kernel) ⟨Nat.le_of_ble_eq_true rfl, Nat.le_of_ble_eq_true rfl⟩) ⟨fun a U g mk q => q, fun U hU hW => ⟨rfl, hU⟩⟩ rfl rfl hl.1 rfl (lv_room (Nat.le_of_ble_eq_true rfl)) d_Bm_makeKey_28 ⟨Nat.le_of_ble_eq_true rfl, Nat.le_of_ble_eq_true rfl⟩) hS (fun q _ h => h.elim) (fun q h => h.elim) (fun r28 u9 t9 H1 locs ht hvm hw hB hz1 hk1 hS => ?_)
      obtain rfl : H = H1 := hB.symm.trans ht
      have h28 : bz r28 (inN x1 N) := bz_in hN0 (by omega) rfl hw
      refine lv_if_eq (tgt := 47) hx hb d_Bm_makeKey_31 (by decide) (fun c_7 => ?_) (fun c_7 => ?_)
      · -- taken
        exfalso
        have hni := bz_f h28 c_7
        rcases hC1 with h | h | ⟨I, e9, hI9, _⟩
        · omega
        · rw [hcl0] at h; exact absurd h (by decide)
        · exact hni ⟨I, e9, hI9⟩
      · -- not taken
        obtain ⟨I, rfl, hI⟩ := bz_t h28 c_7
        refine lv_aload_n hx hb d_Bm_makeKey_34 rfl (lv_at hl 0 rfl) ?_
        refine va_get (D := (dC, dI)) (ci := 8) (v := .ref a4) (C := "BallotBoardModel") (T := F_Bm) (N := 28) hx hb hts (fun w9 h9 => List.mem_cons_of_mem _ (i_Bm w9 h9)) hown hK hP 0 rfl rfl 15 (by decide) (hts _ (List.mem_cons_of_mem _ gk_934)) (fun _ h9 => h9) rfl d_Bm_makeKey_35 ?_
        refine lv_iload_n hx hb d_Bm_makeKey_38 rfl (lv_at hl 1 rfl) ?_
        refine va_iald hx hb hK hP 9 1 rfl rfl (vp_in_nI (by omega) (by omega)) d_Bm_makeKey_39 ?_
        rw [show (kf (nI I : Int32).toNatClampNeg : Int32) = kf I from by rw [nI_clamp (by omega)]]
        refine lv_if_lt (tgt := 47) hx hb d_Bm_makeKey_40 (by decide) (fun c_8 => ?_) (fun c_8 => ?_)
        · -- taken
          exfalso
          have hk9 := (rK_neg hrk hn (show I < 4 by omega)).mp c_8
          rcases hC1 with h | h | ⟨J, e9, hJ9, hk8⟩
          · omega
          · rw [hcl0] at h; exact absurd h (by decide)
          · have e8 := nI_inj (by omega) (by omega) e9
            subst e8
            exact hk8 hk9
        · -- not taken
          have hk9 := c_8
          refine lv_iconst (v := 1) hx hb d_Bm_makeKey_43 (by decide) ?_
          refine lv_goto (tgt := 48) hx hb d_Bm_makeKey_44 (by decide) ?_
          refine lv_iconst (v := 1) hx hb d_Bm_makeKey_48 (by decide) ?_
          have hPc := hP.sub (ws' := (mo_ws m0 0 (nI N) (nI n) (nI bc) (lN P) (lN Q) (lN G) (lN al) (lN pa) (lN pb) cl a0 a1 a2 a3 a4 a5 a6 a7 a8 a9 b0 b1 oc b2 b3 b4 b5)) [0] rfl
          have hDc := hD.sub (ws' := (mo_ws m0 0 (nI N) (nI n) (nI bc) (lN P) (lN Q) (lN G) (lN al) (lN pa) (lN pb) cl a0 a1 a2 a3 a4 a5 a6 a7 a8 a9 b0 b1 oc b2 b3 b4 b5)) [0] (by decide) rfl
          have hKc := hK.sub (tys' := [(cJ, .long), (cI, .int)]) [0, 1] rfl
          have hFc := va_free (wc := (mo_ws m0 0 (nI N) (nI n) (nI bc) (lN P) (lN Q) (lN G) (lN al) (lN pa) (lN pb) cl a0 a1 a2 a3 a4 a5 a6 a7 a8 a9 b0 b1 oc b2 b3 b4 b5)) hD hS hA [0] rfl
          refine va_calli (va_runV (As := [.int 1, .int 1]) (rest := []) ⟨hx, hb, hml, hown, hts⟩ (c_Bm_fails_1 l dC dI cJ cI H.size m0 (nI N) (nI n) (nI bc) (lN P) (lN Q) (lN G) (lN al) (lN pa) (lN pb) cl a0 a1 a2 a3 a4 a5 a6 a7 a8 a9 b0 b1 oc b2 b3 b4 b5 1 (by decide)) (cwV 2 hts (gw_V gk_1030 gk_1032 gp_27 gk_7 gk_1033) rfl rfl rfl (by decide +kernel) ⟨Nat.le_of_ble_eq_true rfl, Nat.le_of_ble_eq_true rfl⟩) ⟨fun a U g mk q => by obtain ⟨q0, q1, qP, qK, qD⟩ := q; exact ⟨q0, q1, qP, va_K.moved (u := U) (U := U.calling g mk a) (Vm.Alike.refl U.vm) qK, qD⟩, va_recv hK hP (ci := 8) (q0 := 0) rfl rfl, fun U hU hW => ⟨rfl, by rw [hU], by rw [hU]; exact hPc, va_K.moved hW.alike hKc, hDc.weaken (fun _ _ _ _ => trivial)⟩⟩ rfl rfl hl.1 rfl (lv_room (Nat.le_of_ble_eq_true rfl)) d_Bm_makeKey_49 ⟨Nat.le_of_ble_eq_true rfl, Nat.le_of_ble_eq_true rfl⟩) hS (fun q _ h => hFc q h) hFc (fun r_9 u9 t9 H1 locs ht hvm hw hB hz1 hk1 hS => ?_)
          have hw : r_9 = 1 := hw
          subst hw
          obtain ⟨hP1, hK1, hD1⟩ := hB
          rw [ht] at hP1
          obtain ⟨hP, hD⟩ := va_join (wr := [(a7, .inl (cI, 256, .inl bf)), (a8, .inl (cI, 64, .inl sc)), (a9, .inl (cI, 8, .inl st)), (b0, .inl (cI, 8, .inl kS)), (b1, .inl (cI, 64, .inl kR)), (a2, .inl (cJ, 4, .inr (.inl tf))), (a0, .inl (cJ, 1232, .inr (.inl nf))), (a1, .inl (cJ, 616, .inr (.inl cf))), (a4, .inl (cI, 4, .inl kf)), (b2, .inl (cJ, 4, .inr (.inl ky))), (a3, .inl (cJ, 16, .inr (.inl lf)))]) (w1 := [(m0, .inr (8, [.int 1, .int (nI N), .int (nI n), .int (nI bc), .long (lN P), .long (lN Q), .long (lN G), .long (lN al), .long (lN pa), .long (lN pb), .int cl, .ref a0, .ref a1, .ref a2, .ref a3, .ref a4, .ref a5, .ref a6, .ref a7, .ref a8, .ref a9, .ref b0, .ref b1, .int (nI oc), .ref b2, .ref b3, .ref b4, .ref b5]))]) hP hD [0] [1, 2, 3, 4, 5, 6, 7, 8, 9, 10, 11] rfl rfl (by decide) (by decide) hk1 hFc hP1 hD1
          have hP := hP.sub (ws' := [(m0, .inr (8, [.int 1, .int (nI N), .int (nI n), .int (nI bc), .long (lN P), .long (lN Q), .long (lN G), .long (lN al), .long (lN pa), .long (lN pb), .int cl, .ref a0, .ref a1, .ref a2, .ref a3, .ref a4, .ref a5, .ref a6, .ref a7, .ref a8, .ref a9, .ref b0, .ref b1, .int (nI oc), .ref b2, .ref b3, .ref b4, .ref b5])), (a7, .inl (cI, 256, .inl bf)), (a8, .inl (cI, 64, .inl sc)), (a9, .inl (cI, 8, .inl st)), (b0, .inl (cI, 8, .inl kS)), (b1, .inl (cI, 64, .inl kR)), (a2, .inl (cJ, 4, .inr (.inl tf))), (a0, .inl (cJ, 1232, .inr (.inl nf))), (a1, .inl (cJ, 616, .inr (.inl cf))), (a4, .inl (cI, 4, .inl kf)), (b2, .inl (cJ, 4, .inr (.inl ky))), (a3, .inl (cJ, 16, .inr (.inl lf)))]) [11, 0, 1, 2, 3, 4, 5, 6, 7, 8, 9, 10] rfl
          have hD := hD.sub (ws' := [(m0, .inr (8, [.int 1, .int (nI N), .int (nI n), .int (nI bc), .long (lN P), .long (lN Q), .long (lN G), .long (lN al), .long (lN pa), .long (lN pb), .int cl, .ref a0, .ref a1, .ref a2, .ref a3, .ref a4, .ref a5, .ref a6, .ref a7, .ref a8, .ref a9, .ref b0, .ref b1, .int (nI oc), .ref b2, .ref b3, .ref b4, .ref b5])), (a7, .inl (cI, 256, .inl bf)), (a8, .inl (cI, 64, .inl sc)), (a9, .inl (cI, 8, .inl st)), (b0, .inl (cI, 8, .inl kS)), (b1, .inl (cI, 64, .inl kR)), (a2, .inl (cJ, 4, .inr (.inl tf))), (a0, .inl (cJ, 1232, .inr (.inl nf))), (a1, .inl (cJ, 616, .inr (.inl cf))), (a4, .inl (cI, 4, .inl kf)), (b2, .inl (cJ, 4, .inr (.inl ky))), (a3, .inl (cJ, 16, .inr (.inl lf)))]) [11, 0, 1, 2, 3, 4, 5, 6, 7, 8, 9, 10] (by decide) rfl
          generalize H1 = H at hP hS ⊢
          refine lv_if_ne (tgt := 99) hx hb d_Bm_makeKey_52 (by decide) (fun c_10 => ?_) (fun c_10 => ?_)
          · -- taken
            refine lv_iconst (v := 0) hx hb d_Bm_makeKey_99 (by decide) ?_
            exact W.iret (v := 0) hx hb hr (fun t ht9 hW => ⟨⟨_, (), rfl, trivial, by rw [ht9]; exact hP, va_K.moved hW.alike hK, hD⟩, hS.F ht9⟩) hS.2.2 d_Bm_makeKey_100
          · -- not taken
            exact absurd c_10 (by decide)
def kC2r (Q N : Nat) (x : Int32) (a b : Int64) : Prop := ¬ (inN x N ∧ in_ex Q a ∧ in_ex Q b)
set_option maxHeartbeats 8000000 in
set_option maxRecDepth 100000 in
theorem c_Bm_makeKey_2 (l : Launch) (dC : Nat → ClassId) (dI : Nat → Nat → Nat) (cJ cI : ClassId) (sz : Nat) (m0 : Nat) (e0 : Int32) (N n bc P Q G al pa pb : Nat) (cl : Int32) (a0 a1 a2 a3 a4 a5 a6 a7 a8 a9 b0 b1 oc b2 b3 b4 b5 : Nat) (bf sc st kf : Nat → Int32) (tf nf cf ky lf : Nat → Int64) (ko : Nat → Nat) (x1 : Int32) (x2 x3 : Int64) (hN : N ≤ 4) (hgr : 0 < N → gfx P Q G) (hcl : cl = 0 ∨ cl = 1) (hn : n ≤ 154) (hrk : rK 4 n ko kf ky) (hko : ∀ j, ko j < 2 ^ 61) (hC1 : ¬ kC1 N cl ko x1) (hC2 : kC2r Q N x1 x2 x3) : Met l y_Bm_makeKey w_Bm_makeKey ({ frames := 7, cells := 0, slots := 0, locals := 204 }) (va_Pc [.ref m0, .int x1, .long x2, .long x3] (fun U => U.heap.size = sz ∧ va_P (dC, dI) classes (mo_ws m0 e0 (nI N) (nI n) (nI bc) (lN P) (lN Q) (lN G) (lN al) (lN pa) (lN pb) cl a0 a1 a2 a3 a4 a5 a6 a7 a8 a9 b0 b1 oc b2 b3 b4 b5 ++ (iw_ws a7 cI 256 bf ++ (iw_ws a8 cI 64 sc ++ (iw_ws a9 cI 8 st ++ (iw_ws b0 cI 8 kS ++ (iw_ws b1 cI 64 kR ++ (jw_ws a2 cJ 4 tf ++ (jw_ws a0 cJ 1232 nf ++ (jw_ws a1 cJ 616 cf ++ (iw_ws a4 cI 4 kf ++ (jw_ws b2 cJ 4 ky ++ (jw_ws a3 cJ 16 lf)))))))))))) U.heap ∧ va_K (dC, dI) classes [(cJ, .long), (cI, .int)] U ∧ va_D (fun _ => True) (mo_ws m0 e0 (nI N) (nI n) (nI bc) (lN P) (lN Q) (lN G) (lN al) (lN pa) (lN pb) cl a0 a1 a2 a3 a4 a5 a6 a7 a8 a9 b0 b1 oc b2 b3 b4 b5 ++ (iw_ws a7 cI 256 bf ++ (iw_ws a8 cI 64 sc ++ (iw_ws a9 cI 8 st ++ (iw_ws b0 cI 8 kS ++ (iw_ws b1 cI 64 kR ++ (jw_ws a2 cJ 4 tf ++ (jw_ws a0 cJ 1232 nf ++ (jw_ws a1 cJ 616 cf ++ (iw_ws a4 cI 4 kf ++ (jw_ws b2 cJ 4 ky ++ (jw_ws a3 cJ 16 lf)))))))))))))) (va_Qi (fun (r : Int32) (_ : Unit) => True) (fun _ t => va_P (dC, dI) classes (mo_ws m0 2 (nI N) (nI n) (nI bc) (lN P) (lN Q) (lN G) (lN al) (lN pa) (lN pb) cl a0 a1 a2 a3 a4 a5 a6 a7 a8 a9 b0 b1 oc b2 b3 b4 b5 ++ (iw_ws a7 cI 256 bf ++ (iw_ws a8 cI 64 sc ++ (iw_ws a9 cI 8 st ++ (iw_ws b0 cI 8 kS ++ (iw_ws b1 cI 64 kR ++ (jw_ws a2 cJ 4 tf ++ (jw_ws a0 cJ 1232 nf ++ (jw_ws a1 cJ 616 cf ++ (iw_ws a4 cI 4 kf ++ (jw_ws b2 cJ 4 ky ++ (jw_ws a3 cJ 16 lf)))))))))))) t.heap ∧ va_K (dC, dI) classes [(cJ, .long), (cI, .int)] t ∧ va_D (va_A (mo_ws m0 e0 (nI N) (nI n) (nI bc) (lN P) (lN Q) (lN G) (lN al) (lN pa) (lN pb) cl a0 a1 a2 a3 a4 a5 a6 a7 a8 a9 b0 b1 oc b2 b3 b4 b5 ++ (iw_ws a7 cI 256 bf ++ (iw_ws a8 cI 64 sc ++ (iw_ws a9 cI 8 st ++ (iw_ws b0 cI 8 kS ++ (iw_ws b1 cI 64 kR ++ (jw_ws a2 cJ 4 tf ++ (jw_ws a0 cJ 1232 nf ++ (jw_ws a1 cJ 616 cf ++ (iw_ws a4 cI 4 kf ++ (jw_ws b2 cJ 4 ky ++ (jw_ws a3 cJ 16 lf)))))))))))) sz) (mo_ws m0 2 (nI N) (nI n) (nI bc) (lN P) (lN Q) (lN G) (lN al) (lN pa) (lN pb) cl a0 a1 a2 a3 a4 a5 a6 a7 a8 a9 b0 b1 oc b2 b3 b4 b5 ++ (iw_ws a7 cI 256 bf ++ (iw_ws a8 cI 64 sc ++ (iw_ws a9 cI 8 st ++ (iw_ws b0 cI 8 kS ++ (iw_ws b1 cI 64 kR ++ (jw_ws a2 cJ 4 tf ++ (jw_ws a0 cJ 1232 nf ++ (jw_ws a1 cJ 616 cf ++ (iw_ws a4 cI 4 kf ++ (jw_ws b2 cJ 4 ky ++ (jw_ws a3 cJ 16 lf))))))))))))) (va_A (mo_ws m0 e0 (nI N) (nI n) (nI bc) (lN P) (lN Q) (lN G) (lN al) (lN pa) (lN pb) cl a0 a1 a2 a3 a4 a5 a6 a7 a8 a9 b0 b1 oc b2 b3 b4 b5 ++ (iw_ws a7 cI 256 bf ++ (iw_ws a8 cI 64 sc ++ (iw_ws a9 cI 8 st ++ (iw_ws b0 cI 8 kS ++ (iw_ws b1 cI 64 kR ++ (jw_ws a2 cJ 4 tf ++ (jw_ws a0 cJ 1232 nf ++ (jw_ws a1 cJ 616 cf ++ (iw_ws a4 cI 4 kf ++ (jw_ws b2 cJ 4 ky ++ (jw_ws a3 cJ 16 lf)))))))))))) sz)) 0 0 (va_A (mo_ws m0 e0 (nI N) (nI n) (nI bc) (lN P) (lN Q) (lN G) (lN al) (lN pa) (lN pb) cl a0 a1 a2 a3 a4 a5 a6 a7 a8 a9 b0 b1 oc b2 b3 b4 b5 ++ (iw_ws a7 cI 256 bf ++ (iw_ws a8 cI 64 sc ++ (iw_ws a9 cI 8 st ++ (iw_ws b0 cI 8 kS ++ (iw_ws b1 cI 64 kR ++ (jw_ws a2 cJ 4 tf ++ (jw_ws a0 cJ 1232 nf ++ (jw_ws a1 cJ 616 cf ++ (iw_ws a4 cI 4 kf ++ (jw_ws b2 cJ 4 ky ++ (jw_ws a3 cJ 16 lf)))))))))))) sz) := by
  refine Met.ofW (cc := b_Bm_makeKey) (maxL := 10) (ret := (some .int)) (by decide) rfl ?_
  intro p e s m args below meth c s₁ Bd hml hv
  obtain ⟨rfl, hsz, hP, hK, hD0⟩ := hv
  have hx := Bd.exec
  have hb := Bd.bytes
  have hr := Bd.returns
  have hts := atoms_spec (ws := w_Bm_makeKey) Bd.pre
  have hown : s.vm.findClass "BallotBoardModel" = some m.cls := findClass_of_methodNamed Bd.named
  have hlocks := Bd.notSynchronized
  subst hsz
  have hD := hD0.self (sz := s.heap.size)
  generalize hAe : va_A (mo_ws m0 e0 (nI N) (nI n) (nI bc) (lN P) (lN Q) (lN G) (lN al) (lN pa) (lN pb) cl a0 a1 a2 a3 a4 a5 a6 a7 a8 a9 b0 b1 oc b2 b3 b4 b5 ++ (iw_ws a7 cI 256 bf ++ (iw_ws a8 cI 64 sc ++ (iw_ws a9 cI 8 st ++ (iw_ws b0 cI 8 kS ++ (iw_ws b1 cI 64 kR ++ (jw_ws a2 cJ 4 tf ++ (jw_ws a0 cJ 1232 nf ++ (jw_ws a1 cJ 616 cf ++ (iw_ws a4 cI 4 kf ++ (jw_ws b2 cJ 4 ky ++ (jw_ws a3 cJ 16 lf)))))))))))) s.heap.size = A at hD ⊢
  have hA : ∀ q : Nat, s.heap.size ≤ q → A q := fun q h => by rw [← hAe]; exact Or.inr h
  have hS : va_S A s.heap s.heap [] := va_S.rf
  have hl := lv_entry ([.ref m0, .int x1, .long x2, .long x3]) (n := 10) (Nat.le_of_ble_eq_true rfl)
  rw [lg_entry_eq]
  generalize (lg_sl ([.ref m0, .int x1, .long x2, .long x3]) ++ List.replicate (10 - (lg_sl ([.ref m0, .int x1, .long x2, .long x3])).length) Slot.unset).toArray = ls at hl ⊢
  have hl : lv_has ls 10 [(0, .ref m0), (1, .int x1), (2, .long x2), (4, .long x3)] := hl
  refine lv_aload_n hx hb d_Bm_makeKey_0 rfl (lv_at hl 0 rfl) ?_
  refine lv_iconst (v := 0) hx hb d_Bm_makeKey_1 (by decide) ?_
  refine va_put (D := (dC, dI)) (ci := 8) (v := .int 0) (ty := .int) (C := "BallotBoardModel") (T := F_Bm) (N := 28) hx hb hts (fun w9 h9 => List.mem_cons_of_mem _ (i_Bm w9 h9)) t_Bm t_Bm_ok n_Bm hown hK hP hD hS 0 rfl rfl 0 (by decide) (hts _ (List.mem_cons_of_mem _ gk_919)) (fun _ h9 => h9) rfl (by decide +kernel) rfl rfl (Nat.le_of_ble_eq_true rfl) d_Bm_makeKey_2 (fun H locs hP hD hS => ?_)
  have hP : va_P (dC, dI) classes [(m0, .inr (8, [.int 0, .int (nI N), .int (nI n), .int (nI bc), .long (lN P), .long (lN Q), .long (lN G), .long (lN al), .long (lN pa), .long (lN pb), .int cl, .ref a0, .ref a1, .ref a2, .ref a3, .ref a4, .ref a5, .ref a6, .ref a7, .ref a8, .ref a9, .ref b0, .ref b1, .int (nI oc), .ref b2, .ref b3, .ref b4, .ref b5])), (a7, .inl (cI, 256, .inl bf)), (a8, .inl (cI, 64, .inl sc)), (a9, .inl (cI, 8, .inl st)), (b0, .inl (cI, 8, .inl kS)), (b1, .inl (cI, 64, .inl kR)), (a2, .inl (cJ, 4, .inr (.inl tf))), (a0, .inl (cJ, 1232, .inr (.inl nf))), (a1, .inl (cJ, 616, .inr (.inl cf))), (a4, .inl (cI, 4, .inl kf)), (b2, .inl (cJ, 4, .inr (.inl ky))), (a3, .inl (cJ, 16, .inr (.inl lf)))] H := hP
  have hD : va_D A [(m0, .inr (8, [.int 0, .int (nI N), .int (nI n), .int (nI bc), .long (lN P), .long (lN Q), .long (lN G), .long (lN al), .long (lN pa), .long (lN pb), .int cl, .ref a0, .ref a1, .ref a2, .ref a3, .ref a4, .ref a5, .ref a6, .ref a7, .ref a8, .ref a9, .ref b0, .ref b1, .int (nI oc), .ref b2, .ref b3, .ref b4, .ref b5])), (a7, .inl (cI, 256, .inl bf)), (a8, .inl (cI, 64, .inl sc)), (a9, .inl (cI, 8, .inl st)), (b0, .inl (cI, 8, .inl kS)), (b1, .inl (cI, 64, .inl kR)), (a2, .inl (cJ, 4, .inr (.inl tf))), (a0, .inl (cJ, 1232, .inr (.inl nf))), (a1, .inl (cJ, 616, .inr (.inl cf))), (a4, .inl (cI, 4, .inl kf)), (b2, .inl (cJ, 4, .inr (.inl ky))), (a3, .inl (cJ, 16, .inr (.inl lf)))] := hD
  refine lv_aload_n hx hb d_Bm_makeKey_5 rfl (lv_at hl 0 rfl) ?_
  refine lv_aload_n hx hb d_Bm_makeKey_6 rfl (lv_at hl 0 rfl) ?_
  refine va_get (D := (dC, dI)) (ci := 8) (v := .int (nI N)) (C := "BallotBoardModel") (T := F_Bm) (N := 28) hx hb hts (fun w9 h9 => List.mem_cons_of_mem _ (i_Bm w9 h9)) hown hK hP 0 rfl rfl 1 (by decide) (hts _ (List.mem_cons_of_mem _ gk_920)) (fun _ h9 => h9) rfl d_Bm_makeKey_7 ?_
  refine lv_if_eq (tgt := 43) hx hb d_Bm_makeKey_10 (by decide) (fun c_1 => ?_) (fun c_1 => ?_)
  · -- taken
    exact absurd (Or.inl (nI_inj (b := 0) (by omega) (by omega) c_1)) hC1
  · -- not taken
    have hN0 : 0 < N := Nat.pos_of_ne_zero (fun h => c_1 (by rw [h]; rfl))
    obtain ⟨hPQ, h61F, hQ3, hG2, hGP, hGQ⟩ := hgr hN0
    refine lv_aload_n hx hb d_Bm_makeKey_13 rfl (lv_at hl 0 rfl) ?_
    refine va_get (D := (dC, dI)) (ci := 8) (v := .int cl) (C := "BallotBoardModel") (T := F_Bm) (N := 28) hx hb hts (fun w9 h9 => List.mem_cons_of_mem _ (i_Bm w9 h9)) hown hK hP 0 rfl rfl 10 (by decide) (hts _ (List.mem_cons_of_mem _ gk_929)) (fun _ h9 => h9) rfl d_Bm_makeKey_14 ?_
    refine lv_if_ne (tgt := 43) hx hb d_Bm_makeKey_17 (by decide) (fun c_2 => ?_) (fun c_2 => ?_)
    · -- taken
      exact absurd (Or.inr (Or.inl (hcl.resolve_left c_2))) hC1
    · -- not taken
      have hcl0 : cl = 0 := c_2
      refine lv_iload_n hx hb d_Bm_makeKey_20 rfl (lv_at hl 1 rfl) ?_
      refine lv_iconst (v := 0) hx hb d_Bm_makeKey_21 (by decide) ?_
      refine lv_aload_n hx hb d_Bm_makeKey_22 rfl (lv_at hl 0 rfl) ?_
      refine va_get (D := (dC, dI)) (ci := 8) (v := .int (nI N)) (C := "BallotBoardModel") (T := F_Bm) (N := 28) hx hb hts (fun w9 h9 => List.mem_cons_of_mem _ (i_Bm w9 h9)) hown hK hP 0 rfl rfl 1 (by decide) (hts _ (List.mem_cons_of_mem _ gk_920)) (fun _ h9 => h9) rfl d_Bm_makeKey_23 ?_
      refine lv_iconst (v := 1) hx hb d_Bm_makeKey_26 (by decide) ?_
      refine lv_isub hx hb d_Bm_makeKey_27 ?_
      rw [show ((nI N) - 1 : Int32) = (nI (N - 1)) from nI_subI (b := 1) (by omega) rfl]
      refine va_calli (va_runS (As := [.int x1, .int 0, .int (nI (N - 1))]) (rest := [.ref m0]) ⟨hx, hb, hml, hown, hts⟩ (c_Bm_in l H x1 0 (nI (N - 1))) (cwS 3 hts (gw_S gk_1027 gk_1028 gk_7 gk_1029) rfl rfl rfl (by decide +kernel) ⟨Nat.le_of_ble_eq_true rfl, Nat.le_of_ble_eq_true rfl⟩) ⟨fun a U g mk q => q, fun U hU hW => ⟨rfl, hU⟩⟩ rfl rfl hl.1 rfl (lv_room (Nat.le_of_ble_eq_true rfl)) d_Bm_makeKey_28 ⟨Nat.le_of_ble_eq_true rfl, Nat.le_of_ble_eq_true rfl⟩) hS (fun q _ h => h.elim) (fun q h => h.elim) (fun r28 u9 t9 H1 locs ht hvm hw hB hz1 hk1 hS => ?_)
      obtain rfl : H = H1 := hB.symm.trans ht
      have h28 : bz r28 (inN x1 N) := bz_in hN0 (by omega) rfl hw
      refine lv_if_eq (tgt := 47) hx hb d_Bm_makeKey_31 (by decide) (fun c_3 => ?_) (fun c_3 => ?_)
      · -- taken
        have hni := bz_f h28 c_3
        refine lv_iconst (v := 0) hx hb d_Bm_makeKey_47 (by decide) ?_
        refine lv_iconst (v := 1) hx hb d_Bm_makeKey_48 (by decide) ?_
        have hPc := hP.sub (ws' := (mo_ws m0 0 (nI N) (nI n) (nI bc) (lN P) (lN Q) (lN G) (lN al) (lN pa) (lN pb) cl a0 a1 a2 a3 a4 a5 a6 a7 a8 a9 b0 b1 oc b2 b3 b4 b5)) [0] rfl
        have hDc := hD.sub (ws' := (mo_ws m0 0 (nI N) (nI n) (nI bc) (lN P) (lN Q) (lN G) (lN al) (lN pa) (lN pb) cl a0 a1 a2 a3 a4 a5 a6 a7 a8 a9 b0 b1 oc b2 b3 b4 b5)) [0] (by decide) rfl
        have hKc := hK.sub (tys' := [(cJ, .long), (cI, .int)]) [0, 1] rfl
        have hFc := va_free (wc := (mo_ws m0 0 (nI N) (nI n) (nI bc) (lN P) (lN Q) (lN G) (lN al) (lN pa) (lN pb) cl a0 a1 a2 a3 a4 a5 a6 a7 a8 a9 b0 b1 oc b2 b3 b4 b5)) hD hS hA [0] rfl
        refine va_calli (va_runV (As := [.int 0, .int 1]) (rest := []) ⟨hx, hb, hml, hown, hts⟩ (c_Bm_fails_0 l dC dI cJ cI H.size m0 (nI N) (nI n) (nI bc) (lN P) (lN Q) (lN G) (lN al) (lN pa) (lN pb) cl a0 a1 a2 a3 a4 a5 a6 a7 a8 a9 b0 b1 oc b2 b3 b4 b5 1) (cwV 2 hts (gw_V gk_1030 gk_1032 gp_27 gk_7 gk_1033) rfl rfl rfl (by decide +kernel) ⟨Nat.le_of_ble_eq_true rfl, Nat.le_of_ble_eq_true rfl⟩) ⟨fun a U g mk q => by obtain ⟨q0, q1, qP, qK, qD⟩ := q; exact ⟨q0, q1, qP, va_K.moved (u := U) (U := U.calling g mk a) (Vm.Alike.refl U.vm) qK, qD⟩, va_recv hK hP (ci := 8) (q0 := 0) rfl rfl, fun U hU hW => ⟨rfl, by rw [hU], by rw [hU]; exact hPc, va_K.moved hW.alike hKc, hDc.weaken (fun _ _ _ _ => trivial)⟩⟩ rfl rfl hl.1 rfl (lv_room (Nat.le_of_ble_eq_true rfl)) d_Bm_makeKey_49 ⟨Nat.le_of_ble_eq_true rfl, Nat.le_of_ble_eq_true rfl⟩) hS (fun q _ h => hFc q h) hFc (fun r_4 u9 t9 H1 locs ht hvm hw hB hz1 hk1 hS => ?_)
        have hw : r_4 = 0 := hw
        subst hw
        obtain ⟨hP1, hK1, hD1⟩ := hB
        rw [ht] at hP1
        obtain ⟨hP, hD⟩ := va_join (wr := [(a7, .inl (cI, 256, .inl bf)), (a8, .inl (cI, 64, .inl sc)), (a9, .inl (cI, 8, .inl st)), (b0, .inl (cI, 8, .inl kS)), (b1, .inl (cI, 64, .inl kR)), (a2, .inl (cJ, 4, .inr (.inl tf))), (a0, .inl (cJ, 1232, .inr (.inl nf))), (a1, .inl (cJ, 616, .inr (.inl cf))), (a4, .inl (cI, 4, .inl kf)), (b2, .inl (cJ, 4, .inr (.inl ky))), (a3, .inl (cJ, 16, .inr (.inl lf)))]) (w1 := [(m0, .inr (8, [.int 0, .int (nI N), .int (nI n), .int (nI bc), .long (lN P), .long (lN Q), .long (lN G), .long (lN al), .long (lN pa), .long (lN pb), .int cl, .ref a0, .ref a1, .ref a2, .ref a3, .ref a4, .ref a5, .ref a6, .ref a7, .ref a8, .ref a9, .ref b0, .ref b1, .int (nI oc), .ref b2, .ref b3, .ref b4, .ref b5]))]) hP hD [0] [1, 2, 3, 4, 5, 6, 7, 8, 9, 10, 11] rfl rfl (by decide) (by decide) hk1 hFc hP1 hD1
        have hP := hP.sub (ws' := [(m0, .inr (8, [.int 0, .int (nI N), .int (nI n), .int (nI bc), .long (lN P), .long (lN Q), .long (lN G), .long (lN al), .long (lN pa), .long (lN pb), .int cl, .ref a0, .ref a1, .ref a2, .ref a3, .ref a4, .ref a5, .ref a6, .ref a7, .ref a8, .ref a9, .ref b0, .ref b1, .int (nI oc), .ref b2, .ref b3, .ref b4, .ref b5])), (a7, .inl (cI, 256, .inl bf)), (a8, .inl (cI, 64, .inl sc)), (a9, .inl (cI, 8, .inl st)), (b0, .inl (cI, 8, .inl kS)), (b1, .inl (cI, 64, .inl kR)), (a2, .inl (cJ, 4, .inr (.inl tf))), (a0, .inl (cJ, 1232, .inr (.inl nf))), (a1, .inl (cJ, 616, .inr (.inl cf))), (a4, .inl (cI, 4, .inl kf)), (b2, .inl (cJ, 4, .inr (.inl ky))), (a3, .inl (cJ, 16, .inr (.inl lf)))]) [11, 0, 1, 2, 3, 4, 5, 6, 7, 8, 9, 10] rfl
        have hD := hD.sub (ws' := [(m0, .inr (8, [.int 0, .int (nI N), .int (nI n), .int (nI bc), .long (lN P), .long (lN Q), .long (lN G), .long (lN al), .long (lN pa), .long (lN pb), .int cl, .ref a0, .ref a1, .ref a2, .ref a3, .ref a4, .ref a5, .ref a6, .ref a7, .ref a8, .ref a9, .ref b0, .ref b1, .int (nI oc), .ref b2, .ref b3, .ref b4, .ref b5])), (a7, .inl (cI, 256, .inl bf)), (a8, .inl (cI, 64, .inl sc)), (a9, .inl (cI, 8, .inl st)), (b0, .inl (cI, 8, .inl kS)), (b1, .inl (cI, 64, .inl kR)), (a2, .inl (cJ, 4, .inr (.inl tf))), (a0, .inl (cJ, 1232, .inr (.inl nf))), (a1, .inl (cJ, 616, .inr (.inl cf))), (a4, .inl (cI, 4, .inl kf)), (b2, .inl (cJ, 4, .inr (.inl ky))), (a3, .inl (cJ, 16, .inr (.inl lf)))]) [11, 0, 1, 2, 3, 4, 5, 6, 7, 8, 9, 10] (by decide) rfl
        generalize H1 = H at hP hS ⊢
        refine lv_if_ne (tgt := 99) hx hb d_Bm_makeKey_52 (by decide) (fun c_5 => ?_) (fun c_5 => ?_)
        · -- taken
          exact absurd rfl c_5
        · -- not taken
          refine lv_aload_n hx hb d_Bm_makeKey_55 rfl (lv_at hl 0 rfl) ?_
          refine lv_iload_n hx hb d_Bm_makeKey_56 rfl (lv_at hl 1 rfl) ?_
          refine lv_iconst (v := 0) hx hb d_Bm_makeKey_57 (by decide) ?_
          refine lv_aload_n hx hb d_Bm_makeKey_58 rfl (lv_at hl 0 rfl) ?_
          refine va_get (D := (dC, dI)) (ci := 8) (v := .int (nI N)) (C := "BallotBoardModel") (T := F_Bm) (N := 28) hx hb hts (fun w9 h9 => List.mem_cons_of_mem _ (i_Bm w9 h9)) hown hK hP 0 rfl rfl 1 (by decide) (hts _ (List.mem_cons_of_mem _ gk_920)) (fun _ h9 => h9) rfl d_Bm_makeKey_59 ?_
          refine lv_iconst (v := 1) hx hb d_Bm_makeKey_62 (by decide) ?_
          refine lv_isub hx hb d_Bm_makeKey_63 ?_
          rw [show ((nI N) - 1 : Int32) = (nI (N - 1)) from nI_subI (b := 1) (by omega) rfl]
          refine va_calli (va_runS (As := [.int x1, .int 0, .int (nI (N - 1))]) (rest := [.ref m0]) ⟨hx, hb, hml, hown, hts⟩ (c_Bm_in l H x1 0 (nI (N - 1))) (cwS 3 hts (gw_S gk_1027 gk_1028 gk_7 gk_1029) rfl rfl rfl (by decide +kernel) ⟨Nat.le_of_ble_eq_true rfl, Nat.le_of_ble_eq_true rfl⟩) ⟨fun a U g mk q => q, fun U hU hW => ⟨rfl, hU⟩⟩ rfl rfl hl.1 rfl (lv_room (Nat.le_of_ble_eq_true rfl)) d_Bm_makeKey_64 ⟨Nat.le_of_ble_eq_true rfl, Nat.le_of_ble_eq_true rfl⟩) hS (fun q _ h => h.elim) (fun q h => h.elim) (fun r64 u9 t9 H1 locs ht hvm hw hB hz1 hk1 hS => ?_)
          obtain rfl : H = H1 := hB.symm.trans ht
          have h64 : bz r64 (inN x1 N) := bz_in hN0 (by omega) rfl hw
          refine lv_if_eq (tgt := 87) hx hb d_Bm_makeKey_67 (by decide) (fun c_6 => ?_) (fun c_6 => ?_)
          · -- taken
            have hni2 := bz_f h64 c_6
            refine lv_iconst (v := 1) hx hb d_Bm_makeKey_87 (by decide) ?_
            refine lv_goto (tgt := 92) hx hb d_Bm_makeKey_88 (by decide) ?_
            refine lv_iconst (v := 2) hx hb d_Bm_makeKey_92 (by decide) ?_
            have hPc := hP.sub (ws' := (mo_ws m0 0 (nI N) (nI n) (nI bc) (lN P) (lN Q) (lN G) (lN al) (lN pa) (lN pb) cl a0 a1 a2 a3 a4 a5 a6 a7 a8 a9 b0 b1 oc b2 b3 b4 b5)) [0] rfl
            have hDc := hD.sub (ws' := (mo_ws m0 0 (nI N) (nI n) (nI bc) (lN P) (lN Q) (lN G) (lN al) (lN pa) (lN pb) cl a0 a1 a2 a3 a4 a5 a6 a7 a8 a9 b0 b1 oc b2 b3 b4 b5)) [0] (by decide) rfl
            have hKc := hK.sub (tys' := [(cJ, .long), (cI, .int)]) [0, 1] rfl
            have hFc := va_free (wc := (mo_ws m0 0 (nI N) (nI n) (nI bc) (lN P) (lN Q) (lN G) (lN al) (lN pa) (lN pb) cl a0 a1 a2 a3 a4 a5 a6 a7 a8 a9 b0 b1 oc b2 b3 b4 b5)) hD hS hA [0] rfl
            refine va_calli (va_runV (As := [.int 1, .int 2]) (rest := []) ⟨hx, hb, hml, hown, hts⟩ (c_Bm_fails_1 l dC dI cJ cI H.size m0 (nI N) (nI n) (nI bc) (lN P) (lN Q) (lN G) (lN al) (lN pa) (lN pb) cl a0 a1 a2 a3 a4 a5 a6 a7 a8 a9 b0 b1 oc b2 b3 b4 b5 2 (by decide)) (cwV 2 hts (gw_V gk_1030 gk_1032 gp_27 gk_7 gk_1033) rfl rfl rfl (by decide +kernel) ⟨Nat.le_of_ble_eq_true rfl, Nat.le_of_ble_eq_true rfl⟩) ⟨fun a U g mk q => by obtain ⟨q0, q1, qP, qK, qD⟩ := q; exact ⟨q0, q1, qP, va_K.moved (u := U) (U := U.calling g mk a) (Vm.Alike.refl U.vm) qK, qD⟩, va_recv hK hP (ci := 8) (q0 := 0) rfl rfl, fun U hU hW => ⟨rfl, by rw [hU], by rw [hU]; exact hPc, va_K.moved hW.alike hKc, hDc.weaken (fun _ _ _ _ => trivial)⟩⟩ rfl rfl hl.1 rfl (lv_room (Nat.le_of_ble_eq_true rfl)) d_Bm_makeKey_93 ⟨Nat.le_of_ble_eq_true rfl, Nat.le_of_ble_eq_true rfl⟩) hS (fun q _ h => hFc q h) hFc (fun r_7 u9 t9 H1 locs ht hvm hw hB hz1 hk1 hS => ?_)
            have hw : r_7 = 1 := hw
            subst hw
            obtain ⟨hP1, hK1, hD1⟩ := hB
            rw [ht] at hP1
            obtain ⟨hP, hD⟩ := va_join (wr := [(a7, .inl (cI, 256, .inl bf)), (a8, .inl (cI, 64, .inl sc)), (a9, .inl (cI, 8, .inl st)), (b0, .inl (cI, 8, .inl kS)), (b1, .inl (cI, 64, .inl kR)), (a2, .inl (cJ, 4, .inr (.inl tf))), (a0, .inl (cJ, 1232, .inr (.inl nf))), (a1, .inl (cJ, 616, .inr (.inl cf))), (a4, .inl (cI, 4, .inl kf)), (b2, .inl (cJ, 4, .inr (.inl ky))), (a3, .inl (cJ, 16, .inr (.inl lf)))]) (w1 := [(m0, .inr (8, [.int 2, .int (nI N), .int (nI n), .int (nI bc), .long (lN P), .long (lN Q), .long (lN G), .long (lN al), .long (lN pa), .long (lN pb), .int cl, .ref a0, .ref a1, .ref a2, .ref a3, .ref a4, .ref a5, .ref a6, .ref a7, .ref a8, .ref a9, .ref b0, .ref b1, .int (nI oc), .ref b2, .ref b3, .ref b4, .ref b5]))]) hP hD [0] [1, 2, 3, 4, 5, 6, 7, 8, 9, 10, 11] rfl rfl (by decide) (by decide) hk1 hFc hP1 hD1
            have hP := hP.sub (ws' := [(m0, .inr (8, [.int 2, .int (nI N), .int (nI n), .int (nI bc), .long (lN P), .long (lN Q), .long (lN G), .long (lN al), .long (lN pa), .long (lN pb), .int cl, .ref a0, .ref a1, .ref a2, .ref a3, .ref a4, .ref a5, .ref a6, .ref a7, .ref a8, .ref a9, .ref b0, .ref b1, .int (nI oc), .ref b2, .ref b3, .ref b4, .ref b5])), (a7, .inl (cI, 256, .inl bf)), (a8, .inl (cI, 64, .inl sc)), (a9, .inl (cI, 8, .inl st)), (b0, .inl (cI, 8, .inl kS)), (b1, .inl (cI, 64, .inl kR)), (a2, .inl (cJ, 4, .inr (.inl tf))), (a0, .inl (cJ, 1232, .inr (.inl nf))), (a1, .inl (cJ, 616, .inr (.inl cf))), (a4, .inl (cI, 4, .inl kf)), (b2, .inl (cJ, 4, .inr (.inl ky))), (a3, .inl (cJ, 16, .inr (.inl lf)))]) [11, 0, 1, 2, 3, 4, 5, 6, 7, 8, 9, 10] rfl
            have hD := hD.sub (ws' := [(m0, .inr (8, [.int 2, .int (nI N), .int (nI n), .int (nI bc), .long (lN P), .long (lN Q), .long (lN G), .long (lN al), .long (lN pa), .long (lN pb), .int cl, .ref a0, .ref a1, .ref a2, .ref a3, .ref a4, .ref a5, .ref a6, .ref a7, .ref a8, .ref a9, .ref b0, .ref b1, .int (nI oc), .ref b2, .ref b3, .ref b4, .ref b5])), (a7, .inl (cI, 256, .inl bf)), (a8, .inl (cI, 64, .inl sc)), (a9, .inl (cI, 8, .inl st)), (b0, .inl (cI, 8, .inl kS)), (b1, .inl (cI, 64, .inl kR)), (a2, .inl (cJ, 4, .inr (.inl tf))), (a0, .inl (cJ, 1232, .inr (.inl nf))), (a1, .inl (cJ, 616, .inr (.inl cf))), (a4, .inl (cI, 4, .inl kf)), (b2, .inl (cJ, 4, .inr (.inl ky))), (a3, .inl (cJ, 16, .inr (.inl lf)))]) [11, 0, 1, 2, 3, 4, 5, 6, 7, 8, 9, 10] (by decide) rfl
            generalize H1 = H at hP hS ⊢
            refine lv_if_eq (tgt := 101) hx hb d_Bm_makeKey_96 (by decide) (fun c_8 => ?_) (fun c_8 => ?_)
            · -- taken
              exact absurd c_8 (by decide)
            · -- not taken
              refine lv_iconst (v := 0) hx hb d_Bm_makeKey_99 (by decide) ?_
              exact W.iret (v := 0) hx hb hr (fun t ht9 hW => ⟨⟨_, (), rfl, trivial, by rw [ht9]; exact hP, va_K.moved hW.alike hK, hD⟩, hS.F ht9⟩) hS.2.2 d_Bm_makeKey_100
          · -- not taken
            exact absurd (bz_t h64 c_6) hni
      · -- not taken
        obtain ⟨I, rfl, hI⟩ := bz_t h28 c_3
        refine lv_aload_n hx hb d_Bm_makeKey_34 rfl (lv_at hl 0 rfl) ?_
        refine va_get (D := (dC, dI)) (ci := 8) (v := .ref a4) (C := "BallotBoardModel") (T := F_Bm) (N := 28) hx hb hts (fun w9 h9 => List.mem_cons_of_mem _ (i_Bm w9 h9)) hown hK hP 0 rfl rfl 15 (by decide) (hts _ (List.mem_cons_of_mem _ gk_934)) (fun _ h9 => h9) rfl d_Bm_makeKey_35 ?_
        refine lv_iload_n hx hb d_Bm_makeKey_38 rfl (lv_at hl 1 rfl) ?_
        refine va_iald hx hb hK hP 9 1 rfl rfl (vp_in_nI (by omega) (by omega)) d_Bm_makeKey_39 ?_
        rw [show (kf (nI I : Int32).toNatClampNeg : Int32) = kf I from by rw [nI_clamp (by omega)]]
        refine lv_if_lt (tgt := 47) hx hb d_Bm_makeKey_40 (by decide) (fun c_9 => ?_) (fun c_9 => ?_)
        · -- taken
          have hk9 : ko I = 0 := (rK_neg hrk hn (show I < 4 by omega)).mp c_9
          refine lv_iconst (v := 0) hx hb d_Bm_makeKey_47 (by decide) ?_
          refine lv_iconst (v := 1) hx hb d_Bm_makeKey_48 (by decide) ?_
          have hPc := hP.sub (ws' := (mo_ws m0 0 (nI N) (nI n) (nI bc) (lN P) (lN Q) (lN G) (lN al) (lN pa) (lN pb) cl a0 a1 a2 a3 a4 a5 a6 a7 a8 a9 b0 b1 oc b2 b3 b4 b5)) [0] rfl
          have hDc := hD.sub (ws' := (mo_ws m0 0 (nI N) (nI n) (nI bc) (lN P) (lN Q) (lN G) (lN al) (lN pa) (lN pb) cl a0 a1 a2 a3 a4 a5 a6 a7 a8 a9 b0 b1 oc b2 b3 b4 b5)) [0] (by decide) rfl
          have hKc := hK.sub (tys' := [(cJ, .long), (cI, .int)]) [0, 1] rfl
          have hFc := va_free (wc := (mo_ws m0 0 (nI N) (nI n) (nI bc) (lN P) (lN Q) (lN G) (lN al) (lN pa) (lN pb) cl a0 a1 a2 a3 a4 a5 a6 a7 a8 a9 b0 b1 oc b2 b3 b4 b5)) hD hS hA [0] rfl
          refine va_calli (va_runV (As := [.int 0, .int 1]) (rest := []) ⟨hx, hb, hml, hown, hts⟩ (c_Bm_fails_0 l dC dI cJ cI H.size m0 (nI N) (nI n) (nI bc) (lN P) (lN Q) (lN G) (lN al) (lN pa) (lN pb) cl a0 a1 a2 a3 a4 a5 a6 a7 a8 a9 b0 b1 oc b2 b3 b4 b5 1) (cwV 2 hts (gw_V gk_1030 gk_1032 gp_27 gk_7 gk_1033) rfl rfl rfl (by decide +kernel) ⟨Nat.le_of_ble_eq_true rfl, Nat.le_of_ble_eq_true rfl⟩) ⟨fun a U g mk q => by obtain ⟨q0, q1, qP, qK, qD⟩ := q; exact ⟨q0, q1, qP, va_K.moved (u := U) (U := U.calling g mk a) (Vm.Alike.refl U.vm) qK, qD⟩, va_recv hK hP (ci := 8) (q0 := 0) rfl rfl, fun U hU hW => ⟨rfl, by rw [hU], by rw [hU]; exact hPc, va_K.moved hW.alike hKc, hDc.weaken (fun _ _ _ _ => trivial)⟩⟩ rfl rfl hl.1 rfl (lv_room (Nat.le_of_ble_eq_true rfl)) d_Bm_makeKey_49 ⟨Nat.le_of_ble_eq_true rfl, Nat.le_of_ble_eq_true rfl⟩) hS (fun q _ h => hFc q h) hFc (fun r_10 u9 t9 H1 locs ht hvm hw hB hz1 hk1 hS => ?_)
          have hw : r_10 = 0 := hw
          subst hw
          obtain ⟨hP1, hK1, hD1⟩ := hB
          rw [ht] at hP1
          obtain ⟨hP, hD⟩ := va_join (wr := [(a7, .inl (cI, 256, .inl bf)), (a8, .inl (cI, 64, .inl sc)), (a9, .inl (cI, 8, .inl st)), (b0, .inl (cI, 8, .inl kS)), (b1, .inl (cI, 64, .inl kR)), (a2, .inl (cJ, 4, .inr (.inl tf))), (a0, .inl (cJ, 1232, .inr (.inl nf))), (a1, .inl (cJ, 616, .inr (.inl cf))), (a4, .inl (cI, 4, .inl kf)), (b2, .inl (cJ, 4, .inr (.inl ky))), (a3, .inl (cJ, 16, .inr (.inl lf)))]) (w1 := [(m0, .inr (8, [.int 0, .int (nI N), .int (nI n), .int (nI bc), .long (lN P), .long (lN Q), .long (lN G), .long (lN al), .long (lN pa), .long (lN pb), .int cl, .ref a0, .ref a1, .ref a2, .ref a3, .ref a4, .ref a5, .ref a6, .ref a7, .ref a8, .ref a9, .ref b0, .ref b1, .int (nI oc), .ref b2, .ref b3, .ref b4, .ref b5]))]) hP hD [0] [1, 2, 3, 4, 5, 6, 7, 8, 9, 10, 11] rfl rfl (by decide) (by decide) hk1 hFc hP1 hD1
          have hP := hP.sub (ws' := [(m0, .inr (8, [.int 0, .int (nI N), .int (nI n), .int (nI bc), .long (lN P), .long (lN Q), .long (lN G), .long (lN al), .long (lN pa), .long (lN pb), .int cl, .ref a0, .ref a1, .ref a2, .ref a3, .ref a4, .ref a5, .ref a6, .ref a7, .ref a8, .ref a9, .ref b0, .ref b1, .int (nI oc), .ref b2, .ref b3, .ref b4, .ref b5])), (a7, .inl (cI, 256, .inl bf)), (a8, .inl (cI, 64, .inl sc)), (a9, .inl (cI, 8, .inl st)), (b0, .inl (cI, 8, .inl kS)), (b1, .inl (cI, 64, .inl kR)), (a2, .inl (cJ, 4, .inr (.inl tf))), (a0, .inl (cJ, 1232, .inr (.inl nf))), (a1, .inl (cJ, 616, .inr (.inl cf))), (a4, .inl (cI, 4, .inl kf)), (b2, .inl (cJ, 4, .inr (.inl ky))), (a3, .inl (cJ, 16, .inr (.inl lf)))]) [11, 0, 1, 2, 3, 4, 5, 6, 7, 8, 9, 10] rfl
          have hD := hD.sub (ws' := [(m0, .inr (8, [.int 0, .int (nI N), .int (nI n), .int (nI bc), .long (lN P), .long (lN Q), .long (lN G), .long (lN al), .long (lN pa), .long (lN pb), .int cl, .ref a0, .ref a1, .ref a2, .ref a3, .ref a4, .ref a5, .ref a6, .ref a7, .ref a8, .ref a9, .ref b0, .ref b1, .int (nI oc), .ref b2, .ref b3, .ref b4, .ref b5])), (a7, .inl (cI, 256, .inl bf)), (a8, .inl (cI, 64, .inl sc)), (a9, .inl (cI, 8, .inl st)), (b0, .inl (cI, 8, .inl kS)), (b1, .inl (cI, 64, .inl kR)), (a2, .inl (cJ, 4, .inr (.inl tf))), (a0, .inl (cJ, 1232, .inr (.inl nf))), (a1, .inl (cJ, 616, .inr (.inl cf))), (a4, .inl (cI, 4, .inl kf)), (b2, .inl (cJ, 4, .inr (.inl ky))), (a3, .inl (cJ, 16, .inr (.inl lf)))]) [11, 0, 1, 2, 3, 4, 5, 6, 7, 8, 9, 10] (by decide) rfl
          generalize H1 = H at hP hS ⊢
          refine lv_if_ne (tgt := 99) hx hb d_Bm_makeKey_52 (by decide) (fun c_11 => ?_) (fun c_11 => ?_)
          · -- taken
            exact absurd rfl c_11
          · -- not taken
            refine lv_aload_n hx hb d_Bm_makeKey_55 rfl (lv_at hl 0 rfl) ?_
            refine lv_iload_n hx hb d_Bm_makeKey_56 rfl (lv_at hl 1 rfl) ?_
            refine lv_iconst (v := 0) hx hb d_Bm_makeKey_57 (by decide) ?_
            refine lv_aload_n hx hb d_Bm_makeKey_58 rfl (lv_at hl 0 rfl) ?_
            refine va_get (D := (dC, dI)) (ci := 8) (v := .int (nI N)) (C := "BallotBoardModel") (T := F_Bm) (N := 28) hx hb hts (fun w9 h9 => List.mem_cons_of_mem _ (i_Bm w9 h9)) hown hK hP 0 rfl rfl 1 (by decide) (hts _ (List.mem_cons_of_mem _ gk_920)) (fun _ h9 => h9) rfl d_Bm_makeKey_59 ?_
            refine lv_iconst (v := 1) hx hb d_Bm_makeKey_62 (by decide) ?_
            refine lv_isub hx hb d_Bm_makeKey_63 ?_
            rw [show ((nI N) - 1 : Int32) = (nI (N - 1)) from nI_subI (b := 1) (by omega) rfl]
            refine va_calli (va_runS (As := [.int (nI I), .int 0, .int (nI (N - 1))]) (rest := [.ref m0]) ⟨hx, hb, hml, hown, hts⟩ (c_Bm_in l H (nI I) 0 (nI (N - 1))) (cwS 3 hts (gw_S gk_1027 gk_1028 gk_7 gk_1029) rfl rfl rfl (by decide +kernel) ⟨Nat.le_of_ble_eq_true rfl, Nat.le_of_ble_eq_true rfl⟩) ⟨fun a U g mk q => q, fun U hU hW => ⟨rfl, hU⟩⟩ rfl rfl hl.1 rfl (lv_room (Nat.le_of_ble_eq_true rfl)) d_Bm_makeKey_64 ⟨Nat.le_of_ble_eq_true rfl, Nat.le_of_ble_eq_true rfl⟩) hS (fun q _ h => h.elim) (fun q h => h.elim) (fun r64 u9 t9 H1 locs ht hvm hw hB hz1 hk1 hS => ?_)
            obtain rfl : H = H1 := hB.symm.trans ht
            have h64 : bz r64 (inN (nI I) N) := bz_in hN0 (by omega) rfl hw
            refine lv_if_eq (tgt := 87) hx hb d_Bm_makeKey_67 (by decide) (fun c_12 => ?_) (fun c_12 => ?_)
            · -- taken
              exact absurd ⟨I, rfl, hI⟩ (bz_f h64 c_12)
            · -- not taken
              have hin2 := bz_t h64 c_12
              refine lv_aload_n hx hb d_Bm_makeKey_70 rfl (lv_at hl 0 rfl) ?_
              refine lv_lload_n hx hb d_Bm_makeKey_71 rfl (lv_at hl 2 rfl) ?_
              have hPc := hP.sub (ws' := (mo_ws m0 0 (nI N) (nI n) (nI bc) (lN P) (lN Q) (lN G) (lN al) (lN pa) (lN pb) cl a0 a1 a2 a3 a4 a5 a6 a7 a8 a9 b0 b1 oc b2 b3 b4 b5)) [0] rfl
              have hKc := hK.sub (tys' := [(cJ, .long), (cI, .int)]) [0, 1] rfl
              refine va_calli (va_runV (As := [.long x2]) (rest := [.ref m0]) ⟨hx, hb, hml, hown, hts⟩ (c_Bm_isExponent l H dC dI cJ cI m0 0 (nI N) (nI n) (nI bc) (lN al) (lN pa) (lN pb) cl a0 a1 a2 a3 a4 a5 a6 a7 a8 a9 b0 b1 oc b2 b3 b4 b5 P Q G x2 hPc hPQ h61F hQ3 ) (cwV 1 hts (gw_V gk_1042 gk_1044 gp_29 gk_7 gk_1045) rfl rfl rfl (by decide +kernel) ⟨Nat.le_of_ble_eq_true rfl, Nat.le_of_ble_eq_true rfl⟩) ⟨fun a U g mk q => ⟨q.1, q.2.1, va_K.moved (u := U) (U := U.calling g mk a) (Vm.Alike.refl U.vm) q.2.2⟩, va_recv hK hP (ci := 8) (q0 := 0) rfl rfl, fun U hU hW => ⟨rfl, hU, va_K.moved hW.alike hKc⟩⟩ rfl rfl hl.1 rfl (lv_room (Nat.le_of_ble_eq_true rfl)) d_Bm_makeKey_72 ⟨Nat.le_of_ble_eq_true rfl, Nat.le_of_ble_eq_true rfl⟩) hS (fun q _ h => h.elim) (fun q h => h.elim) (fun r72 u9 t9 H1 locs ht hvm hw hB hz1 hk1 hS => ?_)
              obtain rfl : H = H1 := hB.symm.trans ht
              have h72 := hw
              refine lv_if_eq (tgt := 87) hx hb d_Bm_makeKey_75 (by decide) (fun c_13 => ?_) (fun c_13 => ?_)
              · -- taken
                have bo72 := bz_f h72 c_13
                refine lv_iconst (v := 1) hx hb d_Bm_makeKey_87 (by decide) ?_
                refine lv_goto (tgt := 92) hx hb d_Bm_makeKey_88 (by decide) ?_
                refine lv_iconst (v := 2) hx hb d_Bm_makeKey_92 (by decide) ?_
                have hPc := hP.sub (ws' := (mo_ws m0 0 (nI N) (nI n) (nI bc) (lN P) (lN Q) (lN G) (lN al) (lN pa) (lN pb) cl a0 a1 a2 a3 a4 a5 a6 a7 a8 a9 b0 b1 oc b2 b3 b4 b5)) [0] rfl
                have hDc := hD.sub (ws' := (mo_ws m0 0 (nI N) (nI n) (nI bc) (lN P) (lN Q) (lN G) (lN al) (lN pa) (lN pb) cl a0 a1 a2 a3 a4 a5 a6 a7 a8 a9 b0 b1 oc b2 b3 b4 b5)) [0] (by decide) rfl
                have hKc := hK.sub (tys' := [(cJ, .long), (cI, .int)]) [0, 1] rfl
                have hFc := va_free (wc := (mo_ws m0 0 (nI N) (nI n) (nI bc) (lN P) (lN Q) (lN G) (lN al) (lN pa) (lN pb) cl a0 a1 a2 a3 a4 a5 a6 a7 a8 a9 b0 b1 oc b2 b3 b4 b5)) hD hS hA [0] rfl
                refine va_calli (va_runV (As := [.int 1, .int 2]) (rest := []) ⟨hx, hb, hml, hown, hts⟩ (c_Bm_fails_1 l dC dI cJ cI H.size m0 (nI N) (nI n) (nI bc) (lN P) (lN Q) (lN G) (lN al) (lN pa) (lN pb) cl a0 a1 a2 a3 a4 a5 a6 a7 a8 a9 b0 b1 oc b2 b3 b4 b5 2 (by decide)) (cwV 2 hts (gw_V gk_1030 gk_1032 gp_27 gk_7 gk_1033) rfl rfl rfl (by decide +kernel) ⟨Nat.le_of_ble_eq_true rfl, Nat.le_of_ble_eq_true rfl⟩) ⟨fun a U g mk q => by obtain ⟨q0, q1, qP, qK, qD⟩ := q; exact ⟨q0, q1, qP, va_K.moved (u := U) (U := U.calling g mk a) (Vm.Alike.refl U.vm) qK, qD⟩, va_recv hK hP (ci := 8) (q0 := 0) rfl rfl, fun U hU hW => ⟨rfl, by rw [hU], by rw [hU]; exact hPc, va_K.moved hW.alike hKc, hDc.weaken (fun _ _ _ _ => trivial)⟩⟩ rfl rfl hl.1 rfl (lv_room (Nat.le_of_ble_eq_true rfl)) d_Bm_makeKey_93 ⟨Nat.le_of_ble_eq_true rfl, Nat.le_of_ble_eq_true rfl⟩) hS (fun q _ h => hFc q h) hFc (fun r_14 u9 t9 H1 locs ht hvm hw hB hz1 hk1 hS => ?_)
                have hw : r_14 = 1 := hw
                subst hw
                obtain ⟨hP1, hK1, hD1⟩ := hB
                rw [ht] at hP1
                obtain ⟨hP, hD⟩ := va_join (wr := [(a7, .inl (cI, 256, .inl bf)), (a8, .inl (cI, 64, .inl sc)), (a9, .inl (cI, 8, .inl st)), (b0, .inl (cI, 8, .inl kS)), (b1, .inl (cI, 64, .inl kR)), (a2, .inl (cJ, 4, .inr (.inl tf))), (a0, .inl (cJ, 1232, .inr (.inl nf))), (a1, .inl (cJ, 616, .inr (.inl cf))), (a4, .inl (cI, 4, .inl kf)), (b2, .inl (cJ, 4, .inr (.inl ky))), (a3, .inl (cJ, 16, .inr (.inl lf)))]) (w1 := [(m0, .inr (8, [.int 2, .int (nI N), .int (nI n), .int (nI bc), .long (lN P), .long (lN Q), .long (lN G), .long (lN al), .long (lN pa), .long (lN pb), .int cl, .ref a0, .ref a1, .ref a2, .ref a3, .ref a4, .ref a5, .ref a6, .ref a7, .ref a8, .ref a9, .ref b0, .ref b1, .int (nI oc), .ref b2, .ref b3, .ref b4, .ref b5]))]) hP hD [0] [1, 2, 3, 4, 5, 6, 7, 8, 9, 10, 11] rfl rfl (by decide) (by decide) hk1 hFc hP1 hD1
                have hP := hP.sub (ws' := [(m0, .inr (8, [.int 2, .int (nI N), .int (nI n), .int (nI bc), .long (lN P), .long (lN Q), .long (lN G), .long (lN al), .long (lN pa), .long (lN pb), .int cl, .ref a0, .ref a1, .ref a2, .ref a3, .ref a4, .ref a5, .ref a6, .ref a7, .ref a8, .ref a9, .ref b0, .ref b1, .int (nI oc), .ref b2, .ref b3, .ref b4, .ref b5])), (a7, .inl (cI, 256, .inl bf)), (a8, .inl (cI, 64, .inl sc)), (a9, .inl (cI, 8, .inl st)), (b0, .inl (cI, 8, .inl kS)), (b1, .inl (cI, 64, .inl kR)), (a2, .inl (cJ, 4, .inr (.inl tf))), (a0, .inl (cJ, 1232, .inr (.inl nf))), (a1, .inl (cJ, 616, .inr (.inl cf))), (a4, .inl (cI, 4, .inl kf)), (b2, .inl (cJ, 4, .inr (.inl ky))), (a3, .inl (cJ, 16, .inr (.inl lf)))]) [11, 0, 1, 2, 3, 4, 5, 6, 7, 8, 9, 10] rfl
                have hD := hD.sub (ws' := [(m0, .inr (8, [.int 2, .int (nI N), .int (nI n), .int (nI bc), .long (lN P), .long (lN Q), .long (lN G), .long (lN al), .long (lN pa), .long (lN pb), .int cl, .ref a0, .ref a1, .ref a2, .ref a3, .ref a4, .ref a5, .ref a6, .ref a7, .ref a8, .ref a9, .ref b0, .ref b1, .int (nI oc), .ref b2, .ref b3, .ref b4, .ref b5])), (a7, .inl (cI, 256, .inl bf)), (a8, .inl (cI, 64, .inl sc)), (a9, .inl (cI, 8, .inl st)), (b0, .inl (cI, 8, .inl kS)), (b1, .inl (cI, 64, .inl kR)), (a2, .inl (cJ, 4, .inr (.inl tf))), (a0, .inl (cJ, 1232, .inr (.inl nf))), (a1, .inl (cJ, 616, .inr (.inl cf))), (a4, .inl (cI, 4, .inl kf)), (b2, .inl (cJ, 4, .inr (.inl ky))), (a3, .inl (cJ, 16, .inr (.inl lf)))]) [11, 0, 1, 2, 3, 4, 5, 6, 7, 8, 9, 10] (by decide) rfl
                generalize H1 = H at hP hS ⊢
                refine lv_if_eq (tgt := 101) hx hb d_Bm_makeKey_96 (by decide) (fun c_15 => ?_) (fun c_15 => ?_)
                · -- taken
                  exact absurd c_15 (by decide)
                · -- not taken
                  refine lv_iconst (v := 0) hx hb d_Bm_makeKey_99 (by decide) ?_
                  exact W.iret (v := 0) hx hb hr (fun t ht9 hW => ⟨⟨_, (), rfl, trivial, by rw [ht9]; exact hP, va_K.moved hW.alike hK, hD⟩, hS.F ht9⟩) hS.2.2 d_Bm_makeKey_100
              · -- not taken
                have bo72 := bz_t h72 c_13
                refine lv_aload_n hx hb d_Bm_makeKey_78 rfl (lv_at hl 0 rfl) ?_
                refine lv_lload hx hb d_Bm_makeKey_79 (lv_at hl 3 rfl) ?_
                have hPc := hP.sub (ws' := (mo_ws m0 0 (nI N) (nI n) (nI bc) (lN P) (lN Q) (lN G) (lN al) (lN pa) (lN pb) cl a0 a1 a2 a3 a4 a5 a6 a7 a8 a9 b0 b1 oc b2 b3 b4 b5)) [0] rfl
                have hKc := hK.sub (tys' := [(cJ, .long), (cI, .int)]) [0, 1] rfl
                refine va_calli (va_runV (As := [.long x3]) (rest := [.ref m0]) ⟨hx, hb, hml, hown, hts⟩ (c_Bm_isExponent l H dC dI cJ cI m0 0 (nI N) (nI n) (nI bc) (lN al) (lN pa) (lN pb) cl a0 a1 a2 a3 a4 a5 a6 a7 a8 a9 b0 b1 oc b2 b3 b4 b5 P Q G x3 hPc hPQ h61F hQ3 ) (cwV 1 hts (gw_V gk_1042 gk_1044 gp_29 gk_7 gk_1045) rfl rfl rfl (by decide +kernel) ⟨Nat.le_of_ble_eq_true rfl, Nat.le_of_ble_eq_true rfl⟩) ⟨fun a U g mk q => ⟨q.1, q.2.1, va_K.moved (u := U) (U := U.calling g mk a) (Vm.Alike.refl U.vm) q.2.2⟩, va_recv hK hP (ci := 8) (q0 := 0) rfl rfl, fun U hU hW => ⟨rfl, hU, va_K.moved hW.alike hKc⟩⟩ rfl rfl hl.1 rfl (lv_room (Nat.le_of_ble_eq_true rfl)) d_Bm_makeKey_81 ⟨Nat.le_of_ble_eq_true rfl, Nat.le_of_ble_eq_true rfl⟩) hS (fun q _ h => h.elim) (fun q h => h.elim) (fun r81 u9 t9 H1 locs ht hvm hw hB hz1 hk1 hS => ?_)
                obtain rfl : H = H1 := hB.symm.trans ht
                have h81 := hw
                refine lv_if_ne (tgt := 91) hx hb d_Bm_makeKey_84 (by decide) (fun c_16 => ?_) (fun c_16 => ?_)
                · -- taken
                  exact absurd ⟨⟨I, rfl, hI⟩, bo72, bz_t h81 c_16⟩ hC2
                · -- not taken
                  have bo81 := bz_f h81 c_16
                  refine lv_iconst (v := 1) hx hb d_Bm_makeKey_87 (by decide) ?_
                  refine lv_goto (tgt := 92) hx hb d_Bm_makeKey_88 (by decide) ?_
                  refine lv_iconst (v := 2) hx hb d_Bm_makeKey_92 (by decide) ?_
                  have hPc := hP.sub (ws' := (mo_ws m0 0 (nI N) (nI n) (nI bc) (lN P) (lN Q) (lN G) (lN al) (lN pa) (lN pb) cl a0 a1 a2 a3 a4 a5 a6 a7 a8 a9 b0 b1 oc b2 b3 b4 b5)) [0] rfl
                  have hDc := hD.sub (ws' := (mo_ws m0 0 (nI N) (nI n) (nI bc) (lN P) (lN Q) (lN G) (lN al) (lN pa) (lN pb) cl a0 a1 a2 a3 a4 a5 a6 a7 a8 a9 b0 b1 oc b2 b3 b4 b5)) [0] (by decide) rfl
                  have hKc := hK.sub (tys' := [(cJ, .long), (cI, .int)]) [0, 1] rfl
                  have hFc := va_free (wc := (mo_ws m0 0 (nI N) (nI n) (nI bc) (lN P) (lN Q) (lN G) (lN al) (lN pa) (lN pb) cl a0 a1 a2 a3 a4 a5 a6 a7 a8 a9 b0 b1 oc b2 b3 b4 b5)) hD hS hA [0] rfl
                  refine va_calli (va_runV (As := [.int 1, .int 2]) (rest := []) ⟨hx, hb, hml, hown, hts⟩ (c_Bm_fails_1 l dC dI cJ cI H.size m0 (nI N) (nI n) (nI bc) (lN P) (lN Q) (lN G) (lN al) (lN pa) (lN pb) cl a0 a1 a2 a3 a4 a5 a6 a7 a8 a9 b0 b1 oc b2 b3 b4 b5 2 (by decide)) (cwV 2 hts (gw_V gk_1030 gk_1032 gp_27 gk_7 gk_1033) rfl rfl rfl (by decide +kernel) ⟨Nat.le_of_ble_eq_true rfl, Nat.le_of_ble_eq_true rfl⟩) ⟨fun a U g mk q => by obtain ⟨q0, q1, qP, qK, qD⟩ := q; exact ⟨q0, q1, qP, va_K.moved (u := U) (U := U.calling g mk a) (Vm.Alike.refl U.vm) qK, qD⟩, va_recv hK hP (ci := 8) (q0 := 0) rfl rfl, fun U hU hW => ⟨rfl, by rw [hU], by rw [hU]; exact hPc, va_K.moved hW.alike hKc, hDc.weaken (fun _ _ _ _ => trivial)⟩⟩ rfl rfl hl.1 rfl (lv_room (Nat.le_of_ble_eq_true rfl)) d_Bm_makeKey_93 ⟨Nat.le_of_ble_eq_true rfl, Nat.le_of_ble_eq_true rfl⟩) hS (fun q _ h => hFc q h) hFc (fun r_17 u9 t9 H1 locs ht hvm hw hB hz1 hk1 hS => ?_)
                  have hw : r_17 = 1 := hw
                  subst hw
                  obtain ⟨hP1, hK1, hD1⟩ := hB
                  rw [ht] at hP1
                  obtain ⟨hP, hD⟩ := va_join (wr := [(a7, .inl (cI, 256, .inl bf)), (a8, .inl (cI, 64, .inl sc)), (a9, .inl (cI, 8, .inl st)), (b0, .inl (cI, 8, .inl kS)), (b1, .inl (cI, 64, .inl kR)), (a2, .inl (cJ, 4, .inr (.inl tf))), (a0, .inl (cJ, 1232, .inr (.inl nf))), (a1, .inl (cJ, 616, .inr (.inl cf))), (a4, .inl (cI, 4, .inl kf)), (b2, .inl (cJ, 4, .inr (.inl ky))), (a3, .inl (cJ, 16, .inr (.inl lf)))]) (w1 := [(m0, .inr (8, [.int 2, .int (nI N), .int (nI n), .int (nI bc), .long (lN P), .long (lN Q), .long (lN G), .long (lN al), .long (lN pa), .long (lN pb), .int cl, .ref a0, .ref a1, .ref a2, .ref a3, .ref a4, .ref a5, .ref a6, .ref a7, .ref a8, .ref a9, .ref b0, .ref b1, .int (nI oc), .ref b2, .ref b3, .ref b4, .ref b5]))]) hP hD [0] [1, 2, 3, 4, 5, 6, 7, 8, 9, 10, 11] rfl rfl (by decide) (by decide) hk1 hFc hP1 hD1
                  have hP := hP.sub (ws' := [(m0, .inr (8, [.int 2, .int (nI N), .int (nI n), .int (nI bc), .long (lN P), .long (lN Q), .long (lN G), .long (lN al), .long (lN pa), .long (lN pb), .int cl, .ref a0, .ref a1, .ref a2, .ref a3, .ref a4, .ref a5, .ref a6, .ref a7, .ref a8, .ref a9, .ref b0, .ref b1, .int (nI oc), .ref b2, .ref b3, .ref b4, .ref b5])), (a7, .inl (cI, 256, .inl bf)), (a8, .inl (cI, 64, .inl sc)), (a9, .inl (cI, 8, .inl st)), (b0, .inl (cI, 8, .inl kS)), (b1, .inl (cI, 64, .inl kR)), (a2, .inl (cJ, 4, .inr (.inl tf))), (a0, .inl (cJ, 1232, .inr (.inl nf))), (a1, .inl (cJ, 616, .inr (.inl cf))), (a4, .inl (cI, 4, .inl kf)), (b2, .inl (cJ, 4, .inr (.inl ky))), (a3, .inl (cJ, 16, .inr (.inl lf)))]) [11, 0, 1, 2, 3, 4, 5, 6, 7, 8, 9, 10] rfl
                  have hD := hD.sub (ws' := [(m0, .inr (8, [.int 2, .int (nI N), .int (nI n), .int (nI bc), .long (lN P), .long (lN Q), .long (lN G), .long (lN al), .long (lN pa), .long (lN pb), .int cl, .ref a0, .ref a1, .ref a2, .ref a3, .ref a4, .ref a5, .ref a6, .ref a7, .ref a8, .ref a9, .ref b0, .ref b1, .int (nI oc), .ref b2, .ref b3, .ref b4, .ref b5])), (a7, .inl (cI, 256, .inl bf)), (a8, .inl (cI, 64, .inl sc)), (a9, .inl (cI, 8, .inl st)), (b0, .inl (cI, 8, .inl kS)), (b1, .inl (cI, 64, .inl kR)), (a2, .inl (cJ, 4, .inr (.inl tf))), (a0, .inl (cJ, 1232, .inr (.inl nf))), (a1, .inl (cJ, 616, .inr (.inl cf))), (a4, .inl (cI, 4, .inl kf)), (b2, .inl (cJ, 4, .inr (.inl ky))), (a3, .inl (cJ, 16, .inr (.inl lf)))]) [11, 0, 1, 2, 3, 4, 5, 6, 7, 8, 9, 10] (by decide) rfl
                  generalize H1 = H at hP hS ⊢
                  refine lv_if_eq (tgt := 101) hx hb d_Bm_makeKey_96 (by decide) (fun c_18 => ?_) (fun c_18 => ?_)
                  · -- taken
                    exact absurd c_18 (by decide)
                  · -- not taken
                    refine lv_iconst (v := 0) hx hb d_Bm_makeKey_99 (by decide) ?_
                    exact W.iret (v := 0) hx hb hr (fun t ht9 hW => ⟨⟨_, (), rfl, trivial, by rw [ht9]; exact hP, va_K.moved hW.alike hK, hD⟩, hS.F ht9⟩) hS.2.2 d_Bm_makeKey_100
        · -- not taken
          exact absurd (Or.inr (Or.inr ⟨I, rfl, hI, fun h => c_9 ((rK_neg hrk hn (show I < 4 by omega)).mpr h)⟩)) hC1
set_option maxHeartbeats 8000000 in
set_option maxRecDepth 100000 in
theorem c_Bm_makeKey_00 (l : Launch) (dC : Nat → ClassId) (dI : Nat → Nat → Nat) (cJ cI : ClassId) (sz : Nat) (m0 : Nat) (e0 : Int32) (N n bc P Q G al pa pb : Nat) (cl : Int32) (a0 a1 a2 a3 a4 a5 a6 a7 a8 a9 b0 b1 oc b2 b3 b4 b5 : Nat) (bf sc st kf : Nat → Int32) (tf nf cf ky lf : Nat → Int64) (ko : Nat → Nat) (I X1 W1 : Nat) (hN : N ≤ 4) (hgr : 0 < N → gfx P Q G) (hcl : cl = 0 ∨ cl = 1) (hn : n ≤ 154) (hrk : rK 4 n ko kf ky) (hko : ∀ j, ko j < 2 ^ 61) (hN0 : 0 < N) (hcl0 : cl = 0) (hI : I < N) (hk0 : ko I = 0) (hn1 : n < 154) (hkP : ∀ j, ko j < P) (hn0 : n = 0) (hX9 : X1 < Q) (hW9 : W1 < Q) : Met l y_Bm_makeKey w_Bm_makeKey ({ frames := 7, cells := 0, slots := 0, locals := 220 }) (va_Pc [.ref m0, .int (nI I), .long (lN X1), .long (lN W1)] (fun U => U.heap.size = sz ∧ va_P (dC, dI) classes (mo_ws m0 e0 (nI N) (nI n) (nI bc) (lN P) (lN Q) (lN G) (lN al) (lN pa) (lN pb) cl a0 a1 a2 a3 a4 a5 a6 a7 a8 a9 b0 b1 oc b2 b3 b4 b5 ++ (iw_ws a7 cI 256 bf ++ (iw_ws a8 cI 64 sc ++ (iw_ws a9 cI 8 st ++ (iw_ws b0 cI 8 kS ++ (iw_ws b1 cI 64 kR ++ (jw_ws a2 cJ 4 tf ++ (jw_ws a0 cJ 1232 nf ++ (jw_ws a1 cJ 616 cf ++ (iw_ws a4 cI 4 kf ++ (jw_ws b2 cJ 4 ky ++ (jw_ws a3 cJ 16 lf)))))))))))) U.heap ∧ va_K (dC, dI) classes [(cJ, .long), (cI, .int)] U ∧ va_D (fun _ => True) (mo_ws m0 e0 (nI N) (nI n) (nI bc) (lN P) (lN Q) (lN G) (lN al) (lN pa) (lN pb) cl a0 a1 a2 a3 a4 a5 a6 a7 a8 a9 b0 b1 oc b2 b3 b4 b5 ++ (iw_ws a7 cI 256 bf ++ (iw_ws a8 cI 64 sc ++ (iw_ws a9 cI 8 st ++ (iw_ws b0 cI 8 kS ++ (iw_ws b1 cI 64 kR ++ (jw_ws a2 cJ 4 tf ++ (jw_ws a0 cJ 1232 nf ++ (jw_ws a1 cJ 616 cf ++ (iw_ws a4 cI 4 kf ++ (jw_ws b2 cJ 4 ky ++ (jw_ws a3 cJ 16 lf)))))))))))))) (va_Qi (fun (r : Int32) (u9 : DU × (Nat → Int64) × Nat) => r = nI n ∧ ((allN N (updN ko I (G ^ X1 % P)) ∧ u9.2.2 = prk P (updN ko I (G ^ X1 % P)) N) ∨ (¬ allN N (updN ko I (G ^ X1 % P)) ∧ u9.2.2 = al))) (fun u9 t => va_P (dC, dI) classes (mo_ws m0 0 (nI N) (nI (n + 1)) (nI bc) (lN P) (lN Q) (lN G) (lN u9.2.2) (lN pa) (lN pb) cl a0 a1 a2 a3 a4 a5 a6 a7 a8 a9 b0 b1 u9.1.2.2.2.2 b2 b3 b4 b5 ++ (iw_ws a7 cI 256 u9.1.1 ++ (iw_ws a8 cI 64 u9.1.2.1 ++ (iw_ws a9 cI 8 u9.1.2.2.1 ++ (iw_ws b0 cI 8 kS ++ (iw_ws b1 cI 64 kR ++ (jw_ws a2 cJ 4 u9.1.2.2.2.1 ++ (jw_ws a0 cJ 1232 (w8 nf (8 * n) (lN 1) (lN I) (lN (G ^ X1 % P)) (lN (hsh Q [lN P, lN G, 1, lN I, lN (G ^ X1 % P), lN (G ^ W1 % P)])) (lN ((W1 + (hsh Q [lN P, lN G, 1, lN I, lN (G ^ X1 % P), lN (G ^ W1 % P)]) * X1 % Q) % Q)) 0 0 0) ++ (jw_ws a1 cJ 616 (c4 cf (4 * n) (lkw [0, 0, 0, 0, lN 1, lN I, lN (G ^ X1 % P), lN (hsh Q [lN P, lN G, 1, lN I, lN (G ^ X1 % P), lN (G ^ W1 % P)]), lN ((W1 + (hsh Q [lN P, lN G, 1, lN I, lN (G ^ X1 % P), lN (G ^ W1 % P)]) * X1 % Q) % Q)])) ++ (iw_ws a4 cI 4 (upd kf I (nI n)) ++ (jw_ws b2 cJ 4 (vp_updL ky I (lN (G ^ X1 % P))) ++ (jw_ws a3 cJ 16 u9.2.1)))))))))))) t.heap ∧ va_K (dC, dI) classes [(cJ, .long), (cI, .int)] t ∧ va_D (va_A (mo_ws m0 e0 (nI N) (nI n) (nI bc) (lN P) (lN Q) (lN G) (lN al) (lN pa) (lN pb) cl a0 a1 a2 a3 a4 a5 a6 a7 a8 a9 b0 b1 oc b2 b3 b4 b5 ++ (iw_ws a7 cI 256 bf ++ (iw_ws a8 cI 64 sc ++ (iw_ws a9 cI 8 st ++ (iw_ws b0 cI 8 kS ++ (iw_ws b1 cI 64 kR ++ (jw_ws a2 cJ 4 tf ++ (jw_ws a0 cJ 1232 nf ++ (jw_ws a1 cJ 616 cf ++ (iw_ws a4 cI 4 kf ++ (jw_ws b2 cJ 4 ky ++ (jw_ws a3 cJ 16 lf)))))))))))) sz) (mo_ws m0 0 (nI N) (nI (n + 1)) (nI bc) (lN P) (lN Q) (lN G) (lN u9.2.2) (lN pa) (lN pb) cl a0 a1 a2 a3 a4 a5 a6 a7 a8 a9 b0 b1 u9.1.2.2.2.2 b2 b3 b4 b5 ++ (iw_ws a7 cI 256 u9.1.1 ++ (iw_ws a8 cI 64 u9.1.2.1 ++ (iw_ws a9 cI 8 u9.1.2.2.1 ++ (iw_ws b0 cI 8 kS ++ (iw_ws b1 cI 64 kR ++ (jw_ws a2 cJ 4 u9.1.2.2.2.1 ++ (jw_ws a0 cJ 1232 (w8 nf (8 * n) (lN 1) (lN I) (lN (G ^ X1 % P)) (lN (hsh Q [lN P, lN G, 1, lN I, lN (G ^ X1 % P), lN (G ^ W1 % P)])) (lN ((W1 + (hsh Q [lN P, lN G, 1, lN I, lN (G ^ X1 % P), lN (G ^ W1 % P)]) * X1 % Q) % Q)) 0 0 0) ++ (jw_ws a1 cJ 616 (c4 cf (4 * n) (lkw [0, 0, 0, 0, lN 1, lN I, lN (G ^ X1 % P), lN (hsh Q [lN P, lN G, 1, lN I, lN (G ^ X1 % P), lN (G ^ W1 % P)]), lN ((W1 + (hsh Q [lN P, lN G, 1, lN I, lN (G ^ X1 % P), lN (G ^ W1 % P)]) * X1 % Q) % Q)])) ++ (iw_ws a4 cI 4 (upd kf I (nI n)) ++ (jw_ws b2 cJ 4 (vp_updL ky I (lN (G ^ X1 % P))) ++ (jw_ws a3 cJ 16 u9.2.1))))))))))))) (va_A (mo_ws m0 e0 (nI N) (nI n) (nI bc) (lN P) (lN Q) (lN G) (lN al) (lN pa) (lN pb) cl a0 a1 a2 a3 a4 a5 a6 a7 a8 a9 b0 b1 oc b2 b3 b4 b5 ++ (iw_ws a7 cI 256 bf ++ (iw_ws a8 cI 64 sc ++ (iw_ws a9 cI 8 st ++ (iw_ws b0 cI 8 kS ++ (iw_ws b1 cI 64 kR ++ (jw_ws a2 cJ 4 tf ++ (jw_ws a0 cJ 1232 nf ++ (jw_ws a1 cJ 616 cf ++ (iw_ws a4 cI 4 kf ++ (jw_ws b2 cJ 4 ky ++ (jw_ws a3 cJ 16 lf)))))))))))) sz)) 0 0 (va_A (mo_ws m0 e0 (nI N) (nI n) (nI bc) (lN P) (lN Q) (lN G) (lN al) (lN pa) (lN pb) cl a0 a1 a2 a3 a4 a5 a6 a7 a8 a9 b0 b1 oc b2 b3 b4 b5 ++ (iw_ws a7 cI 256 bf ++ (iw_ws a8 cI 64 sc ++ (iw_ws a9 cI 8 st ++ (iw_ws b0 cI 8 kS ++ (iw_ws b1 cI 64 kR ++ (jw_ws a2 cJ 4 tf ++ (jw_ws a0 cJ 1232 nf ++ (jw_ws a1 cJ 616 cf ++ (iw_ws a4 cI 4 kf ++ (jw_ws b2 cJ 4 ky ++ (jw_ws a3 cJ 16 lf)))))))))))) sz) := by
  refine Met.ofW (cc := b_Bm_makeKey) (maxL := 10) (ret := (some .int)) (by decide) rfl ?_
  intro p e s m args below meth c s₁ Bd hml hv
  obtain ⟨rfl, hsz, hP, hK, hD0⟩ := hv
  have hx := Bd.exec
  have hb := Bd.bytes
  have hr := Bd.returns
  have hts := atoms_spec (ws := w_Bm_makeKey) Bd.pre
  have hown : s.vm.findClass "BallotBoardModel" = some m.cls := findClass_of_methodNamed Bd.named
  have hlocks := Bd.notSynchronized
  subst hsz
  have hD := hD0.self (sz := s.heap.size)
  generalize hAe : va_A (mo_ws m0 e0 (nI N) (nI n) (nI bc) (lN P) (lN Q) (lN G) (lN al) (lN pa) (lN pb) cl a0 a1 a2 a3 a4 a5 a6 a7 a8 a9 b0 b1 oc b2 b3 b4 b5 ++ (iw_ws a7 cI 256 bf ++ (iw_ws a8 cI 64 sc ++ (iw_ws a9 cI 8 st ++ (iw_ws b0 cI 8 kS ++ (iw_ws b1 cI 64 kR ++ (jw_ws a2 cJ 4 tf ++ (jw_ws a0 cJ 1232 nf ++ (jw_ws a1 cJ 616 cf ++ (iw_ws a4 cI 4 kf ++ (jw_ws b2 cJ 4 ky ++ (jw_ws a3 cJ 16 lf)))))))))))) s.heap.size = A at hD ⊢
  have hA : ∀ q : Nat, s.heap.size ≤ q → A q := fun q h => by rw [← hAe]; exact Or.inr h
  have hS : va_S A s.heap s.heap [] := va_S.rf
  have hl := lv_entry ([.ref m0, .int (nI I), .long (lN X1), .long (lN W1)]) (n := 10) (Nat.le_of_ble_eq_true rfl)
  rw [lg_entry_eq]
  generalize (lg_sl ([.ref m0, .int (nI I), .long (lN X1), .long (lN W1)]) ++ List.replicate (10 - (lg_sl ([.ref m0, .int (nI I), .long (lN X1), .long (lN W1)])).length) Slot.unset).toArray = ls at hl ⊢
  have hl : lv_has ls 10 [(0, .ref m0), (1, .int (nI I)), (2, .long (lN X1)), (4, .long (lN W1))] := hl
  obtain ⟨hPQ, h61F, hQ3, hG2, hGP, hGQ⟩ := hgr hN0
  have hY0 : (G ^ X1 % P) ≠ 0 := Nat.pos_iff_ne_zero.mp (one_le_of2 (in_pow (by omega) hGQ X1) (by omega))
  refine lv_aload_n hx hb d_Bm_makeKey_0 rfl (lv_at hl 0 rfl) ?_
  refine lv_iconst (v := 0) hx hb d_Bm_makeKey_1 (by decide) ?_
  refine va_put (D := (dC, dI)) (ci := 8) (v := .int 0) (ty := .int) (C := "BallotBoardModel") (T := F_Bm) (N := 28) hx hb hts (fun w9 h9 => List.mem_cons_of_mem _ (i_Bm w9 h9)) t_Bm t_Bm_ok n_Bm hown hK hP hD hS 0 rfl rfl 0 (by decide) (hts _ (List.mem_cons_of_mem _ gk_919)) (fun _ h9 => h9) rfl (by decide +kernel) rfl rfl (Nat.le_of_ble_eq_true rfl) d_Bm_makeKey_2 (fun H locs hP hD hS => ?_)
  have hP : va_P (dC, dI) classes [(m0, .inr (8, [.int 0, .int (nI N), .int (nI n), .int (nI bc), .long (lN P), .long (lN Q), .long (lN G), .long (lN al), .long (lN pa), .long (lN pb), .int cl, .ref a0, .ref a1, .ref a2, .ref a3, .ref a4, .ref a5, .ref a6, .ref a7, .ref a8, .ref a9, .ref b0, .ref b1, .int (nI oc), .ref b2, .ref b3, .ref b4, .ref b5])), (a7, .inl (cI, 256, .inl bf)), (a8, .inl (cI, 64, .inl sc)), (a9, .inl (cI, 8, .inl st)), (b0, .inl (cI, 8, .inl kS)), (b1, .inl (cI, 64, .inl kR)), (a2, .inl (cJ, 4, .inr (.inl tf))), (a0, .inl (cJ, 1232, .inr (.inl nf))), (a1, .inl (cJ, 616, .inr (.inl cf))), (a4, .inl (cI, 4, .inl kf)), (b2, .inl (cJ, 4, .inr (.inl ky))), (a3, .inl (cJ, 16, .inr (.inl lf)))] H := hP
  have hD : va_D A [(m0, .inr (8, [.int 0, .int (nI N), .int (nI n), .int (nI bc), .long (lN P), .long (lN Q), .long (lN G), .long (lN al), .long (lN pa), .long (lN pb), .int cl, .ref a0, .ref a1, .ref a2, .ref a3, .ref a4, .ref a5, .ref a6, .ref a7, .ref a8, .ref a9, .ref b0, .ref b1, .int (nI oc), .ref b2, .ref b3, .ref b4, .ref b5])), (a7, .inl (cI, 256, .inl bf)), (a8, .inl (cI, 64, .inl sc)), (a9, .inl (cI, 8, .inl st)), (b0, .inl (cI, 8, .inl kS)), (b1, .inl (cI, 64, .inl kR)), (a2, .inl (cJ, 4, .inr (.inl tf))), (a0, .inl (cJ, 1232, .inr (.inl nf))), (a1, .inl (cJ, 616, .inr (.inl cf))), (a4, .inl (cI, 4, .inl kf)), (b2, .inl (cJ, 4, .inr (.inl ky))), (a3, .inl (cJ, 16, .inr (.inl lf)))] := hD
  refine lv_aload_n hx hb d_Bm_makeKey_5 rfl (lv_at hl 0 rfl) ?_
  refine lv_aload_n hx hb d_Bm_makeKey_6 rfl (lv_at hl 0 rfl) ?_
  refine va_get (D := (dC, dI)) (ci := 8) (v := .int (nI N)) (C := "BallotBoardModel") (T := F_Bm) (N := 28) hx hb hts (fun w9 h9 => List.mem_cons_of_mem _ (i_Bm w9 h9)) hown hK hP 0 rfl rfl 1 (by decide) (hts _ (List.mem_cons_of_mem _ gk_920)) (fun _ h9 => h9) rfl d_Bm_makeKey_7 ?_
  refine lv_if_eq (tgt := 43) hx hb d_Bm_makeKey_10 (by decide) (fun c_1 => ?_) (fun c_1 => ?_)
  · -- taken
    exact absurd c_1 (nI_ne0 hN0 (by omega))
  · -- not taken
    refine lv_aload_n hx hb d_Bm_makeKey_13 rfl (lv_at hl 0 rfl) ?_
    refine va_get (D := (dC, dI)) (ci := 8) (v := .int cl) (C := "BallotBoardModel") (T := F_Bm) (N := 28) hx hb hts (fun w9 h9 => List.mem_cons_of_mem _ (i_Bm w9 h9)) hown hK hP 0 rfl rfl 10 (by decide) (hts _ (List.mem_cons_of_mem _ gk_929)) (fun _ h9 => h9) rfl d_Bm_makeKey_14 ?_
    refine lv_if_ne (tgt := 43) hx hb d_Bm_makeKey_17 (by decide) (fun c_2 => ?_) (fun c_2 => ?_)
    · -- taken
      exact absurd hcl0 c_2
    · -- not taken
      refine lv_iload_n hx hb d_Bm_makeKey_20 rfl (lv_at hl 1 rfl) ?_
      refine lv_iconst (v := 0) hx hb d_Bm_makeKey_21 (by decide) ?_
      refine lv_aload_n hx hb d_Bm_makeKey_22 rfl (lv_at hl 0 rfl) ?_
      refine va_get (D := (dC, dI)) (ci := 8) (v := .int (nI N)) (C := "BallotBoardModel") (T := F_Bm) (N := 28) hx hb hts (fun w9 h9 => List.mem_cons_of_mem _ (i_Bm w9 h9)) hown hK hP 0 rfl rfl 1 (by decide) (hts _ (List.mem_cons_of_mem _ gk_920)) (fun _ h9 => h9) rfl d_Bm_makeKey_23 ?_
      refine lv_iconst (v := 1) hx hb d_Bm_makeKey_26 (by decide) ?_
      refine lv_isub hx hb d_Bm_makeKey_27 ?_
      rw [show ((nI N) - 1 : Int32) = (nI (N - 1)) from nI_subI (b := 1) (by omega) rfl]
      refine va_calli (va_runS (As := [.int (nI I), .int 0, .int (nI (N - 1))]) (rest := [.ref m0]) ⟨hx, hb, hml, hown, hts⟩ (c_Bm_in l H (nI I) 0 (nI (N - 1))) (cwS 3 hts (gw_S gk_1027 gk_1028 gk_7 gk_1029) rfl rfl rfl (by decide +kernel) ⟨Nat.le_of_ble_eq_true rfl, Nat.le_of_ble_eq_true rfl⟩) ⟨fun a U g mk q => q, fun U hU hW => ⟨rfl, hU⟩⟩ rfl rfl hl.1 rfl (lv_room (Nat.le_of_ble_eq_true rfl)) d_Bm_makeKey_28 ⟨Nat.le_of_ble_eq_true rfl, Nat.le_of_ble_eq_true rfl⟩) hS (fun q _ h => h.elim) (fun q h => h.elim) (fun r28 u9 t9 H1 locs ht hvm hw hB hz1 hk1 hS => ?_)
      obtain rfl : H = H1 := hB.symm.trans ht
      have h28 : bz r28 (inN (nI I) N) := bz_in hN0 (by omega) rfl hw
      refine lv_if_eq (tgt := 47) hx hb d_Bm_makeKey_31 (by decide) (fun c_3 => ?_) (fun c_3 => ?_)
      · -- taken
        exact absurd (⟨I, rfl, hI⟩ : inN (nI I) N) (bz_f h28 c_3)
      · -- not taken
        have bo28 := bz_t h28 c_3
        refine lv_aload_n hx hb d_Bm_makeKey_34 rfl (lv_at hl 0 rfl) ?_
        refine va_get (D := (dC, dI)) (ci := 8) (v := .ref a4) (C := "BallotBoardModel") (T := F_Bm) (N := 28) hx hb hts (fun w9 h9 => List.mem_cons_of_mem _ (i_Bm w9 h9)) hown hK hP 0 rfl rfl 15 (by decide) (hts _ (List.mem_cons_of_mem _ gk_934)) (fun _ h9 => h9) rfl d_Bm_makeKey_35 ?_
        refine lv_iload_n hx hb d_Bm_makeKey_38 rfl (lv_at hl 1 rfl) ?_
        refine va_iald hx hb hK hP 9 1 rfl rfl (vp_in_nI (by omega) (by omega)) d_Bm_makeKey_39 ?_
        rw [show (kf (nI I : Int32).toNatClampNeg : Int32) = kf I from by rw [nI_clamp (by omega)]]
        refine lv_if_lt (tgt := 47) hx hb d_Bm_makeKey_40 (by decide) (fun c_4 => ?_) (fun c_4 => ?_)
        · -- taken
          refine lv_iconst (v := 0) hx hb d_Bm_makeKey_47 (by decide) ?_
          refine lv_iconst (v := 1) hx hb d_Bm_makeKey_48 (by decide) ?_
          have hPc := hP.sub (ws' := (mo_ws m0 0 (nI N) (nI n) (nI bc) (lN P) (lN Q) (lN G) (lN al) (lN pa) (lN pb) cl a0 a1 a2 a3 a4 a5 a6 a7 a8 a9 b0 b1 oc b2 b3 b4 b5)) [0] rfl
          have hDc := hD.sub (ws' := (mo_ws m0 0 (nI N) (nI n) (nI bc) (lN P) (lN Q) (lN G) (lN al) (lN pa) (lN pb) cl a0 a1 a2 a3 a4 a5 a6 a7 a8 a9 b0 b1 oc b2 b3 b4 b5)) [0] (by decide) rfl
          have hKc := hK.sub (tys' := [(cJ, .long), (cI, .int)]) [0, 1] rfl
          have hFc := va_free (wc := (mo_ws m0 0 (nI N) (nI n) (nI bc) (lN P) (lN Q) (lN G) (lN al) (lN pa) (lN pb) cl a0 a1 a2 a3 a4 a5 a6 a7 a8 a9 b0 b1 oc b2 b3 b4 b5)) hD hS hA [0] rfl
          refine va_calli (va_runV (As := [.int 0, .int 1]) (rest := []) ⟨hx, hb, hml, hown, hts⟩ (c_Bm_fails_0 l dC dI cJ cI H.size m0 (nI N) (nI n) (nI bc) (lN P) (lN Q) (lN G) (lN al) (lN pa) (lN pb) cl a0 a1 a2 a3 a4 a5 a6 a7 a8 a9 b0 b1 oc b2 b3 b4 b5 1) (cwV 2 hts (gw_V gk_1030 gk_1032 gp_27 gk_7 gk_1033) rfl rfl rfl (by decide +kernel) ⟨Nat.le_of_ble_eq_true rfl, Nat.le_of_ble_eq_true rfl⟩) ⟨fun a U g mk q => by obtain ⟨q0, q1, qP, qK, qD⟩ := q; exact ⟨q0, q1, qP, va_K.moved (u := U) (U := U.calling g mk a) (Vm.Alike.refl U.vm) qK, qD⟩, va_recv hK hP (ci := 8) (q0 := 0) rfl rfl, fun U hU hW => ⟨rfl, by rw [hU], by rw [hU]; exact hPc, va_K.moved hW.alike hKc, hDc.weaken (fun _ _ _ _ => trivial)⟩⟩ rfl rfl hl.1 rfl (lv_room (Nat.le_of_ble_eq_true rfl)) d_Bm_makeKey_49 ⟨Nat.le_of_ble_eq_true rfl, Nat.le_of_ble_eq_true rfl⟩) hS (fun q _ h => hFc q h) hFc (fun r_5 u9 t9 H1 locs ht hvm hw hB hz1 hk1 hS => ?_)
          have hw : r_5 = 0 := hw
          subst hw
          obtain ⟨hP1, hK1, hD1⟩ := hB
          rw [ht] at hP1
          obtain ⟨hP, hD⟩ := va_join (wr := [(a7, .inl (cI, 256, .inl bf)), (a8, .inl (cI, 64, .inl sc)), (a9, .inl (cI, 8, .inl st)), (b0, .inl (cI, 8, .inl kS)), (b1, .inl (cI, 64, .inl kR)), (a2, .inl (cJ, 4, .inr (.inl tf))), (a0, .inl (cJ, 1232, .inr (.inl nf))), (a1, .inl (cJ, 616, .inr (.inl cf))), (a4, .inl (cI, 4, .inl kf)), (b2, .inl (cJ, 4, .inr (.inl ky))), (a3, .inl (cJ, 16, .inr (.inl lf)))]) (w1 := [(m0, .inr (8, [.int 0, .int (nI N), .int (nI n), .int (nI bc), .long (lN P), .long (lN Q), .long (lN G), .long (lN al), .long (lN pa), .long (lN pb), .int cl, .ref a0, .ref a1, .ref a2, .ref a3, .ref a4, .ref a5, .ref a6, .ref a7, .ref a8, .ref a9, .ref b0, .ref b1, .int (nI oc), .ref b2, .ref b3, .ref b4, .ref b5]))]) hP hD [0] [1, 2, 3, 4, 5, 6, 7, 8, 9, 10, 11] rfl rfl (by decide) (by decide) hk1 hFc hP1 hD1
          have hP := hP.sub (ws' := [(m0, .inr (8, [.int 0, .int (nI N), .int (nI n), .int (nI bc), .long (lN P), .long (lN Q), .long (lN G), .long (lN al), .long (lN pa), .long (lN pb), .int cl, .ref a0, .ref a1, .ref a2, .ref a3, .ref a4, .ref a5, .ref a6, .ref a7, .ref a8, .ref a9, .ref b0, .ref b1, .int (nI oc), .ref b2, .ref b3, .ref b4, .ref b5])), (a7, .inl (cI, 256, .inl bf)), (a8, .inl (cI, 64, .inl sc)), (a9, .inl (cI, 8, .inl st)), (b0, .inl (cI, 8, .inl kS)), (b1, .inl (cI, 64, .inl kR)), (a2, .inl (cJ, 4, .inr (.inl tf))), (a0, .inl (cJ, 1232, .inr (.inl nf))), (a1, .inl (cJ, 616, .inr (.inl cf))), (a4, .inl (cI, 4, .inl kf)), (b2, .inl (cJ, 4, .inr (.inl ky))), (a3, .inl (cJ, 16, .inr (.inl lf)))]) [11, 0, 1, 2, 3, 4, 5, 6, 7, 8, 9, 10] rfl
          have hD := hD.sub (ws' := [(m0, .inr (8, [.int 0, .int (nI N), .int (nI n), .int (nI bc), .long (lN P), .long (lN Q), .long (lN G), .long (lN al), .long (lN pa), .long (lN pb), .int cl, .ref a0, .ref a1, .ref a2, .ref a3, .ref a4, .ref a5, .ref a6, .ref a7, .ref a8, .ref a9, .ref b0, .ref b1, .int (nI oc), .ref b2, .ref b3, .ref b4, .ref b5])), (a7, .inl (cI, 256, .inl bf)), (a8, .inl (cI, 64, .inl sc)), (a9, .inl (cI, 8, .inl st)), (b0, .inl (cI, 8, .inl kS)), (b1, .inl (cI, 64, .inl kR)), (a2, .inl (cJ, 4, .inr (.inl tf))), (a0, .inl (cJ, 1232, .inr (.inl nf))), (a1, .inl (cJ, 616, .inr (.inl cf))), (a4, .inl (cI, 4, .inl kf)), (b2, .inl (cJ, 4, .inr (.inl ky))), (a3, .inl (cJ, 16, .inr (.inl lf)))]) [11, 0, 1, 2, 3, 4, 5, 6, 7, 8, 9, 10] (by decide) rfl
          generalize H1 = H at hP hS ⊢
          refine lv_if_ne (tgt := 99) hx hb d_Bm_makeKey_52 (by decide) (fun c_6 => ?_) (fun c_6 => ?_)
          · -- taken
            exact absurd rfl c_6
          · -- not taken
            refine lv_aload_n hx hb d_Bm_makeKey_55 rfl (lv_at hl 0 rfl) ?_
            refine lv_iload_n hx hb d_Bm_makeKey_56 rfl (lv_at hl 1 rfl) ?_
            refine lv_iconst (v := 0) hx hb d_Bm_makeKey_57 (by decide) ?_
            refine lv_aload_n hx hb d_Bm_makeKey_58 rfl (lv_at hl 0 rfl) ?_
            refine va_get (D := (dC, dI)) (ci := 8) (v := .int (nI N)) (C := "BallotBoardModel") (T := F_Bm) (N := 28) hx hb hts (fun w9 h9 => List.mem_cons_of_mem _ (i_Bm w9 h9)) hown hK hP 0 rfl rfl 1 (by decide) (hts _ (List.mem_cons_of_mem _ gk_920)) (fun _ h9 => h9) rfl d_Bm_makeKey_59 ?_
            refine lv_iconst (v := 1) hx hb d_Bm_makeKey_62 (by decide) ?_
            refine lv_isub hx hb d_Bm_makeKey_63 ?_
            rw [show ((nI N) - 1 : Int32) = (nI (N - 1)) from nI_subI (b := 1) (by omega) rfl]
            refine va_calli (va_runS (As := [.int (nI I), .int 0, .int (nI (N - 1))]) (rest := [.ref m0]) ⟨hx, hb, hml, hown, hts⟩ (c_Bm_in l H (nI I) 0 (nI (N - 1))) (cwS 3 hts (gw_S gk_1027 gk_1028 gk_7 gk_1029) rfl rfl rfl (by decide +kernel) ⟨Nat.le_of_ble_eq_true rfl, Nat.le_of_ble_eq_true rfl⟩) ⟨fun a U g mk q => q, fun U hU hW => ⟨rfl, hU⟩⟩ rfl rfl hl.1 rfl (lv_room (Nat.le_of_ble_eq_true rfl)) d_Bm_makeKey_64 ⟨Nat.le_of_ble_eq_true rfl, Nat.le_of_ble_eq_true rfl⟩) hS (fun q _ h => h.elim) (fun q h => h.elim) (fun r64 u9 t9 H1 locs ht hvm hw hB hz1 hk1 hS => ?_)
            obtain rfl : H = H1 := hB.symm.trans ht
            have h64 : bz r64 (inN (nI I) N) := bz_in hN0 (by omega) rfl hw
            refine lv_if_eq (tgt := 87) hx hb d_Bm_makeKey_67 (by decide) (fun c_7 => ?_) (fun c_7 => ?_)
            · -- taken
              exact absurd (⟨I, rfl, hI⟩ : inN (nI I) N) (bz_f h64 c_7)
            · -- not taken
              have bo64 := bz_t h64 c_7
              refine lv_aload_n hx hb d_Bm_makeKey_70 rfl (lv_at hl 0 rfl) ?_
              refine lv_lload_n hx hb d_Bm_makeKey_71 rfl (lv_at hl 2 rfl) ?_
              have hPc := hP.sub (ws' := (mo_ws m0 0 (nI N) (nI n) (nI bc) (lN P) (lN Q) (lN G) (lN al) (lN pa) (lN pb) cl a0 a1 a2 a3 a4 a5 a6 a7 a8 a9 b0 b1 oc b2 b3 b4 b5)) [0] rfl
              have hKc := hK.sub (tys' := [(cJ, .long), (cI, .int)]) [0, 1] rfl
              refine va_calli (va_runV (As := [.long (lN X1)]) (rest := [.ref m0]) ⟨hx, hb, hml, hown, hts⟩ (c_Bm_isExponent l H dC dI cJ cI m0 0 (nI N) (nI n) (nI bc) (lN al) (lN pa) (lN pb) cl a0 a1 a2 a3 a4 a5 a6 a7 a8 a9 b0 b1 oc b2 b3 b4 b5 P Q G (lN X1) hPc hPQ h61F hQ3 ) (cwV 1 hts (gw_V gk_1042 gk_1044 gp_29 gk_7 gk_1045) rfl rfl rfl (by decide +kernel) ⟨Nat.le_of_ble_eq_true rfl, Nat.le_of_ble_eq_true rfl⟩) ⟨fun a U g mk q => ⟨q.1, q.2.1, va_K.moved (u := U) (U := U.calling g mk a) (Vm.Alike.refl U.vm) q.2.2⟩, va_recv hK hP (ci := 8) (q0 := 0) rfl rfl, fun U hU hW => ⟨rfl, hU, va_K.moved hW.alike hKc⟩⟩ rfl rfl hl.1 rfl (lv_room (Nat.le_of_ble_eq_true rfl)) d_Bm_makeKey_72 ⟨Nat.le_of_ble_eq_true rfl, Nat.le_of_ble_eq_true rfl⟩) hS (fun q _ h => h.elim) (fun q h => h.elim) (fun r72 u9 t9 H1 locs ht hvm hw hB hz1 hk1 hS => ?_)
              obtain rfl : H = H1 := hB.symm.trans ht
              have h72 := hw
              refine lv_if_eq (tgt := 87) hx hb d_Bm_makeKey_75 (by decide) (fun c_8 => ?_) (fun c_8 => ?_)
              · -- taken
                exact absurd ⟨X1, rfl, hX9⟩ (bz_f h72 c_8)
              · -- not taken
                have bo72 := bz_t h72 c_8
                refine lv_aload_n hx hb d_Bm_makeKey_78 rfl (lv_at hl 0 rfl) ?_
                refine lv_lload hx hb d_Bm_makeKey_79 (lv_at hl 3 rfl) ?_
                have hPc := hP.sub (ws' := (mo_ws m0 0 (nI N) (nI n) (nI bc) (lN P) (lN Q) (lN G) (lN al) (lN pa) (lN pb) cl a0 a1 a2 a3 a4 a5 a6 a7 a8 a9 b0 b1 oc b2 b3 b4 b5)) [0] rfl
                have hKc := hK.sub (tys' := [(cJ, .long), (cI, .int)]) [0, 1] rfl
                refine va_calli (va_runV (As := [.long (lN W1)]) (rest := [.ref m0]) ⟨hx, hb, hml, hown, hts⟩ (c_Bm_isExponent l H dC dI cJ cI m0 0 (nI N) (nI n) (nI bc) (lN al) (lN pa) (lN pb) cl a0 a1 a2 a3 a4 a5 a6 a7 a8 a9 b0 b1 oc b2 b3 b4 b5 P Q G (lN W1) hPc hPQ h61F hQ3 ) (cwV 1 hts (gw_V gk_1042 gk_1044 gp_29 gk_7 gk_1045) rfl rfl rfl (by decide +kernel) ⟨Nat.le_of_ble_eq_true rfl, Nat.le_of_ble_eq_true rfl⟩) ⟨fun a U g mk q => ⟨q.1, q.2.1, va_K.moved (u := U) (U := U.calling g mk a) (Vm.Alike.refl U.vm) q.2.2⟩, va_recv hK hP (ci := 8) (q0 := 0) rfl rfl, fun U hU hW => ⟨rfl, hU, va_K.moved hW.alike hKc⟩⟩ rfl rfl hl.1 rfl (lv_room (Nat.le_of_ble_eq_true rfl)) d_Bm_makeKey_81 ⟨Nat.le_of_ble_eq_true rfl, Nat.le_of_ble_eq_true rfl⟩) hS (fun q _ h => h.elim) (fun q h => h.elim) (fun r81 u9 t9 H1 locs ht hvm hw hB hz1 hk1 hS => ?_)
                obtain rfl : H = H1 := hB.symm.trans ht
                have h81 := hw
                refine lv_if_ne (tgt := 91) hx hb d_Bm_makeKey_84 (by decide) (fun c_9 => ?_) (fun c_9 => ?_)
                · -- taken
                  have bo81 := bz_t h81 c_9
                  refine lv_iconst (v := 0) hx hb d_Bm_makeKey_91 (by decide) ?_
                  refine lv_iconst (v := 2) hx hb d_Bm_makeKey_92 (by decide) ?_
                  have hPc := hP.sub (ws' := (mo_ws m0 0 (nI N) (nI n) (nI bc) (lN P) (lN Q) (lN G) (lN al) (lN pa) (lN pb) cl a0 a1 a2 a3 a4 a5 a6 a7 a8 a9 b0 b1 oc b2 b3 b4 b5)) [0] rfl
                  have hDc := hD.sub (ws' := (mo_ws m0 0 (nI N) (nI n) (nI bc) (lN P) (lN Q) (lN G) (lN al) (lN pa) (lN pb) cl a0 a1 a2 a3 a4 a5 a6 a7 a8 a9 b0 b1 oc b2 b3 b4 b5)) [0] (by decide) rfl
                  have hKc := hK.sub (tys' := [(cJ, .long), (cI, .int)]) [0, 1] rfl
                  have hFc := va_free (wc := (mo_ws m0 0 (nI N) (nI n) (nI bc) (lN P) (lN Q) (lN G) (lN al) (lN pa) (lN pb) cl a0 a1 a2 a3 a4 a5 a6 a7 a8 a9 b0 b1 oc b2 b3 b4 b5)) hD hS hA [0] rfl
                  refine va_calli (va_runV (As := [.int 0, .int 2]) (rest := []) ⟨hx, hb, hml, hown, hts⟩ (c_Bm_fails_0 l dC dI cJ cI H.size m0 (nI N) (nI n) (nI bc) (lN P) (lN Q) (lN G) (lN al) (lN pa) (lN pb) cl a0 a1 a2 a3 a4 a5 a6 a7 a8 a9 b0 b1 oc b2 b3 b4 b5 2) (cwV 2 hts (gw_V gk_1030 gk_1032 gp_27 gk_7 gk_1033) rfl rfl rfl (by decide +kernel) ⟨Nat.le_of_ble_eq_true rfl, Nat.le_of_ble_eq_true rfl⟩) ⟨fun a U g mk q => by obtain ⟨q0, q1, qP, qK, qD⟩ := q; exact ⟨q0, q1, qP, va_K.moved (u := U) (U := U.calling g mk a) (Vm.Alike.refl U.vm) qK, qD⟩, va_recv hK hP (ci := 8) (q0 := 0) rfl rfl, fun U hU hW => ⟨rfl, by rw [hU], by rw [hU]; exact hPc, va_K.moved hW.alike hKc, hDc.weaken (fun _ _ _ _ => trivial)⟩⟩ rfl rfl hl.1 rfl (lv_room (Nat.le_of_ble_eq_true rfl)) d_Bm_makeKey_93 ⟨Nat.le_of_ble_eq_true rfl, Nat.le_of_ble_eq_true rfl⟩) hS (fun q _ h => hFc q h) hFc (fun r_10 u9 t9 H1 locs ht hvm hw hB hz1 hk1 hS => ?_)
                  have hw : r_10 = 0 := hw
                  subst hw
                  obtain ⟨hP1, hK1, hD1⟩ := hB
                  rw [ht] at hP1
                  obtain ⟨hP, hD⟩ := va_join (wr := [(a7, .inl (cI, 256, .inl bf)), (a8, .inl (cI, 64, .inl sc)), (a9, .inl (cI, 8, .inl st)), (b0, .inl (cI, 8, .inl kS)), (b1, .inl (cI, 64, .inl kR)), (a2, .inl (cJ, 4, .inr (.inl tf))), (a0, .inl (cJ, 1232, .inr (.inl nf))), (a1, .inl (cJ, 616, .inr (.inl cf))), (a4, .inl (cI, 4, .inl kf)), (b2, .inl (cJ, 4, .inr (.inl ky))), (a3, .inl (cJ, 16, .inr (.inl lf)))]) (w1 := [(m0, .inr (8, [.int 0, .int (nI N), .int (nI n), .int (nI bc), .long (lN P), .long (lN Q), .long (lN G), .long (lN al), .long (lN pa), .long (lN pb), .int cl, .ref a0, .ref a1, .ref a2, .ref a3, .ref a4, .ref a5, .ref a6, .ref a7, .ref a8, .ref a9, .ref b0, .ref b1, .int (nI oc), .ref b2, .ref b3, .ref b4, .ref b5]))]) hP hD [0] [1, 2, 3, 4, 5, 6, 7, 8, 9, 10, 11] rfl rfl (by decide) (by decide) hk1 hFc hP1 hD1
                  have hP := hP.sub (ws' := [(m0, .inr (8, [.int 0, .int (nI N), .int (nI n), .int (nI bc), .long (lN P), .long (lN Q), .long (lN G), .long (lN al), .long (lN pa), .long (lN pb), .int cl, .ref a0, .ref a1, .ref a2, .ref a3, .ref a4, .ref a5, .ref a6, .ref a7, .ref a8, .ref a9, .ref b0, .ref b1, .int (nI oc), .ref b2, .ref b3, .ref b4, .ref b5])), (a7, .inl (cI, 256, .inl bf)), (a8, .inl (cI, 64, .inl sc)), (a9, .inl (cI, 8, .inl st)), (b0, .inl (cI, 8, .inl kS)), (b1, .inl (cI, 64, .inl kR)), (a2, .inl (cJ, 4, .inr (.inl tf))), (a0, .inl (cJ, 1232, .inr (.inl nf))), (a1, .inl (cJ, 616, .inr (.inl cf))), (a4, .inl (cI, 4, .inl kf)), (b2, .inl (cJ, 4, .inr (.inl ky))), (a3, .inl (cJ, 16, .inr (.inl lf)))]) [11, 0, 1, 2, 3, 4, 5, 6, 7, 8, 9, 10] rfl
                  have hD := hD.sub (ws' := [(m0, .inr (8, [.int 0, .int (nI N), .int (nI n), .int (nI bc), .long (lN P), .long (lN Q), .long (lN G), .long (lN al), .long (lN pa), .long (lN pb), .int cl, .ref a0, .ref a1, .ref a2, .ref a3, .ref a4, .ref a5, .ref a6, .ref a7, .ref a8, .ref a9, .ref b0, .ref b1, .int (nI oc), .ref b2, .ref b3, .ref b4, .ref b5])), (a7, .inl (cI, 256, .inl bf)), (a8, .inl (cI, 64, .inl sc)), (a9, .inl (cI, 8, .inl st)), (b0, .inl (cI, 8, .inl kS)), (b1, .inl (cI, 64, .inl kR)), (a2, .inl (cJ, 4, .inr (.inl tf))), (a0, .inl (cJ, 1232, .inr (.inl nf))), (a1, .inl (cJ, 616, .inr (.inl cf))), (a4, .inl (cI, 4, .inl kf)), (b2, .inl (cJ, 4, .inr (.inl ky))), (a3, .inl (cJ, 16, .inr (.inl lf)))]) [11, 0, 1, 2, 3, 4, 5, 6, 7, 8, 9, 10] (by decide) rfl
                  generalize H1 = H at hP hS ⊢
                  refine lv_if_eq (tgt := 101) hx hb d_Bm_makeKey_96 (by decide) (fun c_11 => ?_) (fun c_11 => ?_)
                  · -- taken
                    refine lv_aload_n hx hb d_Bm_makeKey_101 rfl (lv_at hl 0 rfl) ?_
                    refine lv_aload_n hx hb d_Bm_makeKey_102 rfl (lv_at hl 0 rfl) ?_
                    refine va_get (D := (dC, dI)) (ci := 8) (v := .long (lN G)) (C := "BallotBoardModel") (T := F_Bm) (N := 28) hx hb hts (fun w9 h9 => List.mem_cons_of_mem _ (i_Bm w9 h9)) hown hK hP 0 rfl rfl 6 (by decide) (hts _ (List.mem_cons_of_mem _ gk_925)) (fun _ h9 => h9) rfl d_Bm_makeKey_103 ?_
                    refine lv_lload_n hx hb d_Bm_makeKey_106 rfl (lv_at hl 2 rfl) ?_
                    have hPc := hP.sub (ws' := (mo_ws m0 0 (nI N) (nI n) (nI bc) (lN P) (lN Q) (lN G) (lN al) (lN pa) (lN pb) cl a0 a1 a2 a3 a4 a5 a6 a7 a8 a9 b0 b1 oc b2 b3 b4 b5)) [0] rfl
                    have hKc := hK.sub (tys' := [(cJ, .long), (cI, .int)]) [0, 1] rfl
                    refine va_calll (va_runV (As := [.long (lN G), .long (lN X1)]) (rest := []) ⟨hx, hb, hml, hown, hts⟩ (c_Bm_power2 l H dC dI cJ cI m0 0 (nI N) (nI n) (nI bc) (lN al) (lN pa) (lN pb) cl a0 a1 a2 a3 a4 a5 a6 a7 a8 a9 b0 b1 oc b2 b3 b4 b5 P Q G G X1 hPc hPQ h61F hQ3 hGP (by omega)) (cwV 2 hts (gw_V gk_1050 gk_1052 gp_31 gk_7 gk_1053) rfl rfl rfl (by decide +kernel) ⟨Nat.le_of_ble_eq_true rfl, Nat.le_of_ble_eq_true rfl⟩) ⟨fun a U g mk q => ⟨q.1, q.2.1, va_K.moved (u := U) (U := U.calling g mk a) (Vm.Alike.refl U.vm) q.2.2⟩, va_recv hK hP (ci := 8) (q0 := 0) rfl rfl, fun U hU hW => ⟨rfl, hU, va_K.moved hW.alike hKc⟩⟩ rfl rfl hl.1 rfl (lv_room (Nat.le_of_ble_eq_true rfl)) d_Bm_makeKey_107 ⟨Nat.le_of_ble_eq_true rfl, Nat.le_of_ble_eq_true rfl⟩) hS (fun q _ h => h.elim) (fun q h => h.elim) (fun r107 u9 t9 H1 locs ht hvm hw hB hz1 hk1 hS => ?_)
                    obtain rfl : H = H1 := hB.symm.trans ht
                    have hw : r107 = lN (G ^ X1 % P) := hw
                    subst hw
                    refine lv_lstore (lv' := [(6, .long (lN (G ^ X1 % P))), (0, .ref m0), (1, .int (nI I)), (2, .long (lN X1)), (4, .long (lN W1))]) hx hb d_Bm_makeKey_110 hl (by decide) rfl (fun ls hl => ?_)
                    refine lv_aload_n hx hb d_Bm_makeKey_112 rfl (lv_at hl 1 rfl) ?_
                    refine lv_lconst (v := 1) hx hb d_Bm_makeKey_113 (by decide) ?_
                    refine lv_iload_n hx hb d_Bm_makeKey_114 rfl (lv_at hl 2 rfl) ?_
                    refine lv_i2l (v := (nI I : Int32).toInt64) hx hb d_Bm_makeKey_115 rfl ?_
                    rw [show ((nI I : Int32).toInt64 : Int64) = (lN I) from i2l_nI (by omega)]
                    refine lv_lload hx hb d_Bm_makeKey_116 (lv_at hl 0 rfl) ?_
                    refine lv_aload_n hx hb d_Bm_makeKey_118 rfl (lv_at hl 1 rfl) ?_
                    refine lv_aload_n hx hb d_Bm_makeKey_119 rfl (lv_at hl 1 rfl) ?_
                    refine va_get (D := (dC, dI)) (ci := 8) (v := .long (lN G)) (C := "BallotBoardModel") (T := F_Bm) (N := 28) hx hb hts (fun w9 h9 => List.mem_cons_of_mem _ (i_Bm w9 h9)) hown hK hP 0 rfl rfl 6 (by decide) (hts _ (List.mem_cons_of_mem _ gk_925)) (fun _ h9 => h9) rfl d_Bm_makeKey_120 ?_
                    refine lv_lload hx hb d_Bm_makeKey_123 (lv_at hl 4 rfl) ?_
                    have hPc := hP.sub (ws' := (mo_ws m0 0 (nI N) (nI n) (nI bc) (lN P) (lN Q) (lN G) (lN al) (lN pa) (lN pb) cl a0 a1 a2 a3 a4 a5 a6 a7 a8 a9 b0 b1 oc b2 b3 b4 b5)) [0] rfl
                    have hKc := hK.sub (tys' := [(cJ, .long), (cI, .int)]) [0, 1] rfl
                    refine va_calll (va_runV (As := [.long (lN G), .long (lN W1)]) (rest := [.long (lN (G ^ X1 % P)), .long (lN I), .long 1, .ref m0]) ⟨hx, hb, hml, hown, hts⟩ (c_Bm_power2 l H dC dI cJ cI m0 0 (nI N) (nI n) (nI bc) (lN al) (lN pa) (lN pb) cl a0 a1 a2 a3 a4 a5 a6 a7 a8 a9 b0 b1 oc b2 b3 b4 b5 P Q G G W1 hPc hPQ h61F hQ3 hGP (by omega)) (cwV 2 hts (gw_V gk_1050 gk_1052 gp_31 gk_7 gk_1053) rfl rfl rfl (by decide +kernel) ⟨Nat.le_of_ble_eq_true rfl, Nat.le_of_ble_eq_true rfl⟩) ⟨fun a U g mk q => ⟨q.1, q.2.1, va_K.moved (u := U) (U := U.calling g mk a) (Vm.Alike.refl U.vm) q.2.2⟩, va_recv hK hP (ci := 8) (q0 := 0) rfl rfl, fun U hU hW => ⟨rfl, hU, va_K.moved hW.alike hKc⟩⟩ rfl rfl hl.1 rfl (lv_room (Nat.le_of_ble_eq_true rfl)) d_Bm_makeKey_125 ⟨Nat.le_of_ble_eq_true rfl, Nat.le_of_ble_eq_true rfl⟩) hS (fun q _ h => h.elim) (fun q h => h.elim) (fun r125 u9 t9 H1 locs ht hvm hw hB hz1 hk1 hS => ?_)
                    obtain rfl : H = H1 := hB.symm.trans ht
                    have hw : r125 = lN (G ^ W1 % P) := hw
                    subst hw
                    have hPc := hP.sub (ws' := (mo_ws m0 0 (nI N) (nI n) (nI bc) (lN P) (lN Q) (lN G) (lN al) (lN pa) (lN pb) cl a0 a1 a2 a3 a4 a5 a6 a7 a8 a9 b0 b1 oc b2 b3 b4 b5 ++ (iw_ws a7 cI 256 bf ++ (iw_ws a8 cI 64 sc ++ (iw_ws a9 cI 8 st ++ (iw_ws b0 cI 8 kS ++ (iw_ws b1 cI 64 kR ++ (jw_ws a2 cJ 4 tf ++ (jw_ws a3 cJ 16 lf))))))))) [0, 1, 2, 3, 4, 5, 6, 11] rfl
                    have hDc := hD.sub (ws' := (mo_ws m0 0 (nI N) (nI n) (nI bc) (lN P) (lN Q) (lN G) (lN al) (lN pa) (lN pb) cl a0 a1 a2 a3 a4 a5 a6 a7 a8 a9 b0 b1 oc b2 b3 b4 b5 ++ (iw_ws a7 cI 256 bf ++ (iw_ws a8 cI 64 sc ++ (iw_ws a9 cI 8 st ++ (iw_ws b0 cI 8 kS ++ (iw_ws b1 cI 64 kR ++ (jw_ws a2 cJ 4 tf ++ (jw_ws a3 cJ 16 lf))))))))) [0, 1, 2, 3, 4, 5, 6, 11] (by decide) rfl
                    have hKc := hK.sub (tys' := [(cJ, .long), (cI, .int)]) [0, 1] rfl
                    have hFc := va_free (wc := (mo_ws m0 0 (nI N) (nI n) (nI bc) (lN P) (lN Q) (lN G) (lN al) (lN pa) (lN pb) cl a0 a1 a2 a3 a4 a5 a6 a7 a8 a9 b0 b1 oc b2 b3 b4 b5 ++ (iw_ws a7 cI 256 bf ++ (iw_ws a8 cI 64 sc ++ (iw_ws a9 cI 8 st ++ (iw_ws b0 cI 8 kS ++ (iw_ws b1 cI 64 kR ++ (jw_ws a2 cJ 4 tf ++ (jw_ws a3 cJ 16 lf))))))))) hD hS hA [0, 1, 2, 3, 4, 5, 6, 11] rfl
                    refine va_calll (va_runV (As := [.long 1, .long (lN I), .long (lN (G ^ X1 % P)), .long (lN (G ^ W1 % P))]) (rest := []) ⟨hx, hb, hml, hown, hts⟩ (c_Bm_hash4 l dC dI cJ cI H.size m0 0 (nI N) (nI n) (nI bc) (lN al) (lN pa) (lN pb) cl a0 a1 a2 a3 a4 a5 a6 a7 a8 a9 b0 b1 oc b2 b3 b4 b5 P Q G bf sc st tf lf 1 (lN I) (lN (G ^ X1 % P)) (lN (G ^ W1 % P)) hPQ h61F hQ3) (cwV 4 hts (gw_V gk_1062 gk_1064 gp_34 gk_7 gk_1065) rfl rfl rfl (by decide +kernel) ⟨Nat.le_of_ble_eq_true rfl, Nat.le_of_ble_eq_true rfl⟩) ⟨fun a U g mk q => by obtain ⟨q0, q1, qP, qK, qD⟩ := q; exact ⟨q0, q1, qP, va_K.moved (u := U) (U := U.calling g mk a) (Vm.Alike.refl U.vm) qK, qD⟩, va_recv hK hP (ci := 8) (q0 := 0) rfl rfl, fun U hU hW => ⟨rfl, by rw [hU], by rw [hU]; exact hPc, va_K.moved hW.alike hKc, hDc.weaken (fun _ _ _ _ => trivial)⟩⟩ rfl rfl hl.1 rfl (lv_room (Nat.le_of_ble_eq_true rfl)) d_Bm_makeKey_128 ⟨Nat.le_of_ble_eq_true rfl, Nat.le_of_ble_eq_true rfl⟩) hS (fun q _ h => hFc q h) hFc (fun r_13 u9 t9 H1 locs ht hvm hw hB hz1 hk1 hS => ?_)
                    obtain ⟨⟨gbk_12, gsk_12, gtk_12, gfk_12, gok_12⟩, glk_12⟩ := u9
                    have hw : r_13 = lN (hsh Q [lN P, lN G, 1, lN I, lN (G ^ X1 % P), lN (G ^ W1 % P)]) := hw
                    subst hw
                    obtain ⟨hP1, hK1, hD1⟩ := hB
                    rw [ht] at hP1
                    obtain ⟨hP, hD⟩ := va_join (wr := [(a0, .inl (cJ, 1232, .inr (.inl nf))), (a1, .inl (cJ, 616, .inr (.inl cf))), (a4, .inl (cI, 4, .inl kf)), (b2, .inl (cJ, 4, .inr (.inl ky)))]) (w1 := [(m0, .inr (8, [.int 0, .int (nI N), .int (nI n), .int (nI bc), .long (lN P), .long (lN Q), .long (lN G), .long (lN al), .long (lN pa), .long (lN pb), .int cl, .ref a0, .ref a1, .ref a2, .ref a3, .ref a4, .ref a5, .ref a6, .ref a7, .ref a8, .ref a9, .ref b0, .ref b1, .int (nI gok_12), .ref b2, .ref b3, .ref b4, .ref b5])), (a7, .inl (cI, 256, .inl gbk_12)), (a8, .inl (cI, 64, .inl gsk_12)), (a9, .inl (cI, 8, .inl gtk_12)), (b0, .inl (cI, 8, .inl kS)), (b1, .inl (cI, 64, .inl kR)), (a2, .inl (cJ, 4, .inr (.inl gfk_12))), (a3, .inl (cJ, 16, .inr (.inl glk_12)))]) hP hD [0, 1, 2, 3, 4, 5, 6, 11] [7, 8, 9, 10] rfl rfl (by decide) (by decide) hk1 hFc hP1 hD1
                    have hP := hP.sub (ws' := [(m0, .inr (8, [.int 0, .int (nI N), .int (nI n), .int (nI bc), .long (lN P), .long (lN Q), .long (lN G), .long (lN al), .long (lN pa), .long (lN pb), .int cl, .ref a0, .ref a1, .ref a2, .ref a3, .ref a4, .ref a5, .ref a6, .ref a7, .ref a8, .ref a9, .ref b0, .ref b1, .int (nI gok_12), .ref b2, .ref b3, .ref b4, .ref b5])), (a7, .inl (cI, 256, .inl gbk_12)), (a8, .inl (cI, 64, .inl gsk_12)), (a9, .inl (cI, 8, .inl gtk_12)), (b0, .inl (cI, 8, .inl kS)), (b1, .inl (cI, 64, .inl kR)), (a2, .inl (cJ, 4, .inr (.inl gfk_12))), (a0, .inl (cJ, 1232, .inr (.inl nf))), (a1, .inl (cJ, 616, .inr (.inl cf))), (a4, .inl (cI, 4, .inl kf)), (b2, .inl (cJ, 4, .inr (.inl ky))), (a3, .inl (cJ, 16, .inr (.inl glk_12)))]) [4, 5, 6, 7, 8, 9, 10, 0, 1, 2, 3, 11] rfl
                    have hD := hD.sub (ws' := [(m0, .inr (8, [.int 0, .int (nI N), .int (nI n), .int (nI bc), .long (lN P), .long (lN Q), .long (lN G), .long (lN al), .long (lN pa), .long (lN pb), .int cl, .ref a0, .ref a1, .ref a2, .ref a3, .ref a4, .ref a5, .ref a6, .ref a7, .ref a8, .ref a9, .ref b0, .ref b1, .int (nI gok_12), .ref b2, .ref b3, .ref b4, .ref b5])), (a7, .inl (cI, 256, .inl gbk_12)), (a8, .inl (cI, 64, .inl gsk_12)), (a9, .inl (cI, 8, .inl gtk_12)), (b0, .inl (cI, 8, .inl kS)), (b1, .inl (cI, 64, .inl kR)), (a2, .inl (cJ, 4, .inr (.inl gfk_12))), (a0, .inl (cJ, 1232, .inr (.inl nf))), (a1, .inl (cJ, 616, .inr (.inl cf))), (a4, .inl (cI, 4, .inl kf)), (b2, .inl (cJ, 4, .inr (.inl ky))), (a3, .inl (cJ, 16, .inr (.inl glk_12)))]) [4, 5, 6, 7, 8, 9, 10, 0, 1, 2, 3, 11] (by decide) rfl
                    generalize H1 = H at hP hS ⊢
                    refine lv_lstore (lv' := [(8, .long (lN (hsh Q [lN P, lN G, 1, lN I, lN (G ^ X1 % P), lN (G ^ W1 % P)]))), (6, .long (lN (G ^ X1 % P))), (0, .ref m0), (1, .int (nI I)), (2, .long (lN X1)), (4, .long (lN W1))]) hx hb d_Bm_makeKey_131 hl (by decide) rfl (fun ls hl => ?_)
                    refine lv_aload_n hx hb d_Bm_makeKey_133 rfl (lv_at hl 2 rfl) ?_
                    refine lv_iload_n hx hb d_Bm_makeKey_134 rfl (lv_at hl 3 rfl) ?_
                    refine lv_lload hx hb d_Bm_makeKey_135 (lv_at hl 1 rfl) ?_
                    refine lv_lload hx hb d_Bm_makeKey_137 (lv_at hl 0 rfl) ?_
                    refine lv_lload hx hb d_Bm_makeKey_139 (lv_at hl 5 rfl) ?_
                    refine lv_lload hx hb d_Bm_makeKey_141 (lv_at hl 0 rfl) ?_
                    refine lv_lload_n hx hb d_Bm_makeKey_143 rfl (lv_at hl 4 rfl) ?_
                    refine lv_aload_n hx hb d_Bm_makeKey_144 rfl (lv_at hl 2 rfl) ?_
                    refine va_get (D := (dC, dI)) (ci := 8) (v := .long (lN Q)) (C := "BallotBoardModel") (T := F_Bm) (N := 28) hx hb hts (fun w9 h9 => List.mem_cons_of_mem _ (i_Bm w9 h9)) hown hK hP 0 rfl rfl 5 (by decide) (hts _ (List.mem_cons_of_mem _ gk_924)) (fun _ h9 => h9) rfl d_Bm_makeKey_145 ?_
                    refine va_calll (va_runS (As := [.long (lN (hsh Q [lN P, lN G, 1, lN I, lN (G ^ X1 % P), lN (G ^ W1 % P)])), .long (lN X1), .long (lN Q)]) (rest := [.long (lN W1), .long (lN (hsh Q [lN P, lN G, 1, lN I, lN (G ^ X1 % P), lN (G ^ W1 % P)])), .long (lN (G ^ X1 % P)), .int (nI I), .ref m0]) ⟨hx, hb, hml, hown, hts⟩ (c_Bm_product l H (hsh Q [lN P, lN G, 1, lN I, lN (G ^ X1 % P), lN (G ^ W1 % P)]) X1 Q (hsh_lt (by omega) _) (by omega) (by omega)) (cwS 3 hts (gw_S gk_1021 gk_1022 gk_7 gk_1023) rfl rfl rfl (by decide +kernel) ⟨Nat.le_of_ble_eq_true rfl, Nat.le_of_ble_eq_true rfl⟩) ⟨fun a U g mk q => q, fun U hU hW => ⟨rfl, hU⟩⟩ rfl rfl hl.1 rfl (lv_room (Nat.le_of_ble_eq_true rfl)) d_Bm_makeKey_148 ⟨Nat.le_of_ble_eq_true rfl, Nat.le_of_ble_eq_true rfl⟩) hS (fun q _ h => h.elim) (fun q h => h.elim) (fun r148 u9 t9 H1 locs ht hvm hw hB hz1 hk1 hS => ?_)
                    obtain rfl : H = H1 := hB.symm.trans ht
                    have hw : r148 = lN ((hsh Q [lN P, lN G, 1, lN I, lN (G ^ X1 % P), lN (G ^ W1 % P)]) * X1 % Q) := hw
                    subst hw
                    refine lv_aload_n hx hb d_Bm_makeKey_151 rfl (lv_at hl 2 rfl) ?_
                    refine va_get (D := (dC, dI)) (ci := 8) (v := .long (lN Q)) (C := "BallotBoardModel") (T := F_Bm) (N := 28) hx hb hts (fun w9 h9 => List.mem_cons_of_mem _ (i_Bm w9 h9)) hown hK hP 0 rfl rfl 5 (by decide) (hts _ (List.mem_cons_of_mem _ gk_924)) (fun _ h9 => h9) rfl d_Bm_makeKey_152 ?_
                    refine va_calll (va_runS (As := [.long (lN W1), .long (lN ((hsh Q [lN P, lN G, 1, lN I, lN (G ^ X1 % P), lN (G ^ W1 % P)]) * X1 % Q)), .long (lN Q)]) (rest := [.long (lN (hsh Q [lN P, lN G, 1, lN I, lN (G ^ X1 % P), lN (G ^ W1 % P)])), .long (lN (G ^ X1 % P)), .int (nI I), .ref m0]) ⟨hx, hb, hml, hown, hts⟩ (c_Bm_sum l H W1 ((hsh Q [lN P, lN G, 1, lN I, lN (G ^ X1 % P), lN (G ^ W1 % P)]) * X1 % Q) Q hW9 (Nat.mod_lt _ (by omega)) (by omega)) (cwS 3 hts (gw_S gk_1024 gk_1025 gk_7 gk_1026) rfl rfl rfl (by decide +kernel) ⟨Nat.le_of_ble_eq_true rfl, Nat.le_of_ble_eq_true rfl⟩) ⟨fun a U g mk q => q, fun U hU hW => ⟨rfl, hU⟩⟩ rfl rfl hl.1 rfl (lv_room (Nat.le_of_ble_eq_true rfl)) d_Bm_makeKey_155 ⟨Nat.le_of_ble_eq_true rfl, Nat.le_of_ble_eq_true rfl⟩) hS (fun q _ h => h.elim) (fun q h => h.elim) (fun r155 u9 t9 H1 locs ht hvm hw hB hz1 hk1 hS => ?_)
                    obtain rfl : H = H1 := hB.symm.trans ht
                    have hw : r155 = lN ((W1 + ((hsh Q [lN P, lN G, 1, lN I, lN (G ^ X1 % P), lN (G ^ W1 % P)]) * X1 % Q)) % Q) := hw
                    subst hw
                    have hPc := hP.sub (ws' := (mo_ws m0 0 (nI N) (nI n) (nI bc) (lN P) (lN Q) (lN G) (lN al) (lN pa) (lN pb) cl a0 a1 a2 a3 a4 a5 a6 a7 a8 a9 b0 b1 gok_12 b2 b3 b4 b5 ++ (iw_ws a7 cI 256 gbk_12 ++ (iw_ws a8 cI 64 gsk_12 ++ (iw_ws a9 cI 8 gtk_12 ++ (iw_ws b0 cI 8 kS ++ (iw_ws b1 cI 64 kR ++ (jw_ws a2 cJ 4 gfk_12 ++ (jw_ws a0 cJ 1232 nf ++ (jw_ws a1 cJ 616 cf ++ (iw_ws a4 cI 4 kf ++ (jw_ws b2 cJ 4 ky)))))))))))) [0, 1, 2, 3, 4, 5, 6, 7, 8, 9, 10] rfl
                    have hDc := hD.sub (ws' := (mo_ws m0 0 (nI N) (nI n) (nI bc) (lN P) (lN Q) (lN G) (lN al) (lN pa) (lN pb) cl a0 a1 a2 a3 a4 a5 a6 a7 a8 a9 b0 b1 gok_12 b2 b3 b4 b5 ++ (iw_ws a7 cI 256 gbk_12 ++ (iw_ws a8 cI 64 gsk_12 ++ (iw_ws a9 cI 8 gtk_12 ++ (iw_ws b0 cI 8 kS ++ (iw_ws b1 cI 64 kR ++ (jw_ws a2 cJ 4 gfk_12 ++ (jw_ws a0 cJ 1232 nf ++ (jw_ws a1 cJ 616 cf ++ (iw_ws a4 cI 4 kf ++ (jw_ws b2 cJ 4 ky)))))))))))) [0, 1, 2, 3, 4, 5, 6, 7, 8, 9, 10] (by decide) rfl
                    have hKc := hK.sub (tys' := [(cJ, .long), (cI, .int)]) [0, 1] rfl
                    have hFc := va_free (wc := (mo_ws m0 0 (nI N) (nI n) (nI bc) (lN P) (lN Q) (lN G) (lN al) (lN pa) (lN pb) cl a0 a1 a2 a3 a4 a5 a6 a7 a8 a9 b0 b1 gok_12 b2 b3 b4 b5 ++ (iw_ws a7 cI 256 gbk_12 ++ (iw_ws a8 cI 64 gsk_12 ++ (iw_ws a9 cI 8 gtk_12 ++ (iw_ws b0 cI 8 kS ++ (iw_ws b1 cI 64 kR ++ (jw_ws a2 cJ 4 gfk_12 ++ (jw_ws a0 cJ 1232 nf ++ (jw_ws a1 cJ 616 cf ++ (iw_ws a4 cI 4 kf ++ (jw_ws b2 cJ 4 ky)))))))))))) hD hS hA [0, 1, 2, 3, 4, 5, 6, 7, 8, 9, 10] rfl
                    refine va_calli (va_runV (As := [.int (nI I), .long (lN (G ^ X1 % P)), .long (lN (hsh Q [lN P, lN G, 1, lN I, lN (G ^ X1 % P), lN (G ^ W1 % P)])), .long (lN ((W1 + ((hsh Q [lN P, lN G, 1, lN I, lN (G ^ X1 % P), lN (G ^ W1 % P)]) * X1 % Q)) % Q))]) (rest := []) ⟨hx, hb, hml, hown, hts⟩ (c_Bm_putKey_0 l dC dI cJ cI H.size m0 0 N n bc P Q G al pa pb cl a0 a1 a2 a3 a4 a5 a6 a7 a8 a9 b0 b1 gok_12 b2 b3 b4 b5 gbk_12 gsk_12 gtk_12 kf gfk_12 nf cf ky ko I (G ^ X1 % P) (lN (hsh Q [lN P, lN G, 1, lN I, lN (G ^ X1 % P), lN (G ^ W1 % P)])) (lN ((W1 + ((hsh Q [lN P, lN G, 1, lN I, lN (G ^ X1 % P), lN (G ^ W1 % P)]) * X1 % Q)) % Q)) hPQ h61F hQ3 (by omega) hn0 hN hI hY0 (Nat.mod_lt _ (by omega)) hkP hrk) (cwV 4 hts (gw_V gk_1090 gk_1092 gp_39 gk_7 gk_1093) rfl rfl rfl (by decide +kernel) ⟨Nat.le_of_ble_eq_true rfl, Nat.le_of_ble_eq_true rfl⟩) ⟨fun a U g mk q => by obtain ⟨q0, q1, qP, qK, qD⟩ := q; exact ⟨q0, q1, qP, va_K.moved (u := U) (U := U.calling g mk a) (Vm.Alike.refl U.vm) qK, qD⟩, va_recv hK hP (ci := 8) (q0 := 0) rfl rfl, fun U hU hW => ⟨rfl, by rw [hU], by rw [hU]; exact hPc, va_K.moved hW.alike hKc, hDc.weaken (fun _ _ _ _ => trivial)⟩⟩ rfl rfl hl.1 rfl (lv_room (Nat.le_of_ble_eq_true rfl)) d_Bm_makeKey_158 ⟨Nat.le_of_ble_eq_true rfl, Nat.le_of_ble_eq_true rfl⟩) hS (fun q _ h => hFc q h) hFc (fun r_15 u9 t9 H1 locs ht hvm hw hB hz1 hk1 hS => ?_)
                    obtain ⟨⟨gbk_14, gsk_14, gtk_14, gfk_14, gok_14⟩, gak_14⟩ := u9
                    obtain ⟨hw, hal9⟩ := hw
                    have hw : r_15 = nI n := hw
                    subst hw
                    obtain ⟨hP1, hK1, hD1⟩ := hB
                    rw [ht] at hP1
                    obtain ⟨hP, hD⟩ := va_join (wr := [(a3, .inl (cJ, 16, .inr (.inl glk_12)))]) (w1 := [(m0, .inr (8, [.int 0, .int (nI N), .int (nI (n + 1)), .int (nI bc), .long (lN P), .long (lN Q), .long (lN G), .long (lN gak_14), .long (lN pa), .long (lN pb), .int cl, .ref a0, .ref a1, .ref a2, .ref a3, .ref a4, .ref a5, .ref a6, .ref a7, .ref a8, .ref a9, .ref b0, .ref b1, .int (nI gok_14), .ref b2, .ref b3, .ref b4, .ref b5])), (a7, .inl (cI, 256, .inl gbk_14)), (a8, .inl (cI, 64, .inl gsk_14)), (a9, .inl (cI, 8, .inl gtk_14)), (b0, .inl (cI, 8, .inl kS)), (b1, .inl (cI, 64, .inl kR)), (a2, .inl (cJ, 4, .inr (.inl gfk_14))), (a0, .inl (cJ, 1232, .inr (.inl (w8 nf (8 * n) (lN 1) (lN I) (lN (G ^ X1 % P)) (lN (hsh Q [lN P, lN G, 1, lN I, lN (G ^ X1 % P), lN (G ^ W1 % P)])) (lN ((W1 + ((hsh Q [lN P, lN G, 1, lN I, lN (G ^ X1 % P), lN (G ^ W1 % P)]) * X1 % Q)) % Q)) 0 0 0)))), (a1, .inl (cJ, 616, .inr (.inl (c4 cf (4 * n) (lkw [0, 0, 0, 0, lN 1, lN I, lN (G ^ X1 % P), lN (hsh Q [lN P, lN G, 1, lN I, lN (G ^ X1 % P), lN (G ^ W1 % P)]), lN ((W1 + ((hsh Q [lN P, lN G, 1, lN I, lN (G ^ X1 % P), lN (G ^ W1 % P)]) * X1 % Q)) % Q)]))))), (a4, .inl (cI, 4, .inl (upd kf I (nI n)))), (b2, .inl (cJ, 4, .inr (.inl (vp_updL ky I (lN (G ^ X1 % P))))))]) hP hD [0, 1, 2, 3, 4, 5, 6, 7, 8, 9, 10] [11] rfl rfl (by decide) (by decide) hk1 hFc hP1 hD1
                    have hP := hP.sub (ws' := [(m0, .inr (8, [.int 0, .int (nI N), .int (nI (n + 1)), .int (nI bc), .long (lN P), .long (lN Q), .long (lN G), .long (lN gak_14), .long (lN pa), .long (lN pb), .int cl, .ref a0, .ref a1, .ref a2, .ref a3, .ref a4, .ref a5, .ref a6, .ref a7, .ref a8, .ref a9, .ref b0, .ref b1, .int (nI gok_14), .ref b2, .ref b3, .ref b4, .ref b5])), (a7, .inl (cI, 256, .inl gbk_14)), (a8, .inl (cI, 64, .inl gsk_14)), (a9, .inl (cI, 8, .inl gtk_14)), (b0, .inl (cI, 8, .inl kS)), (b1, .inl (cI, 64, .inl kR)), (a2, .inl (cJ, 4, .inr (.inl gfk_14))), (a0, .inl (cJ, 1232, .inr (.inl (w8 nf (8 * n) (lN 1) (lN I) (lN (G ^ X1 % P)) (lN (hsh Q [lN P, lN G, 1, lN I, lN (G ^ X1 % P), lN (G ^ W1 % P)])) (lN ((W1 + ((hsh Q [lN P, lN G, 1, lN I, lN (G ^ X1 % P), lN (G ^ W1 % P)]) * X1 % Q)) % Q)) 0 0 0)))), (a1, .inl (cJ, 616, .inr (.inl (c4 cf (4 * n) (lkw [0, 0, 0, 0, lN 1, lN I, lN (G ^ X1 % P), lN (hsh Q [lN P, lN G, 1, lN I, lN (G ^ X1 % P), lN (G ^ W1 % P)]), lN ((W1 + ((hsh Q [lN P, lN G, 1, lN I, lN (G ^ X1 % P), lN (G ^ W1 % P)]) * X1 % Q)) % Q)]))))), (a4, .inl (cI, 4, .inl (upd kf I (nI n)))), (b2, .inl (cJ, 4, .inr (.inl (vp_updL ky I (lN (G ^ X1 % P)))))), (a3, .inl (cJ, 16, .inr (.inl glk_12)))]) [1, 2, 3, 4, 5, 6, 7, 8, 9, 10, 11, 0] rfl
                    have hD := hD.sub (ws' := [(m0, .inr (8, [.int 0, .int (nI N), .int (nI (n + 1)), .int (nI bc), .long (lN P), .long (lN Q), .long (lN G), .long (lN gak_14), .long (lN pa), .long (lN pb), .int cl, .ref a0, .ref a1, .ref a2, .ref a3, .ref a4, .ref a5, .ref a6, .ref a7, .ref a8, .ref a9, .ref b0, .ref b1, .int (nI gok_14), .ref b2, .ref b3, .ref b4, .ref b5])), (a7, .inl (cI, 256, .inl gbk_14)), (a8, .inl (cI, 64, .inl gsk_14)), (a9, .inl (cI, 8, .inl gtk_14)), (b0, .inl (cI, 8, .inl kS)), (b1, .inl (cI, 64, .inl kR)), (a2, .inl (cJ, 4, .inr (.inl gfk_14))), (a0, .inl (cJ, 1232, .inr (.inl (w8 nf (8 * n) (lN 1) (lN I) (lN (G ^ X1 % P)) (lN (hsh Q [lN P, lN G, 1, lN I, lN (G ^ X1 % P), lN (G ^ W1 % P)])) (lN ((W1 + ((hsh Q [lN P, lN G, 1, lN I, lN (G ^ X1 % P), lN (G ^ W1 % P)]) * X1 % Q)) % Q)) 0 0 0)))), (a1, .inl (cJ, 616, .inr (.inl (c4 cf (4 * n) (lkw [0, 0, 0, 0, lN 1, lN I, lN (G ^ X1 % P), lN (hsh Q [lN P, lN G, 1, lN I, lN (G ^ X1 % P), lN (G ^ W1 % P)]), lN ((W1 + ((hsh Q [lN P, lN G, 1, lN I, lN (G ^ X1 % P), lN (G ^ W1 % P)]) * X1 % Q)) % Q)]))))), (a4, .inl (cI, 4, .inl (upd kf I (nI n)))), (b2, .inl (cJ, 4, .inr (.inl (vp_updL ky I (lN (G ^ X1 % P)))))), (a3, .inl (cJ, 16, .inr (.inl glk_12)))]) [1, 2, 3, 4, 5, 6, 7, 8, 9, 10, 11, 0] (by decide) rfl
                    generalize H1 = H at hP hS ⊢
                    exact W.iret (v := (nI n)) hx hb hr (fun t ht9 hW => ⟨⟨_, ((gbk_14, gsk_14, gtk_14, gfk_14, gok_14), glk_12, gak_14), rfl, ⟨rfl, hal9⟩, by rw [ht9]; exact hP, va_K.moved hW.alike hK, hD⟩, hS.F ht9⟩) hS.2.2 d_Bm_makeKey_161
                  · -- not taken
                    exact absurd rfl c_11
                · -- not taken
                  exact absurd ⟨W1, rfl, hW9⟩ (bz_f h81 c_9)
        · -- not taken
          exact absurd ((rK_neg hrk hn (show I < 4 by omega)).mpr hk0) c_4
set_option maxHeartbeats 8000000 in
set_option maxRecDepth 100000 in
theorem c_Bm_makeKey_05 (l : Launch) (dC : Nat → ClassId) (dI : Nat → Nat → Nat) (cJ cI : ClassId) (sz : Nat) (m0 : Nat) (e0 : Int32) (N n bc P Q G al pa pb : Nat) (cl : Int32) (a0 a1 a2 a3 a4 a5 a6 a7 a8 a9 b0 b1 oc b2 b3 b4 b5 : Nat) (bf sc st kf : Nat → Int32) (tf nf cf ky lf : Nat → Int64) (ko : Nat → Nat) (I X1 W1 : Nat) (hN : N ≤ 4) (hgr : 0 < N → gfx P Q G) (hcl : cl = 0 ∨ cl = 1) (hn : n ≤ 154) (hrk : rK 4 n ko kf ky) (hko : ∀ j, ko j < 2 ^ 61) (hN0 : 0 < N) (hcl0 : cl = 0) (hI : I < N) (hk0 : ko I = 0) (hn1 : n < 154) (hkP : ∀ j, ko j < P) (hn0 : 0 < n) (hX9 : X1 < Q) (hW9 : W1 < Q) : Met l y_Bm_makeKey w_Bm_makeKey ({ frames := 7, cells := 0, slots := 0, locals := 220 }) (va_Pc [.ref m0, .int (nI I), .long (lN X1), .long (lN W1)] (fun U => U.heap.size = sz ∧ va_P (dC, dI) classes (mo_ws m0 e0 (nI N) (nI n) (nI bc) (lN P) (lN Q) (lN G) (lN al) (lN pa) (lN pb) cl a0 a1 a2 a3 a4 a5 a6 a7 a8 a9 b0 b1 oc b2 b3 b4 b5 ++ (iw_ws a7 cI 256 bf ++ (iw_ws a8 cI 64 sc ++ (iw_ws a9 cI 8 st ++ (iw_ws b0 cI 8 kS ++ (iw_ws b1 cI 64 kR ++ (jw_ws a2 cJ 4 tf ++ (jw_ws a0 cJ 1232 nf ++ (jw_ws a1 cJ 616 cf ++ (iw_ws a4 cI 4 kf ++ (jw_ws b2 cJ 4 ky ++ (jw_ws a3 cJ 16 lf)))))))))))) U.heap ∧ va_K (dC, dI) classes [(cJ, .long), (cI, .int)] U ∧ va_D (fun _ => True) (mo_ws m0 e0 (nI N) (nI n) (nI bc) (lN P) (lN Q) (lN G) (lN al) (lN pa) (lN pb) cl a0 a1 a2 a3 a4 a5 a6 a7 a8 a9 b0 b1 oc b2 b3 b4 b5 ++ (iw_ws a7 cI 256 bf ++ (iw_ws a8 cI 64 sc ++ (iw_ws a9 cI 8 st ++ (iw_ws b0 cI 8 kS ++ (iw_ws b1 cI 64 kR ++ (jw_ws a2 cJ 4 tf ++ (jw_ws a0 cJ 1232 nf ++ (jw_ws a1 cJ 616 cf ++ (iw_ws a4 cI 4 kf ++ (jw_ws b2 cJ 4 ky ++ (jw_ws a3 cJ 16 lf)))))))))))))) (va_Qi (fun (r : Int32) (u9 : DU × (Nat → Int64) × Nat) => r = nI n ∧ ((allN N (updN ko I (G ^ X1 % P)) ∧ u9.2.2 = prk P (updN ko I (G ^ X1 % P)) N) ∨ (¬ allN N (updN ko I (G ^ X1 % P)) ∧ u9.2.2 = al))) (fun u9 t => va_P (dC, dI) classes (mo_ws m0 0 (nI N) (nI (n + 1)) (nI bc) (lN P) (lN Q) (lN G) (lN u9.2.2) (lN pa) (lN pb) cl a0 a1 a2 a3 a4 a5 a6 a7 a8 a9 b0 b1 u9.1.2.2.2.2 b2 b3 b4 b5 ++ (iw_ws a7 cI 256 u9.1.1 ++ (iw_ws a8 cI 64 u9.1.2.1 ++ (iw_ws a9 cI 8 u9.1.2.2.1 ++ (iw_ws b0 cI 8 kS ++ (iw_ws b1 cI 64 kR ++ (jw_ws a2 cJ 4 u9.1.2.2.2.1 ++ (jw_ws a0 cJ 1232 (w8 nf (8 * n) (lN 1) (lN I) (lN (G ^ X1 % P)) (lN (hsh Q [lN P, lN G, 1, lN I, lN (G ^ X1 % P), lN (G ^ W1 % P)])) (lN ((W1 + (hsh Q [lN P, lN G, 1, lN I, lN (G ^ X1 % P), lN (G ^ W1 % P)]) * X1 % Q) % Q)) 0 0 0) ++ (jw_ws a1 cJ 616 (c4 cf (4 * n) (lkw [cf (4 * (n - 1) + 0), cf (4 * (n - 1) + 1), cf (4 * (n - 1) + 2), cf (4 * (n - 1) + 3), lN 1, lN I, lN (G ^ X1 % P), lN (hsh Q [lN P, lN G, 1, lN I, lN (G ^ X1 % P), lN (G ^ W1 % P)]), lN ((W1 + (hsh Q [lN P, lN G, 1, lN I, lN (G ^ X1 % P), lN (G ^ W1 % P)]) * X1 % Q) % Q)])) ++ (iw_ws a4 cI 4 (upd kf I (nI n)) ++ (jw_ws b2 cJ 4 (vp_updL ky I (lN (G ^ X1 % P))) ++ (jw_ws a3 cJ 16 u9.2.1)))))))))))) t.heap ∧ va_K (dC, dI) classes [(cJ, .long), (cI, .int)] t ∧ va_D (va_A (mo_ws m0 e0 (nI N) (nI n) (nI bc) (lN P) (lN Q) (lN G) (lN al) (lN pa) (lN pb) cl a0 a1 a2 a3 a4 a5 a6 a7 a8 a9 b0 b1 oc b2 b3 b4 b5 ++ (iw_ws a7 cI 256 bf ++ (iw_ws a8 cI 64 sc ++ (iw_ws a9 cI 8 st ++ (iw_ws b0 cI 8 kS ++ (iw_ws b1 cI 64 kR ++ (jw_ws a2 cJ 4 tf ++ (jw_ws a0 cJ 1232 nf ++ (jw_ws a1 cJ 616 cf ++ (iw_ws a4 cI 4 kf ++ (jw_ws b2 cJ 4 ky ++ (jw_ws a3 cJ 16 lf)))))))))))) sz) (mo_ws m0 0 (nI N) (nI (n + 1)) (nI bc) (lN P) (lN Q) (lN G) (lN u9.2.2) (lN pa) (lN pb) cl a0 a1 a2 a3 a4 a5 a6 a7 a8 a9 b0 b1 u9.1.2.2.2.2 b2 b3 b4 b5 ++ (iw_ws a7 cI 256 u9.1.1 ++ (iw_ws a8 cI 64 u9.1.2.1 ++ (iw_ws a9 cI 8 u9.1.2.2.1 ++ (iw_ws b0 cI 8 kS ++ (iw_ws b1 cI 64 kR ++ (jw_ws a2 cJ 4 u9.1.2.2.2.1 ++ (jw_ws a0 cJ 1232 (w8 nf (8 * n) (lN 1) (lN I) (lN (G ^ X1 % P)) (lN (hsh Q [lN P, lN G, 1, lN I, lN (G ^ X1 % P), lN (G ^ W1 % P)])) (lN ((W1 + (hsh Q [lN P, lN G, 1, lN I, lN (G ^ X1 % P), lN (G ^ W1 % P)]) * X1 % Q) % Q)) 0 0 0) ++ (jw_ws a1 cJ 616 (c4 cf (4 * n) (lkw [cf (4 * (n - 1) + 0), cf (4 * (n - 1) + 1), cf (4 * (n - 1) + 2), cf (4 * (n - 1) + 3), lN 1, lN I, lN (G ^ X1 % P), lN (hsh Q [lN P, lN G, 1, lN I, lN (G ^ X1 % P), lN (G ^ W1 % P)]), lN ((W1 + (hsh Q [lN P, lN G, 1, lN I, lN (G ^ X1 % P), lN (G ^ W1 % P)]) * X1 % Q) % Q)])) ++ (iw_ws a4 cI 4 (upd kf I (nI n)) ++ (jw_ws b2 cJ 4 (vp_updL ky I (lN (G ^ X1 % P))) ++ (jw_ws a3 cJ 16 u9.2.1))))))))))))) (va_A (mo_ws m0 e0 (nI N) (nI n) (nI bc) (lN P) (lN Q) (lN G) (lN al) (lN pa) (lN pb) cl a0 a1 a2 a3 a4 a5 a6 a7 a8 a9 b0 b1 oc b2 b3 b4 b5 ++ (iw_ws a7 cI 256 bf ++ (iw_ws a8 cI 64 sc ++ (iw_ws a9 cI 8 st ++ (iw_ws b0 cI 8 kS ++ (iw_ws b1 cI 64 kR ++ (jw_ws a2 cJ 4 tf ++ (jw_ws a0 cJ 1232 nf ++ (jw_ws a1 cJ 616 cf ++ (iw_ws a4 cI 4 kf ++ (jw_ws b2 cJ 4 ky ++ (jw_ws a3 cJ 16 lf)))))))))))) sz)) 0 0 (va_A (mo_ws m0 e0 (nI N) (nI n) (nI bc) (lN P) (lN Q) (lN G) (lN al) (lN pa) (lN pb) cl a0 a1 a2 a3 a4 a5 a6 a7 a8 a9 b0 b1 oc b2 b3 b4 b5 ++ (iw_ws a7 cI 256 bf ++ (iw_ws a8 cI 64 sc ++ (iw_ws a9 cI 8 st ++ (iw_ws b0 cI 8 kS ++ (iw_ws b1 cI 64 kR ++ (jw_ws a2 cJ 4 tf ++ (jw_ws a0 cJ 1232 nf ++ (jw_ws a1 cJ 616 cf ++ (iw_ws a4 cI 4 kf ++ (jw_ws b2 cJ 4 ky ++ (jw_ws a3 cJ 16 lf)))))))))))) sz) := by
  refine Met.ofW (cc := b_Bm_makeKey) (maxL := 10) (ret := (some .int)) (by decide) rfl ?_
  intro p e s m args below meth c s₁ Bd hml hv
  obtain ⟨rfl, hsz, hP, hK, hD0⟩ := hv
  have hx := Bd.exec
  have hb := Bd.bytes
  have hr := Bd.returns
  have hts := atoms_spec (ws := w_Bm_makeKey) Bd.pre
  have hown : s.vm.findClass "BallotBoardModel" = some m.cls := findClass_of_methodNamed Bd.named
  have hlocks := Bd.notSynchronized
  subst hsz
  have hD := hD0.self (sz := s.heap.size)
  generalize hAe : va_A (mo_ws m0 e0 (nI N) (nI n) (nI bc) (lN P) (lN Q) (lN G) (lN al) (lN pa) (lN pb) cl a0 a1 a2 a3 a4 a5 a6 a7 a8 a9 b0 b1 oc b2 b3 b4 b5 ++ (iw_ws a7 cI 256 bf ++ (iw_ws a8 cI 64 sc ++ (iw_ws a9 cI 8 st ++ (iw_ws b0 cI 8 kS ++ (iw_ws b1 cI 64 kR ++ (jw_ws a2 cJ 4 tf ++ (jw_ws a0 cJ 1232 nf ++ (jw_ws a1 cJ 616 cf ++ (iw_ws a4 cI 4 kf ++ (jw_ws b2 cJ 4 ky ++ (jw_ws a3 cJ 16 lf)))))))))))) s.heap.size = A at hD ⊢
  have hA : ∀ q : Nat, s.heap.size ≤ q → A q := fun q h => by rw [← hAe]; exact Or.inr h
  have hS : va_S A s.heap s.heap [] := va_S.rf
  have hl := lv_entry ([.ref m0, .int (nI I), .long (lN X1), .long (lN W1)]) (n := 10) (Nat.le_of_ble_eq_true rfl)
  rw [lg_entry_eq]
  generalize (lg_sl ([.ref m0, .int (nI I), .long (lN X1), .long (lN W1)]) ++ List.replicate (10 - (lg_sl ([.ref m0, .int (nI I), .long (lN X1), .long (lN W1)])).length) Slot.unset).toArray = ls at hl ⊢
  have hl : lv_has ls 10 [(0, .ref m0), (1, .int (nI I)), (2, .long (lN X1)), (4, .long (lN W1))] := hl
  obtain ⟨hPQ, h61F, hQ3, hG2, hGP, hGQ⟩ := hgr hN0
  have hY0 : (G ^ X1 % P) ≠ 0 := Nat.pos_iff_ne_zero.mp (one_le_of2 (in_pow (by omega) hGQ X1) (by omega))
  refine lv_aload_n hx hb d_Bm_makeKey_0 rfl (lv_at hl 0 rfl) ?_
  refine lv_iconst (v := 0) hx hb d_Bm_makeKey_1 (by decide) ?_
  refine va_put (D := (dC, dI)) (ci := 8) (v := .int 0) (ty := .int) (C := "BallotBoardModel") (T := F_Bm) (N := 28) hx hb hts (fun w9 h9 => List.mem_cons_of_mem _ (i_Bm w9 h9)) t_Bm t_Bm_ok n_Bm hown hK hP hD hS 0 rfl rfl 0 (by decide) (hts _ (List.mem_cons_of_mem _ gk_919)) (fun _ h9 => h9) rfl (by decide +kernel) rfl rfl (Nat.le_of_ble_eq_true rfl) d_Bm_makeKey_2 (fun H locs hP hD hS => ?_)
  have hP : va_P (dC, dI) classes [(m0, .inr (8, [.int 0, .int (nI N), .int (nI n), .int (nI bc), .long (lN P), .long (lN Q), .long (lN G), .long (lN al), .long (lN pa), .long (lN pb), .int cl, .ref a0, .ref a1, .ref a2, .ref a3, .ref a4, .ref a5, .ref a6, .ref a7, .ref a8, .ref a9, .ref b0, .ref b1, .int (nI oc), .ref b2, .ref b3, .ref b4, .ref b5])), (a7, .inl (cI, 256, .inl bf)), (a8, .inl (cI, 64, .inl sc)), (a9, .inl (cI, 8, .inl st)), (b0, .inl (cI, 8, .inl kS)), (b1, .inl (cI, 64, .inl kR)), (a2, .inl (cJ, 4, .inr (.inl tf))), (a0, .inl (cJ, 1232, .inr (.inl nf))), (a1, .inl (cJ, 616, .inr (.inl cf))), (a4, .inl (cI, 4, .inl kf)), (b2, .inl (cJ, 4, .inr (.inl ky))), (a3, .inl (cJ, 16, .inr (.inl lf)))] H := hP
  have hD : va_D A [(m0, .inr (8, [.int 0, .int (nI N), .int (nI n), .int (nI bc), .long (lN P), .long (lN Q), .long (lN G), .long (lN al), .long (lN pa), .long (lN pb), .int cl, .ref a0, .ref a1, .ref a2, .ref a3, .ref a4, .ref a5, .ref a6, .ref a7, .ref a8, .ref a9, .ref b0, .ref b1, .int (nI oc), .ref b2, .ref b3, .ref b4, .ref b5])), (a7, .inl (cI, 256, .inl bf)), (a8, .inl (cI, 64, .inl sc)), (a9, .inl (cI, 8, .inl st)), (b0, .inl (cI, 8, .inl kS)), (b1, .inl (cI, 64, .inl kR)), (a2, .inl (cJ, 4, .inr (.inl tf))), (a0, .inl (cJ, 1232, .inr (.inl nf))), (a1, .inl (cJ, 616, .inr (.inl cf))), (a4, .inl (cI, 4, .inl kf)), (b2, .inl (cJ, 4, .inr (.inl ky))), (a3, .inl (cJ, 16, .inr (.inl lf)))] := hD
  refine lv_aload_n hx hb d_Bm_makeKey_5 rfl (lv_at hl 0 rfl) ?_
  refine lv_aload_n hx hb d_Bm_makeKey_6 rfl (lv_at hl 0 rfl) ?_
  refine va_get (D := (dC, dI)) (ci := 8) (v := .int (nI N)) (C := "BallotBoardModel") (T := F_Bm) (N := 28) hx hb hts (fun w9 h9 => List.mem_cons_of_mem _ (i_Bm w9 h9)) hown hK hP 0 rfl rfl 1 (by decide) (hts _ (List.mem_cons_of_mem _ gk_920)) (fun _ h9 => h9) rfl d_Bm_makeKey_7 ?_
  refine lv_if_eq (tgt := 43) hx hb d_Bm_makeKey_10 (by decide) (fun c_1 => ?_) (fun c_1 => ?_)
  · -- taken
    exact absurd c_1 (nI_ne0 hN0 (by omega))
  · -- not taken
    refine lv_aload_n hx hb d_Bm_makeKey_13 rfl (lv_at hl 0 rfl) ?_
    refine va_get (D := (dC, dI)) (ci := 8) (v := .int cl) (C := "BallotBoardModel") (T := F_Bm) (N := 28) hx hb hts (fun w9 h9 => List.mem_cons_of_mem _ (i_Bm w9 h9)) hown hK hP 0 rfl rfl 10 (by decide) (hts _ (List.mem_cons_of_mem _ gk_929)) (fun _ h9 => h9) rfl d_Bm_makeKey_14 ?_
    refine lv_if_ne (tgt := 43) hx hb d_Bm_makeKey_17 (by decide) (fun c_2 => ?_) (fun c_2 => ?_)
    · -- taken
      exact absurd hcl0 c_2
    · -- not taken
      refine lv_iload_n hx hb d_Bm_makeKey_20 rfl (lv_at hl 1 rfl) ?_
      refine lv_iconst (v := 0) hx hb d_Bm_makeKey_21 (by decide) ?_
      refine lv_aload_n hx hb d_Bm_makeKey_22 rfl (lv_at hl 0 rfl) ?_
      refine va_get (D := (dC, dI)) (ci := 8) (v := .int (nI N)) (C := "BallotBoardModel") (T := F_Bm) (N := 28) hx hb hts (fun w9 h9 => List.mem_cons_of_mem _ (i_Bm w9 h9)) hown hK hP 0 rfl rfl 1 (by decide) (hts _ (List.mem_cons_of_mem _ gk_920)) (fun _ h9 => h9) rfl d_Bm_makeKey_23 ?_
      refine lv_iconst (v := 1) hx hb d_Bm_makeKey_26 (by decide) ?_
      refine lv_isub hx hb d_Bm_makeKey_27 ?_
      rw [show ((nI N) - 1 : Int32) = (nI (N - 1)) from nI_subI (b := 1) (by omega) rfl]
      refine va_calli (va_runS (As := [.int (nI I), .int 0, .int (nI (N - 1))]) (rest := [.ref m0]) ⟨hx, hb, hml, hown, hts⟩ (c_Bm_in l H (nI I) 0 (nI (N - 1))) (cwS 3 hts (gw_S gk_1027 gk_1028 gk_7 gk_1029) rfl rfl rfl (by decide +kernel) ⟨Nat.le_of_ble_eq_true rfl, Nat.le_of_ble_eq_true rfl⟩) ⟨fun a U g mk q => q, fun U hU hW => ⟨rfl, hU⟩⟩ rfl rfl hl.1 rfl (lv_room (Nat.le_of_ble_eq_true rfl)) d_Bm_makeKey_28 ⟨Nat.le_of_ble_eq_true rfl, Nat.le_of_ble_eq_true rfl⟩) hS (fun q _ h => h.elim) (fun q h => h.elim) (fun r28 u9 t9 H1 locs ht hvm hw hB hz1 hk1 hS => ?_)
      obtain rfl : H = H1 := hB.symm.trans ht
      have h28 : bz r28 (inN (nI I) N) := bz_in hN0 (by omega) rfl hw
      refine lv_if_eq (tgt := 47) hx hb d_Bm_makeKey_31 (by decide) (fun c_3 => ?_) (fun c_3 => ?_)
      · -- taken
        exact absurd (⟨I, rfl, hI⟩ : inN (nI I) N) (bz_f h28 c_3)
      · -- not taken
        have bo28 := bz_t h28 c_3
        refine lv_aload_n hx hb d_Bm_makeKey_34 rfl (lv_at hl 0 rfl) ?_
        refine va_get (D := (dC, dI)) (ci := 8) (v := .ref a4) (C := "BallotBoardModel") (T := F_Bm) (N := 28) hx hb hts (fun w9 h9 => List.mem_cons_of_mem _ (i_Bm w9 h9)) hown hK hP 0 rfl rfl 15 (by decide) (hts _ (List.mem_cons_of_mem _ gk_934)) (fun _ h9 => h9) rfl d_Bm_makeKey_35 ?_
        refine lv_iload_n hx hb d_Bm_makeKey_38 rfl (lv_at hl 1 rfl) ?_
        refine va_iald hx hb hK hP 9 1 rfl rfl (vp_in_nI (by omega) (by omega)) d_Bm_makeKey_39 ?_
        rw [show (kf (nI I : Int32).toNatClampNeg : Int32) = kf I from by rw [nI_clamp (by omega)]]
        refine lv_if_lt (tgt := 47) hx hb d_Bm_makeKey_40 (by decide) (fun c_4 => ?_) (fun c_4 => ?_)
        · -- taken
          refine lv_iconst (v := 0) hx hb d_Bm_makeKey_47 (by decide) ?_
          refine lv_iconst (v := 1) hx hb d_Bm_makeKey_48 (by decide) ?_
          have hPc := hP.sub (ws' := (mo_ws m0 0 (nI N) (nI n) (nI bc) (lN P) (lN Q) (lN G) (lN al) (lN pa) (lN pb) cl a0 a1 a2 a3 a4 a5 a6 a7 a8 a9 b0 b1 oc b2 b3 b4 b5)) [0] rfl
          have hDc := hD.sub (ws' := (mo_ws m0 0 (nI N) (nI n) (nI bc) (lN P) (lN Q) (lN G) (lN al) (lN pa) (lN pb) cl a0 a1 a2 a3 a4 a5 a6 a7 a8 a9 b0 b1 oc b2 b3 b4 b5)) [0] (by decide) rfl
          have hKc := hK.sub (tys' := [(cJ, .long), (cI, .int)]) [0, 1] rfl
          have hFc := va_free (wc := (mo_ws m0 0 (nI N) (nI n) (nI bc) (lN P) (lN Q) (lN G) (lN al) (lN pa) (lN pb) cl a0 a1 a2 a3 a4 a5 a6 a7 a8 a9 b0 b1 oc b2 b3 b4 b5)) hD hS hA [0] rfl
          refine va_calli (va_runV (As := [.int 0, .int 1]) (rest := []) ⟨hx, hb, hml, hown, hts⟩ (c_Bm_fails_0 l dC dI cJ cI H.size m0 (nI N) (nI n) (nI bc) (lN P) (lN Q) (lN G) (lN al) (lN pa) (lN pb) cl a0 a1 a2 a3 a4 a5 a6 a7 a8 a9 b0 b1 oc b2 b3 b4 b5 1) (cwV 2 hts (gw_V gk_1030 gk_1032 gp_27 gk_7 gk_1033) rfl rfl rfl (by decide +kernel) ⟨Nat.le_of_ble_eq_true rfl, Nat.le_of_ble_eq_true rfl⟩) ⟨fun a U g mk q => by obtain ⟨q0, q1, qP, qK, qD⟩ := q; exact ⟨q0, q1, qP, va_K.moved (u := U) (U := U.calling g mk a) (Vm.Alike.refl U.vm) qK, qD⟩, va_recv hK hP (ci := 8) (q0 := 0) rfl rfl, fun U hU hW => ⟨rfl, by rw [hU], by rw [hU]; exact hPc, va_K.moved hW.alike hKc, hDc.weaken (fun _ _ _ _ => trivial)⟩⟩ rfl rfl hl.1 rfl (lv_room (Nat.le_of_ble_eq_true rfl)) d_Bm_makeKey_49 ⟨Nat.le_of_ble_eq_true rfl, Nat.le_of_ble_eq_true rfl⟩) hS (fun q _ h => hFc q h) hFc (fun r_5 u9 t9 H1 locs ht hvm hw hB hz1 hk1 hS => ?_)
          have hw : r_5 = 0 := hw
          subst hw
          obtain ⟨hP1, hK1, hD1⟩ := hB
          rw [ht] at hP1
          obtain ⟨hP, hD⟩ := va_join (wr := [(a7, .inl (cI, 256, .inl bf)), (a8, .inl (cI, 64, .inl sc)), (a9, .inl (cI, 8, .inl st)), (b0, .inl (cI, 8, .inl kS)), (b1, .inl (cI, 64, .inl kR)), (a2, .inl (cJ, 4, .inr (.inl tf))), (a0, .inl (cJ, 1232, .inr (.inl nf))), (a1, .inl (cJ, 616, .inr (.inl cf))), (a4, .inl (cI, 4, .inl kf)), (b2, .inl (cJ, 4, .inr (.inl ky))), (a3, .inl (cJ, 16, .inr (.inl lf)))]) (w1 := [(m0, .inr (8, [.int 0, .int (nI N), .int (nI n), .int (nI bc), .long (lN P), .long (lN Q), .long (lN G), .long (lN al), .long (lN pa), .long (lN pb), .int cl, .ref a0, .ref a1, .ref a2, .ref a3, .ref a4, .ref a5, .ref a6, .ref a7, .ref a8, .ref a9, .ref b0, .ref b1, .int (nI oc), .ref b2, .ref b3, .ref b4, .ref b5]))]) hP hD [0] [1, 2, 3, 4, 5, 6, 7, 8, 9, 10, 11] rfl rfl (by decide) (by decide) hk1 hFc hP1 hD1
          have hP := hP.sub (ws' := [(m0, .inr (8, [.int 0, .int (nI N), .int (nI n), .int (nI bc), .long (lN P), .long (lN Q), .long (lN G), .long (lN al), .long (lN pa), .long (lN pb), .int cl, .ref a0, .ref a1, .ref a2, .ref a3, .ref a4, .ref a5, .ref a6, .ref a7, .ref a8, .ref a9, .ref b0, .ref b1, .int (nI oc), .ref b2, .ref b3, .ref b4, .ref b5])), (a7, .inl (cI, 256, .inl bf)), (a8, .inl (cI, 64, .inl sc)), (a9, .inl (cI, 8, .inl st)), (b0, .inl (cI, 8, .inl kS)), (b1, .inl (cI, 64, .inl kR)), (a2, .inl (cJ, 4, .inr (.inl tf))), (a0, .inl (cJ, 1232, .inr (.inl nf))), (a1, .inl (cJ, 616, .inr (.inl cf))), (a4, .inl (cI, 4, .inl kf)), (b2, .inl (cJ, 4, .inr (.inl ky))), (a3, .inl (cJ, 16, .inr (.inl lf)))]) [11, 0, 1, 2, 3, 4, 5, 6, 7, 8, 9, 10] rfl
          have hD := hD.sub (ws' := [(m0, .inr (8, [.int 0, .int (nI N), .int (nI n), .int (nI bc), .long (lN P), .long (lN Q), .long (lN G), .long (lN al), .long (lN pa), .long (lN pb), .int cl, .ref a0, .ref a1, .ref a2, .ref a3, .ref a4, .ref a5, .ref a6, .ref a7, .ref a8, .ref a9, .ref b0, .ref b1, .int (nI oc), .ref b2, .ref b3, .ref b4, .ref b5])), (a7, .inl (cI, 256, .inl bf)), (a8, .inl (cI, 64, .inl sc)), (a9, .inl (cI, 8, .inl st)), (b0, .inl (cI, 8, .inl kS)), (b1, .inl (cI, 64, .inl kR)), (a2, .inl (cJ, 4, .inr (.inl tf))), (a0, .inl (cJ, 1232, .inr (.inl nf))), (a1, .inl (cJ, 616, .inr (.inl cf))), (a4, .inl (cI, 4, .inl kf)), (b2, .inl (cJ, 4, .inr (.inl ky))), (a3, .inl (cJ, 16, .inr (.inl lf)))]) [11, 0, 1, 2, 3, 4, 5, 6, 7, 8, 9, 10] (by decide) rfl
          generalize H1 = H at hP hS ⊢
          refine lv_if_ne (tgt := 99) hx hb d_Bm_makeKey_52 (by decide) (fun c_6 => ?_) (fun c_6 => ?_)
          · -- taken
            exact absurd rfl c_6
          · -- not taken
            refine lv_aload_n hx hb d_Bm_makeKey_55 rfl (lv_at hl 0 rfl) ?_
            refine lv_iload_n hx hb d_Bm_makeKey_56 rfl (lv_at hl 1 rfl) ?_
            refine lv_iconst (v := 0) hx hb d_Bm_makeKey_57 (by decide) ?_
            refine lv_aload_n hx hb d_Bm_makeKey_58 rfl (lv_at hl 0 rfl) ?_
            refine va_get (D := (dC, dI)) (ci := 8) (v := .int (nI N)) (C := "BallotBoardModel") (T := F_Bm) (N := 28) hx hb hts (fun w9 h9 => List.mem_cons_of_mem _ (i_Bm w9 h9)) hown hK hP 0 rfl rfl 1 (by decide) (hts _ (List.mem_cons_of_mem _ gk_920)) (fun _ h9 => h9) rfl d_Bm_makeKey_59 ?_
            refine lv_iconst (v := 1) hx hb d_Bm_makeKey_62 (by decide) ?_
            refine lv_isub hx hb d_Bm_makeKey_63 ?_
            rw [show ((nI N) - 1 : Int32) = (nI (N - 1)) from nI_subI (b := 1) (by omega) rfl]
            refine va_calli (va_runS (As := [.int (nI I), .int 0, .int (nI (N - 1))]) (rest := [.ref m0]) ⟨hx, hb, hml, hown, hts⟩ (c_Bm_in l H (nI I) 0 (nI (N - 1))) (cwS 3 hts (gw_S gk_1027 gk_1028 gk_7 gk_1029) rfl rfl rfl (by decide +kernel) ⟨Nat.le_of_ble_eq_true rfl, Nat.le_of_ble_eq_true rfl⟩) ⟨fun a U g mk q => q, fun U hU hW => ⟨rfl, hU⟩⟩ rfl rfl hl.1 rfl (lv_room (Nat.le_of_ble_eq_true rfl)) d_Bm_makeKey_64 ⟨Nat.le_of_ble_eq_true rfl, Nat.le_of_ble_eq_true rfl⟩) hS (fun q _ h => h.elim) (fun q h => h.elim) (fun r64 u9 t9 H1 locs ht hvm hw hB hz1 hk1 hS => ?_)
            obtain rfl : H = H1 := hB.symm.trans ht
            have h64 : bz r64 (inN (nI I) N) := bz_in hN0 (by omega) rfl hw
            refine lv_if_eq (tgt := 87) hx hb d_Bm_makeKey_67 (by decide) (fun c_7 => ?_) (fun c_7 => ?_)
            · -- taken
              exact absurd (⟨I, rfl, hI⟩ : inN (nI I) N) (bz_f h64 c_7)
            · -- not taken
              have bo64 := bz_t h64 c_7
              refine lv_aload_n hx hb d_Bm_makeKey_70 rfl (lv_at hl 0 rfl) ?_
              refine lv_lload_n hx hb d_Bm_makeKey_71 rfl (lv_at hl 2 rfl) ?_
              have hPc := hP.sub (ws' := (mo_ws m0 0 (nI N) (nI n) (nI bc) (lN P) (lN Q) (lN G) (lN al) (lN pa) (lN pb) cl a0 a1 a2 a3 a4 a5 a6 a7 a8 a9 b0 b1 oc b2 b3 b4 b5)) [0] rfl
              have hKc := hK.sub (tys' := [(cJ, .long), (cI, .int)]) [0, 1] rfl
              refine va_calli (va_runV (As := [.long (lN X1)]) (rest := [.ref m0]) ⟨hx, hb, hml, hown, hts⟩ (c_Bm_isExponent l H dC dI cJ cI m0 0 (nI N) (nI n) (nI bc) (lN al) (lN pa) (lN pb) cl a0 a1 a2 a3 a4 a5 a6 a7 a8 a9 b0 b1 oc b2 b3 b4 b5 P Q G (lN X1) hPc hPQ h61F hQ3 ) (cwV 1 hts (gw_V gk_1042 gk_1044 gp_29 gk_7 gk_1045) rfl rfl rfl (by decide +kernel) ⟨Nat.le_of_ble_eq_true rfl, Nat.le_of_ble_eq_true rfl⟩) ⟨fun a U g mk q => ⟨q.1, q.2.1, va_K.moved (u := U) (U := U.calling g mk a) (Vm.Alike.refl U.vm) q.2.2⟩, va_recv hK hP (ci := 8) (q0 := 0) rfl rfl, fun U hU hW => ⟨rfl, hU, va_K.moved hW.alike hKc⟩⟩ rfl rfl hl.1 rfl (lv_room (Nat.le_of_ble_eq_true rfl)) d_Bm_makeKey_72 ⟨Nat.le_of_ble_eq_true rfl, Nat.le_of_ble_eq_true rfl⟩) hS (fun q _ h => h.elim) (fun q h => h.elim) (fun r72 u9 t9 H1 locs ht hvm hw hB hz1 hk1 hS => ?_)
              obtain rfl : H = H1 := hB.symm.trans ht
              have h72 := hw
              refine lv_if_eq (tgt := 87) hx hb d_Bm_makeKey_75 (by decide) (fun c_8 => ?_) (fun c_8 => ?_)
              · -- taken
                exact absurd ⟨X1, rfl, hX9⟩ (bz_f h72 c_8)
              · -- not taken
                have bo72 := bz_t h72 c_8
                refine lv_aload_n hx hb d_Bm_makeKey_78 rfl (lv_at hl 0 rfl) ?_
                refine lv_lload hx hb d_Bm_makeKey_79 (lv_at hl 3 rfl) ?_
                have hPc := hP.sub (ws' := (mo_ws m0 0 (nI N) (nI n) (nI bc) (lN P) (lN Q) (lN G) (lN al) (lN pa) (lN pb) cl a0 a1 a2 a3 a4 a5 a6 a7 a8 a9 b0 b1 oc b2 b3 b4 b5)) [0] rfl
                have hKc := hK.sub (tys' := [(cJ, .long), (cI, .int)]) [0, 1] rfl
                refine va_calli (va_runV (As := [.long (lN W1)]) (rest := [.ref m0]) ⟨hx, hb, hml, hown, hts⟩ (c_Bm_isExponent l H dC dI cJ cI m0 0 (nI N) (nI n) (nI bc) (lN al) (lN pa) (lN pb) cl a0 a1 a2 a3 a4 a5 a6 a7 a8 a9 b0 b1 oc b2 b3 b4 b5 P Q G (lN W1) hPc hPQ h61F hQ3 ) (cwV 1 hts (gw_V gk_1042 gk_1044 gp_29 gk_7 gk_1045) rfl rfl rfl (by decide +kernel) ⟨Nat.le_of_ble_eq_true rfl, Nat.le_of_ble_eq_true rfl⟩) ⟨fun a U g mk q => ⟨q.1, q.2.1, va_K.moved (u := U) (U := U.calling g mk a) (Vm.Alike.refl U.vm) q.2.2⟩, va_recv hK hP (ci := 8) (q0 := 0) rfl rfl, fun U hU hW => ⟨rfl, hU, va_K.moved hW.alike hKc⟩⟩ rfl rfl hl.1 rfl (lv_room (Nat.le_of_ble_eq_true rfl)) d_Bm_makeKey_81 ⟨Nat.le_of_ble_eq_true rfl, Nat.le_of_ble_eq_true rfl⟩) hS (fun q _ h => h.elim) (fun q h => h.elim) (fun r81 u9 t9 H1 locs ht hvm hw hB hz1 hk1 hS => ?_)
                obtain rfl : H = H1 := hB.symm.trans ht
                have h81 := hw
                refine lv_if_ne (tgt := 91) hx hb d_Bm_makeKey_84 (by decide) (fun c_9 => ?_) (fun c_9 => ?_)
                · -- taken
                  have bo81 := bz_t h81 c_9
                  refine lv_iconst (v := 0) hx hb d_Bm_makeKey_91 (by decide) ?_
                  refine lv_iconst (v := 2) hx hb d_Bm_makeKey_92 (by decide) ?_
                  have hPc := hP.sub (ws' := (mo_ws m0 0 (nI N) (nI n) (nI bc) (lN P) (lN Q) (lN G) (lN al) (lN pa) (lN pb) cl a0 a1 a2 a3 a4 a5 a6 a7 a8 a9 b0 b1 oc b2 b3 b4 b5)) [0] rfl
                  have hDc := hD.sub (ws' := (mo_ws m0 0 (nI N) (nI n) (nI bc) (lN P) (lN Q) (lN G) (lN al) (lN pa) (lN pb) cl a0 a1 a2 a3 a4 a5 a6 a7 a8 a9 b0 b1 oc b2 b3 b4 b5)) [0] (by decide) rfl
                  have hKc := hK.sub (tys' := [(cJ, .long), (cI, .int)]) [0, 1] rfl
                  have hFc := va_free (wc := (mo_ws m0 0 (nI N) (nI n) (nI bc) (lN P) (lN Q) (lN G) (lN al) (lN pa) (lN pb) cl a0 a1 a2 a3 a4 a5 a6 a7 a8 a9 b0 b1 oc b2 b3 b4 b5)) hD hS hA [0] rfl
                  refine va_calli (va_runV (As := [.int 0, .int 2]) (rest := []) ⟨hx, hb, hml, hown, hts⟩ (c_Bm_fails_0 l dC dI cJ cI H.size m0 (nI N) (nI n) (nI bc) (lN P) (lN Q) (lN G) (lN al) (lN pa) (lN pb) cl a0 a1 a2 a3 a4 a5 a6 a7 a8 a9 b0 b1 oc b2 b3 b4 b5 2) (cwV 2 hts (gw_V gk_1030 gk_1032 gp_27 gk_7 gk_1033) rfl rfl rfl (by decide +kernel) ⟨Nat.le_of_ble_eq_true rfl, Nat.le_of_ble_eq_true rfl⟩) ⟨fun a U g mk q => by obtain ⟨q0, q1, qP, qK, qD⟩ := q; exact ⟨q0, q1, qP, va_K.moved (u := U) (U := U.calling g mk a) (Vm.Alike.refl U.vm) qK, qD⟩, va_recv hK hP (ci := 8) (q0 := 0) rfl rfl, fun U hU hW => ⟨rfl, by rw [hU], by rw [hU]; exact hPc, va_K.moved hW.alike hKc, hDc.weaken (fun _ _ _ _ => trivial)⟩⟩ rfl rfl hl.1 rfl (lv_room (Nat.le_of_ble_eq_true rfl)) d_Bm_makeKey_93 ⟨Nat.le_of_ble_eq_true rfl, Nat.le_of_ble_eq_true rfl⟩) hS (fun q _ h => hFc q h) hFc (fun r_10 u9 t9 H1 locs ht hvm hw hB hz1 hk1 hS => ?_)
                  have hw : r_10 = 0 := hw
                  subst hw
                  obtain ⟨hP1, hK1, hD1⟩ := hB
                  rw [ht] at hP1
                  obtain ⟨hP, hD⟩ := va_join (wr := [(a7, .inl (cI, 256, .inl bf)), (a8, .inl (cI, 64, .inl sc)), (a9, .inl (cI, 8, .inl st)), (b0, .inl (cI, 8, .inl kS)), (b1, .inl (cI, 64, .inl kR)), (a2, .inl (cJ, 4, .inr (.inl tf))), (a0, .inl (cJ, 1232, .inr (.inl nf))), (a1, .inl (cJ, 616, .inr (.inl cf))), (a4, .inl (cI, 4, .inl kf)), (b2, .inl (cJ, 4, .inr (.inl ky))), (a3, .inl (cJ, 16, .inr (.inl lf)))]) (w1 := [(m0, .inr (8, [.int 0, .int (nI N), .int (nI n), .int (nI bc), .long (lN P), .long (lN Q), .long (lN G), .long (lN al), .long (lN pa), .long (lN pb), .int cl, .ref a0, .ref a1, .ref a2, .ref a3, .ref a4, .ref a5, .ref a6, .ref a7, .ref a8, .ref a9, .ref b0, .ref b1, .int (nI oc), .ref b2, .ref b3, .ref b4, .ref b5]))]) hP hD [0] [1, 2, 3, 4, 5, 6, 7, 8, 9, 10, 11] rfl rfl (by decide) (by decide) hk1 hFc hP1 hD1
                  have hP := hP.sub (ws' := [(m0, .inr (8, [.int 0, .int (nI N), .int (nI n), .int (nI bc), .long (lN P), .long (lN Q), .long (lN G), .long (lN al), .long (lN pa), .long (lN pb), .int cl, .ref a0, .ref a1, .ref a2, .ref a3, .ref a4, .ref a5, .ref a6, .ref a7, .ref a8, .ref a9, .ref b0, .ref b1, .int (nI oc), .ref b2, .ref b3, .ref b4, .ref b5])), (a7, .inl (cI, 256, .inl bf)), (a8, .inl (cI, 64, .inl sc)), (a9, .inl (cI, 8, .inl st)), (b0, .inl (cI, 8, .inl kS)), (b1, .inl (cI, 64, .inl kR)), (a2, .inl (cJ, 4, .inr (.inl tf))), (a0, .inl (cJ, 1232, .inr (.inl nf))), (a1, .inl (cJ, 616, .inr (.inl cf))), (a4, .inl (cI, 4, .inl kf)), (b2, .inl (cJ, 4, .inr (.inl ky))), (a3, .inl (cJ, 16, .inr (.inl lf)))]) [11, 0, 1, 2, 3, 4, 5, 6, 7, 8, 9, 10] rfl
                  have hD := hD.sub (ws' := [(m0, .inr (8, [.int 0, .int (nI N), .int (nI n), .int (nI bc), .long (lN P), .long (lN Q), .long (lN G), .long (lN al), .long (lN pa), .long (lN pb), .int cl, .ref a0, .ref a1, .ref a2, .ref a3, .ref a4, .ref a5, .ref a6, .ref a7, .ref a8, .ref a9, .ref b0, .ref b1, .int (nI oc), .ref b2, .ref b3, .ref b4, .ref b5])), (a7, .inl (cI, 256, .inl bf)), (a8, .inl (cI, 64, .inl sc)), (a9, .inl (cI, 8, .inl st)), (b0, .inl (cI, 8, .inl kS)), (b1, .inl (cI, 64, .inl kR)), (a2, .inl (cJ, 4, .inr (.inl tf))), (a0, .inl (cJ, 1232, .inr (.inl nf))), (a1, .inl (cJ, 616, .inr (.inl cf))), (a4, .inl (cI, 4, .inl kf)), (b2, .inl (cJ, 4, .inr (.inl ky))), (a3, .inl (cJ, 16, .inr (.inl lf)))]) [11, 0, 1, 2, 3, 4, 5, 6, 7, 8, 9, 10] (by decide) rfl
                  generalize H1 = H at hP hS ⊢
                  refine lv_if_eq (tgt := 101) hx hb d_Bm_makeKey_96 (by decide) (fun c_11 => ?_) (fun c_11 => ?_)
                  · -- taken
                    refine lv_aload_n hx hb d_Bm_makeKey_101 rfl (lv_at hl 0 rfl) ?_
                    refine lv_aload_n hx hb d_Bm_makeKey_102 rfl (lv_at hl 0 rfl) ?_
                    refine va_get (D := (dC, dI)) (ci := 8) (v := .long (lN G)) (C := "BallotBoardModel") (T := F_Bm) (N := 28) hx hb hts (fun w9 h9 => List.mem_cons_of_mem _ (i_Bm w9 h9)) hown hK hP 0 rfl rfl 6 (by decide) (hts _ (List.mem_cons_of_mem _ gk_925)) (fun _ h9 => h9) rfl d_Bm_makeKey_103 ?_
                    refine lv_lload_n hx hb d_Bm_makeKey_106 rfl (lv_at hl 2 rfl) ?_
                    have hPc := hP.sub (ws' := (mo_ws m0 0 (nI N) (nI n) (nI bc) (lN P) (lN Q) (lN G) (lN al) (lN pa) (lN pb) cl a0 a1 a2 a3 a4 a5 a6 a7 a8 a9 b0 b1 oc b2 b3 b4 b5)) [0] rfl
                    have hKc := hK.sub (tys' := [(cJ, .long), (cI, .int)]) [0, 1] rfl
                    refine va_calll (va_runV (As := [.long (lN G), .long (lN X1)]) (rest := []) ⟨hx, hb, hml, hown, hts⟩ (c_Bm_power2 l H dC dI cJ cI m0 0 (nI N) (nI n) (nI bc) (lN al) (lN pa) (lN pb) cl a0 a1 a2 a3 a4 a5 a6 a7 a8 a9 b0 b1 oc b2 b3 b4 b5 P Q G G X1 hPc hPQ h61F hQ3 hGP (by omega)) (cwV 2 hts (gw_V gk_1050 gk_1052 gp_31 gk_7 gk_1053) rfl rfl rfl (by decide +kernel) ⟨Nat.le_of_ble_eq_true rfl, Nat.le_of_ble_eq_true rfl⟩) ⟨fun a U g mk q => ⟨q.1, q.2.1, va_K.moved (u := U) (U := U.calling g mk a) (Vm.Alike.refl U.vm) q.2.2⟩, va_recv hK hP (ci := 8) (q0 := 0) rfl rfl, fun U hU hW => ⟨rfl, hU, va_K.moved hW.alike hKc⟩⟩ rfl rfl hl.1 rfl (lv_room (Nat.le_of_ble_eq_true rfl)) d_Bm_makeKey_107 ⟨Nat.le_of_ble_eq_true rfl, Nat.le_of_ble_eq_true rfl⟩) hS (fun q _ h => h.elim) (fun q h => h.elim) (fun r107 u9 t9 H1 locs ht hvm hw hB hz1 hk1 hS => ?_)
                    obtain rfl : H = H1 := hB.symm.trans ht
                    have hw : r107 = lN (G ^ X1 % P) := hw
                    subst hw
                    refine lv_lstore (lv' := [(6, .long (lN (G ^ X1 % P))), (0, .ref m0), (1, .int (nI I)), (2, .long (lN X1)), (4, .long (lN W1))]) hx hb d_Bm_makeKey_110 hl (by decide) rfl (fun ls hl => ?_)
                    refine lv_aload_n hx hb d_Bm_makeKey_112 rfl (lv_at hl 1 rfl) ?_
                    refine lv_lconst (v := 1) hx hb d_Bm_makeKey_113 (by decide) ?_
                    refine lv_iload_n hx hb d_Bm_makeKey_114 rfl (lv_at hl 2 rfl) ?_
                    refine lv_i2l (v := (nI I : Int32).toInt64) hx hb d_Bm_makeKey_115 rfl ?_
                    rw [show ((nI I : Int32).toInt64 : Int64) = (lN I) from i2l_nI (by omega)]
                    refine lv_lload hx hb d_Bm_makeKey_116 (lv_at hl 0 rfl) ?_
                    refine lv_aload_n hx hb d_Bm_makeKey_118 rfl (lv_at hl 1 rfl) ?_
                    refine lv_aload_n hx hb d_Bm_makeKey_119 rfl (lv_at hl 1 rfl) ?_
                    refine va_get (D := (dC, dI)) (ci := 8) (v := .long (lN G)) (C := "BallotBoardModel") (T := F_Bm) (N := 28) hx hb hts (fun w9 h9 => List.mem_cons_of_mem _ (i_Bm w9 h9)) hown hK hP 0 rfl rfl 6 (by decide) (hts _ (List.mem_cons_of_mem _ gk_925)) (fun _ h9 => h9) rfl d_Bm_makeKey_120 ?_
                    refine lv_lload hx hb d_Bm_makeKey_123 (lv_at hl 4 rfl) ?_
                    have hPc := hP.sub (ws' := (mo_ws m0 0 (nI N) (nI n) (nI bc) (lN P) (lN Q) (lN G) (lN al) (lN pa) (lN pb) cl a0 a1 a2 a3 a4 a5 a6 a7 a8 a9 b0 b1 oc b2 b3 b4 b5)) [0] rfl
                    have hKc := hK.sub (tys' := [(cJ, .long), (cI, .int)]) [0, 1] rfl
                    refine va_calll (va_runV (As := [.long (lN G), .long (lN W1)]) (rest := [.long (lN (G ^ X1 % P)), .long (lN I), .long 1, .ref m0]) ⟨hx, hb, hml, hown, hts⟩ (c_Bm_power2 l H dC dI cJ cI m0 0 (nI N) (nI n) (nI bc) (lN al) (lN pa) (lN pb) cl a0 a1 a2 a3 a4 a5 a6 a7 a8 a9 b0 b1 oc b2 b3 b4 b5 P Q G G W1 hPc hPQ h61F hQ3 hGP (by omega)) (cwV 2 hts (gw_V gk_1050 gk_1052 gp_31 gk_7 gk_1053) rfl rfl rfl (by decide +kernel) ⟨Nat.le_of_ble_eq_true rfl, Nat.le_of_ble_eq_true rfl⟩) ⟨fun a U g mk q => ⟨q.1, q.2.1, va_K.moved (u := U) (U := U.calling g mk a) (Vm.Alike.refl U.vm) q.2.2⟩, va_recv hK hP (ci := 8) (q0 := 0) rfl rfl, fun U hU hW => ⟨rfl, hU, va_K.moved hW.alike hKc⟩⟩ rfl rfl hl.1 rfl (lv_room (Nat.le_of_ble_eq_true rfl)) d_Bm_makeKey_125 ⟨Nat.le_of_ble_eq_true rfl, Nat.le_of_ble_eq_true rfl⟩) hS (fun q _ h => h.elim) (fun q h => h.elim) (fun r125 u9 t9 H1 locs ht hvm hw hB hz1 hk1 hS => ?_)
                    obtain rfl : H = H1 := hB.symm.trans ht
                    have hw : r125 = lN (G ^ W1 % P) := hw
                    subst hw
                    have hPc := hP.sub (ws' := (mo_ws m0 0 (nI N) (nI n) (nI bc) (lN P) (lN Q) (lN G) (lN al) (lN pa) (lN pb) cl a0 a1 a2 a3 a4 a5 a6 a7 a8 a9 b0 b1 oc b2 b3 b4 b5 ++ (iw_ws a7 cI 256 bf ++ (iw_ws a8 cI 64 sc ++ (iw_ws a9 cI 8 st ++ (iw_ws b0 cI 8 kS ++ (iw_ws b1 cI 64 kR ++ (jw_ws a2 cJ 4 tf ++ (jw_ws a3 cJ 16 lf))))))))) [0, 1, 2, 3, 4, 5, 6, 11] rfl
                    have hDc := hD.sub (ws' := (mo_ws m0 0 (nI N) (nI n) (nI bc) (lN P) (lN Q) (lN G) (lN al) (lN pa) (lN pb) cl a0 a1 a2 a3 a4 a5 a6 a7 a8 a9 b0 b1 oc b2 b3 b4 b5 ++ (iw_ws a7 cI 256 bf ++ (iw_ws a8 cI 64 sc ++ (iw_ws a9 cI 8 st ++ (iw_ws b0 cI 8 kS ++ (iw_ws b1 cI 64 kR ++ (jw_ws a2 cJ 4 tf ++ (jw_ws a3 cJ 16 lf))))))))) [0, 1, 2, 3, 4, 5, 6, 11] (by decide) rfl
                    have hKc := hK.sub (tys' := [(cJ, .long), (cI, .int)]) [0, 1] rfl
                    have hFc := va_free (wc := (mo_ws m0 0 (nI N) (nI n) (nI bc) (lN P) (lN Q) (lN G) (lN al) (lN pa) (lN pb) cl a0 a1 a2 a3 a4 a5 a6 a7 a8 a9 b0 b1 oc b2 b3 b4 b5 ++ (iw_ws a7 cI 256 bf ++ (iw_ws a8 cI 64 sc ++ (iw_ws a9 cI 8 st ++ (iw_ws b0 cI 8 kS ++ (iw_ws b1 cI 64 kR ++ (jw_ws a2 cJ 4 tf ++ (jw_ws a3 cJ 16 lf))))))))) hD hS hA [0, 1, 2, 3, 4, 5, 6, 11] rfl
                    refine va_calll (va_runV (As := [.long 1, .long (lN I), .long (lN (G ^ X1 % P)), .long (lN (G ^ W1 % P))]) (rest := []) ⟨hx, hb, hml, hown, hts⟩ (c_Bm_hash4 l dC dI cJ cI H.size m0 0 (nI N) (nI n) (nI bc) (lN al) (lN pa) (lN pb) cl a0 a1 a2 a3 a4 a5 a6 a7 a8 a9 b0 b1 oc b2 b3 b4 b5 P Q G bf sc st tf lf 1 (lN I) (lN (G ^ X1 % P)) (lN (G ^ W1 % P)) hPQ h61F hQ3) (cwV 4 hts (gw_V gk_1062 gk_1064 gp_34 gk_7 gk_1065) rfl rfl rfl (by decide +kernel) ⟨Nat.le_of_ble_eq_true rfl, Nat.le_of_ble_eq_true rfl⟩) ⟨fun a U g mk q => by obtain ⟨q0, q1, qP, qK, qD⟩ := q; exact ⟨q0, q1, qP, va_K.moved (u := U) (U := U.calling g mk a) (Vm.Alike.refl U.vm) qK, qD⟩, va_recv hK hP (ci := 8) (q0 := 0) rfl rfl, fun U hU hW => ⟨rfl, by rw [hU], by rw [hU]; exact hPc, va_K.moved hW.alike hKc, hDc.weaken (fun _ _ _ _ => trivial)⟩⟩ rfl rfl hl.1 rfl (lv_room (Nat.le_of_ble_eq_true rfl)) d_Bm_makeKey_128 ⟨Nat.le_of_ble_eq_true rfl, Nat.le_of_ble_eq_true rfl⟩) hS (fun q _ h => hFc q h) hFc (fun r_13 u9 t9 H1 locs ht hvm hw hB hz1 hk1 hS => ?_)
                    obtain ⟨⟨gbk_12, gsk_12, gtk_12, gfk_12, gok_12⟩, glk_12⟩ := u9
                    have hw : r_13 = lN (hsh Q [lN P, lN G, 1, lN I, lN (G ^ X1 % P), lN (G ^ W1 % P)]) := hw
                    subst hw
                    obtain ⟨hP1, hK1, hD1⟩ := hB
                    rw [ht] at hP1
                    obtain ⟨hP, hD⟩ := va_join (wr := [(a0, .inl (cJ, 1232, .inr (.inl nf))), (a1, .inl (cJ, 616, .inr (.inl cf))), (a4, .inl (cI, 4, .inl kf)), (b2, .inl (cJ, 4, .inr (.inl ky)))]) (w1 := [(m0, .inr (8, [.int 0, .int (nI N), .int (nI n), .int (nI bc), .long (lN P), .long (lN Q), .long (lN G), .long (lN al), .long (lN pa), .long (lN pb), .int cl, .ref a0, .ref a1, .ref a2, .ref a3, .ref a4, .ref a5, .ref a6, .ref a7, .ref a8, .ref a9, .ref b0, .ref b1, .int (nI gok_12), .ref b2, .ref b3, .ref b4, .ref b5])), (a7, .inl (cI, 256, .inl gbk_12)), (a8, .inl (cI, 64, .inl gsk_12)), (a9, .inl (cI, 8, .inl gtk_12)), (b0, .inl (cI, 8, .inl kS)), (b1, .inl (cI, 64, .inl kR)), (a2, .inl (cJ, 4, .inr (.inl gfk_12))), (a3, .inl (cJ, 16, .inr (.inl glk_12)))]) hP hD [0, 1, 2, 3, 4, 5, 6, 11] [7, 8, 9, 10] rfl rfl (by decide) (by decide) hk1 hFc hP1 hD1
                    have hP := hP.sub (ws' := [(m0, .inr (8, [.int 0, .int (nI N), .int (nI n), .int (nI bc), .long (lN P), .long (lN Q), .long (lN G), .long (lN al), .long (lN pa), .long (lN pb), .int cl, .ref a0, .ref a1, .ref a2, .ref a3, .ref a4, .ref a5, .ref a6, .ref a7, .ref a8, .ref a9, .ref b0, .ref b1, .int (nI gok_12), .ref b2, .ref b3, .ref b4, .ref b5])), (a7, .inl (cI, 256, .inl gbk_12)), (a8, .inl (cI, 64, .inl gsk_12)), (a9, .inl (cI, 8, .inl gtk_12)), (b0, .inl (cI, 8, .inl kS)), (b1, .inl (cI, 64, .inl kR)), (a2, .inl (cJ, 4, .inr (.inl gfk_12))), (a0, .inl (cJ, 1232, .inr (.inl nf))), (a1, .inl (cJ, 616, .inr (.inl cf))), (a4, .inl (cI, 4, .inl kf)), (b2, .inl (cJ, 4, .inr (.inl ky))), (a3, .inl (cJ, 16, .inr (.inl glk_12)))]) [4, 5, 6, 7, 8, 9, 10, 0, 1, 2, 3, 11] rfl
                    have hD := hD.sub (ws' := [(m0, .inr (8, [.int 0, .int (nI N), .int (nI n), .int (nI bc), .long (lN P), .long (lN Q), .long (lN G), .long (lN al), .long (lN pa), .long (lN pb), .int cl, .ref a0, .ref a1, .ref a2, .ref a3, .ref a4, .ref a5, .ref a6, .ref a7, .ref a8, .ref a9, .ref b0, .ref b1, .int (nI gok_12), .ref b2, .ref b3, .ref b4, .ref b5])), (a7, .inl (cI, 256, .inl gbk_12)), (a8, .inl (cI, 64, .inl gsk_12)), (a9, .inl (cI, 8, .inl gtk_12)), (b0, .inl (cI, 8, .inl kS)), (b1, .inl (cI, 64, .inl kR)), (a2, .inl (cJ, 4, .inr (.inl gfk_12))), (a0, .inl (cJ, 1232, .inr (.inl nf))), (a1, .inl (cJ, 616, .inr (.inl cf))), (a4, .inl (cI, 4, .inl kf)), (b2, .inl (cJ, 4, .inr (.inl ky))), (a3, .inl (cJ, 16, .inr (.inl glk_12)))]) [4, 5, 6, 7, 8, 9, 10, 0, 1, 2, 3, 11] (by decide) rfl
                    generalize H1 = H at hP hS ⊢
                    refine lv_lstore (lv' := [(8, .long (lN (hsh Q [lN P, lN G, 1, lN I, lN (G ^ X1 % P), lN (G ^ W1 % P)]))), (6, .long (lN (G ^ X1 % P))), (0, .ref m0), (1, .int (nI I)), (2, .long (lN X1)), (4, .long (lN W1))]) hx hb d_Bm_makeKey_131 hl (by decide) rfl (fun ls hl => ?_)
                    refine lv_aload_n hx hb d_Bm_makeKey_133 rfl (lv_at hl 2 rfl) ?_
                    refine lv_iload_n hx hb d_Bm_makeKey_134 rfl (lv_at hl 3 rfl) ?_
                    refine lv_lload hx hb d_Bm_makeKey_135 (lv_at hl 1 rfl) ?_
                    refine lv_lload hx hb d_Bm_makeKey_137 (lv_at hl 0 rfl) ?_
                    refine lv_lload hx hb d_Bm_makeKey_139 (lv_at hl 5 rfl) ?_
                    refine lv_lload hx hb d_Bm_makeKey_141 (lv_at hl 0 rfl) ?_
                    refine lv_lload_n hx hb d_Bm_makeKey_143 rfl (lv_at hl 4 rfl) ?_
                    refine lv_aload_n hx hb d_Bm_makeKey_144 rfl (lv_at hl 2 rfl) ?_
                    refine va_get (D := (dC, dI)) (ci := 8) (v := .long (lN Q)) (C := "BallotBoardModel") (T := F_Bm) (N := 28) hx hb hts (fun w9 h9 => List.mem_cons_of_mem _ (i_Bm w9 h9)) hown hK hP 0 rfl rfl 5 (by decide) (hts _ (List.mem_cons_of_mem _ gk_924)) (fun _ h9 => h9) rfl d_Bm_makeKey_145 ?_
                    refine va_calll (va_runS (As := [.long (lN (hsh Q [lN P, lN G, 1, lN I, lN (G ^ X1 % P), lN (G ^ W1 % P)])), .long (lN X1), .long (lN Q)]) (rest := [.long (lN W1), .long (lN (hsh Q [lN P, lN G, 1, lN I, lN (G ^ X1 % P), lN (G ^ W1 % P)])), .long (lN (G ^ X1 % P)), .int (nI I), .ref m0]) ⟨hx, hb, hml, hown, hts⟩ (c_Bm_product l H (hsh Q [lN P, lN G, 1, lN I, lN (G ^ X1 % P), lN (G ^ W1 % P)]) X1 Q (hsh_lt (by omega) _) (by omega) (by omega)) (cwS 3 hts (gw_S gk_1021 gk_1022 gk_7 gk_1023) rfl rfl rfl (by decide +kernel) ⟨Nat.le_of_ble_eq_true rfl, Nat.le_of_ble_eq_true rfl⟩) ⟨fun a U g mk q => q, fun U hU hW => ⟨rfl, hU⟩⟩ rfl rfl hl.1 rfl (lv_room (Nat.le_of_ble_eq_true rfl)) d_Bm_makeKey_148 ⟨Nat.le_of_ble_eq_true rfl, Nat.le_of_ble_eq_true rfl⟩) hS (fun q _ h => h.elim) (fun q h => h.elim) (fun r148 u9 t9 H1 locs ht hvm hw hB hz1 hk1 hS => ?_)
                    obtain rfl : H = H1 := hB.symm.trans ht
                    have hw : r148 = lN ((hsh Q [lN P, lN G, 1, lN I, lN (G ^ X1 % P), lN (G ^ W1 % P)]) * X1 % Q) := hw
                    subst hw
                    refine lv_aload_n hx hb d_Bm_makeKey_151 rfl (lv_at hl 2 rfl) ?_
                    refine va_get (D := (dC, dI)) (ci := 8) (v := .long (lN Q)) (C := "BallotBoardModel") (T := F_Bm) (N := 28) hx hb hts (fun w9 h9 => List.mem_cons_of_mem _ (i_Bm w9 h9)) hown hK hP 0 rfl rfl 5 (by decide) (hts _ (List.mem_cons_of_mem _ gk_924)) (fun _ h9 => h9) rfl d_Bm_makeKey_152 ?_
                    refine va_calll (va_runS (As := [.long (lN W1), .long (lN ((hsh Q [lN P, lN G, 1, lN I, lN (G ^ X1 % P), lN (G ^ W1 % P)]) * X1 % Q)), .long (lN Q)]) (rest := [.long (lN (hsh Q [lN P, lN G, 1, lN I, lN (G ^ X1 % P), lN (G ^ W1 % P)])), .long (lN (G ^ X1 % P)), .int (nI I), .ref m0]) ⟨hx, hb, hml, hown, hts⟩ (c_Bm_sum l H W1 ((hsh Q [lN P, lN G, 1, lN I, lN (G ^ X1 % P), lN (G ^ W1 % P)]) * X1 % Q) Q hW9 (Nat.mod_lt _ (by omega)) (by omega)) (cwS 3 hts (gw_S gk_1024 gk_1025 gk_7 gk_1026) rfl rfl rfl (by decide +kernel) ⟨Nat.le_of_ble_eq_true rfl, Nat.le_of_ble_eq_true rfl⟩) ⟨fun a U g mk q => q, fun U hU hW => ⟨rfl, hU⟩⟩ rfl rfl hl.1 rfl (lv_room (Nat.le_of_ble_eq_true rfl)) d_Bm_makeKey_155 ⟨Nat.le_of_ble_eq_true rfl, Nat.le_of_ble_eq_true rfl⟩) hS (fun q _ h => h.elim) (fun q h => h.elim) (fun r155 u9 t9 H1 locs ht hvm hw hB hz1 hk1 hS => ?_)
                    obtain rfl : H = H1 := hB.symm.trans ht
                    have hw : r155 = lN ((W1 + ((hsh Q [lN P, lN G, 1, lN I, lN (G ^ X1 % P), lN (G ^ W1 % P)]) * X1 % Q)) % Q) := hw
                    subst hw
                    have hPc := hP.sub (ws' := (mo_ws m0 0 (nI N) (nI n) (nI bc) (lN P) (lN Q) (lN G) (lN al) (lN pa) (lN pb) cl a0 a1 a2 a3 a4 a5 a6 a7 a8 a9 b0 b1 gok_12 b2 b3 b4 b5 ++ (iw_ws a7 cI 256 gbk_12 ++ (iw_ws a8 cI 64 gsk_12 ++ (iw_ws a9 cI 8 gtk_12 ++ (iw_ws b0 cI 8 kS ++ (iw_ws b1 cI 64 kR ++ (jw_ws a2 cJ 4 gfk_12 ++ (jw_ws a0 cJ 1232 nf ++ (jw_ws a1 cJ 616 cf ++ (iw_ws a4 cI 4 kf ++ (jw_ws b2 cJ 4 ky)))))))))))) [0, 1, 2, 3, 4, 5, 6, 7, 8, 9, 10] rfl
                    have hDc := hD.sub (ws' := (mo_ws m0 0 (nI N) (nI n) (nI bc) (lN P) (lN Q) (lN G) (lN al) (lN pa) (lN pb) cl a0 a1 a2 a3 a4 a5 a6 a7 a8 a9 b0 b1 gok_12 b2 b3 b4 b5 ++ (iw_ws a7 cI 256 gbk_12 ++ (iw_ws a8 cI 64 gsk_12 ++ (iw_ws a9 cI 8 gtk_12 ++ (iw_ws b0 cI 8 kS ++ (iw_ws b1 cI 64 kR ++ (jw_ws a2 cJ 4 gfk_12 ++ (jw_ws a0 cJ 1232 nf ++ (jw_ws a1 cJ 616 cf ++ (iw_ws a4 cI 4 kf ++ (jw_ws b2 cJ 4 ky)))))))))))) [0, 1, 2, 3, 4, 5, 6, 7, 8, 9, 10] (by decide) rfl
                    have hKc := hK.sub (tys' := [(cJ, .long), (cI, .int)]) [0, 1] rfl
                    have hFc := va_free (wc := (mo_ws m0 0 (nI N) (nI n) (nI bc) (lN P) (lN Q) (lN G) (lN al) (lN pa) (lN pb) cl a0 a1 a2 a3 a4 a5 a6 a7 a8 a9 b0 b1 gok_12 b2 b3 b4 b5 ++ (iw_ws a7 cI 256 gbk_12 ++ (iw_ws a8 cI 64 gsk_12 ++ (iw_ws a9 cI 8 gtk_12 ++ (iw_ws b0 cI 8 kS ++ (iw_ws b1 cI 64 kR ++ (jw_ws a2 cJ 4 gfk_12 ++ (jw_ws a0 cJ 1232 nf ++ (jw_ws a1 cJ 616 cf ++ (iw_ws a4 cI 4 kf ++ (jw_ws b2 cJ 4 ky)))))))))))) hD hS hA [0, 1, 2, 3, 4, 5, 6, 7, 8, 9, 10] rfl
                    refine va_calli (va_runV (As := [.int (nI I), .long (lN (G ^ X1 % P)), .long (lN (hsh Q [lN P, lN G, 1, lN I, lN (G ^ X1 % P), lN (G ^ W1 % P)])), .long (lN ((W1 + ((hsh Q [lN P, lN G, 1, lN I, lN (G ^ X1 % P), lN (G ^ W1 % P)]) * X1 % Q)) % Q))]) (rest := []) ⟨hx, hb, hml, hown, hts⟩ (c_Bm_putKey_5 l dC dI cJ cI H.size m0 0 N n bc P Q G al pa pb cl a0 a1 a2 a3 a4 a5 a6 a7 a8 a9 b0 b1 gok_12 b2 b3 b4 b5 gbk_12 gsk_12 gtk_12 kf gfk_12 nf cf ky ko I (G ^ X1 % P) (lN (hsh Q [lN P, lN G, 1, lN I, lN (G ^ X1 % P), lN (G ^ W1 % P)])) (lN ((W1 + ((hsh Q [lN P, lN G, 1, lN I, lN (G ^ X1 % P), lN (G ^ W1 % P)]) * X1 % Q)) % Q)) hPQ h61F hQ3 (by omega) hn0 hN hI hY0 (Nat.mod_lt _ (by omega)) hkP hrk) (cwV 4 hts (gw_V gk_1090 gk_1092 gp_39 gk_7 gk_1093) rfl rfl rfl (by decide +kernel) ⟨Nat.le_of_ble_eq_true rfl, Nat.le_of_ble_eq_true rfl⟩) ⟨fun a U g mk q => by obtain ⟨q0, q1, qP, qK, qD⟩ := q; exact ⟨q0, q1, qP, va_K.moved (u := U) (U := U.calling g mk a) (Vm.Alike.refl U.vm) qK, qD⟩, va_recv hK hP (ci := 8) (q0 := 0) rfl rfl, fun U hU hW => ⟨rfl, by rw [hU], by rw [hU]; exact hPc, va_K.moved hW.alike hKc, hDc.weaken (fun _ _ _ _ => trivial)⟩⟩ rfl rfl hl.1 rfl (lv_room (Nat.le_of_ble_eq_true rfl)) d_Bm_makeKey_158 ⟨Nat.le_of_ble_eq_true rfl, Nat.le_of_ble_eq_true rfl⟩) hS (fun q _ h => hFc q h) hFc (fun r_15 u9 t9 H1 locs ht hvm hw hB hz1 hk1 hS => ?_)
                    obtain ⟨⟨gbk_14, gsk_14, gtk_14, gfk_14, gok_14⟩, gak_14⟩ := u9
                    obtain ⟨hw, hal9⟩ := hw
                    have hw : r_15 = nI n := hw
                    subst hw
                    obtain ⟨hP1, hK1, hD1⟩ := hB
                    rw [ht] at hP1
                    obtain ⟨hP, hD⟩ := va_join (wr := [(a3, .inl (cJ, 16, .inr (.inl glk_12)))]) (w1 := [(m0, .inr (8, [.int 0, .int (nI N), .int (nI (n + 1)), .int (nI bc), .long (lN P), .long (lN Q), .long (lN G), .long (lN gak_14), .long (lN pa), .long (lN pb), .int cl, .ref a0, .ref a1, .ref a2, .ref a3, .ref a4, .ref a5, .ref a6, .ref a7, .ref a8, .ref a9, .ref b0, .ref b1, .int (nI gok_14), .ref b2, .ref b3, .ref b4, .ref b5])), (a7, .inl (cI, 256, .inl gbk_14)), (a8, .inl (cI, 64, .inl gsk_14)), (a9, .inl (cI, 8, .inl gtk_14)), (b0, .inl (cI, 8, .inl kS)), (b1, .inl (cI, 64, .inl kR)), (a2, .inl (cJ, 4, .inr (.inl gfk_14))), (a0, .inl (cJ, 1232, .inr (.inl (w8 nf (8 * n) (lN 1) (lN I) (lN (G ^ X1 % P)) (lN (hsh Q [lN P, lN G, 1, lN I, lN (G ^ X1 % P), lN (G ^ W1 % P)])) (lN ((W1 + ((hsh Q [lN P, lN G, 1, lN I, lN (G ^ X1 % P), lN (G ^ W1 % P)]) * X1 % Q)) % Q)) 0 0 0)))), (a1, .inl (cJ, 616, .inr (.inl (c4 cf (4 * n) (lkw [cf (4 * (n - 1) + 0), cf (4 * (n - 1) + 1), cf (4 * (n - 1) + 2), cf (4 * (n - 1) + 3), lN 1, lN I, lN (G ^ X1 % P), lN (hsh Q [lN P, lN G, 1, lN I, lN (G ^ X1 % P), lN (G ^ W1 % P)]), lN ((W1 + ((hsh Q [lN P, lN G, 1, lN I, lN (G ^ X1 % P), lN (G ^ W1 % P)]) * X1 % Q)) % Q)]))))), (a4, .inl (cI, 4, .inl (upd kf I (nI n)))), (b2, .inl (cJ, 4, .inr (.inl (vp_updL ky I (lN (G ^ X1 % P))))))]) hP hD [0, 1, 2, 3, 4, 5, 6, 7, 8, 9, 10] [11] rfl rfl (by decide) (by decide) hk1 hFc hP1 hD1
                    have hP := hP.sub (ws' := [(m0, .inr (8, [.int 0, .int (nI N), .int (nI (n + 1)), .int (nI bc), .long (lN P), .long (lN Q), .long (lN G), .long (lN gak_14), .long (lN pa), .long (lN pb), .int cl, .ref a0, .ref a1, .ref a2, .ref a3, .ref a4, .ref a5, .ref a6, .ref a7, .ref a8, .ref a9, .ref b0, .ref b1, .int (nI gok_14), .ref b2, .ref b3, .ref b4, .ref b5])), (a7, .inl (cI, 256, .inl gbk_14)), (a8, .inl (cI, 64, .inl gsk_14)), (a9, .inl (cI, 8, .inl gtk_14)), (b0, .inl (cI, 8, .inl kS)), (b1, .inl (cI, 64, .inl kR)), (a2, .inl (cJ, 4, .inr (.inl gfk_14))), (a0, .inl (cJ, 1232, .inr (.inl (w8 nf (8 * n) (lN 1) (lN I) (lN (G ^ X1 % P)) (lN (hsh Q [lN P, lN G, 1, lN I, lN (G ^ X1 % P), lN (G ^ W1 % P)])) (lN ((W1 + ((hsh Q [lN P, lN G, 1, lN I, lN (G ^ X1 % P), lN (G ^ W1 % P)]) * X1 % Q)) % Q)) 0 0 0)))), (a1, .inl (cJ, 616, .inr (.inl (c4 cf (4 * n) (lkw [cf (4 * (n - 1) + 0), cf (4 * (n - 1) + 1), cf (4 * (n - 1) + 2), cf (4 * (n - 1) + 3), lN 1, lN I, lN (G ^ X1 % P), lN (hsh Q [lN P, lN G, 1, lN I, lN (G ^ X1 % P), lN (G ^ W1 % P)]), lN ((W1 + ((hsh Q [lN P, lN G, 1, lN I, lN (G ^ X1 % P), lN (G ^ W1 % P)]) * X1 % Q)) % Q)]))))), (a4, .inl (cI, 4, .inl (upd kf I (nI n)))), (b2, .inl (cJ, 4, .inr (.inl (vp_updL ky I (lN (G ^ X1 % P)))))), (a3, .inl (cJ, 16, .inr (.inl glk_12)))]) [1, 2, 3, 4, 5, 6, 7, 8, 9, 10, 11, 0] rfl
                    have hD := hD.sub (ws' := [(m0, .inr (8, [.int 0, .int (nI N), .int (nI (n + 1)), .int (nI bc), .long (lN P), .long (lN Q), .long (lN G), .long (lN gak_14), .long (lN pa), .long (lN pb), .int cl, .ref a0, .ref a1, .ref a2, .ref a3, .ref a4, .ref a5, .ref a6, .ref a7, .ref a8, .ref a9, .ref b0, .ref b1, .int (nI gok_14), .ref b2, .ref b3, .ref b4, .ref b5])), (a7, .inl (cI, 256, .inl gbk_14)), (a8, .inl (cI, 64, .inl gsk_14)), (a9, .inl (cI, 8, .inl gtk_14)), (b0, .inl (cI, 8, .inl kS)), (b1, .inl (cI, 64, .inl kR)), (a2, .inl (cJ, 4, .inr (.inl gfk_14))), (a0, .inl (cJ, 1232, .inr (.inl (w8 nf (8 * n) (lN 1) (lN I) (lN (G ^ X1 % P)) (lN (hsh Q [lN P, lN G, 1, lN I, lN (G ^ X1 % P), lN (G ^ W1 % P)])) (lN ((W1 + ((hsh Q [lN P, lN G, 1, lN I, lN (G ^ X1 % P), lN (G ^ W1 % P)]) * X1 % Q)) % Q)) 0 0 0)))), (a1, .inl (cJ, 616, .inr (.inl (c4 cf (4 * n) (lkw [cf (4 * (n - 1) + 0), cf (4 * (n - 1) + 1), cf (4 * (n - 1) + 2), cf (4 * (n - 1) + 3), lN 1, lN I, lN (G ^ X1 % P), lN (hsh Q [lN P, lN G, 1, lN I, lN (G ^ X1 % P), lN (G ^ W1 % P)]), lN ((W1 + ((hsh Q [lN P, lN G, 1, lN I, lN (G ^ X1 % P), lN (G ^ W1 % P)]) * X1 % Q)) % Q)]))))), (a4, .inl (cI, 4, .inl (upd kf I (nI n)))), (b2, .inl (cJ, 4, .inr (.inl (vp_updL ky I (lN (G ^ X1 % P)))))), (a3, .inl (cJ, 16, .inr (.inl glk_12)))]) [1, 2, 3, 4, 5, 6, 7, 8, 9, 10, 11, 0] (by decide) rfl
                    generalize H1 = H at hP hS ⊢
                    exact W.iret (v := (nI n)) hx hb hr (fun t ht9 hW => ⟨⟨_, ((gbk_14, gsk_14, gtk_14, gfk_14, gok_14), glk_12, gak_14), rfl, ⟨rfl, hal9⟩, by rw [ht9]; exact hP, va_K.moved hW.alike hK, hD⟩, hS.F ht9⟩) hS.2.2 d_Bm_makeKey_161
                  · -- not taken
                    exact absurd rfl c_11
                · -- not taken
                  exact absurd ⟨W1, rfl, hW9⟩ (bz_f h81 c_9)
        · -- not taken
          exact absurd ((rK_neg hrk hn (show I < 4 by omega)).mpr hk0) c_4
