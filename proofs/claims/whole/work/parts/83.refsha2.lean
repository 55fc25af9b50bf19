abbrev b_Bm_digest : ByteArray := prog_10_method_6_code
abbrev y_Bm_digest : MethodName := ⟨"BallotBoardModel", "digest", "()V"⟩
abbrev w_Bm_digest : List Cond := .code y_Bm_digest b_Bm_digest 3 none :: gw
theorem d_Bm_digest_0 : decode b_Bm_digest 0 = .ok (.bipush 8, 2) := by decide +kernel
theorem d_Bm_digest_2 : decode b_Bm_digest 2 = .ok (.aload_n 0, 1) := by decide +kernel
theorem d_Bm_digest_3 : decode b_Bm_digest 3 = .ok (.getfield 135, 3) := by decide +kernel
theorem d_Bm_digest_6 : decode b_Bm_digest 6 = .ok (.imul, 1) := by decide +kernel
theorem d_Bm_digest_7 : decode b_Bm_digest 7 = .ok (.istore_n 1, 1) := by decide +kernel
theorem d_Bm_digest_8 : decode b_Bm_digest 8 = .ok (.aload_n 0, 1) := by decide +kernel
theorem d_Bm_digest_9 : decode b_Bm_digest 9 = .ok (.getfield 32, 3) := by decide +kernel
theorem d_Bm_digest_12 : decode b_Bm_digest 12 = .ok (.aload_n 0, 1) := by decide +kernel
theorem d_Bm_digest_13 : decode b_Bm_digest 13 = .ok (.dup, 1) := by decide +kernel
theorem d_Bm_digest_14 : decode b_Bm_digest 14 = .ok (.getfield 135, 3) := by decide +kernel
theorem d_Bm_digest_17 : decode b_Bm_digest 17 = .ok (.dup_x1, 1) := by decide +kernel
theorem d_Bm_digest_18 : decode b_Bm_digest 18 = .ok (.iconst 1, 1) := by decide +kernel
theorem d_Bm_digest_19 : decode b_Bm_digest 19 = .ok (.iadd, 1) := by decide +kernel
theorem d_Bm_digest_20 : decode b_Bm_digest 20 = .ok (.putfield 135, 3) := by decide +kernel
theorem d_Bm_digest_23 : decode b_Bm_digest 23 = .ok (.sipush 128, 3) := by decide +kernel
theorem d_Bm_digest_26 : decode b_Bm_digest 26 = .ok (.iastore, 1) := by decide +kernel
theorem d_Bm_digest_27 : decode b_Bm_digest 27 = .ok (.aload_n 0, 1) := by decide +kernel
theorem d_Bm_digest_28 : decode b_Bm_digest 28 = .ok (.getfield 135, 3) := by decide +kernel
theorem d_Bm_digest_31 : decode b_Bm_digest 31 = .ok (.bipush 64, 2) := by decide +kernel
theorem d_Bm_digest_33 : decode b_Bm_digest 33 = .ok (.irem, 1) := by decide +kernel
theorem d_Bm_digest_34 : decode b_Bm_digest 34 = .ok (.bipush 56, 2) := by decide +kernel
theorem d_Bm_digest_36 : decode b_Bm_digest 36 = .ok (.if_icmp .eq 23, 3) := by decide +kernel
theorem d_Bm_digest_39 : decode b_Bm_digest 39 = .ok (.aload_n 0, 1) := by decide +kernel
theorem d_Bm_digest_40 : decode b_Bm_digest 40 = .ok (.getfield 32, 3) := by decide +kernel
theorem d_Bm_digest_43 : decode b_Bm_digest 43 = .ok (.aload_n 0, 1) := by decide +kernel
theorem d_Bm_digest_44 : decode b_Bm_digest 44 = .ok (.dup, 1) := by decide +kernel
theorem d_Bm_digest_45 : decode b_Bm_digest 45 = .ok (.getfield 135, 3) := by decide +kernel
theorem d_Bm_digest_48 : decode b_Bm_digest 48 = .ok (.dup_x1, 1) := by decide +kernel
theorem d_Bm_digest_49 : decode b_Bm_digest 49 = .ok (.iconst 1, 1) := by decide +kernel
theorem d_Bm_digest_50 : decode b_Bm_digest 50 = .ok (.iadd, 1) := by decide +kernel
theorem d_Bm_digest_51 : decode b_Bm_digest 51 = .ok (.putfield 135, 3) := by decide +kernel
theorem d_Bm_digest_54 : decode b_Bm_digest 54 = .ok (.iconst 0, 1) := by decide +kernel
theorem d_Bm_digest_55 : decode b_Bm_digest 55 = .ok (.iastore, 1) := by decide +kernel
theorem d_Bm_digest_56 : decode b_Bm_digest 56 = .ok (.goto (-29), 3) := by decide +kernel
theorem d_Bm_digest_59 : decode b_Bm_digest 59 = .ok (.aload_n 0, 1) := by decide +kernel
theorem d_Bm_digest_60 : decode b_Bm_digest 60 = .ok (.iload_n 1, 1) := by decide +kernel
theorem d_Bm_digest_61 : decode b_Bm_digest 61 = .ok (.i2l, 1) := by decide +kernel
theorem d_Bm_digest_62 : decode b_Bm_digest 62 = .ok (.invokevirtual 138, 3) := by decide +kernel
theorem d_Bm_digest_65 : decode b_Bm_digest 65 = .ok (.iconst 0, 1) := by decide +kernel
theorem d_Bm_digest_66 : decode b_Bm_digest 66 = .ok (.istore_n 2, 1) := by decide +kernel
theorem d_Bm_digest_67 : decode b_Bm_digest 67 = .ok (.iload_n 2, 1) := by decide +kernel
theorem d_Bm_digest_68 : decode b_Bm_digest 68 = .ok (.bipush 8, 2) := by decide +kernel
theorem d_Bm_digest_70 : decode b_Bm_digest 70 = .ok (.if_icmp .ge 21, 3) := by decide +kernel
theorem d_Bm_digest_73 : decode b_Bm_digest 73 = .ok (.aload_n 0, 1) := by decide +kernel
theorem d_Bm_digest_74 : decode b_Bm_digest 74 = .ok (.getfield 38, 3) := by decide +kernel
theorem d_Bm_digest_77 : decode b_Bm_digest 77 = .ok (.iload_n 2, 1) := by decide +kernel
theorem d_Bm_digest_78 : decode b_Bm_digest 78 = .ok (.aload_n 0, 1) := by decide +kernel
theorem d_Bm_digest_79 : decode b_Bm_digest 79 = .ok (.getfield 49, 3) := by decide +kernel
theorem d_Bm_digest_82 : decode b_Bm_digest 82 = .ok (.iload_n 2, 1) := by decide +kernel
theorem d_Bm_digest_83 : decode b_Bm_digest 83 = .ok (.iaload, 1) := by decide +kernel
theorem d_Bm_digest_84 : decode b_Bm_digest 84 = .ok (.iastore, 1) := by decide +kernel
theorem d_Bm_digest_85 : decode b_Bm_digest 85 = .ok (.iinc 2 1, 3) := by decide +kernel
theorem d_Bm_digest_88 : decode b_Bm_digest 88 = .ok (.goto (-21), 3) := by decide +kernel
theorem d_Bm_digest_91 : decode b_Bm_digest 91 = .ok (.iconst 0, 1) := by decide +kernel
theorem d_Bm_digest_92 : decode b_Bm_digest 92 = .ok (.istore_n 2, 1) := by decide +kernel
theorem d_Bm_digest_93 : decode b_Bm_digest 93 = .ok (.iload_n 2, 1) := by decide +kernel
theorem d_Bm_digest_94 : decode b_Bm_digest 94 = .ok (.aload_n 0, 1) := by decide +kernel
theorem d_Bm_digest_95 : decode b_Bm_digest 95 = .ok (.getfield 135, 3) := by decide +kernel
theorem d_Bm_digest_98 : decode b_Bm_digest 98 = .ok (.if_icmp .ge 14, 3) := by decide +kernel
theorem d_Bm_digest_101 : decode b_Bm_digest 101 = .ok (.aload_n 0, 1) := by decide +kernel
theorem d_Bm_digest_102 : decode b_Bm_digest 102 = .ok (.iload_n 2, 1) := by decide +kernel
theorem d_Bm_digest_103 : decode b_Bm_digest 103 = .ok (.invokevirtual 142, 3) := by decide +kernel
theorem d_Bm_digest_106 : decode b_Bm_digest 106 = .ok (.iinc 2 64, 3) := by decide +kernel
theorem d_Bm_digest_109 : decode b_Bm_digest 109 = .ok (.goto (-16), 3) := by decide +kernel
theorem d_Bm_digest_112 : decode b_Bm_digest 112 = .ok (.iconst 0, 1) := by decide +kernel
theorem d_Bm_digest_113 : decode b_Bm_digest 113 = .ok (.istore_n 2, 1) := by decide +kernel
theorem d_Bm_digest_114 : decode b_Bm_digest 114 = .ok (.iload_n 2, 1) := by decide +kernel
theorem d_Bm_digest_115 : decode b_Bm_digest 115 = .ok (.iconst 4, 1) := by decide +kernel
theorem d_Bm_digest_116 : decode b_Bm_digest 116 = .ok (.if_icmp .ge 43, 3) := by decide +kernel
theorem d_Bm_digest_119 : decode b_Bm_digest 119 = .ok (.aload_n 0, 1) := by decide +kernel
theorem d_Bm_digest_120 : decode b_Bm_digest 120 = .ok (.getfield 16, 3) := by decide +kernel
theorem d_Bm_digest_123 : decode b_Bm_digest 123 = .ok (.iload_n 2, 1) := by decide +kernel
theorem d_Bm_digest_124 : decode b_Bm_digest 124 = .ok (.aload_n 0, 1) := by decide +kernel
theorem d_Bm_digest_125 : decode b_Bm_digest 125 = .ok (.getfield 38, 3) := by decide +kernel
theorem d_Bm_digest_128 : decode b_Bm_digest 128 = .ok (.iconst 2, 1) := by decide +kernel
theorem d_Bm_digest_129 : decode b_Bm_digest 129 = .ok (.iload_n 2, 1) := by decide +kernel
theorem d_Bm_digest_130 : decode b_Bm_digest 130 = .ok (.imul, 1) := by decide +kernel
theorem d_Bm_digest_131 : decode b_Bm_digest 131 = .ok (.iaload, 1) := by decide +kernel
theorem d_Bm_digest_132 : decode b_Bm_digest 132 = .ok (.i2l, 1) := by decide +kernel
theorem d_Bm_digest_133 : decode b_Bm_digest 133 = .ok (.bipush 32, 2) := by decide +kernel
theorem d_Bm_digest_135 : decode b_Bm_digest 135 = .ok (.lshl, 1) := by decide +kernel
theorem d_Bm_digest_136 : decode b_Bm_digest 136 = .ok (.aload_n 0, 1) := by decide +kernel
theorem d_Bm_digest_137 : decode b_Bm_digest 137 = .ok (.getfield 38, 3) := by decide +kernel
theorem d_Bm_digest_140 : decode b_Bm_digest 140 = .ok (.iconst 2, 1) := by decide +kernel
theorem d_Bm_digest_141 : decode b_Bm_digest 141 = .ok (.iload_n 2, 1) := by decide +kernel
theorem d_Bm_digest_142 : decode b_Bm_digest 142 = .ok (.imul, 1) := by decide +kernel
theorem d_Bm_digest_143 : decode b_Bm_digest 143 = .ok (.iconst 1, 1) := by decide +kernel
theorem d_Bm_digest_144 : decode b_Bm_digest 144 = .ok (.iadd, 1) := by decide +kernel
theorem d_Bm_digest_145 : decode b_Bm_digest 145 = .ok (.iaload, 1) := by decide +kernel
theorem d_Bm_digest_146 : decode b_Bm_digest 146 = .ok (.i2l, 1) := by decide +kernel
theorem d_Bm_digest_147 : decode b_Bm_digest 147 = .ok (.ldc2_w 146, 3) := by decide +kernel
theorem d_Bm_digest_150 : decode b_Bm_digest 150 = .ok (.land, 1) := by decide +kernel
theorem d_Bm_digest_151 : decode b_Bm_digest 151 = .ok (.lor, 1) := by decide +kernel
theorem d_Bm_digest_152 : decode b_Bm_digest 152 = .ok (.lastore, 1) := by decide +kernel
theorem d_Bm_digest_153 : decode b_Bm_digest 153 = .ok (.iinc 2 1, 3) := by decide +kernel
theorem d_Bm_digest_156 : decode b_Bm_digest 156 = .ok (.goto (-42), 3) := by decide +kernel
theorem d_Bm_digest_159 : decode b_Bm_digest 159 = .ok (.return_, 1) := by decide +kernel
set_option maxHeartbeats 8000000 in
set_option maxRecDepth 100000 in
theorem c_Bm_digest (l : Launch) (dC : Nat → ClassId) (dI : Nat → Nat → Nat) (cJ cI : ClassId) (sz : Nat) (m0 : Nat) (z0 z1 z2 z3 : Int32) (z4 z5 z6 z7 z8 z9 : Int64) (z10 : Int32) (a0 a1 a2 a3 a4 a5 a6 a7 a8 a9 b0 b1 b2 b3 b4 b5 : Nat) (L : Nat) (bf sc st : Nat → Int32) (tf : Nat → Int64) (msg : List Int64) (hL : L ≤ 14) (hbo : bok bf L msg) : Met l y_Bm_digest w_Bm_digest ({ frames := 2, cells := 0, slots := 0, locals := 53 }) (va_Pc [.ref m0] (fun U => U.heap.size = sz ∧ va_P (dC, dI) classes (mo_ws m0 z0 z1 z2 z3 z4 z5 z6 z7 z8 z9 z10 a0 a1 a2 a3 a4 a5 a6 a7 a8 a9 b0 b1 (8 * L) b2 b3 b4 b5 ++ (iw_ws a7 cI 256 bf ++ (iw_ws a8 cI 64 sc ++ (iw_ws a9 cI 8 st ++ (iw_ws b0 cI 8 kS ++ (iw_ws b1 cI 64 kR ++ (jw_ws a2 cJ 4 tf))))))) U.heap ∧ va_K (dC, dI) classes [(cJ, .long), (cI, .int)] U ∧ va_D (fun _ => True) (mo_ws m0 z0 z1 z2 z3 z4 z5 z6 z7 z8 z9 z10 a0 a1 a2 a3 a4 a5 a6 a7 a8 a9 b0 b1 (8 * L) b2 b3 b4 b5 ++ (iw_ws a7 cI 256 bf ++ (iw_ws a8 cI 64 sc ++ (iw_ws a9 cI 8 st ++ (iw_ws b0 cI 8 kS ++ (iw_ws b1 cI 64 kR ++ (jw_ws a2 cJ 4 tf))))))))) (va_Qv (fun u9 : DU => dgo u9.2.2.1 msg ∧ ∀ j, j < 4 → u9.2.2.2.1 j = lkw msg j) (fun u9 t => va_P (dC, dI) classes (mo_ws m0 z0 z1 z2 z3 z4 z5 z6 z7 z8 z9 z10 a0 a1 a2 a3 a4 a5 a6 a7 a8 a9 b0 b1 u9.2.2.2.2 b2 b3 b4 b5 ++ (iw_ws a7 cI 256 u9.1 ++ (iw_ws a8 cI 64 u9.2.1 ++ (iw_ws a9 cI 8 u9.2.2.1 ++ (iw_ws b0 cI 8 kS ++ (iw_ws b1 cI 64 kR ++ (jw_ws a2 cJ 4 u9.2.2.2.1))))))) t.heap ∧ va_K (dC, dI) classes [(cJ, .long), (cI, .int)] t ∧ va_D (va_A (mo_ws m0 z0 z1 z2 z3 z4 z5 z6 z7 z8 z9 z10 a0 a1 a2 a3 a4 a5 a6 a7 a8 a9 b0 b1 (8 * L) b2 b3 b4 b5 ++ (iw_ws a7 cI 256 bf ++ (iw_ws a8 cI 64 sc ++ (iw_ws a9 cI 8 st ++ (iw_ws b0 cI 8 kS ++ (iw_ws b1 cI 64 kR ++ (jw_ws a2 cJ 4 tf))))))) sz) (mo_ws m0 z0 z1 z2 z3 z4 z5 z6 z7 z8 z9 z10 a0 a1 a2 a3 a4 a5 a6 a7 a8 a9 b0 b1 u9.2.2.2.2 b2 b3 b4 b5 ++ (iw_ws a7 cI 256 u9.1 ++ (iw_ws a8 cI 64 u9.2.1 ++ (iw_ws a9 cI 8 u9.2.2.1 ++ (iw_ws b0 cI 8 kS ++ (iw_ws b1 cI 64 kR ++ (jw_ws a2 cJ 4 u9.2.2.2.1)))))))) (va_A (mo_ws m0 z0 z1 z2 z3 z4 z5 z6 z7 z8 z9 z10 a0 a1 a2 a3 a4 a5 a6 a7 a8 a9 b0 b1 (8 * L) b2 b3 b4 b5 ++ (iw_ws a7 cI 256 bf ++ (iw_ws a8 cI 64 sc ++ (iw_ws a9 cI 8 st ++ (iw_ws b0 cI 8 kS ++ (iw_ws b1 cI 64 kR ++ (jw_ws a2 cJ 4 tf))))))) sz)) 0 0 (va_A (mo_ws m0 z0 z1 z2 z3 z4 z5 z6 z7 z8 z9 z10 a0 a1 a2 a3 a4 a5 a6 a7 a8 a9 b0 b1 (8 * L) b2 b3 b4 b5 ++ (iw_ws a7 cI 256 bf ++ (iw_ws a8 cI 64 sc ++ (iw_ws a9 cI 8 st ++ (iw_ws b0 cI 8 kS ++ (iw_ws b1 cI 64 kR ++ (jw_ws a2 cJ 4 tf))))))) sz) := by
  refine Met.ofW (cc := b_Bm_digest) (maxL := 3) (ret := none) (by decide) rfl ?_
  intro p e s m args below meth c s₁ Bd hml hv
  obtain ⟨rfl, hsz, hP, hK, hD0⟩ := hv
  have hx := Bd.exec
  have hb := Bd.bytes
  have hr := Bd.returns
  have hts := atoms_spec (ws := w_Bm_digest) Bd.pre
  have hown : s.vm.findClass "BallotBoardModel" = some m.cls := findClass_of_methodNamed Bd.named
  have hlocks := Bd.notSynchronized
  subst hsz
  have hD := hD0.self (sz := s.heap.size)
  generalize hAe : va_A (mo_ws m0 z0 z1 z2 z3 z4 z5 z6 z7 z8 z9 z10 a0 a1 a2 a3 a4 a5 a6 a7 a8 a9 b0 b1 (8 * L) b2 b3 b4 b5 ++ (iw_ws a7 cI 256 bf ++ (iw_ws a8 cI 64 sc ++ (iw_ws a9 cI 8 st ++ (iw_ws b0 cI 8 kS ++ (iw_ws b1 cI 64 kR ++ (jw_ws a2 cJ 4 tf))))))) s.heap.size = A at hD ⊢
  have hA : ∀ q : Nat, s.heap.size ≤ q → A q := fun q h => by rw [← hAe]; exact Or.inr h
  have hS : va_S A s.heap s.heap [] := va_S.rf
  have hl := lv_entry ([.ref m0]) (n := 3) (Nat.le_of_ble_eq_true rfl)
  rw [lg_entry_eq]
  generalize (lg_sl ([.ref m0]) ++ List.replicate (3 - (lg_sl ([.ref m0])).length) Slot.unset).toArray = ls at hl ⊢
  have hl : lv_has ls 3 [(0, .ref m0)] := hl
  have hpd := pdl_cases L
  have loop2 : ∀ (j b : Nat), b + j = pdl L / 8 → ∀ (H : Heap) (locs : List Loc), va_S A s.heap H locs → va_P (dC, dI) classes (mo_ws m0 z0 z1 z2 z3 z4 z5 z6 z7 z8 z9 z10 a0 a1 a2 a3 a4 a5 a6 a7 a8 a9 b0 b1 (8 * pdl L) b2 b3 b4 b5 ++ (iw_ws a7 cI 256 (bpw bf L) ++ (iw_ws a8 cI 64 ((hbq (bpw bf L) sc (hc8 st) b).1) ++ (iw_ws a9 cI 8 ((hbq (bpw bf L) sc (hc8 st) b).2) ++ (iw_ws b0 cI 8 kS ++ (iw_ws b1 cI 64 kR ++ (jw_ws a2 cJ 4 tf))))))) H → va_D A (mo_ws m0 z0 z1 z2 z3 z4 z5 z6 z7 z8 z9 z10 a0 a1 a2 a3 a4 a5 a6 a7 a8 a9 b0 b1 (8 * pdl L) b2 b3 b4 b5 ++ (iw_ws a7 cI 256 (bpw bf L) ++ (iw_ws a8 cI 64 ((hbq (bpw bf L) sc (hc8 st) b).1) ++ (iw_ws a9 cI 8 ((hbq (bpw bf L) sc (hc8 st) b).2) ++ (iw_ws b0 cI 8 kS ++ (iw_ws b1 cI 64 kR ++ (jw_ws a2 cJ 4 tf))))))) → ∀ (ls : Array Slot), lv_has ls 3 [(0, .ref m0), (1, .int (nI (8 * (8 * L)))), (2, .int (nI (64 * b)))] → W p l e ({ frames := 2, cells := 0, slots := 0, locals := 53 } : Room) s m ([.ref m0] : List Value).toArray below meth c H locs 0 0 (MQ below (va_Qv (fun u9 : DU => dgo u9.2.2.1 msg ∧ ∀ j, j < 4 → u9.2.2.2.1 j = lkw msg j) (fun u9 t => va_P (dC, dI) classes (mo_ws m0 z0 z1 z2 z3 z4 z5 z6 z7 z8 z9 z10 a0 a1 a2 a3 a4 a5 a6 a7 a8 a9 b0 b1 u9.2.2.2.2 b2 b3 b4 b5 ++ (iw_ws a7 cI 256 u9.1 ++ (iw_ws a8 cI 64 u9.2.1 ++ (iw_ws a9 cI 8 u9.2.2.1 ++ (iw_ws b0 cI 8 kS ++ (iw_ws b1 cI 64 kR ++ (jw_ws a2 cJ 4 u9.2.2.2.1))))))) t.heap ∧ va_K (dC, dI) classes [(cJ, .long), (cI, .int)] t ∧ va_D A (mo_ws m0 z0 z1 z2 z3 z4 z5 z6 z7 z8 z9 z10 a0 a1 a2 a3 a4 a5 a6 a7 a8 a9 b0 b1 u9.2.2.2.2 b2 b3 b4 b5 ++ (iw_ws a7 cI 256 u9.1 ++ (iw_ws a8 cI 64 u9.2.1 ++ (iw_ws a9 cI 8 u9.2.2.1 ++ (iw_ws b0 cI 8 kS ++ (iw_ws b1 cI 64 kR ++ (jw_ws a2 cJ 4 u9.2.2.2.1)))))))) A) ([.ref m0] : List Value).toArray s 0 0 A) (F0 m 93 ls []) := by
    intro j
    induction j using Nat.strongRecOn with
    | ind j ih =>
      intro b hbj H locs hS hP hD ls hl
      refine lv_iload_n hx hb d_Bm_digest_93 rfl (lv_at hl 2 rfl) ?_
      refine lv_aload_n hx hb d_Bm_digest_94 rfl (lv_at hl 0 rfl) ?_
      refine va_get (D := (dC, dI)) (ci := 8) (v := .int (nI (8 * pdl L))) (C := "BallotBoardModel") (T := F_Bm) (N := 28) hx hb hts (fun w9 h9 => List.mem_cons_of_mem _ (i_Bm w9 h9)) hown hK hP 0 rfl rfl 23 (by decide) (hts _ (List.mem_cons_of_mem _ gk_942)) (fun _ h9 => h9) rfl d_Bm_digest_95 ?_
      refine lv_icmp_ge (tgt := 112) hx hb d_Bm_digest_98 (by decide) (fun c_1 => ?_) (fun c_1 => ?_)
      · -- taken
        have hb8 : b = pdl L / 8 := by
          have := (nI_leI (by omega) (by omega)).mp c_1
          omega
        subst hb8
        have hdg : dgo (hbq (bpw bf L) sc (hc8 st) (pdl L / 8)).2 msg := hbq_dg hL hbo sc _ (hc8_ok st)
        refine lv_iconst (v := 0) hx hb d_Bm_digest_112 (by decide) ?_
        refine lv_istore_n (lv' := [(2, .int 0), (0, .ref m0), (1, .int (nI (8 * (8 * L))))]) hx hb d_Bm_digest_113 rfl hl (by decide) rfl (fun ls hl => ?_)
        refine lv_iload_n hx hb d_Bm_digest_114 rfl (lv_at hl 0 rfl) ?_
        refine lv_iconst (v := 4) hx hb d_Bm_digest_115 (by decide) ?_
        refine lv_icmp_ge (tgt := 159) hx hb d_Bm_digest_116 (by decide) (fun c_2 => ?_) (fun c_2 => ?_)
        · -- taken
          exact absurd c_2 (by decide)
        · -- not taken
          refine lv_aload_n hx hb d_Bm_digest_119 rfl (lv_at hl 1 rfl) ?_
          refine va_get (D := (dC, dI)) (ci := 8) (v := .ref a2) (C := "BallotBoardModel") (T := F_Bm) (N := 28) hx hb hts (fun w9 h9 => List.mem_cons_of_mem _ (i_Bm w9 h9)) hown hK hP 0 rfl rfl 13 (by decide) (hts _ (List.mem_cons_of_mem _ gk_932)) (fun _ h9 => h9) rfl d_Bm_digest_120 ?_
          refine lv_iload_n hx hb d_Bm_digest_123 rfl (lv_at hl 0 rfl) ?_
          refine lv_aload_n hx hb d_Bm_digest_124 rfl (lv_at hl 1 rfl) ?_
          refine va_get (D := (dC, dI)) (ci := 8) (v := .ref a9) (C := "BallotBoardModel") (T := F_Bm) (N := 28) hx hb hts (fun w9 h9 => List.mem_cons_of_mem _ (i_Bm w9 h9)) hown hK hP 0 rfl rfl 20 (by decide) (hts _ (List.mem_cons_of_mem _ gk_939)) (fun _ h9 => h9) rfl d_Bm_digest_125 ?_
          refine lv_iconst (v := 2) hx hb d_Bm_digest_128 (by decide) ?_
          refine lv_iload_n hx hb d_Bm_digest_129 rfl (lv_at hl 0 rfl) ?_
          refine lv_imul hx hb d_Bm_digest_130 ?_
          refine lv_topi (fun v_3 ev_3 => ?_)
          obtain rfl : v_3 = 0 := ev_3.trans (by decide)
          refine va_iald hx hb hK hP 3 1 rfl rfl (vp_lit rfl) d_Bm_digest_131 ?_
          rw [show ((hbq (bpw bf L) sc (hc8 st) (pdl L / 8)).2 (0 : Int32).toNatClampNeg : Int32) = ((hbq (bpw bf L) sc (hc8 st) (pdl L / 8)).2) 0 from rfl]
          refine lv_i2l (v := (((hbq (bpw bf L) sc (hc8 st) (pdl L / 8)).2) 0 : Int32).toInt64) hx hb d_Bm_digest_132 rfl ?_
          refine lv_bipush (v := 32) hx hb d_Bm_digest_133 (by decide) ?_
          refine lv_lshl (v := ((((hbq (bpw bf L) sc (hc8 st) (pdl L / 8)).2) 0 : Int32).toInt64 : Int64) <<< ((32 : Int32).toInt64 &&& 63)) hx hb d_Bm_digest_135 rfl ?_
          refine lv_aload_n hx hb d_Bm_digest_136 rfl (lv_at hl 1 rfl) ?_
          refine va_get (D := (dC, dI)) (ci := 8) (v := .ref a9) (C := "BallotBoardModel") (T := F_Bm) (N := 28) hx hb hts (fun w9 h9 => List.mem_cons_of_mem _ (i_Bm w9 h9)) hown hK hP 0 rfl rfl 20 (by decide) (hts _ (List.mem_cons_of_mem _ gk_939)) (fun _ h9 => h9) rfl d_Bm_digest_137 ?_
          refine lv_iconst (v := 2) hx hb d_Bm_digest_140 (by decide) ?_
          refine lv_iload_n hx hb d_Bm_digest_141 rfl (lv_at hl 0 rfl) ?_
          refine lv_imul hx hb d_Bm_digest_142 ?_
          refine lv_topi (fun v_4 ev_4 => ?_)
          obtain rfl : v_4 = 0 := ev_4.trans (by decide)
          refine lv_iconst (v := 1) hx hb d_Bm_digest_143 (by decide) ?_
          refine lv_iadd hx hb d_Bm_digest_144 ?_
          refine lv_topi (fun v_5 ev_5 => ?_)
          obtain rfl : v_5 = 1 := ev_5.trans (by decide)
          refine va_iald hx hb hK hP 3 1 rfl rfl (vp_lit rfl) d_Bm_digest_145 ?_
          rw [show ((hbq (bpw bf L) sc (hc8 st) (pdl L / 8)).2 (1 : Int32).toNatClampNeg : Int32) = ((hbq (bpw bf L) sc (hc8 st) (pdl L / 8)).2) 1 from rfl]
          refine lv_i2l (v := (((hbq (bpw bf L) sc (hc8 st) (pdl L / 8)).2) 1 : Int32).toInt64) hx hb d_Bm_digest_146 rfl ?_
          refine lv_ldc2 (v := 4294967295) hx hb hown (hts _ (List.mem_cons_of_mem _ gk_1085)) d_Bm_digest_147 ?_
          refine lv_land hx hb d_Bm_digest_150 ?_
          refine lv_lor hx hb d_Bm_digest_151 ?_
          rw [show ((((((hbq (bpw bf L) sc (hc8 st) (pdl L / 8)).2) 0 : Int32).toInt64 : Int64) <<< ((32 : Int32).toInt64 &&& 63)) ||| (((((hbq (bpw bf L) sc (hc8 st) (pdl L / 8)).2) 1 : Int32).toInt64) &&& 4294967295) : Int64) = (wd (((hbq (bpw bf L) sc (hc8 st) (pdl L / 8)).2) 0) (((hbq (bpw bf L) sc (hc8 st) (pdl L / 8)).2) 1)) from rfl]
          refine va_last hx hb hK hP hD hS 6 0 rfl rfl (vp_lit rfl) d_Bm_digest_152 (fun H locs hP hD hS => ?_)
          have hfe : vp_updL tf (0 : Int32).toNatClampNeg (wd (((hbq (bpw bf L) sc (hc8 st) (pdl L / 8)).2) 0) (((hbq (bpw bf L) sc (hc8 st) (pdl L / 8)).2) 1)) = vp_updL tf 0 (wd (((hbq (bpw bf L) sc (hc8 st) (pdl L / 8)).2) 0) (((hbq (bpw bf L) sc (hc8 st) (pdl L / 8)).2) 1)) := rfl
          have hP : va_P (dC, dI) classes [(m0, .inr (8, [.int z0, .int z1, .int z2, .int z3, .long z4, .long z5, .long z6, .long z7, .long z8, .long z9, .int z10, .ref a0, .ref a1, .ref a2, .ref a3, .ref a4, .ref a5, .ref a6, .ref a7, .ref a8, .ref a9, .ref b0, .ref b1, .int (nI (8 * pdl L)), .ref b2, .ref b3, .ref b4, .ref b5])), (a7, .inl (cI, 256, .inl (bpw bf L))), (a8, .inl (cI, 64, .inl ((hbq (bpw bf L) sc (hc8 st) (pdl L / 8)).1))), (a9, .inl (cI, 8, .inl ((hbq (bpw bf L) sc (hc8 st) (pdl L / 8)).2))), (b0, .inl (cI, 8, .inl kS)), (b1, .inl (cI, 64, .inl kR)), (a2, .inl (cJ, 4, .inr (.inl (vp_updL tf (0 : Int32).toNatClampNeg (wd (((hbq (bpw bf L) sc (hc8 st) (pdl L / 8)).2) 0) (((hbq (bpw bf L) sc (hc8 st) (pdl L / 8)).2) 1))))))] H := hP
          have hD : va_D A [(m0, .inr (8, [.int z0, .int z1, .int z2, .int z3, .long z4, .long z5, .long z6, .long z7, .long z8, .long z9, .int z10, .ref a0, .ref a1, .ref a2, .ref a3, .ref a4, .ref a5, .ref a6, .ref a7, .ref a8, .ref a9, .ref b0, .ref b1, .int (nI (8 * pdl L)), .ref b2, .ref b3, .ref b4, .ref b5])), (a7, .inl (cI, 256, .inl (bpw bf L))), (a8, .inl (cI, 64, .inl ((hbq (bpw bf L) sc (hc8 st) (pdl L / 8)).1))), (a9, .inl (cI, 8, .inl ((hbq (bpw bf L) sc (hc8 st) (pdl L / 8)).2))), (b0, .inl (cI, 8, .inl kS)), (b1, .inl (cI, 64, .inl kR)), (a2, .inl (cJ, 4, .inr (.inl (vp_updL tf (0 : Int32).toNatClampNeg (wd (((hbq (bpw bf L) sc (hc8 st) (pdl L / 8)).2) 0) (((hbq (bpw bf L) sc (hc8 st) (pdl L / 8)).2) 1))))))] := hD
          rw [hfe] at hP hD
          obtain ⟨i_6, ei_6⟩ : ∃ y : Int32, y = 0 + 1 := ⟨_, rfl⟩
          refine lv_iinc (v := i_6) (lv' := [(2, .int i_6), (0, .ref m0), (1, .int (nI (8 * (8 * L))))]) hx hb d_Bm_digest_153 hl (k := 0) rfl (by rw [ei_6]; rfl) (by decide) rfl (fun ls hl => ?_)
          obtain rfl : i_6 = 1 := by rw [ei_6]; exact by decide
          refine lv_goto (tgt := 114) hx hb d_Bm_digest_156 (by decide) ?_
          refine lv_iload_n hx hb d_Bm_digest_114 rfl (lv_at hl 0 rfl) ?_
          refine lv_iconst (v := 4) hx hb d_Bm_digest_115 (by decide) ?_
          refine lv_icmp_ge (tgt := 159) hx hb d_Bm_digest_116 (by decide) (fun c_7 => ?_) (fun c_7 => ?_)
          · -- taken
            exact absurd c_7 (by decide)
          · -- not taken
            refine lv_aload_n hx hb d_Bm_digest_119 rfl (lv_at hl 1 rfl) ?_
            refine va_get (D := (dC, dI)) (ci := 8) (v := .ref a2) (C := "BallotBoardModel") (T := F_Bm) (N := 28) hx hb hts (fun w9 h9 => List.mem_cons_of_mem _ (i_Bm w9 h9)) hown hK hP 0 rfl rfl 13 (by decide) (hts _ (List.mem_cons_of_mem _ gk_932)) (fun _ h9 => h9) rfl d_Bm_digest_120 ?_
            refine lv_iload_n hx hb d_Bm_digest_123 rfl (lv_at hl 0 rfl) ?_
            refine lv_aload_n hx hb d_Bm_digest_124 rfl (lv_at hl 1 rfl) ?_
            refine va_get (D := (dC, dI)) (ci := 8) (v := .ref a9) (C := "BallotBoardModel") (T := F_Bm) (N := 28) hx hb hts (fun w9 h9 => List.mem_cons_of_mem _ (i_Bm w9 h9)) hown hK hP 0 rfl rfl 20 (by decide) (hts _ (List.mem_cons_of_mem _ gk_939)) (fun _ h9 => h9) rfl d_Bm_digest_125 ?_
            refine lv_iconst (v := 2) hx hb d_Bm_digest_128 (by decide) ?_
            refine lv_iload_n hx hb d_Bm_digest_129 rfl (lv_at hl 0 rfl) ?_
            refine lv_imul hx hb d_Bm_digest_130 ?_
            refine lv_topi (fun v_8 ev_8 => ?_)
            obtain rfl : v_8 = 2 := ev_8.trans (by decide)
            refine va_iald hx hb hK hP 3 1 rfl rfl (vp_lit rfl) d_Bm_digest_131 ?_
            rw [show ((hbq (bpw bf L) sc (hc8 st) (pdl L / 8)).2 (2 : Int32).toNatClampNeg : Int32) = ((hbq (bpw bf L) sc (hc8 st) (pdl L / 8)).2) 2 from rfl]
            refine lv_i2l (v := (((hbq (bpw bf L) sc (hc8 st) (pdl L / 8)).2) 2 : Int32).toInt64) hx hb d_Bm_digest_132 rfl ?_
            refine lv_bipush (v := 32) hx hb d_Bm_digest_133 (by decide) ?_
            refine lv_lshl (v := ((((hbq (bpw bf L) sc (hc8 st) (pdl L / 8)).2) 2 : Int32).toInt64 : Int64) <<< ((32 : Int32).toInt64 &&& 63)) hx hb d_Bm_digest_135 rfl ?_
            refine lv_aload_n hx hb d_Bm_digest_136 rfl (lv_at hl 1 rfl) ?_
            refine va_get (D := (dC, dI)) (ci := 8) (v := .ref a9) (C := "BallotBoardModel") (T := F_Bm) (N := 28) hx hb hts (fun w9 h9 => List.mem_cons_of_mem _ (i_Bm w9 h9)) hown hK hP 0 rfl rfl 20 (by decide) (hts _ (List.mem_cons_of_mem _ gk_939)) (fun _ h9 => h9) rfl d_Bm_digest_137 ?_
            refine lv_iconst (v := 2) hx hb d_Bm_digest_140 (by decide) ?_
            refine lv_iload_n hx hb d_Bm_digest_141 rfl (lv_at hl 0 rfl) ?_
            refine lv_imul hx hb d_Bm_digest_142 ?_
            refine lv_topi (fun v_9 ev_9 => ?_)
            obtain rfl : v_9 = 2 := ev_9.trans (by decide)
            refine lv_iconst (v := 1) hx hb d_Bm_digest_143 (by decide) ?_
            refine lv_iadd hx hb d_Bm_digest_144 ?_
            refine lv_topi (fun v_10 ev_10 => ?_)
            obtain rfl : v_10 = 3 := ev_10.trans (by decide)
            refine va_iald hx hb hK hP 3 1 rfl rfl (vp_lit rfl) d_Bm_digest_145 ?_
            rw [show ((hbq (bpw bf L) sc (hc8 st) (pdl L / 8)).2 (3 : Int32).toNatClampNeg : Int32) = ((hbq (bpw bf L) sc (hc8 st) (pdl L / 8)).2) 3 from rfl]
            refine lv_i2l (v := (((hbq (bpw bf L) sc (hc8 st) (pdl L / 8)).2) 3 : Int32).toInt64) hx hb d_Bm_digest_146 rfl ?_
            refine lv_ldc2 (v := 4294967295) hx hb hown (hts _ (List.mem_cons_of_mem _ gk_1085)) d_Bm_digest_147 ?_
            refine lv_land hx hb d_Bm_digest_150 ?_
            refine lv_lor hx hb d_Bm_digest_151 ?_
            rw [show ((((((hbq (bpw bf L) sc (hc8 st) (pdl L / 8)).2) 2 : Int32).toInt64 : Int64) <<< ((32 : Int32).toInt64 &&& 63)) ||| (((((hbq (bpw bf L) sc (hc8 st) (pdl L / 8)).2) 3 : Int32).toInt64) &&& 4294967295) : Int64) = (wd (((hbq (bpw bf L) sc (hc8 st) (pdl L / 8)).2) 2) (((hbq (bpw bf L) sc (hc8 st) (pdl L / 8)).2) 3)) from rfl]
            refine va_last hx hb hK hP hD hS 6 0 rfl rfl (vp_lit rfl) d_Bm_digest_152 (fun H locs hP hD hS => ?_)
            have hfe : vp_updL (vp_updL tf 0 (wd (((hbq (bpw bf L) sc (hc8 st) (pdl L / 8)).2) 0) (((hbq (bpw bf L) sc (hc8 st) (pdl L / 8)).2) 1))) (1 : Int32).toNatClampNeg (wd (((hbq (bpw bf L) sc (hc8 st) (pdl L / 8)).2) 2) (((hbq (bpw bf L) sc (hc8 st) (pdl L / 8)).2) 3)) = vp_updL (vp_updL tf 0 (wd (((hbq (bpw bf L) sc (hc8 st) (pdl L / 8)).2) 0) (((hbq (bpw bf L) sc (hc8 st) (pdl L / 8)).2) 1))) 1 (wd (((hbq (bpw bf L) sc (hc8 st) (pdl L / 8)).2) 2) (((hbq (bpw bf L) sc (hc8 st) (pdl L / 8)).2) 3)) := rfl
            have hP : va_P (dC, dI) classes [(m0, .inr (8, [.int z0, .int z1, .int z2, .int z3, .long z4, .long z5, .long z6, .long z7, .long z8, .long z9, .int z10, .ref a0, .ref a1, .ref a2, .ref a3, .ref a4, .ref a5, .ref a6, .ref a7, .ref a8, .ref a9, .ref b0, .ref b1, .int (nI (8 * pdl L)), .ref b2, .ref b3, .ref b4, .ref b5])), (a7, .inl (cI, 256, .inl (bpw bf L))), (a8, .inl (cI, 64, .inl ((hbq (bpw bf L) sc (hc8 st) (pdl L / 8)).1))), (a9, .inl (cI, 8, .inl ((hbq (bpw bf L) sc (hc8 st) (pdl L / 8)).2))), (b0, .inl (cI, 8, .inl kS)), (b1, .inl (cI, 64, .inl kR)), (a2, .inl (cJ, 4, .inr (.inl (vp_updL (vp_updL tf 0 (wd (((hbq (bpw bf L) sc (hc8 st) (pdl L / 8)).2) 0) (((hbq (bpw bf L) sc (hc8 st) (pdl L / 8)).2) 1))) (1 : Int32).toNatClampNeg (wd (((hbq (bpw bf L) sc (hc8 st) (pdl L / 8)).2) 2) (((hbq (bpw bf L) sc (hc8 st) (pdl L / 8)).2) 3))))))] H := hP
            have hD : va_D A [(m0, .inr (8, [.int z0, .int z1, .int z2, .int z3, .long z4, .long z5, .long z6, .long z7, .long z8, .long z9, .int z10, .ref a0, .ref a1, .ref a2, .ref a3, .ref a4, .ref a5, .ref a6, .ref a7, .ref a8, .ref a9, .ref b0, .ref b1, .int (nI (8 * pdl L)), .ref b2, .ref b3, .ref b4, .ref b5])), (a7, .inl (cI, 256, .inl (bpw bf L))), (a8, .inl (cI, 64, .inl ((hbq (bpw bf L) sc (hc8 st) (pdl L / 8)).1))), (a9, .inl (cI, 8, .inl ((hbq (bpw bf L) sc (hc8 st) (pdl L / 8)).2))), (b0, .inl (cI, 8, .inl kS)), (b1, .inl (cI, 64, .inl kR)), (a2, .inl (cJ, 4, .inr (.inl (vp_updL (vp_updL tf 0 (wd (((hbq (bpw bf L) sc (hc8 st) (pdl L / 8)).2) 0) (((hbq (bpw bf L) sc (hc8 st) (pdl L / 8)).2) 1))) (1 : Int32).toNatClampNeg (wd (((hbq (bpw bf L) sc (hc8 st) (pdl L / 8)).2) 2) (((hbq (bpw bf L) sc (hc8 st) (pdl L / 8)).2) 3))))))] := hD
            rw [hfe] at hP hD
            obtain ⟨i_11, ei_11⟩ : ∃ y : Int32, y = 1 + 1 := ⟨_, rfl⟩
            refine lv_iinc (v := i_11) (lv' := [(2, .int i_11), (0, .ref m0), (1, .int (nI (8 * (8 * L))))]) hx hb d_Bm_digest_153 hl (k := 0) rfl (by rw [ei_11]; rfl) (by decide) rfl (fun ls hl => ?_)
            obtain rfl : i_11 = 2 := by rw [ei_11]; exact by decide
            refine lv_goto (tgt := 114) hx hb d_Bm_digest_156 (by decide) ?_
            refine lv_iload_n hx hb d_Bm_digest_114 rfl (lv_at hl 0 rfl) ?_
            refine lv_iconst (v := 4) hx hb d_Bm_digest_115 (by decide) ?_
            refine lv_icmp_ge (tgt := 159) hx hb d_Bm_digest_116 (by decide) (fun c_12 => ?_) (fun c_12 => ?_)
            · -- taken
              exact absurd c_12 (by decide)
            · -- not taken
              refine lv_aload_n hx hb d_Bm_digest_119 rfl (lv_at hl 1 rfl) ?_
              refine va_get (D := (dC, dI)) (ci := 8) (v := .ref a2) (C := "BallotBoardModel") (T := F_Bm) (N := 28) hx hb hts (fun w9 h9 => List.mem_cons_of_mem _ (i_Bm w9 h9)) hown hK hP 0 rfl rfl 13 (by decide) (hts _ (List.mem_cons_of_mem _ gk_932)) (fun _ h9 => h9) rfl d_Bm_digest_120 ?_
              refine lv_iload_n hx hb d_Bm_digest_123 rfl (lv_at hl 0 rfl) ?_
              refine lv_aload_n hx hb d_Bm_digest_124 rfl (lv_at hl 1 rfl) ?_
              refine va_get (D := (dC, dI)) (ci := 8) (v := .ref a9) (C := "BallotBoardModel") (T := F_Bm) (N := 28) hx hb hts (fun w9 h9 => List.mem_cons_of_mem _ (i_Bm w9 h9)) hown hK hP 0 rfl rfl 20 (by decide) (hts _ (List.mem_cons_of_mem _ gk_939)) (fun _ h9 => h9) rfl d_Bm_digest_125 ?_
              refine lv_iconst (v := 2) hx hb d_Bm_digest_128 (by decide) ?_
              refine lv_iload_n hx hb d_Bm_digest_129 rfl (lv_at hl 0 rfl) ?_
              refine lv_imul hx hb d_Bm_digest_130 ?_
              refine lv_topi (fun v_13 ev_13 => ?_)
              obtain rfl : v_13 = 4 := ev_13.trans (by decide)
              refine va_iald hx hb hK hP 3 1 rfl rfl (vp_lit rfl) d_Bm_digest_131 ?_
              rw [show ((hbq (bpw bf L) sc (hc8 st) (pdl L / 8)).2 (4 : Int32).toNatClampNeg : Int32) = ((hbq (bpw bf L) sc (hc8 st) (pdl L / 8)).2) 4 from rfl]
              refine lv_i2l (v := (((hbq (bpw bf L) sc (hc8 st) (pdl L / 8)).2) 4 : Int32).toInt64) hx hb d_Bm_digest_132 rfl ?_
              refine lv_bipush (v := 32) hx hb d_Bm_digest_133 (by decide) ?_
              refine lv_lshl (v := ((((hbq (bpw bf L) sc (hc8 st) (pdl L / 8)).2) 4 : Int32).toInt64 : Int64) <<< ((32 : Int32).toInt64 &&& 63)) hx hb d_Bm_digest_135 rfl ?_
              refine lv_aload_n hx hb d_Bm_digest_136 rfl (lv_at hl 1 rfl) ?_
              refine va_get (D := (dC, dI)) (ci := 8) (v := .ref a9) (C := "BallotBoardModel") (T := F_Bm) (N := 28) hx hb hts (fun w9 h9 => List.mem_cons_of_mem _ (i_Bm w9 h9)) hown hK hP 0 rfl rfl 20 (by decide) (hts _ (List.mem_cons_of_mem _ gk_939)) (fun _ h9 => h9) rfl d_Bm_digest_137 ?_
              refine lv_iconst (v := 2) hx hb d_Bm_digest_140 (by decide) ?_
              refine lv_iload_n hx hb d_Bm_digest_141 rfl (lv_at hl 0 rfl) ?_
              refine lv_imul hx hb d_Bm_digest_142 ?_
              refine lv_topi (fun v_14 ev_14 => ?_)
              obtain rfl : v_14 = 4 := ev_14.trans (by decide)
              refine lv_iconst (v := 1) hx hb d_Bm_digest_143 (by decide) ?_
              refine lv_iadd hx hb d_Bm_digest_144 ?_
              refine lv_topi (fun v_15 ev_15 => ?_)
              obtain rfl : v_15 = 5 := ev_15.trans (by decide)
              refine va_iald hx hb hK hP 3 1 rfl rfl (vp_lit rfl) d_Bm_digest_145 ?_
              rw [show ((hbq (bpw bf L) sc (hc8 st) (pdl L / 8)).2 (5 : Int32).toNatClampNeg : Int32) = ((hbq (bpw bf L) sc (hc8 st) (pdl L / 8)).2) 5 from rfl]
              refine lv_i2l (v := (((hbq (bpw bf L) sc (hc8 st) (pdl L / 8)).2) 5 : Int32).toInt64) hx hb d_Bm_digest_146 rfl ?_
              refine lv_ldc2 (v := 4294967295) hx hb hown (hts _ (List.mem_cons_of_mem _ gk_1085)) d_Bm_digest_147 ?_
              refine lv_land hx hb d_Bm_digest_150 ?_
              refine lv_lor hx hb d_Bm_digest_151 ?_
              rw [show ((((((hbq (bpw bf L) sc (hc8 st) (pdl L / 8)).2) 4 : Int32).toInt64 : Int64) <<< ((32 : Int32).toInt64 &&& 63)) ||| (((((hbq (bpw bf L) sc (hc8 st) (pdl L / 8)).2) 5 : Int32).toInt64) &&& 4294967295) : Int64) = (wd (((hbq (bpw bf L) sc (hc8 st) (pdl L / 8)).2) 4) (((hbq (bpw bf L) sc (hc8 st) (pdl L / 8)).2) 5)) from rfl]
              refine va_last hx hb hK hP hD hS 6 0 rfl rfl (vp_lit rfl) d_Bm_digest_152 (fun H locs hP hD hS => ?_)
              have hfe : vp_updL (vp_updL (vp_updL tf 0 (wd (((hbq (bpw bf L) sc (hc8 st) (pdl L / 8)).2) 0) (((hbq (bpw bf L) sc (hc8 st) (pdl L / 8)).2) 1))) 1 (wd (((hbq (bpw bf L) sc (hc8 st) (pdl L / 8)).2) 2) (((hbq (bpw bf L) sc (hc8 st) (pdl L / 8)).2) 3))) (2 : Int32).toNatClampNeg (wd (((hbq (bpw bf L) sc (hc8 st) (pdl L / 8)).2) 4) (((hbq (bpw bf L) sc (hc8 st) (pdl L / 8)).2) 5)) = vp_updL (vp_updL (vp_updL tf 0 (wd (((hbq (bpw bf L) sc (hc8 st) (pdl L / 8)).2) 0) (((hbq (bpw bf L) sc (hc8 st) (pdl L / 8)).2) 1))) 1 (wd (((hbq (bpw bf L) sc (hc8 st) (pdl L / 8)).2) 2) (((hbq (bpw bf L) sc (hc8 st) (pdl L / 8)).2) 3))) 2 (wd (((hbq (bpw bf L) sc (hc8 st) (pdl L / 8)).2) 4) (((hbq (bpw bf L) sc (hc8 st) (pdl L / 8)).2) 5)) := rfl
              have hP : va_P (dC, dI) classes [(m0, .inr (8, [.int z0, .int z1, .int z2, .int z3, .long z4, .long z5, .long z6, .long z7, .long z8, .long z9, .int z10, .ref a0, .ref a1, .ref a2, .ref a3, .ref a4, .ref a5, .ref a6, .ref a7, .ref a8, .ref a9, .ref b0, .ref b1, .int (nI (8 * pdl L)), .ref b2, .ref b3, .ref b4, .ref b5])), (a7, .inl (cI, 256, .inl (bpw bf L))), (a8, .inl (cI, 64, .inl ((hbq (bpw bf L) sc (hc8 st) (pdl L / 8)).1))), (a9, .inl (cI, 8, .inl ((hbq (bpw bf L) sc (hc8 st) (pdl L / 8)).2))), (b0, .inl (cI, 8, .inl kS)), (b1, .inl (cI, 64, .inl kR)), (a2, .inl (cJ, 4, .inr (.inl (vp_updL (vp_updL (vp_updL tf 0 (wd (((hbq (bpw bf L) sc (hc8 st) (pdl L / 8)).2) 0) (((hbq (bpw bf L) sc (hc8 st) (pdl L / 8)).2) 1))) 1 (wd (((hbq (bpw bf L) sc (hc8 st) (pdl L / 8)).2) 2) (((hbq (bpw bf L) sc (hc8 st) (pdl L / 8)).2) 3))) (2 : Int32).toNatClampNeg (wd (((hbq (bpw bf L) sc (hc8 st) (pdl L / 8)).2) 4) (((hbq (bpw bf L) sc (hc8 st) (pdl L / 8)).2) 5))))))] H := hP
              have hD : va_D A [(m0, .inr (8, [.int z0, .int z1, .int z2, .int z3, .long z4, .long z5, .long z6, .long z7, .long z8, .long z9, .int z10, .ref a0, .ref a1, .ref a2, .ref a3, .ref a4, .ref a5, .ref a6, .ref a7, .ref a8, .ref a9, .ref b0, .ref b1, .int (nI (8 * pdl L)), .ref b2, .ref b3, .ref b4, .ref b5])), (a7, .inl (cI, 256, .inl (bpw bf L))), (a8, .inl (cI, 64, .inl ((hbq (bpw bf L) sc (hc8 st) (pdl L / 8)).1))), (a9, .inl (cI, 8, .inl ((hbq (bpw bf L) sc (hc8 st) (pdl L / 8)).2))), (b0, .inl (cI, 8, .inl kS)), (b1, .inl (cI, 64, .inl kR)), (a2, .inl (cJ, 4, .inr (.inl (vp_updL (vp_updL (vp_updL tf 0 (wd (((hbq (bpw bf L) sc (hc8 st) (pdl L / 8)).2) 0) (((hbq (bpw bf L) sc (hc8 st) (pdl L / 8)).2) 1))) 1 (wd (((hbq (bpw bf L) sc (hc8 st) (pdl L / 8)).2) 2) (((hbq (bpw bf L) sc (hc8 st) (pdl L / 8)).2) 3))) (2 : Int32).toNatClampNeg (wd (((hbq (bpw bf L) sc (hc8 st) (pdl L / 8)).2) 4) (((hbq (bpw bf L) sc (hc8 st) (pdl L / 8)).2) 5))))))] := hD
              rw [hfe] at hP hD
              obtain ⟨i_16, ei_16⟩ : ∃ y : Int32, y = 2 + 1 := ⟨_, rfl⟩
              refine lv_iinc (v := i_16) (lv' := [(2, .int i_16), (0, .ref m0), (1, .int (nI (8 * (8 * L))))]) hx hb d_Bm_digest_153 hl (k := 0) rfl (by rw [ei_16]; rfl) (by decide) rfl (fun ls hl => ?_)
              obtain rfl : i_16 = 3 := by rw [ei_16]; exact by decide
              refine lv_goto (tgt := 114) hx hb d_Bm_digest_156 (by decide) ?_
              refine lv_iload_n hx hb d_Bm_digest_114 rfl (lv_at hl 0 rfl) ?_
              refine lv_iconst (v := 4) hx hb d_Bm_digest_115 (by decide) ?_
              refine lv_icmp_ge (tgt := 159) hx hb d_Bm_digest_116 (by decide) (fun c_17 => ?_) (fun c_17 => ?_)
              · -- taken
                exact absurd c_17 (by decide)
              · -- not taken
                refine lv_aload_n hx hb d_Bm_digest_119 rfl (lv_at hl 1 rfl) ?_
                refine va_get (D := (dC, dI)) (ci := 8) (v := .ref a2) (C := "BallotBoardModel") (T := F_Bm) (N := 28) hx hb hts (fun w9 h9 => List.mem_cons_of_mem _ (i_Bm w9 h9)) hown hK hP 0 rfl rfl 13 (by decide) (hts _ (List.mem_cons_of_mem _ gk_932)) (fun _ h9 => h9) rfl d_Bm_digest_120 ?_
                refine lv_iload_n hx hb d_Bm_digest_123 rfl (lv_at hl 0 rfl) ?_
                refine lv_aload_n hx hb d_Bm_digest_124 rfl (lv_at hl 1 rfl) ?_
                refine va_get (D := (dC, dI)) (ci := 8) (v := .ref a9) (C := "BallotBoardModel") (T := F_Bm) (N := 28) hx hb hts (fun w9 h9 => List.mem_cons_of_mem _ (i_Bm w9 h9)) hown hK hP 0 rfl rfl 20 (by decide) (hts _ (List.mem_cons_of_mem _ gk_939)) (fun _ h9 => h9) rfl d_Bm_digest_125 ?_
                refine lv_iconst (v := 2) hx hb d_Bm_digest_128 (by decide) ?_
                refine lv_iload_n hx hb d_Bm_digest_129 rfl (lv_at hl 0 rfl) ?_
                refine lv_imul hx hb d_Bm_digest_130 ?_
                refine lv_topi (fun v_18 ev_18 => ?_)
                obtain rfl : v_18 = 6 := ev_18.trans (by decide)
                refine va_iald hx hb hK hP 3 1 rfl rfl (vp_lit rfl) d_Bm_digest_131 ?_
                rw [show ((hbq (bpw bf L) sc (hc8 st) (pdl L / 8)).2 (6 : Int32).toNatClampNeg : Int32) = ((hbq (bpw bf L) sc (hc8 st) (pdl L / 8)).2) 6 from rfl]
                refine lv_i2l (v := (((hbq (bpw bf L) sc (hc8 st) (pdl L / 8)).2) 6 : Int32).toInt64) hx hb d_Bm_digest_132 rfl ?_
                refine lv_bipush (v := 32) hx hb d_Bm_digest_133 (by decide) ?_
                refine lv_lshl (v := ((((hbq (bpw bf L) sc (hc8 st) (pdl L / 8)).2) 6 : Int32).toInt64 : Int64) <<< ((32 : Int32).toInt64 &&& 63)) hx hb d_Bm_digest_135 rfl ?_
                refine lv_aload_n hx hb d_Bm_digest_136 rfl (lv_at hl 1 rfl) ?_
                refine va_get (D := (dC, dI)) (ci := 8) (v := .ref a9) (C := "BallotBoardModel") (T := F_Bm) (N := 28) hx hb hts (fun w9 h9 => List.mem_cons_of_mem _ (i_Bm w9 h9)) hown hK hP 0 rfl rfl 20 (by decide) (hts _ (List.mem_cons_of_mem _ gk_939)) (fun _ h9 => h9) rfl d_Bm_digest_137 ?_
                refine lv_iconst (v := 2) hx hb d_Bm_digest_140 (by decide) ?_
                refine lv_iload_n hx hb d_Bm_digest_141 rfl (lv_at hl 0 rfl) ?_
                refine lv_imul hx hb d_Bm_digest_142 ?_
                refine lv_topi (fun v_19 ev_19 => ?_)
                obtain rfl : v_19 = 6 := ev_19.trans (by decide)
                refine lv_iconst (v := 1) hx hb d_Bm_digest_143 (by decide) ?_
                refine lv_iadd hx hb d_Bm_digest_144 ?_
                refine lv_topi (fun v_20 ev_20 => ?_)
                obtain rfl : v_20 = 7 := ev_20.trans (by decide)
                refine va_iald hx hb hK hP 3 1 rfl rfl (vp_lit rfl) d_Bm_digest_145 ?_
                rw [show ((hbq (bpw bf L) sc (hc8 st) (pdl L / 8)).2 (7 : Int32).toNatClampNeg : Int32) = ((hbq (bpw bf L) sc (hc8 st) (pdl L / 8)).2) 7 from rfl]
                refine lv_i2l (v := (((hbq (bpw bf L) sc (hc8 st) (pdl L / 8)).2) 7 : Int32).toInt64) hx hb d_Bm_digest_146 rfl ?_
                refine lv_ldc2 (v := 4294967295) hx hb hown (hts _ (List.mem_cons_of_mem _ gk_1085)) d_Bm_digest_147 ?_
                refine lv_land hx hb d_Bm_digest_150 ?_
                refine lv_lor hx hb d_Bm_digest_151 ?_
                rw [show ((((((hbq (bpw bf L) sc (hc8 st) (pdl L / 8)).2) 6 : Int32).toInt64 : Int64) <<< ((32 : Int32).toInt64 &&& 63)) ||| (((((hbq (bpw bf L) sc (hc8 st) (pdl L / 8)).2) 7 : Int32).toInt64) &&& 4294967295) : Int64) = (wd (((hbq (bpw bf L) sc (hc8 st) (pdl L / 8)).2) 6) (((hbq (bpw bf L) sc (hc8 st) (pdl L / 8)).2) 7)) from rfl]
                refine va_last hx hb hK hP hD hS 6 0 rfl rfl (vp_lit rfl) d_Bm_digest_152 (fun H locs hP hD hS => ?_)
                have hfe : vp_updL (vp_updL (vp_updL (vp_updL tf 0 (wd (((hbq (bpw bf L) sc (hc8 st) (pdl L / 8)).2) 0) (((hbq (bpw bf L) sc (hc8 st) (pdl L / 8)).2) 1))) 1 (wd (((hbq (bpw bf L) sc (hc8 st) (pdl L / 8)).2) 2) (((hbq (bpw bf L) sc (hc8 st) (pdl L / 8)).2) 3))) 2 (wd (((hbq (bpw bf L) sc (hc8 st) (pdl L / 8)).2) 4) (((hbq (bpw bf L) sc (hc8 st) (pdl L / 8)).2) 5))) (3 : Int32).toNatClampNeg (wd (((hbq (bpw bf L) sc (hc8 st) (pdl L / 8)).2) 6) (((hbq (bpw bf L) sc (hc8 st) (pdl L / 8)).2) 7)) = vp_updL (vp_updL (vp_updL (vp_updL tf 0 (wd (((hbq (bpw bf L) sc (hc8 st) (pdl L / 8)).2) 0) (((hbq (bpw bf L) sc (hc8 st) (pdl L / 8)).2) 1))) 1 (wd (((hbq (bpw bf L) sc (hc8 st) (pdl L / 8)).2) 2) (((hbq (bpw bf L) sc (hc8 st) (pdl L / 8)).2) 3))) 2 (wd (((hbq (bpw bf L) sc (hc8 st) (pdl L / 8)).2) 4) (((hbq (bpw bf L) sc (hc8 st) (pdl L / 8)).2) 5))) 3 (wd (((hbq (bpw bf L) sc (hc8 st) (pdl L / 8)).2) 6) (((hbq (bpw bf L) sc (hc8 st) (pdl L / 8)).2) 7)) := rfl
                have hP : va_P (dC, dI) classes [(m0, .inr (8, [.int z0, .int z1, .int z2, .int z3, .long z4, .long z5, .long z6, .long z7, .long z8, .long z9, .int z10, .ref a0, .ref a1, .ref a2, .ref a3, .ref a4, .ref a5, .ref a6, .ref a7, .ref a8, .ref a9, .ref b0, .ref b1, .int (nI (8 * pdl L)), .ref b2, .ref b3, .ref b4, .ref b5])), (a7, .inl (cI, 256, .inl (bpw bf L))), (a8, .inl (cI, 64, .inl ((hbq (bpw bf L) sc (hc8 st) (pdl L / 8)).1))), (a9, .inl (cI, 8, .inl ((hbq (bpw bf L) sc (hc8 st) (pdl L / 8)).2))), (b0, .inl (cI, 8, .inl kS)), (b1, .inl (cI, 64, .inl kR)), (a2, .inl (cJ, 4, .inr (.inl (vp_updL (vp_updL (vp_updL (vp_updL tf 0 (wd (((hbq (bpw bf L) sc (hc8 st) (pdl L / 8)).2) 0) (((hbq (bpw bf L) sc (hc8 st) (pdl L / 8)).2) 1))) 1 (wd (((hbq (bpw bf L) sc (hc8 st) (pdl L / 8)).2) 2) (((hbq (bpw bf L) sc (hc8 st) (pdl L / 8)).2) 3))) 2 (wd (((hbq (bpw bf L) sc (hc8 st) (pdl L / 8)).2) 4) (((hbq (bpw bf L) sc (hc8 st) (pdl L / 8)).2) 5))) (3 : Int32).toNatClampNeg (wd (((hbq (bpw bf L) sc (hc8 st) (pdl L / 8)).2) 6) (((hbq (bpw bf L) sc (hc8 st) (pdl L / 8)).2) 7))))))] H := hP
                have hD : va_D A [(m0, .inr (8, [.int z0, .int z1, .int z2, .int z3, .long z4, .long z5, .long z6, .long z7, .long z8, .long z9, .int z10, .ref a0, .ref a1, .ref a2, .ref a3, .ref a4, .ref a5, .ref a6, .ref a7, .ref a8, .ref a9, .ref b0, .ref b1, .int (nI (8 * pdl L)), .ref b2, .ref b3, .ref b4, .ref b5])), (a7, .inl (cI, 256, .inl (bpw bf L))), (a8, .inl (cI, 64, .inl ((hbq (bpw bf L) sc (hc8 st) (pdl L / 8)).1))), (a9, .inl (cI, 8, .inl ((hbq (bpw bf L) sc (hc8 st) (pdl L / 8)).2))), (b0, .inl (cI, 8, .inl kS)), (b1, .inl (cI, 64, .inl kR)), (a2, .inl (cJ, 4, .inr (.inl (vp_updL (vp_updL (vp_updL (vp_updL tf 0 (wd (((hbq (bpw bf L) sc (hc8 st) (pdl L / 8)).2) 0) (((hbq (bpw bf L) sc (hc8 st) (pdl L / 8)).2) 1))) 1 (wd (((hbq (bpw bf L) sc (hc8 st) (pdl L / 8)).2) 2) (((hbq (bpw bf L) sc (hc8 st) (pdl L / 8)).2) 3))) 2 (wd (((hbq (bpw bf L) sc (hc8 st) (pdl L / 8)).2) 4) (((hbq (bpw bf L) sc (hc8 st) (pdl L / 8)).2) 5))) (3 : Int32).toNatClampNeg (wd (((hbq (bpw bf L) sc (hc8 st) (pdl L / 8)).2) 6) (((hbq (bpw bf L) sc (hc8 st) (pdl L / 8)).2) 7))))))] := hD
                rw [hfe] at hP hD
                obtain ⟨i_21, ei_21⟩ : ∃ y : Int32, y = 3 + 1 := ⟨_, rfl⟩
                refine lv_iinc (v := i_21) (lv' := [(2, .int i_21), (0, .ref m0), (1, .int (nI (8 * (8 * L))))]) hx hb d_Bm_digest_153 hl (k := 0) rfl (by rw [ei_21]; rfl) (by decide) rfl (fun ls hl => ?_)
                obtain rfl : i_21 = 4 := by rw [ei_21]; exact by decide
                refine lv_goto (tgt := 114) hx hb d_Bm_digest_156 (by decide) ?_
                refine lv_iload_n hx hb d_Bm_digest_114 rfl (lv_at hl 0 rfl) ?_
                refine lv_iconst (v := 4) hx hb d_Bm_digest_115 (by decide) ?_
                refine lv_icmp_ge (tgt := 159) hx hb d_Bm_digest_116 (by decide) (fun c_22 => ?_) (fun c_22 => ?_)
                · -- taken
                  exact W.vret hx hb hr (fun t ht9 hW => ⟨⟨(bpw bf L, (hbq (bpw bf L) sc (hc8 st) (pdl L / 8)).1, (hbq (bpw bf L) sc (hc8 st) (pdl L / 8)).2, vp_updL (vp_updL (vp_updL (vp_updL tf 0 (wd (((hbq (bpw bf L) sc (hc8 st) (pdl L / 8)).2) 0) (((hbq (bpw bf L) sc (hc8 st) (pdl L / 8)).2) 1))) 1 (wd (((hbq (bpw bf L) sc (hc8 st) (pdl L / 8)).2) 2) (((hbq (bpw bf L) sc (hc8 st) (pdl L / 8)).2) 3))) 2 (wd (((hbq (bpw bf L) sc (hc8 st) (pdl L / 8)).2) 4) (((hbq (bpw bf L) sc (hc8 st) (pdl L / 8)).2) 5))) 3 (wd (((hbq (bpw bf L) sc (hc8 st) (pdl L / 8)).2) 6) (((hbq (bpw bf L) sc (hc8 st) (pdl L / 8)).2) 7)), 8 * pdl L), rfl, ⟨hdg, told4 hdg⟩, by rw [ht9]; exact hP, va_K.moved hW.alike hK, hD⟩, hS.F ht9⟩) hS.2.2 d_Bm_digest_159
                · -- not taken
                  exact absurd c_22 (by decide)
      · -- not taken
        have hb8 : b < pdl L / 8 := by
          have : ¬ 8 * pdl L ≤ 64 * b := fun h => c_1 ((nI_leI (by omega) (by omega)).mpr h)
          omega
        refine lv_aload_n hx hb d_Bm_digest_101 rfl (lv_at hl 0 rfl) ?_
        refine lv_iload_n hx hb d_Bm_digest_102 rfl (lv_at hl 2 rfl) ?_
        have hPc := hP.sub (ws' := (mo_ws m0 z0 z1 z2 z3 z4 z5 z6 z7 z8 z9 z10 a0 a1 a2 a3 a4 a5 a6 a7 a8 a9 b0 b1 (8 * pdl L) b2 b3 b4 b5 ++ (iw_ws a7 cI 256 (bpw bf L) ++ (iw_ws a8 cI 64 ((hbq (bpw bf L) sc (hc8 st) b).1) ++ (iw_ws a9 cI 8 ((hbq (bpw bf L) sc (hc8 st) b).2) ++ (iw_ws b1 cI 64 kR)))))) [0, 1, 2, 3, 5] rfl
        have hDc := hD.sub (ws' := (mo_ws m0 z0 z1 z2 z3 z4 z5 z6 z7 z8 z9 z10 a0 a1 a2 a3 a4 a5 a6 a7 a8 a9 b0 b1 (8 * pdl L) b2 b3 b4 b5 ++ (iw_ws a7 cI 256 (bpw bf L) ++ (iw_ws a8 cI 64 ((hbq (bpw bf L) sc (hc8 st) b).1) ++ (iw_ws a9 cI 8 ((hbq (bpw bf L) sc (hc8 st) b).2) ++ (iw_ws b1 cI 64 kR)))))) [0, 1, 2, 3, 5] (by decide) rfl
        have hKc := hK.sub (tys' := [(cJ, .long), (cI, .int)]) [0, 1] rfl
        have hFc := va_free (wc := (mo_ws m0 z0 z1 z2 z3 z4 z5 z6 z7 z8 z9 z10 a0 a1 a2 a3 a4 a5 a6 a7 a8 a9 b0 b1 (8 * pdl L) b2 b3 b4 b5 ++ (iw_ws a7 cI 256 (bpw bf L) ++ (iw_ws a8 cI 64 ((hbq (bpw bf L) sc (hc8 st) b).1) ++ (iw_ws a9 cI 8 ((hbq (bpw bf L) sc (hc8 st) b).2) ++ (iw_ws b1 cI 64 kR)))))) hD hS hA [0, 1, 2, 3, 5] rfl
        refine va_callv (va_runV (As := [.int (nI (64 * b))]) (rest := []) ⟨hx, hb, hml, hown, hts⟩ (c_Bm_compress l dC dI cJ cI H.size m0 z0 z1 z2 z3 z4 z5 z6 z7 z8 z9 z10 a0 a1 a2 a3 a4 a5 a6 a7 a8 a9 b0 b1 (8 * pdl L) b2 b3 b4 b5 (bpw bf L) ((hbq (bpw bf L) sc (hc8 st) b).1) ((hbq (bpw bf L) sc (hc8 st) b).2) (64 * b) (by omega)) (cwV 1 hts (gw_V gk_1078 gk_1080 gp_38 gk_7 gk_1081) rfl rfl rfl (by decide +kernel) ⟨Nat.le_of_ble_eq_true rfl, Nat.le_of_ble_eq_true rfl⟩) ⟨fun a U g mk q => by obtain ⟨q0, q1, qP, qK, qD⟩ := q; exact ⟨q0, q1, qP, va_K.moved (u := U) (U := U.calling g mk a) (Vm.Alike.refl U.vm) qK, qD⟩, va_recv hK hP (ci := 8) (q0 := 0) rfl rfl, fun U hU hW => ⟨rfl, by rw [hU], by rw [hU]; exact hPc, va_K.moved hW.alike hKc, hDc.weaken (fun _ _ _ _ => trivial)⟩⟩ rfl rfl hl.1 rfl (lv_room (Nat.le_of_ble_eq_true rfl)) d_Bm_digest_103 ⟨Nat.le_of_ble_eq_true rfl, Nat.le_of_ble_eq_true rfl⟩) hS (fun q _ h => hFc q h) hFc (fun u9 t9 H1 locs ht hvm hw hB hz1 hk1 hS => ?_)
        obtain ⟨hP1, hK1, hD1⟩ := hB
        rw [ht] at hP1
        obtain ⟨hP, hD⟩ := va_join (wr := [(b0, .inl (cI, 8, .inl kS)), (a2, .inl (cJ, 4, .inr (.inl tf)))]) (w1 := [(m0, .inr (8, [.int z0, .int z1, .int z2, .int z3, .long z4, .long z5, .long z6, .long z7, .long z8, .long z9, .int z10, .ref a0, .ref a1, .ref a2, .ref a3, .ref a4, .ref a5, .ref a6, .ref a7, .ref a8, .ref a9, .ref b0, .ref b1, .int (nI (8 * pdl L)), .ref b2, .ref b3, .ref b4, .ref b5])), (a7, .inl (cI, 256, .inl (bpw bf L))), (a8, .inl (cI, 64, .inl (swn (sq1 ((hbq (bpw bf L) sc (hc8 st) b).1) (bpw bf L) (64 * b) 16) 48))), (a9, .inl (cI, 8, .inl (mxa (swn (sq1 ((hbq (bpw bf L) sc (hc8 st) b).1) (bpw bf L) (64 * b) 16) 48) ((hbq (bpw bf L) sc (hc8 st) b).2) 8))), (b1, .inl (cI, 64, .inl kR))]) hP hD [0, 1, 2, 3, 5] [4, 6] rfl rfl (by decide) (by decide) hk1 hFc hP1 hD1
        have hP := hP.sub (ws' := [(m0, .inr (8, [.int z0, .int z1, .int z2, .int z3, .long z4, .long z5, .long z6, .long z7, .long z8, .long z9, .int z10, .ref a0, .ref a1, .ref a2, .ref a3, .ref a4, .ref a5, .ref a6, .ref a7, .ref a8, .ref a9, .ref b0, .ref b1, .int (nI (8 * pdl L)), .ref b2, .ref b3, .ref b4, .ref b5])), (a7, .inl (cI, 256, .inl (bpw bf L))), (a8, .inl (cI, 64, .inl (swn (sq1 ((hbq (bpw bf L) sc (hc8 st) b).1) (bpw bf L) (64 * b) 16) 48))), (a9, .inl (cI, 8, .inl (mxa (swn (sq1 ((hbq (bpw bf L) sc (hc8 st) b).1) (bpw bf L) (64 * b) 16) 48) ((hbq (bpw bf L) sc (hc8 st) b).2) 8))), (b0, .inl (cI, 8, .inl kS)), (b1, .inl (cI, 64, .inl kR)), (a2, .inl (cJ, 4, .inr (.inl tf)))]) [2, 3, 4, 5, 0, 6, 1] rfl
        have hD := hD.sub (ws' := [(m0, .inr (8, [.int z0, .int z1, .int z2, .int z3, .long z4, .long z5, .long z6, .long z7, .long z8, .long z9, .int z10, .ref a0, .ref a1, .ref a2, .ref a3, .ref a4, .ref a5, .ref a6, .ref a7, .ref a8, .ref a9, .ref b0, .ref b1, .int (nI (8 * pdl L)), .ref b2, .ref b3, .ref b4, .ref b5])), (a7, .inl (cI, 256, .inl (bpw bf L))), (a8, .inl (cI, 64, .inl (swn (sq1 ((hbq (bpw bf L) sc (hc8 st) b).1) (bpw bf L) (64 * b) 16) 48))), (a9, .inl (cI, 8, .inl (mxa (swn (sq1 ((hbq (bpw bf L) sc (hc8 st) b).1) (bpw bf L) (64 * b) 16) 48) ((hbq (bpw bf L) sc (hc8 st) b).2) 8))), (b0, .inl (cI, 8, .inl kS)), (b1, .inl (cI, 64, .inl kR)), (a2, .inl (cJ, 4, .inr (.inl tf)))]) [2, 3, 4, 5, 0, 6, 1] (by decide) rfl
        generalize H1 = H at hP hS ⊢
        obtain ⟨i_24, ei_24⟩ : ∃ y : Int32, y = (nI (64 * b)) + 64 := ⟨_, rfl⟩
        refine lv_iinc (v := i_24) (lv' := [(2, .int i_24), (0, .ref m0), (1, .int (nI (8 * (8 * L))))]) hx hb d_Bm_digest_106 hl (k := 2) rfl (by rw [ei_24]; rfl) (by decide) rfl (fun ls hl => ?_)
        obtain rfl : i_24 = nI (64 * (b + 1)) := by rw [ei_24]; exact nI_add (64 * b) 64
        refine lv_goto (tgt := 93) hx hb d_Bm_digest_109 (by decide) ?_
        exact ih (j - 1) (by omega) (b + 1) (by omega) H locs hS hP hD ls (lv_sub hl [1, 2, 0] rfl)
  have loop1 : ∀ (j k : Nat), k + j = 8 * pdl L - 9 - 8 * L → ∀ (H : Heap) (locs : List Loc), va_S A s.heap H locs → va_P (dC, dI) classes (mo_ws m0 z0 z1 z2 z3 z4 z5 z6 z7 z8 z9 z10 a0 a1 a2 a3 a4 a5 a6 a7 a8 a9 b0 b1 (8 * L + 1 + k) b2 b3 b4 b5 ++ (iw_ws a7 cI 256 (zz (upd bf (8 * L) 128) (8 * L + 1) k) ++ (iw_ws a8 cI 64 sc ++ (iw_ws a9 cI 8 st ++ (iw_ws b0 cI 8 kS ++ (iw_ws b1 cI 64 kR ++ (jw_ws a2 cJ 4 tf))))))) H → va_D A (mo_ws m0 z0 z1 z2 z3 z4 z5 z6 z7 z8 z9 z10 a0 a1 a2 a3 a4 a5 a6 a7 a8 a9 b0 b1 (8 * L + 1 + k) b2 b3 b4 b5 ++ (iw_ws a7 cI 256 (zz (upd bf (8 * L) 128) (8 * L + 1) k) ++ (iw_ws a8 cI 64 sc ++ (iw_ws a9 cI 8 st ++ (iw_ws b0 cI 8 kS ++ (iw_ws b1 cI 64 kR ++ (jw_ws a2 cJ 4 tf))))))) → ∀ (ls : Array Slot), lv_has ls 3 [(0, .ref m0), (1, .int (nI (8 * (8 * L))))] → W p l e ({ frames := 2, cells := 0, slots := 0, locals := 53 } : Room) s m ([.ref m0] : List Value).toArray below meth c H locs 0 0 (MQ below (va_Qv (fun u9 : DU => dgo u9.2.2.1 msg ∧ ∀ j, j < 4 → u9.2.2.2.1 j = lkw msg j) (fun u9 t => va_P (dC, dI) classes (mo_ws m0 z0 z1 z2 z3 z4 z5 z6 z7 z8 z9 z10 a0 a1 a2 a3 a4 a5 a6 a7 a8 a9 b0 b1 u9.2.2.2.2 b2 b3 b4 b5 ++ (iw_ws a7 cI 256 u9.1 ++ (iw_ws a8 cI 64 u9.2.1 ++ (iw_ws a9 cI 8 u9.2.2.1 ++ (iw_ws b0 cI 8 kS ++ (iw_ws b1 cI 64 kR ++ (jw_ws a2 cJ 4 u9.2.2.2.1))))))) t.heap ∧ va_K (dC, dI) classes [(cJ, .long), (cI, .int)] t ∧ va_D A (mo_ws m0 z0 z1 z2 z3 z4 z5 z6 z7 z8 z9 z10 a0 a1 a2 a3 a4 a5 a6 a7 a8 a9 b0 b1 u9.2.2.2.2 b2 b3 b4 b5 ++ (iw_ws a7 cI 256 u9.1 ++ (iw_ws a8 cI 64 u9.2.1 ++ (iw_ws a9 cI 8 u9.2.2.1 ++ (iw_ws b0 cI 8 kS ++ (iw_ws b1 cI 64 kR ++ (jw_ws a2 cJ 4 u9.2.2.2.1)))))))) A) ([.ref m0] : List Value).toArray s 0 0 A) (F0 m 27 ls []) := by
    intro j
    induction j using Nat.strongRecOn with
    | ind j ih =>
      intro k hkj H locs hS hP hD ls hl
      refine lv_aload_n hx hb d_Bm_digest_27 rfl (lv_at hl 0 rfl) ?_
      refine va_get (D := (dC, dI)) (ci := 8) (v := .int (nI (8 * L + 1 + k))) (C := "BallotBoardModel") (T := F_Bm) (N := 28) hx hb hts (fun w9 h9 => List.mem_cons_of_mem _ (i_Bm w9 h9)) hown hK hP 0 rfl rfl 23 (by decide) (hts _ (List.mem_cons_of_mem _ gk_942)) (fun _ h9 => h9) rfl d_Bm_digest_28 ?_
      refine lv_bipush (v := 64) hx hb d_Bm_digest_31 (by decide) ?_
      refine lv_irem hx hb d_Bm_digest_33 (by decide) ?_
      rw [show ((nI (8 * L + 1 + k)) - (nI (8 * L + 1 + k)) / 64 * 64 : Int32) = (nI ((8 * L + 1 + k) % 64)) from rem64 _ (by omega)]
      refine lv_bipush (v := 56) hx hb d_Bm_digest_34 (by decide) ?_
      refine lv_icmp_eq (tgt := 59) hx hb d_Bm_digest_36 (by decide) (fun c_1 => ?_) (fun c_1 => ?_)
      · -- taken
        have hk9 : k = 8 * pdl L - 9 - 8 * L := by
          have h8 := nI_inj (a := (8 * L + 1 + k) % 64) (b := 56) (by omega) (by omega) c_1
          omega
        have ho9 : 8 * L + 1 + k = 8 * pdl L - 8 := by omega
        rw [ho9, hk9] at hP hD
        refine lv_aload_n hx hb d_Bm_digest_59 rfl (lv_at hl 0 rfl) ?_
        refine lv_iload_n hx hb d_Bm_digest_60 rfl (lv_at hl 1 rfl) ?_
        refine lv_i2l (v := (nI (8 * (8 * L)) : Int32).toInt64) hx hb d_Bm_digest_61 rfl ?_
        have hPc := hP.sub (ws' := (mo_ws m0 z0 z1 z2 z3 z4 z5 z6 z7 z8 z9 z10 a0 a1 a2 a3 a4 a5 a6 a7 a8 a9 b0 b1 (8 * pdl L - 8) b2 b3 b4 b5 ++ (iw_ws a7 cI 256 (zz (upd bf (8 * L) 128) (8 * L + 1) (8 * pdl L - 9 - 8 * L))))) [0, 1] rfl
        have hDc := hD.sub (ws' := (mo_ws m0 z0 z1 z2 z3 z4 z5 z6 z7 z8 z9 z10 a0 a1 a2 a3 a4 a5 a6 a7 a8 a9 b0 b1 (8 * pdl L - 8) b2 b3 b4 b5 ++ (iw_ws a7 cI 256 (zz (upd bf (8 * L) 128) (8 * L + 1) (8 * pdl L - 9 - 8 * L))))) [0, 1] (by decide) rfl
        have hKc := hK.sub (tys' := [(cJ, .long), (cI, .int)]) [0, 1] rfl
        have hFc := va_free (wc := (mo_ws m0 z0 z1 z2 z3 z4 z5 z6 z7 z8 z9 z10 a0 a1 a2 a3 a4 a5 a6 a7 a8 a9 b0 b1 (8 * pdl L - 8) b2 b3 b4 b5 ++ (iw_ws a7 cI 256 (zz (upd bf (8 * L) 128) (8 * L + 1) (8 * pdl L - 9 - 8 * L))))) hD hS hA [0, 1] rfl
        refine va_callv (va_runV (As := [.long ((nI (8 * (8 * L)) : Int32).toInt64)]) (rest := []) ⟨hx, hb, hml, hown, hts⟩ (c_Bm_eight l dC dI cJ cI H.size m0 z0 z1 z2 z3 z4 z5 z6 z7 z8 z9 z10 a0 a1 a2 a3 a4 a5 a6 a7 a8 a9 b0 b1 (8 * pdl L - 8) b2 b3 b4 b5 (zz (upd bf (8 * L) 128) (8 * L + 1) (8 * pdl L - 9 - 8 * L)) ((nI (8 * (8 * L)) : Int32).toInt64) (by omega)) (cwV 1 hts (gw_V gk_1070 gk_1072 gp_36 gk_7 gk_1073) rfl rfl rfl (by decide +kernel) ⟨Nat.le_of_ble_eq_true rfl, Nat.le_of_ble_eq_true rfl⟩) ⟨fun a U g mk q => by obtain ⟨q0, q1, qP, qK, qD⟩ := q; exact ⟨q0, q1, qP, va_K.moved (u := U) (U := U.calling g mk a) (Vm.Alike.refl U.vm) qK, qD⟩, va_recv hK hP (ci := 8) (q0 := 0) rfl rfl, fun U hU hW => ⟨rfl, by rw [hU], by rw [hU]; exact hPc, va_K.moved hW.alike hKc, hDc.weaken (fun _ _ _ _ => trivial)⟩⟩ rfl rfl hl.1 rfl (lv_room (Nat.le_of_ble_eq_true rfl)) d_Bm_digest_62 ⟨Nat.le_of_ble_eq_true rfl, Nat.le_of_ble_eq_true rfl⟩) hS (fun q _ h => hFc q h) hFc (fun u9 t9 H1 locs ht hvm hw hB hz1 hk1 hS => ?_)
        obtain ⟨hP1, hK1, hD1⟩ := hB
        rw [ht] at hP1
        obtain ⟨hP, hD⟩ := va_join (wr := [(a8, .inl (cI, 64, .inl sc)), (a9, .inl (cI, 8, .inl st)), (b0, .inl (cI, 8, .inl kS)), (b1, .inl (cI, 64, .inl kR)), (a2, .inl (cJ, 4, .inr (.inl tf)))]) (w1 := [(m0, .inr (8, [.int z0, .int z1, .int z2, .int z3, .long z4, .long z5, .long z6, .long z7, .long z8, .long z9, .int z10, .ref a0, .ref a1, .ref a2, .ref a3, .ref a4, .ref a5, .ref a6, .ref a7, .ref a8, .ref a9, .ref b0, .ref b1, .int (nI ((8 * pdl L - 8) + 8)), .ref b2, .ref b3, .ref b4, .ref b5])), (a7, .inl (cI, 256, .inl (o8 (zz (upd bf (8 * L) 128) (8 * L + 1) (8 * pdl L - 9 - 8 * L)) (8 * pdl L - 8) ((nI (8 * (8 * L)) : Int32).toInt64))))]) hP hD [0, 1] [2, 3, 4, 5, 6] rfl rfl (by decide) (by decide) hk1 hFc hP1 hD1
        have hP := hP.sub (ws' := [(m0, .inr (8, [.int z0, .int z1, .int z2, .int z3, .long z4, .long z5, .long z6, .long z7, .long z8, .long z9, .int z10, .ref a0, .ref a1, .ref a2, .ref a3, .ref a4, .ref a5, .ref a6, .ref a7, .ref a8, .ref a9, .ref b0, .ref b1, .int (nI ((8 * pdl L - 8) + 8)), .ref b2, .ref b3, .ref b4, .ref b5])), (a7, .inl (cI, 256, .inl (o8 (zz (upd bf (8 * L) 128) (8 * L + 1) (8 * pdl L - 9 - 8 * L)) (8 * pdl L - 8) ((nI (8 * (8 * L)) : Int32).toInt64)))), (a8, .inl (cI, 64, .inl sc)), (a9, .inl (cI, 8, .inl st)), (b0, .inl (cI, 8, .inl kS)), (b1, .inl (cI, 64, .inl kR)), (a2, .inl (cJ, 4, .inr (.inl tf)))]) [5, 6, 0, 1, 2, 3, 4] rfl
        have hD := hD.sub (ws' := [(m0, .inr (8, [.int z0, .int z1, .int z2, .int z3, .long z4, .long z5, .long z6, .long z7, .long z8, .long z9, .int z10, .ref a0, .ref a1, .ref a2, .ref a3, .ref a4, .ref a5, .ref a6, .ref a7, .ref a8, .ref a9, .ref b0, .ref b1, .int (nI ((8 * pdl L - 8) + 8)), .ref b2, .ref b3, .ref b4, .ref b5])), (a7, .inl (cI, 256, .inl (o8 (zz (upd bf (8 * L) 128) (8 * L + 1) (8 * pdl L - 9 - 8 * L)) (8 * pdl L - 8) ((nI (8 * (8 * L)) : Int32).toInt64)))), (a8, .inl (cI, 64, .inl sc)), (a9, .inl (cI, 8, .inl st)), (b0, .inl (cI, 8, .inl kS)), (b1, .inl (cI, 64, .inl kR)), (a2, .inl (cJ, 4, .inr (.inl tf)))]) [5, 6, 0, 1, 2, 3, 4] (by decide) rfl
        generalize H1 = H at hP hS ⊢
        refine lv_iconst (v := 0) hx hb d_Bm_digest_65 (by decide) ?_
        refine lv_istore_n (lv' := [(2, .int 0), (0, .ref m0), (1, .int (nI (8 * (8 * L))))]) hx hb d_Bm_digest_66 rfl hl (by decide) rfl (fun ls hl => ?_)
        refine lv_iload_n hx hb d_Bm_digest_67 rfl (lv_at hl 0 rfl) ?_
        refine lv_bipush (v := 8) hx hb d_Bm_digest_68 (by decide) ?_
        refine lv_icmp_ge (tgt := 91) hx hb d_Bm_digest_70 (by decide) (fun c_3 => ?_) (fun c_3 => ?_)
        · -- taken
          exact absurd c_3 (by decide)
        · -- not taken
          refine lv_aload_n hx hb d_Bm_digest_73 rfl (lv_at hl 1 rfl) ?_
          refine va_get (D := (dC, dI)) (ci := 8) (v := .ref a9) (C := "BallotBoardModel") (T := F_Bm) (N := 28) hx hb hts (fun w9 h9 => List.mem_cons_of_mem _ (i_Bm w9 h9)) hown hK hP 0 rfl rfl 20 (by decide) (hts _ (List.mem_cons_of_mem _ gk_939)) (fun _ h9 => h9) rfl d_Bm_digest_74 ?_
          refine lv_iload_n hx hb d_Bm_digest_77 rfl (lv_at hl 0 rfl) ?_
          refine lv_aload_n hx hb d_Bm_digest_78 rfl (lv_at hl 1 rfl) ?_
          refine va_get (D := (dC, dI)) (ci := 8) (v := .ref b0) (C := "BallotBoardModel") (T := F_Bm) (N := 28) hx hb hts (fun w9 h9 => List.mem_cons_of_mem _ (i_Bm w9 h9)) hown hK hP 0 rfl rfl 21 (by decide) (hts _ (List.mem_cons_of_mem _ gk_940)) (fun _ h9 => h9) rfl d_Bm_digest_79 ?_
          refine lv_iload_n hx hb d_Bm_digest_82 rfl (lv_at hl 0 rfl) ?_
          refine va_iald hx hb hK hP 4 1 rfl rfl (vp_lit rfl) d_Bm_digest_83 ?_
          rw [show (kS (0 : Int32).toNatClampNeg : Int32) = kS 0 from rfl]
          refine va_iast hx hb hK hP hD hS 3 1 rfl rfl (vp_lit rfl) d_Bm_digest_84 (fun H locs hP hD hS => ?_)
          have hfe : upd st (0 : Int32).toNatClampNeg (kS 0) = upd st 0 (kS 0) := rfl
          have hP : va_P (dC, dI) classes [(m0, .inr (8, [.int z0, .int z1, .int z2, .int z3, .long z4, .long z5, .long z6, .long z7, .long z8, .long z9, .int z10, .ref a0, .ref a1, .ref a2, .ref a3, .ref a4, .ref a5, .ref a6, .ref a7, .ref a8, .ref a9, .ref b0, .ref b1, .int (nI ((8 * pdl L - 8) + 8)), .ref b2, .ref b3, .ref b4, .ref b5])), (a7, .inl (cI, 256, .inl (o8 (zz (upd bf (8 * L) 128) (8 * L + 1) (8 * pdl L - 9 - 8 * L)) (8 * pdl L - 8) ((nI (8 * (8 * L)) : Int32).toInt64)))), (a8, .inl (cI, 64, .inl sc)), (a9, .inl (cI, 8, .inl (upd st (0 : Int32).toNatClampNeg (kS 0)))), (b0, .inl (cI, 8, .inl kS)), (b1, .inl (cI, 64, .inl kR)), (a2, .inl (cJ, 4, .inr (.inl tf)))] H := hP
          have hD : va_D A [(m0, .inr (8, [.int z0, .int z1, .int z2, .int z3, .long z4, .long z5, .long z6, .long z7, .long z8, .long z9, .int z10, .ref a0, .ref a1, .ref a2, .ref a3, .ref a4, .ref a5, .ref a6, .ref a7, .ref a8, .ref a9, .ref b0, .ref b1, .int (nI ((8 * pdl L - 8) + 8)), .ref b2, .ref b3, .ref b4, .ref b5])), (a7, .inl (cI, 256, .inl (o8 (zz (upd bf (8 * L) 128) (8 * L + 1) (8 * pdl L - 9 - 8 * L)) (8 * pdl L - 8) ((nI (8 * (8 * L)) : Int32).toInt64)))), (a8, .inl (cI, 64, .inl sc)), (a9, .inl (cI, 8, .inl (upd st (0 : Int32).toNatClampNeg (kS 0)))), (b0, .inl (cI, 8, .inl kS)), (b1, .inl (cI, 64, .inl kR)), (a2, .inl (cJ, 4, .inr (.inl tf)))] := hD
          rw [hfe] at hP hD
          obtain ⟨i_4, ei_4⟩ : ∃ y : Int32, y = 0 + 1 := ⟨_, rfl⟩
          refine lv_iinc (v := i_4) (lv' := [(2, .int i_4), (0, .ref m0), (1, .int (nI (8 * (8 * L))))]) hx hb d_Bm_digest_85 hl (k := 0) rfl (by rw [ei_4]; rfl) (by decide) rfl (fun ls hl => ?_)
          obtain rfl : i_4 = 1 := by rw [ei_4]; exact by decide
          refine lv_goto (tgt := 67) hx hb d_Bm_digest_88 (by decide) ?_
          refine lv_iload_n hx hb d_Bm_digest_67 rfl (lv_at hl 0 rfl) ?_
          refine lv_bipush (v := 8) hx hb d_Bm_digest_68 (by decide) ?_
          refine lv_icmp_ge (tgt := 91) hx hb d_Bm_digest_70 (by decide) (fun c_5 => ?_) (fun c_5 => ?_)
          · -- taken
            exact absurd c_5 (by decide)
          · -- not taken
            refine lv_aload_n hx hb d_Bm_digest_73 rfl (lv_at hl 1 rfl) ?_
            refine va_get (D := (dC, dI)) (ci := 8) (v := .ref a9) (C := "BallotBoardModel") (T := F_Bm) (N := 28) hx hb hts (fun w9 h9 => List.mem_cons_of_mem _ (i_Bm w9 h9)) hown hK hP 0 rfl rfl 20 (by decide) (hts _ (List.mem_cons_of_mem _ gk_939)) (fun _ h9 => h9) rfl d_Bm_digest_74 ?_
            refine lv_iload_n hx hb d_Bm_digest_77 rfl (lv_at hl 0 rfl) ?_
            refine lv_aload_n hx hb d_Bm_digest_78 rfl (lv_at hl 1 rfl) ?_
            refine va_get (D := (dC, dI)) (ci := 8) (v := .ref b0) (C := "BallotBoardModel") (T := F_Bm) (N := 28) hx hb hts (fun w9 h9 => List.mem_cons_of_mem _ (i_Bm w9 h9)) hown hK hP 0 rfl rfl 21 (by decide) (hts _ (List.mem_cons_of_mem _ gk_940)) (fun _ h9 => h9) rfl d_Bm_digest_79 ?_
            refine lv_iload_n hx hb d_Bm_digest_82 rfl (lv_at hl 0 rfl) ?_
            refine va_iald hx hb hK hP 4 1 rfl rfl (vp_lit rfl) d_Bm_digest_83 ?_
            rw [show (kS (1 : Int32).toNatClampNeg : Int32) = kS 1 from rfl]
            refine va_iast hx hb hK hP hD hS 3 1 rfl rfl (vp_lit rfl) d_Bm_digest_84 (fun H locs hP hD hS => ?_)
            have hfe : upd (upd st 0 (kS 0)) (1 : Int32).toNatClampNeg (kS 1) = upd (upd st 0 (kS 0)) 1 (kS 1) := rfl
            have hP : va_P (dC, dI) classes [(m0, .inr (8, [.int z0, .int z1, .int z2, .int z3, .long z4, .long z5, .long z6, .long z7, .long z8, .long z9, .int z10, .ref a0, .ref a1, .ref a2, .ref a3, .ref a4, .ref a5, .ref a6, .ref a7, .ref a8, .ref a9, .ref b0, .ref b1, .int (nI ((8 * pdl L - 8) + 8)), .ref b2, .ref b3, .ref b4, .ref b5])), (a7, .inl (cI, 256, .inl (o8 (zz (upd bf (8 * L) 128) (8 * L + 1) (8 * pdl L - 9 - 8 * L)) (8 * pdl L - 8) ((nI (8 * (8 * L)) : Int32).toInt64)))), (a8, .inl (cI, 64, .inl sc)), (a9, .inl (cI, 8, .inl (upd (upd st 0 (kS 0)) (1 : Int32).toNatClampNeg (kS 1)))), (b0, .inl (cI, 8, .inl kS)), (b1, .inl (cI, 64, .inl kR)), (a2, .inl (cJ, 4, .inr (.inl tf)))] H := hP
            have hD : va_D A [(m0, .inr (8, [.int z0, .int z1, .int z2, .int z3, .long z4, .long z5, .long z6, .long z7, .long z8, .long z9, .int z10, .ref a0, .ref a1, .ref a2, .ref a3, .ref a4, .ref a5, .ref a6, .ref a7, .ref a8, .ref a9, .ref b0, .ref b1, .int (nI ((8 * pdl L - 8) + 8)), .ref b2, .ref b3, .ref b4, .ref b5])), (a7, .inl (cI, 256, .inl (o8 (zz (upd bf (8 * L) 128) (8 * L + 1) (8 * pdl L - 9 - 8 * L)) (8 * pdl L - 8) ((nI (8 * (8 * L)) : Int32).toInt64)))), (a8, .inl (cI, 64, .inl sc)), (a9, .inl (cI, 8, .inl (upd (upd st 0 (kS 0)) (1 : Int32).toNatClampNeg (kS 1)))), (b0, .inl (cI, 8, .inl kS)), (b1, .inl (cI, 64, .inl kR)), (a2, .inl (cJ, 4, .inr (.inl tf)))] := hD
            rw [hfe] at hP hD
            obtain ⟨i_6, ei_6⟩ : ∃ y : Int32, y = 1 + 1 := ⟨_, rfl⟩
            refine lv_iinc (v := i_6) (lv' := [(2, .int i_6), (0, .ref m0), (1, .int (nI (8 * (8 * L))))]) hx hb d_Bm_digest_85 hl (k := 0) rfl (by rw [ei_6]; rfl) (by decide) rfl (fun ls hl => ?_)
            obtain rfl : i_6 = 2 := by rw [ei_6]; exact by decide
            refine lv_goto (tgt := 67) hx hb d_Bm_digest_88 (by decide) ?_
            refine lv_iload_n hx hb d_Bm_digest_67 rfl (lv_at hl 0 rfl) ?_
            refine lv_bipush (v := 8) hx hb d_Bm_digest_68 (by decide) ?_
            refine lv_icmp_ge (tgt := 91) hx hb d_Bm_digest_70 (by decide) (fun c_7 => ?_) (fun c_7 => ?_)
            · -- taken
              exact absurd c_7 (by decide)
            · -- not taken
              refine lv_aload_n hx hb d_Bm_digest_73 rfl (lv_at hl 1 rfl) ?_
              refine va_get (D := (dC, dI)) (ci := 8) (v := .ref a9) (C := "BallotBoardModel") (T := F_Bm) (N := 28) hx hb hts (fun w9 h9 => List.mem_cons_of_mem _ (i_Bm w9 h9)) hown hK hP 0 rfl rfl 20 (by decide) (hts _ (List.mem_cons_of_mem _ gk_939)) (fun _ h9 => h9) rfl d_Bm_digest_74 ?_
              refine lv_iload_n hx hb d_Bm_digest_77 rfl (lv_at hl 0 rfl) ?_
              refine lv_aload_n hx hb d_Bm_digest_78 rfl (lv_at hl 1 rfl) ?_
              refine va_get (D := (dC, dI)) (ci := 8) (v := .ref b0) (C := "BallotBoardModel") (T := F_Bm) (N := 28) hx hb hts (fun w9 h9 => List.mem_cons_of_mem _ (i_Bm w9 h9)) hown hK hP 0 rfl rfl 21 (by decide) (hts _ (List.mem_cons_of_mem _ gk_940)) (fun _ h9 => h9) rfl d_Bm_digest_79 ?_
              refine lv_iload_n hx hb d_Bm_digest_82 rfl (lv_at hl 0 rfl) ?_
              refine va_iald hx hb hK hP 4 1 rfl rfl (vp_lit rfl) d_Bm_digest_83 ?_
              rw [show (kS (2 : Int32).toNatClampNeg : Int32) = kS 2 from rfl]
              refine va_iast hx hb hK hP hD hS 3 1 rfl rfl (vp_lit rfl) d_Bm_digest_84 (fun H locs hP hD hS => ?_)
              have hfe : upd (upd (upd st 0 (kS 0)) 1 (kS 1)) (2 : Int32).toNatClampNeg (kS 2) = upd (upd (upd st 0 (kS 0)) 1 (kS 1)) 2 (kS 2) := rfl
              have hP : va_P (dC, dI) classes [(m0, .inr (8, [.int z0, .int z1, .int z2, .int z3, .long z4, .long z5, .long z6, .long z7, .long z8, .long z9, .int z10, .ref a0, .ref a1, .ref a2, .ref a3, .ref a4, .ref a5, .ref a6, .ref a7, .ref a8, .ref a9, .ref b0, .ref b1, .int (nI ((8 * pdl L - 8) + 8)), .ref b2, .ref b3, .ref b4, .ref b5])), (a7, .inl (cI, 256, .inl (o8 (zz (upd bf (8 * L) 128) (8 * L + 1) (8 * pdl L - 9 - 8 * L)) (8 * pdl L - 8) ((nI (8 * (8 * L)) : Int32).toInt64)))), (a8, .inl (cI, 64, .inl sc)), (a9, .inl (cI, 8, .inl (upd (upd (upd st 0 (kS 0)) 1 (kS 1)) (2 : Int32).toNatClampNeg (kS 2)))), (b0, .inl (cI, 8, .inl kS)), (b1, .inl (cI, 64, .inl kR)), (a2, .inl (cJ, 4, .inr (.inl tf)))] H := hP
              have hD : va_D A [(m0, .inr (8, [.int z0, .int z1, .int z2, .int z3, .long z4, .long z5, .long z6, .long z7, .long z8, .long z9, .int z10, .ref a0, .ref a1, .ref a2, .ref a3, .ref a4, .ref a5, .ref a6, .ref a7, .ref a8, .ref a9, .ref b0, .ref b1, .int (nI ((8 * pdl L - 8) + 8)), .ref b2, .ref b3, .ref b4, .ref b5])), (a7, .inl (cI, 256, .inl (o8 (zz (upd bf (8 * L) 128) (8 * L + 1) (8 * pdl L - 9 - 8 * L)) (8 * pdl L - 8) ((nI (8 * (8 * L)) : Int32).toInt64)))), (a8, .inl (cI, 64, .inl sc)), (a9, .inl (cI, 8, .inl (upd (upd (upd st 0 (kS 0)) 1 (kS 1)) (2 : Int32).toNatClampNeg (kS 2)))), (b0, .inl (cI, 8, .inl kS)), (b1, .inl (cI, 64, .inl kR)), (a2, .inl (cJ, 4, .inr (.inl tf)))] := hD
              rw [hfe] at hP hD
              obtain ⟨i_8, ei_8⟩ : ∃ y : Int32, y = 2 + 1 := ⟨_, rfl⟩
              refine lv_iinc (v := i_8) (lv' := [(2, .int i_8), (0, .ref m0), (1, .int (nI (8 * (8 * L))))]) hx hb d_Bm_digest_85 hl (k := 0) rfl (by rw [ei_8]; rfl) (by decide) rfl (fun ls hl => ?_)
              obtain rfl : i_8 = 3 := by rw [ei_8]; exact by decide
              refine lv_goto (tgt := 67) hx hb d_Bm_digest_88 (by decide) ?_
              refine lv_iload_n hx hb d_Bm_digest_67 rfl (lv_at hl 0 rfl) ?_
              refine lv_bipush (v := 8) hx hb d_Bm_digest_68 (by decide) ?_
              refine lv_icmp_ge (tgt := 91) hx hb d_Bm_digest_70 (by decide) (fun c_9 => ?_) (fun c_9 => ?_)
              · -- taken
                exact absurd c_9 (by decide)
              · -- not taken
                refine lv_aload_n hx hb d_Bm_digest_73 rfl (lv_at hl 1 rfl) ?_
                refine va_get (D := (dC, dI)) (ci := 8) (v := .ref a9) (C := "BallotBoardModel") (T := F_Bm) (N := 28) hx hb hts (fun w9 h9 => List.mem_cons_of_mem _ (i_Bm w9 h9)) hown hK hP 0 rfl rfl 20 (by decide) (hts _ (List.mem_cons_of_mem _ gk_939)) (fun _ h9 => h9) rfl d_Bm_digest_74 ?_
                refine lv_iload_n hx hb d_Bm_digest_77 rfl (lv_at hl 0 rfl) ?_
                refine lv_aload_n hx hb d_Bm_digest_78 rfl (lv_at hl 1 rfl) ?_
                refine va_get (D := (dC, dI)) (ci := 8) (v := .ref b0) (C := "BallotBoardModel") (T := F_Bm) (N := 28) hx hb hts (fun w9 h9 => List.mem_cons_of_mem _ (i_Bm w9 h9)) hown hK hP 0 rfl rfl 21 (by decide) (hts _ (List.mem_cons_of_mem _ gk_940)) (fun _ h9 => h9) rfl d_Bm_digest_79 ?_
                refine lv_iload_n hx hb d_Bm_digest_82 rfl (lv_at hl 0 rfl) ?_
                refine va_iald hx hb hK hP 4 1 rfl rfl (vp_lit rfl) d_Bm_digest_83 ?_
                rw [show (kS (3 : Int32).toNatClampNeg : Int32) = kS 3 from rfl]
                refine va_iast hx hb hK hP hD hS 3 1 rfl rfl (vp_lit rfl) d_Bm_digest_84 (fun H locs hP hD hS => ?_)
                have hfe : upd (upd (upd (upd st 0 (kS 0)) 1 (kS 1)) 2 (kS 2)) (3 : Int32).toNatClampNeg (kS 3) = upd (upd (upd (upd st 0 (kS 0)) 1 (kS 1)) 2 (kS 2)) 3 (kS 3) := rfl
                have hP : va_P (dC, dI) classes [(m0, .inr (8, [.int z0, .int z1, .int z2, .int z3, .long z4, .long z5, .long z6, .long z7, .long z8, .long z9, .int z10, .ref a0, .ref a1, .ref a2, .ref a3, .ref a4, .ref a5, .ref a6, .ref a7, .ref a8, .ref a9, .ref b0, .ref b1, .int (nI ((8 * pdl L - 8) + 8)), .ref b2, .ref b3, .ref b4, .ref b5])), (a7, .inl (cI, 256, .inl (o8 (zz (upd bf (8 * L) 128) (8 * L + 1) (8 * pdl L - 9 - 8 * L)) (8 * pdl L - 8) ((nI (8 * (8 * L)) : Int32).toInt64)))), (a8, .inl (cI, 64, .inl sc)), (a9, .inl (cI, 8, .inl (upd (upd (upd (upd st 0 (kS 0)) 1 (kS 1)) 2 (kS 2)) (3 : Int32).toNatClampNeg (kS 3)))), (b0, .inl (cI, 8, .inl kS)), (b1, .inl (cI, 64, .inl kR)), (a2, .inl (cJ, 4, .inr (.inl tf)))] H := hP
                have hD : va_D A [(m0, .inr (8, [.int z0, .int z1, .int z2, .int z3, .long z4, .long z5, .long z6, .long z7, .long z8, .long z9, .int z10, .ref a0, .ref a1, .ref a2, .ref a3, .ref a4, .ref a5, .ref a6, .ref a7, .ref a8, .ref a9, .ref b0, .ref b1, .int (nI ((8 * pdl L - 8) + 8)), .ref b2, .ref b3, .ref b4, .ref b5])), (a7, .inl (cI, 256, .inl (o8 (zz (upd bf (8 * L) 128) (8 * L + 1) (8 * pdl L - 9 - 8 * L)) (8 * pdl L - 8) ((nI (8 * (8 * L)) : Int32).toInt64)))), (a8, .inl (cI, 64, .inl sc)), (a9, .inl (cI, 8, .inl (upd (upd (upd (upd st 0 (kS 0)) 1 (kS 1)) 2 (kS 2)) (3 : Int32).toNatClampNeg (kS 3)))), (b0, .inl (cI, 8, .inl kS)), (b1, .inl (cI, 64, .inl kR)), (a2, .inl (cJ, 4, .inr (.inl tf)))] := hD
                rw [hfe] at hP hD
                obtain ⟨i_10, ei_10⟩ : ∃ y : Int32, y = 3 + 1 := ⟨_, rfl⟩
                refine lv_iinc (v := i_10) (lv' := [(2, .int i_10), (0, .ref m0), (1, .int (nI (8 * (8 * L))))]) hx hb d_Bm_digest_85 hl (k := 0) rfl (by rw [ei_10]; rfl) (by decide) rfl (fun ls hl => ?_)
                obtain rfl : i_10 = 4 := by rw [ei_10]; exact by decide
                refine lv_goto (tgt := 67) hx hb d_Bm_digest_88 (by decide) ?_
                refine lv_iload_n hx hb d_Bm_digest_67 rfl (lv_at hl 0 rfl) ?_
                refine lv_bipush (v := 8) hx hb d_Bm_digest_68 (by decide) ?_
                refine lv_icmp_ge (tgt := 91) hx hb d_Bm_digest_70 (by decide) (fun c_11 => ?_) (fun c_11 => ?_)
                · -- taken
                  exact absurd c_11 (by decide)
                · -- not taken
                  refine lv_aload_n hx hb d_Bm_digest_73 rfl (lv_at hl 1 rfl) ?_
                  refine va_get (D := (dC, dI)) (ci := 8) (v := .ref a9) (C := "BallotBoardModel") (T := F_Bm) (N := 28) hx hb hts (fun w9 h9 => List.mem_cons_of_mem _ (i_Bm w9 h9)) hown hK hP 0 rfl rfl 20 (by decide) (hts _ (List.mem_cons_of_mem _ gk_939)) (fun _ h9 => h9) rfl d_Bm_digest_74 ?_
                  refine lv_iload_n hx hb d_Bm_digest_77 rfl (lv_at hl 0 rfl) ?_
                  refine lv_aload_n hx hb d_Bm_digest_78 rfl (lv_at hl 1 rfl) ?_
                  refine va_get (D := (dC, dI)) (ci := 8) (v := .ref b0) (C := "BallotBoardModel") (T := F_Bm) (N := 28) hx hb hts (fun w9 h9 => List.mem_cons_of_mem _ (i_Bm w9 h9)) hown hK hP 0 rfl rfl 21 (by decide) (hts _ (List.mem_cons_of_mem _ gk_940)) (fun _ h9 => h9) rfl d_Bm_digest_79 ?_
                  refine lv_iload_n hx hb d_Bm_digest_82 rfl (lv_at hl 0 rfl) ?_
                  refine va_iald hx hb hK hP 4 1 rfl rfl (vp_lit rfl) d_Bm_digest_83 ?_
                  rw [show (kS (4 : Int32).toNatClampNeg : Int32) = kS 4 from rfl]
                  refine va_iast hx hb hK hP hD hS 3 1 rfl rfl (vp_lit rfl) d_Bm_digest_84 (fun H locs hP hD hS => ?_)
                  have hfe : upd (upd (upd (upd (upd st 0 (kS 0)) 1 (kS 1)) 2 (kS 2)) 3 (kS 3)) (4 : Int32).toNatClampNeg (kS 4) = upd (upd (upd (upd (upd st 0 (kS 0)) 1 (kS 1)) 2 (kS 2)) 3 (kS 3)) 4 (kS 4) := rfl
                  have hP : va_P (dC, dI) classes [(m0, .inr (8, [.int z0, .int z1, .int z2, .int z3, .long z4, .long z5, .long z6, .long z7, .long z8, .long z9, .int z10, .ref a0, .ref a1, .ref a2, .ref a3, .ref a4, .ref a5, .ref a6, .ref a7, .ref a8, .ref a9, .ref b0, .ref b1, .int (nI ((8 * pdl L - 8) + 8)), .ref b2, .ref b3, .ref b4, .ref b5])), (a7, .inl (cI, 256, .inl (o8 (zz (upd bf (8 * L) 128) (8 * L + 1) (8 * pdl L - 9 - 8 * L)) (8 * pdl L - 8) ((nI (8 * (8 * L)) : Int32).toInt64)))), (a8, .inl (cI, 64, .inl sc)), (a9, .inl (cI, 8, .inl (upd (upd (upd (upd (upd st 0 (kS 0)) 1 (kS 1)) 2 (kS 2)) 3 (kS 3)) (4 : Int32).toNatClampNeg (kS 4)))), (b0, .inl (cI, 8, .inl kS)), (b1, .inl (cI, 64, .inl kR)), (a2, .inl (cJ, 4, .inr (.inl tf)))] H := hP
                  have hD : va_D A [(m0, .inr (8, [.int z0, .int z1, .int z2, .int z3, .long z4, .long z5, .long z6, .long z7, .long z8, .long z9, .int z10, .ref a0, .ref a1, .ref a2, .ref a3, .ref a4, .ref a5, .ref a6, .ref a7, .ref a8, .ref a9, .ref b0, .ref b1, .int (nI ((8 * pdl L - 8) + 8)), .ref b2, .ref b3, .ref b4, .ref b5])), (a7, .inl (cI, 256, .inl (o8 (zz (upd bf (8 * L) 128) (8 * L + 1) (8 * pdl L - 9 - 8 * L)) (8 * pdl L - 8) ((nI (8 * (8 * L)) : Int32).toInt64)))), (a8, .inl (cI, 64, .inl sc)), (a9, .inl (cI, 8, .inl (upd (upd (upd (upd (upd st 0 (kS 0)) 1 (kS 1)) 2 (kS 2)) 3 (kS 3)) (4 : Int32).toNatClampNeg (kS 4)))), (b0, .inl (cI, 8, .inl kS)), (b1, .inl (cI, 64, .inl kR)), (a2, .inl (cJ, 4, .inr (.inl tf)))] := hD
                  rw [hfe] at hP hD
                  obtain ⟨i_12, ei_12⟩ : ∃ y : Int32, y = 4 + 1 := ⟨_, rfl⟩
                  refine lv_iinc (v := i_12) (lv' := [(2, .int i_12), (0, .ref m0), (1, .int (nI (8 * (8 * L))))]) hx hb d_Bm_digest_85 hl (k := 0) rfl (by rw [ei_12]; rfl) (by decide) rfl (fun ls hl => ?_)
                  obtain rfl : i_12 = 5 := by rw [ei_12]; exact by decide
                  refine lv_goto (tgt := 67) hx hb d_Bm_digest_88 (by decide) ?_
                  refine lv_iload_n hx hb d_Bm_digest_67 rfl (lv_at hl 0 rfl) ?_
                  refine lv_bipush (v := 8) hx hb d_Bm_digest_68 (by decide) ?_
                  refine lv_icmp_ge (tgt := 91) hx hb d_Bm_digest_70 (by decide) (fun c_13 => ?_) (fun c_13 => ?_)
                  · -- taken
                    exact absurd c_13 (by decide)
                  · -- not taken
                    refine lv_aload_n hx hb d_Bm_digest_73 rfl (lv_at hl 1 rfl) ?_
                    refine va_get (D := (dC, dI)) (ci := 8) (v := .ref a9) (C := "BallotBoardModel") (T := F_Bm) (N := 28) hx hb hts (fun w9 h9 => List.mem_cons_of_mem _ (i_Bm w9 h9)) hown hK hP 0 rfl rfl 20 (by decide) (hts _ (List.mem_cons_of_mem _ gk_939)) (fun _ h9 => h9) rfl d_Bm_digest_74 ?_
                    refine lv_iload_n hx hb d_Bm_digest_77 rfl (lv_at hl 0 rfl) ?_
                    refine lv_aload_n hx hb d_Bm_digest_78 rfl (lv_at hl 1 rfl) ?_
                    refine va_get (D := (dC, dI)) (ci := 8) (v := .ref b0) (C := "BallotBoardModel") (T := F_Bm) (N := 28) hx hb hts (fun w9 h9 => List.mem_cons_of_mem _ (i_Bm w9 h9)) hown hK hP 0 rfl rfl 21 (by decide) (hts _ (List.mem_cons_of_mem _ gk_940)) (fun _ h9 => h9) rfl d_Bm_digest_79 ?_
                    refine lv_iload_n hx hb d_Bm_digest_82 rfl (lv_at hl 0 rfl) ?_
                    refine va_iald hx hb hK hP 4 1 rfl rfl (vp_lit rfl) d_Bm_digest_83 ?_
                    rw [show (kS (5 : Int32).toNatClampNeg : Int32) = kS 5 from rfl]
                    refine va_iast hx hb hK hP hD hS 3 1 rfl rfl (vp_lit rfl) d_Bm_digest_84 (fun H locs hP hD hS => ?_)
                    have hfe : upd (upd (upd (upd (upd (upd st 0 (kS 0)) 1 (kS 1)) 2 (kS 2)) 3 (kS 3)) 4 (kS 4)) (5 : Int32).toNatClampNeg (kS 5) = upd (upd (upd (upd (upd (upd st 0 (kS 0)) 1 (kS 1)) 2 (kS 2)) 3 (kS 3)) 4 (kS 4)) 5 (kS 5) := rfl
                    have hP : va_P (dC, dI) classes [(m0, .inr (8, [.int z0, .int z1, .int z2, .int z3, .long z4, .long z5, .long z6, .long z7, .long z8, .long z9, .int z10, .ref a0, .ref a1, .ref a2, .ref a3, .ref a4, .ref a5, .ref a6, .ref a7, .ref a8, .ref a9, .ref b0, .ref b1, .int (nI ((8 * pdl L - 8) + 8)), .ref b2, .ref b3, .ref b4, .ref b5])), (a7, .inl (cI, 256, .inl (o8 (zz (upd bf (8 * L) 128) (8 * L + 1) (8 * pdl L - 9 - 8 * L)) (8 * pdl L - 8) ((nI (8 * (8 * L)) : Int32).toInt64)))), (a8, .inl (cI, 64, .inl sc)), (a9, .inl (cI, 8, .inl (upd (upd (upd (upd (upd (upd st 0 (kS 0)) 1 (kS 1)) 2 (kS 2)) 3 (kS 3)) 4 (kS 4)) (5 : Int32).toNatClampNeg (kS 5)))), (b0, .inl (cI, 8, .inl kS)), (b1, .inl (cI, 64, .inl kR)), (a2, .inl (cJ, 4, .inr (.inl tf)))] H := hP
                    have hD : va_D A [(m0, .inr (8, [.int z0, .int z1, .int z2, .int z3, .long z4, .long z5, .long z6, .long z7, .long z8, .long z9, .int z10, .ref a0, .ref a1, .ref a2, .ref a3, .ref a4, .ref a5, .ref a6, .ref a7, .ref a8, .ref a9, .ref b0, .ref b1, .int (nI ((8 * pdl L - 8) + 8)), .ref b2, .ref b3, .ref b4, .ref b5])), (a7, .inl (cI, 256, .inl (o8 (zz (upd bf (8 * L) 128) (8 * L + 1) (8 * pdl L - 9 - 8 * L)) (8 * pdl L - 8) ((nI (8 * (8 * L)) : Int32).toInt64)))), (a8, .inl (cI, 64, .inl sc)), (a9, .inl (cI, 8, .inl (upd (upd (upd (upd (upd (upd st 0 (kS 0)) 1 (kS 1)) 2 (kS 2)) 3 (kS 3)) 4 (kS 4)) (5 : Int32).toNatClampNeg (kS 5)))), (b0, .inl (cI, 8, .inl kS)), (b1, .inl (cI, 64, .inl kR)), (a2, .inl (cJ, 4, .inr (.inl tf)))] := hD
                    rw [hfe] at hP hD
                    obtain ⟨i_14, ei_14⟩ : ∃ y : Int32, y = 5 + 1 := ⟨_, rfl⟩
                    refine lv_iinc (v := i_14) (lv' := [(2, .int i_14), (0, .ref m0), (1, .int (nI (8 * (8 * L))))]) hx hb d_Bm_digest_85 hl (k := 0) rfl (by rw [ei_14]; rfl) (by decide) rfl (fun ls hl => ?_)
                    obtain rfl : i_14 = 6 := by rw [ei_14]; exact by decide
                    refine lv_goto (tgt := 67) hx hb d_Bm_digest_88 (by decide) ?_
                    refine lv_iload_n hx hb d_Bm_digest_67 rfl (lv_at hl 0 rfl) ?_
                    refine lv_bipush (v := 8) hx hb d_Bm_digest_68 (by decide) ?_
                    refine lv_icmp_ge (tgt := 91) hx hb d_Bm_digest_70 (by decide) (fun c_15 => ?_) (fun c_15 => ?_)
                    · -- taken
                      exact absurd c_15 (by decide)
                    · -- not taken
                      refine lv_aload_n hx hb d_Bm_digest_73 rfl (lv_at hl 1 rfl) ?_
                      refine va_get (D := (dC, dI)) (ci := 8) (v := .ref a9) (C := "BallotBoardModel") (T := F_Bm) (N := 28) hx hb hts (fun w9 h9 => List.mem_cons_of_mem _ (i_Bm w9 h9)) hown hK hP 0 rfl rfl 20 (by decide) (hts _ (List.mem_cons_of_mem _ gk_939)) (fun _ h9 => h9) rfl d_Bm_digest_74 ?_
                      refine lv_iload_n hx hb d_Bm_digest_77 rfl (lv_at hl 0 rfl) ?_
                      refine lv_aload_n hx hb d_Bm_digest_78 rfl (lv_at hl 1 rfl) ?_
                      refine va_get (D := (dC, dI)) (ci := 8) (v := .ref b0) (C := "BallotBoardModel") (T := F_Bm) (N := 28) hx hb hts (fun w9 h9 => List.mem_cons_of_mem _ (i_Bm w9 h9)) hown hK hP 0 rfl rfl 21 (by decide) (hts _ (List.mem_cons_of_mem _ gk_940)) (fun _ h9 => h9) rfl d_Bm_digest_79 ?_
                      refine lv_iload_n hx hb d_Bm_digest_82 rfl (lv_at hl 0 rfl) ?_
                      refine va_iald hx hb hK hP 4 1 rfl rfl (vp_lit rfl) d_Bm_digest_83 ?_
                      rw [show (kS (6 : Int32).toNatClampNeg : Int32) = kS 6 from rfl]
                      refine va_iast hx hb hK hP hD hS 3 1 rfl rfl (vp_lit rfl) d_Bm_digest_84 (fun H locs hP hD hS => ?_)
                      have hfe : upd (upd (upd (upd (upd (upd (upd st 0 (kS 0)) 1 (kS 1)) 2 (kS 2)) 3 (kS 3)) 4 (kS 4)) 5 (kS 5)) (6 : Int32).toNatClampNeg (kS 6) = upd (upd (upd (upd (upd (upd (upd st 0 (kS 0)) 1 (kS 1)) 2 (kS 2)) 3 (kS 3)) 4 (kS 4)) 5 (kS 5)) 6 (kS 6) := rfl
                      have hP : va_P (dC, dI) classes [(m0, .inr (8, [.int z0, .int z1, .int z2, .int z3, .long z4, .long z5, .long z6, .long z7, .long z8, .long z9, .int z10, .ref a0, .ref a1, .ref a2, .ref a3, .ref a4, .ref a5, .ref a6, .ref a7, .ref a8, .ref a9, .ref b0, .ref b1, .int (nI ((8 * pdl L - 8) + 8)), .ref b2, .ref b3, .ref b4, .ref b5])), (a7, .inl (cI, 256, .inl (o8 (zz (upd bf (8 * L) 128) (8 * L + 1) (8 * pdl L - 9 - 8 * L)) (8 * pdl L - 8) ((nI (8 * (8 * L)) : Int32).toInt64)))), (a8, .inl (cI, 64, .inl sc)), (a9, .inl (cI, 8, .inl (upd (upd (upd (upd (upd (upd (upd st 0 (kS 0)) 1 (kS 1)) 2 (kS 2)) 3 (kS 3)) 4 (kS 4)) 5 (kS 5)) (6 : Int32).toNatClampNeg (kS 6)))), (b0, .inl (cI, 8, .inl kS)), (b1, .inl (cI, 64, .inl kR)), (a2, .inl (cJ, 4, .inr (.inl tf)))] H := hP
                      have hD : va_D A [(m0, .inr (8, [.int z0, .int z1, .int z2, .int z3, .long z4, .long z5, .long z6, .long z7, .long z8, .long z9, .int z10, .ref a0, .ref a1, .ref a2, .ref a3, .ref a4, .ref a5, .ref a6, .ref a7, .ref a8, .ref a9, .ref b0, .ref b1, .int (nI ((8 * pdl L - 8) + 8)), .ref b2, .ref b3, .ref b4, .ref b5])), (a7, .inl (cI, 256, .inl (o8 (zz (upd bf (8 * L) 128) (8 * L + 1) (8 * pdl L - 9 - 8 * L)) (8 * pdl L - 8) ((nI (8 * (8 * L)) : Int32).toInt64)))), (a8, .inl (cI, 64, .inl sc)), (a9, .inl (cI, 8, .inl (upd (upd (upd (upd (upd (upd (upd st 0 (kS 0)) 1 (kS 1)) 2 (kS 2)) 3 (kS 3)) 4 (kS 4)) 5 (kS 5)) (6 : Int32).toNatClampNeg (kS 6)))), (b0, .inl (cI, 8, .inl kS)), (b1, .inl (cI, 64, .inl kR)), (a2, .inl (cJ, 4, .inr (.inl tf)))] := hD
                      rw [hfe] at hP hD
                      obtain ⟨i_16, ei_16⟩ : ∃ y : Int32, y = 6 + 1 := ⟨_, rfl⟩
                      refine lv_iinc (v := i_16) (lv' := [(2, .int i_16), (0, .ref m0), (1, .int (nI (8 * (8 * L))))]) hx hb d_Bm_digest_85 hl (k := 0) rfl (by rw [ei_16]; rfl) (by decide) rfl (fun ls hl => ?_)
                      obtain rfl : i_16 = 7 := by rw [ei_16]; exact by decide
                      refine lv_goto (tgt := 67) hx hb d_Bm_digest_88 (by decide) ?_
                      refine lv_iload_n hx hb d_Bm_digest_67 rfl (lv_at hl 0 rfl) ?_
                      refine lv_bipush (v := 8) hx hb d_Bm_digest_68 (by decide) ?_
                      refine lv_icmp_ge (tgt := 91) hx hb d_Bm_digest_70 (by decide) (fun c_17 => ?_) (fun c_17 => ?_)
                      · -- taken
                        exact absurd c_17 (by decide)
                      · -- not taken
                        refine lv_aload_n hx hb d_Bm_digest_73 rfl (lv_at hl 1 rfl) ?_
                        refine va_get (D := (dC, dI)) (ci := 8) (v := .ref a9) (C := "BallotBoardModel") (T := F_Bm) (N := 28) hx hb hts (fun w9 h9 => List.mem_cons_of_mem _ (i_Bm w9 h9)) hown hK hP 0 rfl rfl 20 (by decide) (hts _ (List.mem_cons_of_mem _ gk_939)) (fun _ h9 => h9) rfl d_Bm_digest_74 ?_
                        refine lv_iload_n hx hb d_Bm_digest_77 rfl (lv_at hl 0 rfl) ?_
                        refine lv_aload_n hx hb d_Bm_digest_78 rfl (lv_at hl 1 rfl) ?_
                        refine va_get (D := (dC, dI)) (ci := 8) (v := .ref b0) (C := "BallotBoardModel") (T := F_Bm) (N := 28) hx hb hts (fun w9 h9 => List.mem_cons_of_mem _ (i_Bm w9 h9)) hown hK hP 0 rfl rfl 21 (by decide) (hts _ (List.mem_cons_of_mem _ gk_940)) (fun _ h9 => h9) rfl d_Bm_digest_79 ?_
                        refine lv_iload_n hx hb d_Bm_digest_82 rfl (lv_at hl 0 rfl) ?_
                        refine va_iald hx hb hK hP 4 1 rfl rfl (vp_lit rfl) d_Bm_digest_83 ?_
                        rw [show (kS (7 : Int32).toNatClampNeg : Int32) = kS 7 from rfl]
                        refine va_iast hx hb hK hP hD hS 3 1 rfl rfl (vp_lit rfl) d_Bm_digest_84 (fun H locs hP hD hS => ?_)
                        have hfe : upd (upd (upd (upd (upd (upd (upd (upd st 0 (kS 0)) 1 (kS 1)) 2 (kS 2)) 3 (kS 3)) 4 (kS 4)) 5 (kS 5)) 6 (kS 6)) (7 : Int32).toNatClampNeg (kS 7) = upd (upd (upd (upd (upd (upd (upd (upd st 0 (kS 0)) 1 (kS 1)) 2 (kS 2)) 3 (kS 3)) 4 (kS 4)) 5 (kS 5)) 6 (kS 6)) 7 (kS 7) := rfl
                        have hP : va_P (dC, dI) classes [(m0, .inr (8, [.int z0, .int z1, .int z2, .int z3, .long z4, .long z5, .long z6, .long z7, .long z8, .long z9, .int z10, .ref a0, .ref a1, .ref a2, .ref a3, .ref a4, .ref a5, .ref a6, .ref a7, .ref a8, .ref a9, .ref b0, .ref b1, .int (nI ((8 * pdl L - 8) + 8)), .ref b2, .ref b3, .ref b4, .ref b5])), (a7, .inl (cI, 256, .inl (o8 (zz (upd bf (8 * L) 128) (8 * L + 1) (8 * pdl L - 9 - 8 * L)) (8 * pdl L - 8) ((nI (8 * (8 * L)) : Int32).toInt64)))), (a8, .inl (cI, 64, .inl sc)), (a9, .inl (cI, 8, .inl (upd (upd (upd (upd (upd (upd (upd (upd st 0 (kS 0)) 1 (kS 1)) 2 (kS 2)) 3 (kS 3)) 4 (kS 4)) 5 (kS 5)) 6 (kS 6)) (7 : Int32).toNatClampNeg (kS 7)))), (b0, .inl (cI, 8, .inl kS)), (b1, .inl (cI, 64, .inl kR)), (a2, .inl (cJ, 4, .inr (.inl tf)))] H := hP
                        have hD : va_D A [(m0, .inr (8, [.int z0, .int z1, .int z2, .int z3, .long z4, .long z5, .long z6, .long z7, .long z8, .long z9, .int z10, .ref a0, .ref a1, .ref a2, .ref a3, .ref a4, .ref a5, .ref a6, .ref a7, .ref a8, .ref a9, .ref b0, .ref b1, .int (nI ((8 * pdl L - 8) + 8)), .ref b2, .ref b3, .ref b4, .ref b5])), (a7, .inl (cI, 256, .inl (o8 (zz (upd bf (8 * L) 128) (8 * L + 1) (8 * pdl L - 9 - 8 * L)) (8 * pdl L - 8) ((nI (8 * (8 * L)) : Int32).toInt64)))), (a8, .inl (cI, 64, .inl sc)), (a9, .inl (cI, 8, .inl (upd (upd (upd (upd (upd (upd (upd (upd st 0 (kS 0)) 1 (kS 1)) 2 (kS 2)) 3 (kS 3)) 4 (kS 4)) 5 (kS 5)) 6 (kS 6)) (7 : Int32).toNatClampNeg (kS 7)))), (b0, .inl (cI, 8, .inl kS)), (b1, .inl (cI, 64, .inl kR)), (a2, .inl (cJ, 4, .inr (.inl tf)))] := hD
                        rw [hfe] at hP hD
                        obtain ⟨i_18, ei_18⟩ : ∃ y : Int32, y = 7 + 1 := ⟨_, rfl⟩
                        refine lv_iinc (v := i_18) (lv' := [(2, .int i_18), (0, .ref m0), (1, .int (nI (8 * (8 * L))))]) hx hb d_Bm_digest_85 hl (k := 0) rfl (by rw [ei_18]; rfl) (by decide) rfl (fun ls hl => ?_)
                        obtain rfl : i_18 = 8 := by rw [ei_18]; exact by decide
                        refine lv_goto (tgt := 67) hx hb d_Bm_digest_88 (by decide) ?_
                        refine lv_iload_n hx hb d_Bm_digest_67 rfl (lv_at hl 0 rfl) ?_
                        refine lv_bipush (v := 8) hx hb d_Bm_digest_68 (by decide) ?_
                        refine lv_icmp_ge (tgt := 91) hx hb d_Bm_digest_70 (by decide) (fun c_19 => ?_) (fun c_19 => ?_)
                        · -- taken
                          refine lv_iconst (v := 0) hx hb d_Bm_digest_91 (by decide) ?_
                          refine lv_istore_n (lv' := [(2, .int 0), (0, .ref m0), (1, .int (nI (8 * (8 * L))))]) hx hb d_Bm_digest_92 rfl hl (by decide) rfl (fun ls hl => ?_)
                          have hP : va_P (dC, dI) classes (mo_ws m0 z0 z1 z2 z3 z4 z5 z6 z7 z8 z9 z10 a0 a1 a2 a3 a4 a5 a6 a7 a8 a9 b0 b1 (8 * pdl L) b2 b3 b4 b5 ++ (iw_ws a7 cI 256 (bpw bf L) ++ (iw_ws a8 cI 64 sc ++ (iw_ws a9 cI 8 (hc8 st) ++ (iw_ws b0 cI 8 kS ++ (iw_ws b1 cI 64 kR ++ (jw_ws a2 cJ 4 tf))))))) H := by rw [show 8 * pdl L = 8 * pdl L - 8 + 8 by omega]; exact hP
                          have hD : va_D A (mo_ws m0 z0 z1 z2 z3 z4 z5 z6 z7 z8 z9 z10 a0 a1 a2 a3 a4 a5 a6 a7 a8 a9 b0 b1 (8 * pdl L) b2 b3 b4 b5 ++ (iw_ws a7 cI 256 (bpw bf L) ++ (iw_ws a8 cI 64 sc ++ (iw_ws a9 cI 8 (hc8 st) ++ (iw_ws b0 cI 8 kS ++ (iw_ws b1 cI 64 kR ++ (jw_ws a2 cJ 4 tf))))))) := by rw [show 8 * pdl L = 8 * pdl L - 8 + 8 by omega]; exact hD
                          exact loop2 (pdl L / 8) 0 (by omega) H locs hS hP hD ls (lv_sub hl [1, 2, 0] rfl)
                        · -- not taken
                          exact absurd c_19 (by decide)
      · -- not taken
        have hk9 : ¬ (8 * L + 1 + k) % 64 = 56 := fun h => c_1 (by rw [h]; rfl)
        have hk8 : k < 8 * pdl L - 9 - 8 * L := by omega
        refine lv_aload_n hx hb d_Bm_digest_39 rfl (lv_at hl 0 rfl) ?_
        refine va_get (D := (dC, dI)) (ci := 8) (v := .ref a7) (C := "BallotBoardModel") (T := F_Bm) (N := 28) hx hb hts (fun w9 h9 => List.mem_cons_of_mem _ (i_Bm w9 h9)) hown hK hP 0 rfl rfl 18 (by decide) (hts _ (List.mem_cons_of_mem _ gk_937)) (fun _ h9 => h9) rfl d_Bm_digest_40 ?_
        refine lv_aload_n hx hb d_Bm_digest_43 rfl (lv_at hl 0 rfl) ?_
        refine lv_dup hx hb d_Bm_digest_44 rfl ?_
        refine va_get (D := (dC, dI)) (ci := 8) (v := .int (nI (8 * L + 1 + k))) (C := "BallotBoardModel") (T := F_Bm) (N := 28) hx hb hts (fun w9 h9 => List.mem_cons_of_mem _ (i_Bm w9 h9)) hown hK hP 0 rfl rfl 23 (by decide) (hts _ (List.mem_cons_of_mem _ gk_942)) (fun _ h9 => h9) rfl d_Bm_digest_45 ?_
        refine lv_dup_x1 hx hb d_Bm_digest_48 rfl rfl ?_
        refine lv_iconst (v := 1) hx hb d_Bm_digest_49 (by decide) ?_
        refine lv_iadd hx hb d_Bm_digest_50 ?_
        rw [show ((nI (8 * L + 1 + k)) + 1 : Int32) = (nI (8 * L + 1 + (k + 1))) from nI_1 _]
        refine va_put (D := (dC, dI)) (ci := 8) (v := .int (nI (8 * L + 1 + (k + 1)))) (ty := .int) (C := "BallotBoardModel") (T := F_Bm) (N := 28) hx hb hts (fun w9 h9 => List.mem_cons_of_mem _ (i_Bm w9 h9)) t_Bm t_Bm_ok n_Bm hown hK hP hD hS 0 rfl rfl 23 (by decide) (hts _ (List.mem_cons_of_mem _ gk_942)) (fun _ h9 => h9) rfl (by decide +kernel) rfl rfl (Nat.le_of_ble_eq_true rfl) d_Bm_digest_51 (fun H locs hP hD hS => ?_)
        have hP : va_P (dC, dI) classes [(m0, .inr (8, [.int z0, .int z1, .int z2, .int z3, .long z4, .long z5, .long z6, .long z7, .long z8, .long z9, .int z10, .ref a0, .ref a1, .ref a2, .ref a3, .ref a4, .ref a5, .ref a6, .ref a7, .ref a8, .ref a9, .ref b0, .ref b1, .int (nI (8 * L + 1 + (k + 1))), .ref b2, .ref b3, .ref b4, .ref b5])), (a7, .inl (cI, 256, .inl (zz (upd bf (8 * L) 128) (8 * L + 1) k))), (a8, .inl (cI, 64, .inl sc)), (a9, .inl (cI, 8, .inl st)), (b0, .inl (cI, 8, .inl kS)), (b1, .inl (cI, 64, .inl kR)), (a2, .inl (cJ, 4, .inr (.inl tf)))] H := hP
        have hD : va_D A [(m0, .inr (8, [.int z0, .int z1, .int z2, .int z3, .long z4, .long z5, .long z6, .long z7, .long z8, .long z9, .int z10, .ref a0, .ref a1, .ref a2, .ref a3, .ref a4, .ref a5, .ref a6, .ref a7, .ref a8, .ref a9, .ref b0, .ref b1, .int (nI (8 * L + 1 + (k + 1))), .ref b2, .ref b3, .ref b4, .ref b5])), (a7, .inl (cI, 256, .inl (zz (upd bf (8 * L) 128) (8 * L + 1) k))), (a8, .inl (cI, 64, .inl sc)), (a9, .inl (cI, 8, .inl st)), (b0, .inl (cI, 8, .inl kS)), (b1, .inl (cI, 64, .inl kR)), (a2, .inl (cJ, 4, .inr (.inl tf)))] := hD
        refine lv_iconst (v := 0) hx hb d_Bm_digest_54 (by decide) ?_
        refine va_iast hx hb hK hP hD hS 1 1 rfl rfl (vp_in_nI (by omega) (by omega)) d_Bm_digest_55 (fun H locs hP hD hS => ?_)
        have hfe : upd (zz (upd bf (8 * L) 128) (8 * L + 1) k) (nI (8 * L + 1 + k) : Int32).toNatClampNeg 0 = zz (upd bf (8 * L) 128) (8 * L + 1) (k + 1) := by rw [nI_clamp (by omega)]; rfl
        have hP : va_P (dC, dI) classes [(m0, .inr (8, [.int z0, .int z1, .int z2, .int z3, .long z4, .long z5, .long z6, .long z7, .long z8, .long z9, .int z10, .ref a0, .ref a1, .ref a2, .ref a3, .ref a4, .ref a5, .ref a6, .ref a7, .ref a8, .ref a9, .ref b0, .ref b1, .int (nI (8 * L + 1 + (k + 1))), .ref b2, .ref b3, .ref b4, .ref b5])), (a7, .inl (cI, 256, .inl (upd (zz (upd bf (8 * L) 128) (8 * L + 1) k) (nI (8 * L + 1 + k) : Int32).toNatClampNeg 0))), (a8, .inl (cI, 64, .inl sc)), (a9, .inl (cI, 8, .inl st)), (b0, .inl (cI, 8, .inl kS)), (b1, .inl (cI, 64, .inl kR)), (a2, .inl (cJ, 4, .inr (.inl tf)))] H := hP
        have hD : va_D A [(m0, .inr (8, [.int z0, .int z1, .int z2, .int z3, .long z4, .long z5, .long z6, .long z7, .long z8, .long z9, .int z10, .ref a0, .ref a1, .ref a2, .ref a3, .ref a4, .ref a5, .ref a6, .ref a7, .ref a8, .ref a9, .ref b0, .ref b1, .int (nI (8 * L + 1 + (k + 1))), .ref b2, .ref b3, .ref b4, .ref b5])), (a7, .inl (cI, 256, .inl (upd (zz (upd bf (8 * L) 128) (8 * L + 1) k) (nI (8 * L + 1 + k) : Int32).toNatClampNeg 0))), (a8, .inl (cI, 64, .inl sc)), (a9, .inl (cI, 8, .inl st)), (b0, .inl (cI, 8, .inl kS)), (b1, .inl (cI, 64, .inl kR)), (a2, .inl (cJ, 4, .inr (.inl tf)))] := hD
        rw [hfe] at hP hD
        refine lv_goto (tgt := 27) hx hb d_Bm_digest_56 (by decide) ?_
        exact ih (j - 1) (by omega) (k + 1) (by omega) H locs hS hP hD ls (lv_sub hl [0, 1] rfl)
  refine lv_bipush (v := 8) hx hb d_Bm_digest_0 (by decide) ?_
  refine lv_aload_n hx hb d_Bm_digest_2 rfl (lv_at hl 0 rfl) ?_
  refine va_get (D := (dC, dI)) (ci := 8) (v := .int (nI (8 * L))) (C := "BallotBoardModel") (T := F_Bm) (N := 28) hx hb hts (fun w9 h9 => List.mem_cons_of_mem _ (i_Bm w9 h9)) hown hK hP 0 rfl rfl 23 (by decide) (hts _ (List.mem_cons_of_mem _ gk_942)) (fun _ h9 => h9) rfl d_Bm_digest_3 ?_
  refine lv_imul hx hb d_Bm_digest_6 ?_
  rw [show (8 * (nI (8 * L)) : Int32) = (nI (8 * (8 * L))) from pk_mul 8 (8 * L)]
  refine lv_istore_n (lv' := [(1, .int (nI (8 * (8 * L)))), (0, .ref m0)]) hx hb d_Bm_digest_7 rfl hl (by decide) rfl (fun ls hl => ?_)
  refine lv_aload_n hx hb d_Bm_digest_8 rfl (lv_at hl 1 rfl) ?_
  refine va_get (D := (dC, dI)) (ci := 8) (v := .ref a7) (C := "BallotBoardModel") (T := F_Bm) (N := 28) hx hb hts (fun w9 h9 => List.mem_cons_of_mem _ (i_Bm w9 h9)) hown hK hP 0 rfl rfl 18 (by decide) (hts _ (List.mem_cons_of_mem _ gk_937)) (fun _ h9 => h9) rfl d_Bm_digest_9 ?_
  refine lv_aload_n hx hb d_Bm_digest_12 rfl (lv_at hl 1 rfl) ?_
  refine lv_dup hx hb d_Bm_digest_13 rfl ?_
  refine va_get (D := (dC, dI)) (ci := 8) (v := .int (nI (8 * L))) (C := "BallotBoardModel") (T := F_Bm) (N := 28) hx hb hts (fun w9 h9 => List.mem_cons_of_mem _ (i_Bm w9 h9)) hown hK hP 0 rfl rfl 23 (by decide) (hts _ (List.mem_cons_of_mem _ gk_942)) (fun _ h9 => h9) rfl d_Bm_digest_14 ?_
  refine lv_dup_x1 hx hb d_Bm_digest_17 rfl rfl ?_
  refine lv_iconst (v := 1) hx hb d_Bm_digest_18 (by decide) ?_
  refine lv_iadd hx hb d_Bm_digest_19 ?_
  rw [show ((nI (8 * L)) + 1 : Int32) = (nI (8 * L + 1)) from nI_1 _]
  refine va_put (D := (dC, dI)) (ci := 8) (v := .int (nI (8 * L + 1))) (ty := .int) (C := "BallotBoardModel") (T := F_Bm) (N := 28) hx hb hts (fun w9 h9 => List.mem_cons_of_mem _ (i_Bm w9 h9)) t_Bm t_Bm_ok n_Bm hown hK hP hD hS 0 rfl rfl 23 (by decide) (hts _ (List.mem_cons_of_mem _ gk_942)) (fun _ h9 => h9) rfl (by decide +kernel) rfl rfl (Nat.le_of_ble_eq_true rfl) d_Bm_digest_20 (fun H locs hP hD hS => ?_)
  have hP : va_P (dC, dI) classes [(m0, .inr (8, [.int z0, .int z1, .int z2, .int z3, .long z4, .long z5, .long z6, .long z7, .long z8, .long z9, .int z10, .ref a0, .ref a1, .ref a2, .ref a3, .ref a4, .ref a5, .ref a6, .ref a7, .ref a8, .ref a9, .ref b0, .ref b1, .int (nI (8 * L + 1)), .ref b2, .ref b3, .ref b4, .ref b5])), (a7, .inl (cI, 256, .inl bf)), (a8, .inl (cI, 64, .inl sc)), (a9, .inl (cI, 8, .inl st)), (b0, .inl (cI, 8, .inl kS)), (b1, .inl (cI, 64, .inl kR)), (a2, .inl (cJ, 4, .inr (.inl tf)))] H := hP
  have hD : va_D A [(m0, .inr (8, [.int z0, .int z1, .int z2, .int z3, .long z4, .long z5, .long z6, .long z7, .long z8, .long z9, .int z10, .ref a0, .ref a1, .ref a2, .ref a3, .ref a4, .ref a5, .ref a6, .ref a7, .ref a8, .ref a9, .ref b0, .ref b1, .int (nI (8 * L + 1)), .ref b2, .ref b3, .ref b4, .ref b5])), (a7, .inl (cI, 256, .inl bf)), (a8, .inl (cI, 64, .inl sc)), (a9, .inl (cI, 8, .inl st)), (b0, .inl (cI, 8, .inl kS)), (b1, .inl (cI, 64, .inl kR)), (a2, .inl (cJ, 4, .inr (.inl tf)))] := hD
  refine lv_sipush (v := 128) hx hb d_Bm_digest_23 (by decide) ?_
  refine va_iast hx hb hK hP hD hS 1 1 rfl rfl (vp_in_nI (by omega) (by omega)) d_Bm_digest_26 (fun H locs hP hD hS => ?_)
  have hfe : upd bf (nI (8 * L) : Int32).toNatClampNeg 128 = upd bf (8 * L) 128 := by rw [nI_clamp (by omega)]
  have hP : va_P (dC, dI) classes [(m0, .inr (8, [.int z0, .int z1, .int z2, .int z3, .long z4, .long z5, .long z6, .long z7, .long z8, .long z9, .int z10, .ref a0, .ref a1, .ref a2, .ref a3, .ref a4, .ref a5, .ref a6, .ref a7, .ref a8, .ref a9, .ref b0, .ref b1, .int (nI (8 * L + 1)), .ref b2, .ref b3, .ref b4, .ref b5])), (a7, .inl (cI, 256, .inl (upd bf (nI (8 * L) : Int32).toNatClampNeg 128))), (a8, .inl (cI, 64, .inl sc)), (a9, .inl (cI, 8, .inl st)), (b0, .inl (cI, 8, .inl kS)), (b1, .inl (cI, 64, .inl kR)), (a2, .inl (cJ, 4, .inr (.inl tf)))] H := hP
  have hD : va_D A [(m0, .inr (8, [.int z0, .int z1, .int z2, .int z3, .long z4, .long z5, .long z6, .long z7, .long z8, .long z9, .int z10, .ref a0, .ref a1, .ref a2, .ref a3, .ref a4, .ref a5, .ref a6, .ref a7, .ref a8, .ref a9, .ref b0, .ref b1, .int (nI (8 * L + 1)), .ref b2, .ref b3, .ref b4, .ref b5])), (a7, .inl (cI, 256, .inl (upd bf (nI (8 * L) : Int32).toNatClampNeg 128))), (a8, .inl (cI, 64, .inl sc)), (a9, .inl (cI, 8, .inl st)), (b0, .inl (cI, 8, .inl kS)), (b1, .inl (cI, 64, .inl kR)), (a2, .inl (cJ, 4, .inr (.inl tf)))] := hD
  rw [hfe] at hP hD
  exact loop1 (8 * pdl L - 9 - 8 * L) 0 (by omega) H locs hS hP hD ls (lv_sub hl [1, 0] rfl)
