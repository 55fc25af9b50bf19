theorem sw_out2 {x : Int32} {n : Nat} (hn : n < 2 ^ 31) (h : ¬ inN x (n + 1)) : x.toInt < 0 ∨ (n : Int) < x.toInt := by
  by_cases h0 : x < 0
  · have h1 := Int32.lt_iff_toInt_lt.mp h0
    rw [Int32.toInt_zero] at h1
    exact Or.inl h1
  · obtain ⟨I, hI, rfl⟩ := i_nn h0
    right
    rw [nI_toInt hI]
    have : ¬ I < n + 1 := fun h9 => h ⟨I, rfl, h9⟩
    omega
def cntM (P Q G al pa pb n bc N : Nat) (ko so : Nat → Nat) (cl : Int32) (i : Nat) : Int64 := if i = 0 then lN P else if i = 1 then lN Q else if i = 2 then lN G else if i = 3 then lN al else if i = 4 then lN pa else if i = 5 then lN pb else if i = 6 then lN n else if i = 7 then lN bc else if i = 8 then lN (cnt ko N) else if i = 9 then lN (cnt so N) else if cl = 1 then 1 else 0
abbrev b_Bm_count : ByteArray := prog_10_method_50_code
abbrev y_Bm_count : MethodName := ⟨"BallotBoardModel", "count", "(I)J"⟩
abbrev w_Bm_count : List Cond := .code y_Bm_count b_Bm_count 4 (some .long) :: gw
theorem d_Bm_count_0 : decode b_Bm_count 0 = .ok (.aload_n 0, 1) := by decide +kernel
theorem d_Bm_count_1 : decode b_Bm_count 1 = .ok (.iconst 0, 1) := by decide +kernel
theorem d_Bm_count_2 : decode b_Bm_count 2 = .ok (.putfield 131, 3) := by decide +kernel
theorem d_Bm_count_5 : decode b_Bm_count 5 = .ok (.aload_n 0, 1) := by decide +kernel
theorem d_Bm_count_6 : decode b_Bm_count 6 = .ok (.iload_n 1, 1) := by decide +kernel
theorem d_Bm_count_7 : decode b_Bm_count 7 = .ok (.iconst 0, 1) := by decide +kernel
theorem d_Bm_count_8 : decode b_Bm_count 8 = .ok (.bipush 10, 2) := by decide +kernel
theorem d_Bm_count_10 : decode b_Bm_count 10 = .ok (.invokestatic 203, 3) := by decide +kernel
theorem d_Bm_count_13 : decode b_Bm_count 13 = .ok (.ifCond .ne 7, 3) := by decide +kernel
theorem d_Bm_count_16 : decode b_Bm_count 16 = .ok (.iconst 1, 1) := by decide +kernel
theorem d_Bm_count_17 : decode b_Bm_count 17 = .ok (.goto 4, 3) := by decide +kernel
theorem d_Bm_count_20 : decode b_Bm_count 20 = .ok (.iconst 0, 1) := by decide +kernel
theorem d_Bm_count_21 : decode b_Bm_count 21 = .ok (.iconst 1, 1) := by decide +kernel
theorem d_Bm_count_22 : decode b_Bm_count 22 = .ok (.invokevirtual 207, 3) := by decide +kernel
theorem d_Bm_count_25 : decode b_Bm_count 25 = .ok (.ifCond .eq 5, 3) := by decide +kernel
theorem d_Bm_count_28 : decode b_Bm_count 28 = .ok (.lconst 0, 1) := by decide +kernel
theorem d_Bm_count_29 : decode b_Bm_count 29 = .ok (.lreturn, 1) := by decide +kernel
theorem d_Bm_count_30 : decode b_Bm_count 30 = .ok (.iconst 0, 1) := by decide +kernel
theorem d_Bm_count_31 : decode b_Bm_count 31 = .ok (.istore_n 2, 1) := by decide +kernel
theorem d_Bm_count_32 : decode b_Bm_count 32 = .ok (.iload_n 1, 1) := by decide +kernel
theorem d_Bm_count_33 : decode b_Bm_count 33 = .ok (.tableswitch 159 0 9 #[55, 60, 65, 70, 75, 80, 85, 91, 97, 128], 55) := by decide +kernel
theorem d_Bm_count_88 : decode b_Bm_count 88 = .ok (.aload_n 0, 1) := by decide +kernel
theorem d_Bm_count_89 : decode b_Bm_count 89 = .ok (.getfield 164, 3) := by decide +kernel
theorem d_Bm_count_92 : decode b_Bm_count 92 = .ok (.lreturn, 1) := by decide +kernel
theorem d_Bm_count_93 : decode b_Bm_count 93 = .ok (.aload_n 0, 1) := by decide +kernel
theorem d_Bm_count_94 : decode b_Bm_count 94 = .ok (.getfield 168, 3) := by decide +kernel
theorem d_Bm_count_97 : decode b_Bm_count 97 = .ok (.lreturn, 1) := by decide +kernel
theorem d_Bm_count_98 : decode b_Bm_count 98 = .ok (.aload_n 0, 1) := by decide +kernel
theorem d_Bm_count_99 : decode b_Bm_count 99 = .ok (.getfield 180, 3) := by decide +kernel
theorem d_Bm_count_102 : decode b_Bm_count 102 = .ok (.lreturn, 1) := by decide +kernel
theorem d_Bm_count_103 : decode b_Bm_count 103 = .ok (.aload_n 0, 1) := by decide +kernel
theorem d_Bm_count_104 : decode b_Bm_count 104 = .ok (.getfield 224, 3) := by decide +kernel
theorem d_Bm_count_107 : decode b_Bm_count 107 = .ok (.lreturn, 1) := by decide +kernel
theorem d_Bm_count_108 : decode b_Bm_count 108 = .ok (.aload_n 0, 1) := by decide +kernel
theorem d_Bm_count_109 : decode b_Bm_count 109 = .ok (.getfield 227, 3) := by decide +kernel
theorem d_Bm_count_112 : decode b_Bm_count 112 = .ok (.lreturn, 1) := by decide +kernel
theorem d_Bm_count_113 : decode b_Bm_count 113 = .ok (.aload_n 0, 1) := by decide +kernel
theorem d_Bm_count_114 : decode b_Bm_count 114 = .ok (.getfield 230, 3) := by decide +kernel
theorem d_Bm_count_117 : decode b_Bm_count 117 = .ok (.lreturn, 1) := by decide +kernel
theorem d_Bm_count_118 : decode b_Bm_count 118 = .ok (.aload_n 0, 1) := by decide +kernel
theorem d_Bm_count_119 : decode b_Bm_count 119 = .ok (.getfield 214, 3) := by decide +kernel
theorem d_Bm_count_122 : decode b_Bm_count 122 = .ok (.i2l, 1) := by decide +kernel
theorem d_Bm_count_123 : decode b_Bm_count 123 = .ok (.lreturn, 1) := by decide +kernel
theorem d_Bm_count_124 : decode b_Bm_count 124 = .ok (.aload_n 0, 1) := by decide +kernel
theorem d_Bm_count_125 : decode b_Bm_count 125 = .ok (.getfield 217, 3) := by decide +kernel
theorem d_Bm_count_128 : decode b_Bm_count 128 = .ok (.i2l, 1) := by decide +kernel
theorem d_Bm_count_129 : decode b_Bm_count 129 = .ok (.lreturn, 1) := by decide +kernel
theorem d_Bm_count_130 : decode b_Bm_count 130 = .ok (.iconst 0, 1) := by decide +kernel
theorem d_Bm_count_131 : decode b_Bm_count 131 = .ok (.istore_n 3, 1) := by decide +kernel
theorem d_Bm_count_132 : decode b_Bm_count 132 = .ok (.iload_n 3, 1) := by decide +kernel
theorem d_Bm_count_133 : decode b_Bm_count 133 = .ok (.aload_n 0, 1) := by decide +kernel
theorem d_Bm_count_134 : decode b_Bm_count 134 = .ok (.getfield 211, 3) := by decide +kernel
theorem d_Bm_count_137 : decode b_Bm_count 137 = .ok (.if_icmp .ge 21, 3) := by decide +kernel
theorem d_Bm_count_140 : decode b_Bm_count 140 = .ok (.aload_n 0, 1) := by decide +kernel
theorem d_Bm_count_141 : decode b_Bm_count 141 = .ok (.getfield 22, 3) := by decide +kernel
theorem d_Bm_count_144 : decode b_Bm_count 144 = .ok (.iload_n 3, 1) := by decide +kernel
theorem d_Bm_count_145 : decode b_Bm_count 145 = .ok (.iaload, 1) := by decide +kernel
theorem d_Bm_count_146 : decode b_Bm_count 146 = .ok (.ifCond .lt 6, 3) := by decide +kernel
theorem d_Bm_count_149 : decode b_Bm_count 149 = .ok (.iinc 2 1, 3) := by decide +kernel
theorem d_Bm_count_152 : decode b_Bm_count 152 = .ok (.iinc 3 1, 3) := by decide +kernel
theorem d_Bm_count_155 : decode b_Bm_count 155 = .ok (.goto (-23), 3) := by decide +kernel
theorem d_Bm_count_158 : decode b_Bm_count 158 = .ok (.iload_n 2, 1) := by decide +kernel
theorem d_Bm_count_159 : decode b_Bm_count 159 = .ok (.i2l, 1) := by decide +kernel
theorem d_Bm_count_160 : decode b_Bm_count 160 = .ok (.lreturn, 1) := by decide +kernel
theorem d_Bm_count_161 : decode b_Bm_count 161 = .ok (.iconst 0, 1) := by decide +kernel
theorem d_Bm_count_162 : decode b_Bm_count 162 = .ok (.istore_n 3, 1) := by decide +kernel
theorem d_Bm_count_163 : decode b_Bm_count 163 = .ok (.iload_n 3, 1) := by decide +kernel
theorem d_Bm_count_164 : decode b_Bm_count 164 = .ok (.aload_n 0, 1) := by decide +kernel
theorem d_Bm_count_165 : decode b_Bm_count 165 = .ok (.getfield 211, 3) := by decide +kernel
theorem d_Bm_count_168 : decode b_Bm_count 168 = .ok (.if_icmp .ge 21, 3) := by decide +kernel
theorem d_Bm_count_171 : decode b_Bm_count 171 = .ok (.aload_n 0, 1) := by decide +kernel
theorem d_Bm_count_172 : decode b_Bm_count 172 = .ok (.getfield 26, 3) := by decide +kernel
theorem d_Bm_count_175 : decode b_Bm_count 175 = .ok (.iload_n 3, 1) := by decide +kernel
theorem d_Bm_count_176 : decode b_Bm_count 176 = .ok (.iaload, 1) := by decide +kernel
theorem d_Bm_count_177 : decode b_Bm_count 177 = .ok (.ifCond .lt 6, 3) := by decide +kernel
theorem d_Bm_count_180 : decode b_Bm_count 180 = .ok (.iinc 2 1, 3) := by decide +kernel
theorem d_Bm_count_183 : decode b_Bm_count 183 = .ok (.iinc 3 1, 3) := by decide +kernel
theorem d_Bm_count_186 : decode b_Bm_count 186 = .ok (.goto (-23), 3) := by decide +kernel
theorem d_Bm_count_189 : decode b_Bm_count 189 = .ok (.iload_n 2, 1) := by decide +kernel
theorem d_Bm_count_190 : decode b_Bm_count 190 = .ok (.i2l, 1) := by decide +kernel
theorem d_Bm_count_191 : decode b_Bm_count 191 = .ok (.lreturn, 1) := by decide +kernel
theorem d_Bm_count_192 : decode b_Bm_count 192 = .ok (.aload_n 0, 1) := by decide +kernel
theorem d_Bm_count_193 : decode b_Bm_count 193 = .ok (.getfield 220, 3) := by decide +kernel
theorem d_Bm_count_196 : decode b_Bm_count 196 = .ok (.ifCond .eq 7, 3) := by decide +kernel
theorem d_Bm_count_199 : decode b_Bm_count 199 = .ok (.lconst 1, 1) := by decide +kernel
theorem d_Bm_count_200 : decode b_Bm_count 200 = .ok (.goto 4, 3) := by decide +kernel
theorem d_Bm_count_203 : decode b_Bm_count 203 = .ok (.lconst 0, 1) := by decide +kernel
theorem d_Bm_count_204 : decode b_Bm_count 204 = .ok (.lreturn, 1) := by decide +kernel
set_option maxHeartbeats 8000000 in
set_option maxRecDepth 100000 in
theorem c_Bm_count_1 (l : Launch) (dC : Nat → ClassId) (dI : Nat → Nat → Nat) (cJ cI : ClassId) (sz : Nat) (m0 : Nat) (e0 : Int32) (N n bc P Q G al pa pb : Nat) (cl : Int32) (a0 a1 a2 a3 a4 a5 a6 a7 a8 a9 b0 b1 oc b2 b3 b4 b5 : Nat) (kf sf : Nat → Int32)  (ko so : Nat → Nat) (ky sh : Nat → Int64) (x1 : Int32) (hN : N ≤ 4) (hn : n ≤ 154) (hcl : cl = 0 ∨ cl = 1) (hbc : bc ≤ 64) (hrk : rK 4 n ko kf ky) (hrs : rK 4 n so sf sh) (hC : ¬ inN x1 11) : Met l y_Bm_count w_Bm_count ({ frames := 1, cells := 0, slots := 0, locals := 22 }) (va_Pc [.ref m0, .int x1] (fun U => U.heap.size = sz ∧ va_P (dC, dI) classes (mo_ws m0 e0 (nI N) (nI n) (nI bc) (lN P) (lN Q) (lN G) (lN al) (lN pa) (lN pb) cl a0 a1 a2 a3 a4 a5 a6 a7 a8 a9 b0 b1 oc b2 b3 b4 b5 ++ (iw_ws a4 cI 4 kf ++ (iw_ws a5 cI 4 sf))) U.heap ∧ va_K (dC, dI) classes [(cJ, .long), (cI, .int)] U ∧ va_D (fun _ => True) (mo_ws m0 e0 (nI N) (nI n) (nI bc) (lN P) (lN Q) (lN G) (lN al) (lN pa) (lN pb) cl a0 a1 a2 a3 a4 a5 a6 a7 a8 a9 b0 b1 oc b2 b3 b4 b5 ++ (iw_ws a4 cI 4 kf ++ (iw_ws a5 cI 4 sf))))) (va_Ql (fun (r : Int64) (_ : Unit) => True) (fun _ t => va_P (dC, dI) classes (mo_ws m0 1 (nI N) (nI n) (nI bc) (lN P) (lN Q) (lN G) (lN al) (lN pa) (lN pb) cl a0 a1 a2 a3 a4 a5 a6 a7 a8 a9 b0 b1 oc b2 b3 b4 b5 ++ (iw_ws a4 cI 4 kf ++ (iw_ws a5 cI 4 sf))) t.heap ∧ va_K (dC, dI) classes [(cJ, .long), (cI, .int)] t ∧ va_D (va_A (mo_ws m0 e0 (nI N) (nI n) (nI bc) (lN P) (lN Q) (lN G) (lN al) (lN pa) (lN pb) cl a0 a1 a2 a3 a4 a5 a6 a7 a8 a9 b0 b1 oc b2 b3 b4 b5 ++ (iw_ws a4 cI 4 kf ++ (iw_ws a5 cI 4 sf))) sz) (mo_ws m0 1 (nI N) (nI n) (nI bc) (lN P) (lN Q) (lN G) (lN al) (lN pa) (lN pb) cl a0 a1 a2 a3 a4 a5 a6 a7 a8 a9 b0 b1 oc b2 b3 b4 b5 ++ (iw_ws a4 cI 4 kf ++ (iw_ws a5 cI 4 sf)))) (va_A (mo_ws m0 e0 (nI N) (nI n) (nI bc) (lN P) (lN Q) (lN G) (lN al) (lN pa) (lN pb) cl a0 a1 a2 a3 a4 a5 a6 a7 a8 a9 b0 b1 oc b2 b3 b4 b5 ++ (iw_ws a4 cI 4 kf ++ (iw_ws a5 cI 4 sf))) sz)) 0 0 (va_A (mo_ws m0 e0 (nI N) (nI n) (nI bc) (lN P) (lN Q) (lN G) (lN al) (lN pa) (lN pb) cl a0 a1 a2 a3 a4 a5 a6 a7 a8 a9 b0 b1 oc b2 b3 b4 b5 ++ (iw_ws a4 cI 4 kf ++ (iw_ws a5 cI 4 sf))) sz) := by
  refine Met.ofW (cc := b_Bm_count) (maxL := 4) (ret := (some .long)) (by decide) rfl ?_
  intro p e s m args below meth c s₁ Bd hml hv
  obtain ⟨rfl, hsz, hP, hK, hD0⟩ := hv
  have hx := Bd.exec
  have hb := Bd.bytes
  have hr := Bd.returns
  have hts := atoms_spec (ws := w_Bm_count) Bd.pre
  have hown : s.vm.findClass "BallotBoardModel" = some m.cls := findClass_of_methodNamed Bd.named
  have hlocks := Bd.notSynchronized
  subst hsz
  have hD := hD0.self (sz := s.heap.size)
  generalize hAe : va_A (mo_ws m0 e0 (nI N) (nI n) (nI bc) (lN P) (lN Q) (lN G) (lN al) (lN pa) (lN pb) cl a0 a1 a2 a3 a4 a5 a6 a7 a8 a9 b0 b1 oc b2 b3 b4 b5 ++ (iw_ws a4 cI 4 kf ++ (iw_ws a5 cI 4 sf))) s.heap.size = A at hD ⊢
  have hA : ∀ q : Nat, s.heap.size ≤ q → A q := fun q h => by rw [← hAe]; exact Or.inr h
  have hS : va_S A s.heap s.heap [] := va_S.rf
  have hl := lv_entry ([.ref m0, .int x1]) (n := 4) (Nat.le_of_ble_eq_true rfl)
  rw [lg_entry_eq]
  generalize (lg_sl ([.ref m0, .int x1]) ++ List.replicate (4 - (lg_sl ([.ref m0, .int x1])).length) Slot.unset).toArray = ls at hl ⊢
  have hl : lv_has ls 4 [(0, .ref m0), (1, .int x1)] := hl
  refine lv_aload_n hx hb d_Bm_count_0 rfl (lv_at hl 0 rfl) ?_
  refine lv_iconst (v := 0) hx hb d_Bm_count_1 (by decide) ?_
  refine va_put (D := (dC, dI)) (ci := 8) (v := .int 0) (ty := .int) (C := "BallotBoardModel") (T := F_Bm) (N := 28) hx hb hts (fun w9 h9 => List.mem_cons_of_mem _ (i_Bm w9 h9)) t_Bm t_Bm_ok n_Bm hown hK hP hD hS 0 rfl rfl 0 (by decide) (hts _ (List.mem_cons_of_mem _ gk_919)) (fun _ h9 => h9) rfl (by decide +kernel) rfl rfl (Nat.le_of_ble_eq_true rfl) d_Bm_count_2 (fun H locs hP hD hS => ?_)
  have hP : va_P (dC, dI) classes [(m0, .inr (8, [.int 0, .int (nI N), .int (nI n), .int (nI bc), .long (lN P), .long (lN Q), .long (lN G), .long (lN al), .long (lN pa), .long (lN pb), .int cl, .ref a0, .ref a1, .ref a2, .ref a3, .ref a4, .ref a5, .ref a6, .ref a7, .ref a8, .ref a9, .ref b0, .ref b1, .int (nI oc), .ref b2, .ref b3, .ref b4, .ref b5])), (a4, .inl (cI, 4, .inl kf)), (a5, .inl (cI, 4, .inl sf))] H := hP
  have hD : va_D A [(m0, .inr (8, [.int 0, .int (nI N), .int (nI n), .int (nI bc), .long (lN P), .long (lN Q), .long (lN G), .long (lN al), .long (lN pa), .long (lN pb), .int cl, .ref a0, .ref a1, .ref a2, .ref a3, .ref a4, .ref a5, .ref a6, .ref a7, .ref a8, .ref a9, .ref b0, .ref b1, .int (nI oc), .ref b2, .ref b3, .ref b4, .ref b5])), (a4, .inl (cI, 4, .inl kf)), (a5, .inl (cI, 4, .inl sf))] := hD
  refine lv_aload_n hx hb d_Bm_count_5 rfl (lv_at hl 0 rfl) ?_
  refine lv_iload_n hx hb d_Bm_count_6 rfl (lv_at hl 1 rfl) ?_
  refine lv_iconst (v := 0) hx hb d_Bm_count_7 (by decide) ?_
  refine lv_bipush (v := 10) hx hb d_Bm_count_8 (by decide) ?_
  rw [show (10 : Int32) = (nI (11 - 1)) from rfl]
  refine va_calli (va_runS (As := [.int x1, .int 0, .int (nI (11 - 1))]) (rest := [.ref m0]) ⟨hx, hb, hml, hown, hts⟩ (c_Bm_in l H x1 0 (nI (11 - 1))) (cwS 3 hts (gw_S gk_1027 gk_1028 gk_7 gk_1029) rfl rfl rfl (by decide +kernel) ⟨Nat.le_of_ble_eq_true rfl, Nat.le_of_ble_eq_true rfl⟩) ⟨fun a U g mk q => q, fun U hU hW => ⟨rfl, hU⟩⟩ rfl rfl hl.1 rfl (lv_room (Nat.le_of_ble_eq_true rfl)) d_Bm_count_10 ⟨Nat.le_of_ble_eq_true rfl, Nat.le_of_ble_eq_true rfl⟩) hS (fun q _ h => h.elim) (fun q h => h.elim) (fun r10 u9 t9 H1 locs ht hvm hw hB hz1 hk1 hS => ?_)
  obtain rfl : H = H1 := hB.symm.trans ht
  have h10 : bz r10 (inN x1 11) := bz_in (by omega) (by omega) rfl hw
  refine lv_if_ne (tgt := 20) hx hb d_Bm_count_13 (by decide) (fun c_1 => ?_) (fun c_1 => ?_)
  · -- taken
    exact absurd (bz_t h10 c_1) hC
  · -- not taken
    have bo10 := bz_f h10 c_1
    refine lv_iconst (v := 1) hx hb d_Bm_count_16 (by decide) ?_
    refine lv_goto (tgt := 21) hx hb d_Bm_count_17 (by decide) ?_
    refine lv_iconst (v := 1) hx hb d_Bm_count_21 (by decide) ?_
    have hPc := hP.sub (ws' := (mo_ws m0 0 (nI N) (nI n) (nI bc) (lN P) (lN Q) (lN G) (lN al) (lN pa) (lN pb) cl a0 a1 a2 a3 a4 a5 a6 a7 a8 a9 b0 b1 oc b2 b3 b4 b5)) [0] rfl
    have hDc := hD.sub (ws' := (mo_ws m0 0 (nI N) (nI n) (nI bc) (lN P) (lN Q) (lN G) (lN al) (lN pa) (lN pb) cl a0 a1 a2 a3 a4 a5 a6 a7 a8 a9 b0 b1 oc b2 b3 b4 b5)) [0] (by decide) rfl
    have hKc := hK.sub (tys' := [(cJ, .long), (cI, .int)]) [0, 1] rfl
    have hFc := va_free (wc := (mo_ws m0 0 (nI N) (nI n) (nI bc) (lN P) (lN Q) (lN G) (lN al) (lN pa) (lN pb) cl a0 a1 a2 a3 a4 a5 a6 a7 a8 a9 b0 b1 oc b2 b3 b4 b5)) hD hS hA [0] rfl
    refine va_calli (va_runV (As := [.int 1, .int 1]) (rest := []) ⟨hx, hb, hml, hown, hts⟩ (c_Bm_fails_1 l dC dI cJ cI H.size m0 (nI N) (nI n) (nI bc) (lN P) (lN Q) (lN G) (lN al) (lN pa) (lN pb) cl a0 a1 a2 a3 a4 a5 a6 a7 a8 a9 b0 b1 oc b2 b3 b4 b5 1 (by decide)) (cwV 2 hts (gw_V gk_1030 gk_1032 gp_27 gk_7 gk_1033) rfl rfl rfl (by decide +kernel) ⟨Nat.le_of_ble_eq_true rfl, Nat.le_of_ble_eq_true rfl⟩) ⟨fun a U g mk q => by obtain ⟨q0, q1, qP, qK, qD⟩ := q; exact ⟨q0, q1, qP, va_K.moved (u := U) (U := U.calling g mk a) (Vm.Alike.refl U.vm) qK, qD⟩, va_recv hK hP (ci := 8) (q0 := 0) rfl rfl, fun U hU hW => ⟨rfl, by rw [hU], by rw [hU]; exact hPc, va_K.moved hW.alike hKc, hDc.weaken (fun _ _ _ _ => trivial)⟩⟩ rfl rfl hl.1 rfl (lv_room (Nat.le_of_ble_eq_true rfl)) d_Bm_count_22 ⟨Nat.le_of_ble_eq_true rfl, Nat.le_of_ble_eq_true rfl⟩) hS (fun q _ h => hFc q h) hFc (fun r_2 u9 t9 H1 locs ht hvm hw hB hz1 hk1 hS => ?_)
    have hw : r_2 = 1 := hw
    subst hw
    obtain ⟨hP1, hK1, hD1⟩ := hB
    rw [ht] at hP1
    obtain ⟨hP, hD⟩ := va_join (wr := [(a4, .inl (cI, 4, .inl kf)), (a5, .inl (cI, 4, .inl sf))]) (w1 := [(m0, .inr (8, [.int 1, .int (nI N), .int (nI n), .int (nI bc), .long (lN P), .long (lN Q), .long (lN G), .long (lN al), .long (lN pa), .long (lN pb), .int cl, .ref a0, .ref a1, .ref a2, .ref a3, .ref a4, .ref a5, .ref a6, .ref a7, .ref a8, .ref a9, .ref b0, .ref b1, .int (nI oc), .ref b2, .ref b3, .ref b4, .ref b5]))]) hP hD [0] [1, 2] rfl rfl (by decide) (by decide) hk1 hFc hP1 hD1
    have hP := hP.sub (ws' := [(m0, .inr (8, [.int 1, .int (nI N), .int (nI n), .int (nI bc), .long (lN P), .long (lN Q), .long (lN G), .long (lN al), .long (lN pa), .long (lN pb), .int cl, .ref a0, .ref a1, .ref a2, .ref a3, .ref a4, .ref a5, .ref a6, .ref a7, .ref a8, .ref a9, .ref b0, .ref b1, .int (nI oc), .ref b2, .ref b3, .ref b4, .ref b5])), (a4, .inl (cI, 4, .inl kf)), (a5, .inl (cI, 4, .inl sf))]) [2, 0, 1] rfl
    have hD := hD.sub (ws' := [(m0, .inr (8, [.int 1, .int (nI N), .int (nI n), .int (nI bc), .long (lN P), .long (lN Q), .long (lN G), .long (lN al), .long (lN pa), .long (lN pb), .int cl, .ref a0, .ref a1, .ref a2, .ref a3, .ref a4, .ref a5, .ref a6, .ref a7, .ref a8, .ref a9, .ref b0, .ref b1, .int (nI oc), .ref b2, .ref b3, .ref b4, .ref b5])), (a4, .inl (cI, 4, .inl kf)), (a5, .inl (cI, 4, .inl sf))]) [2, 0, 1] (by decide) rfl
    generalize H1 = H at hP hS ⊢
    refine lv_if_eq (tgt := 30) hx hb d_Bm_count_25 (by decide) (fun c_3 => ?_) (fun c_3 => ?_)
    · -- taken
      exact absurd c_3 (by decide)
    · -- not taken
      refine lv_lconst (v := 0) hx hb d_Bm_count_28 (by decide) ?_
      exact W.lret (v := 0) hx hb hr (fun t ht9 hW => ⟨⟨_, (), rfl, trivial, by rw [ht9]; exact hP, va_K.moved hW.alike hK, hD⟩, hS.F ht9⟩) hS.2.2 d_Bm_count_29
set_option maxHeartbeats 8000000 in
set_option maxRecDepth 100000 in
theorem c_Bm_count_0 (l : Launch) (dC : Nat → ClassId) (dI : Nat → Nat → Nat) (cJ cI : ClassId) (sz : Nat) (m0 : Nat) (e0 : Int32) (N n bc P Q G al pa pb : Nat) (cl : Int32) (a0 a1 a2 a3 a4 a5 a6 a7 a8 a9 b0 b1 oc b2 b3 b4 b5 : Nat) (kf sf : Nat → Int32)  (ko so : Nat → Nat) (ky sh : Nat → Int64) (ii : Nat) (hN : N ≤ 4) (hn : n ≤ 154) (hcl : cl = 0 ∨ cl = 1) (hbc : bc ≤ 64) (hrk : rK 4 n ko kf ky) (hrs : rK 4 n so sf sh) (hi : ii < 11) : Met l y_Bm_count w_Bm_count ({ frames := 1, cells := 0, slots := 0, locals := 22 }) (va_Pc [.ref m0, .int (nI ii)] (fun U => U.heap.size = sz ∧ va_P (dC, dI) classes (mo_ws m0 e0 (nI N) (nI n) (nI bc) (lN P) (lN Q) (lN G) (lN al) (lN pa) (lN pb) cl a0 a1 a2 a3 a4 a5 a6 a7 a8 a9 b0 b1 oc b2 b3 b4 b5 ++ (iw_ws a4 cI 4 kf ++ (iw_ws a5 cI 4 sf))) U.heap ∧ va_K (dC, dI) classes [(cJ, .long), (cI, .int)] U ∧ va_D (fun _ => True) (mo_ws m0 e0 (nI N) (nI n) (nI bc) (lN P) (lN Q) (lN G) (lN al) (lN pa) (lN pb) cl a0 a1 a2 a3 a4 a5 a6 a7 a8 a9 b0 b1 oc b2 b3 b4 b5 ++ (iw_ws a4 cI 4 kf ++ (iw_ws a5 cI 4 sf))))) (va_Ql (fun (r : Int64) (_ : Unit) => r = cntM P Q G al pa pb n bc N ko so cl ii) (fun _ t => va_P (dC, dI) classes (mo_ws m0 0 (nI N) (nI n) (nI bc) (lN P) (lN Q) (lN G) (lN al) (lN pa) (lN pb) cl a0 a1 a2 a3 a4 a5 a6 a7 a8 a9 b0 b1 oc b2 b3 b4 b5 ++ (iw_ws a4 cI 4 kf ++ (iw_ws a5 cI 4 sf))) t.heap ∧ va_K (dC, dI) classes [(cJ, .long), (cI, .int)] t ∧ va_D (va_A (mo_ws m0 e0 (nI N) (nI n) (nI bc) (lN P) (lN Q) (lN G) (lN al) (lN pa) (lN pb) cl a0 a1 a2 a3 a4 a5 a6 a7 a8 a9 b0 b1 oc b2 b3 b4 b5 ++ (iw_ws a4 cI 4 kf ++ (iw_ws a5 cI 4 sf))) sz) (mo_ws m0 0 (nI N) (nI n) (nI bc) (lN P) (lN Q) (lN G) (lN al) (lN pa) (lN pb) cl a0 a1 a2 a3 a4 a5 a6 a7 a8 a9 b0 b1 oc b2 b3 b4 b5 ++ (iw_ws a4 cI 4 kf ++ (iw_ws a5 cI 4 sf)))) (va_A (mo_ws m0 e0 (nI N) (nI n) (nI bc) (lN P) (lN Q) (lN G) (lN al) (lN pa) (lN pb) cl a0 a1 a2 a3 a4 a5 a6 a7 a8 a9 b0 b1 oc b2 b3 b4 b5 ++ (iw_ws a4 cI 4 kf ++ (iw_ws a5 cI 4 sf))) sz)) 0 0 (va_A (mo_ws m0 e0 (nI N) (nI n) (nI bc) (lN P) (lN Q) (lN G) (lN al) (lN pa) (lN pb) cl a0 a1 a2 a3 a4 a5 a6 a7 a8 a9 b0 b1 oc b2 b3 b4 b5 ++ (iw_ws a4 cI 4 kf ++ (iw_ws a5 cI 4 sf))) sz) := by
  refine Met.ofW (cc := b_Bm_count) (maxL := 4) (ret := (some .long)) (by decide) rfl ?_
  intro p e s m args below meth c s₁ Bd hml hv
  obtain ⟨rfl, hsz, hP, hK, hD0⟩ := hv
  have hx := Bd.exec
  have hb := Bd.bytes
  have hr := Bd.returns
  have hts := atoms_spec (ws := w_Bm_count) Bd.pre
  have hown : s.vm.findClass "BallotBoardModel" = some m.cls := findClass_of_methodNamed Bd.named
  have hlocks := Bd.notSynchronized
  subst hsz
  have hD := hD0.self (sz := s.heap.size)
  generalize hAe : va_A (mo_ws m0 e0 (nI N) (nI n) (nI bc) (lN P) (lN Q) (lN G) (lN al) (lN pa) (lN pb) cl a0 a1 a2 a3 a4 a5 a6 a7 a8 a9 b0 b1 oc b2 b3 b4 b5 ++ (iw_ws a4 cI 4 kf ++ (iw_ws a5 cI 4 sf))) s.heap.size = A at hD ⊢
  have hA : ∀ q : Nat, s.heap.size ≤ q → A q := fun q h => by rw [← hAe]; exact Or.inr h
  have hS : va_S A s.heap s.heap [] := va_S.rf
  have hl := lv_entry ([.ref m0, .int (nI ii)]) (n := 4) (Nat.le_of_ble_eq_true rfl)
  rw [lg_entry_eq]
  generalize (lg_sl ([.ref m0, .int (nI ii)]) ++ List.replicate (4 - (lg_sl ([.ref m0, .int (nI ii)])).length) Slot.unset).toArray = ls at hl ⊢
  have hl : lv_has ls 4 [(0, .ref m0), (1, .int (nI ii))] := hl
  refine lv_aload_n hx hb d_Bm_count_0 rfl (lv_at hl 0 rfl) ?_
  refine lv_iconst (v := 0) hx hb d_Bm_count_1 (by decide) ?_
  refine va_put (D := (dC, dI)) (ci := 8) (v := .int 0) (ty := .int) (C := "BallotBoardModel") (T := F_Bm) (N := 28) hx hb hts (fun w9 h9 => List.mem_cons_of_mem _ (i_Bm w9 h9)) t_Bm t_Bm_ok n_Bm hown hK hP hD hS 0 rfl rfl 0 (by decide) (hts _ (List.mem_cons_of_mem _ gk_919)) (fun _ h9 => h9) rfl (by decide +kernel) rfl rfl (Nat.le_of_ble_eq_true rfl) d_Bm_count_2 (fun H locs hP hD hS => ?_)
  have hP : va_P (dC, dI) classes [(m0, .inr (8, [.int 0, .int (nI N), .int (nI n), .int (nI bc), .long (lN P), .long (lN Q), .long (lN G), .long (lN al), .long (lN pa), .long (lN pb), .int cl, .ref a0, .ref a1, .ref a2, .ref a3, .ref a4, .ref a5, .ref a6, .ref a7, .ref a8, .ref a9, .ref b0, .ref b1, .int (nI oc), .ref b2, .ref b3, .ref b4, .ref b5])), (a4, .inl (cI, 4, .inl kf)), (a5, .inl (cI, 4, .inl sf))] H := hP
  have hD : va_D A [(m0, .inr (8, [.int 0, .int (nI N), .int (nI n), .int (nI bc), .long (lN P), .long (lN Q), .long (lN G), .long (lN al), .long (lN pa), .long (lN pb), .int cl, .ref a0, .ref a1, .ref a2, .ref a3, .ref a4, .ref a5, .ref a6, .ref a7, .ref a8, .ref a9, .ref b0, .ref b1, .int (nI oc), .ref b2, .ref b3, .ref b4, .ref b5])), (a4, .inl (cI, 4, .inl kf)), (a5, .inl (cI, 4, .inl sf))] := hD
  refine lv_aload_n hx hb d_Bm_count_5 rfl (lv_at hl 0 rfl) ?_
  refine lv_iload_n hx hb d_Bm_count_6 rfl (lv_at hl 1 rfl) ?_
  refine lv_iconst (v := 0) hx hb d_Bm_count_7 (by decide) ?_
  refine lv_bipush (v := 10) hx hb d_Bm_count_8 (by decide) ?_
  rw [show (10 : Int32) = (nI (11 - 1)) from rfl]
  refine va_calli (va_runS (As := [.int (nI ii), .int 0, .int (nI (11 - 1))]) (rest := [.ref m0]) ⟨hx, hb, hml, hown, hts⟩ (c_Bm_in l H (nI ii) 0 (nI (11 - 1))) (cwS 3 hts (gw_S gk_1027 gk_1028 gk_7 gk_1029) rfl rfl rfl (by decide +kernel) ⟨Nat.le_of_ble_eq_true rfl, Nat.le_of_ble_eq_true rfl⟩) ⟨fun a U g mk q => q, fun U hU hW => ⟨rfl, hU⟩⟩ rfl rfl hl.1 rfl (lv_room (Nat.le_of_ble_eq_true rfl)) d_Bm_count_10 ⟨Nat.le_of_ble_eq_true rfl, Nat.le_of_ble_eq_true rfl⟩) hS (fun q _ h => h.elim) (fun q h => h.elim) (fun r10 u9 t9 H1 locs ht hvm hw hB hz1 hk1 hS => ?_)
  obtain rfl : H = H1 := hB.symm.trans ht
  have h10 : bz r10 (inN (nI ii) 11) := bz_in (by omega) (by omega) rfl hw
  refine lv_if_ne (tgt := 20) hx hb d_Bm_count_13 (by decide) (fun c_1 => ?_) (fun c_1 => ?_)
  · -- taken
    have bo10 := bz_t h10 c_1
    refine lv_iconst (v := 0) hx hb d_Bm_count_20 (by decide) ?_
    refine lv_iconst (v := 1) hx hb d_Bm_count_21 (by decide) ?_
    have hPc := hP.sub (ws' := (mo_ws m0 0 (nI N) (nI n) (nI bc) (lN P) (lN Q) (lN G) (lN al) (lN pa) (lN pb) cl a0 a1 a2 a3 a4 a5 a6 a7 a8 a9 b0 b1 oc b2 b3 b4 b5)) [0] rfl
    have hDc := hD.sub (ws' := (mo_ws m0 0 (nI N) (nI n) (nI bc) (lN P) (lN Q) (lN G) (lN al) (lN pa) (lN pb) cl a0 a1 a2 a3 a4 a5 a6 a7 a8 a9 b0 b1 oc b2 b3 b4 b5)) [0] (by decide) rfl
    have hKc := hK.sub (tys' := [(cJ, .long), (cI, .int)]) [0, 1] rfl
    have hFc := va_free (wc := (mo_ws m0 0 (nI N) (nI n) (nI bc) (lN P) (lN Q) (lN G) (lN al) (lN pa) (lN pb) cl a0 a1 a2 a3 a4 a5 a6 a7 a8 a9 b0 b1 oc b2 b3 b4 b5)) hD hS hA [0] rfl
    refine va_calli (va_runV (As := [.int 0, .int 1]) (rest := []) ⟨hx, hb, hml, hown, hts⟩ (c_Bm_fails_0 l dC dI cJ cI H.size m0 (nI N) (nI n) (nI bc) (lN P) (lN Q) (lN G) (lN al) (lN pa) (lN pb) cl a0 a1 a2 a3 a4 a5 a6 a7 a8 a9 b0 b1 oc b2 b3 b4 b5 1) (cwV 2 hts (gw_V gk_1030 gk_1032 gp_27 gk_7 gk_1033) rfl rfl rfl (by decide +kernel) ⟨Nat.le_of_ble_eq_true rfl, Nat.le_of_ble_eq_true rfl⟩) ⟨fun a U g mk q => by obtain ⟨q0, q1, qP, qK, qD⟩ := q; exact ⟨q0, q1, qP, va_K.moved (u := U) (U := U.calling g mk a) (Vm.Alike.refl U.vm) qK, qD⟩, va_recv hK hP (ci := 8) (q0 := 0) rfl rfl, fun U hU hW => ⟨rfl, by rw [hU], by rw [hU]; exact hPc, va_K.moved hW.alike hKc, hDc.weaken (fun _ _ _ _ => trivial)⟩⟩ rfl rfl hl.1 rfl (lv_room (Nat.le_of_ble_eq_true rfl)) d_Bm_count_22 ⟨Nat.le_of_ble_eq_true rfl, Nat.le_of_ble_eq_true rfl⟩) hS (fun q _ h => hFc q h) hFc (fun r_2 u9 t9 H1 locs ht hvm hw hB hz1 hk1 hS => ?_)
    have hw : r_2 = 0 := hw
    subst hw
    obtain ⟨hP1, hK1, hD1⟩ := hB
    rw [ht] at hP1
    obtain ⟨hP, hD⟩ := va_join (wr := [(a4, .inl (cI, 4, .inl kf)), (a5, .inl (cI, 4, .inl sf))]) (w1 := [(m0, .inr (8, [.int 0, .int (nI N), .int (nI n), .int (nI bc), .long (lN P), .long (lN Q), .long (lN G), .long (lN al), .long (lN pa), .long (lN pb), .int cl, .ref a0, .ref a1, .ref a2, .ref a3, .ref a4, .ref a5, .ref a6, .ref a7, .ref a8, .ref a9, .ref b0, .ref b1, .int (nI oc), .ref b2, .ref b3, .ref b4, .ref b5]))]) hP hD [0] [1, 2] rfl rfl (by decide) (by decide) hk1 hFc hP1 hD1
    have hP := hP.sub (ws' := [(m0, .inr (8, [.int 0, .int (nI N), .int (nI n), .int (nI bc), .long (lN P), .long (lN Q), .long (lN G), .long (lN al), .long (lN pa), .long (lN pb), .int cl, .ref a0, .ref a1, .ref a2, .ref a3, .ref a4, .ref a5, .ref a6, .ref a7, .ref a8, .ref a9, .ref b0, .ref b1, .int (nI oc), .ref b2, .ref b3, .ref b4, .ref b5])), (a4, .inl (cI, 4, .inl kf)), (a5, .inl (cI, 4, .inl sf))]) [2, 0, 1] rfl
    have hD := hD.sub (ws' := [(m0, .inr (8, [.int 0, .int (nI N), .int (nI n), .int (nI bc), .long (lN P), .long (lN Q), .long (lN G), .long (lN al), .long (lN pa), .long (lN pb), .int cl, .ref a0, .ref a1, .ref a2, .ref a3, .ref a4, .ref a5, .ref a6, .ref a7, .ref a8, .ref a9, .ref b0, .ref b1, .int (nI oc), .ref b2, .ref b3, .ref b4, .ref b5])), (a4, .inl (cI, 4, .inl kf)), (a5, .inl (cI, 4, .inl sf))]) [2, 0, 1] (by decide) rfl
    generalize H1 = H at hP hS ⊢
    refine lv_if_eq (tgt := 30) hx hb d_Bm_count_25 (by decide) (fun c_3 => ?_) (fun c_3 => ?_)
    · -- taken
      refine lv_iconst (v := 0) hx hb d_Bm_count_30 (by decide) ?_
      refine lv_istore_n (lv' := [(2, .int 0), (0, .ref m0), (1, .int (nI ii))]) hx hb d_Bm_count_31 rfl hl (by decide) rfl (fun ls hl => ?_)
      refine lv_iload_n hx hb d_Bm_count_32 rfl (lv_at hl 2 rfl) ?_
      match ii, hi with
      | 0, _ =>
        refine lv_tableIn (off := 55) (tgt := 88) hx hb d_Bm_count_33 (by decide) (by decide) rfl (by decide) ?_
        refine lv_aload_n hx hb d_Bm_count_88 rfl (lv_at hl 1 rfl) ?_
        refine va_get (D := (dC, dI)) (ci := 8) (v := .long (lN P)) (C := "BallotBoardModel") (T := F_Bm) (N := 28) hx hb hts (fun w9 h9 => List.mem_cons_of_mem _ (i_Bm w9 h9)) hown hK hP 0 rfl rfl 4 (by decide) (hts _ (List.mem_cons_of_mem _ gk_923)) (fun _ h9 => h9) rfl d_Bm_count_89 ?_
        exact W.lret (v := (lN P)) hx hb hr (fun t ht9 hW => ⟨⟨_, (), rfl, rfl, by rw [ht9]; exact hP, va_K.moved hW.alike hK, hD⟩, hS.F ht9⟩) hS.2.2 d_Bm_count_92
      | 1, _ =>
        refine lv_tableIn (off := 60) (tgt := 93) hx hb d_Bm_count_33 (by decide) (by decide) rfl (by decide) ?_
        refine lv_aload_n hx hb d_Bm_count_93 rfl (lv_at hl 1 rfl) ?_
        refine va_get (D := (dC, dI)) (ci := 8) (v := .long (lN Q)) (C := "BallotBoardModel") (T := F_Bm) (N := 28) hx hb hts (fun w9 h9 => List.mem_cons_of_mem _ (i_Bm w9 h9)) hown hK hP 0 rfl rfl 5 (by decide) (hts _ (List.mem_cons_of_mem _ gk_924)) (fun _ h9 => h9) rfl d_Bm_count_94 ?_
        exact W.lret (v := (lN Q)) hx hb hr (fun t ht9 hW => ⟨⟨_, (), rfl, rfl, by rw [ht9]; exact hP, va_K.moved hW.alike hK, hD⟩, hS.F ht9⟩) hS.2.2 d_Bm_count_97
      | 2, _ =>
        refine lv_tableIn (off := 65) (tgt := 98) hx hb d_Bm_count_33 (by decide) (by decide) rfl (by decide) ?_
        refine lv_aload_n hx hb d_Bm_count_98 rfl (lv_at hl 1 rfl) ?_
        refine va_get (D := (dC, dI)) (ci := 8) (v := .long (lN G)) (C := "BallotBoardModel") (T := F_Bm) (N := 28) hx hb hts (fun w9 h9 => List.mem_cons_of_mem _ (i_Bm w9 h9)) hown hK hP 0 rfl rfl 6 (by decide) (hts _ (List.mem_cons_of_mem _ gk_925)) (fun _ h9 => h9) rfl d_Bm_count_99 ?_
        exact W.lret (v := (lN G)) hx hb hr (fun t ht9 hW => ⟨⟨_, (), rfl, rfl, by rw [ht9]; exact hP, va_K.moved hW.alike hK, hD⟩, hS.F ht9⟩) hS.2.2 d_Bm_count_102
      | 3, _ =>
        refine lv_tableIn (off := 70) (tgt := 103) hx hb d_Bm_count_33 (by decide) (by decide) rfl (by decide) ?_
        refine lv_aload_n hx hb d_Bm_count_103 rfl (lv_at hl 1 rfl) ?_
        refine va_get (D := (dC, dI)) (ci := 8) (v := .long (lN al)) (C := "BallotBoardModel") (T := F_Bm) (N := 28) hx hb hts (fun w9 h9 => List.mem_cons_of_mem _ (i_Bm w9 h9)) hown hK hP 0 rfl rfl 7 (by decide) (hts _ (List.mem_cons_of_mem _ gk_926)) (fun _ h9 => h9) rfl d_Bm_count_104 ?_
        exact W.lret (v := (lN al)) hx hb hr (fun t ht9 hW => ⟨⟨_, (), rfl, rfl, by rw [ht9]; exact hP, va_K.moved hW.alike hK, hD⟩, hS.F ht9⟩) hS.2.2 d_Bm_count_107
      | 4, _ =>
        refine lv_tableIn (off := 75) (tgt := 108) hx hb d_Bm_count_33 (by decide) (by decide) rfl (by decide) ?_
        refine lv_aload_n hx hb d_Bm_count_108 rfl (lv_at hl 1 rfl) ?_
        refine va_get (D := (dC, dI)) (ci := 8) (v := .long (lN pa)) (C := "BallotBoardModel") (T := F_Bm) (N := 28) hx hb hts (fun w9 h9 => List.mem_cons_of_mem _ (i_Bm w9 h9)) hown hK hP 0 rfl rfl 8 (by decide) (hts _ (List.mem_cons_of_mem _ gk_927)) (fun _ h9 => h9) rfl d_Bm_count_109 ?_
        exact W.lret (v := (lN pa)) hx hb hr (fun t ht9 hW => ⟨⟨_, (), rfl, rfl, by rw [ht9]; exact hP, va_K.moved hW.alike hK, hD⟩, hS.F ht9⟩) hS.2.2 d_Bm_count_112
      | 5, _ =>
        refine lv_tableIn (off := 80) (tgt := 113) hx hb d_Bm_count_33 (by decide) (by decide) rfl (by decide) ?_
        refine lv_aload_n hx hb d_Bm_count_113 rfl (lv_at hl 1 rfl) ?_
        refine va_get (D := (dC, dI)) (ci := 8) (v := .long (lN pb)) (C := "BallotBoardModel") (T := F_Bm) (N := 28) hx hb hts (fun w9 h9 => List.mem_cons_of_mem _ (i_Bm w9 h9)) hown hK hP 0 rfl rfl 9 (by decide) (hts _ (List.mem_cons_of_mem _ gk_928)) (fun _ h9 => h9) rfl d_Bm_count_114 ?_
        exact W.lret (v := (lN pb)) hx hb hr (fun t ht9 hW => ⟨⟨_, (), rfl, rfl, by rw [ht9]; exact hP, va_K.moved hW.alike hK, hD⟩, hS.F ht9⟩) hS.2.2 d_Bm_count_117
      | 6, _ =>
        refine lv_tableIn (off := 85) (tgt := 118) hx hb d_Bm_count_33 (by decide) (by decide) rfl (by decide) ?_
        refine lv_aload_n hx hb d_Bm_count_118 rfl (lv_at hl 1 rfl) ?_
        refine va_get (D := (dC, dI)) (ci := 8) (v := .int (nI n)) (C := "BallotBoardModel") (T := F_Bm) (N := 28) hx hb hts (fun w9 h9 => List.mem_cons_of_mem _ (i_Bm w9 h9)) hown hK hP 0 rfl rfl 2 (by decide) (hts _ (List.mem_cons_of_mem _ gk_921)) (fun _ h9 => h9) rfl d_Bm_count_119 ?_
        refine lv_i2l (v := (nI n : Int32).toInt64) hx hb d_Bm_count_122 rfl ?_
        exact W.lret (v := ((nI n : Int32).toInt64)) hx hb hr (fun t ht9 hW => ⟨⟨_, (), rfl, (nI_l (by omega)), by rw [ht9]; exact hP, va_K.moved hW.alike hK, hD⟩, hS.F ht9⟩) hS.2.2 d_Bm_count_123
      | 7, _ =>
        refine lv_tableIn (off := 91) (tgt := 124) hx hb d_Bm_count_33 (by decide) (by decide) rfl (by decide) ?_
        refine lv_aload_n hx hb d_Bm_count_124 rfl (lv_at hl 1 rfl) ?_
        refine va_get (D := (dC, dI)) (ci := 8) (v := .int (nI bc)) (C := "BallotBoardModel") (T := F_Bm) (N := 28) hx hb hts (fun w9 h9 => List.mem_cons_of_mem _ (i_Bm w9 h9)) hown hK hP 0 rfl rfl 3 (by decide) (hts _ (List.mem_cons_of_mem _ gk_922)) (fun _ h9 => h9) rfl d_Bm_count_125 ?_
        refine lv_i2l (v := (nI bc : Int32).toInt64) hx hb d_Bm_count_128 rfl ?_
        exact W.lret (v := ((nI bc : Int32).toInt64)) hx hb hr (fun t ht9 hW => ⟨⟨_, (), rfl, (nI_l (by omega)), by rw [ht9]; exact hP, va_K.moved hW.alike hK, hD⟩, hS.F ht9⟩) hS.2.2 d_Bm_count_129
      | 8, _ =>
        refine lv_tableIn (off := 97) (tgt := 130) hx hb d_Bm_count_33 (by decide) (by decide) rfl (by decide) ?_
        refine lv_iconst (v := 0) hx hb d_Bm_count_130 (by decide) ?_
        refine lv_istore_n (lv' := [(3, .int 0), (2, .int 0), (0, .ref m0), (1, .int (nI 8))]) hx hb d_Bm_count_131 rfl hl (by decide) rfl (fun ls hl => ?_)
        have loop132 : ∀ (j i : Nat), i + j = N → ∀ (H : Heap) (locs : List Loc), va_S A s.heap H locs → va_P (dC, dI) classes [(m0, .inr (8, [.int 0, .int (nI N), .int (nI n), .int (nI bc), .long (lN P), .long (lN Q), .long (lN G), .long (lN al), .long (lN pa), .long (lN pb), .int cl, .ref a0, .ref a1, .ref a2, .ref a3, .ref a4, .ref a5, .ref a6, .ref a7, .ref a8, .ref a9, .ref b0, .ref b1, .int (nI oc), .ref b2, .ref b3, .ref b4, .ref b5])), (a4, .inl (cI, 4, .inl kf)), (a5, .inl (cI, 4, .inl sf))] H → va_D A [(m0, .inr (8, [.int 0, .int (nI N), .int (nI n), .int (nI bc), .long (lN P), .long (lN Q), .long (lN G), .long (lN al), .long (lN pa), .long (lN pb), .int cl, .ref a0, .ref a1, .ref a2, .ref a3, .ref a4, .ref a5, .ref a6, .ref a7, .ref a8, .ref a9, .ref b0, .ref b1, .int (nI oc), .ref b2, .ref b3, .ref b4, .ref b5])), (a4, .inl (cI, 4, .inl kf)), (a5, .inl (cI, 4, .inl sf))] → ∀ (ls : Array Slot), lv_has ls 4 [(0, .ref m0), (1, .int (nI 8)), (2, .int (nI (cnt ko i))), (3, .int (nI i))] → W p l e ({ frames := 1, cells := 0, slots := 0, locals := 22 } : Room) s m ([.ref m0, .int (nI 8)] : List Value).toArray below meth c H locs 0 0 (MQ below (va_Ql (fun (r : Int64) (_ : Unit) => r = cntM P Q G al pa pb n bc N ko so cl 8) (fun _ t => va_P (dC, dI) classes (mo_ws m0 0 (nI N) (nI n) (nI bc) (lN P) (lN Q) (lN G) (lN al) (lN pa) (lN pb) cl a0 a1 a2 a3 a4 a5 a6 a7 a8 a9 b0 b1 oc b2 b3 b4 b5 ++ (iw_ws a4 cI 4 kf ++ (iw_ws a5 cI 4 sf))) t.heap ∧ va_K (dC, dI) classes [(cJ, .long), (cI, .int)] t ∧ va_D A (mo_ws m0 0 (nI N) (nI n) (nI bc) (lN P) (lN Q) (lN G) (lN al) (lN pa) (lN pb) cl a0 a1 a2 a3 a4 a5 a6 a7 a8 a9 b0 b1 oc b2 b3 b4 b5 ++ (iw_ws a4 cI 4 kf ++ (iw_ws a5 cI 4 sf)))) A) ([.ref m0, .int (nI 8)] : List Value).toArray s 0 0 A) (F0 m 132 ls []) := by
          intro j
          induction j using Nat.strongRecOn with
          | ind j ih =>
            intro i hij H locs hS hP hD ls hl
            refine lv_iload_n hx hb d_Bm_count_132 rfl (lv_at hl 3 rfl) ?_
            refine lv_aload_n hx hb d_Bm_count_133 rfl (lv_at hl 0 rfl) ?_
            refine va_get (D := (dC, dI)) (ci := 8) (v := .int (nI N)) (C := "BallotBoardModel") (T := F_Bm) (N := 28) hx hb hts (fun w9 h9 => List.mem_cons_of_mem _ (i_Bm w9 h9)) hown hK hP 0 rfl rfl 1 (by decide) (hts _ (List.mem_cons_of_mem _ gk_920)) (fun _ h9 => h9) rfl d_Bm_count_134 ?_
            refine lv_icmp_ge (tgt := 158) hx hb d_Bm_count_137 (by decide) (fun c_4 => ?_) (fun c_4 => ?_)
            · -- taken
              have hi9 : i = N := by
                have := (nI_leI (by omega) (by omega)).mp c_4
                omega
              rw [hi9] at hl
              refine lv_iload_n hx hb d_Bm_count_158 rfl (lv_at hl 2 rfl) ?_
              refine lv_i2l (v := (nI (cnt ko N) : Int32).toInt64) hx hb d_Bm_count_159 rfl ?_
              exact W.lret (v := ((nI (cnt ko N) : Int32).toInt64)) hx hb hr (fun t ht9 hW => ⟨⟨_, (), rfl, (nI_l (by have := cnt_le ko N; omega)), by rw [ht9]; exact hP, va_K.moved hW.alike hK, hD⟩, hS.F ht9⟩) hS.2.2 d_Bm_count_160
            · -- not taken
              have hi9 : i < N := Nat.lt_of_not_le (fun h => c_4 ((nI_leI (by omega) (by omega)).mpr h))
              refine lv_aload_n hx hb d_Bm_count_140 rfl (lv_at hl 0 rfl) ?_
              refine va_get (D := (dC, dI)) (ci := 8) (v := .ref a4) (C := "BallotBoardModel") (T := F_Bm) (N := 28) hx hb hts (fun w9 h9 => List.mem_cons_of_mem _ (i_Bm w9 h9)) hown hK hP 0 rfl rfl 15 (by decide) (hts _ (List.mem_cons_of_mem _ gk_934)) (fun _ h9 => h9) rfl d_Bm_count_141 ?_
              refine lv_iload_n hx hb d_Bm_count_144 rfl (lv_at hl 3 rfl) ?_
              refine va_iald hx hb hK hP 1 1 rfl rfl (vp_in_nI (by omega) (by omega)) d_Bm_count_145 ?_
              rw [show (kf (nI i : Int32).toNatClampNeg : Int32) = kf i from by rw [nI_clamp (by omega)]]
              refine lv_if_lt (tgt := 152) hx hb d_Bm_count_146 (by decide) (fun c_5 => ?_) (fun c_5 => ?_)
              · -- taken
                have hz9 : ko i = 0 := (rK_neg hrk hn (show i < 4 by omega)).mp c_5
                rw [show cnt ko i = cnt ko (i + 1) from (if_pos hz9).symm] at hl
                obtain ⟨i_6, ei_6⟩ : ∃ y : Int32, y = (nI i) + 1 := ⟨_, rfl⟩
                refine lv_iinc (v := i_6) (lv' := [(3, .int i_6), (0, .ref m0), (1, .int (nI 8)), (2, .int (nI (cnt ko (i + 1))))]) hx hb d_Bm_count_152 hl (k := 3) rfl (by rw [ei_6]; rfl) (by decide) rfl (fun ls hl => ?_)
                obtain rfl : i_6 = nI (i + 1) := by rw [ei_6]; exact nI_1 i
                refine lv_goto (tgt := 132) hx hb d_Bm_count_155 (by decide) ?_
                exact ih (j - 1) (by omega) (i + 1) (by omega) H locs hS hP hD ls (lv_sub hl [1, 2, 3, 0] rfl)
              · -- not taken
                have hz9 : ¬ ko i = 0 := fun h => c_5 ((rK_neg hrk hn (show i < 4 by omega)).mpr h)
                obtain ⟨i_7, ei_7⟩ : ∃ y : Int32, y = (nI (cnt ko i)) + 1 := ⟨_, rfl⟩
                refine lv_iinc (v := i_7) (lv' := [(2, .int i_7), (0, .ref m0), (1, .int (nI 8)), (3, .int (nI i))]) hx hb d_Bm_count_149 hl (k := 2) rfl (by rw [ei_7]; rfl) (by decide) rfl (fun ls hl => ?_)
                obtain rfl : i_7 = nI (cnt ko (i + 1)) := by rw [ei_7]; exact (nI_1 _).trans (congrArg nI (if_neg hz9).symm)
                obtain ⟨i_8, ei_8⟩ : ∃ y : Int32, y = (nI i) + 1 := ⟨_, rfl⟩
                refine lv_iinc (v := i_8) (lv' := [(3, .int i_8), (2, .int (nI (cnt ko (i + 1)))), (0, .ref m0), (1, .int (nI 8))]) hx hb d_Bm_count_152 hl (k := 3) rfl (by rw [ei_8]; rfl) (by decide) rfl (fun ls hl => ?_)
                obtain rfl : i_8 = nI (i + 1) := by rw [ei_8]; exact nI_1 i
                refine lv_goto (tgt := 132) hx hb d_Bm_count_155 (by decide) ?_
                exact ih (j - 1) (by omega) (i + 1) (by omega) H locs hS hP hD ls (lv_sub hl [2, 3, 1, 0] rfl)
        exact loop132 N 0 (by omega) H _ hS hP hD ls (lv_sub hl [2, 3, 1, 0] rfl)
      | 9, _ =>
        refine lv_tableIn (off := 128) (tgt := 161) hx hb d_Bm_count_33 (by decide) (by decide) rfl (by decide) ?_
        refine lv_iconst (v := 0) hx hb d_Bm_count_161 (by decide) ?_
        refine lv_istore_n (lv' := [(3, .int 0), (2, .int 0), (0, .ref m0), (1, .int (nI 9))]) hx hb d_Bm_count_162 rfl hl (by decide) rfl (fun ls hl => ?_)
        have loop163 : ∀ (j i : Nat), i + j = N → ∀ (H : Heap) (locs : List Loc), va_S A s.heap H locs → va_P (dC, dI) classes [(m0, .inr (8, [.int 0, .int (nI N), .int (nI n), .int (nI bc), .long (lN P), .long (lN Q), .long (lN G), .long (lN al), .long (lN pa), .long (lN pb), .int cl, .ref a0, .ref a1, .ref a2, .ref a3, .ref a4, .ref a5, .ref a6, .ref a7, .ref a8, .ref a9, .ref b0, .ref b1, .int (nI oc), .ref b2, .ref b3, .ref b4, .ref b5])), (a4, .inl (cI, 4, .inl kf)), (a5, .inl (cI, 4, .inl sf))] H → va_D A [(m0, .inr (8, [.int 0, .int (nI N), .int (nI n), .int (nI bc), .long (lN P), .long (lN Q), .long (lN G), .long (lN al), .long (lN pa), .long (lN pb), .int cl, .ref a0, .ref a1, .ref a2, .ref a3, .ref a4, .ref a5, .ref a6, .ref a7, .ref a8, .ref a9, .ref b0, .ref b1, .int (nI oc), .ref b2, .ref b3, .ref b4, .ref b5])), (a4, .inl (cI, 4, .inl kf)), (a5, .inl (cI, 4, .inl sf))] → ∀ (ls : Array Slot), lv_has ls 4 [(0, .ref m0), (1, .int (nI 9)), (2, .int (nI (cnt so i))), (3, .int (nI i))] → W p l e ({ frames := 1, cells := 0, slots := 0, locals := 22 } : Room) s m ([.ref m0, .int (nI 9)] : List Value).toArray below meth c H locs 0 0 (MQ below (va_Ql (fun (r : Int64) (_ : Unit) => r = cntM P Q G al pa pb n bc N ko so cl 9) (fun _ t => va_P (dC, dI) classes (mo_ws m0 0 (nI N) (nI n) (nI bc) (lN P) (lN Q) (lN G) (lN al) (lN pa) (lN pb) cl a0 a1 a2 a3 a4 a5 a6 a7 a8 a9 b0 b1 oc b2 b3 b4 b5 ++ (iw_ws a4 cI 4 kf ++ (iw_ws a5 cI 4 sf))) t.heap ∧ va_K (dC, dI) classes [(cJ, .long), (cI, .int)] t ∧ va_D A (mo_ws m0 0 (nI N) (nI n) (nI bc) (lN P) (lN Q) (lN G) (lN al) (lN pa) (lN pb) cl a0 a1 a2 a3 a4 a5 a6 a7 a8 a9 b0 b1 oc b2 b3 b4 b5 ++ (iw_ws a4 cI 4 kf ++ (iw_ws a5 cI 4 sf)))) A) ([.ref m0, .int (nI 9)] : List Value).toArray s 0 0 A) (F0 m 163 ls []) := by
          intro j
          induction j using Nat.strongRecOn with
          | ind j ih =>
            intro i hij H locs hS hP hD ls hl
            refine lv_iload_n hx hb d_Bm_count_163 rfl (lv_at hl 3 rfl) ?_
            refine lv_aload_n hx hb d_Bm_count_164 rfl (lv_at hl 0 rfl) ?_
            refine va_get (D := (dC, dI)) (ci := 8) (v := .int (nI N)) (C := "BallotBoardModel") (T := F_Bm) (N := 28) hx hb hts (fun w9 h9 => List.mem_cons_of_mem _ (i_Bm w9 h9)) hown hK hP 0 rfl rfl 1 (by decide) (hts _ (List.mem_cons_of_mem _ gk_920)) (fun _ h9 => h9) rfl d_Bm_count_165 ?_
            refine lv_icmp_ge (tgt := 189) hx hb d_Bm_count_168 (by decide) (fun c_9 => ?_) (fun c_9 => ?_)
            · -- taken
              have hi9 : i = N := by
                have := (nI_leI (by omega) (by omega)).mp c_9
                omega
              rw [hi9] at hl
              refine lv_iload_n hx hb d_Bm_count_189 rfl (lv_at hl 2 rfl) ?_
              refine lv_i2l (v := (nI (cnt so N) : Int32).toInt64) hx hb d_Bm_count_190 rfl ?_
              exact W.lret (v := ((nI (cnt so N) : Int32).toInt64)) hx hb hr (fun t ht9 hW => ⟨⟨_, (), rfl, (nI_l (by have := cnt_le so N; omega)), by rw [ht9]; exact hP, va_K.moved hW.alike hK, hD⟩, hS.F ht9⟩) hS.2.2 d_Bm_count_191
            · -- not taken
              have hi9 : i < N := Nat.lt_of_not_le (fun h => c_9 ((nI_leI (by omega) (by omega)).mpr h))
              refine lv_aload_n hx hb d_Bm_count_171 rfl (lv_at hl 0 rfl) ?_
              refine va_get (D := (dC, dI)) (ci := 8) (v := .ref a5) (C := "BallotBoardModel") (T := F_Bm) (N := 28) hx hb hts (fun w9 h9 => List.mem_cons_of_mem _ (i_Bm w9 h9)) hown hK hP 0 rfl rfl 16 (by decide) (hts _ (List.mem_cons_of_mem _ gk_935)) (fun _ h9 => h9) rfl d_Bm_count_172 ?_
              refine lv_iload_n hx hb d_Bm_count_175 rfl (lv_at hl 3 rfl) ?_
              refine va_iald hx hb hK hP 2 1 rfl rfl (vp_in_nI (by omega) (by omega)) d_Bm_count_176 ?_
              rw [show (sf (nI i : Int32).toNatClampNeg : Int32) = sf i from by rw [nI_clamp (by omega)]]
              refine lv_if_lt (tgt := 183) hx hb d_Bm_count_177 (by decide) (fun c_10 => ?_) (fun c_10 => ?_)
              · -- taken
                have hz9 : so i = 0 := (rK_neg hrs hn (show i < 4 by omega)).mp c_10
                rw [show cnt so i = cnt so (i + 1) from (if_pos hz9).symm] at hl
                obtain ⟨i_11, ei_11⟩ : ∃ y : Int32, y = (nI i) + 1 := ⟨_, rfl⟩
                refine lv_iinc (v := i_11) (lv' := [(3, .int i_11), (0, .ref m0), (1, .int (nI 9)), (2, .int (nI (cnt so (i + 1))))]) hx hb d_Bm_count_183 hl (k := 3) rfl (by rw [ei_11]; rfl) (by decide) rfl (fun ls hl => ?_)
                obtain rfl : i_11 = nI (i + 1) := by rw [ei_11]; exact nI_1 i
                refine lv_goto (tgt := 163) hx hb d_Bm_count_186 (by decide) ?_
                exact ih (j - 1) (by omega) (i + 1) (by omega) H locs hS hP hD ls (lv_sub hl [1, 2, 3, 0] rfl)
              · -- not taken
                have hz9 : ¬ so i = 0 := fun h => c_10 ((rK_neg hrs hn (show i < 4 by omega)).mpr h)
                obtain ⟨i_12, ei_12⟩ : ∃ y : Int32, y = (nI (cnt so i)) + 1 := ⟨_, rfl⟩
                refine lv_iinc (v := i_12) (lv' := [(2, .int i_12), (0, .ref m0), (1, .int (nI 9)), (3, .int (nI i))]) hx hb d_Bm_count_180 hl (k := 2) rfl (by rw [ei_12]; rfl) (by decide) rfl (fun ls hl => ?_)
                obtain rfl : i_12 = nI (cnt so (i + 1)) := by rw [ei_12]; exact (nI_1 _).trans (congrArg nI (if_neg hz9).symm)
                obtain ⟨i_13, ei_13⟩ : ∃ y : Int32, y = (nI i) + 1 := ⟨_, rfl⟩
                refine lv_iinc (v := i_13) (lv' := [(3, .int i_13), (2, .int (nI (cnt so (i + 1)))), (0, .ref m0), (1, .int (nI 9))]) hx hb d_Bm_count_183 hl (k := 3) rfl (by rw [ei_13]; rfl) (by decide) rfl (fun ls hl => ?_)
                obtain rfl : i_13 = nI (i + 1) := by rw [ei_13]; exact nI_1 i
                refine lv_goto (tgt := 163) hx hb d_Bm_count_186 (by decide) ?_
                exact ih (j - 1) (by omega) (i + 1) (by omega) H locs hS hP hD ls (lv_sub hl [2, 3, 1, 0] rfl)
        exact loop163 N 0 (by omega) H _ hS hP hD ls (lv_sub hl [2, 3, 1, 0] rfl)
      | 10, _ =>
        refine lv_tableOut (tgt := 192) hx hb d_Bm_count_33 (Or.inr (by decide)) (by decide) ?_
        refine lv_aload_n hx hb d_Bm_count_192 rfl (lv_at hl 1 rfl) ?_
        refine va_get (D := (dC, dI)) (ci := 8) (v := .int cl) (C := "BallotBoardModel") (T := F_Bm) (N := 28) hx hb hts (fun w9 h9 => List.mem_cons_of_mem _ (i_Bm w9 h9)) hown hK hP 0 rfl rfl 10 (by decide) (hts _ (List.mem_cons_of_mem _ gk_929)) (fun _ h9 => h9) rfl d_Bm_count_193 ?_
        refine lv_if_eq (tgt := 203) hx hb d_Bm_count_196 (by decide) (fun c_14 => ?_) (fun c_14 => ?_)
        · -- taken
          have hcl9 : ¬ cl = 1 := by rw [c_14]; decide
          refine lv_lconst (v := 0) hx hb d_Bm_count_203 (by decide) ?_
          exact W.lret (v := 0) hx hb hr (fun t ht9 hW => ⟨⟨_, (), rfl, (if_neg hcl9).symm, by rw [ht9]; exact hP, va_K.moved hW.alike hK, hD⟩, hS.F ht9⟩) hS.2.2 d_Bm_count_204
        · -- not taken
          have hcl9 : cl = 1 := hcl.resolve_left c_14
          refine lv_lconst (v := 1) hx hb d_Bm_count_199 (by decide) ?_
          refine lv_goto (tgt := 204) hx hb d_Bm_count_200 (by decide) ?_
          exact W.lret (v := 1) hx hb hr (fun t ht9 hW => ⟨⟨_, (), rfl, (if_pos hcl9).symm, by rw [ht9]; exact hP, va_K.moved hW.alike hK, hD⟩, hS.F ht9⟩) hS.2.2 d_Bm_count_204
      | ii + 11, hi => exact absurd hi (by omega)
    · -- not taken
      exact absurd rfl c_3
  · -- not taken
    exact absurd (⟨ii, rfl, hi⟩ : inN (nI ii) 11) (bz_f h10 c_1)
