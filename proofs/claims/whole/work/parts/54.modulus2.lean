abbrev b_Mo_reduced : ByteArray := prog_6_method_11_code
abbrev y_Mo_reduced : MethodName := ⟨"BallotBoard$Modulus", "reduced", "(JJ)J"⟩
abbrev w_Mo_reduced : List Cond := .code y_Mo_reduced b_Mo_reduced 17 (some .long) :: gw
theorem d_Mo_reduced_0 : decode b_Mo_reduced 0 = .ok (.lload_n 1, 1) := by decide +kernel
theorem d_Mo_reduced_1 : decode b_Mo_reduced 1 = .ok (.ldc2_w 13, 3) := by decide +kernel
theorem d_Mo_reduced_4 : decode b_Mo_reduced 4 = .ok (.land, 1) := by decide +kernel
theorem d_Mo_reduced_5 : decode b_Mo_reduced 5 = .ok (.lstore 5, 2) := by decide +kernel
theorem d_Mo_reduced_7 : decode b_Mo_reduced 7 = .ok (.lload_n 1, 1) := by decide +kernel
theorem d_Mo_reduced_8 : decode b_Mo_reduced 8 = .ok (.bipush 31, 2) := by decide +kernel
theorem d_Mo_reduced_10 : decode b_Mo_reduced 10 = .ok (.lushr, 1) := by decide +kernel
theorem d_Mo_reduced_11 : decode b_Mo_reduced 11 = .ok (.lstore 7, 2) := by decide +kernel
theorem d_Mo_reduced_13 : decode b_Mo_reduced 13 = .ok (.lload_n 3, 1) := by decide +kernel
theorem d_Mo_reduced_14 : decode b_Mo_reduced 14 = .ok (.ldc2_w 13, 3) := by decide +kernel
theorem d_Mo_reduced_17 : decode b_Mo_reduced 17 = .ok (.land, 1) := by decide +kernel
theorem d_Mo_reduced_18 : decode b_Mo_reduced 18 = .ok (.lstore 9, 2) := by decide +kernel
theorem d_Mo_reduced_20 : decode b_Mo_reduced 20 = .ok (.lload 5, 2) := by decide +kernel
theorem d_Mo_reduced_22 : decode b_Mo_reduced 22 = .ok (.lload 9, 2) := by decide +kernel
theorem d_Mo_reduced_24 : decode b_Mo_reduced 24 = .ok (.lmul, 1) := by decide +kernel
theorem d_Mo_reduced_25 : decode b_Mo_reduced 25 = .ok (.lstore 11, 2) := by decide +kernel
theorem d_Mo_reduced_27 : decode b_Mo_reduced 27 = .ok (.lload 11, 2) := by decide +kernel
theorem d_Mo_reduced_29 : decode b_Mo_reduced 29 = .ok (.aload_n 0, 1) := by decide +kernel
theorem d_Mo_reduced_30 : decode b_Mo_reduced 30 = .ok (.getfield 25, 3) := by decide +kernel
theorem d_Mo_reduced_33 : decode b_Mo_reduced 33 = .ok (.lmul, 1) := by decide +kernel
theorem d_Mo_reduced_34 : decode b_Mo_reduced 34 = .ok (.ldc2_w 13, 3) := by decide +kernel
theorem d_Mo_reduced_37 : decode b_Mo_reduced 37 = .ok (.land, 1) := by decide +kernel
theorem d_Mo_reduced_38 : decode b_Mo_reduced 38 = .ok (.lstore 13, 2) := by decide +kernel
theorem d_Mo_reduced_40 : decode b_Mo_reduced 40 = .ok (.lload 7, 2) := by decide +kernel
theorem d_Mo_reduced_42 : decode b_Mo_reduced 42 = .ok (.lload 9, 2) := by decide +kernel
theorem d_Mo_reduced_44 : decode b_Mo_reduced 44 = .ok (.lmul, 1) := by decide +kernel
theorem d_Mo_reduced_45 : decode b_Mo_reduced 45 = .ok (.lload 13, 2) := by decide +kernel
theorem d_Mo_reduced_47 : decode b_Mo_reduced 47 = .ok (.aload_n 0, 1) := by decide +kernel
theorem d_Mo_reduced_48 : decode b_Mo_reduced 48 = .ok (.getfield 18, 3) := by decide +kernel
theorem d_Mo_reduced_51 : decode b_Mo_reduced 51 = .ok (.lmul, 1) := by decide +kernel
theorem d_Mo_reduced_52 : decode b_Mo_reduced 52 = .ok (.ladd, 1) := by decide +kernel
theorem d_Mo_reduced_53 : decode b_Mo_reduced 53 = .ok (.lload 11, 2) := by decide +kernel
theorem d_Mo_reduced_55 : decode b_Mo_reduced 55 = .ok (.lload 13, 2) := by decide +kernel
theorem d_Mo_reduced_57 : decode b_Mo_reduced 57 = .ok (.aload_n 0, 1) := by decide +kernel
theorem d_Mo_reduced_58 : decode b_Mo_reduced 58 = .ok (.getfield 15, 3) := by decide +kernel
theorem d_Mo_reduced_61 : decode b_Mo_reduced 61 = .ok (.lmul, 1) := by decide +kernel
theorem d_Mo_reduced_62 : decode b_Mo_reduced 62 = .ok (.ladd, 1) := by decide +kernel
theorem d_Mo_reduced_63 : decode b_Mo_reduced 63 = .ok (.bipush 31, 2) := by decide +kernel
theorem d_Mo_reduced_65 : decode b_Mo_reduced 65 = .ok (.lushr, 1) := by decide +kernel
theorem d_Mo_reduced_66 : decode b_Mo_reduced 66 = .ok (.ladd, 1) := by decide +kernel
theorem d_Mo_reduced_67 : decode b_Mo_reduced 67 = .ok (.lstore 15, 2) := by decide +kernel
theorem d_Mo_reduced_69 : decode b_Mo_reduced 69 = .ok (.lload_n 3, 1) := by decide +kernel
theorem d_Mo_reduced_70 : decode b_Mo_reduced 70 = .ok (.bipush 31, 2) := by decide +kernel
theorem d_Mo_reduced_72 : decode b_Mo_reduced 72 = .ok (.lushr, 1) := by decide +kernel
theorem d_Mo_reduced_73 : decode b_Mo_reduced 73 = .ok (.lstore 9, 2) := by decide +kernel
theorem d_Mo_reduced_75 : decode b_Mo_reduced 75 = .ok (.lload 15, 2) := by decide +kernel
theorem d_Mo_reduced_77 : decode b_Mo_reduced 77 = .ok (.ldc2_w 13, 3) := by decide +kernel
theorem d_Mo_reduced_80 : decode b_Mo_reduced 80 = .ok (.land, 1) := by decide +kernel
theorem d_Mo_reduced_81 : decode b_Mo_reduced 81 = .ok (.lload 5, 2) := by decide +kernel
theorem d_Mo_reduced_83 : decode b_Mo_reduced 83 = .ok (.lload 9, 2) := by decide +kernel
theorem d_Mo_reduced_85 : decode b_Mo_reduced 85 = .ok (.lmul, 1) := by decide +kernel
theorem d_Mo_reduced_86 : decode b_Mo_reduced 86 = .ok (.ladd, 1) := by decide +kernel
theorem d_Mo_reduced_87 : decode b_Mo_reduced 87 = .ok (.lstore 11, 2) := by decide +kernel
theorem d_Mo_reduced_89 : decode b_Mo_reduced 89 = .ok (.lload 11, 2) := by decide +kernel
theorem d_Mo_reduced_91 : decode b_Mo_reduced 91 = .ok (.aload_n 0, 1) := by decide +kernel
theorem d_Mo_reduced_92 : decode b_Mo_reduced 92 = .ok (.getfield 25, 3) := by decide +kernel
theorem d_Mo_reduced_95 : decode b_Mo_reduced 95 = .ok (.lmul, 1) := by decide +kernel
theorem d_Mo_reduced_96 : decode b_Mo_reduced 96 = .ok (.ldc2_w 13, 3) := by decide +kernel
theorem d_Mo_reduced_99 : decode b_Mo_reduced 99 = .ok (.land, 1) := by decide +kernel
theorem d_Mo_reduced_100 : decode b_Mo_reduced 100 = .ok (.lstore 13, 2) := by decide +kernel
theorem d_Mo_reduced_102 : decode b_Mo_reduced 102 = .ok (.lload 15, 2) := by decide +kernel
theorem d_Mo_reduced_104 : decode b_Mo_reduced 104 = .ok (.bipush 31, 2) := by decide +kernel
theorem d_Mo_reduced_106 : decode b_Mo_reduced 106 = .ok (.lushr, 1) := by decide +kernel
theorem d_Mo_reduced_107 : decode b_Mo_reduced 107 = .ok (.lload 7, 2) := by decide +kernel
theorem d_Mo_reduced_109 : decode b_Mo_reduced 109 = .ok (.lload 9, 2) := by decide +kernel
theorem d_Mo_reduced_111 : decode b_Mo_reduced 111 = .ok (.lmul, 1) := by decide +kernel
theorem d_Mo_reduced_112 : decode b_Mo_reduced 112 = .ok (.ladd, 1) := by decide +kernel
theorem d_Mo_reduced_113 : decode b_Mo_reduced 113 = .ok (.lload 13, 2) := by decide +kernel
theorem d_Mo_reduced_115 : decode b_Mo_reduced 115 = .ok (.aload_n 0, 1) := by decide +kernel
theorem d_Mo_reduced_116 : decode b_Mo_reduced 116 = .ok (.getfield 18, 3) := by decide +kernel
theorem d_Mo_reduced_119 : decode b_Mo_reduced 119 = .ok (.lmul, 1) := by decide +kernel
theorem d_Mo_reduced_120 : decode b_Mo_reduced 120 = .ok (.ladd, 1) := by decide +kernel
theorem d_Mo_reduced_121 : decode b_Mo_reduced 121 = .ok (.lload 11, 2) := by decide +kernel
theorem d_Mo_reduced_123 : decode b_Mo_reduced 123 = .ok (.lload 13, 2) := by decide +kernel
theorem d_Mo_reduced_125 : decode b_Mo_reduced 125 = .ok (.aload_n 0, 1) := by decide +kernel
theorem d_Mo_reduced_126 : decode b_Mo_reduced 126 = .ok (.getfield 15, 3) := by decide +kernel
theorem d_Mo_reduced_129 : decode b_Mo_reduced 129 = .ok (.lmul, 1) := by decide +kernel
theorem d_Mo_reduced_130 : decode b_Mo_reduced 130 = .ok (.ladd, 1) := by decide +kernel
theorem d_Mo_reduced_131 : decode b_Mo_reduced 131 = .ok (.bipush 31, 2) := by decide +kernel
theorem d_Mo_reduced_133 : decode b_Mo_reduced 133 = .ok (.lushr, 1) := by decide +kernel
theorem d_Mo_reduced_134 : decode b_Mo_reduced 134 = .ok (.ladd, 1) := by decide +kernel
theorem d_Mo_reduced_135 : decode b_Mo_reduced 135 = .ok (.lstore 15, 2) := by decide +kernel
theorem d_Mo_reduced_137 : decode b_Mo_reduced 137 = .ok (.lload 15, 2) := by decide +kernel
theorem d_Mo_reduced_139 : decode b_Mo_reduced 139 = .ok (.aload_n 0, 1) := by decide +kernel
theorem d_Mo_reduced_140 : decode b_Mo_reduced 140 = .ok (.getfield 9, 3) := by decide +kernel
theorem d_Mo_reduced_143 : decode b_Mo_reduced 143 = .ok (.lcmp, 1) := by decide +kernel
theorem d_Mo_reduced_144 : decode b_Mo_reduced 144 = .ok (.ifCond .lt 13, 3) := by decide +kernel
theorem d_Mo_reduced_147 : decode b_Mo_reduced 147 = .ok (.lload 15, 2) := by decide +kernel
theorem d_Mo_reduced_149 : decode b_Mo_reduced 149 = .ok (.aload_n 0, 1) := by decide +kernel
theorem d_Mo_reduced_150 : decode b_Mo_reduced 150 = .ok (.getfield 9, 3) := by decide +kernel
theorem d_Mo_reduced_153 : decode b_Mo_reduced 153 = .ok (.lsub, 1) := by decide +kernel
theorem d_Mo_reduced_154 : decode b_Mo_reduced 154 = .ok (.goto 5, 3) := by decide +kernel
theorem d_Mo_reduced_157 : decode b_Mo_reduced 157 = .ok (.lload 15, 2) := by decide +kernel
theorem d_Mo_reduced_159 : decode b_Mo_reduced 159 = .ok (.lreturn, 1) := by decide +kernel
set_option maxHeartbeats 4000000 in
set_option maxRecDepth 100000 in
theorem c_Mo_reduced (l : Launch) (H0 : Heap) (dC : Nat → ClassId) (dI : Nat → Nat → Nat) (h0 : Nat) (N f k : Nat) (A B : Nat) (hP : va_P (dC, dI) classes [(h0, .inr (0, md_fs N f k))] H0) (hok : md_ok N f k) (hA : A < N) (hB : B < N) : Met l y_Mo_reduced w_Mo_reduced ({ frames := 0, cells := 0, slots := 0, locals := 0 }) (va_Pc [.ref h0, .long (lN A), .long (lN B)] (fun U => U.heap = H0 ∧ va_K (dC, dI) classes [] U)) (va_Ql (fun (r : Int64) (_ : Unit) => ∃ R, r = lN R ∧ R < N ∧ (R * 2 ^ 62) % N = (A * B) % N) (fun _ t => t.heap = H0) (fun _ => False)) 0 0 (fun _ => False) := by
  refine Met.ofW (cc := b_Mo_reduced) (maxL := 17) (ret := (some .long)) (by decide) rfl ?_
  intro p e s m args below meth c s₁ Bd hml hv
  obtain ⟨rfl, hH, hK⟩ := hv
  subst hH
  have hx := Bd.exec
  have hb := Bd.bytes
  have hr := Bd.returns
  have hts := atoms_spec (ws := w_Mo_reduced) Bd.pre
  have hown : s.vm.findClass "BallotBoard$Modulus" = some m.cls := findClass_of_methodNamed Bd.named
  have hlocks := Bd.notSynchronized
  have hS : va_S (fun _ => False) s.heap s.heap [] := va_S.rf
  have hl := lv_entry ([.ref h0, .long (lN A), .long (lN B)]) (n := 17) (Nat.le_of_ble_eq_true rfl)
  rw [lg_entry_eq]
  generalize (lg_sl ([.ref h0, .long (lN A), .long (lN B)]) ++ List.replicate (17 - (lg_sl ([.ref h0, .long (lN A), .long (lN B)])).length) Slot.unset).toArray = ls at hl ⊢
  have hl : lv_has ls 17 [(0, .ref h0), (1, .long (lN A)), (3, .long (lN B))] := hl
  have hK0 : va_K (dC, dI) classes [] s := hK
  obtain ⟨ho, h3, h61, hf31, hfN, hk61, hNk⟩ := id hok
  obtain ⟨s0, hs0⟩ : ∃ x, x = A / 2 ^ 31 * (B % 2 ^ 31) + (A % 2 ^ 31 * (B % 2 ^ 31) * f) % 2 ^ 31 * (N / 2 ^ 31) + (A % 2 ^ 31 * (B % 2 ^ 31) + (A % 2 ^ 31 * (B % 2 ^ 31) * f) % 2 ^ 31 * (N % 2 ^ 31)) / 2 ^ 31 := ⟨_, rfl⟩
  obtain ⟨s9, hs9⟩ : ∃ x, x = s0 / 2 ^ 31 + A / 2 ^ 31 * (B / 2 ^ 31) + ((s0 % 2 ^ 31 + A % 2 ^ 31 * (B / 2 ^ 31)) * f) % 2 ^ 31 * (N / 2 ^ 31) + (s0 % 2 ^ 31 + A % 2 ^ 31 * (B / 2 ^ 31) + ((s0 % 2 ^ 31 + A % 2 ^ 31 * (B / 2 ^ 31)) * f) % 2 ^ 31 * (N % 2 ^ 31)) / 2 ^ 31 := ⟨_, rfl⟩
  obtain ⟨hs2N, hmod⟩ := mg_main (Nat.two_pow_pos 31) hfN hA hB (by omega) hs0 hs9
  have eCC : 2 ^ 31 * 2 ^ 31 = 2 ^ 62 := by decide
  rw [eCC] at hmod
  obtain ⟨al, hal⟩ : ∃ x, x = A % 2 ^ 31 := ⟨_, rfl⟩
  obtain ⟨ah, hah⟩ : ∃ x, x = A / 2 ^ 31 := ⟨_, rfl⟩
  obtain ⟨d0, hd0⟩ : ∃ x, x = B % 2 ^ 31 := ⟨_, rfl⟩
  obtain ⟨d1, hd1⟩ : ∃ x, x = B / 2 ^ 31 := ⟨_, rfl⟩
  rw [← hal, ← hah, ← hd0] at hs0
  rw [← hal, ← hah, ← hd1] at hs9
  have l1 : al < 2 ^ 31 := by omega
  have l2 : d0 < 2 ^ 31 := by omega
  have l3 : d1 < 2 ^ 30 := by omega
  obtain ⟨b0, hb0⟩ : ∃ x, x = al * d0 := ⟨_, rfl⟩
  rw [← hb0] at hs0
  have l4 : b0 ≤ 2 ^ 31 * 2 ^ 31 := by
    rw [hb0]
    exact Nat.mul_le_mul (by omega) (by omega)
  obtain ⟨u0, hu0⟩ : ∃ x, x = (b0 * f) % 2 ^ 31 := ⟨_, rfl⟩
  rw [← hu0] at hs0
  have l5 : u0 < 2 ^ 31 := by omega
  have l6 : u0 * (N % 2 ^ 31) ≤ 2 ^ 31 * 2 ^ 31 := Nat.mul_le_mul (by omega) (by omega)
  obtain ⟨b1, hb1⟩ : ∃ x, x = s0 % 2 ^ 31 + al * d1 := ⟨_, rfl⟩
  rw [← hb1] at hs9
  have l7 : al * d1 ≤ 2 ^ 31 * 2 ^ 30 := Nat.mul_le_mul (by omega) (by omega)
  have l8 : b1 < 2 ^ 62 := by omega
  obtain ⟨u1, hu1⟩ : ∃ x, x = (b1 * f) % 2 ^ 31 := ⟨_, rfl⟩
  rw [← hu1] at hs9
  have l9 : u1 * (N % 2 ^ 31) ≤ 2 ^ 31 * 2 ^ 31 := Nat.mul_le_mul (by omega) (by omega)
  have m1 : ah * d0 ≤ 2 ^ 30 * 2 ^ 31 := Nat.mul_le_mul (by omega) (by omega)
  have m2 : u0 * (N / 2 ^ 31) ≤ 2 ^ 31 * 2 ^ 30 := Nat.mul_le_mul (by omega) (by omega)
  have l10 : s0 < 2 ^ 63 := by omega
  refine lv_lload_n hx hb d_Mo_reduced_0 rfl (lv_at hl 1 rfl) ?_
  refine lv_ldc2 (v := 2147483647) hx hb hown (hts _ (List.mem_cons_of_mem _ gk_196)) d_Mo_reduced_1 ?_
  refine lv_land hx hb d_Mo_reduced_4 ?_
  rw [show ((lN A) &&& 2147483647 : Int64) = (lN al) from by rw [hal]; exact lw_mask A]
  refine lv_lstore (lv' := [(5, .long (lN al)), (0, .ref h0), (1, .long (lN A)), (3, .long (lN B))]) hx hb d_Mo_reduced_5 hl (by decide) rfl (fun ls hl => ?_)
  refine lv_lload_n hx hb d_Mo_reduced_7 rfl (lv_at hl 2 rfl) ?_
  refine lv_bipush (v := 31) hx hb d_Mo_reduced_8 (by decide) ?_
  refine lv_lushr (v := ((lN A).toUInt64 >>> ((31 : Int32).toInt64.toUInt64 &&& Int64.toUInt64 63)).toInt64) hx hb d_Mo_reduced_10 rfl ?_
  rw [show (((lN A).toUInt64 >>> ((31 : Int32).toInt64.toUInt64 &&& Int64.toUInt64 63)).toInt64 : Int64) = (lN ah) from by rw [hah]; exact sh31 (by omega)]
  refine lv_lstore (lv' := [(7, .long (lN ah)), (5, .long (lN al)), (0, .ref h0), (1, .long (lN A)), (3, .long (lN B))]) hx hb d_Mo_reduced_11 hl (by decide) rfl (fun ls hl => ?_)
  refine lv_lload_n hx hb d_Mo_reduced_13 rfl (lv_at hl 4 rfl) ?_
  refine lv_ldc2 (v := 2147483647) hx hb hown (hts _ (List.mem_cons_of_mem _ gk_196)) d_Mo_reduced_14 ?_
  refine lv_land hx hb d_Mo_reduced_17 ?_
  rw [show ((lN B) &&& 2147483647 : Int64) = (lN d0) from by rw [hd0]; exact lw_mask B]
  refine lv_lstore (lv' := [(9, .long (lN d0)), (7, .long (lN ah)), (5, .long (lN al)), (0, .ref h0), (1, .long (lN A)), (3, .long (lN B))]) hx hb d_Mo_reduced_18 hl (by decide) rfl (fun ls hl => ?_)
  refine lv_lload hx hb d_Mo_reduced_20 (lv_at hl 2 rfl) ?_
  refine lv_lload hx hb d_Mo_reduced_22 (lv_at hl 0 rfl) ?_
  refine lv_lmul hx hb d_Mo_reduced_24 ?_
  rw [show ((lN al) * (lN d0) : Int64) = (lN b0) from by rw [hb0]; exact lN_mul _ _]
  refine lv_lstore (lv' := [(11, .long (lN b0)), (9, .long (lN d0)), (7, .long (lN ah)), (5, .long (lN al)), (0, .ref h0), (1, .long (lN A)), (3, .long (lN B))]) hx hb d_Mo_reduced_25 hl (by decide) rfl (fun ls hl => ?_)
  refine lv_lload hx hb d_Mo_reduced_27 (lv_at hl 0 rfl) ?_
  refine lv_aload_n hx hb d_Mo_reduced_29 rfl (lv_at hl 4 rfl) ?_
  refine va_get (D := (dC, dI)) (ci := 0) (v := .long (lN f)) (C := "BallotBoard$Modulus") (T := F_Mo) (N := 7) hx hb hts (fun w9 h9 => List.mem_cons_of_mem _ (i_Mo w9 h9)) hown hK hP 0 rfl rfl 3 (by decide) (hts _ (List.mem_cons_of_mem _ gk_210)) (fun _ h9 => h9) rfl d_Mo_reduced_30 ?_
  refine lv_lmul hx hb d_Mo_reduced_33 ?_
  rw [show ((lN b0) * (lN f) : Int64) = (lN (b0 * f)) from lN_mul _ _]
  refine lv_ldc2 (v := 2147483647) hx hb hown (hts _ (List.mem_cons_of_mem _ gk_196)) d_Mo_reduced_34 ?_
  refine lv_land hx hb d_Mo_reduced_37 ?_
  rw [show ((lN (b0 * f)) &&& 2147483647 : Int64) = (lN u0) from by rw [hu0]; exact lw_mask _]
  refine lv_lstore (lv' := [(13, .long (lN u0)), (11, .long (lN b0)), (9, .long (lN d0)), (7, .long (lN ah)), (5, .long (lN al)), (0, .ref h0), (1, .long (lN A)), (3, .long (lN B))]) hx hb d_Mo_reduced_38 hl (by decide) rfl (fun ls hl => ?_)
  refine lv_lload hx hb d_Mo_reduced_40 (lv_at hl 3 rfl) ?_
  refine lv_lload hx hb d_Mo_reduced_42 (lv_at hl 2 rfl) ?_
  refine lv_lmul hx hb d_Mo_reduced_44 ?_
  rw [show ((lN ah) * (lN d0) : Int64) = (lN (ah * d0)) from lN_mul _ _]
  refine lv_lload hx hb d_Mo_reduced_45 (lv_at hl 0 rfl) ?_
  refine lv_aload_n hx hb d_Mo_reduced_47 rfl (lv_at hl 5 rfl) ?_
  refine va_get (D := (dC, dI)) (ci := 0) (v := .long (lN (N / 2 ^ 31))) (C := "BallotBoard$Modulus") (T := F_Mo) (N := 7) hx hb hts (fun w9 h9 => List.mem_cons_of_mem _ (i_Mo w9 h9)) hown hK hP 0 rfl rfl 2 (by decide) (hts _ (List.mem_cons_of_mem _ gk_209)) (fun _ h9 => h9) rfl d_Mo_reduced_48 ?_
  refine lv_lmul hx hb d_Mo_reduced_51 ?_
  rw [show ((lN u0) * (lN (N / 2 ^ 31)) : Int64) = (lN (u0 * (N / 2 ^ 31))) from lN_mul _ _]
  refine lv_ladd hx hb d_Mo_reduced_52 ?_
  rw [show ((lN (ah * d0)) + (lN (u0 * (N / 2 ^ 31))) : Int64) = (lN (ah * d0 + u0 * (N / 2 ^ 31))) from lN_add _ _]
  refine lv_lload hx hb d_Mo_reduced_53 (lv_at hl 1 rfl) ?_
  refine lv_lload hx hb d_Mo_reduced_55 (lv_at hl 0 rfl) ?_
  refine lv_aload_n hx hb d_Mo_reduced_57 rfl (lv_at hl 5 rfl) ?_
  refine va_get (D := (dC, dI)) (ci := 0) (v := .long (lN (N % 2 ^ 31))) (C := "BallotBoard$Modulus") (T := F_Mo) (N := 7) hx hb hts (fun w9 h9 => List.mem_cons_of_mem _ (i_Mo w9 h9)) hown hK hP 0 rfl rfl 1 (by decide) (hts _ (List.mem_cons_of_mem _ gk_208)) (fun _ h9 => h9) rfl d_Mo_reduced_58 ?_
  refine lv_lmul hx hb d_Mo_reduced_61 ?_
  rw [show ((lN u0) * (lN (N % 2 ^ 31)) : Int64) = (lN (u0 * (N % 2 ^ 31))) from lN_mul _ _]
  refine lv_ladd hx hb d_Mo_reduced_62 ?_
  rw [show ((lN b0) + (lN (u0 * (N % 2 ^ 31))) : Int64) = (lN (b0 + u0 * (N % 2 ^ 31))) from lN_add _ _]
  refine lv_bipush (v := 31) hx hb d_Mo_reduced_63 (by decide) ?_
  refine lv_lushr (v := ((lN (b0 + u0 * (N % 2 ^ 31))).toUInt64 >>> ((31 : Int32).toInt64.toUInt64 &&& Int64.toUInt64 63)).toInt64) hx hb d_Mo_reduced_65 rfl ?_
  rw [show (((lN (b0 + u0 * (N % 2 ^ 31))).toUInt64 >>> ((31 : Int32).toInt64.toUInt64 &&& Int64.toUInt64 63)).toInt64 : Int64) = (lN ((b0 + u0 * (N % 2 ^ 31)) / 2 ^ 31)) from sh31 (by omega)]
  refine lv_ladd hx hb d_Mo_reduced_66 ?_
  rw [show ((lN (ah * d0 + u0 * (N / 2 ^ 31))) + (lN ((b0 + u0 * (N % 2 ^ 31)) / 2 ^ 31)) : Int64) = (lN s0) from by rw [hs0]; exact lN_add _ _]
  refine lv_lstore (lv' := [(15, .long (lN s0)), (13, .long (lN u0)), (11, .long (lN b0)), (9, .long (lN d0)), (7, .long (lN ah)), (5, .long (lN al)), (0, .ref h0), (1, .long (lN A)), (3, .long (lN B))]) hx hb d_Mo_reduced_67 hl (by decide) rfl (fun ls hl => ?_)
  refine lv_lload_n hx hb d_Mo_reduced_69 rfl (lv_at hl 8 rfl) ?_
  refine lv_bipush (v := 31) hx hb d_Mo_reduced_70 (by decide) ?_
  refine lv_lushr (v := ((lN B).toUInt64 >>> ((31 : Int32).toInt64.toUInt64 &&& Int64.toUInt64 63)).toInt64) hx hb d_Mo_reduced_72 rfl ?_
  rw [show (((lN B).toUInt64 >>> ((31 : Int32).toInt64.toUInt64 &&& Int64.toUInt64 63)).toInt64 : Int64) = (lN d1) from by rw [hd1]; exact sh31 (by omega)]
  refine lv_lstore (lv' := [(9, .long (lN d1)), (15, .long (lN s0)), (13, .long (lN u0)), (11, .long (lN b0)), (7, .long (lN ah)), (5, .long (lN al)), (0, .ref h0), (1, .long (lN A)), (3, .long (lN B))]) hx hb d_Mo_reduced_73 hl (by decide) rfl (fun ls hl => ?_)
  refine lv_lload hx hb d_Mo_reduced_75 (lv_at hl 1 rfl) ?_
  refine lv_ldc2 (v := 2147483647) hx hb hown (hts _ (List.mem_cons_of_mem _ gk_196)) d_Mo_reduced_77 ?_
  refine lv_land hx hb d_Mo_reduced_80 ?_
  rw [show ((lN s0) &&& 2147483647 : Int64) = (lN (s0 % 2 ^ 31)) from lw_mask _]
  refine lv_lload hx hb d_Mo_reduced_81 (lv_at hl 5 rfl) ?_
  refine lv_lload hx hb d_Mo_reduced_83 (lv_at hl 0 rfl) ?_
  refine lv_lmul hx hb d_Mo_reduced_85 ?_
  rw [show ((lN al) * (lN d1) : Int64) = (lN (al * d1)) from lN_mul _ _]
  refine lv_ladd hx hb d_Mo_reduced_86 ?_
  rw [show ((lN (s0 % 2 ^ 31)) + (lN (al * d1)) : Int64) = (lN b1) from by rw [hb1]; exact lN_add _ _]
  refine lv_lstore (lv' := [(11, .long (lN b1)), (9, .long (lN d1)), (15, .long (lN s0)), (13, .long (lN u0)), (7, .long (lN ah)), (5, .long (lN al)), (0, .ref h0), (1, .long (lN A)), (3, .long (lN B))]) hx hb d_Mo_reduced_87 hl (by decide) rfl (fun ls hl => ?_)
  refine lv_lload hx hb d_Mo_reduced_89 (lv_at hl 0 rfl) ?_
  refine lv_aload_n hx hb d_Mo_reduced_91 rfl (lv_at hl 6 rfl) ?_
  refine va_get (D := (dC, dI)) (ci := 0) (v := .long (lN f)) (C := "BallotBoard$Modulus") (T := F_Mo) (N := 7) hx hb hts (fun w9 h9 => List.mem_cons_of_mem _ (i_Mo w9 h9)) hown hK hP 0 rfl rfl 3 (by decide) (hts _ (List.mem_cons_of_mem _ gk_210)) (fun _ h9 => h9) rfl d_Mo_reduced_92 ?_
  refine lv_lmul hx hb d_Mo_reduced_95 ?_
  rw [show ((lN b1) * (lN f) : Int64) = (lN (b1 * f)) from lN_mul _ _]
  refine lv_ldc2 (v := 2147483647) hx hb hown (hts _ (List.mem_cons_of_mem _ gk_196)) d_Mo_reduced_96 ?_
  refine lv_land hx hb d_Mo_reduced_99 ?_
  rw [show ((lN (b1 * f)) &&& 2147483647 : Int64) = (lN u1) from by rw [hu1]; exact lw_mask _]
  refine lv_lstore (lv' := [(13, .long (lN u1)), (11, .long (lN b1)), (9, .long (lN d1)), (15, .long (lN s0)), (7, .long (lN ah)), (5, .long (lN al)), (0, .ref h0), (1, .long (lN A)), (3, .long (lN B))]) hx hb d_Mo_reduced_100 hl (by decide) rfl (fun ls hl => ?_)
  refine lv_lload hx hb d_Mo_reduced_102 (lv_at hl 3 rfl) ?_
  refine lv_bipush (v := 31) hx hb d_Mo_reduced_104 (by decide) ?_
  refine lv_lushr (v := ((lN s0).toUInt64 >>> ((31 : Int32).toInt64.toUInt64 &&& Int64.toUInt64 63)).toInt64) hx hb d_Mo_reduced_106 rfl ?_
  rw [show (((lN s0).toUInt64 >>> ((31 : Int32).toInt64.toUInt64 &&& Int64.toUInt64 63)).toInt64 : Int64) = (lN (s0 / 2 ^ 31)) from sh31 (by omega)]
  refine lv_lload hx hb d_Mo_reduced_107 (lv_at hl 4 rfl) ?_
  refine lv_lload hx hb d_Mo_reduced_109 (lv_at hl 2 rfl) ?_
  refine lv_lmul hx hb d_Mo_reduced_111 ?_
  rw [show ((lN ah) * (lN d1) : Int64) = (lN (ah * d1)) from lN_mul _ _]
  refine lv_ladd hx hb d_Mo_reduced_112 ?_
  rw [show ((lN (s0 / 2 ^ 31)) + (lN (ah * d1)) : Int64) = (lN (s0 / 2 ^ 31 + ah * d1)) from lN_add _ _]
  refine lv_lload hx hb d_Mo_reduced_113 (lv_at hl 0 rfl) ?_
  refine lv_aload_n hx hb d_Mo_reduced_115 rfl (lv_at hl 6 rfl) ?_
  refine va_get (D := (dC, dI)) (ci := 0) (v := .long (lN (N / 2 ^ 31))) (C := "BallotBoard$Modulus") (T := F_Mo) (N := 7) hx hb hts (fun w9 h9 => List.mem_cons_of_mem _ (i_Mo w9 h9)) hown hK hP 0 rfl rfl 2 (by decide) (hts _ (List.mem_cons_of_mem _ gk_209)) (fun _ h9 => h9) rfl d_Mo_reduced_116 ?_
  refine lv_lmul hx hb d_Mo_reduced_119 ?_
  rw [show ((lN u1) * (lN (N / 2 ^ 31)) : Int64) = (lN (u1 * (N / 2 ^ 31))) from lN_mul _ _]
  refine lv_ladd hx hb d_Mo_reduced_120 ?_
  rw [show ((lN (s0 / 2 ^ 31 + ah * d1)) + (lN (u1 * (N / 2 ^ 31))) : Int64) = (lN (s0 / 2 ^ 31 + ah * d1 + u1 * (N / 2 ^ 31))) from lN_add _ _]
  refine lv_lload hx hb d_Mo_reduced_121 (lv_at hl 1 rfl) ?_
  refine lv_lload hx hb d_Mo_reduced_123 (lv_at hl 0 rfl) ?_
  refine lv_aload_n hx hb d_Mo_reduced_125 rfl (lv_at hl 6 rfl) ?_
  refine va_get (D := (dC, dI)) (ci := 0) (v := .long (lN (N % 2 ^ 31))) (C := "BallotBoard$Modulus") (T := F_Mo) (N := 7) hx hb hts (fun w9 h9 => List.mem_cons_of_mem _ (i_Mo w9 h9)) hown hK hP 0 rfl rfl 1 (by decide) (hts _ (List.mem_cons_of_mem _ gk_208)) (fun _ h9 => h9) rfl d_Mo_reduced_126 ?_
  refine lv_lmul hx hb d_Mo_reduced_129 ?_
  rw [show ((lN u1) * (lN (N % 2 ^ 31)) : Int64) = (lN (u1 * (N % 2 ^ 31))) from lN_mul _ _]
  refine lv_ladd hx hb d_Mo_reduced_130 ?_
  rw [show ((lN b1) + (lN (u1 * (N % 2 ^ 31))) : Int64) = (lN (b1 + u1 * (N % 2 ^ 31))) from lN_add _ _]
  refine lv_bipush (v := 31) hx hb d_Mo_reduced_131 (by decide) ?_
  refine lv_lushr (v := ((lN (b1 + u1 * (N % 2 ^ 31))).toUInt64 >>> ((31 : Int32).toInt64.toUInt64 &&& Int64.toUInt64 63)).toInt64) hx hb d_Mo_reduced_133 rfl ?_
  rw [show (((lN (b1 + u1 * (N % 2 ^ 31))).toUInt64 >>> ((31 : Int32).toInt64.toUInt64 &&& Int64.toUInt64 63)).toInt64 : Int64) = (lN ((b1 + u1 * (N % 2 ^ 31)) / 2 ^ 31)) from sh31 (by omega)]
  refine lv_ladd hx hb d_Mo_reduced_134 ?_
  rw [show ((lN (s0 / 2 ^ 31 + ah * d1 + u1 * (N / 2 ^ 31))) + (lN ((b1 + u1 * (N % 2 ^ 31)) / 2 ^ 31)) : Int64) = (lN s9) from by rw [hs9]; exact lN_add _ _]
  refine lv_lstore (lv' := [(15, .long (lN s9)), (13, .long (lN u1)), (11, .long (lN b1)), (9, .long (lN d1)), (7, .long (lN ah)), (5, .long (lN al)), (0, .ref h0), (1, .long (lN A)), (3, .long (lN B))]) hx hb d_Mo_reduced_135 hl (by decide) rfl (fun ls hl => ?_)
  refine lv_lload hx hb d_Mo_reduced_137 (lv_at hl 0 rfl) ?_
  refine lv_aload_n hx hb d_Mo_reduced_139 rfl (lv_at hl 6 rfl) ?_
  refine va_get (D := (dC, dI)) (ci := 0) (v := .long (lN N)) (C := "BallotBoard$Modulus") (T := F_Mo) (N := 7) hx hb hts (fun w9 h9 => List.mem_cons_of_mem _ (i_Mo w9 h9)) hown hK hP 0 rfl rfl 0 (by decide) (hts _ (List.mem_cons_of_mem _ gk_207)) (fun _ h9 => h9) rfl d_Mo_reduced_140 ?_
  refine W.lcmp hx hb d_Mo_reduced_143 ?_
  refine lv_if_lt (tgt := 157) hx hb d_Mo_reduced_144 (by decide) (fun c_1 => ?_) (fun c_1 => ?_)
  · -- taken
    have hlt : s9 < N := (ln_cmp_lt (by omega) (by omega)).mp c_1
    refine lv_lload hx hb d_Mo_reduced_157 (lv_at hl 0 rfl) ?_
    exact W.lret (v := (lN s9)) hx hb hr (fun t ht hW => ⟨⟨_, (), rfl, ⟨s9, rfl, hlt, hmod⟩, ht⟩, hS.F ht⟩) hS.2.2 d_Mo_reduced_159
  · -- not taken
    have hge : N ≤ s9 := Nat.le_of_not_lt (fun h => c_1 ((ln_cmp_lt (by omega) (by omega)).mpr h))
    refine lv_lload hx hb d_Mo_reduced_147 (lv_at hl 0 rfl) ?_
    refine lv_aload_n hx hb d_Mo_reduced_149 rfl (lv_at hl 6 rfl) ?_
    refine va_get (D := (dC, dI)) (ci := 0) (v := .long (lN N)) (C := "BallotBoard$Modulus") (T := F_Mo) (N := 7) hx hb hts (fun w9 h9 => List.mem_cons_of_mem _ (i_Mo w9 h9)) hown hK hP 0 rfl rfl 0 (by decide) (hts _ (List.mem_cons_of_mem _ gk_207)) (fun _ h9 => h9) rfl d_Mo_reduced_150 ?_
    refine lv_lsub hx hb d_Mo_reduced_153 ?_
    rw [show ((lN s9) - (lN N) : Int64) = (lN (s9 - N)) from lN_sub hge]
    refine lv_goto (tgt := 159) hx hb d_Mo_reduced_154 (by decide) ?_
    exact W.lret (v := (lN (s9 - N))) hx hb hr (fun t ht hW => ⟨⟨_, (), rfl, ⟨s9 - N, rfl, by omega, by rw [← hmod]; exact mg_less hge⟩, ht⟩, hS.F ht⟩) hS.2.2 d_Mo_reduced_159
