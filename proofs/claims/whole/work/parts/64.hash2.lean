abbrev b_Ha_spread : ByteArray := prog_5_method_6_code
abbrev y_Ha_spread : MethodName := ⟨"BallotBoard$Hash", "spread", "(I)V"⟩
abbrev w_Ha_spread : List Cond := .code y_Ha_spread b_Ha_spread 7 none :: gw
theorem d_Ha_spread_0 : decode b_Ha_spread 0 = .ok (.iconst 0, 1) := by decide +kernel
theorem d_Ha_spread_1 : decode b_Ha_spread 1 = .ok (.istore_n 2, 1) := by decide +kernel
theorem d_Ha_spread_2 : decode b_Ha_spread 2 = .ok (.iload_n 2, 1) := by decide +kernel
theorem d_Ha_spread_3 : decode b_Ha_spread 3 = .ok (.bipush 8, 2) := by decide +kernel
theorem d_Ha_spread_5 : decode b_Ha_spread 5 = .ok (.if_icmp .ge 48, 3) := by decide +kernel
theorem d_Ha_spread_8 : decode b_Ha_spread 8 = .ok (.aload_n 0, 1) := by decide +kernel
theorem d_Ha_spread_9 : decode b_Ha_spread 9 = .ok (.getfield 17, 3) := by decide +kernel
theorem d_Ha_spread_12 : decode b_Ha_spread 12 = .ok (.iconst 2, 1) := by decide +kernel
theorem d_Ha_spread_13 : decode b_Ha_spread 13 = .ok (.iload_n 2, 1) := by decide +kernel
theorem d_Ha_spread_14 : decode b_Ha_spread 14 = .ok (.imul, 1) := by decide +kernel
theorem d_Ha_spread_15 : decode b_Ha_spread 15 = .ok (.aload_n 0, 1) := by decide +kernel
theorem d_Ha_spread_16 : decode b_Ha_spread 16 = .ok (.getfield 9, 3) := by decide +kernel
theorem d_Ha_spread_19 : decode b_Ha_spread 19 = .ok (.iload_n 1, 1) := by decide +kernel
theorem d_Ha_spread_20 : decode b_Ha_spread 20 = .ok (.iload_n 2, 1) := by decide +kernel
theorem d_Ha_spread_21 : decode b_Ha_spread 21 = .ok (.iadd, 1) := by decide +kernel
theorem d_Ha_spread_22 : decode b_Ha_spread 22 = .ok (.laload, 1) := by decide +kernel
theorem d_Ha_spread_23 : decode b_Ha_spread 23 = .ok (.bipush 32, 2) := by decide +kernel
theorem d_Ha_spread_25 : decode b_Ha_spread 25 = .ok (.lushr, 1) := by decide +kernel
theorem d_Ha_spread_26 : decode b_Ha_spread 26 = .ok (.l2i, 1) := by decide +kernel
theorem d_Ha_spread_27 : decode b_Ha_spread 27 = .ok (.iastore, 1) := by decide +kernel
theorem d_Ha_spread_28 : decode b_Ha_spread 28 = .ok (.aload_n 0, 1) := by decide +kernel
theorem d_Ha_spread_29 : decode b_Ha_spread 29 = .ok (.getfield 17, 3) := by decide +kernel
theorem d_Ha_spread_32 : decode b_Ha_spread 32 = .ok (.iconst 2, 1) := by decide +kernel
theorem d_Ha_spread_33 : decode b_Ha_spread 33 = .ok (.iload_n 2, 1) := by decide +kernel
theorem d_Ha_spread_34 : decode b_Ha_spread 34 = .ok (.imul, 1) := by decide +kernel
theorem d_Ha_spread_35 : decode b_Ha_spread 35 = .ok (.iconst 1, 1) := by decide +kernel
theorem d_Ha_spread_36 : decode b_Ha_spread 36 = .ok (.iadd, 1) := by decide +kernel
theorem d_Ha_spread_37 : decode b_Ha_spread 37 = .ok (.aload_n 0, 1) := by decide +kernel
theorem d_Ha_spread_38 : decode b_Ha_spread 38 = .ok (.getfield 9, 3) := by decide +kernel
theorem d_Ha_spread_41 : decode b_Ha_spread 41 = .ok (.iload_n 1, 1) := by decide +kernel
theorem d_Ha_spread_42 : decode b_Ha_spread 42 = .ok (.iload_n 2, 1) := by decide +kernel
theorem d_Ha_spread_43 : decode b_Ha_spread 43 = .ok (.iadd, 1) := by decide +kernel
theorem d_Ha_spread_44 : decode b_Ha_spread 44 = .ok (.laload, 1) := by decide +kernel
theorem d_Ha_spread_45 : decode b_Ha_spread 45 = .ok (.l2i, 1) := by decide +kernel
theorem d_Ha_spread_46 : decode b_Ha_spread 46 = .ok (.iastore, 1) := by decide +kernel
theorem d_Ha_spread_47 : decode b_Ha_spread 47 = .ok (.iinc 2 1, 3) := by decide +kernel
theorem d_Ha_spread_50 : decode b_Ha_spread 50 = .ok (.goto (-48), 3) := by decide +kernel
theorem d_Ha_spread_53 : decode b_Ha_spread 53 = .ok (.bipush 16, 2) := by decide +kernel
theorem d_Ha_spread_55 : decode b_Ha_spread 55 = .ok (.istore_n 2, 1) := by decide +kernel
theorem d_Ha_spread_56 : decode b_Ha_spread 56 = .ok (.iload_n 2, 1) := by decide +kernel
theorem d_Ha_spread_57 : decode b_Ha_spread 57 = .ok (.aload_n 0, 1) := by decide +kernel
theorem d_Ha_spread_58 : decode b_Ha_spread 58 = .ok (.getfield 17, 3) := by decide +kernel
theorem d_Ha_spread_61 : decode b_Ha_spread 61 = .ok (.arraylength, 1) := by decide +kernel
theorem d_Ha_spread_62 : decode b_Ha_spread 62 = .ok (.if_icmp .ge 102, 3) := by decide +kernel
theorem d_Ha_spread_65 : decode b_Ha_spread 65 = .ok (.aload_n 0, 1) := by decide +kernel
theorem d_Ha_spread_66 : decode b_Ha_spread 66 = .ok (.getfield 17, 3) := by decide +kernel
theorem d_Ha_spread_69 : decode b_Ha_spread 69 = .ok (.iload_n 2, 1) := by decide +kernel
theorem d_Ha_spread_70 : decode b_Ha_spread 70 = .ok (.bipush 15, 2) := by decide +kernel
theorem d_Ha_spread_72 : decode b_Ha_spread 72 = .ok (.isub, 1) := by decide +kernel
theorem d_Ha_spread_73 : decode b_Ha_spread 73 = .ok (.iaload, 1) := by decide +kernel
theorem d_Ha_spread_74 : decode b_Ha_spread 74 = .ok (.istore_n 3, 1) := by decide +kernel
theorem d_Ha_spread_75 : decode b_Ha_spread 75 = .ok (.aload_n 0, 1) := by decide +kernel
theorem d_Ha_spread_76 : decode b_Ha_spread 76 = .ok (.getfield 17, 3) := by decide +kernel
theorem d_Ha_spread_79 : decode b_Ha_spread 79 = .ok (.iload_n 2, 1) := by decide +kernel
theorem d_Ha_spread_80 : decode b_Ha_spread 80 = .ok (.iconst 2, 1) := by decide +kernel
theorem d_Ha_spread_81 : decode b_Ha_spread 81 = .ok (.isub, 1) := by decide +kernel
theorem d_Ha_spread_82 : decode b_Ha_spread 82 = .ok (.iaload, 1) := by decide +kernel
theorem d_Ha_spread_83 : decode b_Ha_spread 83 = .ok (.istore 4, 2) := by decide +kernel
theorem d_Ha_spread_85 : decode b_Ha_spread 85 = .ok (.iload_n 3, 1) := by decide +kernel
theorem d_Ha_spread_86 : decode b_Ha_spread 86 = .ok (.bipush 7, 2) := by decide +kernel
theorem d_Ha_spread_88 : decode b_Ha_spread 88 = .ok (.invokestatic 49, 3) := by decide +kernel
theorem d_Ha_spread_91 : decode b_Ha_spread 91 = .ok (.iload_n 3, 1) := by decide +kernel
theorem d_Ha_spread_92 : decode b_Ha_spread 92 = .ok (.bipush 18, 2) := by decide +kernel
theorem d_Ha_spread_94 : decode b_Ha_spread 94 = .ok (.invokestatic 49, 3) := by decide +kernel
theorem d_Ha_spread_97 : decode b_Ha_spread 97 = .ok (.ixor, 1) := by decide +kernel
theorem d_Ha_spread_98 : decode b_Ha_spread 98 = .ok (.iload_n 3, 1) := by decide +kernel
theorem d_Ha_spread_99 : decode b_Ha_spread 99 = .ok (.iconst 3, 1) := by decide +kernel
theorem d_Ha_spread_100 : decode b_Ha_spread 100 = .ok (.iushr, 1) := by decide +kernel
theorem d_Ha_spread_101 : decode b_Ha_spread 101 = .ok (.ixor, 1) := by decide +kernel
theorem d_Ha_spread_102 : decode b_Ha_spread 102 = .ok (.istore 5, 2) := by decide +kernel
theorem d_Ha_spread_104 : decode b_Ha_spread 104 = .ok (.iload 4, 2) := by decide +kernel
theorem d_Ha_spread_106 : decode b_Ha_spread 106 = .ok (.bipush 17, 2) := by decide +kernel
theorem d_Ha_spread_108 : decode b_Ha_spread 108 = .ok (.invokestatic 49, 3) := by decide +kernel
theorem d_Ha_spread_111 : decode b_Ha_spread 111 = .ok (.iload 4, 2) := by decide +kernel
theorem d_Ha_spread_113 : decode b_Ha_spread 113 = .ok (.bipush 19, 2) := by decide +kernel
theorem d_Ha_spread_115 : decode b_Ha_spread 115 = .ok (.invokestatic 49, 3) := by decide +kernel
theorem d_Ha_spread_118 : decode b_Ha_spread 118 = .ok (.ixor, 1) := by decide +kernel
theorem d_Ha_spread_119 : decode b_Ha_spread 119 = .ok (.iload 4, 2) := by decide +kernel
theorem d_Ha_spread_121 : decode b_Ha_spread 121 = .ok (.bipush 10, 2) := by decide +kernel
theorem d_Ha_spread_123 : decode b_Ha_spread 123 = .ok (.iushr, 1) := by decide +kernel
theorem d_Ha_spread_124 : decode b_Ha_spread 124 = .ok (.ixor, 1) := by decide +kernel
theorem d_Ha_spread_125 : decode b_Ha_spread 125 = .ok (.istore 6, 2) := by decide +kernel
theorem d_Ha_spread_127 : decode b_Ha_spread 127 = .ok (.aload_n 0, 1) := by decide +kernel
theorem d_Ha_spread_128 : decode b_Ha_spread 128 = .ok (.getfield 17, 3) := by decide +kernel
theorem d_Ha_spread_131 : decode b_Ha_spread 131 = .ok (.iload_n 2, 1) := by decide +kernel
theorem d_Ha_spread_132 : decode b_Ha_spread 132 = .ok (.aload_n 0, 1) := by decide +kernel
theorem d_Ha_spread_133 : decode b_Ha_spread 133 = .ok (.getfield 17, 3) := by decide +kernel
theorem d_Ha_spread_136 : decode b_Ha_spread 136 = .ok (.iload_n 2, 1) := by decide +kernel
theorem d_Ha_spread_137 : decode b_Ha_spread 137 = .ok (.bipush 16, 2) := by decide +kernel
theorem d_Ha_spread_139 : decode b_Ha_spread 139 = .ok (.isub, 1) := by decide +kernel
theorem d_Ha_spread_140 : decode b_Ha_spread 140 = .ok (.iaload, 1) := by decide +kernel
theorem d_Ha_spread_141 : decode b_Ha_spread 141 = .ok (.iload 5, 2) := by decide +kernel
theorem d_Ha_spread_143 : decode b_Ha_spread 143 = .ok (.iadd, 1) := by decide +kernel
theorem d_Ha_spread_144 : decode b_Ha_spread 144 = .ok (.aload_n 0, 1) := by decide +kernel
theorem d_Ha_spread_145 : decode b_Ha_spread 145 = .ok (.getfield 17, 3) := by decide +kernel
theorem d_Ha_spread_148 : decode b_Ha_spread 148 = .ok (.iload_n 2, 1) := by decide +kernel
theorem d_Ha_spread_149 : decode b_Ha_spread 149 = .ok (.bipush 7, 2) := by decide +kernel
theorem d_Ha_spread_151 : decode b_Ha_spread 151 = .ok (.isub, 1) := by decide +kernel
theorem d_Ha_spread_152 : decode b_Ha_spread 152 = .ok (.iaload, 1) := by decide +kernel
theorem d_Ha_spread_153 : decode b_Ha_spread 153 = .ok (.iadd, 1) := by decide +kernel
theorem d_Ha_spread_154 : decode b_Ha_spread 154 = .ok (.iload 6, 2) := by decide +kernel
theorem d_Ha_spread_156 : decode b_Ha_spread 156 = .ok (.iadd, 1) := by decide +kernel
theorem d_Ha_spread_157 : decode b_Ha_spread 157 = .ok (.iastore, 1) := by decide +kernel
theorem d_Ha_spread_158 : decode b_Ha_spread 158 = .ok (.iinc 2 1, 3) := by decide +kernel
theorem d_Ha_spread_161 : decode b_Ha_spread 161 = .ok (.goto (-105), 3) := by decide +kernel
theorem d_Ha_spread_164 : decode b_Ha_spread 164 = .ok (.return_, 1) := by decide +kernel
set_option maxHeartbeats 4000000 in
set_option maxRecDepth 100000 in
theorem c_Ha_spread (l : Launch) (dC : Nat → ClassId) (dI : Nat → Nat → Nat) (h0 sz : Nat) (aw ax ay : Nat) (cJ cI : ClassId) (w : Nat → Int64) (sc st : Nat → Int32) (L : Nat) (fr : Nat) (hfr : fr ≤ 8) : Met l y_Ha_spread w_Ha_spread ({ frames := 1, cells := 0, slots := 0, locals := 21 }) (va_Pc [.ref h0, .int (nI fr)] (fun U => U.heap.size = sz ∧ va_P (dC, dI) classes (ha_ws h0 aw ax ay cJ cI w sc st L) U.heap ∧ va_K (dC, dI) classes [(cJ, .long), (cI, .int)] U ∧ va_D (fun _ => True) (ha_ws h0 aw ax ay cJ cI w sc st L))) (va_Qv (fun _ : Unit => True) (fun _ t => va_P (dC, dI) classes (ha_ws h0 aw ax ay cJ cI w (swn (sp1 sc w fr 8) 48) st L) t.heap ∧ va_K (dC, dI) classes [(cJ, .long), (cI, .int)] t ∧ va_D (va_A (ha_ws h0 aw ax ay cJ cI w sc st L) sz) (ha_ws h0 aw ax ay cJ cI w (swn (sp1 sc w fr 8) 48) st L)) (va_A (ha_ws h0 aw ax ay cJ cI w sc st L) sz)) 0 0 (va_A (ha_ws h0 aw ax ay cJ cI w sc st L) sz) := by
  refine Met.ofW (cc := b_Ha_spread) (maxL := 7) (ret := none) (by decide) rfl ?_
  intro p e s m args below meth c s₁ Bd hml hv
  obtain ⟨rfl, hsz, hP, hK, hD0⟩ := hv
  have hx := Bd.exec
  have hb := Bd.bytes
  have hr := Bd.returns
  have hts := atoms_spec (ws := w_Ha_spread) Bd.pre
  have hown : s.vm.findClass "BallotBoard$Hash" = some m.cls := findClass_of_methodNamed Bd.named
  have hlocks := Bd.notSynchronized
  subst hsz
  have hD := hD0.self (sz := s.heap.size)
  generalize hAe : va_A (ha_ws h0 aw ax ay cJ cI w sc st L) s.heap.size = A at hD ⊢
  have hA : ∀ q : Nat, s.heap.size ≤ q → A q := fun q h => by rw [← hAe]; exact Or.inr h
  have hS : va_S A s.heap s.heap [] := va_S.rf
  have hl := lv_entry ([.ref h0, .int (nI fr)]) (n := 7) (Nat.le_of_ble_eq_true rfl)
  rw [lg_entry_eq]
  generalize (lg_sl ([.ref h0, .int (nI fr)]) ++ List.replicate (7 - (lg_sl ([.ref h0, .int (nI fr)])).length) Slot.unset).toArray = ls at hl ⊢
  have hl : lv_has ls 7 [(0, .ref h0), (1, .int (nI fr))] := hl
  have loop2 : ∀ (j n : Nat), n + j = 48 → ∀ (H : Heap) (locs : List Loc), va_S A s.heap H locs → va_P (dC, dI) classes (ha_ws h0 aw ax ay cJ cI w (swn (sp1 sc w fr 8) n) st L) H → va_D A (ha_ws h0 aw ax ay cJ cI w (swn (sp1 sc w fr 8) n) st L) → ∀ (ls : Array Slot), lv_has ls 7 [(0, .ref h0), (1, .int (nI fr)), (2, .int (nI (16 + n)))] → W p l e ({ frames := 1, cells := 0, slots := 0, locals := 21 } : Room) s m ([.ref h0, .int (nI fr)] : List Value).toArray below meth c H locs 0 0 (MQ below (va_Qv (fun _ : Unit => True) (fun _ t => va_P (dC, dI) classes (ha_ws h0 aw ax ay cJ cI w (swn (sp1 sc w fr 8) 48) st L) t.heap ∧ va_K (dC, dI) classes [(cJ, .long), (cI, .int)] t ∧ va_D A (ha_ws h0 aw ax ay cJ cI w (swn (sp1 sc w fr 8) 48) st L)) A) ([.ref h0, .int (nI fr)] : List Value).toArray s 0 0 A) (F0 m 56 ls []) := by
    intro j
    induction j using Nat.strongRecOn with
    | ind j ih =>
      intro n hnj H locs hS hP hD ls hl
      refine lv_iload_n hx hb d_Ha_spread_56 rfl (lv_at hl 2 rfl) ?_
      refine lv_aload_n hx hb d_Ha_spread_57 rfl (lv_at hl 0 rfl) ?_
      refine va_get (D := (dC, dI)) (ci := 2) (v := .ref ax) (C := "BallotBoard$Hash") (T := F_Ha) (N := 4) hx hb hts (fun w9 h9 => List.mem_cons_of_mem _ (i_Ha w9 h9)) hown hK hP 0 rfl rfl 1 (by decide) (hts _ (List.mem_cons_of_mem _ gk_38)) (fun _ h9 => h9) rfl d_Ha_spread_58 ?_
      refine va_alen (v := 64) hx hb hK hP 2 1 rfl rfl rfl d_Ha_spread_61 ?_
      refine lv_icmp_ge (tgt := 164) hx hb d_Ha_spread_62 (by decide) (fun c_1 => ?_) (fun c_1 => ?_)
      · -- taken
        have hn48 : n = 48 := by
          have := (ige 64 (by omega) (by omega) rfl).mp c_1
          omega
        subst hn48
        exact W.vret hx hb hr (fun t ht9 hW => ⟨⟨(), rfl, trivial, by rw [ht9]; exact hP, va_K.moved hW.alike hK, hD⟩, hS.F ht9⟩) hS.2.2 d_Ha_spread_164
      · -- not taken
        have hn48 : n < 48 := by
          have : ¬ 64 ≤ 16 + n := fun h => c_1 ((ige 64 (by omega) (by omega) rfl).mpr h)
          omega
        refine lv_aload_n hx hb d_Ha_spread_65 rfl (lv_at hl 0 rfl) ?_
        refine va_get (D := (dC, dI)) (ci := 2) (v := .ref ax) (C := "BallotBoard$Hash") (T := F_Ha) (N := 4) hx hb hts (fun w9 h9 => List.mem_cons_of_mem _ (i_Ha w9 h9)) hown hK hP 0 rfl rfl 1 (by decide) (hts _ (List.mem_cons_of_mem _ gk_38)) (fun _ h9 => h9) rfl d_Ha_spread_66 ?_
        refine lv_iload_n hx hb d_Ha_spread_69 rfl (lv_at hl 2 rfl) ?_
        refine lv_bipush (v := 15) hx hb d_Ha_spread_70 (by decide) ?_
        refine lv_isub hx hb d_Ha_spread_72 ?_
        rw [show ((nI (16 + n)) - 15 : Int32) = (nI (n + 1)) from (nI_subI (b := 15) (by omega) rfl).trans (congrArg nI (by omega))]
        refine va_iald hx hb hK hP 2 1 rfl rfl (vp_in_nI (by omega) (by omega)) d_Ha_spread_73 ?_
        rw [show (swn (sp1 sc w fr 8) n (nI (n + 1) : Int32).toNatClampNeg : Int32) = (swn (sp1 sc w fr 8) n) (n + 1) from by rw [nI_clamp (by omega)]]
        rw [show ((swn (sp1 sc w fr 8) n) (n + 1) : Int32) = (swn (sp1 sc w fr 8) n (n + 1)) from rfl]
        refine lv_istore_n (lv' := [(3, .int (swn (sp1 sc w fr 8) n (n + 1))), (0, .ref h0), (1, .int (nI fr)), (2, .int (nI (16 + n)))]) hx hb d_Ha_spread_74 rfl hl (by decide) rfl (fun ls hl => ?_)
        refine lv_aload_n hx hb d_Ha_spread_75 rfl (lv_at hl 1 rfl) ?_
        refine va_get (D := (dC, dI)) (ci := 2) (v := .ref ax) (C := "BallotBoard$Hash") (T := F_Ha) (N := 4) hx hb hts (fun w9 h9 => List.mem_cons_of_mem _ (i_Ha w9 h9)) hown hK hP 0 rfl rfl 1 (by decide) (hts _ (List.mem_cons_of_mem _ gk_38)) (fun _ h9 => h9) rfl d_Ha_spread_76 ?_
        refine lv_iload_n hx hb d_Ha_spread_79 rfl (lv_at hl 3 rfl) ?_
        refine lv_iconst (v := 2) hx hb d_Ha_spread_80 (by decide) ?_
        refine lv_isub hx hb d_Ha_spread_81 ?_
        rw [show ((nI (16 + n)) - 2 : Int32) = (nI (n + 14)) from (nI_subI (b := 2) (by omega) rfl).trans (congrArg nI (by omega))]
        refine va_iald hx hb hK hP 2 1 rfl rfl (vp_in_nI (by omega) (by omega)) d_Ha_spread_82 ?_
        rw [show (swn (sp1 sc w fr 8) n (nI (n + 14) : Int32).toNatClampNeg : Int32) = (swn (sp1 sc w fr 8) n) (n + 14) from by rw [nI_clamp (by omega)]]
        rw [show ((swn (sp1 sc w fr 8) n) (n + 14) : Int32) = (swn (sp1 sc w fr 8) n (n + 14)) from rfl]
        refine lv_istore (lv' := [(4, .int (swn (sp1 sc w fr 8) n (n + 14))), (3, .int (swn (sp1 sc w fr 8) n (n + 1))), (0, .ref h0), (1, .int (nI fr)), (2, .int (nI (16 + n)))]) hx hb d_Ha_spread_83 hl (by decide) rfl (fun ls hl => ?_)
        refine lv_iload_n hx hb d_Ha_spread_85 rfl (lv_at hl 1 rfl) ?_
        refine lv_bipush (v := 7) hx hb d_Ha_spread_86 (by decide) ?_
        refine va_calli (va_runS (As := [.int (swn (sp1 sc w fr 8) n (n + 1)), .int 7]) (rest := []) ⟨hx, hb, hml, hown, hts⟩ (c_Ha_turned l H (swn (sp1 sc w fr 8) n (n + 1)) 7) (cwS 2 hts (gw_S gk_528 gk_529 gk_2 gk_530) rfl rfl rfl (by decide +kernel) ⟨Nat.le_of_ble_eq_true rfl, Nat.le_of_ble_eq_true rfl⟩) ⟨fun a U g mk q => q, fun U hU hW => ⟨rfl, hU⟩⟩ rfl rfl hl.1 rfl (lv_room (Nat.le_of_ble_eq_true rfl)) d_Ha_spread_88 ⟨Nat.zero_le _, Nat.zero_le _⟩) hS (fun q _ h => h.elim) (fun q h => h.elim) (fun r_2 u9 t9 H1 locs ht hvm hw hB hz1 hk1 hS => ?_)
        obtain rfl : H = H1 := hB.symm.trans ht
        have hw : r_2 = tn (swn (sp1 sc w fr 8) n (n + 1)) 7 := hw
        subst hw
        refine lv_iload_n hx hb d_Ha_spread_91 rfl (lv_at hl 1 rfl) ?_
        refine lv_bipush (v := 18) hx hb d_Ha_spread_92 (by decide) ?_
        refine va_calli (va_runS (As := [.int (swn (sp1 sc w fr 8) n (n + 1)), .int 18]) (rest := [.int (tn (swn (sp1 sc w fr 8) n (n + 1)) 7)]) ⟨hx, hb, hml, hown, hts⟩ (c_Ha_turned l H (swn (sp1 sc w fr 8) n (n + 1)) 18) (cwS 2 hts (gw_S gk_528 gk_529 gk_2 gk_530) rfl rfl rfl (by decide +kernel) ⟨Nat.le_of_ble_eq_true rfl, Nat.le_of_ble_eq_true rfl⟩) ⟨fun a U g mk q => q, fun U hU hW => ⟨rfl, hU⟩⟩ rfl rfl hl.1 rfl (lv_room (Nat.le_of_ble_eq_true rfl)) d_Ha_spread_94 ⟨Nat.zero_le _, Nat.zero_le _⟩) hS (fun q _ h => h.elim) (fun q h => h.elim) (fun r_3 u9 t9 H1 locs ht hvm hw hB hz1 hk1 hS => ?_)
        obtain rfl : H = H1 := hB.symm.trans ht
        have hw : r_3 = tn (swn (sp1 sc w fr 8) n (n + 1)) 18 := hw
        subst hw
        refine lv_ixor hx hb d_Ha_spread_97 ?_
        refine lv_iload_n hx hb d_Ha_spread_98 rfl (lv_at hl 1 rfl) ?_
        refine lv_iconst (v := 3) hx hb d_Ha_spread_99 (by decide) ?_
        refine lv_iushr (v := ((swn (sp1 sc w fr 8) n (n + 1) : Int32).toUInt32 >>> ((3 : Int32).toUInt32 &&& Int32.toUInt32 31)).toInt32) hx hb d_Ha_spread_100 rfl ?_
        refine lv_ixor hx hb d_Ha_spread_101 ?_
        refine lv_istore (lv' := [(5, .int (((tn (swn (sp1 sc w fr 8) n (n + 1)) 7) ^^^ (tn (swn (sp1 sc w fr 8) n (n + 1)) 18)) ^^^ (((swn (sp1 sc w fr 8) n (n + 1) : Int32).toUInt32 >>> ((3 : Int32).toUInt32 &&& Int32.toUInt32 31)).toInt32))), (4, .int (swn (sp1 sc w fr 8) n (n + 14))), (3, .int (swn (sp1 sc w fr 8) n (n + 1))), (0, .ref h0), (1, .int (nI fr)), (2, .int (nI (16 + n)))]) hx hb d_Ha_spread_102 hl (by decide) rfl (fun ls hl => ?_)
        refine lv_iload hx hb d_Ha_spread_104 (lv_at hl 1 rfl) ?_
        refine lv_bipush (v := 17) hx hb d_Ha_spread_106 (by decide) ?_
        refine va_calli (va_runS (As := [.int (swn (sp1 sc w fr 8) n (n + 14)), .int 17]) (rest := []) ⟨hx, hb, hml, hown, hts⟩ (c_Ha_turned l H (swn (sp1 sc w fr 8) n (n + 14)) 17) (cwS 2 hts (gw_S gk_528 gk_529 gk_2 gk_530) rfl rfl rfl (by decide +kernel) ⟨Nat.le_of_ble_eq_true rfl, Nat.le_of_ble_eq_true rfl⟩) ⟨fun a U g mk q => q, fun U hU hW => ⟨rfl, hU⟩⟩ rfl rfl hl.1 rfl (lv_room (Nat.le_of_ble_eq_true rfl)) d_Ha_spread_108 ⟨Nat.zero_le _, Nat.zero_le _⟩) hS (fun q _ h => h.elim) (fun q h => h.elim) (fun r_4 u9 t9 H1 locs ht hvm hw hB hz1 hk1 hS => ?_)
        obtain rfl : H = H1 := hB.symm.trans ht
        have hw : r_4 = tn (swn (sp1 sc w fr 8) n (n + 14)) 17 := hw
        subst hw
        refine lv_iload hx hb d_Ha_spread_111 (lv_at hl 1 rfl) ?_
        refine lv_bipush (v := 19) hx hb d_Ha_spread_113 (by decide) ?_
        refine va_calli (va_runS (As := [.int (swn (sp1 sc w fr 8) n (n + 14)), .int 19]) (rest := [.int (tn (swn (sp1 sc w fr 8) n (n + 14)) 17)]) ⟨hx, hb, hml, hown, hts⟩ (c_Ha_turned l H (swn (sp1 sc w fr 8) n (n + 14)) 19) (cwS 2 hts (gw_S gk_528 gk_529 gk_2 gk_530) rfl rfl rfl (by decide +kernel) ⟨Nat.le_of_ble_eq_true rfl, Nat.le_of_ble_eq_true rfl⟩) ⟨fun a U g mk q => q, fun U hU hW => ⟨rfl, hU⟩⟩ rfl rfl hl.1 rfl (lv_room (Nat.le_of_ble_eq_true rfl)) d_Ha_spread_115 ⟨Nat.zero_le _, Nat.zero_le _⟩) hS (fun q _ h => h.elim) (fun q h => h.elim) (fun r_5 u9 t9 H1 locs ht hvm hw hB hz1 hk1 hS => ?_)
        obtain rfl : H = H1 := hB.symm.trans ht
        have hw : r_5 = tn (swn (sp1 sc w fr 8) n (n + 14)) 19 := hw
        subst hw
        refine lv_ixor hx hb d_Ha_spread_118 ?_
        refine lv_iload hx hb d_Ha_spread_119 (lv_at hl 1 rfl) ?_
        refine lv_bipush (v := 10) hx hb d_Ha_spread_121 (by decide) ?_
        refine lv_iushr (v := ((swn (sp1 sc w fr 8) n (n + 14) : Int32).toUInt32 >>> ((10 : Int32).toUInt32 &&& Int32.toUInt32 31)).toInt32) hx hb d_Ha_spread_123 rfl ?_
        refine lv_ixor hx hb d_Ha_spread_124 ?_
        refine lv_istore (lv' := [(6, .int (((tn (swn (sp1 sc w fr 8) n (n + 14)) 17) ^^^ (tn (swn (sp1 sc w fr 8) n (n + 14)) 19)) ^^^ (((swn (sp1 sc w fr 8) n (n + 14) : Int32).toUInt32 >>> ((10 : Int32).toUInt32 &&& Int32.toUInt32 31)).toInt32))), (5, .int (((tn (swn (sp1 sc w fr 8) n (n + 1)) 7) ^^^ (tn (swn (sp1 sc w fr 8) n (n + 1)) 18)) ^^^ (((swn (sp1 sc w fr 8) n (n + 1) : Int32).toUInt32 >>> ((3 : Int32).toUInt32 &&& Int32.toUInt32 31)).toInt32))), (4, .int (swn (sp1 sc w fr 8) n (n + 14))), (3, .int (swn (sp1 sc w fr 8) n (n + 1))), (0, .ref h0), (1, .int (nI fr)), (2, .int (nI (16 + n)))]) hx hb d_Ha_spread_125 hl (by decide) rfl (fun ls hl => ?_)
        refine lv_aload_n hx hb d_Ha_spread_127 rfl (lv_at hl 4 rfl) ?_
        refine va_get (D := (dC, dI)) (ci := 2) (v := .ref ax) (C := "BallotBoard$Hash") (T := F_Ha) (N := 4) hx hb hts (fun w9 h9 => List.mem_cons_of_mem _ (i_Ha w9 h9)) hown hK hP 0 rfl rfl 1 (by decide) (hts _ (List.mem_cons_of_mem _ gk_38)) (fun _ h9 => h9) rfl d_Ha_spread_128 ?_
        refine lv_iload_n hx hb d_Ha_spread_131 rfl (lv_at hl 6 rfl) ?_
        refine lv_aload_n hx hb d_Ha_spread_132 rfl (lv_at hl 4 rfl) ?_
        refine va_get (D := (dC, dI)) (ci := 2) (v := .ref ax) (C := "BallotBoard$Hash") (T := F_Ha) (N := 4) hx hb hts (fun w9 h9 => List.mem_cons_of_mem _ (i_Ha w9 h9)) hown hK hP 0 rfl rfl 1 (by decide) (hts _ (List.mem_cons_of_mem _ gk_38)) (fun _ h9 => h9) rfl d_Ha_spread_133 ?_
        refine lv_iload_n hx hb d_Ha_spread_136 rfl (lv_at hl 6 rfl) ?_
        refine lv_bipush (v := 16) hx hb d_Ha_spread_137 (by decide) ?_
        refine lv_isub hx hb d_Ha_spread_139 ?_
        rw [show ((nI (16 + n)) - 16 : Int32) = (nI (n)) from (nI_subI (b := 16) (by omega) rfl).trans (congrArg nI (by omega))]
        refine va_iald hx hb hK hP 2 1 rfl rfl (vp_in_nI (by omega) (by omega)) d_Ha_spread_140 ?_
        rw [show (swn (sp1 sc w fr 8) n (nI (n) : Int32).toNatClampNeg : Int32) = (swn (sp1 sc w fr 8) n) (n) from by rw [nI_clamp (by omega)]]
        rw [show ((swn (sp1 sc w fr 8) n) (n) : Int32) = (swn (sp1 sc w fr 8) n (n)) from rfl]
        refine lv_iload hx hb d_Ha_spread_141 (lv_at hl 1 rfl) ?_
        refine lv_iadd hx hb d_Ha_spread_143 ?_
        refine lv_aload_n hx hb d_Ha_spread_144 rfl (lv_at hl 4 rfl) ?_
        refine va_get (D := (dC, dI)) (ci := 2) (v := .ref ax) (C := "BallotBoard$Hash") (T := F_Ha) (N := 4) hx hb hts (fun w9 h9 => List.mem_cons_of_mem _ (i_Ha w9 h9)) hown hK hP 0 rfl rfl 1 (by decide) (hts _ (List.mem_cons_of_mem _ gk_38)) (fun _ h9 => h9) rfl d_Ha_spread_145 ?_
        refine lv_iload_n hx hb d_Ha_spread_148 rfl (lv_at hl 6 rfl) ?_
        refine lv_bipush (v := 7) hx hb d_Ha_spread_149 (by decide) ?_
        refine lv_isub hx hb d_Ha_spread_151 ?_
        rw [show ((nI (16 + n)) - 7 : Int32) = (nI (n + 9)) from (nI_subI (b := 7) (by omega) rfl).trans (congrArg nI (by omega))]
        refine va_iald hx hb hK hP 2 1 rfl rfl (vp_in_nI (by omega) (by omega)) d_Ha_spread_152 ?_
        rw [show (swn (sp1 sc w fr 8) n (nI (n + 9) : Int32).toNatClampNeg : Int32) = (swn (sp1 sc w fr 8) n) (n + 9) from by rw [nI_clamp (by omega)]]
        rw [show ((swn (sp1 sc w fr 8) n) (n + 9) : Int32) = (swn (sp1 sc w fr 8) n (n + 9)) from rfl]
        refine lv_iadd hx hb d_Ha_spread_153 ?_
        refine lv_iload hx hb d_Ha_spread_154 (lv_at hl 0 rfl) ?_
        refine lv_iadd hx hb d_Ha_spread_156 ?_
        refine va_iast hx hb hK hP hD hS 2 1 rfl rfl (vp_in_nI (by omega) (by omega)) d_Ha_spread_157 (fun H locs hP hD hS => ?_)
        have hfe : upd (swn (sp1 sc w fr 8) n) (nI (16 + n) : Int32).toNatClampNeg ((((swn (sp1 sc w fr 8) n (n)) + (((tn (swn (sp1 sc w fr 8) n (n + 1)) 7) ^^^ (tn (swn (sp1 sc w fr 8) n (n + 1)) 18)) ^^^ (((swn (sp1 sc w fr 8) n (n + 1) : Int32).toUInt32 >>> ((3 : Int32).toUInt32 &&& Int32.toUInt32 31)).toInt32))) + (swn (sp1 sc w fr 8) n (n + 9))) + (((tn (swn (sp1 sc w fr 8) n (n + 14)) 17) ^^^ (tn (swn (sp1 sc w fr 8) n (n + 14)) 19)) ^^^ (((swn (sp1 sc w fr 8) n (n + 14) : Int32).toUInt32 >>> ((10 : Int32).toUInt32 &&& Int32.toUInt32 31)).toInt32))) = swn (sp1 sc w fr 8) (n + 1) := by rw [nI_clamp (by omega)]; rfl
        have hP : va_P (dC, dI) classes [(h0, .inr (2, [.ref aw, .ref ax, .ref ay, .int (nI L)])), (aw, .inl (cJ, 16, .inr (.inl w))), (ax, .inl (cI, 64, .inl (upd (swn (sp1 sc w fr 8) n) (nI (16 + n) : Int32).toNatClampNeg ((((swn (sp1 sc w fr 8) n (n)) + (((tn (swn (sp1 sc w fr 8) n (n + 1)) 7) ^^^ (tn (swn (sp1 sc w fr 8) n (n + 1)) 18)) ^^^ (((swn (sp1 sc w fr 8) n (n + 1) : Int32).toUInt32 >>> ((3 : Int32).toUInt32 &&& Int32.toUInt32 31)).toInt32))) + (swn (sp1 sc w fr 8) n (n + 9))) + (((tn (swn (sp1 sc w fr 8) n (n + 14)) 17) ^^^ (tn (swn (sp1 sc w fr 8) n (n + 14)) 19)) ^^^ (((swn (sp1 sc w fr 8) n (n + 14) : Int32).toUInt32 >>> ((10 : Int32).toUInt32 &&& Int32.toUInt32 31)).toInt32)))))), (ay, .inl (cI, 8, .inl st))] H := hP
        have hD : va_D A [(h0, .inr (2, [.ref aw, .ref ax, .ref ay, .int (nI L)])), (aw, .inl (cJ, 16, .inr (.inl w))), (ax, .inl (cI, 64, .inl (upd (swn (sp1 sc w fr 8) n) (nI (16 + n) : Int32).toNatClampNeg ((((swn (sp1 sc w fr 8) n (n)) + (((tn (swn (sp1 sc w fr 8) n (n + 1)) 7) ^^^ (tn (swn (sp1 sc w fr 8) n (n + 1)) 18)) ^^^ (((swn (sp1 sc w fr 8) n (n + 1) : Int32).toUInt32 >>> ((3 : Int32).toUInt32 &&& Int32.toUInt32 31)).toInt32))) + (swn (sp1 sc w fr 8) n (n + 9))) + (((tn (swn (sp1 sc w fr 8) n (n + 14)) 17) ^^^ (tn (swn (sp1 sc w fr 8) n (n + 14)) 19)) ^^^ (((swn (sp1 sc w fr 8) n (n + 14) : Int32).toUInt32 >>> ((10 : Int32).toUInt32 &&& Int32.toUInt32 31)).toInt32)))))), (ay, .inl (cI, 8, .inl st))] := hD
        rw [hfe] at hP hD
        obtain ⟨i_6, ei_6⟩ : ∃ y : Int32, y = (nI (16 + n)) + 1 := ⟨_, rfl⟩
        refine lv_iinc (v := i_6) (lv' := [(2, .int i_6), (6, .int (((tn (swn (sp1 sc w fr 8) n (n + 14)) 17) ^^^ (tn (swn (sp1 sc w fr 8) n (n + 14)) 19)) ^^^ (((swn (sp1 sc w fr 8) n (n + 14) : Int32).toUInt32 >>> ((10 : Int32).toUInt32 &&& Int32.toUInt32 31)).toInt32))), (5, .int (((tn (swn (sp1 sc w fr 8) n (n + 1)) 7) ^^^ (tn (swn (sp1 sc w fr 8) n (n + 1)) 18)) ^^^ (((swn (sp1 sc w fr 8) n (n + 1) : Int32).toUInt32 >>> ((3 : Int32).toUInt32 &&& Int32.toUInt32 31)).toInt32))), (4, .int (swn (sp1 sc w fr 8) n (n + 14))), (3, .int (swn (sp1 sc w fr 8) n (n + 1))), (0, .ref h0), (1, .int (nI fr))]) hx hb d_Ha_spread_158 hl (k := 6) rfl (by rw [ei_6]; rfl) (by decide) rfl (fun ls hl => ?_)
        obtain rfl : i_6 = nI (16 + (n + 1)) := by rw [ei_6]; exact nI_1 (16 + n)
        refine lv_goto (tgt := 56) hx hb d_Ha_spread_161 (by decide) ?_
        exact ih (j - 1) (by omega) (n + 1) (by omega) H locs hS hP hD ls (lv_sub hl [5, 6, 0] rfl)
  have loop1 : ∀ (j k : Nat), k + j = 8 → ∀ (H : Heap) (locs : List Loc), va_S A s.heap H locs → va_P (dC, dI) classes (ha_ws h0 aw ax ay cJ cI w (sp1 sc w fr k) st L) H → va_D A (ha_ws h0 aw ax ay cJ cI w (sp1 sc w fr k) st L) → ∀ (ls : Array Slot), lv_has ls 7 [(0, .ref h0), (1, .int (nI fr)), (2, .int (nI k))] → W p l e ({ frames := 1, cells := 0, slots := 0, locals := 21 } : Room) s m ([.ref h0, .int (nI fr)] : List Value).toArray below meth c H locs 0 0 (MQ below (va_Qv (fun _ : Unit => True) (fun _ t => va_P (dC, dI) classes (ha_ws h0 aw ax ay cJ cI w (swn (sp1 sc w fr 8) 48) st L) t.heap ∧ va_K (dC, dI) classes [(cJ, .long), (cI, .int)] t ∧ va_D A (ha_ws h0 aw ax ay cJ cI w (swn (sp1 sc w fr 8) 48) st L)) A) ([.ref h0, .int (nI fr)] : List Value).toArray s 0 0 A) (F0 m 2 ls []) := by
    intro j
    induction j using Nat.strongRecOn with
    | ind j ih =>
      intro k hkj H locs hS hP hD ls hl
      refine lv_iload_n hx hb d_Ha_spread_2 rfl (lv_at hl 2 rfl) ?_
      refine lv_bipush (v := 8) hx hb d_Ha_spread_3 (by decide) ?_
      refine lv_icmp_ge (tgt := 53) hx hb d_Ha_spread_5 (by decide) (fun c_1 => ?_) (fun c_1 => ?_)
      · -- taken
        have hk8 : k = 8 := by
          have := (ige 8 (by omega) (by omega) rfl).mp c_1
          omega
        subst hk8
        refine lv_bipush (v := 16) hx hb d_Ha_spread_53 (by decide) ?_
        refine lv_istore_n (lv' := [(2, .int 16), (0, .ref h0), (1, .int (nI fr))]) hx hb d_Ha_spread_55 rfl hl (by decide) rfl (fun ls hl => ?_)
        exact loop2 48 0 (by omega) H locs hS hP hD ls (lv_sub hl [1, 2, 0] rfl)
      · -- not taken
        have hk8 : ¬ 8 ≤ k := fun h => c_1 ((ige 8 (by omega) (by omega) rfl).mpr h)
        refine lv_aload_n hx hb d_Ha_spread_8 rfl (lv_at hl 0 rfl) ?_
        refine va_get (D := (dC, dI)) (ci := 2) (v := .ref ax) (C := "BallotBoard$Hash") (T := F_Ha) (N := 4) hx hb hts (fun w9 h9 => List.mem_cons_of_mem _ (i_Ha w9 h9)) hown hK hP 0 rfl rfl 1 (by decide) (hts _ (List.mem_cons_of_mem _ gk_38)) (fun _ h9 => h9) rfl d_Ha_spread_9 ?_
        refine lv_iconst (v := 2) hx hb d_Ha_spread_12 (by decide) ?_
        refine lv_iload_n hx hb d_Ha_spread_13 rfl (lv_at hl 2 rfl) ?_
        refine lv_imul hx hb d_Ha_spread_14 ?_
        rw [show (2 * (nI k) : Int32) = (nI (2 * k)) from pk_mul 2 k]
        refine lv_aload_n hx hb d_Ha_spread_15 rfl (lv_at hl 0 rfl) ?_
        refine va_get (D := (dC, dI)) (ci := 2) (v := .ref aw) (C := "BallotBoard$Hash") (T := F_Ha) (N := 4) hx hb hts (fun w9 h9 => List.mem_cons_of_mem _ (i_Ha w9 h9)) hown hK hP 0 rfl rfl 0 (by decide) (hts _ (List.mem_cons_of_mem _ gk_37)) (fun _ h9 => h9) rfl d_Ha_spread_16 ?_
        refine lv_iload_n hx hb d_Ha_spread_19 rfl (lv_at hl 1 rfl) ?_
        refine lv_iload_n hx hb d_Ha_spread_20 rfl (lv_at hl 2 rfl) ?_
        refine lv_iadd hx hb d_Ha_spread_21 ?_
        rw [show ((nI fr) + (nI k) : Int32) = (nI (fr + k)) from nI_add fr k]
        refine va_lald hx hb hK hP 1 0 rfl rfl (vp_in_nI (by omega) (by omega)) d_Ha_spread_22 ?_
        rw [show (w (nI (fr + k) : Int32).toNatClampNeg : Int64) = w (fr + k) from by rw [nI_clamp (by omega)]]
        refine lv_bipush (v := 32) hx hb d_Ha_spread_23 (by decide) ?_
        refine lv_lushr (v := ((w (fr + k)).toUInt64 >>> ((32 : Int32).toInt64.toUInt64 &&& Int64.toUInt64 63)).toInt64) hx hb d_Ha_spread_25 rfl ?_
        refine lv_l2i (v := (((w (fr + k)).toUInt64 >>> ((32 : Int32).toInt64.toUInt64 &&& Int64.toUInt64 63)).toInt64 : Int64).toInt32) hx hb d_Ha_spread_26 rfl ?_
        rw [show ((((w (fr + k)).toUInt64 >>> ((32 : Int32).toInt64.toUInt64 &&& Int64.toUInt64 63)).toInt64 : Int64).toInt32 : Int32) = (w_hi (w (fr + k))) from rfl]
        refine va_iast hx hb hK hP hD hS 2 1 rfl rfl (vp_in_nI (by omega) (by omega)) d_Ha_spread_27 (fun H locs hP hD hS => ?_)
        have hfe : upd (sp1 sc w fr k) (nI (2 * k) : Int32).toNatClampNeg (w_hi (w (fr + k))) = upd (sp1 sc w fr k) (2 * k) (w_hi (w (fr + k))) := by rw [nI_clamp (by omega)]
        have hP : va_P (dC, dI) classes [(h0, .inr (2, [.ref aw, .ref ax, .ref ay, .int (nI L)])), (aw, .inl (cJ, 16, .inr (.inl w))), (ax, .inl (cI, 64, .inl (upd (sp1 sc w fr k) (nI (2 * k) : Int32).toNatClampNeg (w_hi (w (fr + k)))))), (ay, .inl (cI, 8, .inl st))] H := hP
        have hD : va_D A [(h0, .inr (2, [.ref aw, .ref ax, .ref ay, .int (nI L)])), (aw, .inl (cJ, 16, .inr (.inl w))), (ax, .inl (cI, 64, .inl (upd (sp1 sc w fr k) (nI (2 * k) : Int32).toNatClampNeg (w_hi (w (fr + k)))))), (ay, .inl (cI, 8, .inl st))] := hD
        rw [hfe] at hP hD
        refine lv_aload_n hx hb d_Ha_spread_28 rfl (lv_at hl 0 rfl) ?_
        refine va_get (D := (dC, dI)) (ci := 2) (v := .ref ax) (C := "BallotBoard$Hash") (T := F_Ha) (N := 4) hx hb hts (fun w9 h9 => List.mem_cons_of_mem _ (i_Ha w9 h9)) hown hK hP 0 rfl rfl 1 (by decide) (hts _ (List.mem_cons_of_mem _ gk_38)) (fun _ h9 => h9) rfl d_Ha_spread_29 ?_
        refine lv_iconst (v := 2) hx hb d_Ha_spread_32 (by decide) ?_
        refine lv_iload_n hx hb d_Ha_spread_33 rfl (lv_at hl 2 rfl) ?_
        refine lv_imul hx hb d_Ha_spread_34 ?_
        rw [show (2 * (nI k) : Int32) = (nI (2 * k)) from pk_mul 2 k]
        refine lv_iconst (v := 1) hx hb d_Ha_spread_35 (by decide) ?_
        refine lv_iadd hx hb d_Ha_spread_36 ?_
        rw [show ((nI (2 * k)) + 1 : Int32) = (nI (2 * k + 1)) from nI_1 _]
        refine lv_aload_n hx hb d_Ha_spread_37 rfl (lv_at hl 0 rfl) ?_
        refine va_get (D := (dC, dI)) (ci := 2) (v := .ref aw) (C := "BallotBoard$Hash") (T := F_Ha) (N := 4) hx hb hts (fun w9 h9 => List.mem_cons_of_mem _ (i_Ha w9 h9)) hown hK hP 0 rfl rfl 0 (by decide) (hts _ (List.mem_cons_of_mem _ gk_37)) (fun _ h9 => h9) rfl d_Ha_spread_38 ?_
        refine lv_iload_n hx hb d_Ha_spread_41 rfl (lv_at hl 1 rfl) ?_
        refine lv_iload_n hx hb d_Ha_spread_42 rfl (lv_at hl 2 rfl) ?_
        refine lv_iadd hx hb d_Ha_spread_43 ?_
        rw [show ((nI fr) + (nI k) : Int32) = (nI (fr + k)) from nI_add fr k]
        refine va_lald hx hb hK hP 1 0 rfl rfl (vp_in_nI (by omega) (by omega)) d_Ha_spread_44 ?_
        rw [show (w (nI (fr + k) : Int32).toNatClampNeg : Int64) = w (fr + k) from by rw [nI_clamp (by omega)]]
        refine lv_l2i (v := (w (fr + k) : Int64).toInt32) hx hb d_Ha_spread_45 rfl ?_
        refine va_iast hx hb hK hP hD hS 2 1 rfl rfl (vp_in_nI (by omega) (by omega)) d_Ha_spread_46 (fun H locs hP hD hS => ?_)
        have hfe : upd (upd (sp1 sc w fr k) (2 * k) (w_hi (w (fr + k)))) (nI (2 * k + 1) : Int32).toNatClampNeg ((w (fr + k) : Int64).toInt32) = sp1 sc w fr (k + 1) := by rw [nI_clamp (by omega)]; rfl
        have hP : va_P (dC, dI) classes [(h0, .inr (2, [.ref aw, .ref ax, .ref ay, .int (nI L)])), (aw, .inl (cJ, 16, .inr (.inl w))), (ax, .inl (cI, 64, .inl (upd (upd (sp1 sc w fr k) (2 * k) (w_hi (w (fr + k)))) (nI (2 * k + 1) : Int32).toNatClampNeg ((w (fr + k) : Int64).toInt32)))), (ay, .inl (cI, 8, .inl st))] H := hP
        have hD : va_D A [(h0, .inr (2, [.ref aw, .ref ax, .ref ay, .int (nI L)])), (aw, .inl (cJ, 16, .inr (.inl w))), (ax, .inl (cI, 64, .inl (upd (upd (sp1 sc w fr k) (2 * k) (w_hi (w (fr + k)))) (nI (2 * k + 1) : Int32).toNatClampNeg ((w (fr + k) : Int64).toInt32)))), (ay, .inl (cI, 8, .inl st))] := hD
        rw [hfe] at hP hD
        obtain ⟨i_2, ei_2⟩ : ∃ y : Int32, y = (nI k) + 1 := ⟨_, rfl⟩
        refine lv_iinc (v := i_2) (lv' := [(2, .int i_2), (0, .ref h0), (1, .int (nI fr))]) hx hb d_Ha_spread_47 hl (k := 2) rfl (by rw [ei_2]; rfl) (by decide) rfl (fun ls hl => ?_)
        obtain rfl : i_2 = nI (k + 1) := by rw [ei_2]; exact nI_1 k
        refine lv_goto (tgt := 2) hx hb d_Ha_spread_50 (by decide) ?_
        exact ih (j - 1) (by omega) (k + 1) (by omega) H locs hS hP hD ls (lv_sub hl [1, 2, 0] rfl)
  refine lv_iconst (v := 0) hx hb d_Ha_spread_0 (by decide) ?_
  refine lv_istore_n (lv' := [(2, .int 0), (0, .ref h0), (1, .int (nI fr))]) hx hb d_Ha_spread_1 rfl hl (by decide) rfl (fun ls hl => ?_)
  exact loop1 8 0 (by omega) _ [] hS hP hD ls (lv_sub hl [1, 2, 0] rfl)
