abbrev b_Ta_start : ByteArray := prog_8_method_2_code
abbrev y_Ta_start : MethodName := ⟨"BallotBoard$Tally", "start", "(LBallotBoard$Group;I)V"⟩
abbrev w_Ta_start : List Cond := .code y_Ta_start b_Ta_start 4 none :: gw
theorem d_Ta_start_0 : decode b_Ta_start 0 = .ok (.aload_n 0, 1) := by decide +kernel
theorem d_Ta_start_1 : decode b_Ta_start 1 = .ok (.aload_n 1, 1) := by decide +kernel
theorem d_Ta_start_2 : decode b_Ta_start 2 = .ok (.putfield 24, 3) := by decide +kernel
theorem d_Ta_start_5 : decode b_Ta_start 5 = .ok (.aload_n 0, 1) := by decide +kernel
theorem d_Ta_start_6 : decode b_Ta_start 6 = .ok (.iload_n 2, 1) := by decide +kernel
theorem d_Ta_start_7 : decode b_Ta_start 7 = .ok (.putfield 28, 3) := by decide +kernel
theorem d_Ta_start_10 : decode b_Ta_start 10 = .ok (.aload_n 0, 1) := by decide +kernel
theorem d_Ta_start_11 : decode b_Ta_start 11 = .ok (.iconst 0, 1) := by decide +kernel
theorem d_Ta_start_12 : decode b_Ta_start 12 = .ok (.putfield 32, 3) := by decide +kernel
theorem d_Ta_start_15 : decode b_Ta_start 15 = .ok (.aload_n 0, 1) := by decide +kernel
theorem d_Ta_start_16 : decode b_Ta_start 16 = .ok (.iconst 0, 1) := by decide +kernel
theorem d_Ta_start_17 : decode b_Ta_start 17 = .ok (.putfield 35, 3) := by decide +kernel
theorem d_Ta_start_20 : decode b_Ta_start 20 = .ok (.aload_n 0, 1) := by decide +kernel
theorem d_Ta_start_21 : decode b_Ta_start 21 = .ok (.iconst 0, 1) := by decide +kernel
theorem d_Ta_start_22 : decode b_Ta_start 22 = .ok (.putfield 38, 3) := by decide +kernel
theorem d_Ta_start_25 : decode b_Ta_start 25 = .ok (.aload_n 0, 1) := by decide +kernel
theorem d_Ta_start_26 : decode b_Ta_start 26 = .ok (.lconst 1, 1) := by decide +kernel
theorem d_Ta_start_27 : decode b_Ta_start 27 = .ok (.putfield 41, 3) := by decide +kernel
theorem d_Ta_start_30 : decode b_Ta_start 30 = .ok (.aload_n 0, 1) := by decide +kernel
theorem d_Ta_start_31 : decode b_Ta_start 31 = .ok (.lconst 1, 1) := by decide +kernel
theorem d_Ta_start_32 : decode b_Ta_start 32 = .ok (.putfield 45, 3) := by decide +kernel
theorem d_Ta_start_35 : decode b_Ta_start 35 = .ok (.aload_n 0, 1) := by decide +kernel
theorem d_Ta_start_36 : decode b_Ta_start 36 = .ok (.lconst 0, 1) := by decide +kernel
theorem d_Ta_start_37 : decode b_Ta_start 37 = .ok (.putfield 48, 3) := by decide +kernel
theorem d_Ta_start_40 : decode b_Ta_start 40 = .ok (.aload_n 0, 1) := by decide +kernel
theorem d_Ta_start_41 : decode b_Ta_start 41 = .ok (.lconst 0, 1) := by decide +kernel
theorem d_Ta_start_42 : decode b_Ta_start 42 = .ok (.putfield 51, 3) := by decide +kernel
theorem d_Ta_start_45 : decode b_Ta_start 45 = .ok (.aload_n 0, 1) := by decide +kernel
theorem d_Ta_start_46 : decode b_Ta_start 46 = .ok (.iconst 0, 1) := by decide +kernel
theorem d_Ta_start_47 : decode b_Ta_start 47 = .ok (.putfield 54, 3) := by decide +kernel
theorem d_Ta_start_50 : decode b_Ta_start 50 = .ok (.iconst 0, 1) := by decide +kernel
theorem d_Ta_start_51 : decode b_Ta_start 51 = .ok (.istore_n 3, 1) := by decide +kernel
theorem d_Ta_start_52 : decode b_Ta_start 52 = .ok (.iload_n 3, 1) := by decide +kernel
theorem d_Ta_start_53 : decode b_Ta_start 53 = .ok (.iconst 4, 1) := by decide +kernel
theorem d_Ta_start_54 : decode b_Ta_start 54 = .ok (.if_icmp .ge 23, 3) := by decide +kernel
theorem d_Ta_start_57 : decode b_Ta_start 57 = .ok (.aload_n 0, 1) := by decide +kernel
theorem d_Ta_start_58 : decode b_Ta_start 58 = .ok (.getfield 9, 3) := by decide +kernel
theorem d_Ta_start_61 : decode b_Ta_start 61 = .ok (.iload_n 3, 1) := by decide +kernel
theorem d_Ta_start_62 : decode b_Ta_start 62 = .ok (.lconst 0, 1) := by decide +kernel
theorem d_Ta_start_63 : decode b_Ta_start 63 = .ok (.lastore, 1) := by decide +kernel
theorem d_Ta_start_64 : decode b_Ta_start 64 = .ok (.aload_n 0, 1) := by decide +kernel
theorem d_Ta_start_65 : decode b_Ta_start 65 = .ok (.getfield 15, 3) := by decide +kernel
theorem d_Ta_start_68 : decode b_Ta_start 68 = .ok (.iload_n 3, 1) := by decide +kernel
theorem d_Ta_start_69 : decode b_Ta_start 69 = .ok (.lconst 0, 1) := by decide +kernel
theorem d_Ta_start_70 : decode b_Ta_start 70 = .ok (.lastore, 1) := by decide +kernel
theorem d_Ta_start_71 : decode b_Ta_start 71 = .ok (.iinc 3 1, 3) := by decide +kernel
theorem d_Ta_start_74 : decode b_Ta_start 74 = .ok (.goto (-22), 3) := by decide +kernel
theorem d_Ta_start_77 : decode b_Ta_start 77 = .ok (.iconst 0, 1) := by decide +kernel
theorem d_Ta_start_78 : decode b_Ta_start 78 = .ok (.istore_n 3, 1) := by decide +kernel
theorem d_Ta_start_79 : decode b_Ta_start 79 = .ok (.iload_n 3, 1) := by decide +kernel
theorem d_Ta_start_80 : decode b_Ta_start 80 = .ok (.bipush 64, 2) := by decide +kernel
theorem d_Ta_start_82 : decode b_Ta_start 82 = .ok (.if_icmp .ge 23, 3) := by decide +kernel
theorem d_Ta_start_85 : decode b_Ta_start 85 = .ok (.aload_n 0, 1) := by decide +kernel
theorem d_Ta_start_86 : decode b_Ta_start 86 = .ok (.getfield 18, 3) := by decide +kernel
theorem d_Ta_start_89 : decode b_Ta_start 89 = .ok (.iload_n 3, 1) := by decide +kernel
theorem d_Ta_start_90 : decode b_Ta_start 90 = .ok (.lconst 0, 1) := by decide +kernel
theorem d_Ta_start_91 : decode b_Ta_start 91 = .ok (.lastore, 1) := by decide +kernel
theorem d_Ta_start_92 : decode b_Ta_start 92 = .ok (.aload_n 0, 1) := by decide +kernel
theorem d_Ta_start_93 : decode b_Ta_start 93 = .ok (.getfield 21, 3) := by decide +kernel
theorem d_Ta_start_96 : decode b_Ta_start 96 = .ok (.iload_n 3, 1) := by decide +kernel
theorem d_Ta_start_97 : decode b_Ta_start 97 = .ok (.lconst 0, 1) := by decide +kernel
theorem d_Ta_start_98 : decode b_Ta_start 98 = .ok (.lastore, 1) := by decide +kernel
theorem d_Ta_start_99 : decode b_Ta_start 99 = .ok (.iinc 3 1, 3) := by decide +kernel
theorem d_Ta_start_102 : decode b_Ta_start 102 = .ok (.goto (-23), 3) := by decide +kernel
theorem d_Ta_start_105 : decode b_Ta_start 105 = .ok (.return_, 1) := by decide +kernel
set_option maxHeartbeats 8000000 in
set_option maxRecDepth 100000 in
theorem c_Ta_start (l : Launch) (dC : Nat → ClassId) (dI : Nat → Nat → Nat) (cJ cI : ClassId) (sz : Nat) (t0 ka aa ba sa : Nat) (gv : Value) (ko ao bo so : Nat → Nat) (tn kc bc shc kp shp pa pb : Nat) (sht : Int32) (g0 N1 : Nat)  : Met l y_Ta_start w_Ta_start ({ frames := 0, cells := 0, slots := 0, locals := 0 }) (va_Pc [.ref t0, .ref g0, .int (nI N1)] (fun U => U.heap.size = sz ∧ va_P (dC, dI) classes (tl_ws t0 ka aa ba sa gv cJ ko ao bo so tn kc bc shc kp shp pa pb sht) U.heap ∧ va_K (dC, dI) classes [(cJ, .long), (cI, .int)] U ∧ va_D (fun _ => True) (tl_ws t0 ka aa ba sa gv cJ ko ao bo so tn kc bc shc kp shp pa pb sht))) (va_Qv (fun _ : Unit => True) (fun _ t => va_P (dC, dI) classes (tl_ws t0 ka aa ba sa (.ref g0) cJ (zf ko 4) (zf ao 64) (zf bo 64) (zf so 4) N1 0 0 0 1 1 0 0 0) t.heap ∧ va_K (dC, dI) classes [(cJ, .long), (cI, .int)] t ∧ va_D (va_A (tl_ws t0 ka aa ba sa gv cJ ko ao bo so tn kc bc shc kp shp pa pb sht) sz) (tl_ws t0 ka aa ba sa (.ref g0) cJ (zf ko 4) (zf ao 64) (zf bo 64) (zf so 4) N1 0 0 0 1 1 0 0 0)) (va_A (tl_ws t0 ka aa ba sa gv cJ ko ao bo so tn kc bc shc kp shp pa pb sht) sz)) 0 0 (va_A (tl_ws t0 ka aa ba sa gv cJ ko ao bo so tn kc bc shc kp shp pa pb sht) sz) := by
  refine Met.ofW (cc := b_Ta_start) (maxL := 4) (ret := none) (by decide) rfl ?_
  intro p e s m args below meth c s₁ Bd hml hv
  obtain ⟨rfl, hsz, hP, hK, hD0⟩ := hv
  have hx := Bd.exec
  have hb := Bd.bytes
  have hr := Bd.returns
  have hts := atoms_spec (ws := w_Ta_start) Bd.pre
  have hown : s.vm.findClass "BallotBoard$Tally" = some m.cls := findClass_of_methodNamed Bd.named
  have hlocks := Bd.notSynchronized
  subst hsz
  have hD := hD0.self (sz := s.heap.size)
  generalize hAe : va_A (tl_ws t0 ka aa ba sa gv cJ ko ao bo so tn kc bc shc kp shp pa pb sht) s.heap.size = A at hD ⊢
  have hA : ∀ q : Nat, s.heap.size ≤ q → A q := fun q h => by rw [← hAe]; exact Or.inr h
  have hS : va_S A s.heap s.heap [] := va_S.rf
  have hl := lv_entry ([.ref t0, .ref g0, .int (nI N1)]) (n := 4) (Nat.le_of_ble_eq_true rfl)
  rw [lg_entry_eq]
  generalize (lg_sl ([.ref t0, .ref g0, .int (nI N1)]) ++ List.replicate (4 - (lg_sl ([.ref t0, .ref g0, .int (nI N1)])).length) Slot.unset).toArray = ls at hl ⊢
  have hl : lv_has ls 4 [(0, .ref t0), (1, .ref g0), (2, .int (nI N1))] := hl
  have loop2 : ∀ (j i : Nat), i + j = 64 → ∀ (H : Heap) (locs : List Loc), va_S A s.heap H locs → va_P (dC, dI) classes (tl_ws t0 ka aa ba sa (.ref g0) cJ (zf ko 4) (zf ao i) (zf bo i) (zf so 4) N1 0 0 0 1 1 0 0 0) H → va_D A (tl_ws t0 ka aa ba sa (.ref g0) cJ (zf ko 4) (zf ao i) (zf bo i) (zf so 4) N1 0 0 0 1 1 0 0 0) → ∀ (ls : Array Slot), lv_has ls 4 [(0, .ref t0), (1, .ref g0), (2, .int (nI N1)), (3, .int (nI i))] → W p l e ({ frames := 0, cells := 0, slots := 0, locals := 0 } : Room) s m ([.ref t0, .ref g0, .int (nI N1)] : List Value).toArray below meth c H locs 0 0 (MQ below (va_Qv (fun _ : Unit => True) (fun _ t => va_P (dC, dI) classes (tl_ws t0 ka aa ba sa (.ref g0) cJ (zf ko 4) (zf ao 64) (zf bo 64) (zf so 4) N1 0 0 0 1 1 0 0 0) t.heap ∧ va_K (dC, dI) classes [(cJ, .long), (cI, .int)] t ∧ va_D A (tl_ws t0 ka aa ba sa (.ref g0) cJ (zf ko 4) (zf ao 64) (zf bo 64) (zf so 4) N1 0 0 0 1 1 0 0 0)) A) ([.ref t0, .ref g0, .int (nI N1)] : List Value).toArray s 0 0 A) (F0 m 79 ls []) := by
    intro j
    induction j using Nat.strongRecOn with
    | ind j ih =>
      intro i hij H locs hS hP hD ls hl
      refine lv_iload_n hx hb d_Ta_start_79 rfl (lv_at hl 3 rfl) ?_
      refine lv_bipush (v := 64) hx hb d_Ta_start_80 (by decide) ?_
      refine lv_icmp_ge (tgt := 105) hx hb d_Ta_start_82 (by decide) (fun c_1 => ?_) (fun c_1 => ?_)
      · -- taken
        have hi9 : i = 64 := by
          have := (ige 64 (by omega) (by omega) rfl).mp c_1
          omega
        subst hi9
        exact W.vret hx hb hr (fun t ht9 hW => ⟨⟨(), rfl, trivial, by rw [ht9]; exact hP, va_K.moved hW.alike hK, hD⟩, hS.F ht9⟩) hS.2.2 d_Ta_start_105
      · -- not taken
        have hi9 : i < 64 := by
          have : ¬ 64 ≤ i := fun h => c_1 ((ige 64 (by omega) (by omega) rfl).mpr h)
          omega
        refine lv_aload_n hx hb d_Ta_start_85 rfl (lv_at hl 0 rfl) ?_
        refine va_get (D := (dC, dI)) (ci := 4) (v := .ref aa) (C := "BallotBoard$Tally") (T := F_Ta) (N := 14) hx hb hts (fun w9 h9 => List.mem_cons_of_mem _ (i_Ta w9 h9)) hown hK hP 0 rfl rfl 1 (by decide) (hts _ (List.mem_cons_of_mem _ gk_93)) (fun _ h9 => h9) rfl d_Ta_start_86 ?_
        refine lv_iload_n hx hb d_Ta_start_89 rfl (lv_at hl 3 rfl) ?_
        refine lv_lconst (v := 0) hx hb d_Ta_start_90 (by decide) ?_
        refine va_last hx hb hK hP hD hS 2 0 rfl rfl (vp_in_nI (by omega) (by omega)) d_Ta_start_91 (fun H locs hP hD hS => ?_)
        have hfe : vp_updL (lF (zf ao i)) (nI i : Int32).toNatClampNeg 0 = lF (zf ao (i + 1)) := by rw [nI_clamp (by omega)]; exact lF_zf _ _
        have hP : va_P (dC, dI) classes [(t0, .inr (4, [.ref ka, .ref aa, .ref ba, .ref sa, .ref g0, .int (nI N1), .int (nI 0), .int (nI 0), .int (nI 0), .long (lN 1), .long (lN 1), .long (lN 0), .long (lN 0), .int 0])), (ka, .inl (cJ, 4, .inr (.inl (lF (zf ko 4))))), (aa, .inl (cJ, 64, .inr (.inl (vp_updL (lF (zf ao i)) (nI i : Int32).toNatClampNeg 0)))), (ba, .inl (cJ, 64, .inr (.inl (lF (zf bo i))))), (sa, .inl (cJ, 4, .inr (.inl (lF (zf so 4)))))] H := hP
        have hD : va_D A [(t0, .inr (4, [.ref ka, .ref aa, .ref ba, .ref sa, .ref g0, .int (nI N1), .int (nI 0), .int (nI 0), .int (nI 0), .long (lN 1), .long (lN 1), .long (lN 0), .long (lN 0), .int 0])), (ka, .inl (cJ, 4, .inr (.inl (lF (zf ko 4))))), (aa, .inl (cJ, 64, .inr (.inl (vp_updL (lF (zf ao i)) (nI i : Int32).toNatClampNeg 0)))), (ba, .inl (cJ, 64, .inr (.inl (lF (zf bo i))))), (sa, .inl (cJ, 4, .inr (.inl (lF (zf so 4)))))] := hD
        rw [hfe] at hP hD
        refine lv_aload_n hx hb d_Ta_start_92 rfl (lv_at hl 0 rfl) ?_
        refine va_get (D := (dC, dI)) (ci := 4) (v := .ref ba) (C := "BallotBoard$Tally") (T := F_Ta) (N := 14) hx hb hts (fun w9 h9 => List.mem_cons_of_mem _ (i_Ta w9 h9)) hown hK hP 0 rfl rfl 2 (by decide) (hts _ (List.mem_cons_of_mem _ gk_94)) (fun _ h9 => h9) rfl d_Ta_start_93 ?_
        refine lv_iload_n hx hb d_Ta_start_96 rfl (lv_at hl 3 rfl) ?_
        refine lv_lconst (v := 0) hx hb d_Ta_start_97 (by decide) ?_
        refine va_last hx hb hK hP hD hS 3 0 rfl rfl (vp_in_nI (by omega) (by omega)) d_Ta_start_98 (fun H locs hP hD hS => ?_)
        have hfe : vp_updL (lF (zf bo i)) (nI i : Int32).toNatClampNeg 0 = lF (zf bo (i + 1)) := by rw [nI_clamp (by omega)]; exact lF_zf _ _
        have hP : va_P (dC, dI) classes [(t0, .inr (4, [.ref ka, .ref aa, .ref ba, .ref sa, .ref g0, .int (nI N1), .int (nI 0), .int (nI 0), .int (nI 0), .long (lN 1), .long (lN 1), .long (lN 0), .long (lN 0), .int 0])), (ka, .inl (cJ, 4, .inr (.inl (lF (zf ko 4))))), (aa, .inl (cJ, 64, .inr (.inl (lF (zf ao (i + 1)))))), (ba, .inl (cJ, 64, .inr (.inl (vp_updL (lF (zf bo i)) (nI i : Int32).toNatClampNeg 0)))), (sa, .inl (cJ, 4, .inr (.inl (lF (zf so 4)))))] H := hP
        have hD : va_D A [(t0, .inr (4, [.ref ka, .ref aa, .ref ba, .ref sa, .ref g0, .int (nI N1), .int (nI 0), .int (nI 0), .int (nI 0), .long (lN 1), .long (lN 1), .long (lN 0), .long (lN 0), .int 0])), (ka, .inl (cJ, 4, .inr (.inl (lF (zf ko 4))))), (aa, .inl (cJ, 64, .inr (.inl (lF (zf ao (i + 1)))))), (ba, .inl (cJ, 64, .inr (.inl (vp_updL (lF (zf bo i)) (nI i : Int32).toNatClampNeg 0)))), (sa, .inl (cJ, 4, .inr (.inl (lF (zf so 4)))))] := hD
        rw [hfe] at hP hD
        obtain ⟨i_2, ei_2⟩ : ∃ y : Int32, y = (nI i) + 1 := ⟨_, rfl⟩
        refine lv_iinc (v := i_2) (lv' := [(3, .int i_2), (0, .ref t0), (1, .ref g0), (2, .int (nI N1))]) hx hb d_Ta_start_99 hl (k := 3) rfl (by rw [ei_2]; rfl) (by decide) rfl (fun ls hl => ?_)
        obtain rfl : i_2 = nI (i + 1) := by rw [ei_2]; exact nI_1 i
        refine lv_goto (tgt := 79) hx hb d_Ta_start_102 (by decide) ?_
        exact ih (j - 1) (by omega) (i + 1) (by omega) H locs hS hP hD ls (lv_sub hl [1, 2, 3, 0] rfl)
  have loop1 : ∀ (j i : Nat), i + j = 4 → ∀ (H : Heap) (locs : List Loc), va_S A s.heap H locs → va_P (dC, dI) classes (tl_ws t0 ka aa ba sa (.ref g0) cJ (zf ko i) ao bo (zf so i) N1 0 0 0 1 1 0 0 0) H → va_D A (tl_ws t0 ka aa ba sa (.ref g0) cJ (zf ko i) ao bo (zf so i) N1 0 0 0 1 1 0 0 0) → ∀ (ls : Array Slot), lv_has ls 4 [(0, .ref t0), (1, .ref g0), (2, .int (nI N1)), (3, .int (nI i))] → W p l e ({ frames := 0, cells := 0, slots := 0, locals := 0 } : Room) s m ([.ref t0, .ref g0, .int (nI N1)] : List Value).toArray below meth c H locs 0 0 (MQ below (va_Qv (fun _ : Unit => True) (fun _ t => va_P (dC, dI) classes (tl_ws t0 ka aa ba sa (.ref g0) cJ (zf ko 4) (zf ao 64) (zf bo 64) (zf so 4) N1 0 0 0 1 1 0 0 0) t.heap ∧ va_K (dC, dI) classes [(cJ, .long), (cI, .int)] t ∧ va_D A (tl_ws t0 ka aa ba sa (.ref g0) cJ (zf ko 4) (zf ao 64) (zf bo 64) (zf so 4) N1 0 0 0 1 1 0 0 0)) A) ([.ref t0, .ref g0, .int (nI N1)] : List Value).toArray s 0 0 A) (F0 m 52 ls []) := by
    intro j
    induction j using Nat.strongRecOn with
    | ind j ih =>
      intro i hij H locs hS hP hD ls hl
      refine lv_iload_n hx hb d_Ta_start_52 rfl (lv_at hl 3 rfl) ?_
      refine lv_iconst (v := 4) hx hb d_Ta_start_53 (by decide) ?_
      refine lv_icmp_ge (tgt := 77) hx hb d_Ta_start_54 (by decide) (fun c_1 => ?_) (fun c_1 => ?_)
      · -- taken
        have hi9 : i = 4 := by
          have := (ige 4 (by omega) (by omega) rfl).mp c_1
          omega
        subst hi9
        refine lv_iconst (v := 0) hx hb d_Ta_start_77 (by decide) ?_
        refine lv_istore_n (lv' := [(3, .int 0), (0, .ref t0), (1, .ref g0), (2, .int (nI N1))]) hx hb d_Ta_start_78 rfl hl (by decide) rfl (fun ls hl => ?_)
        have hP : va_P (dC, dI) classes (tl_ws t0 ka aa ba sa (.ref g0) cJ (zf ko 4) (zf ao 0) (zf bo 0) (zf so 4) N1 0 0 0 1 1 0 0 0) H := by rw [zf_0 ao, zf_0 bo]; exact hP
        have hD : va_D A (tl_ws t0 ka aa ba sa (.ref g0) cJ (zf ko 4) (zf ao 0) (zf bo 0) (zf so 4) N1 0 0 0 1 1 0 0 0) := by rw [zf_0 ao, zf_0 bo]; exact hD
        exact loop2 64 0 (by omega) H locs hS hP hD ls (lv_sub hl [1, 2, 3, 0] rfl)
      · -- not taken
        have hi9 : i < 4 := by
          have : ¬ 4 ≤ i := fun h => c_1 ((ige 4 (by omega) (by omega) rfl).mpr h)
          omega
        refine lv_aload_n hx hb d_Ta_start_57 rfl (lv_at hl 0 rfl) ?_
        refine va_get (D := (dC, dI)) (ci := 4) (v := .ref ka) (C := "BallotBoard$Tally") (T := F_Ta) (N := 14) hx hb hts (fun w9 h9 => List.mem_cons_of_mem _ (i_Ta w9 h9)) hown hK hP 0 rfl rfl 0 (by decide) (hts _ (List.mem_cons_of_mem _ gk_92)) (fun _ h9 => h9) rfl d_Ta_start_58 ?_
        refine lv_iload_n hx hb d_Ta_start_61 rfl (lv_at hl 3 rfl) ?_
        refine lv_lconst (v := 0) hx hb d_Ta_start_62 (by decide) ?_
        refine va_last hx hb hK hP hD hS 1 0 rfl rfl (vp_in_nI (by omega) (by omega)) d_Ta_start_63 (fun H locs hP hD hS => ?_)
        have hfe : vp_updL (lF (zf ko i)) (nI i : Int32).toNatClampNeg 0 = lF (zf ko (i + 1)) := by rw [nI_clamp (by omega)]; exact lF_zf _ _
        have hP : va_P (dC, dI) classes [(t0, .inr (4, [.ref ka, .ref aa, .ref ba, .ref sa, .ref g0, .int (nI N1), .int (nI 0), .int (nI 0), .int (nI 0), .long (lN 1), .long (lN 1), .long (lN 0), .long (lN 0), .int 0])), (ka, .inl (cJ, 4, .inr (.inl (vp_updL (lF (zf ko i)) (nI i : Int32).toNatClampNeg 0)))), (aa, .inl (cJ, 64, .inr (.inl (lF ao)))), (ba, .inl (cJ, 64, .inr (.inl (lF bo)))), (sa, .inl (cJ, 4, .inr (.inl (lF (zf so i)))))] H := hP
        have hD : va_D A [(t0, .inr (4, [.ref ka, .ref aa, .ref ba, .ref sa, .ref g0, .int (nI N1), .int (nI 0), .int (nI 0), .int (nI 0), .long (lN 1), .long (lN 1), .long (lN 0), .long (lN 0), .int 0])), (ka, .inl (cJ, 4, .inr (.inl (vp_updL (lF (zf ko i)) (nI i : Int32).toNatClampNeg 0)))), (aa, .inl (cJ, 64, .inr (.inl (lF ao)))), (ba, .inl (cJ, 64, .inr (.inl (lF bo)))), (sa, .inl (cJ, 4, .inr (.inl (lF (zf so i)))))] := hD
        rw [hfe] at hP hD
        refine lv_aload_n hx hb d_Ta_start_64 rfl (lv_at hl 0 rfl) ?_
        refine va_get (D := (dC, dI)) (ci := 4) (v := .ref sa) (C := "BallotBoard$Tally") (T := F_Ta) (N := 14) hx hb hts (fun w9 h9 => List.mem_cons_of_mem _ (i_Ta w9 h9)) hown hK hP 0 rfl rfl 3 (by decide) (hts _ (List.mem_cons_of_mem _ gk_95)) (fun _ h9 => h9) rfl d_Ta_start_65 ?_
        refine lv_iload_n hx hb d_Ta_start_68 rfl (lv_at hl 3 rfl) ?_
        refine lv_lconst (v := 0) hx hb d_Ta_start_69 (by decide) ?_
        refine va_last hx hb hK hP hD hS 4 0 rfl rfl (vp_in_nI (by omega) (by omega)) d_Ta_start_70 (fun H locs hP hD hS => ?_)
        have hfe : vp_updL (lF (zf so i)) (nI i : Int32).toNatClampNeg 0 = lF (zf so (i + 1)) := by rw [nI_clamp (by omega)]; exact lF_zf _ _
        have hP : va_P (dC, dI) classes [(t0, .inr (4, [.ref ka, .ref aa, .ref ba, .ref sa, .ref g0, .int (nI N1), .int (nI 0), .int (nI 0), .int (nI 0), .long (lN 1), .long (lN 1), .long (lN 0), .long (lN 0), .int 0])), (ka, .inl (cJ, 4, .inr (.inl (lF (zf ko (i + 1)))))), (aa, .inl (cJ, 64, .inr (.inl (lF ao)))), (ba, .inl (cJ, 64, .inr (.inl (lF bo)))), (sa, .inl (cJ, 4, .inr (.inl (vp_updL (lF (zf so i)) (nI i : Int32).toNatClampNeg 0))))] H := hP
        have hD : va_D A [(t0, .inr (4, [.ref ka, .ref aa, .ref ba, .ref sa, .ref g0, .int (nI N1), .int (nI 0), .int (nI 0), .int (nI 0), .long (lN 1), .long (lN 1), .long (lN 0), .long (lN 0), .int 0])), (ka, .inl (cJ, 4, .inr (.inl (lF (zf ko (i + 1)))))), (aa, .inl (cJ, 64, .inr (.inl (lF ao)))), (ba, .inl (cJ, 64, .inr (.inl (lF bo)))), (sa, .inl (cJ, 4, .inr (.inl (vp_updL (lF (zf so i)) (nI i : Int32).toNatClampNeg 0))))] := hD
        rw [hfe] at hP hD
        obtain ⟨i_2, ei_2⟩ : ∃ y : Int32, y = (nI i) + 1 := ⟨_, rfl⟩
        refine lv_iinc (v := i_2) (lv' := [(3, .int i_2), (0, .ref t0), (1, .ref g0), (2, .int (nI N1))]) hx hb d_Ta_start_71 hl (k := 3) rfl (by rw [ei_2]; rfl) (by decide) rfl (fun ls hl => ?_)
        obtain rfl : i_2 = nI (i + 1) := by rw [ei_2]; exact nI_1 i
        refine lv_goto (tgt := 52) hx hb d_Ta_start_74 (by decide) ?_
        exact ih (j - 1) (by omega) (i + 1) (by omega) H locs hS hP hD ls (lv_sub hl [1, 2, 3, 0] rfl)
  refine lv_aload_n hx hb d_Ta_start_0 rfl (lv_at hl 0 rfl) ?_
  refine lv_aload_n hx hb d_Ta_start_1 rfl (lv_at hl 1 rfl) ?_
  refine va_put (D := (dC, dI)) (ci := 4) (v := .ref g0) (ty := .object "BallotBoard$Group") (C := "BallotBoard$Tally") (T := F_Ta) (N := 14) hx hb hts (fun w9 h9 => List.mem_cons_of_mem _ (i_Ta w9 h9)) t_Ta t_Ta_ok n_Ta hown hK hP hD hS 0 rfl rfl 4 (by decide) (hts _ (List.mem_cons_of_mem _ gk_96)) (fun _ h9 => h9) rfl (by decide +kernel) rfl rfl (Nat.le_of_ble_eq_true rfl) d_Ta_start_2 (fun H locs hP hD hS => ?_)
  have hP : va_P (dC, dI) classes [(t0, .inr (4, [.ref ka, .ref aa, .ref ba, .ref sa, .ref g0, .int (nI tn), .int (nI kc), .int (nI bc), .int (nI shc), .long (lN kp), .long (lN shp), .long (lN pa), .long (lN pb), .int sht])), (ka, .inl (cJ, 4, .inr (.inl (lF ko)))), (aa, .inl (cJ, 64, .inr (.inl (lF ao)))), (ba, .inl (cJ, 64, .inr (.inl (lF bo)))), (sa, .inl (cJ, 4, .inr (.inl (lF so))))] H := hP
  have hD : va_D A [(t0, .inr (4, [.ref ka, .ref aa, .ref ba, .ref sa, .ref g0, .int (nI tn), .int (nI kc), .int (nI bc), .int (nI shc), .long (lN kp), .long (lN shp), .long (lN pa), .long (lN pb), .int sht])), (ka, .inl (cJ, 4, .inr (.inl (lF ko)))), (aa, .inl (cJ, 64, .inr (.inl (lF ao)))), (ba, .inl (cJ, 64, .inr (.inl (lF bo)))), (sa, .inl (cJ, 4, .inr (.inl (lF so))))] := hD
  refine lv_aload_n hx hb d_Ta_start_5 rfl (lv_at hl 0 rfl) ?_
  refine lv_iload_n hx hb d_Ta_start_6 rfl (lv_at hl 2 rfl) ?_
  refine va_put (D := (dC, dI)) (ci := 4) (v := .int (nI N1)) (ty := .int) (C := "BallotBoard$Tally") (T := F_Ta) (N := 14) hx hb hts (fun w9 h9 => List.mem_cons_of_mem _ (i_Ta w9 h9)) t_Ta t_Ta_ok n_Ta hown hK hP hD hS 0 rfl rfl 5 (by decide) (hts _ (List.mem_cons_of_mem _ gk_97)) (fun _ h9 => h9) rfl (by decide +kernel) rfl rfl (Nat.le_of_ble_eq_true rfl) d_Ta_start_7 (fun H locs hP hD hS => ?_)
  have hP : va_P (dC, dI) classes [(t0, .inr (4, [.ref ka, .ref aa, .ref ba, .ref sa, .ref g0, .int (nI N1), .int (nI kc), .int (nI bc), .int (nI shc), .long (lN kp), .long (lN shp), .long (lN pa), .long (lN pb), .int sht])), (ka, .inl (cJ, 4, .inr (.inl (lF ko)))), (aa, .inl (cJ, 64, .inr (.inl (lF ao)))), (ba, .inl (cJ, 64, .inr (.inl (lF bo)))), (sa, .inl (cJ, 4, .inr (.inl (lF so))))] H := hP
  have hD : va_D A [(t0, .inr (4, [.ref ka, .ref aa, .ref ba, .ref sa, .ref g0, .int (nI N1), .int (nI kc), .int (nI bc), .int (nI shc), .long (lN kp), .long (lN shp), .long (lN pa), .long (lN pb), .int sht])), (ka, .inl (cJ, 4, .inr (.inl (lF ko)))), (aa, .inl (cJ, 64, .inr (.inl (lF ao)))), (ba, .inl (cJ, 64, .inr (.inl (lF bo)))), (sa, .inl (cJ, 4, .inr (.inl (lF so))))] := hD
  refine lv_aload_n hx hb d_Ta_start_10 rfl (lv_at hl 0 rfl) ?_
  refine lv_iconst (v := 0) hx hb d_Ta_start_11 (by decide) ?_
  refine va_put (D := (dC, dI)) (ci := 4) (v := .int 0) (ty := .int) (C := "BallotBoard$Tally") (T := F_Ta) (N := 14) hx hb hts (fun w9 h9 => List.mem_cons_of_mem _ (i_Ta w9 h9)) t_Ta t_Ta_ok n_Ta hown hK hP hD hS 0 rfl rfl 6 (by decide) (hts _ (List.mem_cons_of_mem _ gk_98)) (fun _ h9 => h9) rfl (by decide +kernel) rfl rfl (Nat.le_of_ble_eq_true rfl) d_Ta_start_12 (fun H locs hP hD hS => ?_)
  have hP : va_P (dC, dI) classes [(t0, .inr (4, [.ref ka, .ref aa, .ref ba, .ref sa, .ref g0, .int (nI N1), .int 0, .int (nI bc), .int (nI shc), .long (lN kp), .long (lN shp), .long (lN pa), .long (lN pb), .int sht])), (ka, .inl (cJ, 4, .inr (.inl (lF ko)))), (aa, .inl (cJ, 64, .inr (.inl (lF ao)))), (ba, .inl (cJ, 64, .inr (.inl (lF bo)))), (sa, .inl (cJ, 4, .inr (.inl (lF so))))] H := hP
  have hD : va_D A [(t0, .inr (4, [.ref ka, .ref aa, .ref ba, .ref sa, .ref g0, .int (nI N1), .int 0, .int (nI bc), .int (nI shc), .long (lN kp), .long (lN shp), .long (lN pa), .long (lN pb), .int sht])), (ka, .inl (cJ, 4, .inr (.inl (lF ko)))), (aa, .inl (cJ, 64, .inr (.inl (lF ao)))), (ba, .inl (cJ, 64, .inr (.inl (lF bo)))), (sa, .inl (cJ, 4, .inr (.inl (lF so))))] := hD
  refine lv_aload_n hx hb d_Ta_start_15 rfl (lv_at hl 0 rfl) ?_
  refine lv_iconst (v := 0) hx hb d_Ta_start_16 (by decide) ?_
  refine va_put (D := (dC, dI)) (ci := 4) (v := .int 0) (ty := .int) (C := "BallotBoard$Tally") (T := F_Ta) (N := 14) hx hb hts (fun w9 h9 => List.mem_cons_of_mem _ (i_Ta w9 h9)) t_Ta t_Ta_ok n_Ta hown hK hP hD hS 0 rfl rfl 7 (by decide) (hts _ (List.mem_cons_of_mem _ gk_99)) (fun _ h9 => h9) rfl (by decide +kernel) rfl rfl (Nat.le_of_ble_eq_true rfl) d_Ta_start_17 (fun H locs hP hD hS => ?_)
  have hP : va_P (dC, dI) classes [(t0, .inr (4, [.ref ka, .ref aa, .ref ba, .ref sa, .ref g0, .int (nI N1), .int 0, .int 0, .int (nI shc), .long (lN kp), .long (lN shp), .long (lN pa), .long (lN pb), .int sht])), (ka, .inl (cJ, 4, .inr (.inl (lF ko)))), (aa, .inl (cJ, 64, .inr (.inl (lF ao)))), (ba, .inl (cJ, 64, .inr (.inl (lF bo)))), (sa, .inl (cJ, 4, .inr (.inl (lF so))))] H := hP
  have hD : va_D A [(t0, .inr (4, [.ref ka, .ref aa, .ref ba, .ref sa, .ref g0, .int (nI N1), .int 0, .int 0, .int (nI shc), .long (lN kp), .long (lN shp), .long (lN pa), .long (lN pb), .int sht])), (ka, .inl (cJ, 4, .inr (.inl (lF ko)))), (aa, .inl (cJ, 64, .inr (.inl (lF ao)))), (ba, .inl (cJ, 64, .inr (.inl (lF bo)))), (sa, .inl (cJ, 4, .inr (.inl (lF so))))] := hD
  refine lv_aload_n hx hb d_Ta_start_20 rfl (lv_at hl 0 rfl) ?_
  refine lv_iconst (v := 0) hx hb d_Ta_start_21 (by decide) ?_
  refine va_put (D := (dC, dI)) (ci := 4) (v := .int 0) (ty := .int) (C := "BallotBoard$Tally") (T := F_Ta) (N := 14) hx hb hts (fun w9 h9 => List.mem_cons_of_mem _ (i_Ta w9 h9)) t_Ta t_Ta_ok n_Ta hown hK hP hD hS 0 rfl rfl 8 (by decide) (hts _ (List.mem_cons_of_mem _ gk_100)) (fun _ h9 => h9) rfl (by decide +kernel) rfl rfl (Nat.le_of_ble_eq_true rfl) d_Ta_start_22 (fun H locs hP hD hS => ?_)
  have hP : va_P (dC, dI) classes [(t0, .inr (4, [.ref ka, .ref aa, .ref ba, .ref sa, .ref g0, .int (nI N1), .int 0, .int 0, .int 0, .long (lN kp), .long (lN shp), .long (lN pa), .long (lN pb), .int sht])), (ka, .inl (cJ, 4, .inr (.inl (lF ko)))), (aa, .inl (cJ, 64, .inr (.inl (lF ao)))), (ba, .inl (cJ, 64, .inr (.inl (lF bo)))), (sa, .inl (cJ, 4, .inr (.inl (lF so))))] H := hP
  have hD : va_D A [(t0, .inr (4, [.ref ka, .ref aa, .ref ba, .ref sa, .ref g0, .int (nI N1), .int 0, .int 0, .int 0, .long (lN kp), .long (lN shp), .long (lN pa), .long (lN pb), .int sht])), (ka, .inl (cJ, 4, .inr (.inl (lF ko)))), (aa, .inl (cJ, 64, .inr (.inl (lF ao)))), (ba, .inl (cJ, 64, .inr (.inl (lF bo)))), (sa, .inl (cJ, 4, .inr (.inl (lF so))))] := hD
  refine lv_aload_n hx hb d_Ta_start_25 rfl (lv_at hl 0 rfl) ?_
  refine lv_lconst (v := 1) hx hb d_Ta_start_26 (by decide) ?_
  refine va_put (D := (dC, dI)) (ci := 4) (v := .long 1) (ty := .long) (C := "BallotBoard$Tally") (T := F_Ta) (N := 14) hx hb hts (fun w9 h9 => List.mem_cons_of_mem _ (i_Ta w9 h9)) t_Ta t_Ta_ok n_Ta hown hK hP hD hS 0 rfl rfl 9 (by decide) (hts _ (List.mem_cons_of_mem _ gk_101)) (fun _ h9 => h9) rfl (by decide +kernel) rfl rfl (Nat.le_of_ble_eq_true rfl) d_Ta_start_27 (fun H locs hP hD hS => ?_)
  have hP : va_P (dC, dI) classes [(t0, .inr (4, [.ref ka, .ref aa, .ref ba, .ref sa, .ref g0, .int (nI N1), .int 0, .int 0, .int 0, .long 1, .long (lN shp), .long (lN pa), .long (lN pb), .int sht])), (ka, .inl (cJ, 4, .inr (.inl (lF ko)))), (aa, .inl (cJ, 64, .inr (.inl (lF ao)))), (ba, .inl (cJ, 64, .inr (.inl (lF bo)))), (sa, .inl (cJ, 4, .inr (.inl (lF so))))] H := hP
  have hD : va_D A [(t0, .inr (4, [.ref ka, .ref aa, .ref ba, .ref sa, .ref g0, .int (nI N1), .int 0, .int 0, .int 0, .long 1, .long (lN shp), .long (lN pa), .long (lN pb), .int sht])), (ka, .inl (cJ, 4, .inr (.inl (lF ko)))), (aa, .inl (cJ, 64, .inr (.inl (lF ao)))), (ba, .inl (cJ, 64, .inr (.inl (lF bo)))), (sa, .inl (cJ, 4, .inr (.inl (lF so))))] := hD
  refine lv_aload_n hx hb d_Ta_start_30 rfl (lv_at hl 0 rfl) ?_
  refine lv_lconst (v := 1) hx hb d_Ta_start_31 (by decide) ?_
  refine va_put (D := (dC, dI)) (ci := 4) (v := .long 1) (ty := .long) (C := "BallotBoard$Tally") (T := F_Ta) (N := 14) hx hb hts (fun w9 h9 => List.mem_cons_of_mem _ (i_Ta w9 h9)) t_Ta t_Ta_ok n_Ta hown hK hP hD hS 0 rfl rfl 10 (by decide) (hts _ (List.mem_cons_of_mem _ gk_102)) (fun _ h9 => h9) rfl (by decide +kernel) rfl rfl (Nat.le_of_ble_eq_true rfl) d_Ta_start_32 (fun H locs hP hD hS => ?_)
  have hP : va_P (dC, dI) classes [(t0, .inr (4, [.ref ka, .ref aa, .ref ba, .ref sa, .ref g0, .int (nI N1), .int 0, .int 0, .int 0, .long 1, .long 1, .long (lN pa), .long (lN pb), .int sht])), (ka, .inl (cJ, 4, .inr (.inl (lF ko)))), (aa, .inl (cJ, 64, .inr (.inl (lF ao)))), (ba, .inl (cJ, 64, .inr (.inl (lF bo)))), (sa, .inl (cJ, 4, .inr (.inl (lF so))))] H := hP
  have hD : va_D A [(t0, .inr (4, [.ref ka, .ref aa, .ref ba, .ref sa, .ref g0, .int (nI N1), .int 0, .int 0, .int 0, .long 1, .long 1, .long (lN pa), .long (lN pb), .int sht])), (ka, .inl (cJ, 4, .inr (.inl (lF ko)))), (aa, .inl (cJ, 64, .inr (.inl (lF ao)))), (ba, .inl (cJ, 64, .inr (.inl (lF bo)))), (sa, .inl (cJ, 4, .inr (.inl (lF so))))] := hD
  refine lv_aload_n hx hb d_Ta_start_35 rfl (lv_at hl 0 rfl) ?_
  refine lv_lconst (v := 0) hx hb d_Ta_start_36 (by decide) ?_
  refine va_put (D := (dC, dI)) (ci := 4) (v := .long 0) (ty := .long) (C := "BallotBoard$Tally") (T := F_Ta) (N := 14) hx hb hts (fun w9 h9 => List.mem_cons_of_mem _ (i_Ta w9 h9)) t_Ta t_Ta_ok n_Ta hown hK hP hD hS 0 rfl rfl 11 (by decide) (hts _ (List.mem_cons_of_mem _ gk_103)) (fun _ h9 => h9) rfl (by decide +kernel) rfl rfl (Nat.le_of_ble_eq_true rfl) d_Ta_start_37 (fun H locs hP hD hS => ?_)
  have hP : va_P (dC, dI) classes [(t0, .inr (4, [.ref ka, .ref aa, .ref ba, .ref sa, .ref g0, .int (nI N1), .int 0, .int 0, .int 0, .long 1, .long 1, .long 0, .long (lN pb), .int sht])), (ka, .inl (cJ, 4, .inr (.inl (lF ko)))), (aa, .inl (cJ, 64, .inr (.inl (lF ao)))), (ba, .inl (cJ, 64, .inr (.inl (lF bo)))), (sa, .inl (cJ, 4, .inr (.inl (lF so))))] H := hP
  have hD : va_D A [(t0, .inr (4, [.ref ka, .ref aa, .ref ba, .ref sa, .ref g0, .int (nI N1), .int 0, .int 0, .int 0, .long 1, .long 1, .long 0, .long (lN pb), .int sht])), (ka, .inl (cJ, 4, .inr (.inl (lF ko)))), (aa, .inl (cJ, 64, .inr (.inl (lF ao)))), (ba, .inl (cJ, 64, .inr (.inl (lF bo)))), (sa, .inl (cJ, 4, .inr (.inl (lF so))))] := hD
  refine lv_aload_n hx hb d_Ta_start_40 rfl (lv_at hl 0 rfl) ?_
  refine lv_lconst (v := 0) hx hb d_Ta_start_41 (by decide) ?_
  refine va_put (D := (dC, dI)) (ci := 4) (v := .long 0) (ty := .long) (C := "BallotBoard$Tally") (T := F_Ta) (N := 14) hx hb hts (fun w9 h9 => List.mem_cons_of_mem _ (i_Ta w9 h9)) t_Ta t_Ta_ok n_Ta hown hK hP hD hS 0 rfl rfl 12 (by decide) (hts _ (List.mem_cons_of_mem _ gk_104)) (fun _ h9 => h9) rfl (by decide +kernel) rfl rfl (Nat.le_of_ble_eq_true rfl) d_Ta_start_42 (fun H locs hP hD hS => ?_)
  have hP : va_P (dC, dI) classes [(t0, .inr (4, [.ref ka, .ref aa, .ref ba, .ref sa, .ref g0, .int (nI N1), .int 0, .int 0, .int 0, .long 1, .long 1, .long 0, .long 0, .int sht])), (ka, .inl (cJ, 4, .inr (.inl (lF ko)))), (aa, .inl (cJ, 64, .inr (.inl (lF ao)))), (ba, .inl (cJ, 64, .inr (.inl (lF bo)))), (sa, .inl (cJ, 4, .inr (.inl (lF so))))] H := hP
  have hD : va_D A [(t0, .inr (4, [.ref ka, .ref aa, .ref ba, .ref sa, .ref g0, .int (nI N1), .int 0, .int 0, .int 0, .long 1, .long 1, .long 0, .long 0, .int sht])), (ka, .inl (cJ, 4, .inr (.inl (lF ko)))), (aa, .inl (cJ, 64, .inr (.inl (lF ao)))), (ba, .inl (cJ, 64, .inr (.inl (lF bo)))), (sa, .inl (cJ, 4, .inr (.inl (lF so))))] := hD
  refine lv_aload_n hx hb d_Ta_start_45 rfl (lv_at hl 0 rfl) ?_
  refine lv_iconst (v := 0) hx hb d_Ta_start_46 (by decide) ?_
  refine va_put (D := (dC, dI)) (ci := 4) (v := .int 0) (ty := .boolean) (C := "BallotBoard$Tally") (T := F_Ta) (N := 14) hx hb hts (fun w9 h9 => List.mem_cons_of_mem _ (i_Ta w9 h9)) t_Ta t_Ta_ok n_Ta hown hK hP hD hS 0 rfl rfl 13 (by decide) (hts _ (List.mem_cons_of_mem _ gk_105)) (fun _ h9 => h9) rfl (by decide +kernel) rfl rfl (Nat.le_of_ble_eq_true rfl) d_Ta_start_47 (fun H locs hP hD hS => ?_)
  have hP : va_P (dC, dI) classes [(t0, .inr (4, [.ref ka, .ref aa, .ref ba, .ref sa, .ref g0, .int (nI N1), .int 0, .int 0, .int 0, .long 1, .long 1, .long 0, .long 0, .int 0])), (ka, .inl (cJ, 4, .inr (.inl (lF ko)))), (aa, .inl (cJ, 64, .inr (.inl (lF ao)))), (ba, .inl (cJ, 64, .inr (.inl (lF bo)))), (sa, .inl (cJ, 4, .inr (.inl (lF so))))] H := hP
  have hD : va_D A [(t0, .inr (4, [.ref ka, .ref aa, .ref ba, .ref sa, .ref g0, .int (nI N1), .int 0, .int 0, .int 0, .long 1, .long 1, .long 0, .long 0, .int 0])), (ka, .inl (cJ, 4, .inr (.inl (lF ko)))), (aa, .inl (cJ, 64, .inr (.inl (lF ao)))), (ba, .inl (cJ, 64, .inr (.inl (lF bo)))), (sa, .inl (cJ, 4, .inr (.inl (lF so))))] := hD
  refine lv_iconst (v := 0) hx hb d_Ta_start_50 (by decide) ?_
  refine lv_istore_n (lv' := [(3, .int 0), (0, .ref t0), (1, .ref g0), (2, .int (nI N1))]) hx hb d_Ta_start_51 rfl hl (by decide) rfl (fun ls hl => ?_)
  have hP : va_P (dC, dI) classes (tl_ws t0 ka aa ba sa (.ref g0) cJ (zf ko 0) ao bo (zf so 0) N1 0 0 0 1 1 0 0 0) H := by rw [zf_0 ko, zf_0 so]; exact hP
  have hD : va_D A (tl_ws t0 ka aa ba sa (.ref g0) cJ (zf ko 0) ao bo (zf so 0) N1 0 0 0 1 1 0 0 0) := by rw [zf_0 ko, zf_0 so]; exact hD
  exact loop1 4 0 (by omega) H locs hS hP hD ls (lv_sub hl [1, 2, 3, 0] rfl)
abbrev b_Ta_takeKey : ByteArray := prog_8_method_21_code
abbrev y_Ta_takeKey : MethodName := ⟨"BallotBoard$Tally", "takeKey", "(IJ)V"⟩
abbrev w_Ta_takeKey : List Cond := .code y_Ta_takeKey b_Ta_takeKey 4 none :: gw
theorem d_Ta_takeKey_0 : decode b_Ta_takeKey 0 = .ok (.aload_n 0, 1) := by decide +kernel
theorem d_Ta_takeKey_1 : decode b_Ta_takeKey 1 = .ok (.iload_n 1, 1) := by decide +kernel
theorem d_Ta_takeKey_2 : decode b_Ta_takeKey 2 = .ok (.invokevirtual 58, 3) := by decide +kernel
theorem d_Ta_takeKey_5 : decode b_Ta_takeKey 5 = .ok (.ifCond .eq 36, 3) := by decide +kernel
theorem d_Ta_takeKey_8 : decode b_Ta_takeKey 8 = .ok (.aload_n 0, 1) := by decide +kernel
theorem d_Ta_takeKey_9 : decode b_Ta_takeKey 9 = .ok (.getfield 9, 3) := by decide +kernel
theorem d_Ta_takeKey_12 : decode b_Ta_takeKey 12 = .ok (.iload_n 1, 1) := by decide +kernel
theorem d_Ta_takeKey_13 : decode b_Ta_takeKey 13 = .ok (.lload_n 2, 1) := by decide +kernel
theorem d_Ta_takeKey_14 : decode b_Ta_takeKey 14 = .ok (.lastore, 1) := by decide +kernel
theorem d_Ta_takeKey_15 : decode b_Ta_takeKey 15 = .ok (.aload_n 0, 1) := by decide +kernel
theorem d_Ta_takeKey_16 : decode b_Ta_takeKey 16 = .ok (.aload_n 0, 1) := by decide +kernel
theorem d_Ta_takeKey_17 : decode b_Ta_takeKey 17 = .ok (.getfield 24, 3) := by decide +kernel
theorem d_Ta_takeKey_20 : decode b_Ta_takeKey 20 = .ok (.aload_n 0, 1) := by decide +kernel
theorem d_Ta_takeKey_21 : decode b_Ta_takeKey 21 = .ok (.getfield 41, 3) := by decide +kernel
theorem d_Ta_takeKey_24 : decode b_Ta_takeKey 24 = .ok (.lload_n 2, 1) := by decide +kernel
theorem d_Ta_takeKey_25 : decode b_Ta_takeKey 25 = .ok (.invokevirtual 79, 3) := by decide +kernel
theorem d_Ta_takeKey_28 : decode b_Ta_takeKey 28 = .ok (.putfield 41, 3) := by decide +kernel
theorem d_Ta_takeKey_31 : decode b_Ta_takeKey 31 = .ok (.aload_n 0, 1) := by decide +kernel
theorem d_Ta_takeKey_32 : decode b_Ta_takeKey 32 = .ok (.dup, 1) := by decide +kernel
theorem d_Ta_takeKey_33 : decode b_Ta_takeKey 33 = .ok (.getfield 32, 3) := by decide +kernel
theorem d_Ta_takeKey_36 : decode b_Ta_takeKey 36 = .ok (.iconst 1, 1) := by decide +kernel
theorem d_Ta_takeKey_37 : decode b_Ta_takeKey 37 = .ok (.iadd, 1) := by decide +kernel
theorem d_Ta_takeKey_38 : decode b_Ta_takeKey 38 = .ok (.putfield 32, 3) := by decide +kernel
theorem d_Ta_takeKey_41 : decode b_Ta_takeKey 41 = .ok (.return_, 1) := by decide +kernel
set_option maxHeartbeats 8000000 in
set_option maxRecDepth 100000 in
theorem c_Ta_takeKey (l : Launch) (dC : Nat → ClassId) (dI : Nat → Nat → Nat) (cJ cI : ClassId) (sz : Nat) (t0 ka aa ba sa : Nat) (ko ao bo so : Nat → Nat) (tn kc bc shc kp shp pa pb : Nat) (sht : Int32) (g0 mF mE P f1 k1 Q f2 k2 G : Nat) (I Y : Nat) (hok : gp_ok P f1 k1 Q f2 k2 G) (htn : tn ≤ 4) (hI : I < tn) (hY : Y < P) (hp9 : kp < P) : Met l y_Ta_takeKey w_Ta_takeKey ({ frames := 3, cells := 0, slots := 0, locals := 84 }) (va_Pc [.ref t0, .int (nI I), .long (lN Y)] (fun U => U.heap.size = sz ∧ va_P (dC, dI) classes (tl_ws t0 ka aa ba sa (.ref g0) cJ ko ao bo so tn kc bc shc kp shp pa pb sht ++ gp_ws g0 mF mE P f1 k1 Q f2 k2 G) U.heap ∧ va_K (dC, dI) classes [(cJ, .long), (cI, .int)] U ∧ va_D (fun _ => True) (tl_ws t0 ka aa ba sa (.ref g0) cJ ko ao bo so tn kc bc shc kp shp pa pb sht ++ gp_ws g0 mF mE P f1 k1 Q f2 k2 G))) (va_Qv (fun _ : Unit => True) (fun _ t => va_P (dC, dI) classes (tl_ws t0 ka aa ba sa (.ref g0) cJ (updN ko I Y) ao bo so tn (kc + 1) bc shc (kp * Y % P) shp pa pb sht ++ gp_ws g0 mF mE P f1 k1 Q f2 k2 G) t.heap ∧ va_K (dC, dI) classes [(cJ, .long), (cI, .int)] t ∧ va_D (va_A (tl_ws t0 ka aa ba sa (.ref g0) cJ ko ao bo so tn kc bc shc kp shp pa pb sht ++ gp_ws g0 mF mE P f1 k1 Q f2 k2 G) sz) (tl_ws t0 ka aa ba sa (.ref g0) cJ (updN ko I Y) ao bo so tn (kc + 1) bc shc (kp * Y % P) shp pa pb sht ++ gp_ws g0 mF mE P f1 k1 Q f2 k2 G)) (va_A (tl_ws t0 ka aa ba sa (.ref g0) cJ ko ao bo so tn kc bc shc kp shp pa pb sht ++ gp_ws g0 mF mE P f1 k1 Q f2 k2 G) sz)) 0 0 (va_A (tl_ws t0 ka aa ba sa (.ref g0) cJ ko ao bo so tn kc bc shc kp shp pa pb sht ++ gp_ws g0 mF mE P f1 k1 Q f2 k2 G) sz) := by
  refine Met.ofW (cc := b_Ta_takeKey) (maxL := 4) (ret := none) (by decide) rfl ?_
  intro p e s m args below meth c s₁ Bd hml hv
  obtain ⟨rfl, hsz, hP, hK, hD0⟩ := hv
  have hx := Bd.exec
  have hb := Bd.bytes
  have hr := Bd.returns
  have hts := atoms_spec (ws := w_Ta_takeKey) Bd.pre
  have hown : s.vm.findClass "BallotBoard$Tally" = some m.cls := findClass_of_methodNamed Bd.named
  have hlocks := Bd.notSynchronized
  subst hsz
  have hD := hD0.self (sz := s.heap.size)
  generalize hAe : va_A (tl_ws t0 ka aa ba sa (.ref g0) cJ ko ao bo so tn kc bc shc kp shp pa pb sht ++ gp_ws g0 mF mE P f1 k1 Q f2 k2 G) s.heap.size = A at hD ⊢
  have hA : ∀ q : Nat, s.heap.size ≤ q → A q := fun q h => by rw [← hAe]; exact Or.inr h
  have hS : va_S A s.heap s.heap [] := va_S.rf
  have hl := lv_entry ([.ref t0, .int (nI I), .long (lN Y)]) (n := 4) (Nat.le_of_ble_eq_true rfl)
  rw [lg_entry_eq]
  generalize (lg_sl ([.ref t0, .int (nI I), .long (lN Y)]) ++ List.replicate (4 - (lg_sl ([.ref t0, .int (nI I), .long (lN Y)])).length) Slot.unset).toArray = ls at hl ⊢
  have hl : lv_has ls 4 [(0, .ref t0), (1, .int (nI I)), (2, .long (lN Y))] := hl
  obtain ⟨hokF, hokE, hPQ, hG2, hGP, hGQ⟩ := id hok
  obtain ⟨hoF, h3F, h61F, _, _, hk61F, hNkF⟩ := id hokF
  obtain ⟨hoE, h3E, h61E, _, _, hk61E, hNkE⟩ := id hokE
  refine lv_aload_n hx hb d_Ta_takeKey_0 rfl (lv_at hl 0 rfl) ?_
  refine lv_iload_n hx hb d_Ta_takeKey_1 rfl (lv_at hl 1 rfl) ?_
  have hPc := hP.sub (ws' := (tl_ws t0 ka aa ba sa (.ref g0) cJ ko ao bo so tn kc bc shc kp shp pa pb sht)) [0, 1, 2, 3, 4] rfl
  have hKc := hK.sub (tys' := [(cJ, .long), (cI, .int)]) [0, 1] rfl
  refine va_calli (va_runV (As := [.int (nI I)]) (rest := []) ⟨hx, hb, hml, hown, hts⟩ (c_Ta_hasTrustee l s.heap dC dI cJ cI t0 ka aa ba sa (.ref g0) ko ao bo so tn kc bc shc kp shp pa pb sht (nI I) hPc (by omega)) (cwV 1 hts (gw_V gk_412 gk_413 gk_414 gk_5 gk_415) rfl rfl rfl (by decide +kernel) ⟨Nat.le_of_ble_eq_true rfl, Nat.le_of_ble_eq_true rfl⟩) ⟨fun a U g mk q => ⟨q.1, q.2.1, va_K.moved (u := U) (U := U.calling g mk a) (Vm.Alike.refl U.vm) q.2.2⟩, va_recv hK hP (ci := 4) (q0 := 0) rfl rfl, fun U hU hW => ⟨rfl, hU, va_K.moved hW.alike hKc⟩⟩ rfl rfl hl.1 rfl (lv_room (Nat.le_of_ble_eq_true rfl)) d_Ta_takeKey_2 ⟨Nat.le_of_ble_eq_true rfl, Nat.le_of_ble_eq_true rfl⟩) hS (fun q _ h => h.elim) (fun q h => h.elim) (fun r2 u9 t9 H1 locs ht hvm hw hB hz1 hk1 hS => ?_)
  obtain rfl : s.heap = H1 := hB.symm.trans ht
  have h2 := hw
  refine lv_if_eq (tgt := 41) hx hb d_Ta_takeKey_5 (by decide) (fun c_1 => ?_) (fun c_1 => ?_)
  · -- taken
    exact absurd ⟨I, rfl, hI⟩ (bz_f h2 c_1)
  · -- not taken
    have b2 := bz_t h2 c_1
    refine lv_aload_n hx hb d_Ta_takeKey_8 rfl (lv_at hl 0 rfl) ?_
    refine va_get (D := (dC, dI)) (ci := 4) (v := .ref ka) (C := "BallotBoard$Tally") (T := F_Ta) (N := 14) hx hb hts (fun w9 h9 => List.mem_cons_of_mem _ (i_Ta w9 h9)) hown hK hP 0 rfl rfl 0 (by decide) (hts _ (List.mem_cons_of_mem _ gk_92)) (fun _ h9 => h9) rfl d_Ta_takeKey_9 ?_
    refine lv_iload_n hx hb d_Ta_takeKey_12 rfl (lv_at hl 1 rfl) ?_
    refine lv_lload_n hx hb d_Ta_takeKey_13 rfl (lv_at hl 2 rfl) ?_
    refine va_last hx hb hK hP hD hS 1 0 rfl rfl (vp_in_nI (by omega) (by omega)) d_Ta_takeKey_14 (fun H locs hP hD hS => ?_)
    have hfe : vp_updL (lF ko) (nI I : Int32).toNatClampNeg (lN Y) = lF (updN ko I Y) := by rw [nI_clamp (by omega)]; exact lF_upd _ _ _
    have hP : va_P (dC, dI) classes [(t0, .inr (4, [.ref ka, .ref aa, .ref ba, .ref sa, .ref g0, .int (nI tn), .int (nI kc), .int (nI bc), .int (nI shc), .long (lN kp), .long (lN shp), .long (lN pa), .long (lN pb), .int sht])), (ka, .inl (cJ, 4, .inr (.inl (vp_updL (lF ko) (nI I : Int32).toNatClampNeg (lN Y))))), (aa, .inl (cJ, 64, .inr (.inl (lF ao)))), (ba, .inl (cJ, 64, .inr (.inl (lF bo)))), (sa, .inl (cJ, 4, .inr (.inl (lF so)))), (g0, .inr (1, [.ref mF, .ref mE, .long (lN G), .long (lN (G ^ (Q - 1) % P))])), (mF, .inr (0, [.long (lN P), .long (lN (P % 2 ^ 31)), .long (lN (P / 2 ^ 31)), .long (lN f1), .long (lN (2 ^ 62 % P)), .long (lN (2 ^ 124 % P)), .int (nI k1)])), (mE, .inr (0, [.long (lN Q), .long (lN (Q % 2 ^ 31)), .long (lN (Q / 2 ^ 31)), .long (lN f2), .long (lN (2 ^ 62 % Q)), .long (lN (2 ^ 124 % Q)), .int (nI k2)]))] H := hP
    have hD : va_D A [(t0, .inr (4, [.ref ka, .ref aa, .ref ba, .ref sa, .ref g0, .int (nI tn), .int (nI kc), .int (nI bc), .int (nI shc), .long (lN kp), .long (lN shp), .long (lN pa), .long (lN pb), .int sht])), (ka, .inl (cJ, 4, .inr (.inl (vp_updL (lF ko) (nI I : Int32).toNatClampNeg (lN Y))))), (aa, .inl (cJ, 64, .inr (.inl (lF ao)))), (ba, .inl (cJ, 64, .inr (.inl (lF bo)))), (sa, .inl (cJ, 4, .inr (.inl (lF so)))), (g0, .inr (1, [.ref mF, .ref mE, .long (lN G), .long (lN (G ^ (Q - 1) % P))])), (mF, .inr (0, [.long (lN P), .long (lN (P % 2 ^ 31)), .long (lN (P / 2 ^ 31)), .long (lN f1), .long (lN (2 ^ 62 % P)), .long (lN (2 ^ 124 % P)), .int (nI k1)])), (mE, .inr (0, [.long (lN Q), .long (lN (Q % 2 ^ 31)), .long (lN (Q / 2 ^ 31)), .long (lN f2), .long (lN (2 ^ 62 % Q)), .long (lN (2 ^ 124 % Q)), .int (nI k2)]))] := hD
    rw [hfe] at hP hD
    refine lv_aload_n hx hb d_Ta_takeKey_15 rfl (lv_at hl 0 rfl) ?_
    refine lv_aload_n hx hb d_Ta_takeKey_16 rfl (lv_at hl 0 rfl) ?_
    refine va_get (D := (dC, dI)) (ci := 4) (v := .ref g0) (C := "BallotBoard$Tally") (T := F_Ta) (N := 14) hx hb hts (fun w9 h9 => List.mem_cons_of_mem _ (i_Ta w9 h9)) hown hK hP 0 rfl rfl 4 (by decide) (hts _ (List.mem_cons_of_mem _ gk_96)) (fun _ h9 => h9) rfl d_Ta_takeKey_17 ?_
    refine lv_aload_n hx hb d_Ta_takeKey_20 rfl (lv_at hl 0 rfl) ?_
    refine va_get (D := (dC, dI)) (ci := 4) (v := .long (lN kp)) (C := "BallotBoard$Tally") (T := F_Ta) (N := 14) hx hb hts (fun w9 h9 => List.mem_cons_of_mem _ (i_Ta w9 h9)) hown hK hP 0 rfl rfl 9 (by decide) (hts _ (List.mem_cons_of_mem _ gk_101)) (fun _ h9 => h9) rfl d_Ta_takeKey_21 ?_
    refine lv_lload_n hx hb d_Ta_takeKey_24 rfl (lv_at hl 2 rfl) ?_
    have hPc := hP.sub (ws' := (gp_ws g0 mF mE P f1 k1 Q f2 k2 G)) [5, 6, 7] rfl
    have hKc := hK.sub (tys' := []) [] rfl
    refine va_calll (va_runV (As := [.long (lN kp), .long (lN Y)]) (rest := [.ref t0]) ⟨hx, hb, hml, hown, hts⟩ (c_Gr_product l H dC dI g0 mF mE P f1 k1 Q f2 k2 G kp Y hPc hok hp9 hY) (cwV 2 hts (gw_V gk_574 gk_575 gk_576 gk_8 gk_577) rfl rfl rfl (by decide +kernel) ⟨Nat.le_of_ble_eq_true rfl, Nat.le_of_ble_eq_true rfl⟩) ⟨fun a U g mk q => ⟨q.1, q.2.1, va_K.moved (u := U) (U := U.calling g mk a) (Vm.Alike.refl U.vm) q.2.2⟩, va_recv hK hP (ci := 1) (q0 := 5) rfl rfl, fun U hU hW => ⟨rfl, hU, va_K.moved hW.alike hKc⟩⟩ rfl rfl hl.1 rfl (lv_room (Nat.le_of_ble_eq_true rfl)) d_Ta_takeKey_25 ⟨Nat.le_of_ble_eq_true rfl, Nat.le_of_ble_eq_true rfl⟩) hS (fun q _ h => h.elim) (fun q h => h.elim) (fun r25 u9 t9 H1 locs ht hvm hw hB hz1 hk1 hS => ?_)
    obtain rfl : H = H1 := hB.symm.trans ht
    have hw : r25 = lN (kp * Y % P) := hw
    subst hw
    refine va_put (D := (dC, dI)) (ci := 4) (v := .long (lN (kp * Y % P))) (ty := .long) (C := "BallotBoard$Tally") (T := F_Ta) (N := 14) hx hb hts (fun w9 h9 => List.mem_cons_of_mem _ (i_Ta w9 h9)) t_Ta t_Ta_ok n_Ta hown hK hP hD hS 0 rfl rfl 9 (by decide) (hts _ (List.mem_cons_of_mem _ gk_101)) (fun _ h9 => h9) rfl (by decide +kernel) rfl rfl (Nat.le_of_ble_eq_true rfl) d_Ta_takeKey_28 (fun H locs hP hD hS => ?_)
    have hP : va_P (dC, dI) classes [(t0, .inr (4, [.ref ka, .ref aa, .ref ba, .ref sa, .ref g0, .int (nI tn), .int (nI kc), .int (nI bc), .int (nI shc), .long (lN (kp * Y % P)), .long (lN shp), .long (lN pa), .long (lN pb), .int sht])), (ka, .inl (cJ, 4, .inr (.inl (lF (updN ko I Y))))), (aa, .inl (cJ, 64, .inr (.inl (lF ao)))), (ba, .inl (cJ, 64, .inr (.inl (lF bo)))), (sa, .inl (cJ, 4, .inr (.inl (lF so)))), (g0, .inr (1, [.ref mF, .ref mE, .long (lN G), .long (lN (G ^ (Q - 1) % P))])), (mF, .inr (0, [.long (lN P), .long (lN (P % 2 ^ 31)), .long (lN (P / 2 ^ 31)), .long (lN f1), .long (lN (2 ^ 62 % P)), .long (lN (2 ^ 124 % P)), .int (nI k1)])), (mE, .inr (0, [.long (lN Q), .long (lN (Q % 2 ^ 31)), .long (lN (Q / 2 ^ 31)), .long (lN f2), .long (lN (2 ^ 62 % Q)), .long (lN (2 ^ 124 % Q)), .int (nI k2)]))] H := hP
    have hD : va_D A [(t0, .inr (4, [.ref ka, .ref aa, .ref ba, .ref sa, .ref g0, .int (nI tn), .int (nI kc), .int (nI bc), .int (nI shc), .long (lN (kp * Y % P)), .long (lN shp), .long (lN pa), .long (lN pb), .int sht])), (ka, .inl (cJ, 4, .inr (.inl (lF (updN ko I Y))))), (aa, .inl (cJ, 64, .inr (.inl (lF ao)))), (ba, .inl (cJ, 64, .inr (.inl (lF bo)))), (sa, .inl (cJ, 4, .inr (.inl (lF so)))), (g0, .inr (1, [.ref mF, .ref mE, .long (lN G), .long (lN (G ^ (Q - 1) % P))])), (mF, .inr (0, [.long (lN P), .long (lN (P % 2 ^ 31)), .long (lN (P / 2 ^ 31)), .long (lN f1), .long (lN (2 ^ 62 % P)), .long (lN (2 ^ 124 % P)), .int (nI k1)])), (mE, .inr (0, [.long (lN Q), .long (lN (Q % 2 ^ 31)), .long (lN (Q / 2 ^ 31)), .long (lN f2), .long (lN (2 ^ 62 % Q)), .long (lN (2 ^ 124 % Q)), .int (nI k2)]))] := hD
    refine lv_aload_n hx hb d_Ta_takeKey_31 rfl (lv_at hl 0 rfl) ?_
    refine lv_dup hx hb d_Ta_takeKey_32 rfl ?_
    refine va_get (D := (dC, dI)) (ci := 4) (v := .int (nI kc)) (C := "BallotBoard$Tally") (T := F_Ta) (N := 14) hx hb hts (fun w9 h9 => List.mem_cons_of_mem _ (i_Ta w9 h9)) hown hK hP 0 rfl rfl 6 (by decide) (hts _ (List.mem_cons_of_mem _ gk_98)) (fun _ h9 => h9) rfl d_Ta_takeKey_33 ?_
    refine lv_iconst (v := 1) hx hb d_Ta_takeKey_36 (by decide) ?_
    refine lv_iadd hx hb d_Ta_takeKey_37 ?_
    rw [show ((nI kc) + 1 : Int32) = (nI (kc + 1)) from nI_1 kc]
    refine va_put (D := (dC, dI)) (ci := 4) (v := .int (nI (kc + 1))) (ty := .int) (C := "BallotBoard$Tally") (T := F_Ta) (N := 14) hx hb hts (fun w9 h9 => List.mem_cons_of_mem _ (i_Ta w9 h9)) t_Ta t_Ta_ok n_Ta hown hK hP hD hS 0 rfl rfl 6 (by decide) (hts _ (List.mem_cons_of_mem _ gk_98)) (fun _ h9 => h9) rfl (by decide +kernel) rfl rfl (Nat.le_of_ble_eq_true rfl) d_Ta_takeKey_38 (fun H locs hP hD hS => ?_)
    have hP : va_P (dC, dI) classes [(t0, .inr (4, [.ref ka, .ref aa, .ref ba, .ref sa, .ref g0, .int (nI tn), .int (nI (kc + 1)), .int (nI bc), .int (nI shc), .long (lN (kp * Y % P)), .long (lN shp), .long (lN pa), .long (lN pb), .int sht])), (ka, .inl (cJ, 4, .inr (.inl (lF (updN ko I Y))))), (aa, .inl (cJ, 64, .inr (.inl (lF ao)))), (ba, .inl (cJ, 64, .inr (.inl (lF bo)))), (sa, .inl (cJ, 4, .inr (.inl (lF so)))), (g0, .inr (1, [.ref mF, .ref mE, .long (lN G), .long (lN (G ^ (Q - 1) % P))])), (mF, .inr (0, [.long (lN P), .long (lN (P % 2 ^ 31)), .long (lN (P / 2 ^ 31)), .long (lN f1), .long (lN (2 ^ 62 % P)), .long (lN (2 ^ 124 % P)), .int (nI k1)])), (mE, .inr (0, [.long (lN Q), .long (lN (Q % 2 ^ 31)), .long (lN (Q / 2 ^ 31)), .long (lN f2), .long (lN (2 ^ 62 % Q)), .long (lN (2 ^ 124 % Q)), .int (nI k2)]))] H := hP
    have hD : va_D A [(t0, .inr (4, [.ref ka, .ref aa, .ref ba, .ref sa, .ref g0, .int (nI tn), .int (nI (kc + 1)), .int (nI bc), .int (nI shc), .long (lN (kp * Y % P)), .long (lN shp), .long (lN pa), .long (lN pb), .int sht])), (ka, .inl (cJ, 4, .inr (.inl (lF (updN ko I Y))))), (aa, .inl (cJ, 64, .inr (.inl (lF ao)))), (ba, .inl (cJ, 64, .inr (.inl (lF bo)))), (sa, .inl (cJ, 4, .inr (.inl (lF so)))), (g0, .inr (1, [.ref mF, .ref mE, .long (lN G), .long (lN (G ^ (Q - 1) % P))])), (mF, .inr (0, [.long (lN P), .long (lN (P % 2 ^ 31)), .long (lN (P / 2 ^ 31)), .long (lN f1), .long (lN (2 ^ 62 % P)), .long (lN (2 ^ 124 % P)), .int (nI k1)])), (mE, .inr (0, [.long (lN Q), .long (lN (Q % 2 ^ 31)), .long (lN (Q / 2 ^ 31)), .long (lN f2), .long (lN (2 ^ 62 % Q)), .long (lN (2 ^ 124 % Q)), .int (nI k2)]))] := hD
    exact W.vret hx hb hr (fun t ht9 hW => ⟨⟨(), rfl, trivial, by rw [ht9]; exact hP, va_K.moved hW.alike hK, hD⟩, hS.F ht9⟩) hS.2.2 d_Ta_takeKey_41
abbrev b_Ta_takeShare : ByteArray := prog_8_method_23_code
abbrev y_Ta_takeShare : MethodName := ⟨"BallotBoard$Tally", "takeShare", "(IJ)V"⟩
abbrev w_Ta_takeShare : List Cond := .code y_Ta_takeShare b_Ta_takeShare 4 none :: gw
theorem d_Ta_takeShare_0 : decode b_Ta_takeShare 0 = .ok (.aload_n 0, 1) := by decide +kernel
theorem d_Ta_takeShare_1 : decode b_Ta_takeShare 1 = .ok (.iload_n 1, 1) := by decide +kernel
theorem d_Ta_takeShare_2 : decode b_Ta_takeShare 2 = .ok (.invokevirtual 58, 3) := by decide +kernel
theorem d_Ta_takeShare_5 : decode b_Ta_takeShare 5 = .ok (.ifCond .eq 36, 3) := by decide +kernel
theorem d_Ta_takeShare_8 : decode b_Ta_takeShare 8 = .ok (.aload_n 0, 1) := by decide +kernel
theorem d_Ta_takeShare_9 : decode b_Ta_takeShare 9 = .ok (.getfield 15, 3) := by decide +kernel
theorem d_Ta_takeShare_12 : decode b_Ta_takeShare 12 = .ok (.iload_n 1, 1) := by decide +kernel
theorem d_Ta_takeShare_13 : decode b_Ta_takeShare 13 = .ok (.lload_n 2, 1) := by decide +kernel
theorem d_Ta_takeShare_14 : decode b_Ta_takeShare 14 = .ok (.lastore, 1) := by decide +kernel
theorem d_Ta_takeShare_15 : decode b_Ta_takeShare 15 = .ok (.aload_n 0, 1) := by decide +kernel
theorem d_Ta_takeShare_16 : decode b_Ta_takeShare 16 = .ok (.aload_n 0, 1) := by decide +kernel
theorem d_Ta_takeShare_17 : decode b_Ta_takeShare 17 = .ok (.getfield 24, 3) := by decide +kernel
theorem d_Ta_takeShare_20 : decode b_Ta_takeShare 20 = .ok (.aload_n 0, 1) := by decide +kernel
theorem d_Ta_takeShare_21 : decode b_Ta_takeShare 21 = .ok (.getfield 45, 3) := by decide +kernel
theorem d_Ta_takeShare_24 : decode b_Ta_takeShare 24 = .ok (.lload_n 2, 1) := by decide +kernel
theorem d_Ta_takeShare_25 : decode b_Ta_takeShare 25 = .ok (.invokevirtual 79, 3) := by decide +kernel
theorem d_Ta_takeShare_28 : decode b_Ta_takeShare 28 = .ok (.putfield 45, 3) := by decide +kernel
theorem d_Ta_takeShare_31 : decode b_Ta_takeShare 31 = .ok (.aload_n 0, 1) := by decide +kernel
theorem d_Ta_takeShare_32 : decode b_Ta_takeShare 32 = .ok (.dup, 1) := by decide +kernel
theorem d_Ta_takeShare_33 : decode b_Ta_takeShare 33 = .ok (.getfield 38, 3) := by decide +kernel
theorem d_Ta_takeShare_36 : decode b_Ta_takeShare 36 = .ok (.iconst 1, 1) := by decide +kernel
theorem d_Ta_takeShare_37 : decode b_Ta_takeShare 37 = .ok (.iadd, 1) := by decide +kernel
theorem d_Ta_takeShare_38 : decode b_Ta_takeShare 38 = .ok (.putfield 38, 3) := by decide +kernel
theorem d_Ta_takeShare_41 : decode b_Ta_takeShare 41 = .ok (.return_, 1) := by decide +kernel
set_option maxHeartbeats 8000000 in
set_option maxRecDepth 100000 in
theorem c_Ta_takeShare (l : Launch) (dC : Nat → ClassId) (dI : Nat → Nat → Nat) (cJ cI : ClassId) (sz : Nat) (t0 ka aa ba sa : Nat) (ko ao bo so : Nat → Nat) (tn kc bc shc kp shp pa pb : Nat) (sht : Int32) (g0 mF mE P f1 k1 Q f2 k2 G : Nat) (I Y : Nat) (hok : gp_ok P f1 k1 Q f2 k2 G) (htn : tn ≤ 4) (hI : I < tn) (hY : Y < P) (hp9 : shp < P) : Met l y_Ta_takeShare w_Ta_takeShare ({ frames := 3, cells := 0, slots := 0, locals := 84 }) (va_Pc [.ref t0, .int (nI I), .long (lN Y)] (fun U => U.heap.size = sz ∧ va_P (dC, dI) classes (tl_ws t0 ka aa ba sa (.ref g0) cJ ko ao bo so tn kc bc shc kp shp pa pb sht ++ gp_ws g0 mF mE P f1 k1 Q f2 k2 G) U.heap ∧ va_K (dC, dI) classes [(cJ, .long), (cI, .int)] U ∧ va_D (fun _ => True) (tl_ws t0 ka aa ba sa (.ref g0) cJ ko ao bo so tn kc bc shc kp shp pa pb sht ++ gp_ws g0 mF mE P f1 k1 Q f2 k2 G))) (va_Qv (fun _ : Unit => True) (fun _ t => va_P (dC, dI) classes (tl_ws t0 ka aa ba sa (.ref g0) cJ ko ao bo (updN so I Y) tn kc bc (shc + 1) kp (shp * Y % P) pa pb sht ++ gp_ws g0 mF mE P f1 k1 Q f2 k2 G) t.heap ∧ va_K (dC, dI) classes [(cJ, .long), (cI, .int)] t ∧ va_D (va_A (tl_ws t0 ka aa ba sa (.ref g0) cJ ko ao bo so tn kc bc shc kp shp pa pb sht ++ gp_ws g0 mF mE P f1 k1 Q f2 k2 G) sz) (tl_ws t0 ka aa ba sa (.ref g0) cJ ko ao bo (updN so I Y) tn kc bc (shc + 1) kp (shp * Y % P) pa pb sht ++ gp_ws g0 mF mE P f1 k1 Q f2 k2 G)) (va_A (tl_ws t0 ka aa ba sa (.ref g0) cJ ko ao bo so tn kc bc shc kp shp pa pb sht ++ gp_ws g0 mF mE P f1 k1 Q f2 k2 G) sz)) 0 0 (va_A (tl_ws t0 ka aa ba sa (.ref g0) cJ ko ao bo so tn kc bc shc kp shp pa pb sht ++ gp_ws g0 mF mE P f1 k1 Q f2 k2 G) sz) := by
  refine Met.ofW (cc := b_Ta_takeShare) (maxL := 4) (ret := none) (by decide) rfl ?_
  intro p e s m args below meth c s₁ Bd hml hv
  obtain ⟨rfl, hsz, hP, hK, hD0⟩ := hv
  have hx := Bd.exec
  have hb := Bd.bytes
  have hr := Bd.returns
  have hts := atoms_spec (ws := w_Ta_takeShare) Bd.pre
  have hown : s.vm.findClass "BallotBoard$Tally" = some m.cls := findClass_of_methodNamed Bd.named
  have hlocks := Bd.notSynchronized
  subst hsz
  have hD := hD0.self (sz := s.heap.size)
  generalize hAe : va_A (tl_ws t0 ka aa ba sa (.ref g0) cJ ko ao bo so tn kc bc shc kp shp pa pb sht ++ gp_ws g0 mF mE P f1 k1 Q f2 k2 G) s.heap.size = A at hD ⊢
  have hA : ∀ q : Nat, s.heap.size ≤ q → A q := fun q h => by rw [← hAe]; exact Or.inr h
  have hS : va_S A s.heap s.heap [] := va_S.rf
  have hl := lv_entry ([.ref t0, .int (nI I), .long (lN Y)]) (n := 4) (Nat.le_of_ble_eq_true rfl)
  rw [lg_entry_eq]
  generalize (lg_sl ([.ref t0, .int (nI I), .long (lN Y)]) ++ List.replicate (4 - (lg_sl ([.ref t0, .int (nI I), .long (lN Y)])).length) Slot.unset).toArray = ls at hl ⊢
  have hl : lv_has ls 4 [(0, .ref t0), (1, .int (nI I)), (2, .long (lN Y))] := hl
  obtain ⟨hokF, hokE, hPQ, hG2, hGP, hGQ⟩ := id hok
  obtain ⟨hoF, h3F, h61F, _, _, hk61F, hNkF⟩ := id hokF
  obtain ⟨hoE, h3E, h61E, _, _, hk61E, hNkE⟩ := id hokE
  refine lv_aload_n hx hb d_Ta_takeShare_0 rfl (lv_at hl 0 rfl) ?_
  refine lv_iload_n hx hb d_Ta_takeShare_1 rfl (lv_at hl 1 rfl) ?_
  have hPc := hP.sub (ws' := (tl_ws t0 ka aa ba sa (.ref g0) cJ ko ao bo so tn kc bc shc kp shp pa pb sht)) [0, 1, 2, 3, 4] rfl
  have hKc := hK.sub (tys' := [(cJ, .long), (cI, .int)]) [0, 1] rfl
  refine va_calli (va_runV (As := [.int (nI I)]) (rest := []) ⟨hx, hb, hml, hown, hts⟩ (c_Ta_hasTrustee l s.heap dC dI cJ cI t0 ka aa ba sa (.ref g0) ko ao bo so tn kc bc shc kp shp pa pb sht (nI I) hPc (by omega)) (cwV 1 hts (gw_V gk_412 gk_413 gk_414 gk_5 gk_415) rfl rfl rfl (by decide +kernel) ⟨Nat.le_of_ble_eq_true rfl, Nat.le_of_ble_eq_true rfl⟩) ⟨fun a U g mk q => ⟨q.1, q.2.1, va_K.moved (u := U) (U := U.calling g mk a) (Vm.Alike.refl U.vm) q.2.2⟩, va_recv hK hP (ci := 4) (q0 := 0) rfl rfl, fun U hU hW => ⟨rfl, hU, va_K.moved hW.alike hKc⟩⟩ rfl rfl hl.1 rfl (lv_room (Nat.le_of_ble_eq_true rfl)) d_Ta_takeShare_2 ⟨Nat.le_of_ble_eq_true rfl, Nat.le_of_ble_eq_true rfl⟩) hS (fun q _ h => h.elim) (fun q h => h.elim) (fun r2 u9 t9 H1 locs ht hvm hw hB hz1 hk1 hS => ?_)
  obtain rfl : s.heap = H1 := hB.symm.trans ht
  have h2 := hw
  refine lv_if_eq (tgt := 41) hx hb d_Ta_takeShare_5 (by decide) (fun c_1 => ?_) (fun c_1 => ?_)
  · -- taken
    exact absurd ⟨I, rfl, hI⟩ (bz_f h2 c_1)
  · -- not taken
    have b2 := bz_t h2 c_1
    refine lv_aload_n hx hb d_Ta_takeShare_8 rfl (lv_at hl 0 rfl) ?_
    refine va_get (D := (dC, dI)) (ci := 4) (v := .ref sa) (C := "BallotBoard$Tally") (T := F_Ta) (N := 14) hx hb hts (fun w9 h9 => List.mem_cons_of_mem _ (i_Ta w9 h9)) hown hK hP 0 rfl rfl 3 (by decide) (hts _ (List.mem_cons_of_mem _ gk_95)) (fun _ h9 => h9) rfl d_Ta_takeShare_9 ?_
    refine lv_iload_n hx hb d_Ta_takeShare_12 rfl (lv_at hl 1 rfl) ?_
    refine lv_lload_n hx hb d_Ta_takeShare_13 rfl (lv_at hl 2 rfl) ?_
    refine va_last hx hb hK hP hD hS 4 0 rfl rfl (vp_in_nI (by omega) (by omega)) d_Ta_takeShare_14 (fun H locs hP hD hS => ?_)
    have hfe : vp_updL (lF so) (nI I : Int32).toNatClampNeg (lN Y) = lF (updN so I Y) := by rw [nI_clamp (by omega)]; exact lF_upd _ _ _
    have hP : va_P (dC, dI) classes [(t0, .inr (4, [.ref ka, .ref aa, .ref ba, .ref sa, .ref g0, .int (nI tn), .int (nI kc), .int (nI bc), .int (nI shc), .long (lN kp), .long (lN shp), .long (lN pa), .long (lN pb), .int sht])), (ka, .inl (cJ, 4, .inr (.inl (lF ko)))), (aa, .inl (cJ, 64, .inr (.inl (lF ao)))), (ba, .inl (cJ, 64, .inr (.inl (lF bo)))), (sa, .inl (cJ, 4, .inr (.inl (vp_updL (lF so) (nI I : Int32).toNatClampNeg (lN Y))))), (g0, .inr (1, [.ref mF, .ref mE, .long (lN G), .long (lN (G ^ (Q - 1) % P))])), (mF, .inr (0, [.long (lN P), .long (lN (P % 2 ^ 31)), .long (lN (P / 2 ^ 31)), .long (lN f1), .long (lN (2 ^ 62 % P)), .long (lN (2 ^ 124 % P)), .int (nI k1)])), (mE, .inr (0, [.long (lN Q), .long (lN (Q % 2 ^ 31)), .long (lN (Q / 2 ^ 31)), .long (lN f2), .long (lN (2 ^ 62 % Q)), .long (lN (2 ^ 124 % Q)), .int (nI k2)]))] H := hP
    have hD : va_D A [(t0, .inr (4, [.ref ka, .ref aa, .ref ba, .ref sa, .ref g0, .int (nI tn), .int (nI kc), .int (nI bc), .int (nI shc), .long (lN kp), .long (lN shp), .long (lN pa), .long (lN pb), .int sht])), (ka, .inl (cJ, 4, .inr (.inl (lF ko)))), (aa, .inl (cJ, 64, .inr (.inl (lF ao)))), (ba, .inl (cJ, 64, .inr (.inl (lF bo)))), (sa, .inl (cJ, 4, .inr (.inl (vp_updL (lF so) (nI I : Int32).toNatClampNeg (lN Y))))), (g0, .inr (1, [.ref mF, .ref mE, .long (lN G), .long (lN (G ^ (Q - 1) % P))])), (mF, .inr (0, [.long (lN P), .long (lN (P % 2 ^ 31)), .long (lN (P / 2 ^ 31)), .long (lN f1), .long (lN (2 ^ 62 % P)), .long (lN (2 ^ 124 % P)), .int (nI k1)])), (mE, .inr (0, [.long (lN Q), .long (lN (Q % 2 ^ 31)), .long (lN (Q / 2 ^ 31)), .long (lN f2), .long (lN (2 ^ 62 % Q)), .long (lN (2 ^ 124 % Q)), .int (nI k2)]))] := hD
    rw [hfe] at hP hD
    refine lv_aload_n hx hb d_Ta_takeShare_15 rfl (lv_at hl 0 rfl) ?_
    refine lv_aload_n hx hb d_Ta_takeShare_16 rfl (lv_at hl 0 rfl) ?_
    refine va_get (D := (dC, dI)) (ci := 4) (v := .ref g0) (C := "BallotBoard$Tally") (T := F_Ta) (N := 14) hx hb hts (fun w9 h9 => List.mem_cons_of_mem _ (i_Ta w9 h9)) hown hK hP 0 rfl rfl 4 (by decide) (hts _ (List.mem_cons_of_mem _ gk_96)) (fun _ h9 => h9) rfl d_Ta_takeShare_17 ?_
    refine lv_aload_n hx hb d_Ta_takeShare_20 rfl (lv_at hl 0 rfl) ?_
    refine va_get (D := (dC, dI)) (ci := 4) (v := .long (lN shp)) (C := "BallotBoard$Tally") (T := F_Ta) (N := 14) hx hb hts (fun w9 h9 => List.mem_cons_of_mem _ (i_Ta w9 h9)) hown hK hP 0 rfl rfl 10 (by decide) (hts _ (List.mem_cons_of_mem _ gk_102)) (fun _ h9 => h9) rfl d_Ta_takeShare_21 ?_
    refine lv_lload_n hx hb d_Ta_takeShare_24 rfl (lv_at hl 2 rfl) ?_
    have hPc := hP.sub (ws' := (gp_ws g0 mF mE P f1 k1 Q f2 k2 G)) [5, 6, 7] rfl
    have hKc := hK.sub (tys' := []) [] rfl
    refine va_calll (va_runV (As := [.long (lN shp), .long (lN Y)]) (rest := [.ref t0]) ⟨hx, hb, hml, hown, hts⟩ (c_Gr_product l H dC dI g0 mF mE P f1 k1 Q f2 k2 G shp Y hPc hok hp9 hY) (cwV 2 hts (gw_V gk_574 gk_575 gk_576 gk_8 gk_577) rfl rfl rfl (by decide +kernel) ⟨Nat.le_of_ble_eq_true rfl, Nat.le_of_ble_eq_true rfl⟩) ⟨fun a U g mk q => ⟨q.1, q.2.1, va_K.moved (u := U) (U := U.calling g mk a) (Vm.Alike.refl U.vm) q.2.2⟩, va_recv hK hP (ci := 1) (q0 := 5) rfl rfl, fun U hU hW => ⟨rfl, hU, va_K.moved hW.alike hKc⟩⟩ rfl rfl hl.1 rfl (lv_room (Nat.le_of_ble_eq_true rfl)) d_Ta_takeShare_25 ⟨Nat.le_of_ble_eq_true rfl, Nat.le_of_ble_eq_true rfl⟩) hS (fun q _ h => h.elim) (fun q h => h.elim) (fun r25 u9 t9 H1 locs ht hvm hw hB hz1 hk1 hS => ?_)
    obtain rfl : H = H1 := hB.symm.trans ht
    have hw : r25 = lN (shp * Y % P) := hw
    subst hw
    refine va_put (D := (dC, dI)) (ci := 4) (v := .long (lN (shp * Y % P))) (ty := .long) (C := "BallotBoard$Tally") (T := F_Ta) (N := 14) hx hb hts (fun w9 h9 => List.mem_cons_of_mem _ (i_Ta w9 h9)) t_Ta t_Ta_ok n_Ta hown hK hP hD hS 0 rfl rfl 10 (by decide) (hts _ (List.mem_cons_of_mem _ gk_102)) (fun _ h9 => h9) rfl (by decide +kernel) rfl rfl (Nat.le_of_ble_eq_true rfl) d_Ta_takeShare_28 (fun H locs hP hD hS => ?_)
    have hP : va_P (dC, dI) classes [(t0, .inr (4, [.ref ka, .ref aa, .ref ba, .ref sa, .ref g0, .int (nI tn), .int (nI kc), .int (nI bc), .int (nI shc), .long (lN kp), .long (lN (shp * Y % P)), .long (lN pa), .long (lN pb), .int sht])), (ka, .inl (cJ, 4, .inr (.inl (lF ko)))), (aa, .inl (cJ, 64, .inr (.inl (lF ao)))), (ba, .inl (cJ, 64, .inr (.inl (lF bo)))), (sa, .inl (cJ, 4, .inr (.inl (lF (updN so I Y))))), (g0, .inr (1, [.ref mF, .ref mE, .long (lN G), .long (lN (G ^ (Q - 1) % P))])), (mF, .inr (0, [.long (lN P), .long (lN (P % 2 ^ 31)), .long (lN (P / 2 ^ 31)), .long (lN f1), .long (lN (2 ^ 62 % P)), .long (lN (2 ^ 124 % P)), .int (nI k1)])), (mE, .inr (0, [.long (lN Q), .long (lN (Q % 2 ^ 31)), .long (lN (Q / 2 ^ 31)), .long (lN f2), .long (lN (2 ^ 62 % Q)), .long (lN (2 ^ 124 % Q)), .int (nI k2)]))] H := hP
    have hD : va_D A [(t0, .inr (4, [.ref ka, .ref aa, .ref ba, .ref sa, .ref g0, .int (nI tn), .int (nI kc), .int (nI bc), .int (nI shc), .long (lN kp), .long (lN (shp * Y % P)), .long (lN pa), .long (lN pb), .int sht])), (ka, .inl (cJ, 4, .inr (.inl (lF ko)))), (aa, .inl (cJ, 64, .inr (.inl (lF ao)))), (ba, .inl (cJ, 64, .inr (.inl (lF bo)))), (sa, .inl (cJ, 4, .inr (.inl (lF (updN so I Y))))), (g0, .inr (1, [.ref mF, .ref mE, .long (lN G), .long (lN (G ^ (Q - 1) % P))])), (mF, .inr (0, [.long (lN P), .long (lN (P % 2 ^ 31)), .long (lN (P / 2 ^ 31)), .long (lN f1), .long (lN (2 ^ 62 % P)), .long (lN (2 ^ 124 % P)), .int (nI k1)])), (mE, .inr (0, [.long (lN Q), .long (lN (Q % 2 ^ 31)), .long (lN (Q / 2 ^ 31)), .long (lN f2), .long (lN (2 ^ 62 % Q)), .long (lN (2 ^ 124 % Q)), .int (nI k2)]))] := hD
    refine lv_aload_n hx hb d_Ta_takeShare_31 rfl (lv_at hl 0 rfl) ?_
    refine lv_dup hx hb d_Ta_takeShare_32 rfl ?_
    refine va_get (D := (dC, dI)) (ci := 4) (v := .int (nI shc)) (C := "BallotBoard$Tally") (T := F_Ta) (N := 14) hx hb hts (fun w9 h9 => List.mem_cons_of_mem _ (i_Ta w9 h9)) hown hK hP 0 rfl rfl 8 (by decide) (hts _ (List.mem_cons_of_mem _ gk_100)) (fun _ h9 => h9) rfl d_Ta_takeShare_33 ?_
    refine lv_iconst (v := 1) hx hb d_Ta_takeShare_36 (by decide) ?_
    refine lv_iadd hx hb d_Ta_takeShare_37 ?_
    rw [show ((nI shc) + 1 : Int32) = (nI (shc + 1)) from nI_1 shc]
    refine va_put (D := (dC, dI)) (ci := 4) (v := .int (nI (shc + 1))) (ty := .int) (C := "BallotBoard$Tally") (T := F_Ta) (N := 14) hx hb hts (fun w9 h9 => List.mem_cons_of_mem _ (i_Ta w9 h9)) t_Ta t_Ta_ok n_Ta hown hK hP hD hS 0 rfl rfl 8 (by decide) (hts _ (List.mem_cons_of_mem _ gk_100)) (fun _ h9 => h9) rfl (by decide +kernel) rfl rfl (Nat.le_of_ble_eq_true rfl) d_Ta_takeShare_38 (fun H locs hP hD hS => ?_)
    have hP : va_P (dC, dI) classes [(t0, .inr (4, [.ref ka, .ref aa, .ref ba, .ref sa, .ref g0, .int (nI tn), .int (nI kc), .int (nI bc), .int (nI (shc + 1)), .long (lN kp), .long (lN (shp * Y % P)), .long (lN pa), .long (lN pb), .int sht])), (ka, .inl (cJ, 4, .inr (.inl (lF ko)))), (aa, .inl (cJ, 64, .inr (.inl (lF ao)))), (ba, .inl (cJ, 64, .inr (.inl (lF bo)))), (sa, .inl (cJ, 4, .inr (.inl (lF (updN so I Y))))), (g0, .inr (1, [.ref mF, .ref mE, .long (lN G), .long (lN (G ^ (Q - 1) % P))])), (mF, .inr (0, [.long (lN P), .long (lN (P % 2 ^ 31)), .long (lN (P / 2 ^ 31)), .long (lN f1), .long (lN (2 ^ 62 % P)), .long (lN (2 ^ 124 % P)), .int (nI k1)])), (mE, .inr (0, [.long (lN Q), .long (lN (Q % 2 ^ 31)), .long (lN (Q / 2 ^ 31)), .long (lN f2), .long (lN (2 ^ 62 % Q)), .long (lN (2 ^ 124 % Q)), .int (nI k2)]))] H := hP
    have hD : va_D A [(t0, .inr (4, [.ref ka, .ref aa, .ref ba, .ref sa, .ref g0, .int (nI tn), .int (nI kc), .int (nI bc), .int (nI (shc + 1)), .long (lN kp), .long (lN (shp * Y % P)), .long (lN pa), .long (lN pb), .int sht])), (ka, .inl (cJ, 4, .inr (.inl (lF ko)))), (aa, .inl (cJ, 64, .inr (.inl (lF ao)))), (ba, .inl (cJ, 64, .inr (.inl (lF bo)))), (sa, .inl (cJ, 4, .inr (.inl (lF (updN so I Y))))), (g0, .inr (1, [.ref mF, .ref mE, .long (lN G), .long (lN (G ^ (Q - 1) % P))])), (mF, .inr (0, [.long (lN P), .long (lN (P % 2 ^ 31)), .long (lN (P / 2 ^ 31)), .long (lN f1), .long (lN (2 ^ 62 % P)), .long (lN (2 ^ 124 % P)), .int (nI k1)])), (mE, .inr (0, [.long (lN Q), .long (lN (Q % 2 ^ 31)), .long (lN (Q / 2 ^ 31)), .long (lN f2), .long (lN (2 ^ 62 % Q)), .long (lN (2 ^ 124 % Q)), .int (nI k2)]))] := hD
    exact W.vret hx hb hr (fun t ht9 hW => ⟨⟨(), rfl, trivial, by rw [ht9]; exact hP, va_K.moved hW.alike hK, hD⟩, hS.F ht9⟩) hS.2.2 d_Ta_takeShare_41
abbrev b_Ta_takeBallot : ByteArray := prog_8_method_22_code
abbrev y_Ta_takeBallot : MethodName := ⟨"BallotBoard$Tally", "takeBallot", "(IJJ)V"⟩
abbrev w_Ta_takeBallot : List Cond := .code y_Ta_takeBallot b_Ta_takeBallot 6 none :: gw
theorem d_Ta_takeBallot_0 : decode b_Ta_takeBallot 0 = .ok (.iload_n 1, 1) := by decide +kernel
theorem d_Ta_takeBallot_1 : decode b_Ta_takeBallot 1 = .ok (.ifCond .lt 45, 3) := by decide +kernel
theorem d_Ta_takeBallot_4 : decode b_Ta_takeBallot 4 = .ok (.iload_n 1, 1) := by decide +kernel
theorem d_Ta_takeBallot_5 : decode b_Ta_takeBallot 5 = .ok (.bipush 64, 2) := by decide +kernel
theorem d_Ta_takeBallot_7 : decode b_Ta_takeBallot 7 = .ok (.if_icmp .ge 39, 3) := by decide +kernel
theorem d_Ta_takeBallot_10 : decode b_Ta_takeBallot 10 = .ok (.aload_n 0, 1) := by decide +kernel
theorem d_Ta_takeBallot_11 : decode b_Ta_takeBallot 11 = .ok (.getfield 18, 3) := by decide +kernel
theorem d_Ta_takeBallot_14 : decode b_Ta_takeBallot 14 = .ok (.iload_n 1, 1) := by decide +kernel
theorem d_Ta_takeBallot_15 : decode b_Ta_takeBallot 15 = .ok (.laload, 1) := by decide +kernel
theorem d_Ta_takeBallot_16 : decode b_Ta_takeBallot 16 = .ok (.lconst 0, 1) := by decide +kernel
theorem d_Ta_takeBallot_17 : decode b_Ta_takeBallot 17 = .ok (.lcmp, 1) := by decide +kernel
theorem d_Ta_takeBallot_18 : decode b_Ta_takeBallot 18 = .ok (.ifCond .ne 13, 3) := by decide +kernel
theorem d_Ta_takeBallot_21 : decode b_Ta_takeBallot 21 = .ok (.aload_n 0, 1) := by decide +kernel
theorem d_Ta_takeBallot_22 : decode b_Ta_takeBallot 22 = .ok (.dup, 1) := by decide +kernel
theorem d_Ta_takeBallot_23 : decode b_Ta_takeBallot 23 = .ok (.getfield 35, 3) := by decide +kernel
theorem d_Ta_takeBallot_26 : decode b_Ta_takeBallot 26 = .ok (.iconst 1, 1) := by decide +kernel
theorem d_Ta_takeBallot_27 : decode b_Ta_takeBallot 27 = .ok (.iadd, 1) := by decide +kernel
theorem d_Ta_takeBallot_28 : decode b_Ta_takeBallot 28 = .ok (.putfield 35, 3) := by decide +kernel
theorem d_Ta_takeBallot_31 : decode b_Ta_takeBallot 31 = .ok (.aload_n 0, 1) := by decide +kernel
theorem d_Ta_takeBallot_32 : decode b_Ta_takeBallot 32 = .ok (.getfield 18, 3) := by decide +kernel
theorem d_Ta_takeBallot_35 : decode b_Ta_takeBallot 35 = .ok (.iload_n 1, 1) := by decide +kernel
theorem d_Ta_takeBallot_36 : decode b_Ta_takeBallot 36 = .ok (.lload_n 2, 1) := by decide +kernel
theorem d_Ta_takeBallot_37 : decode b_Ta_takeBallot 37 = .ok (.lastore, 1) := by decide +kernel
theorem d_Ta_takeBallot_38 : decode b_Ta_takeBallot 38 = .ok (.aload_n 0, 1) := by decide +kernel
theorem d_Ta_takeBallot_39 : decode b_Ta_takeBallot 39 = .ok (.getfield 21, 3) := by decide +kernel
theorem d_Ta_takeBallot_42 : decode b_Ta_takeBallot 42 = .ok (.iload_n 1, 1) := by decide +kernel
theorem d_Ta_takeBallot_43 : decode b_Ta_takeBallot 43 = .ok (.lload 4, 2) := by decide +kernel
theorem d_Ta_takeBallot_45 : decode b_Ta_takeBallot 45 = .ok (.lastore, 1) := by decide +kernel
theorem d_Ta_takeBallot_46 : decode b_Ta_takeBallot 46 = .ok (.return_, 1) := by decide +kernel
set_option maxHeartbeats 8000000 in
set_option maxRecDepth 100000 in
theorem c_Ta_takeBallot (l : Launch) (dC : Nat → ClassId) (dI : Nat → Nat → Nat) (cJ cI : ClassId) (sz : Nat) (t0 ka aa ba sa : Nat) (gv : Value) (ko ao bo so : Nat → Nat) (tn kc bc shc kp shp pa pb : Nat) (sht : Int32) (I A1 B1 : Nat) (hI : I < 64) (hao61 : ∀ j, ao j < 2 ^ 61) : Met l y_Ta_takeBallot w_Ta_takeBallot ({ frames := 0, cells := 0, slots := 0, locals := 0 }) (va_Pc [.ref t0, .int (nI I), .long (lN A1), .long (lN B1)] (fun U => U.heap.size = sz ∧ va_P (dC, dI) classes (tl_ws t0 ka aa ba sa gv cJ ko ao bo so tn kc bc shc kp shp pa pb sht) U.heap ∧ va_K (dC, dI) classes [(cJ, .long), (cI, .int)] U ∧ va_D (fun _ => True) (tl_ws t0 ka aa ba sa gv cJ ko ao bo so tn kc bc shc kp shp pa pb sht))) (va_Qv (fun _ : Unit => True) (fun _ t => va_P (dC, dI) classes (tl_ws t0 ka aa ba sa gv cJ ko (updN ao I A1) (updN bo I B1) so tn kc (if ao I = 0 then bc + 1 else bc) shc kp shp pa pb sht) t.heap ∧ va_K (dC, dI) classes [(cJ, .long), (cI, .int)] t ∧ va_D (va_A (tl_ws t0 ka aa ba sa gv cJ ko ao bo so tn kc bc shc kp shp pa pb sht) sz) (tl_ws t0 ka aa ba sa gv cJ ko (updN ao I A1) (updN bo I B1) so tn kc (if ao I = 0 then bc + 1 else bc) shc kp shp pa pb sht)) (va_A (tl_ws t0 ka aa ba sa gv cJ ko ao bo so tn kc bc shc kp shp pa pb sht) sz)) 0 0 (va_A (tl_ws t0 ka aa ba sa gv cJ ko ao bo so tn kc bc shc kp shp pa pb sht) sz) := by
  refine Met.ofW (cc := b_Ta_takeBallot) (maxL := 6) (ret := none) (by decide) rfl ?_
  intro p e s m args below meth c s₁ Bd hml hv
  obtain ⟨rfl, hsz, hP, hK, hD0⟩ := hv
  have hx := Bd.exec
  have hb := Bd.bytes
  have hr := Bd.returns
  have hts := atoms_spec (ws := w_Ta_takeBallot) Bd.pre
  have hown : s.vm.findClass "BallotBoard$Tally" = some m.cls := findClass_of_methodNamed Bd.named
  have hlocks := Bd.notSynchronized
  subst hsz
  have hD := hD0.self (sz := s.heap.size)
  generalize hAe : va_A (tl_ws t0 ka aa ba sa gv cJ ko ao bo so tn kc bc shc kp shp pa pb sht) s.heap.size = A at hD ⊢
  have hA : ∀ q : Nat, s.heap.size ≤ q → A q := fun q h => by rw [← hAe]; exact Or.inr h
  have hS : va_S A s.heap s.heap [] := va_S.rf
  have hl := lv_entry ([.ref t0, .int (nI I), .long (lN A1), .long (lN B1)]) (n := 6) (Nat.le_of_ble_eq_true rfl)
  rw [lg_entry_eq]
  generalize (lg_sl ([.ref t0, .int (nI I), .long (lN A1), .long (lN B1)]) ++ List.replicate (6 - (lg_sl ([.ref t0, .int (nI I), .long (lN A1), .long (lN B1)])).length) Slot.unset).toArray = ls at hl ⊢
  have hl : lv_has ls 6 [(0, .ref t0), (1, .int (nI I)), (2, .long (lN A1)), (4, .long (lN B1))] := hl
  refine lv_iload_n hx hb d_Ta_takeBallot_0 rfl (lv_at hl 1 rfl) ?_
  refine lv_if_lt (tgt := 46) hx hb d_Ta_takeBallot_1 (by decide) (fun c_1 => ?_) (fun c_1 => ?_)
  · -- taken
    exact absurd c_1 (nI_pos (by omega))
  · -- not taken
    refine lv_iload_n hx hb d_Ta_takeBallot_4 rfl (lv_at hl 1 rfl) ?_
    refine lv_bipush (v := 64) hx hb d_Ta_takeBallot_5 (by decide) ?_
    refine lv_icmp_ge (tgt := 46) hx hb d_Ta_takeBallot_7 (by decide) (fun c_2 => ?_) (fun c_2 => ?_)
    · -- taken
      exact absurd ((ige 64 (by omega) (by omega) rfl).mp c_2) (by omega)
    · -- not taken
      refine lv_aload_n hx hb d_Ta_takeBallot_10 rfl (lv_at hl 0 rfl) ?_
      refine va_get (D := (dC, dI)) (ci := 4) (v := .ref aa) (C := "BallotBoard$Tally") (T := F_Ta) (N := 14) hx hb hts (fun w9 h9 => List.mem_cons_of_mem _ (i_Ta w9 h9)) hown hK hP 0 rfl rfl 1 (by decide) (hts _ (List.mem_cons_of_mem _ gk_93)) (fun _ h9 => h9) rfl d_Ta_takeBallot_11 ?_
      refine lv_iload_n hx hb d_Ta_takeBallot_14 rfl (lv_at hl 1 rfl) ?_
      refine va_lald hx hb hK hP 2 0 rfl rfl (vp_in_nI (by omega) (by omega)) d_Ta_takeBallot_15 ?_
      rw [show (lF ao (nI I : Int32).toNatClampNeg : Int64) = lN (ao I) from by rw [nI_clamp (by omega)]; rfl]
      refine lv_lconst (v := 0) hx hb d_Ta_takeBallot_16 (by decide) ?_
      refine W.lcmp hx hb d_Ta_takeBallot_17 ?_
      refine lv_if_ne (tgt := 31) hx hb d_Ta_takeBallot_18 (by decide) (fun c_3 => ?_) (fun c_3 => ?_)
      · -- taken
        have hz9 : ¬ ao I = 0 := fun h => c_3 ((cmpe (by have := hao61 I; omega) 0 (by omega) rfl).mpr h)
        rw [show (if ao I = 0 then bc + 1 else bc) = bc from if_neg hz9]
        refine lv_aload_n hx hb d_Ta_takeBallot_31 rfl (lv_at hl 0 rfl) ?_
        refine va_get (D := (dC, dI)) (ci := 4) (v := .ref aa) (C := "BallotBoard$Tally") (T := F_Ta) (N := 14) hx hb hts (fun w9 h9 => List.mem_cons_of_mem _ (i_Ta w9 h9)) hown hK hP 0 rfl rfl 1 (by decide) (hts _ (List.mem_cons_of_mem _ gk_93)) (fun _ h9 => h9) rfl d_Ta_takeBallot_32 ?_
        refine lv_iload_n hx hb d_Ta_takeBallot_35 rfl (lv_at hl 1 rfl) ?_
        refine lv_lload_n hx hb d_Ta_takeBallot_36 rfl (lv_at hl 2 rfl) ?_
        refine va_last hx hb hK hP hD hS 2 0 rfl rfl (vp_in_nI (by omega) (by omega)) d_Ta_takeBallot_37 (fun H locs hP hD hS => ?_)
        have hfe : vp_updL (lF ao) (nI I : Int32).toNatClampNeg (lN A1) = lF (updN ao I A1) := by rw [nI_clamp (by omega)]; exact lF_upd _ _ _
        have hP : va_P (dC, dI) classes [(t0, .inr (4, [.ref ka, .ref aa, .ref ba, .ref sa, gv, .int (nI tn), .int (nI kc), .int (nI bc), .int (nI shc), .long (lN kp), .long (lN shp), .long (lN pa), .long (lN pb), .int sht])), (ka, .inl (cJ, 4, .inr (.inl (lF ko)))), (aa, .inl (cJ, 64, .inr (.inl (vp_updL (lF ao) (nI I : Int32).toNatClampNeg (lN A1))))), (ba, .inl (cJ, 64, .inr (.inl (lF bo)))), (sa, .inl (cJ, 4, .inr (.inl (lF so))))] H := hP
        have hD : va_D A [(t0, .inr (4, [.ref ka, .ref aa, .ref ba, .ref sa, gv, .int (nI tn), .int (nI kc), .int (nI bc), .int (nI shc), .long (lN kp), .long (lN shp), .long (lN pa), .long (lN pb), .int sht])), (ka, .inl (cJ, 4, .inr (.inl (lF ko)))), (aa, .inl (cJ, 64, .inr (.inl (vp_updL (lF ao) (nI I : Int32).toNatClampNeg (lN A1))))), (ba, .inl (cJ, 64, .inr (.inl (lF bo)))), (sa, .inl (cJ, 4, .inr (.inl (lF so))))] := hD
        rw [hfe] at hP hD
        refine lv_aload_n hx hb d_Ta_takeBallot_38 rfl (lv_at hl 0 rfl) ?_
        refine va_get (D := (dC, dI)) (ci := 4) (v := .ref ba) (C := "BallotBoard$Tally") (T := F_Ta) (N := 14) hx hb hts (fun w9 h9 => List.mem_cons_of_mem _ (i_Ta w9 h9)) hown hK hP 0 rfl rfl 2 (by decide) (hts _ (List.mem_cons_of_mem _ gk_94)) (fun _ h9 => h9) rfl d_Ta_takeBallot_39 ?_
        refine lv_iload_n hx hb d_Ta_takeBallot_42 rfl (lv_at hl 1 rfl) ?_
        refine lv_lload hx hb d_Ta_takeBallot_43 (lv_at hl 3 rfl) ?_
        refine va_last hx hb hK hP hD hS 3 0 rfl rfl (vp_in_nI (by omega) (by omega)) d_Ta_takeBallot_45 (fun H locs hP hD hS => ?_)
        have hfe : vp_updL (lF bo) (nI I : Int32).toNatClampNeg (lN B1) = lF (updN bo I B1) := by rw [nI_clamp (by omega)]; exact lF_upd _ _ _
        have hP : va_P (dC, dI) classes [(t0, .inr (4, [.ref ka, .ref aa, .ref ba, .ref sa, gv, .int (nI tn), .int (nI kc), .int (nI bc), .int (nI shc), .long (lN kp), .long (lN shp), .long (lN pa), .long (lN pb), .int sht])), (ka, .inl (cJ, 4, .inr (.inl (lF ko)))), (aa, .inl (cJ, 64, .inr (.inl (lF (updN ao I A1))))), (ba, .inl (cJ, 64, .inr (.inl (vp_updL (lF bo) (nI I : Int32).toNatClampNeg (lN B1))))), (sa, .inl (cJ, 4, .inr (.inl (lF so))))] H := hP
        have hD : va_D A [(t0, .inr (4, [.ref ka, .ref aa, .ref ba, .ref sa, gv, .int (nI tn), .int (nI kc), .int (nI bc), .int (nI shc), .long (lN kp), .long (lN shp), .long (lN pa), .long (lN pb), .int sht])), (ka, .inl (cJ, 4, .inr (.inl (lF ko)))), (aa, .inl (cJ, 64, .inr (.inl (lF (updN ao I A1))))), (ba, .inl (cJ, 64, .inr (.inl (vp_updL (lF bo) (nI I : Int32).toNatClampNeg (lN B1))))), (sa, .inl (cJ, 4, .inr (.inl (lF so))))] := hD
        rw [hfe] at hP hD
        exact W.vret hx hb hr (fun t ht9 hW => ⟨⟨(), rfl, trivial, by rw [ht9]; exact hP, va_K.moved hW.alike hK, hD⟩, hS.F ht9⟩) hS.2.2 d_Ta_takeBallot_46
      · -- not taken
        have hz9 : ao I = 0 := (cmpe (by have := hao61 I; omega) 0 (by omega) rfl).mp c_3
        rw [show (if ao I = 0 then bc + 1 else bc) = bc + 1 from if_pos hz9]
        refine lv_aload_n hx hb d_Ta_takeBallot_21 rfl (lv_at hl 0 rfl) ?_
        refine lv_dup hx hb d_Ta_takeBallot_22 rfl ?_
        refine va_get (D := (dC, dI)) (ci := 4) (v := .int (nI bc)) (C := "BallotBoard$Tally") (T := F_Ta) (N := 14) hx hb hts (fun w9 h9 => List.mem_cons_of_mem _ (i_Ta w9 h9)) hown hK hP 0 rfl rfl 7 (by decide) (hts _ (List.mem_cons_of_mem _ gk_99)) (fun _ h9 => h9) rfl d_Ta_takeBallot_23 ?_
        refine lv_iconst (v := 1) hx hb d_Ta_takeBallot_26 (by decide) ?_
        refine lv_iadd hx hb d_Ta_takeBallot_27 ?_
        rw [show ((nI bc) + 1 : Int32) = (nI (bc + 1)) from nI_1 bc]
        refine va_put (D := (dC, dI)) (ci := 4) (v := .int (nI (bc + 1))) (ty := .int) (C := "BallotBoard$Tally") (T := F_Ta) (N := 14) hx hb hts (fun w9 h9 => List.mem_cons_of_mem _ (i_Ta w9 h9)) t_Ta t_Ta_ok n_Ta hown hK hP hD hS 0 rfl rfl 7 (by decide) (hts _ (List.mem_cons_of_mem _ gk_99)) (fun _ h9 => h9) rfl (by decide +kernel) rfl rfl (Nat.le_of_ble_eq_true rfl) d_Ta_takeBallot_28 (fun H locs hP hD hS => ?_)
        have hP : va_P (dC, dI) classes [(t0, .inr (4, [.ref ka, .ref aa, .ref ba, .ref sa, gv, .int (nI tn), .int (nI kc), .int (nI (bc + 1)), .int (nI shc), .long (lN kp), .long (lN shp), .long (lN pa), .long (lN pb), .int sht])), (ka, .inl (cJ, 4, .inr (.inl (lF ko)))), (aa, .inl (cJ, 64, .inr (.inl (lF ao)))), (ba, .inl (cJ, 64, .inr (.inl (lF bo)))), (sa, .inl (cJ, 4, .inr (.inl (lF so))))] H := hP
        have hD : va_D A [(t0, .inr (4, [.ref ka, .ref aa, .ref ba, .ref sa, gv, .int (nI tn), .int (nI kc), .int (nI (bc + 1)), .int (nI shc), .long (lN kp), .long (lN shp), .long (lN pa), .long (lN pb), .int sht])), (ka, .inl (cJ, 4, .inr (.inl (lF ko)))), (aa, .inl (cJ, 64, .inr (.inl (lF ao)))), (ba, .inl (cJ, 64, .inr (.inl (lF bo)))), (sa, .inl (cJ, 4, .inr (.inl (lF so))))] := hD
        refine lv_aload_n hx hb d_Ta_takeBallot_31 rfl (lv_at hl 0 rfl) ?_
        refine va_get (D := (dC, dI)) (ci := 4) (v := .ref aa) (C := "BallotBoard$Tally") (T := F_Ta) (N := 14) hx hb hts (fun w9 h9 => List.mem_cons_of_mem _ (i_Ta w9 h9)) hown hK hP 0 rfl rfl 1 (by decide) (hts _ (List.mem_cons_of_mem _ gk_93)) (fun _ h9 => h9) rfl d_Ta_takeBallot_32 ?_
        refine lv_iload_n hx hb d_Ta_takeBallot_35 rfl (lv_at hl 1 rfl) ?_
        refine lv_lload_n hx hb d_Ta_takeBallot_36 rfl (lv_at hl 2 rfl) ?_
        refine va_last hx hb hK hP hD hS 2 0 rfl rfl (vp_in_nI (by omega) (by omega)) d_Ta_takeBallot_37 (fun H locs hP hD hS => ?_)
        have hfe : vp_updL (lF ao) (nI I : Int32).toNatClampNeg (lN A1) = lF (updN ao I A1) := by rw [nI_clamp (by omega)]; exact lF_upd _ _ _
        have hP : va_P (dC, dI) classes [(t0, .inr (4, [.ref ka, .ref aa, .ref ba, .ref sa, gv, .int (nI tn), .int (nI kc), .int (nI (bc + 1)), .int (nI shc), .long (lN kp), .long (lN shp), .long (lN pa), .long (lN pb), .int sht])), (ka, .inl (cJ, 4, .inr (.inl (lF ko)))), (aa, .inl (cJ, 64, .inr (.inl (vp_updL (lF ao) (nI I : Int32).toNatClampNeg (lN A1))))), (ba, .inl (cJ, 64, .inr (.inl (lF bo)))), (sa, .inl (cJ, 4, .inr (.inl (lF so))))] H := hP
        have hD : va_D A [(t0, .inr (4, [.ref ka, .ref aa, .ref ba, .ref sa, gv, .int (nI tn), .int (nI kc), .int (nI (bc + 1)), .int (nI shc), .long (lN kp), .long (lN shp), .long (lN pa), .long (lN pb), .int sht])), (ka, .inl (cJ, 4, .inr (.inl (lF ko)))), (aa, .inl (cJ, 64, .inr (.inl (vp_updL (lF ao) (nI I : Int32).toNatClampNeg (lN A1))))), (ba, .inl (cJ, 64, .inr (.inl (lF bo)))), (sa, .inl (cJ, 4, .inr (.inl (lF so))))] := hD
        rw [hfe] at hP hD
        refine lv_aload_n hx hb d_Ta_takeBallot_38 rfl (lv_at hl 0 rfl) ?_
        refine va_get (D := (dC, dI)) (ci := 4) (v := .ref ba) (C := "BallotBoard$Tally") (T := F_Ta) (N := 14) hx hb hts (fun w9 h9 => List.mem_cons_of_mem _ (i_Ta w9 h9)) hown hK hP 0 rfl rfl 2 (by decide) (hts _ (List.mem_cons_of_mem _ gk_94)) (fun _ h9 => h9) rfl d_Ta_takeBallot_39 ?_
        refine lv_iload_n hx hb d_Ta_takeBallot_42 rfl (lv_at hl 1 rfl) ?_
        refine lv_lload hx hb d_Ta_takeBallot_43 (lv_at hl 3 rfl) ?_
        refine va_last hx hb hK hP hD hS 3 0 rfl rfl (vp_in_nI (by omega) (by omega)) d_Ta_takeBallot_45 (fun H locs hP hD hS => ?_)
        have hfe : vp_updL (lF bo) (nI I : Int32).toNatClampNeg (lN B1) = lF (updN bo I B1) := by rw [nI_clamp (by omega)]; exact lF_upd _ _ _
        have hP : va_P (dC, dI) classes [(t0, .inr (4, [.ref ka, .ref aa, .ref ba, .ref sa, gv, .int (nI tn), .int (nI kc), .int (nI (bc + 1)), .int (nI shc), .long (lN kp), .long (lN shp), .long (lN pa), .long (lN pb), .int sht])), (ka, .inl (cJ, 4, .inr (.inl (lF ko)))), (aa, .inl (cJ, 64, .inr (.inl (lF (updN ao I A1))))), (ba, .inl (cJ, 64, .inr (.inl (vp_updL (lF bo) (nI I : Int32).toNatClampNeg (lN B1))))), (sa, .inl (cJ, 4, .inr (.inl (lF so))))] H := hP
        have hD : va_D A [(t0, .inr (4, [.ref ka, .ref aa, .ref ba, .ref sa, gv, .int (nI tn), .int (nI kc), .int (nI (bc + 1)), .int (nI shc), .long (lN kp), .long (lN shp), .long (lN pa), .long (lN pb), .int sht])), (ka, .inl (cJ, 4, .inr (.inl (lF ko)))), (aa, .inl (cJ, 64, .inr (.inl (lF (updN ao I A1))))), (ba, .inl (cJ, 64, .inr (.inl (vp_updL (lF bo) (nI I : Int32).toNatClampNeg (lN B1))))), (sa, .inl (cJ, 4, .inr (.inl (lF so))))] := hD
        rw [hfe] at hP hD
        exact W.vret hx hb hr (fun t ht9 hW => ⟨⟨(), rfl, trivial, by rw [ht9]; exact hP, va_K.moved hW.alike hK, hD⟩, hS.F ht9⟩) hS.2.2 d_Ta_takeBallot_46
abbrev b_Ta_take : ByteArray := prog_8_method_18_code
abbrev y_Ta_take : MethodName := ⟨"BallotBoard$Tally", "take", "([J)V"⟩
abbrev w_Ta_take : List Cond := .code y_Ta_take b_Ta_take 3 none :: gw
theorem d_Ta_take_0 : decode b_Ta_take 0 = .ok (.aload_n 1, 1) := by decide +kernel
theorem d_Ta_take_1 : decode b_Ta_take 1 = .ok (.iconst 1, 1) := by decide +kernel
theorem d_Ta_take_2 : decode b_Ta_take 2 = .ok (.laload, 1) := by decide +kernel
theorem d_Ta_take_3 : decode b_Ta_take 3 = .ok (.l2i, 1) := by decide +kernel
theorem d_Ta_take_4 : decode b_Ta_take 4 = .ok (.istore_n 2, 1) := by decide +kernel
theorem d_Ta_take_5 : decode b_Ta_take 5 = .ok (.aload_n 1, 1) := by decide +kernel
theorem d_Ta_take_6 : decode b_Ta_take 6 = .ok (.iconst 0, 1) := by decide +kernel
theorem d_Ta_take_7 : decode b_Ta_take 7 = .ok (.laload, 1) := by decide +kernel
theorem d_Ta_take_8 : decode b_Ta_take 8 = .ok (.ldc2_w 66, 3) := by decide +kernel
theorem d_Ta_take_11 : decode b_Ta_take 11 = .ok (.lcmp, 1) := by decide +kernel
theorem d_Ta_take_12 : decode b_Ta_take 12 = .ok (.ifCond .ne 17, 3) := by decide +kernel
theorem d_Ta_take_15 : decode b_Ta_take 15 = .ok (.aload_n 0, 1) := by decide +kernel
theorem d_Ta_take_16 : decode b_Ta_take 16 = .ok (.iload_n 2, 1) := by decide +kernel
theorem d_Ta_take_17 : decode b_Ta_take 17 = .ok (.aload_n 1, 1) := by decide +kernel
theorem d_Ta_take_18 : decode b_Ta_take 18 = .ok (.iconst 2, 1) := by decide +kernel
theorem d_Ta_take_19 : decode b_Ta_take 19 = .ok (.laload, 1) := by decide +kernel
theorem d_Ta_take_20 : decode b_Ta_take 20 = .ok (.aload_n 1, 1) := by decide +kernel
theorem d_Ta_take_21 : decode b_Ta_take 21 = .ok (.iconst 3, 1) := by decide +kernel
theorem d_Ta_take_22 : decode b_Ta_take 22 = .ok (.laload, 1) := by decide +kernel
theorem d_Ta_take_23 : decode b_Ta_take 23 = .ok (.invokevirtual 68, 3) := by decide +kernel
theorem d_Ta_take_26 : decode b_Ta_take 26 = .ok (.goto 30, 3) := by decide +kernel
theorem d_Ta_take_29 : decode b_Ta_take 29 = .ok (.aload_n 1, 1) := by decide +kernel
theorem d_Ta_take_30 : decode b_Ta_take 30 = .ok (.iconst 0, 1) := by decide +kernel
theorem d_Ta_take_31 : decode b_Ta_take 31 = .ok (.laload, 1) := by decide +kernel
theorem d_Ta_take_32 : decode b_Ta_take 32 = .ok (.lconst 1, 1) := by decide +kernel
theorem d_Ta_take_33 : decode b_Ta_take 33 = .ok (.lcmp, 1) := by decide +kernel
theorem d_Ta_take_34 : decode b_Ta_take 34 = .ok (.ifCond .ne 14, 3) := by decide +kernel
theorem d_Ta_take_37 : decode b_Ta_take 37 = .ok (.aload_n 0, 1) := by decide +kernel
theorem d_Ta_take_38 : decode b_Ta_take 38 = .ok (.iload_n 2, 1) := by decide +kernel
theorem d_Ta_take_39 : decode b_Ta_take 39 = .ok (.aload_n 1, 1) := by decide +kernel
theorem d_Ta_take_40 : decode b_Ta_take 40 = .ok (.iconst 2, 1) := by decide +kernel
theorem d_Ta_take_41 : decode b_Ta_take 41 = .ok (.laload, 1) := by decide +kernel
theorem d_Ta_take_42 : decode b_Ta_take 42 = .ok (.invokevirtual 72, 3) := by decide +kernel
theorem d_Ta_take_45 : decode b_Ta_take 45 = .ok (.goto 11, 3) := by decide +kernel
theorem d_Ta_take_48 : decode b_Ta_take 48 = .ok (.aload_n 0, 1) := by decide +kernel
theorem d_Ta_take_49 : decode b_Ta_take 49 = .ok (.iload_n 2, 1) := by decide +kernel
theorem d_Ta_take_50 : decode b_Ta_take 50 = .ok (.aload_n 1, 1) := by decide +kernel
theorem d_Ta_take_51 : decode b_Ta_take 51 = .ok (.iconst 2, 1) := by decide +kernel
theorem d_Ta_take_52 : decode b_Ta_take 52 = .ok (.laload, 1) := by decide +kernel
theorem d_Ta_take_53 : decode b_Ta_take 53 = .ok (.invokevirtual 76, 3) := by decide +kernel
theorem d_Ta_take_56 : decode b_Ta_take 56 = .ok (.return_, 1) := by decide +kernel
set_option maxHeartbeats 8000000 in
set_option maxRecDepth 100000 in
theorem c_Ta_take_1 (l : Launch) (dC : Nat → ClassId) (dI : Nat → Nat → Nat) (cJ cI : ClassId) (sz : Nat) (t0 ka aa ba sa : Nat) (ko ao bo so : Nat → Nat) (tn kc bc shc kp shp pa pb : Nat) (sht : Int32) (g0 mF mE P f1 k1 Q f2 k2 G : Nat) (ra : Nat) (rw : Nat → Int64) (I Y : Nat) (hok : gp_ok P f1 k1 Q f2 k2 G) (htn : tn ≤ 4) (hI : I < tn) (hY : Y < P) (hp9 : kp < P) (hr0 : rw 0 = lN 1) (hr1 : rw 1 = lN I) (hr2 : rw 2 = lN Y) : Met l y_Ta_take w_Ta_take ({ frames := 4, cells := 0, slots := 0, locals := 107 }) (va_Pc [.ref t0, .ref ra] (fun U => U.heap.size = sz ∧ va_P (dC, dI) classes ((tl_ws t0 ka aa ba sa (.ref g0) cJ ko ao bo so tn kc bc shc kp shp pa pb sht ++ gp_ws g0 mF mE P f1 k1 Q f2 k2 G) ++ [(ra, .inl (cJ, 8, .inr (.inl rw)))]) U.heap ∧ va_K (dC, dI) classes [(cJ, .long), (cI, .int)] U ∧ va_D (fun _ => True) ((tl_ws t0 ka aa ba sa (.ref g0) cJ ko ao bo so tn kc bc shc kp shp pa pb sht ++ gp_ws g0 mF mE P f1 k1 Q f2 k2 G) ++ [(ra, .inl (cJ, 8, .inr (.inl rw)))]))) (va_Qv (fun _ : Unit => True) (fun _ t => va_P (dC, dI) classes ((tl_ws t0 ka aa ba sa (.ref g0) cJ (updN ko I Y) ao bo so tn (kc + 1) bc shc (kp * Y % P) shp pa pb sht ++ gp_ws g0 mF mE P f1 k1 Q f2 k2 G) ++ [(ra, .inl (cJ, 8, .inr (.inl rw)))]) t.heap ∧ va_K (dC, dI) classes [(cJ, .long), (cI, .int)] t ∧ va_D (va_A ((tl_ws t0 ka aa ba sa (.ref g0) cJ ko ao bo so tn kc bc shc kp shp pa pb sht ++ gp_ws g0 mF mE P f1 k1 Q f2 k2 G) ++ [(ra, .inl (cJ, 8, .inr (.inl rw)))]) sz) ((tl_ws t0 ka aa ba sa (.ref g0) cJ (updN ko I Y) ao bo so tn (kc + 1) bc shc (kp * Y % P) shp pa pb sht ++ gp_ws g0 mF mE P f1 k1 Q f2 k2 G) ++ [(ra, .inl (cJ, 8, .inr (.inl rw)))])) (va_A ((tl_ws t0 ka aa ba sa (.ref g0) cJ ko ao bo so tn kc bc shc kp shp pa pb sht ++ gp_ws g0 mF mE P f1 k1 Q f2 k2 G) ++ [(ra, .inl (cJ, 8, .inr (.inl rw)))]) sz)) 0 0 (va_A ((tl_ws t0 ka aa ba sa (.ref g0) cJ ko ao bo so tn kc bc shc kp shp pa pb sht ++ gp_ws g0 mF mE P f1 k1 Q f2 k2 G) ++ [(ra, .inl (cJ, 8, .inr (.inl rw)))]) sz) := by
  refine Met.ofW (cc := b_Ta_take) (maxL := 3) (ret := none) (by decide) rfl ?_
  intro p e s m args below meth c s₁ Bd hml hv
  obtain ⟨rfl, hsz, hP, hK, hD0⟩ := hv
  have hx := Bd.exec
  have hb := Bd.bytes
  have hr := Bd.returns
  have hts := atoms_spec (ws := w_Ta_take) Bd.pre
  have hown : s.vm.findClass "BallotBoard$Tally" = some m.cls := findClass_of_methodNamed Bd.named
  have hlocks := Bd.notSynchronized
  subst hsz
  have hD := hD0.self (sz := s.heap.size)
  generalize hAe : va_A ((tl_ws t0 ka aa ba sa (.ref g0) cJ ko ao bo so tn kc bc shc kp shp pa pb sht ++ gp_ws g0 mF mE P f1 k1 Q f2 k2 G) ++ [(ra, .inl (cJ, 8, .inr (.inl rw)))]) s.heap.size = A at hD ⊢
  have hA : ∀ q : Nat, s.heap.size ≤ q → A q := fun q h => by rw [← hAe]; exact Or.inr h
  have hS : va_S A s.heap s.heap [] := va_S.rf
  have hl := lv_entry ([.ref t0, .ref ra]) (n := 3) (Nat.le_of_ble_eq_true rfl)
  rw [lg_entry_eq]
  generalize (lg_sl ([.ref t0, .ref ra]) ++ List.replicate (3 - (lg_sl ([.ref t0, .ref ra])).length) Slot.unset).toArray = ls at hl ⊢
  have hl : lv_has ls 3 [(0, .ref t0), (1, .ref ra)] := hl
  obtain ⟨hokF, hokE, hPQ, hG2, hGP, hGQ⟩ := id hok
  obtain ⟨hoF, h3F, h61F, _, _, hk61F, hNkF⟩ := id hokF
  obtain ⟨hoE, h3E, h61E, _, _, hk61E, hNkE⟩ := id hokE
  refine lv_aload_n hx hb d_Ta_take_0 rfl (lv_at hl 1 rfl) ?_
  refine lv_iconst (v := 1) hx hb d_Ta_take_1 (by decide) ?_
  refine va_lald hx hb hK hP 8 0 rfl rfl (vp_lit rfl) d_Ta_take_2 ?_
  rw [show (rw (1 : Int32).toNatClampNeg : Int64) = rw 1 from rfl]
  rw [show (rw 1 : Int64) = (lN I) from hr1]
  refine lv_l2i (v := (lN I : Int64).toInt32) hx hb d_Ta_take_3 rfl ?_
  rw [show ((lN I : Int64).toInt32 : Int32) = (nI I) from lN_toI (by omega)]
  refine lv_istore_n (lv' := [(2, .int (nI I)), (0, .ref t0), (1, .ref ra)]) hx hb d_Ta_take_4 rfl hl (by decide) rfl (fun ls hl => ?_)
  refine lv_aload_n hx hb d_Ta_take_5 rfl (lv_at hl 2 rfl) ?_
  refine lv_iconst (v := 0) hx hb d_Ta_take_6 (by decide) ?_
  refine va_lald hx hb hK hP 8 0 rfl rfl (vp_lit rfl) d_Ta_take_7 ?_
  rw [show (rw (0 : Int32).toNatClampNeg : Int64) = rw 0 from rfl]
  rw [show (rw 0 : Int64) = (lN 1) from hr0]
  refine lv_ldc2 (v := 2) hx hb hown (hts _ (List.mem_cons_of_mem _ gk_565)) d_Ta_take_8 ?_
  refine W.lcmp hx hb d_Ta_take_11 ?_
  refine lv_if_ne (tgt := 29) hx hb d_Ta_take_12 (by decide) (fun c_1 => ?_) (fun c_1 => ?_)
  · -- taken
    refine lv_aload_n hx hb d_Ta_take_29 rfl (lv_at hl 2 rfl) ?_
    refine lv_iconst (v := 0) hx hb d_Ta_take_30 (by decide) ?_
    refine va_lald hx hb hK hP 8 0 rfl rfl (vp_lit rfl) d_Ta_take_31 ?_
    rw [show (rw (0 : Int32).toNatClampNeg : Int64) = rw 0 from rfl]
    rw [show (rw 0 : Int64) = (lN 1) from hr0]
    refine lv_lconst (v := 1) hx hb d_Ta_take_32 (by decide) ?_
    refine W.lcmp hx hb d_Ta_take_33 ?_
    refine lv_if_ne (tgt := 48) hx hb d_Ta_take_34 (by decide) (fun c_2 => ?_) (fun c_2 => ?_)
    · -- taken
      exact absurd ((cmpe (k := 1) (by omega) 1 (by omega) rfl).mpr rfl) c_2
    · -- not taken
      refine lv_aload_n hx hb d_Ta_take_37 rfl (lv_at hl 1 rfl) ?_
      refine lv_iload_n hx hb d_Ta_take_38 rfl (lv_at hl 0 rfl) ?_
      refine lv_aload_n hx hb d_Ta_take_39 rfl (lv_at hl 2 rfl) ?_
      refine lv_iconst (v := 2) hx hb d_Ta_take_40 (by decide) ?_
      refine va_lald hx hb hK hP 8 0 rfl rfl (vp_lit rfl) d_Ta_take_41 ?_
      rw [show (rw (2 : Int32).toNatClampNeg : Int64) = rw 2 from rfl]
      rw [show (rw 2 : Int64) = (lN Y) from hr2]
      have hPc := hP.sub (ws' := ((tl_ws t0 ka aa ba sa (.ref g0) cJ ko ao bo so tn kc bc shc kp shp pa pb sht) ++ gp_ws g0 mF mE P f1 k1 Q f2 k2 G)) [0, 1, 2, 3, 4, 5, 6, 7] rfl
      have hDc := hD.sub (ws' := ((tl_ws t0 ka aa ba sa (.ref g0) cJ ko ao bo so tn kc bc shc kp shp pa pb sht) ++ gp_ws g0 mF mE P f1 k1 Q f2 k2 G)) [0, 1, 2, 3, 4, 5, 6, 7] (by decide) rfl
      have hKc := hK.sub (tys' := [(cJ, .long), (cI, .int)]) [0, 1] rfl
      have hFc := va_free (wc := ((tl_ws t0 ka aa ba sa (.ref g0) cJ ko ao bo so tn kc bc shc kp shp pa pb sht) ++ gp_ws g0 mF mE P f1 k1 Q f2 k2 G)) hD hS hA [0, 1, 2, 3, 4, 5, 6, 7] rfl
      refine va_callv (va_runV (As := [.int (nI I), .long (lN Y)]) (rest := []) ⟨hx, hb, hml, hown, hts⟩ (c_Ta_takeKey l dC dI cJ cI s.heap.size t0 ka aa ba sa ko ao bo so tn kc bc shc kp shp pa pb sht g0 mF mE P f1 k1 Q f2 k2 G I Y hok (by omega) (by omega) (by omega) (by omega)) (cwV 2 hts (gw_V gk_570 gk_572 gp_18 gk_5 gk_573) rfl rfl rfl (by decide +kernel) ⟨Nat.le_of_ble_eq_true rfl, Nat.le_of_ble_eq_true rfl⟩) ⟨fun a U g mk q => by obtain ⟨q0, q1, qP, qK, qD⟩ := q; exact ⟨q0, q1, qP, va_K.moved (u := U) (U := U.calling g mk a) (Vm.Alike.refl U.vm) qK, qD⟩, va_recv hK hP (ci := 4) (q0 := 0) rfl rfl, fun U hU hW => ⟨rfl, by rw [hU], by rw [hU]; exact hPc, va_K.moved hW.alike hKc, hDc.weaken (fun _ _ _ _ => trivial)⟩⟩ rfl rfl hl.1 rfl (lv_room (Nat.le_of_ble_eq_true rfl)) d_Ta_take_42 ⟨Nat.le_of_ble_eq_true rfl, Nat.le_of_ble_eq_true rfl⟩) hS (fun q _ h => hFc q h) hFc (fun u9 t9 H1 locs ht hvm hw hB hz1 hk1 hS => ?_)
      obtain ⟨hP1, hK1, hD1⟩ := hB
      rw [ht] at hP1
      obtain ⟨hP, hD⟩ := va_join (wr := [(ra, .inl (cJ, 8, .inr (.inl rw)))]) (w1 := [(t0, .inr (4, [.ref ka, .ref aa, .ref ba, .ref sa, .ref g0, .int (nI tn), .int (nI (kc + 1)), .int (nI bc), .int (nI shc), .long (lN (kp * Y % P)), .long (lN shp), .long (lN pa), .long (lN pb), .int sht])), (ka, .inl (cJ, 4, .inr (.inl (lF (updN ko I Y))))), (aa, .inl (cJ, 64, .inr (.inl (lF ao)))), (ba, .inl (cJ, 64, .inr (.inl (lF bo)))), (sa, .inl (cJ, 4, .inr (.inl (lF so)))), (g0, .inr (1, [.ref mF, .ref mE, .long (lN G), .long (lN (G ^ (Q - 1) % P))])), (mF, .inr (0, [.long (lN P), .long (lN (P % 2 ^ 31)), .long (lN (P / 2 ^ 31)), .long (lN f1), .long (lN (2 ^ 62 % P)), .long (lN (2 ^ 124 % P)), .int (nI k1)])), (mE, .inr (0, [.long (lN Q), .long (lN (Q % 2 ^ 31)), .long (lN (Q / 2 ^ 31)), .long (lN f2), .long (lN (2 ^ 62 % Q)), .long (lN (2 ^ 124 % Q)), .int (nI k2)]))]) hP hD [0, 1, 2, 3, 4, 5, 6, 7] [8] rfl rfl (by decide) (by decide) hk1 hFc hP1 hD1
      have hP := hP.sub (ws' := [(t0, .inr (4, [.ref ka, .ref aa, .ref ba, .ref sa, .ref g0, .int (nI tn), .int (nI (kc + 1)), .int (nI bc), .int (nI shc), .long (lN (kp * Y % P)), .long (lN shp), .long (lN pa), .long (lN pb), .int sht])), (ka, .inl (cJ, 4, .inr (.inl (lF (updN ko I Y))))), (aa, .inl (cJ, 64, .inr (.inl (lF ao)))), (ba, .inl (cJ, 64, .inr (.inl (lF bo)))), (sa, .inl (cJ, 4, .inr (.inl (lF so)))), (g0, .inr (1, [.ref mF, .ref mE, .long (lN G), .long (lN (G ^ (Q - 1) % P))])), (mF, .inr (0, [.long (lN P), .long (lN (P % 2 ^ 31)), .long (lN (P / 2 ^ 31)), .long (lN f1), .long (lN (2 ^ 62 % P)), .long (lN (2 ^ 124 % P)), .int (nI k1)])), (mE, .inr (0, [.long (lN Q), .long (lN (Q % 2 ^ 31)), .long (lN (Q / 2 ^ 31)), .long (lN f2), .long (lN (2 ^ 62 % Q)), .long (lN (2 ^ 124 % Q)), .int (nI k2)])), (ra, .inl (cJ, 8, .inr (.inl rw)))]) [1, 2, 3, 4, 5, 6, 7, 8, 0] rfl
      have hD := hD.sub (ws' := [(t0, .inr (4, [.ref ka, .ref aa, .ref ba, .ref sa, .ref g0, .int (nI tn), .int (nI (kc + 1)), .int (nI bc), .int (nI shc), .long (lN (kp * Y % P)), .long (lN shp), .long (lN pa), .long (lN pb), .int sht])), (ka, .inl (cJ, 4, .inr (.inl (lF (updN ko I Y))))), (aa, .inl (cJ, 64, .inr (.inl (lF ao)))), (ba, .inl (cJ, 64, .inr (.inl (lF bo)))), (sa, .inl (cJ, 4, .inr (.inl (lF so)))), (g0, .inr (1, [.ref mF, .ref mE, .long (lN G), .long (lN (G ^ (Q - 1) % P))])), (mF, .inr (0, [.long (lN P), .long (lN (P % 2 ^ 31)), .long (lN (P / 2 ^ 31)), .long (lN f1), .long (lN (2 ^ 62 % P)), .long (lN (2 ^ 124 % P)), .int (nI k1)])), (mE, .inr (0, [.long (lN Q), .long (lN (Q % 2 ^ 31)), .long (lN (Q / 2 ^ 31)), .long (lN f2), .long (lN (2 ^ 62 % Q)), .long (lN (2 ^ 124 % Q)), .int (nI k2)])), (ra, .inl (cJ, 8, .inr (.inl rw)))]) [1, 2, 3, 4, 5, 6, 7, 8, 0] (by decide) rfl
      generalize H1 = H at hP hS ⊢
      refine lv_goto (tgt := 56) hx hb d_Ta_take_45 (by decide) ?_
      exact W.vret hx hb hr (fun t ht9 hW => ⟨⟨(), rfl, trivial, by rw [ht9]; exact hP, va_K.moved hW.alike hK, hD⟩, hS.F ht9⟩) hS.2.2 d_Ta_take_56
  · -- not taken
    exact absurd ((cmpe (k := 1) (by omega) 2 (by omega) rfl).mp c_1) (by omega)
set_option maxHeartbeats 8000000 in
set_option maxRecDepth 100000 in
theorem c_Ta_take_2 (l : Launch) (dC : Nat → ClassId) (dI : Nat → Nat → Nat) (cJ cI : ClassId) (sz : Nat) (t0 ka aa ba sa : Nat) (gv : Value) (ko ao bo so : Nat → Nat) (tn kc bc shc kp shp pa pb : Nat) (sht : Int32) (ra : Nat) (rw : Nat → Int64) (I A1 B1 : Nat) (hI : I < 64) (hao61 : ∀ j, ao j < 2 ^ 61) (hr0 : rw 0 = lN 2) (hr1 : rw 1 = lN I) (hr2 : rw 2 = lN A1) (hr3 : rw 3 = lN B1) : Met l y_Ta_take w_Ta_take ({ frames := 4, cells := 0, slots := 0, locals := 107 }) (va_Pc [.ref t0, .ref ra] (fun U => U.heap.size = sz ∧ va_P (dC, dI) classes ((tl_ws t0 ka aa ba sa gv cJ ko ao bo so tn kc bc shc kp shp pa pb sht) ++ [(ra, .inl (cJ, 8, .inr (.inl rw)))]) U.heap ∧ va_K (dC, dI) classes [(cJ, .long), (cI, .int)] U ∧ va_D (fun _ => True) ((tl_ws t0 ka aa ba sa gv cJ ko ao bo so tn kc bc shc kp shp pa pb sht) ++ [(ra, .inl (cJ, 8, .inr (.inl rw)))]))) (va_Qv (fun _ : Unit => True) (fun _ t => va_P (dC, dI) classes ((tl_ws t0 ka aa ba sa gv cJ ko (updN ao I A1) (updN bo I B1) so tn kc (if ao I = 0 then bc + 1 else bc) shc kp shp pa pb sht) ++ [(ra, .inl (cJ, 8, .inr (.inl rw)))]) t.heap ∧ va_K (dC, dI) classes [(cJ, .long), (cI, .int)] t ∧ va_D (va_A ((tl_ws t0 ka aa ba sa gv cJ ko ao bo so tn kc bc shc kp shp pa pb sht) ++ [(ra, .inl (cJ, 8, .inr (.inl rw)))]) sz) ((tl_ws t0 ka aa ba sa gv cJ ko (updN ao I A1) (updN bo I B1) so tn kc (if ao I = 0 then bc + 1 else bc) shc kp shp pa pb sht) ++ [(ra, .inl (cJ, 8, .inr (.inl rw)))])) (va_A ((tl_ws t0 ka aa ba sa gv cJ ko ao bo so tn kc bc shc kp shp pa pb sht) ++ [(ra, .inl (cJ, 8, .inr (.inl rw)))]) sz)) 0 0 (va_A ((tl_ws t0 ka aa ba sa gv cJ ko ao bo so tn kc bc shc kp shp pa pb sht) ++ [(ra, .inl (cJ, 8, .inr (.inl rw)))]) sz) := by
  refine Met.ofW (cc := b_Ta_take) (maxL := 3) (ret := none) (by decide) rfl ?_
  intro p e s m args below meth c s₁ Bd hml hv
  obtain ⟨rfl, hsz, hP, hK, hD0⟩ := hv
  have hx := Bd.exec
  have hb := Bd.bytes
  have hr := Bd.returns
  have hts := atoms_spec (ws := w_Ta_take) Bd.pre
  have hown : s.vm.findClass "BallotBoard$Tally" = some m.cls := findClass_of_methodNamed Bd.named
  have hlocks := Bd.notSynchronized
  subst hsz
  have hD := hD0.self (sz := s.heap.size)
  generalize hAe : va_A ((tl_ws t0 ka aa ba sa gv cJ ko ao bo so tn kc bc shc kp shp pa pb sht) ++ [(ra, .inl (cJ, 8, .inr (.inl rw)))]) s.heap.size = A at hD ⊢
  have hA : ∀ q : Nat, s.heap.size ≤ q → A q := fun q h => by rw [← hAe]; exact Or.inr h
  have hS : va_S A s.heap s.heap [] := va_S.rf
  have hl := lv_entry ([.ref t0, .ref ra]) (n := 3) (Nat.le_of_ble_eq_true rfl)
  rw [lg_entry_eq]
  generalize (lg_sl ([.ref t0, .ref ra]) ++ List.replicate (3 - (lg_sl ([.ref t0, .ref ra])).length) Slot.unset).toArray = ls at hl ⊢
  have hl : lv_has ls 3 [(0, .ref t0), (1, .ref ra)] := hl
  refine lv_aload_n hx hb d_Ta_take_0 rfl (lv_at hl 1 rfl) ?_
  refine lv_iconst (v := 1) hx hb d_Ta_take_1 (by decide) ?_
  refine va_lald hx hb hK hP 5 0 rfl rfl (vp_lit rfl) d_Ta_take_2 ?_
  rw [show (rw (1 : Int32).toNatClampNeg : Int64) = rw 1 from rfl]
  rw [show (rw 1 : Int64) = (lN I) from hr1]
  refine lv_l2i (v := (lN I : Int64).toInt32) hx hb d_Ta_take_3 rfl ?_
  rw [show ((lN I : Int64).toInt32 : Int32) = (nI I) from lN_toI (by omega)]
  refine lv_istore_n (lv' := [(2, .int (nI I)), (0, .ref t0), (1, .ref ra)]) hx hb d_Ta_take_4 rfl hl (by decide) rfl (fun ls hl => ?_)
  refine lv_aload_n hx hb d_Ta_take_5 rfl (lv_at hl 2 rfl) ?_
  refine lv_iconst (v := 0) hx hb d_Ta_take_6 (by decide) ?_
  refine va_lald hx hb hK hP 5 0 rfl rfl (vp_lit rfl) d_Ta_take_7 ?_
  rw [show (rw (0 : Int32).toNatClampNeg : Int64) = rw 0 from rfl]
  rw [show (rw 0 : Int64) = (lN 2) from hr0]
  refine lv_ldc2 (v := 2) hx hb hown (hts _ (List.mem_cons_of_mem _ gk_565)) d_Ta_take_8 ?_
  refine W.lcmp hx hb d_Ta_take_11 ?_
  refine lv_if_ne (tgt := 29) hx hb d_Ta_take_12 (by decide) (fun c_1 => ?_) (fun c_1 => ?_)
  · -- taken
    exact absurd ((cmpe (k := 2) (by omega) 2 (by omega) rfl).mpr rfl) c_1
  · -- not taken
    refine lv_aload_n hx hb d_Ta_take_15 rfl (lv_at hl 1 rfl) ?_
    refine lv_iload_n hx hb d_Ta_take_16 rfl (lv_at hl 0 rfl) ?_
    refine lv_aload_n hx hb d_Ta_take_17 rfl (lv_at hl 2 rfl) ?_
    refine lv_iconst (v := 2) hx hb d_Ta_take_18 (by decide) ?_
    refine va_lald hx hb hK hP 5 0 rfl rfl (vp_lit rfl) d_Ta_take_19 ?_
    rw [show (rw (2 : Int32).toNatClampNeg : Int64) = rw 2 from rfl]
    rw [show (rw 2 : Int64) = (lN A1) from hr2]
    refine lv_aload_n hx hb d_Ta_take_20 rfl (lv_at hl 2 rfl) ?_
    refine lv_iconst (v := 3) hx hb d_Ta_take_21 (by decide) ?_
    refine va_lald hx hb hK hP 5 0 rfl rfl (vp_lit rfl) d_Ta_take_22 ?_
    rw [show (rw (3 : Int32).toNatClampNeg : Int64) = rw 3 from rfl]
    rw [show (rw 3 : Int64) = (lN B1) from hr3]
    have hPc := hP.sub (ws' := (tl_ws t0 ka aa ba sa gv cJ ko ao bo so tn kc bc shc kp shp pa pb sht)) [0, 1, 2, 3, 4] rfl
    have hDc := hD.sub (ws' := (tl_ws t0 ka aa ba sa gv cJ ko ao bo so tn kc bc shc kp shp pa pb sht)) [0, 1, 2, 3, 4] (by decide) rfl
    have hKc := hK.sub (tys' := [(cJ, .long), (cI, .int)]) [0, 1] rfl
    have hFc := va_free (wc := (tl_ws t0 ka aa ba sa gv cJ ko ao bo so tn kc bc shc kp shp pa pb sht)) hD hS hA [0, 1, 2, 3, 4] rfl
    refine va_callv (va_runV (As := [.int (nI I), .long (lN A1), .long (lN B1)]) (rest := []) ⟨hx, hb, hml, hown, hts⟩ (c_Ta_takeBallot l dC dI cJ cI s.heap.size t0 ka aa ba sa gv ko ao bo so tn kc bc shc kp shp pa pb sht I A1 B1 (by omega) hao61) (cwV 3 hts (gw_V gk_566 gk_568 gp_17 gk_5 gk_569) rfl rfl rfl (by decide +kernel) ⟨Nat.le_of_ble_eq_true rfl, Nat.le_of_ble_eq_true rfl⟩) ⟨fun a U g mk q => by obtain ⟨q0, q1, qP, qK, qD⟩ := q; exact ⟨q0, q1, qP, va_K.moved (u := U) (U := U.calling g mk a) (Vm.Alike.refl U.vm) qK, qD⟩, va_recv hK hP (ci := 4) (q0 := 0) rfl rfl, fun U hU hW => ⟨rfl, by rw [hU], by rw [hU]; exact hPc, va_K.moved hW.alike hKc, hDc.weaken (fun _ _ _ _ => trivial)⟩⟩ rfl rfl hl.1 rfl (lv_room (Nat.le_of_ble_eq_true rfl)) d_Ta_take_23 ⟨Nat.le_of_ble_eq_true rfl, Nat.le_of_ble_eq_true rfl⟩) hS (fun q _ h => hFc q h) hFc (fun u9 t9 H1 locs ht hvm hw hB hz1 hk1 hS => ?_)
    obtain ⟨hP1, hK1, hD1⟩ := hB
    rw [ht] at hP1
    obtain ⟨hP, hD⟩ := va_join (wr := [(ra, .inl (cJ, 8, .inr (.inl rw)))]) (w1 := [(t0, .inr (4, [.ref ka, .ref aa, .ref ba, .ref sa, gv, .int (nI tn), .int (nI kc), .int (nI (if ao I = 0 then bc + 1 else bc)), .int (nI shc), .long (lN kp), .long (lN shp), .long (lN pa), .long (lN pb), .int sht])), (ka, .inl (cJ, 4, .inr (.inl (lF ko)))), (aa, .inl (cJ, 64, .inr (.inl (lF (updN ao I A1))))), (ba, .inl (cJ, 64, .inr (.inl (lF (updN bo I B1))))), (sa, .inl (cJ, 4, .inr (.inl (lF so))))]) hP hD [0, 1, 2, 3, 4] [5] rfl rfl (by decide) (by decide) hk1 hFc hP1 hD1
    have hP := hP.sub (ws' := [(t0, .inr (4, [.ref ka, .ref aa, .ref ba, .ref sa, gv, .int (nI tn), .int (nI kc), .int (nI (if ao I = 0 then bc + 1 else bc)), .int (nI shc), .long (lN kp), .long (lN shp), .long (lN pa), .long (lN pb), .int sht])), (ka, .inl (cJ, 4, .inr (.inl (lF ko)))), (aa, .inl (cJ, 64, .inr (.inl (lF (updN ao I A1))))), (ba, .inl (cJ, 64, .inr (.inl (lF (updN bo I B1))))), (sa, .inl (cJ, 4, .inr (.inl (lF so)))), (ra, .inl (cJ, 8, .inr (.inl rw)))]) [1, 2, 3, 4, 5, 0] rfl
    have hD := hD.sub (ws' := [(t0, .inr (4, [.ref ka, .ref aa, .ref ba, .ref sa, gv, .int (nI tn), .int (nI kc), .int (nI (if ao I = 0 then bc + 1 else bc)), .int (nI shc), .long (lN kp), .long (lN shp), .long (lN pa), .long (lN pb), .int sht])), (ka, .inl (cJ, 4, .inr (.inl (lF ko)))), (aa, .inl (cJ, 64, .inr (.inl (lF (updN ao I A1))))), (ba, .inl (cJ, 64, .inr (.inl (lF (updN bo I B1))))), (sa, .inl (cJ, 4, .inr (.inl (lF so)))), (ra, .inl (cJ, 8, .inr (.inl rw)))]) [1, 2, 3, 4, 5, 0] (by decide) rfl
    generalize H1 = H at hP hS ⊢
    refine lv_goto (tgt := 56) hx hb d_Ta_take_26 (by decide) ?_
    exact W.vret hx hb hr (fun t ht9 hW => ⟨⟨(), rfl, trivial, by rw [ht9]; exact hP, va_K.moved hW.alike hK, hD⟩, hS.F ht9⟩) hS.2.2 d_Ta_take_56
set_option maxHeartbeats 8000000 in
set_option maxRecDepth 100000 in
theorem c_Ta_take_3 (l : Launch) (dC : Nat → ClassId) (dI : Nat → Nat → Nat) (cJ cI : ClassId) (sz : Nat) (t0 ka aa ba sa : Nat) (ko ao bo so : Nat → Nat) (tn kc bc shc kp shp pa pb : Nat) (sht : Int32) (g0 mF mE P f1 k1 Q f2 k2 G : Nat) (ra : Nat) (rw : Nat → Int64) (I Y : Nat) (hok : gp_ok P f1 k1 Q f2 k2 G) (htn : tn ≤ 4) (hI : I < tn) (hY : Y < P) (hp9 : shp < P) (hr0 : rw 0 = lN 3) (hr1 : rw 1 = lN I) (hr2 : rw 2 = lN Y) : Met l y_Ta_take w_Ta_take ({ frames := 4, cells := 0, slots := 0, locals := 107 }) (va_Pc [.ref t0, .ref ra] (fun U => U.heap.size = sz ∧ va_P (dC, dI) classes ((tl_ws t0 ka aa ba sa (.ref g0) cJ ko ao bo so tn kc bc shc kp shp pa pb sht ++ gp_ws g0 mF mE P f1 k1 Q f2 k2 G) ++ [(ra, .inl (cJ, 8, .inr (.inl rw)))]) U.heap ∧ va_K (dC, dI) classes [(cJ, .long), (cI, .int)] U ∧ va_D (fun _ => True) ((tl_ws t0 ka aa ba sa (.ref g0) cJ ko ao bo so tn kc bc shc kp shp pa pb sht ++ gp_ws g0 mF mE P f1 k1 Q f2 k2 G) ++ [(ra, .inl (cJ, 8, .inr (.inl rw)))]))) (va_Qv (fun _ : Unit => True) (fun _ t => va_P (dC, dI) classes ((tl_ws t0 ka aa ba sa (.ref g0) cJ ko ao bo (updN so I Y) tn kc bc (shc + 1) kp (shp * Y % P) pa pb sht ++ gp_ws g0 mF mE P f1 k1 Q f2 k2 G) ++ [(ra, .inl (cJ, 8, .inr (.inl rw)))]) t.heap ∧ va_K (dC, dI) classes [(cJ, .long), (cI, .int)] t ∧ va_D (va_A ((tl_ws t0 ka aa ba sa (.ref g0) cJ ko ao bo so tn kc bc shc kp shp pa pb sht ++ gp_ws g0 mF mE P f1 k1 Q f2 k2 G) ++ [(ra, .inl (cJ, 8, .inr (.inl rw)))]) sz) ((tl_ws t0 ka aa ba sa (.ref g0) cJ ko ao bo (updN so I Y) tn kc bc (shc + 1) kp (shp * Y % P) pa pb sht ++ gp_ws g0 mF mE P f1 k1 Q f2 k2 G) ++ [(ra, .inl (cJ, 8, .inr (.inl rw)))])) (va_A ((tl_ws t0 ka aa ba sa (.ref g0) cJ ko ao bo so tn kc bc shc kp shp pa pb sht ++ gp_ws g0 mF mE P f1 k1 Q f2 k2 G) ++ [(ra, .inl (cJ, 8, .inr (.inl rw)))]) sz)) 0 0 (va_A ((tl_ws t0 ka aa ba sa (.ref g0) cJ ko ao bo so tn kc bc shc kp shp pa pb sht ++ gp_ws g0 mF mE P f1 k1 Q f2 k2 G) ++ [(ra, .inl (cJ, 8, .inr (.inl rw)))]) sz) := by
  refine Met.ofW (cc := b_Ta_take) (maxL := 3) (ret := none) (by decide) rfl ?_
  intro p e s m args below meth c s₁ Bd hml hv
  obtain ⟨rfl, hsz, hP, hK, hD0⟩ := hv
  have hx := Bd.exec
  have hb := Bd.bytes
  have hr := Bd.returns
  have hts := atoms_spec (ws := w_Ta_take) Bd.pre
  have hown : s.vm.findClass "BallotBoard$Tally" = some m.cls := findClass_of_methodNamed Bd.named
  have hlocks := Bd.notSynchronized
  subst hsz
  have hD := hD0.self (sz := s.heap.size)
  generalize hAe : va_A ((tl_ws t0 ka aa ba sa (.ref g0) cJ ko ao bo so tn kc bc shc kp shp pa pb sht ++ gp_ws g0 mF mE P f1 k1 Q f2 k2 G) ++ [(ra, .inl (cJ, 8, .inr (.inl rw)))]) s.heap.size = A at hD ⊢
  have hA : ∀ q : Nat, s.heap.size ≤ q → A q := fun q h => by rw [← hAe]; exact Or.inr h
  have hS : va_S A s.heap s.heap [] := va_S.rf
  have hl := lv_entry ([.ref t0, .ref ra]) (n := 3) (Nat.le_of_ble_eq_true rfl)
  rw [lg_entry_eq]
  generalize (lg_sl ([.ref t0, .ref ra]) ++ List.replicate (3 - (lg_sl ([.ref t0, .ref ra])).length) Slot.unset).toArray = ls at hl ⊢
  have hl : lv_has ls 3 [(0, .ref t0), (1, .ref ra)] := hl
  obtain ⟨hokF, hokE, hPQ, hG2, hGP, hGQ⟩ := id hok
  obtain ⟨hoF, h3F, h61F, _, _, hk61F, hNkF⟩ := id hokF
  obtain ⟨hoE, h3E, h61E, _, _, hk61E, hNkE⟩ := id hokE
  refine lv_aload_n hx hb d_Ta_take_0 rfl (lv_at hl 1 rfl) ?_
  refine lv_iconst (v := 1) hx hb d_Ta_take_1 (by decide) ?_
  refine va_lald hx hb hK hP 8 0 rfl rfl (vp_lit rfl) d_Ta_take_2 ?_
  rw [show (rw (1 : Int32).toNatClampNeg : Int64) = rw 1 from rfl]
  rw [show (rw 1 : Int64) = (lN I) from hr1]
  refine lv_l2i (v := (lN I : Int64).toInt32) hx hb d_Ta_take_3 rfl ?_
  rw [show ((lN I : Int64).toInt32 : Int32) = (nI I) from lN_toI (by omega)]
  refine lv_istore_n (lv' := [(2, .int (nI I)), (0, .ref t0), (1, .ref ra)]) hx hb d_Ta_take_4 rfl hl (by decide) rfl (fun ls hl => ?_)
  refine lv_aload_n hx hb d_Ta_take_5 rfl (lv_at hl 2 rfl) ?_
  refine lv_iconst (v := 0) hx hb d_Ta_take_6 (by decide) ?_
  refine va_lald hx hb hK hP 8 0 rfl rfl (vp_lit rfl) d_Ta_take_7 ?_
  rw [show (rw (0 : Int32).toNatClampNeg : Int64) = rw 0 from rfl]
  rw [show (rw 0 : Int64) = (lN 3) from hr0]
  refine lv_ldc2 (v := 2) hx hb hown (hts _ (List.mem_cons_of_mem _ gk_565)) d_Ta_take_8 ?_
  refine W.lcmp hx hb d_Ta_take_11 ?_
  refine lv_if_ne (tgt := 29) hx hb d_Ta_take_12 (by decide) (fun c_1 => ?_) (fun c_1 => ?_)
  · -- taken
    refine lv_aload_n hx hb d_Ta_take_29 rfl (lv_at hl 2 rfl) ?_
    refine lv_iconst (v := 0) hx hb d_Ta_take_30 (by decide) ?_
    refine va_lald hx hb hK hP 8 0 rfl rfl (vp_lit rfl) d_Ta_take_31 ?_
    rw [show (rw (0 : Int32).toNatClampNeg : Int64) = rw 0 from rfl]
    rw [show (rw 0 : Int64) = (lN 3) from hr0]
    refine lv_lconst (v := 1) hx hb d_Ta_take_32 (by decide) ?_
    refine W.lcmp hx hb d_Ta_take_33 ?_
    refine lv_if_ne (tgt := 48) hx hb d_Ta_take_34 (by decide) (fun c_2 => ?_) (fun c_2 => ?_)
    · -- taken
      refine lv_aload_n hx hb d_Ta_take_48 rfl (lv_at hl 1 rfl) ?_
      refine lv_iload_n hx hb d_Ta_take_49 rfl (lv_at hl 0 rfl) ?_
      refine lv_aload_n hx hb d_Ta_take_50 rfl (lv_at hl 2 rfl) ?_
      refine lv_iconst (v := 2) hx hb d_Ta_take_51 (by decide) ?_
      refine va_lald hx hb hK hP 8 0 rfl rfl (vp_lit rfl) d_Ta_take_52 ?_
      rw [show (rw (2 : Int32).toNatClampNeg : Int64) = rw 2 from rfl]
      rw [show (rw 2 : Int64) = (lN Y) from hr2]
      have hPc := hP.sub (ws' := ((tl_ws t0 ka aa ba sa (.ref g0) cJ ko ao bo so tn kc bc shc kp shp pa pb sht) ++ gp_ws g0 mF mE P f1 k1 Q f2 k2 G)) [0, 1, 2, 3, 4, 5, 6, 7] rfl
      have hDc := hD.sub (ws' := ((tl_ws t0 ka aa ba sa (.ref g0) cJ ko ao bo so tn kc bc shc kp shp pa pb sht) ++ gp_ws g0 mF mE P f1 k1 Q f2 k2 G)) [0, 1, 2, 3, 4, 5, 6, 7] (by decide) rfl
      have hKc := hK.sub (tys' := [(cJ, .long), (cI, .int)]) [0, 1] rfl
      have hFc := va_free (wc := ((tl_ws t0 ka aa ba sa (.ref g0) cJ ko ao bo so tn kc bc shc kp shp pa pb sht) ++ gp_ws g0 mF mE P f1 k1 Q f2 k2 G)) hD hS hA [0, 1, 2, 3, 4, 5, 6, 7] rfl
      refine va_callv (va_runV (As := [.int (nI I), .long (lN Y)]) (rest := []) ⟨hx, hb, hml, hown, hts⟩ (c_Ta_takeShare l dC dI cJ cI s.heap.size t0 ka aa ba sa ko ao bo so tn kc bc shc kp shp pa pb sht g0 mF mE P f1 k1 Q f2 k2 G I Y hok (by omega) (by omega) (by omega) (by omega)) (cwV 2 hts (gw_V gk_578 gk_580 gp_19 gk_5 gk_581) rfl rfl rfl (by decide +kernel) ⟨Nat.le_of_ble_eq_true rfl, Nat.le_of_ble_eq_true rfl⟩) ⟨fun a U g mk q => by obtain ⟨q0, q1, qP, qK, qD⟩ := q; exact ⟨q0, q1, qP, va_K.moved (u := U) (U := U.calling g mk a) (Vm.Alike.refl U.vm) qK, qD⟩, va_recv hK hP (ci := 4) (q0 := 0) rfl rfl, fun U hU hW => ⟨rfl, by rw [hU], by rw [hU]; exact hPc, va_K.moved hW.alike hKc, hDc.weaken (fun _ _ _ _ => trivial)⟩⟩ rfl rfl hl.1 rfl (lv_room (Nat.le_of_ble_eq_true rfl)) d_Ta_take_53 ⟨Nat.le_of_ble_eq_true rfl, Nat.le_of_ble_eq_true rfl⟩) hS (fun q _ h => hFc q h) hFc (fun u9 t9 H1 locs ht hvm hw hB hz1 hk1 hS => ?_)
      obtain ⟨hP1, hK1, hD1⟩ := hB
      rw [ht] at hP1
      obtain ⟨hP, hD⟩ := va_join (wr := [(ra, .inl (cJ, 8, .inr (.inl rw)))]) (w1 := [(t0, .inr (4, [.ref ka, .ref aa, .ref ba, .ref sa, .ref g0, .int (nI tn), .int (nI kc), .int (nI bc), .int (nI (shc + 1)), .long (lN kp), .long (lN (shp * Y % P)), .long (lN pa), .long (lN pb), .int sht])), (ka, .inl (cJ, 4, .inr (.inl (lF ko)))), (aa, .inl (cJ, 64, .inr (.inl (lF ao)))), (ba, .inl (cJ, 64, .inr (.inl (lF bo)))), (sa, .inl (cJ, 4, .inr (.inl (lF (updN so I Y))))), (g0, .inr (1, [.ref mF, .ref mE, .long (lN G), .long (lN (G ^ (Q - 1) % P))])), (mF, .inr (0, [.long (lN P), .long (lN (P % 2 ^ 31)), .long (lN (P / 2 ^ 31)), .long (lN f1), .long (lN (2 ^ 62 % P)), .long (lN (2 ^ 124 % P)), .int (nI k1)])), (mE, .inr (0, [.long (lN Q), .long (lN (Q % 2 ^ 31)), .long (lN (Q / 2 ^ 31)), .long (lN f2), .long (lN (2 ^ 62 % Q)), .long (lN (2 ^ 124 % Q)), .int (nI k2)]))]) hP hD [0, 1, 2, 3, 4, 5, 6, 7] [8] rfl rfl (by decide) (by decide) hk1 hFc hP1 hD1
      have hP := hP.sub (ws' := [(t0, .inr (4, [.ref ka, .ref aa, .ref ba, .ref sa, .ref g0, .int (nI tn), .int (nI kc), .int (nI bc), .int (nI (shc + 1)), .long (lN kp), .long (lN (shp * Y % P)), .long (lN pa), .long (lN pb), .int sht])), (ka, .inl (cJ, 4, .inr (.inl (lF ko)))), (aa, .inl (cJ, 64, .inr (.inl (lF ao)))), (ba, .inl (cJ, 64, .inr (.inl (lF bo)))), (sa, .inl (cJ, 4, .inr (.inl (lF (updN so I Y))))), (g0, .inr (1, [.ref mF, .ref mE, .long (lN G), .long (lN (G ^ (Q - 1) % P))])), (mF, .inr (0, [.long (lN P), .long (lN (P % 2 ^ 31)), .long (lN (P / 2 ^ 31)), .long (lN f1), .long (lN (2 ^ 62 % P)), .long (lN (2 ^ 124 % P)), .int (nI k1)])), (mE, .inr (0, [.long (lN Q), .long (lN (Q % 2 ^ 31)), .long (lN (Q / 2 ^ 31)), .long (lN f2), .long (lN (2 ^ 62 % Q)), .long (lN (2 ^ 124 % Q)), .int (nI k2)])), (ra, .inl (cJ, 8, .inr (.inl rw)))]) [1, 2, 3, 4, 5, 6, 7, 8, 0] rfl
      have hD := hD.sub (ws' := [(t0, .inr (4, [.ref ka, .ref aa, .ref ba, .ref sa, .ref g0, .int (nI tn), .int (nI kc), .int (nI bc), .int (nI (shc + 1)), .long (lN kp), .long (lN (shp * Y % P)), .long (lN pa), .long (lN pb), .int sht])), (ka, .inl (cJ, 4, .inr (.inl (lF ko)))), (aa, .inl (cJ, 64, .inr (.inl (lF ao)))), (ba, .inl (cJ, 64, .inr (.inl (lF bo)))), (sa, .inl (cJ, 4, .inr (.inl (lF (updN so I Y))))), (g0, .inr (1, [.ref mF, .ref mE, .long (lN G), .long (lN (G ^ (Q - 1) % P))])), (mF, .inr (0, [.long (lN P), .long (lN (P % 2 ^ 31)), .long (lN (P / 2 ^ 31)), .long (lN f1), .long (lN (2 ^ 62 % P)), .long (lN (2 ^ 124 % P)), .int (nI k1)])), (mE, .inr (0, [.long (lN Q), .long (lN (Q % 2 ^ 31)), .long (lN (Q / 2 ^ 31)), .long (lN f2), .long (lN (2 ^ 62 % Q)), .long (lN (2 ^ 124 % Q)), .int (nI k2)])), (ra, .inl (cJ, 8, .inr (.inl rw)))]) [1, 2, 3, 4, 5, 6, 7, 8, 0] (by decide) rfl
      generalize H1 = H at hP hS ⊢
      exact W.vret hx hb hr (fun t ht9 hW => ⟨⟨(), rfl, trivial, by rw [ht9]; exact hP, va_K.moved hW.alike hK, hD⟩, hS.F ht9⟩) hS.2.2 d_Ta_take_56
    · -- not taken
      exact absurd ((cmpe (k := 3) (by omega) 1 (by omega) rfl).mp c_2) (by omega)
  · -- not taken
    exact absurd ((cmpe (k := 3) (by omega) 2 (by omega) rfl).mp c_1) (by omega)
abbrev b_Ta_shut : ByteArray := prog_8_method_19_code
abbrev y_Ta_shut : MethodName := ⟨"BallotBoard$Tally", "shut", "()V"⟩
abbrev w_Ta_shut : List Cond := .code y_Ta_shut b_Ta_shut 2 none :: gw
theorem d_Ta_shut_0 : decode b_Ta_shut 0 = .ok (.aload_n 0, 1) := by decide +kernel
theorem d_Ta_shut_1 : decode b_Ta_shut 1 = .ok (.lconst 1, 1) := by decide +kernel
theorem d_Ta_shut_2 : decode b_Ta_shut 2 = .ok (.putfield 48, 3) := by decide +kernel
theorem d_Ta_shut_5 : decode b_Ta_shut 5 = .ok (.aload_n 0, 1) := by decide +kernel
theorem d_Ta_shut_6 : decode b_Ta_shut 6 = .ok (.lconst 1, 1) := by decide +kernel
theorem d_Ta_shut_7 : decode b_Ta_shut 7 = .ok (.putfield 51, 3) := by decide +kernel
theorem d_Ta_shut_10 : decode b_Ta_shut 10 = .ok (.iconst 0, 1) := by decide +kernel
theorem d_Ta_shut_11 : decode b_Ta_shut 11 = .ok (.istore_n 1, 1) := by decide +kernel
theorem d_Ta_shut_12 : decode b_Ta_shut 12 = .ok (.iload_n 1, 1) := by decide +kernel
theorem d_Ta_shut_13 : decode b_Ta_shut 13 = .ok (.bipush 64, 2) := by decide +kernel
theorem d_Ta_shut_15 : decode b_Ta_shut 15 = .ok (.if_icmp .ge 62, 3) := by decide +kernel
theorem d_Ta_shut_18 : decode b_Ta_shut 18 = .ok (.aload_n 0, 1) := by decide +kernel
theorem d_Ta_shut_19 : decode b_Ta_shut 19 = .ok (.getfield 18, 3) := by decide +kernel
theorem d_Ta_shut_22 : decode b_Ta_shut 22 = .ok (.iload_n 1, 1) := by decide +kernel
theorem d_Ta_shut_23 : decode b_Ta_shut 23 = .ok (.laload, 1) := by decide +kernel
theorem d_Ta_shut_24 : decode b_Ta_shut 24 = .ok (.lconst 0, 1) := by decide +kernel
theorem d_Ta_shut_25 : decode b_Ta_shut 25 = .ok (.lcmp, 1) := by decide +kernel
theorem d_Ta_shut_26 : decode b_Ta_shut 26 = .ok (.ifCond .eq 45, 3) := by decide +kernel
theorem d_Ta_shut_29 : decode b_Ta_shut 29 = .ok (.aload_n 0, 1) := by decide +kernel
theorem d_Ta_shut_30 : decode b_Ta_shut 30 = .ok (.aload_n 0, 1) := by decide +kernel
theorem d_Ta_shut_31 : decode b_Ta_shut 31 = .ok (.getfield 24, 3) := by decide +kernel
theorem d_Ta_shut_34 : decode b_Ta_shut 34 = .ok (.aload_n 0, 1) := by decide +kernel
theorem d_Ta_shut_35 : decode b_Ta_shut 35 = .ok (.getfield 48, 3) := by decide +kernel
theorem d_Ta_shut_38 : decode b_Ta_shut 38 = .ok (.aload_n 0, 1) := by decide +kernel
theorem d_Ta_shut_39 : decode b_Ta_shut 39 = .ok (.getfield 18, 3) := by decide +kernel
theorem d_Ta_shut_42 : decode b_Ta_shut 42 = .ok (.iload_n 1, 1) := by decide +kernel
theorem d_Ta_shut_43 : decode b_Ta_shut 43 = .ok (.laload, 1) := by decide +kernel
theorem d_Ta_shut_44 : decode b_Ta_shut 44 = .ok (.invokevirtual 79, 3) := by decide +kernel
theorem d_Ta_shut_47 : decode b_Ta_shut 47 = .ok (.putfield 48, 3) := by decide +kernel
theorem d_Ta_shut_50 : decode b_Ta_shut 50 = .ok (.aload_n 0, 1) := by decide +kernel
theorem d_Ta_shut_51 : decode b_Ta_shut 51 = .ok (.aload_n 0, 1) := by decide +kernel
theorem d_Ta_shut_52 : decode b_Ta_shut 52 = .ok (.getfield 24, 3) := by decide +kernel
theorem d_Ta_shut_55 : decode b_Ta_shut 55 = .ok (.aload_n 0, 1) := by decide +kernel
theorem d_Ta_shut_56 : decode b_Ta_shut 56 = .ok (.getfield 51, 3) := by decide +kernel
theorem d_Ta_shut_59 : decode b_Ta_shut 59 = .ok (.aload_n 0, 1) := by decide +kernel
theorem d_Ta_shut_60 : decode b_Ta_shut 60 = .ok (.getfield 21, 3) := by decide +kernel
theorem d_Ta_shut_63 : decode b_Ta_shut 63 = .ok (.iload_n 1, 1) := by decide +kernel
theorem d_Ta_shut_64 : decode b_Ta_shut 64 = .ok (.laload, 1) := by decide +kernel
theorem d_Ta_shut_65 : decode b_Ta_shut 65 = .ok (.invokevirtual 79, 3) := by decide +kernel
theorem d_Ta_shut_68 : decode b_Ta_shut 68 = .ok (.putfield 51, 3) := by decide +kernel
theorem d_Ta_shut_71 : decode b_Ta_shut 71 = .ok (.iinc 1 1, 3) := by decide +kernel
theorem d_Ta_shut_74 : decode b_Ta_shut 74 = .ok (.goto (-62), 3) := by decide +kernel
theorem d_Ta_shut_77 : decode b_Ta_shut 77 = .ok (.aload_n 0, 1) := by decide +kernel
theorem d_Ta_shut_78 : decode b_Ta_shut 78 = .ok (.iconst 1, 1) := by decide +kernel
theorem d_Ta_shut_79 : decode b_Ta_shut 79 = .ok (.putfield 54, 3) := by decide +kernel
theorem d_Ta_shut_82 : decode b_Ta_shut 82 = .ok (.return_, 1) := by decide +kernel
set_option maxHeartbeats 8000000 in
set_option maxRecDepth 100000 in
theorem c_Ta_shut (l : Launch) (dC : Nat → ClassId) (dI : Nat → Nat → Nat) (cJ cI : ClassId) (sz : Nat) (t0 ka aa ba sa : Nat) (ko ao bo so : Nat → Nat) (tn kc bc shc kp shp pa pb : Nat) (sht : Int32) (g0 mF mE P f1 k1 Q f2 k2 G : Nat) (hok : gp_ok P f1 k1 Q f2 k2 G) (hao : ∀ j, ao j < P) (hbo : ∀ j, bo j < P) : Met l y_Ta_shut w_Ta_shut ({ frames := 3, cells := 0, slots := 0, locals := 84 }) (va_Pc [.ref t0] (fun U => U.heap.size = sz ∧ va_P (dC, dI) classes (tl_ws t0 ka aa ba sa (.ref g0) cJ ko ao bo so tn kc bc shc kp shp pa pb sht ++ gp_ws g0 mF mE P f1 k1 Q f2 k2 G) U.heap ∧ va_K (dC, dI) classes [(cJ, .long), (cI, .int)] U ∧ va_D (fun _ => True) (tl_ws t0 ka aa ba sa (.ref g0) cJ ko ao bo so tn kc bc shc kp shp pa pb sht ++ gp_ws g0 mF mE P f1 k1 Q f2 k2 G))) (va_Qv (fun _ : Unit => True) (fun _ t => va_P (dC, dI) classes (tl_ws t0 ka aa ba sa (.ref g0) cJ ko ao bo so tn kc bc shc kp shp (prd P ao ao 64) (prd P ao bo 64) 1 ++ gp_ws g0 mF mE P f1 k1 Q f2 k2 G) t.heap ∧ va_K (dC, dI) classes [(cJ, .long), (cI, .int)] t ∧ va_D (va_A (tl_ws t0 ka aa ba sa (.ref g0) cJ ko ao bo so tn kc bc shc kp shp pa pb sht ++ gp_ws g0 mF mE P f1 k1 Q f2 k2 G) sz) (tl_ws t0 ka aa ba sa (.ref g0) cJ ko ao bo so tn kc bc shc kp shp (prd P ao ao 64) (prd P ao bo 64) 1 ++ gp_ws g0 mF mE P f1 k1 Q f2 k2 G)) (va_A (tl_ws t0 ka aa ba sa (.ref g0) cJ ko ao bo so tn kc bc shc kp shp pa pb sht ++ gp_ws g0 mF mE P f1 k1 Q f2 k2 G) sz)) 0 0 (va_A (tl_ws t0 ka aa ba sa (.ref g0) cJ ko ao bo so tn kc bc shc kp shp pa pb sht ++ gp_ws g0 mF mE P f1 k1 Q f2 k2 G) sz) := by
  refine Met.ofW (cc := b_Ta_shut) (maxL := 2) (ret := none) (by decide) rfl ?_
  intro p e s m args below meth c s₁ Bd hml hv
  obtain ⟨rfl, hsz, hP, hK, hD0⟩ := hv
  have hx := Bd.exec
  have hb := Bd.bytes
  have hr := Bd.returns
  have hts := atoms_spec (ws := w_Ta_shut) Bd.pre
  have hown : s.vm.findClass "BallotBoard$Tally" = some m.cls := findClass_of_methodNamed Bd.named
  have hlocks := Bd.notSynchronized
  subst hsz
  have hD := hD0.self (sz := s.heap.size)
  generalize hAe : va_A (tl_ws t0 ka aa ba sa (.ref g0) cJ ko ao bo so tn kc bc shc kp shp pa pb sht ++ gp_ws g0 mF mE P f1 k1 Q f2 k2 G) s.heap.size = A at hD ⊢
  have hA : ∀ q : Nat, s.heap.size ≤ q → A q := fun q h => by rw [← hAe]; exact Or.inr h
  have hS : va_S A s.heap s.heap [] := va_S.rf
  have hl := lv_entry ([.ref t0]) (n := 2) (Nat.le_of_ble_eq_true rfl)
  rw [lg_entry_eq]
  generalize (lg_sl ([.ref t0]) ++ List.replicate (2 - (lg_sl ([.ref t0])).length) Slot.unset).toArray = ls at hl ⊢
  have hl : lv_has ls 2 [(0, .ref t0)] := hl
  obtain ⟨hokF, hokE, hPQ, hG2, hGP, hGQ⟩ := id hok
  obtain ⟨hoF, h3F, h61F, _, _, hk61F, hNkF⟩ := id hokF
  obtain ⟨hoE, h3E, h61E, _, _, hk61E, hNkE⟩ := id hokE
  have loop : ∀ (j i : Nat), i + j = 64 → ∀ (H : Heap) (locs : List Loc), va_S A s.heap H locs → va_P (dC, dI) classes (tl_ws t0 ka aa ba sa (.ref g0) cJ ko ao bo so tn kc bc shc kp shp (prd P ao ao i) (prd P ao bo i) sht ++ gp_ws g0 mF mE P f1 k1 Q f2 k2 G) H → va_D A (tl_ws t0 ka aa ba sa (.ref g0) cJ ko ao bo so tn kc bc shc kp shp (prd P ao ao i) (prd P ao bo i) sht ++ gp_ws g0 mF mE P f1 k1 Q f2 k2 G) → ∀ (ls : Array Slot), lv_has ls 2 [(0, .ref t0), (1, .int (nI i))] → W p l e ({ frames := 3, cells := 0, slots := 0, locals := 84 } : Room) s m ([.ref t0] : List Value).toArray below meth c H locs 0 0 (MQ below (va_Qv (fun _ : Unit => True) (fun _ t => va_P (dC, dI) classes (tl_ws t0 ka aa ba sa (.ref g0) cJ ko ao bo so tn kc bc shc kp shp (prd P ao ao 64) (prd P ao bo 64) 1 ++ gp_ws g0 mF mE P f1 k1 Q f2 k2 G) t.heap ∧ va_K (dC, dI) classes [(cJ, .long), (cI, .int)] t ∧ va_D A (tl_ws t0 ka aa ba sa (.ref g0) cJ ko ao bo so tn kc bc shc kp shp (prd P ao ao 64) (prd P ao bo 64) 1 ++ gp_ws g0 mF mE P f1 k1 Q f2 k2 G)) A) ([.ref t0] : List Value).toArray s 0 0 A) (F0 m 12 ls []) := by
    intro j
    induction j using Nat.strongRecOn with
    | ind j ih =>
      intro i hij H locs hS hP hD ls hl
      refine lv_iload_n hx hb d_Ta_shut_12 rfl (lv_at hl 1 rfl) ?_
      refine lv_bipush (v := 64) hx hb d_Ta_shut_13 (by decide) ?_
      refine lv_icmp_ge (tgt := 77) hx hb d_Ta_shut_15 (by decide) (fun c_1 => ?_) (fun c_1 => ?_)
      · -- taken
        have hi9 : i = 64 := by
          have := (ige 64 (by omega) (by omega) rfl).mp c_1
          omega
        subst hi9
        refine lv_aload_n hx hb d_Ta_shut_77 rfl (lv_at hl 0 rfl) ?_
        refine lv_iconst (v := 1) hx hb d_Ta_shut_78 (by decide) ?_
        refine va_put (D := (dC, dI)) (ci := 4) (v := .int 1) (ty := .boolean) (C := "BallotBoard$Tally") (T := F_Ta) (N := 14) hx hb hts (fun w9 h9 => List.mem_cons_of_mem _ (i_Ta w9 h9)) t_Ta t_Ta_ok n_Ta hown hK hP hD hS 0 rfl rfl 13 (by decide) (hts _ (List.mem_cons_of_mem _ gk_105)) (fun _ h9 => h9) rfl (by decide +kernel) rfl rfl (Nat.le_of_ble_eq_true rfl) d_Ta_shut_79 (fun H locs hP hD hS => ?_)
        have hP : va_P (dC, dI) classes [(t0, .inr (4, [.ref ka, .ref aa, .ref ba, .ref sa, .ref g0, .int (nI tn), .int (nI kc), .int (nI bc), .int (nI shc), .long (lN kp), .long (lN shp), .long (lN (prd P ao ao 64)), .long (lN (prd P ao bo 64)), .int 1])), (ka, .inl (cJ, 4, .inr (.inl (lF ko)))), (aa, .inl (cJ, 64, .inr (.inl (lF ao)))), (ba, .inl (cJ, 64, .inr (.inl (lF bo)))), (sa, .inl (cJ, 4, .inr (.inl (lF so)))), (g0, .inr (1, [.ref mF, .ref mE, .long (lN G), .long (lN (G ^ (Q - 1) % P))])), (mF, .inr (0, [.long (lN P), .long (lN (P % 2 ^ 31)), .long (lN (P / 2 ^ 31)), .long (lN f1), .long (lN (2 ^ 62 % P)), .long (lN (2 ^ 124 % P)), .int (nI k1)])), (mE, .inr (0, [.long (lN Q), .long (lN (Q % 2 ^ 31)), .long (lN (Q / 2 ^ 31)), .long (lN f2), .long (lN (2 ^ 62 % Q)), .long (lN (2 ^ 124 % Q)), .int (nI k2)]))] H := hP
        have hD : va_D A [(t0, .inr (4, [.ref ka, .ref aa, .ref ba, .ref sa, .ref g0, .int (nI tn), .int (nI kc), .int (nI bc), .int (nI shc), .long (lN kp), .long (lN shp), .long (lN (prd P ao ao 64)), .long (lN (prd P ao bo 64)), .int 1])), (ka, .inl (cJ, 4, .inr (.inl (lF ko)))), (aa, .inl (cJ, 64, .inr (.inl (lF ao)))), (ba, .inl (cJ, 64, .inr (.inl (lF bo)))), (sa, .inl (cJ, 4, .inr (.inl (lF so)))), (g0, .inr (1, [.ref mF, .ref mE, .long (lN G), .long (lN (G ^ (Q - 1) % P))])), (mF, .inr (0, [.long (lN P), .long (lN (P % 2 ^ 31)), .long (lN (P / 2 ^ 31)), .long (lN f1), .long (lN (2 ^ 62 % P)), .long (lN (2 ^ 124 % P)), .int (nI k1)])), (mE, .inr (0, [.long (lN Q), .long (lN (Q % 2 ^ 31)), .long (lN (Q / 2 ^ 31)), .long (lN f2), .long (lN (2 ^ 62 % Q)), .long (lN (2 ^ 124 % Q)), .int (nI k2)]))] := hD
        exact W.vret hx hb hr (fun t ht9 hW => ⟨⟨(), rfl, trivial, by rw [ht9]; exact hP, va_K.moved hW.alike hK, hD⟩, hS.F ht9⟩) hS.2.2 d_Ta_shut_82
      · -- not taken
        have hi9 : i < 64 := by
          have : ¬ 64 ≤ i := fun h => c_1 ((ige 64 (by omega) (by omega) rfl).mpr h)
          omega
        have hai := hao i
        have hbi := hbo i
        have hp1 := prd_lt (P := P) (by omega) ao ao i
        have hp2 := prd_lt (P := P) (by omega) ao bo i
        refine lv_aload_n hx hb d_Ta_shut_18 rfl (lv_at hl 0 rfl) ?_
        refine va_get (D := (dC, dI)) (ci := 4) (v := .ref aa) (C := "BallotBoard$Tally") (T := F_Ta) (N := 14) hx hb hts (fun w9 h9 => List.mem_cons_of_mem _ (i_Ta w9 h9)) hown hK hP 0 rfl rfl 1 (by decide) (hts _ (List.mem_cons_of_mem _ gk_93)) (fun _ h9 => h9) rfl d_Ta_shut_19 ?_
        refine lv_iload_n hx hb d_Ta_shut_22 rfl (lv_at hl 1 rfl) ?_
        refine va_lald hx hb hK hP 2 0 rfl rfl (vp_in_nI (by omega) (by omega)) d_Ta_shut_23 ?_
        rw [show (lF ao (nI i : Int32).toNatClampNeg : Int64) = lN (ao i) from by rw [nI_clamp (by omega)]; rfl]
        refine lv_lconst (v := 0) hx hb d_Ta_shut_24 (by decide) ?_
        refine W.lcmp hx hb d_Ta_shut_25 ?_
        refine lv_if_eq (tgt := 71) hx hb d_Ta_shut_26 (by decide) (fun c_2 => ?_) (fun c_2 => ?_)
        · -- taken
          have hz9 : ao i = 0 := (cmpe (by omega) 0 (by omega) rfl).mp c_2
          rw [show prd P ao ao i = prd P ao ao (i + 1) from (if_pos hz9).symm, show prd P ao bo i = prd P ao bo (i + 1) from (if_pos hz9).symm] at hP hD
          obtain ⟨i_3, ei_3⟩ : ∃ y : Int32, y = (nI i) + 1 := ⟨_, rfl⟩
          refine lv_iinc (v := i_3) (lv' := [(1, .int i_3), (0, .ref t0)]) hx hb d_Ta_shut_71 hl (k := 1) rfl (by rw [ei_3]; rfl) (by decide) rfl (fun ls hl => ?_)
          obtain rfl : i_3 = nI (i + 1) := by rw [ei_3]; exact nI_1 i
          refine lv_goto (tgt := 12) hx hb d_Ta_shut_74 (by decide) ?_
          exact ih (j - 1) (by omega) (i + 1) (by omega) H locs hS hP hD ls (lv_sub hl [1, 0] rfl)
        · -- not taken
          have hz9 : ¬ ao i = 0 := fun h => c_2 ((cmpe (by omega) 0 (by omega) rfl).mpr h)
          refine lv_aload_n hx hb d_Ta_shut_29 rfl (lv_at hl 0 rfl) ?_
          refine lv_aload_n hx hb d_Ta_shut_30 rfl (lv_at hl 0 rfl) ?_
          refine va_get (D := (dC, dI)) (ci := 4) (v := .ref g0) (C := "BallotBoard$Tally") (T := F_Ta) (N := 14) hx hb hts (fun w9 h9 => List.mem_cons_of_mem _ (i_Ta w9 h9)) hown hK hP 0 rfl rfl 4 (by decide) (hts _ (List.mem_cons_of_mem _ gk_96)) (fun _ h9 => h9) rfl d_Ta_shut_31 ?_
          refine lv_aload_n hx hb d_Ta_shut_34 rfl (lv_at hl 0 rfl) ?_
          refine va_get (D := (dC, dI)) (ci := 4) (v := .long (lN (prd P ao ao i))) (C := "BallotBoard$Tally") (T := F_Ta) (N := 14) hx hb hts (fun w9 h9 => List.mem_cons_of_mem _ (i_Ta w9 h9)) hown hK hP 0 rfl rfl 11 (by decide) (hts _ (List.mem_cons_of_mem _ gk_103)) (fun _ h9 => h9) rfl d_Ta_shut_35 ?_
          refine lv_aload_n hx hb d_Ta_shut_38 rfl (lv_at hl 0 rfl) ?_
          refine va_get (D := (dC, dI)) (ci := 4) (v := .ref aa) (C := "BallotBoard$Tally") (T := F_Ta) (N := 14) hx hb hts (fun w9 h9 => List.mem_cons_of_mem _ (i_Ta w9 h9)) hown hK hP 0 rfl rfl 1 (by decide) (hts _ (List.mem_cons_of_mem _ gk_93)) (fun _ h9 => h9) rfl d_Ta_shut_39 ?_
          refine lv_iload_n hx hb d_Ta_shut_42 rfl (lv_at hl 1 rfl) ?_
          refine va_lald hx hb hK hP 2 0 rfl rfl (vp_in_nI (by omega) (by omega)) d_Ta_shut_43 ?_
          rw [show (lF ao (nI i : Int32).toNatClampNeg : Int64) = lN (ao i) from by rw [nI_clamp (by omega)]; rfl]
          have hPc := hP.sub (ws' := (gp_ws g0 mF mE P f1 k1 Q f2 k2 G)) [5, 6, 7] rfl
          have hKc := hK.sub (tys' := []) [] rfl
          refine va_calll (va_runV (As := [.long (lN (prd P ao ao i)), .long (lN (ao i))]) (rest := [.ref t0]) ⟨hx, hb, hml, hown, hts⟩ (c_Gr_product l H dC dI g0 mF mE P f1 k1 Q f2 k2 G (prd P ao ao i) (ao i) hPc hok (by omega) (by omega)) (cwV 2 hts (gw_V gk_574 gk_575 gk_576 gk_8 gk_577) rfl rfl rfl (by decide +kernel) ⟨Nat.le_of_ble_eq_true rfl, Nat.le_of_ble_eq_true rfl⟩) ⟨fun a U g mk q => ⟨q.1, q.2.1, va_K.moved (u := U) (U := U.calling g mk a) (Vm.Alike.refl U.vm) q.2.2⟩, va_recv hK hP (ci := 1) (q0 := 5) rfl rfl, fun U hU hW => ⟨rfl, hU, va_K.moved hW.alike hKc⟩⟩ rfl rfl hl.1 rfl (lv_room (Nat.le_of_ble_eq_true rfl)) d_Ta_shut_44 ⟨Nat.le_of_ble_eq_true rfl, Nat.le_of_ble_eq_true rfl⟩) hS (fun q _ h => h.elim) (fun q h => h.elim) (fun r44 u9 t9 H1 locs ht hvm hw hB hz1 hk1 hS => ?_)
          obtain rfl : H = H1 := hB.symm.trans ht
          have hw : r44 = lN ((prd P ao ao i) * (ao i) % P) := hw
          subst hw
          rw [show (lN ((prd P ao ao i) * (ao i) % P) : Int64) = (lN (prd P ao ao (i + 1))) from congrArg lN (if_neg hz9).symm]
          refine va_put (D := (dC, dI)) (ci := 4) (v := .long (lN (prd P ao ao (i + 1)))) (ty := .long) (C := "BallotBoard$Tally") (T := F_Ta) (N := 14) hx hb hts (fun w9 h9 => List.mem_cons_of_mem _ (i_Ta w9 h9)) t_Ta t_Ta_ok n_Ta hown hK hP hD hS 0 rfl rfl 11 (by decide) (hts _ (List.mem_cons_of_mem _ gk_103)) (fun _ h9 => h9) rfl (by decide +kernel) rfl rfl (Nat.le_of_ble_eq_true rfl) d_Ta_shut_47 (fun H locs hP hD hS => ?_)
          have hP : va_P (dC, dI) classes [(t0, .inr (4, [.ref ka, .ref aa, .ref ba, .ref sa, .ref g0, .int (nI tn), .int (nI kc), .int (nI bc), .int (nI shc), .long (lN kp), .long (lN shp), .long (lN (prd P ao ao (i + 1))), .long (lN (prd P ao bo i)), .int sht])), (ka, .inl (cJ, 4, .inr (.inl (lF ko)))), (aa, .inl (cJ, 64, .inr (.inl (lF ao)))), (ba, .inl (cJ, 64, .inr (.inl (lF bo)))), (sa, .inl (cJ, 4, .inr (.inl (lF so)))), (g0, .inr (1, [.ref mF, .ref mE, .long (lN G), .long (lN (G ^ (Q - 1) % P))])), (mF, .inr (0, [.long (lN P), .long (lN (P % 2 ^ 31)), .long (lN (P / 2 ^ 31)), .long (lN f1), .long (lN (2 ^ 62 % P)), .long (lN (2 ^ 124 % P)), .int (nI k1)])), (mE, .inr (0, [.long (lN Q), .long (lN (Q % 2 ^ 31)), .long (lN (Q / 2 ^ 31)), .long (lN f2), .long (lN (2 ^ 62 % Q)), .long (lN (2 ^ 124 % Q)), .int (nI k2)]))] H := hP
          have hD : va_D A [(t0, .inr (4, [.ref ka, .ref aa, .ref ba, .ref sa, .ref g0, .int (nI tn), .int (nI kc), .int (nI bc), .int (nI shc), .long (lN kp), .long (lN shp), .long (lN (prd P ao ao (i + 1))), .long (lN (prd P ao bo i)), .int sht])), (ka, .inl (cJ, 4, .inr (.inl (lF ko)))), (aa, .inl (cJ, 64, .inr (.inl (lF ao)))), (ba, .inl (cJ, 64, .inr (.inl (lF bo)))), (sa, .inl (cJ, 4, .inr (.inl (lF so)))), (g0, .inr (1, [.ref mF, .ref mE, .long (lN G), .long (lN (G ^ (Q - 1) % P))])), (mF, .inr (0, [.long (lN P), .long (lN (P % 2 ^ 31)), .long (lN (P / 2 ^ 31)), .long (lN f1), .long (lN (2 ^ 62 % P)), .long (lN (2 ^ 124 % P)), .int (nI k1)])), (mE, .inr (0, [.long (lN Q), .long (lN (Q % 2 ^ 31)), .long (lN (Q / 2 ^ 31)), .long (lN f2), .long (lN (2 ^ 62 % Q)), .long (lN (2 ^ 124 % Q)), .int (nI k2)]))] := hD
          refine lv_aload_n hx hb d_Ta_shut_50 rfl (lv_at hl 0 rfl) ?_
          refine lv_aload_n hx hb d_Ta_shut_51 rfl (lv_at hl 0 rfl) ?_
          refine va_get (D := (dC, dI)) (ci := 4) (v := .ref g0) (C := "BallotBoard$Tally") (T := F_Ta) (N := 14) hx hb hts (fun w9 h9 => List.mem_cons_of_mem _ (i_Ta w9 h9)) hown hK hP 0 rfl rfl 4 (by decide) (hts _ (List.mem_cons_of_mem _ gk_96)) (fun _ h9 => h9) rfl d_Ta_shut_52 ?_
          refine lv_aload_n hx hb d_Ta_shut_55 rfl (lv_at hl 0 rfl) ?_
          refine va_get (D := (dC, dI)) (ci := 4) (v := .long (lN (prd P ao bo i))) (C := "BallotBoard$Tally") (T := F_Ta) (N := 14) hx hb hts (fun w9 h9 => List.mem_cons_of_mem _ (i_Ta w9 h9)) hown hK hP 0 rfl rfl 12 (by decide) (hts _ (List.mem_cons_of_mem _ gk_104)) (fun _ h9 => h9) rfl d_Ta_shut_56 ?_
          refine lv_aload_n hx hb d_Ta_shut_59 rfl (lv_at hl 0 rfl) ?_
          refine va_get (D := (dC, dI)) (ci := 4) (v := .ref ba) (C := "BallotBoard$Tally") (T := F_Ta) (N := 14) hx hb hts (fun w9 h9 => List.mem_cons_of_mem _ (i_Ta w9 h9)) hown hK hP 0 rfl rfl 2 (by decide) (hts _ (List.mem_cons_of_mem _ gk_94)) (fun _ h9 => h9) rfl d_Ta_shut_60 ?_
          refine lv_iload_n hx hb d_Ta_shut_63 rfl (lv_at hl 1 rfl) ?_
          refine va_lald hx hb hK hP 3 0 rfl rfl (vp_in_nI (by omega) (by omega)) d_Ta_shut_64 ?_
          rw [show (lF bo (nI i : Int32).toNatClampNeg : Int64) = lN (bo i) from by rw [nI_clamp (by omega)]; rfl]
          have hPc := hP.sub (ws' := (gp_ws g0 mF mE P f1 k1 Q f2 k2 G)) [5, 6, 7] rfl
          have hKc := hK.sub (tys' := []) [] rfl
          refine va_calll (va_runV (As := [.long (lN (prd P ao bo i)), .long (lN (bo i))]) (rest := [.ref t0]) ⟨hx, hb, hml, hown, hts⟩ (c_Gr_product l H dC dI g0 mF mE P f1 k1 Q f2 k2 G (prd P ao bo i) (bo i) hPc hok (by omega) (by omega)) (cwV 2 hts (gw_V gk_574 gk_575 gk_576 gk_8 gk_577) rfl rfl rfl (by decide +kernel) ⟨Nat.le_of_ble_eq_true rfl, Nat.le_of_ble_eq_true rfl⟩) ⟨fun a U g mk q => ⟨q.1, q.2.1, va_K.moved (u := U) (U := U.calling g mk a) (Vm.Alike.refl U.vm) q.2.2⟩, va_recv hK hP (ci := 1) (q0 := 5) rfl rfl, fun U hU hW => ⟨rfl, hU, va_K.moved hW.alike hKc⟩⟩ rfl rfl hl.1 rfl (lv_room (Nat.le_of_ble_eq_true rfl)) d_Ta_shut_65 ⟨Nat.le_of_ble_eq_true rfl, Nat.le_of_ble_eq_true rfl⟩) hS (fun q _ h => h.elim) (fun q h => h.elim) (fun r65 u9 t9 H1 locs ht hvm hw hB hz1 hk1 hS => ?_)
          obtain rfl : H = H1 := hB.symm.trans ht
          have hw : r65 = lN ((prd P ao bo i) * (bo i) % P) := hw
          subst hw
          rw [show (lN ((prd P ao bo i) * (bo i) % P) : Int64) = (lN (prd P ao bo (i + 1))) from congrArg lN (if_neg hz9).symm]
          refine va_put (D := (dC, dI)) (ci := 4) (v := .long (lN (prd P ao bo (i + 1)))) (ty := .long) (C := "BallotBoard$Tally") (T := F_Ta) (N := 14) hx hb hts (fun w9 h9 => List.mem_cons_of_mem _ (i_Ta w9 h9)) t_Ta t_Ta_ok n_Ta hown hK hP hD hS 0 rfl rfl 12 (by decide) (hts _ (List.mem_cons_of_mem _ gk_104)) (fun _ h9 => h9) rfl (by decide +kernel) rfl rfl (Nat.le_of_ble_eq_true rfl) d_Ta_shut_68 (fun H locs hP hD hS => ?_)
          have hP : va_P (dC, dI) classes [(t0, .inr (4, [.ref ka, .ref aa, .ref ba, .ref sa, .ref g0, .int (nI tn), .int (nI kc), .int (nI bc), .int (nI shc), .long (lN kp), .long (lN shp), .long (lN (prd P ao ao (i + 1))), .long (lN (prd P ao bo (i + 1))), .int sht])), (ka, .inl (cJ, 4, .inr (.inl (lF ko)))), (aa, .inl (cJ, 64, .inr (.inl (lF ao)))), (ba, .inl (cJ, 64, .inr (.inl (lF bo)))), (sa, .inl (cJ, 4, .inr (.inl (lF so)))), (g0, .inr (1, [.ref mF, .ref mE, .long (lN G), .long (lN (G ^ (Q - 1) % P))])), (mF, .inr (0, [.long (lN P), .long (lN (P % 2 ^ 31)), .long (lN (P / 2 ^ 31)), .long (lN f1), .long (lN (2 ^ 62 % P)), .long (lN (2 ^ 124 % P)), .int (nI k1)])), (mE, .inr (0, [.long (lN Q), .long (lN (Q % 2 ^ 31)), .long (lN (Q / 2 ^ 31)), .long (lN f2), .long (lN (2 ^ 62 % Q)), .long (lN (2 ^ 124 % Q)), .int (nI k2)]))] H := hP
          have hD : va_D A [(t0, .inr (4, [.ref ka, .ref aa, .ref ba, .ref sa, .ref g0, .int (nI tn), .int (nI kc), .int (nI bc), .int (nI shc), .long (lN kp), .long (lN shp), .long (lN (prd P ao ao (i + 1))), .long (lN (prd P ao bo (i + 1))), .int sht])), (ka, .inl (cJ, 4, .inr (.inl (lF ko)))), (aa, .inl (cJ, 64, .inr (.inl (lF ao)))), (ba, .inl (cJ, 64, .inr (.inl (lF bo)))), (sa, .inl (cJ, 4, .inr (.inl (lF so)))), (g0, .inr (1, [.ref mF, .ref mE, .long (lN G), .long (lN (G ^ (Q - 1) % P))])), (mF, .inr (0, [.long (lN P), .long (lN (P % 2 ^ 31)), .long (lN (P / 2 ^ 31)), .long (lN f1), .long (lN (2 ^ 62 % P)), .long (lN (2 ^ 124 % P)), .int (nI k1)])), (mE, .inr (0, [.long (lN Q), .long (lN (Q % 2 ^ 31)), .long (lN (Q / 2 ^ 31)), .long (lN f2), .long (lN (2 ^ 62 % Q)), .long (lN (2 ^ 124 % Q)), .int (nI k2)]))] := hD
          obtain ⟨i_4, ei_4⟩ : ∃ y : Int32, y = (nI i) + 1 := ⟨_, rfl⟩
          refine lv_iinc (v := i_4) (lv' := [(1, .int i_4), (0, .ref t0)]) hx hb d_Ta_shut_71 hl (k := 1) rfl (by rw [ei_4]; rfl) (by decide) rfl (fun ls hl => ?_)
          obtain rfl : i_4 = nI (i + 1) := by rw [ei_4]; exact nI_1 i
          refine lv_goto (tgt := 12) hx hb d_Ta_shut_74 (by decide) ?_
          exact ih (j - 1) (by omega) (i + 1) (by omega) H locs hS hP hD ls (lv_sub hl [1, 0] rfl)
  refine lv_aload_n hx hb d_Ta_shut_0 rfl (lv_at hl 0 rfl) ?_
  refine lv_lconst (v := 1) hx hb d_Ta_shut_1 (by decide) ?_
  refine va_put (D := (dC, dI)) (ci := 4) (v := .long 1) (ty := .long) (C := "BallotBoard$Tally") (T := F_Ta) (N := 14) hx hb hts (fun w9 h9 => List.mem_cons_of_mem _ (i_Ta w9 h9)) t_Ta t_Ta_ok n_Ta hown hK hP hD hS 0 rfl rfl 11 (by decide) (hts _ (List.mem_cons_of_mem _ gk_103)) (fun _ h9 => h9) rfl (by decide +kernel) rfl rfl (Nat.le_of_ble_eq_true rfl) d_Ta_shut_2 (fun H locs hP hD hS => ?_)
  have hP : va_P (dC, dI) classes [(t0, .inr (4, [.ref ka, .ref aa, .ref ba, .ref sa, .ref g0, .int (nI tn), .int (nI kc), .int (nI bc), .int (nI shc), .long (lN kp), .long (lN shp), .long 1, .long (lN pb), .int sht])), (ka, .inl (cJ, 4, .inr (.inl (lF ko)))), (aa, .inl (cJ, 64, .inr (.inl (lF ao)))), (ba, .inl (cJ, 64, .inr (.inl (lF bo)))), (sa, .inl (cJ, 4, .inr (.inl (lF so)))), (g0, .inr (1, [.ref mF, .ref mE, .long (lN G), .long (lN (G ^ (Q - 1) % P))])), (mF, .inr (0, [.long (lN P), .long (lN (P % 2 ^ 31)), .long (lN (P / 2 ^ 31)), .long (lN f1), .long (lN (2 ^ 62 % P)), .long (lN (2 ^ 124 % P)), .int (nI k1)])), (mE, .inr (0, [.long (lN Q), .long (lN (Q % 2 ^ 31)), .long (lN (Q / 2 ^ 31)), .long (lN f2), .long (lN (2 ^ 62 % Q)), .long (lN (2 ^ 124 % Q)), .int (nI k2)]))] H := hP
  have hD : va_D A [(t0, .inr (4, [.ref ka, .ref aa, .ref ba, .ref sa, .ref g0, .int (nI tn), .int (nI kc), .int (nI bc), .int (nI shc), .long (lN kp), .long (lN shp), .long 1, .long (lN pb), .int sht])), (ka, .inl (cJ, 4, .inr (.inl (lF ko)))), (aa, .inl (cJ, 64, .inr (.inl (lF ao)))), (ba, .inl (cJ, 64, .inr (.inl (lF bo)))), (sa, .inl (cJ, 4, .inr (.inl (lF so)))), (g0, .inr (1, [.ref mF, .ref mE, .long (lN G), .long (lN (G ^ (Q - 1) % P))])), (mF, .inr (0, [.long (lN P), .long (lN (P % 2 ^ 31)), .long (lN (P / 2 ^ 31)), .long (lN f1), .long (lN (2 ^ 62 % P)), .long (lN (2 ^ 124 % P)), .int (nI k1)])), (mE, .inr (0, [.long (lN Q), .long (lN (Q % 2 ^ 31)), .long (lN (Q / 2 ^ 31)), .long (lN f2), .long (lN (2 ^ 62 % Q)), .long (lN (2 ^ 124 % Q)), .int (nI k2)]))] := hD
  refine lv_aload_n hx hb d_Ta_shut_5 rfl (lv_at hl 0 rfl) ?_
  refine lv_lconst (v := 1) hx hb d_Ta_shut_6 (by decide) ?_
  refine va_put (D := (dC, dI)) (ci := 4) (v := .long 1) (ty := .long) (C := "BallotBoard$Tally") (T := F_Ta) (N := 14) hx hb hts (fun w9 h9 => List.mem_cons_of_mem _ (i_Ta w9 h9)) t_Ta t_Ta_ok n_Ta hown hK hP hD hS 0 rfl rfl 12 (by decide) (hts _ (List.mem_cons_of_mem _ gk_104)) (fun _ h9 => h9) rfl (by decide +kernel) rfl rfl (Nat.le_of_ble_eq_true rfl) d_Ta_shut_7 (fun H locs hP hD hS => ?_)
  have hP : va_P (dC, dI) classes [(t0, .inr (4, [.ref ka, .ref aa, .ref ba, .ref sa, .ref g0, .int (nI tn), .int (nI kc), .int (nI bc), .int (nI shc), .long (lN kp), .long (lN shp), .long 1, .long 1, .int sht])), (ka, .inl (cJ, 4, .inr (.inl (lF ko)))), (aa, .inl (cJ, 64, .inr (.inl (lF ao)))), (ba, .inl (cJ, 64, .inr (.inl (lF bo)))), (sa, .inl (cJ, 4, .inr (.inl (lF so)))), (g0, .inr (1, [.ref mF, .ref mE, .long (lN G), .long (lN (G ^ (Q - 1) % P))])), (mF, .inr (0, [.long (lN P), .long (lN (P % 2 ^ 31)), .long (lN (P / 2 ^ 31)), .long (lN f1), .long (lN (2 ^ 62 % P)), .long (lN (2 ^ 124 % P)), .int (nI k1)])), (mE, .inr (0, [.long (lN Q), .long (lN (Q % 2 ^ 31)), .long (lN (Q / 2 ^ 31)), .long (lN f2), .long (lN (2 ^ 62 % Q)), .long (lN (2 ^ 124 % Q)), .int (nI k2)]))] H := hP
  have hD : va_D A [(t0, .inr (4, [.ref ka, .ref aa, .ref ba, .ref sa, .ref g0, .int (nI tn), .int (nI kc), .int (nI bc), .int (nI shc), .long (lN kp), .long (lN shp), .long 1, .long 1, .int sht])), (ka, .inl (cJ, 4, .inr (.inl (lF ko)))), (aa, .inl (cJ, 64, .inr (.inl (lF ao)))), (ba, .inl (cJ, 64, .inr (.inl (lF bo)))), (sa, .inl (cJ, 4, .inr (.inl (lF so)))), (g0, .inr (1, [.ref mF, .ref mE, .long (lN G), .long (lN (G ^ (Q - 1) % P))])), (mF, .inr (0, [.long (lN P), .long (lN (P % 2 ^ 31)), .long (lN (P / 2 ^ 31)), .long (lN f1), .long (lN (2 ^ 62 % P)), .long (lN (2 ^ 124 % P)), .int (nI k1)])), (mE, .inr (0, [.long (lN Q), .long (lN (Q % 2 ^ 31)), .long (lN (Q / 2 ^ 31)), .long (lN f2), .long (lN (2 ^ 62 % Q)), .long (lN (2 ^ 124 % Q)), .int (nI k2)]))] := hD
  refine lv_iconst (v := 0) hx hb d_Ta_shut_10 (by decide) ?_
  refine lv_istore_n (lv' := [(1, .int 0), (0, .ref t0)]) hx hb d_Ta_shut_11 rfl hl (by decide) rfl (fun ls hl => ?_)
  exact loop 64 0 (by omega) H locs hS hP hD ls (lv_sub hl [1, 0] rfl)
abbrev b_Ta_outcome : ByteArray := prog_8_method_20_code
abbrev y_Ta_outcome : MethodName := ⟨"BallotBoard$Tally", "outcome", "()I"⟩
abbrev w_Ta_outcome : List Cond := .code y_Ta_outcome b_Ta_outcome 4 (some .int) :: gw
theorem d_Ta_outcome_0 : decode b_Ta_outcome 0 = .ok (.aload_n 0, 1) := by decide +kernel
theorem d_Ta_outcome_1 : decode b_Ta_outcome 1 = .ok (.getfield 45, 3) := by decide +kernel
theorem d_Ta_outcome_4 : decode b_Ta_outcome 4 = .ok (.lstore_n 1, 1) := by decide +kernel
theorem d_Ta_outcome_5 : decode b_Ta_outcome 5 = .ok (.iconst 0, 1) := by decide +kernel
theorem d_Ta_outcome_6 : decode b_Ta_outcome 6 = .ok (.istore_n 3, 1) := by decide +kernel
theorem d_Ta_outcome_7 : decode b_Ta_outcome 7 = .ok (.iload_n 3, 1) := by decide +kernel
theorem d_Ta_outcome_8 : decode b_Ta_outcome 8 = .ok (.aload_n 0, 1) := by decide +kernel
theorem d_Ta_outcome_9 : decode b_Ta_outcome 9 = .ok (.getfield 35, 3) := by decide +kernel
theorem d_Ta_outcome_12 : decode b_Ta_outcome 12 = .ok (.if_icmp .gt 36, 3) := by decide +kernel
theorem d_Ta_outcome_15 : decode b_Ta_outcome 15 = .ok (.lload_n 1, 1) := by decide +kernel
theorem d_Ta_outcome_16 : decode b_Ta_outcome 16 = .ok (.aload_n 0, 1) := by decide +kernel
theorem d_Ta_outcome_17 : decode b_Ta_outcome 17 = .ok (.getfield 51, 3) := by decide +kernel
theorem d_Ta_outcome_20 : decode b_Ta_outcome 20 = .ok (.lcmp, 1) := by decide +kernel
theorem d_Ta_outcome_21 : decode b_Ta_outcome 21 = .ok (.ifCond .ne 5, 3) := by decide +kernel
theorem d_Ta_outcome_24 : decode b_Ta_outcome 24 = .ok (.iload_n 3, 1) := by decide +kernel
theorem d_Ta_outcome_25 : decode b_Ta_outcome 25 = .ok (.ireturn, 1) := by decide +kernel
theorem d_Ta_outcome_26 : decode b_Ta_outcome 26 = .ok (.aload_n 0, 1) := by decide +kernel
theorem d_Ta_outcome_27 : decode b_Ta_outcome 27 = .ok (.getfield 24, 3) := by decide +kernel
theorem d_Ta_outcome_30 : decode b_Ta_outcome 30 = .ok (.lload_n 1, 1) := by decide +kernel
theorem d_Ta_outcome_31 : decode b_Ta_outcome 31 = .ok (.aload_n 0, 1) := by decide +kernel
theorem d_Ta_outcome_32 : decode b_Ta_outcome 32 = .ok (.getfield 24, 3) := by decide +kernel
theorem d_Ta_outcome_35 : decode b_Ta_outcome 35 = .ok (.invokevirtual 85, 3) := by decide +kernel
theorem d_Ta_outcome_38 : decode b_Ta_outcome 38 = .ok (.invokevirtual 79, 3) := by decide +kernel
theorem d_Ta_outcome_41 : decode b_Ta_outcome 41 = .ok (.lstore_n 1, 1) := by decide +kernel
theorem d_Ta_outcome_42 : decode b_Ta_outcome 42 = .ok (.iinc 3 1, 3) := by decide +kernel
theorem d_Ta_outcome_45 : decode b_Ta_outcome 45 = .ok (.goto (-38), 3) := by decide +kernel
theorem d_Ta_outcome_48 : decode b_Ta_outcome 48 = .ok (.iconst (-1), 1) := by decide +kernel
theorem d_Ta_outcome_49 : decode b_Ta_outcome 49 = .ok (.ireturn, 1) := by decide +kernel
set_option maxHeartbeats 8000000 in
set_option maxRecDepth 100000 in
theorem c_Ta_outcome (l : Launch) (H0 : Heap) (dC : Nat → ClassId) (dI : Nat → Nat → Nat) (cJ cI : ClassId) (t0 ka aa ba sa : Nat) (ko ao bo so : Nat → Nat) (tn kc bc shc kp shp pa pb : Nat) (sht : Int32) (g0 mF mE P f1 k1 Q f2 k2 G : Nat) (hP : va_P (dC, dI) classes (tl_ws t0 ka aa ba sa (.ref g0) cJ ko ao bo so tn kc bc shc kp shp pa pb sht ++ gp_ws g0 mF mE P f1 k1 Q f2 k2 G) H0) (hok : gp_ok P f1 k1 Q f2 k2 G) (hsp : shp < P) (hpb : pb < P) (hbc : bc ≤ 64) : Met l y_Ta_outcome w_Ta_outcome ({ frames := 3, cells := 0, slots := 0, locals := 84 }) (va_Pc [.ref t0] (fun U => U.heap = H0 ∧ va_K (dC, dI) classes [(cJ, .long), (cI, .int)] U)) (va_Qi (fun (r : Int32) (_ : Unit) => oc_r P G shp pb bc r) (fun _ t => t.heap = H0) (fun _ => False)) 0 0 (fun _ => False) := by
  refine Met.ofW (cc := b_Ta_outcome) (maxL := 4) (ret := (some .int)) (by decide) rfl ?_
  intro p e s m args below meth c s₁ Bd hml hv
  obtain ⟨rfl, hH, hK⟩ := hv
  subst hH
  have hx := Bd.exec
  have hb := Bd.bytes
  have hr := Bd.returns
  have hts := atoms_spec (ws := w_Ta_outcome) Bd.pre
  have hown : s.vm.findClass "BallotBoard$Tally" = some m.cls := findClass_of_methodNamed Bd.named
  have hlocks := Bd.notSynchronized
  have hS : va_S (fun _ => False) s.heap s.heap [] := va_S.rf
  have hl := lv_entry ([.ref t0]) (n := 4) (Nat.le_of_ble_eq_true rfl)
  rw [lg_entry_eq]
  generalize (lg_sl ([.ref t0]) ++ List.replicate (4 - (lg_sl ([.ref t0])).length) Slot.unset).toArray = ls at hl ⊢
  have hl : lv_has ls 4 [(0, .ref t0)] := hl
  obtain ⟨hokF, hokE, hPQ, hG2, hGP, hGQ⟩ := id hok
  obtain ⟨hoF, h3F, h61F, _, _, hk61F, hNkF⟩ := id hokF
  obtain ⟨hoE, h3E, h61E, _, _, hk61E, hNkE⟩ := id hokE
  have loop : ∀ (j i : Nat), i + j = bc + 1 → (∀ a, a < i → gst P G shp a ≠ pb) → ∀ (locs : List Loc), va_S (fun _ => False) s.heap s.heap locs → ∀ (ls : Array Slot), lv_has ls 4 [(0, .ref t0), (1, .long (lN (gst P G shp i))), (3, .int (nI i))] → W p l e ({ frames := 3, cells := 0, slots := 0, locals := 84 } : Room) s m ([.ref t0] : List Value).toArray below meth c s.heap locs 0 0 (MQ below (va_Qi (fun (r : Int32) (_ : Unit) => oc_r P G shp pb bc r) (fun _ t => t.heap = s.heap) (fun _ => False)) ([.ref t0] : List Value).toArray s 0 0 (fun _ => False)) (F0 m 7 ls []) := by
    intro j
    induction j using Nat.strongRecOn with
    | ind j ih =>
      intro i hij hall locs hS ls hl
      have hg1 := gst_lt (P := P) (G := G) hsp i
      refine lv_iload_n hx hb d_Ta_outcome_7 rfl (lv_at hl 2 rfl) ?_
      refine lv_aload_n hx hb d_Ta_outcome_8 rfl (lv_at hl 0 rfl) ?_
      refine va_get (D := (dC, dI)) (ci := 4) (v := .int (nI bc)) (C := "BallotBoard$Tally") (T := F_Ta) (N := 14) hx hb hts (fun w9 h9 => List.mem_cons_of_mem _ (i_Ta w9 h9)) hown hK hP 0 rfl rfl 7 (by decide) (hts _ (List.mem_cons_of_mem _ gk_99)) (fun _ h9 => h9) rfl d_Ta_outcome_9 ?_
      refine lv_icmp_gt (tgt := 48) hx hb d_Ta_outcome_12 (by decide) (fun c_1 => ?_) (fun c_1 => ?_)
      · -- taken
        have hi9 : i = bc + 1 := by
          have := (nI_ltI (by omega) (by omega)).mp c_1
          omega
        refine lv_iconst (v := (-1)) hx hb d_Ta_outcome_48 (by decide) ?_
        exact W.iret (v := (-1)) hx hb hr (fun t ht hW => ⟨⟨_, (), rfl, (Or.inr ⟨rfl, fun a ha => hall a (by omega)⟩), ht⟩, hS.F ht⟩) hS.2.2 d_Ta_outcome_49
      · -- not taken
        have hi9 : ¬ bc < i := fun h => c_1 ((nI_ltI (by omega) (by omega)).mpr h)
        refine lv_lload_n hx hb d_Ta_outcome_15 rfl (lv_at hl 1 rfl) ?_
        refine lv_aload_n hx hb d_Ta_outcome_16 rfl (lv_at hl 0 rfl) ?_
        refine va_get (D := (dC, dI)) (ci := 4) (v := .long (lN pb)) (C := "BallotBoard$Tally") (T := F_Ta) (N := 14) hx hb hts (fun w9 h9 => List.mem_cons_of_mem _ (i_Ta w9 h9)) hown hK hP 0 rfl rfl 12 (by decide) (hts _ (List.mem_cons_of_mem _ gk_104)) (fun _ h9 => h9) rfl d_Ta_outcome_17 ?_
        refine W.lcmp hx hb d_Ta_outcome_20 ?_
        refine lv_if_ne (tgt := 26) hx hb d_Ta_outcome_21 (by decide) (fun c_2 => ?_) (fun c_2 => ?_)
        · -- taken
          have hz9 : ¬ gst P G shp i = pb := fun h => c_2 ((ln_cmp_eq (by omega) (by omega)).mpr h)
          refine lv_aload_n hx hb d_Ta_outcome_26 rfl (lv_at hl 0 rfl) ?_
          refine va_get (D := (dC, dI)) (ci := 4) (v := .ref g0) (C := "BallotBoard$Tally") (T := F_Ta) (N := 14) hx hb hts (fun w9 h9 => List.mem_cons_of_mem _ (i_Ta w9 h9)) hown hK hP 0 rfl rfl 4 (by decide) (hts _ (List.mem_cons_of_mem _ gk_96)) (fun _ h9 => h9) rfl d_Ta_outcome_27 ?_
          refine lv_lload_n hx hb d_Ta_outcome_30 rfl (lv_at hl 1 rfl) ?_
          refine lv_aload_n hx hb d_Ta_outcome_31 rfl (lv_at hl 0 rfl) ?_
          refine va_get (D := (dC, dI)) (ci := 4) (v := .ref g0) (C := "BallotBoard$Tally") (T := F_Ta) (N := 14) hx hb hts (fun w9 h9 => List.mem_cons_of_mem _ (i_Ta w9 h9)) hown hK hP 0 rfl rfl 4 (by decide) (hts _ (List.mem_cons_of_mem _ gk_96)) (fun _ h9 => h9) rfl d_Ta_outcome_32 ?_
          have hPc := hP.sub (ws' := (gp_ws g0 mF mE P f1 k1 Q f2 k2 G)) [5, 6, 7] rfl
          have hKc := hK.sub (tys' := []) [] rfl
          refine va_calll (va_runV (As := []) (rest := [.long (lN (gst P G shp i)), .ref g0]) ⟨hx, hb, hml, hown, hts⟩ (c_Gr_g l s.heap dC dI g0 mF mE P f1 k1 Q f2 k2 G  hPc hok ) (cwV 0 hts (gw_V gk_750 gk_454 gk_455 gk_8 gk_456) rfl rfl rfl (by decide +kernel) ⟨Nat.le_of_ble_eq_true rfl, Nat.le_of_ble_eq_true rfl⟩) ⟨fun a U g mk q => ⟨q.1, q.2.1, va_K.moved (u := U) (U := U.calling g mk a) (Vm.Alike.refl U.vm) q.2.2⟩, va_recv hK hP (ci := 1) (q0 := 5) rfl rfl, fun U hU hW => ⟨rfl, hU, va_K.moved hW.alike hKc⟩⟩ rfl rfl hl.1 rfl (lv_room (Nat.le_of_ble_eq_true rfl)) d_Ta_outcome_35 ⟨Nat.le_of_ble_eq_true rfl, Nat.le_of_ble_eq_true rfl⟩) hS (fun q _ h => h.elim) (fun q h => h.elim) (fun r35 u9 t9 H1 locs ht hvm hw hB hz1 hk1 hS => ?_)
          obtain rfl : s.heap = H1 := hB.symm.trans ht
          have hw : r35 = lN G := hw
          subst hw
          have hPc := hP.sub (ws' := (gp_ws g0 mF mE P f1 k1 Q f2 k2 G)) [5, 6, 7] rfl
          have hKc := hK.sub (tys' := []) [] rfl
          refine va_calll (va_runV (As := [.long (lN (gst P G shp i)), .long (lN G)]) (rest := []) ⟨hx, hb, hml, hown, hts⟩ (c_Gr_product l s.heap dC dI g0 mF mE P f1 k1 Q f2 k2 G (gst P G shp i) G hPc hok hg1 hGP) (cwV 2 hts (gw_V gk_574 gk_575 gk_576 gk_8 gk_577) rfl rfl rfl (by decide +kernel) ⟨Nat.le_of_ble_eq_true rfl, Nat.le_of_ble_eq_true rfl⟩) ⟨fun a U g mk q => ⟨q.1, q.2.1, va_K.moved (u := U) (U := U.calling g mk a) (Vm.Alike.refl U.vm) q.2.2⟩, va_recv hK hP (ci := 1) (q0 := 5) rfl rfl, fun U hU hW => ⟨rfl, hU, va_K.moved hW.alike hKc⟩⟩ rfl rfl hl.1 rfl (lv_room (Nat.le_of_ble_eq_true rfl)) d_Ta_outcome_38 ⟨Nat.le_of_ble_eq_true rfl, Nat.le_of_ble_eq_true rfl⟩) hS (fun q _ h => h.elim) (fun q h => h.elim) (fun r38 u9 t9 H1 locs ht hvm hw hB hz1 hk1 hS => ?_)
          obtain rfl : s.heap = H1 := hB.symm.trans ht
          have hw : r38 = lN ((gst P G shp i) * G % P) := hw
          subst hw
          rw [show (lN ((gst P G shp i) * G % P) : Int64) = (lN (gst P G shp (i + 1))) from rfl]
          refine lv_lstore_n (lv' := [(1, .long (lN (gst P G shp (i + 1)))), (0, .ref t0), (3, .int (nI i))]) hx hb d_Ta_outcome_41 rfl hl (by decide) rfl (fun ls hl => ?_)
          obtain ⟨i_3, ei_3⟩ : ∃ y : Int32, y = (nI i) + 1 := ⟨_, rfl⟩
          refine lv_iinc (v := i_3) (lv' := [(3, .int i_3), (1, .long (lN (gst P G shp (i + 1)))), (0, .ref t0)]) hx hb d_Ta_outcome_42 hl (k := 2) rfl (by rw [ei_3]; rfl) (by decide) rfl (fun ls hl => ?_)
          obtain rfl : i_3 = nI (i + 1) := by rw [ei_3]; exact nI_1 i
          refine lv_goto (tgt := 7) hx hb d_Ta_outcome_45 (by decide) ?_
          exact ih (j - 1) (by omega) (i + 1) (by omega) (fun a ha => by
            by_cases e9 : a = i
            · rw [e9]; exact hz9
            · exact hall a (by omega)) locs hS ls (lv_sub hl [2, 1, 0] rfl)
        · -- not taken
          have hz9 : gst P G shp i = pb := (ln_cmp_eq (by omega) (by omega)).mp c_2
          refine lv_iload_n hx hb d_Ta_outcome_24 rfl (lv_at hl 2 rfl) ?_
          exact W.iret (v := (nI i)) hx hb hr (fun t ht hW => ⟨⟨_, (), rfl, (Or.inl ⟨i, by omega, rfl, hz9, hall⟩), ht⟩, hS.F ht⟩) hS.2.2 d_Ta_outcome_25
  refine lv_aload_n hx hb d_Ta_outcome_0 rfl (lv_at hl 0 rfl) ?_
  refine va_get (D := (dC, dI)) (ci := 4) (v := .long (lN shp)) (C := "BallotBoard$Tally") (T := F_Ta) (N := 14) hx hb hts (fun w9 h9 => List.mem_cons_of_mem _ (i_Ta w9 h9)) hown hK hP 0 rfl rfl 10 (by decide) (hts _ (List.mem_cons_of_mem _ gk_102)) (fun _ h9 => h9) rfl d_Ta_outcome_1 ?_
  refine lv_lstore_n (lv' := [(1, .long (lN shp)), (0, .ref t0)]) hx hb d_Ta_outcome_4 rfl hl (by decide) rfl (fun ls hl => ?_)
  refine lv_iconst (v := 0) hx hb d_Ta_outcome_5 (by decide) ?_
  refine lv_istore_n (lv' := [(3, .int 0), (1, .long (lN shp)), (0, .ref t0)]) hx hb d_Ta_outcome_6 rfl hl (by decide) rfl (fun ls hl => ?_)
  exact loop (bc + 1) 0 (by omega) (fun a ha => absurd ha (by omega)) [] hS ls (lv_sub hl [2, 1, 0] rfl)
