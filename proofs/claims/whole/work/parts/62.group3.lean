abbrev b_Gr_of : ByteArray := prog_4_method_2_code
abbrev y_Gr_of : MethodName := ⟨"BallotBoard$Group", "of", "(JJ)LBallotBoard$Group;"⟩
abbrev w_Gr_of : List Cond := .code y_Gr_of b_Gr_of 7 (some (.object "BallotBoard$Group")) :: gw
theorem d_Gr_of_0 : decode b_Gr_of 0 = .ok (.lload_n 0, 1) := by decide +kernel
theorem d_Gr_of_1 : decode b_Gr_of 1 = .ok (.ldc2_w 33, 3) := by decide +kernel
theorem d_Gr_of_4 : decode b_Gr_of 4 = .ok (.lcmp, 1) := by decide +kernel
theorem d_Gr_of_5 : decode b_Gr_of 5 = .ok (.ifCond .lt 37, 3) := by decide +kernel
theorem d_Gr_of_8 : decode b_Gr_of 8 = .ok (.lload_n 0, 1) := by decide +kernel
theorem d_Gr_of_9 : decode b_Gr_of 9 = .ok (.ldc2_w 35, 3) := by decide +kernel
theorem d_Gr_of_12 : decode b_Gr_of 12 = .ok (.lcmp, 1) := by decide +kernel
theorem d_Gr_of_13 : decode b_Gr_of 13 = .ok (.ifCond .gt 29, 3) := by decide +kernel
theorem d_Gr_of_16 : decode b_Gr_of 16 = .ok (.lload_n 0, 1) := by decide +kernel
theorem d_Gr_of_17 : decode b_Gr_of 17 = .ok (.ldc2_w 37, 3) := by decide +kernel
theorem d_Gr_of_20 : decode b_Gr_of 20 = .ok (.land, 1) := by decide +kernel
theorem d_Gr_of_21 : decode b_Gr_of 21 = .ok (.ldc2_w 37, 3) := by decide +kernel
theorem d_Gr_of_24 : decode b_Gr_of 24 = .ok (.lcmp, 1) := by decide +kernel
theorem d_Gr_of_25 : decode b_Gr_of 25 = .ok (.ifCond .ne 17, 3) := by decide +kernel
theorem d_Gr_of_28 : decode b_Gr_of 28 = .ok (.lload_n 2, 1) := by decide +kernel
theorem d_Gr_of_29 : decode b_Gr_of 29 = .ok (.ldc2_w 39, 3) := by decide +kernel
theorem d_Gr_of_32 : decode b_Gr_of 32 = .ok (.lcmp, 1) := by decide +kernel
theorem d_Gr_of_33 : decode b_Gr_of 33 = .ok (.ifCond .lt 9, 3) := by decide +kernel
theorem d_Gr_of_36 : decode b_Gr_of 36 = .ok (.lload_n 2, 1) := by decide +kernel
theorem d_Gr_of_37 : decode b_Gr_of 37 = .ok (.lload_n 0, 1) := by decide +kernel
theorem d_Gr_of_38 : decode b_Gr_of 38 = .ok (.lcmp, 1) := by decide +kernel
theorem d_Gr_of_39 : decode b_Gr_of 39 = .ok (.ifCond .lt 5, 3) := by decide +kernel
theorem d_Gr_of_42 : decode b_Gr_of 42 = .ok (.aconst_null, 1) := by decide +kernel
theorem d_Gr_of_43 : decode b_Gr_of 43 = .ok (.areturn, 1) := by decide +kernel
theorem d_Gr_of_44 : decode b_Gr_of 44 = .ok (.new 21, 3) := by decide +kernel
theorem d_Gr_of_47 : decode b_Gr_of 47 = .ok (.dup, 1) := by decide +kernel
theorem d_Gr_of_48 : decode b_Gr_of 48 = .ok (.lload_n 0, 1) := by decide +kernel
theorem d_Gr_of_49 : decode b_Gr_of 49 = .ok (.invokespecial 41, 3) := by decide +kernel
theorem d_Gr_of_52 : decode b_Gr_of 52 = .ok (.astore 4, 2) := by decide +kernel
theorem d_Gr_of_54 : decode b_Gr_of 54 = .ok (.new 21, 3) := by decide +kernel
theorem d_Gr_of_57 : decode b_Gr_of 57 = .ok (.dup, 1) := by decide +kernel
theorem d_Gr_of_58 : decode b_Gr_of 58 = .ok (.lload_n 0, 1) := by decide +kernel
theorem d_Gr_of_59 : decode b_Gr_of 59 = .ok (.iconst 1, 1) := by decide +kernel
theorem d_Gr_of_60 : decode b_Gr_of 60 = .ok (.lshr, 1) := by decide +kernel
theorem d_Gr_of_61 : decode b_Gr_of 61 = .ok (.invokespecial 41, 3) := by decide +kernel
theorem d_Gr_of_64 : decode b_Gr_of 64 = .ok (.astore 5, 2) := by decide +kernel
theorem d_Gr_of_66 : decode b_Gr_of 66 = .ok (.aload 5, 2) := by decide +kernel
theorem d_Gr_of_68 : decode b_Gr_of 68 = .ok (.invokevirtual 44, 3) := by decide +kernel
theorem d_Gr_of_71 : decode b_Gr_of 71 = .ok (.ifCond .eq 11, 3) := by decide +kernel
theorem d_Gr_of_74 : decode b_Gr_of 74 = .ok (.aload 4, 2) := by decide +kernel
theorem d_Gr_of_76 : decode b_Gr_of 76 = .ok (.invokevirtual 44, 3) := by decide +kernel
theorem d_Gr_of_79 : decode b_Gr_of 79 = .ok (.ifCond .ne 5, 3) := by decide +kernel
theorem d_Gr_of_82 : decode b_Gr_of 82 = .ok (.aconst_null, 1) := by decide +kernel
theorem d_Gr_of_83 : decode b_Gr_of 83 = .ok (.areturn, 1) := by decide +kernel
theorem d_Gr_of_84 : decode b_Gr_of 84 = .ok (.new 8, 3) := by decide +kernel
theorem d_Gr_of_87 : decode b_Gr_of 87 = .ok (.dup, 1) := by decide +kernel
theorem d_Gr_of_88 : decode b_Gr_of 88 = .ok (.aload 4, 2) := by decide +kernel
theorem d_Gr_of_90 : decode b_Gr_of 90 = .ok (.aload 5, 2) := by decide +kernel
theorem d_Gr_of_92 : decode b_Gr_of 92 = .ok (.lload_n 2, 1) := by decide +kernel
theorem d_Gr_of_93 : decode b_Gr_of 93 = .ok (.invokespecial 48, 3) := by decide +kernel
theorem d_Gr_of_96 : decode b_Gr_of 96 = .ok (.astore 6, 2) := by decide +kernel
theorem d_Gr_of_98 : decode b_Gr_of 98 = .ok (.aload 6, 2) := by decide +kernel
theorem d_Gr_of_100 : decode b_Gr_of 100 = .ok (.lload_n 2, 1) := by decide +kernel
theorem d_Gr_of_101 : decode b_Gr_of 101 = .ok (.invokevirtual 51, 3) := by decide +kernel
theorem d_Gr_of_104 : decode b_Gr_of 104 = .ok (.ifCond .eq 8, 3) := by decide +kernel
theorem d_Gr_of_107 : decode b_Gr_of 107 = .ok (.aload 6, 2) := by decide +kernel
theorem d_Gr_of_109 : decode b_Gr_of 109 = .ok (.goto 4, 3) := by decide +kernel
theorem d_Gr_of_112 : decode b_Gr_of 112 = .ok (.aconst_null, 1) := by decide +kernel
theorem d_Gr_of_113 : decode b_Gr_of 113 = .ok (.areturn, 1) := by decide +kernel
set_option maxHeartbeats 4000000 in
set_option maxRecDepth 100000 in
theorem c_Gr_of (l : Launch) (H0 : Heap) (dC : Nat → ClassId) (dI : Nat → Nat → Nat) (wA : Nat) (x1 x2 : Int64) : Met l y_Gr_of w_Gr_of ({ frames := 4, cells := 3, slots := 18, locals := 116 }) (va_Pc [.long x1, .long x2] (fun U => U.heap = H0 ∧ va_K (dC, dI) classes [] U ∧ va_Z "BallotBoard$Modulus" "WITNESSES" "[I" (.ref wA) (fun q => H0.size ≤ q) U H0 ∧ va_T .int wA 9 (fun j => .int (wit j)) (fun q => H0.size ≤ q) U H0)) (va_Qq (of_post x1 x2) (of_B dC dI classes H0.size) (fun q => H0.size ≤ q)) 3 18 (fun q => H0.size ≤ q) := by
  refine Met.ofW (cc := b_Gr_of) (maxL := 7) (ret := (some (.object "BallotBoard$Group"))) (by decide) rfl ?_
  intro p e s m args below meth c s₁ Bd hml hv
  obtain ⟨rfl, hH, hK, hZ, hT⟩ := hv
  subst hH
  have hx := Bd.exec
  have hb := Bd.bytes
  have hr := Bd.returns
  have hts := atoms_spec (ws := w_Gr_of) Bd.pre
  have hown : s.vm.findClass "BallotBoard$Group" = some m.cls := findClass_of_methodNamed Bd.named
  have hlocks := Bd.notSynchronized
  obtain ⟨A, hAe⟩ : ∃ A : Nat → Prop, A = fun q => s.heap.size ≤ q := ⟨_, rfl⟩
  rw [← hAe] at hZ hT ⊢
  have hA : ∀ q : Nat, s.heap.size ≤ q → A q := fun q h => by rw [hAe]; exact h
  have hS : va_S A s.heap s.heap [] := va_S.rf
  have hP : va_P (dC, dI) classes [] s.heap := fun k q h => by simp at h
  have hD : va_D A [] := ⟨fun i j p q h => by simp at h, fun k q h => by simp at h⟩
  have hK0 : va_K (dC, dI) classes [] s := hK
  have hl := lv_entry ([.long x1, .long x2]) (n := 7) (Nat.le_of_ble_eq_true rfl)
  rw [lg_entry_eq]
  generalize (lg_sl ([.long x1, .long x2]) ++ List.replicate (7 - (lg_sl ([.long x1, .long x2])).length) Slot.unset).toArray = ls at hl ⊢
  have hl : lv_has ls 7 [(0, .long x1), (2, .long x2)] := hl
  refine lv_lload_n hx hb d_Gr_of_0 rfl (lv_at hl 0 rfl) ?_
  refine lv_ldc2 (v := 7) hx hb hown (hts _ (List.mem_cons_of_mem _ gk_186)) d_Gr_of_1 ?_
  refine W.lcmp hx hb d_Gr_of_4 ?_
  refine lv_if_lt (tgt := 42) hx hb d_Gr_of_5 (by decide) (fun c_1 => ?_) (fun c_1 => ?_)
  · -- taken
    have hbad : ¬ of_cond x1 x2 := of_lt (c := 7) rfl (by omega) c_1 (by omega)
    refine lv_null hx hb d_Gr_of_42 ?_
    refine W.widen (k := 3) (n := 18) (by decide) (by decide) ?_
    exact W.aret (v := .null) hx hb hr (Or.inl ⟨_, rfl⟩) (Or.inl rfl) (fun t ht hW => ⟨⟨none, none, rfl, ⟨rfl, hbad⟩, trivial⟩, hS.F ht⟩) hS.2.2 d_Gr_of_43
  · -- not taken
    obtain ⟨P, hP63, hP7, rfl⟩ := l_ge 7 (by omega) rfl c_1
    refine lv_lload_n hx hb d_Gr_of_8 rfl (lv_at hl 0 rfl) ?_
    refine lv_ldc2 (v := 2305843009213693952) hx hb hown (hts _ (List.mem_cons_of_mem _ gk_187)) d_Gr_of_9 ?_
    refine W.lcmp hx hb d_Gr_of_12 ?_
    refine lv_if_gt (tgt := 42) hx hb d_Gr_of_13 (by decide) (fun c_2 => ?_) (fun c_2 => ?_)
    · -- taken
      have hbad : ¬ of_cond (lN P) x2 := by
        rintro ⟨P2, G2, e1, -, -, h2, -⟩
        have e3 := ln_inj hP63 (by omega) e1
        have := (cmp_gt hP63 2305843009213693952 (by omega) c61).mp c_2
        omega
      refine lv_null hx hb d_Gr_of_42 ?_
      refine W.widen (k := 3) (n := 18) (by decide) (by decide) ?_
      exact W.aret (v := .null) hx hb hr (Or.inl ⟨_, rfl⟩) (Or.inl rfl) (fun t ht hW => ⟨⟨none, none, rfl, ⟨rfl, hbad⟩, trivial⟩, hS.F ht⟩) hS.2.2 d_Gr_of_43
    · -- not taken
      have hP61 : P ≤ 2 ^ 61 := Nat.le_of_not_lt (fun h => c_2 ((cmp_gt hP63 2305843009213693952 (by omega) c61).mpr h))
      refine lv_lload_n hx hb d_Gr_of_16 rfl (lv_at hl 0 rfl) ?_
      refine lv_ldc2 (v := 3) hx hb hown (hts _ (List.mem_cons_of_mem _ gk_188)) d_Gr_of_17 ?_
      refine lv_land hx hb d_Gr_of_20 ?_
      rw [show ((lN P) &&& 3 : Int64) = (lN (P % 4)) from m_and3 (by omega)]
      refine lv_ldc2 (v := 3) hx hb hown (hts _ (List.mem_cons_of_mem _ gk_188)) d_Gr_of_21 ?_
      refine W.lcmp hx hb d_Gr_of_24 ?_
      refine lv_if_ne (tgt := 42) hx hb d_Gr_of_25 (by decide) (fun c_3 => ?_) (fun c_3 => ?_)
      · -- taken
        have hbad : ¬ of_cond (lN P) x2 := by
          rintro ⟨P2, G2, e1, -, -, h2, h4, -⟩
          have e3 := ln_inj hP63 (by omega) e1
          subst e3
          exact c_3 ((cmpe (by omega) 3 (by omega) rfl).mpr h4)
        refine lv_null hx hb d_Gr_of_42 ?_
        refine W.widen (k := 3) (n := 18) (by decide) (by decide) ?_
        exact W.aret (v := .null) hx hb hr (Or.inl ⟨_, rfl⟩) (Or.inl rfl) (fun t ht hW => ⟨⟨none, none, rfl, ⟨rfl, hbad⟩, trivial⟩, hS.F ht⟩) hS.2.2 d_Gr_of_43
      · -- not taken
        have hP4 : P % 4 = 3 := (cmpe (by omega) 3 (by omega) rfl).mp c_3
        refine lv_lload_n hx hb d_Gr_of_28 rfl (lv_at hl 1 rfl) ?_
        refine lv_ldc2 (v := 2) hx hb hown (hts _ (List.mem_cons_of_mem _ gk_189)) d_Gr_of_29 ?_
        refine W.lcmp hx hb d_Gr_of_32 ?_
        refine lv_if_lt (tgt := 42) hx hb d_Gr_of_33 (by decide) (fun c_4 => ?_) (fun c_4 => ?_)
        · -- taken
          have hbad : ¬ of_cond (lN P) x2 := by
            rintro ⟨P2, G2, e1, rfl, h7, h2, h4, -, -, hg2, hgp, -⟩
            have := (cmp2 (by omega) 2 (by omega) rfl).mp c_4
            omega
          refine lv_null hx hb d_Gr_of_42 ?_
          refine W.widen (k := 3) (n := 18) (by decide) (by decide) ?_
          exact W.aret (v := .null) hx hb hr (Or.inl ⟨_, rfl⟩) (Or.inl rfl) (fun t ht hW => ⟨⟨none, none, rfl, ⟨rfl, hbad⟩, trivial⟩, hS.F ht⟩) hS.2.2 d_Gr_of_43
        · -- not taken
          obtain ⟨G, hG63, hG2, rfl⟩ := l_ge 2 (by omega) rfl c_4
          refine lv_lload_n hx hb d_Gr_of_36 rfl (lv_at hl 1 rfl) ?_
          refine lv_lload_n hx hb d_Gr_of_37 rfl (lv_at hl 0 rfl) ?_
          refine W.lcmp hx hb d_Gr_of_38 ?_
          refine lv_if_lt (tgt := 44) hx hb d_Gr_of_39 (by decide) (fun c_5 => ?_) (fun c_5 => ?_)
          · -- taken
            have hGP : G < P := (ln_cmp_lt hG63 hP63).mp c_5
            obtain ⟨Q, hQ⟩ : ∃ x, x = P / 2 := ⟨_, rfl⟩
            refine va_new (ci := 0) (fs := [.long 0, .long 0, .long 0, .long 0, .long 0, .long 0, .int 0]) (C := "BallotBoard$Modulus") (T := F_Mo) (N := 7) hx hb hts (fun w9 h9 => List.mem_cons_of_mem _ (i_Mo w9 h9)) t_Mo t_Mo_ok hown (hts _ (List.mem_cons_of_mem _ gk_190)) (hts _ (List.mem_cons_of_mem _ gk_191)) (hts _ (List.mem_cons_of_mem _ gk_9)) hK hP hD hS hA rfl (fun j hj => by
              match j, hj with
              | 0, _ => rfl
              | 1, _ => rfl
              | 2, _ => rfl
              | 3, _ => rfl
              | 4, _ => rfl
              | 5, _ => rfl
              | 6, _ => rfl
              | j + 7, hj => exact absurd hj (by omega)) (Nat.le_of_ble_eq_true rfl) (Nat.le_of_ble_eq_true rfl) d_Gr_of_44 (fun q44 H hP hD hS => ?_)
            have hP : va_P (dC, dI) classes [(q44, .inr (0, [.long 0, .long 0, .long 0, .long 0, .long 0, .long 0, .int 0]))] H := hP
            have hD : va_D A [(q44, .inr (0, [.long 0, .long 0, .long 0, .long 0, .long 0, .long 0, .int 0]))] := hD
            refine W.widen (k := 1) (n := 7) (by decide) (by decide) ?_
            refine lv_dup hx hb d_Gr_of_47 rfl ?_
            refine lv_lload_n hx hb d_Gr_of_48 rfl (lv_at hl 0 rfl) ?_
            have hPc := hP.sub (ws' := [(q44, .inr (0, [.long 0, .long 0, .long 0, .long 0, .long 0, .long 0, .int 0]))]) [0] rfl
            have hDc := hD.sub (ws' := [(q44, .inr (0, [.long 0, .long 0, .long 0, .long 0, .long 0, .long 0, .int 0]))]) [0] (by decide) rfl
            have hKc := hK.sub (tys' := []) [] rfl
            have hFc := va_free (wc := [(q44, .inr (0, [.long 0, .long 0, .long 0, .long 0, .long 0, .long 0, .int 0]))]) hD hS hA [0] rfl
            refine va_callv (va_runI (As := [.long (lN P)]) (rest := [.ref q44]) ⟨hx, hb, hml, hown, hts⟩ (c_Mo_init l dC dI q44 H.size P (by omega) (by omega) (by omega)) (cwI 1 hts (gw_good gk_194) rfl rfl rfl (hts _ (List.mem_cons_of_mem _ gk_9)) (hts _ (List.mem_cons_of_mem _ gk_192)) (hts _ (List.mem_cons_of_mem _ gk_193)) rfl (by decide +kernel) ⟨Nat.le_of_ble_eq_true rfl, Nat.le_of_ble_eq_true rfl⟩) ⟨fun a U g mk q => by obtain ⟨q0, q1, qP, qK, qD⟩ := q; exact ⟨q0, q1, qP, va_K.moved (u := U) (U := U.calling g mk a) (Vm.Alike.refl U.vm) qK, qD⟩, fun U hU hW => ⟨rfl, by rw [hU], by rw [hU]; exact hPc, va_K.moved hW.alike hKc, hDc.weaken (fun _ _ _ _ => trivial)⟩⟩ rfl rfl hl.1 rfl (lv_room (Nat.le_of_ble_eq_true rfl)) d_Gr_of_49 ⟨Nat.le_of_ble_eq_true rfl, Nat.le_of_ble_eq_true rfl⟩) hS (fun q _ h => hFc q h) hFc (fun u9 t9 H1 locs ht hvm hw hB hz1 hk1 hS => ?_)
            obtain ⟨f1, k1⟩ := u9
            have hokF : md_ok P f1 k1 := hw
            obtain ⟨hP1, hK1, hD1⟩ := hB
            rw [ht] at hP1
            obtain ⟨hP, hD⟩ := va_join (wr := []) (w1 := [(q44, .inr (0, [.long (lN P), .long (lN (P % 2 ^ 31)), .long (lN (P / 2 ^ 31)), .long (lN f1), .long (lN (2 ^ 62 % P)), .long (lN (2 ^ 124 % P)), .int (nI k1)]))]) hP hD [0] [] rfl rfl (by decide) (by decide) hk1 hFc hP1 hD1
            generalize H1 = H at hP hS ⊢
            have hP : va_P (dC, dI) classes [(q44, .inr (0, [.long (lN P), .long (lN (P % 2 ^ 31)), .long (lN (P / 2 ^ 31)), .long (lN f1), .long (lN (2 ^ 62 % P)), .long (lN (2 ^ 124 % P)), .int (nI k1)]))] H := hP
            have hD : va_D A [(q44, .inr (0, [.long (lN P), .long (lN (P % 2 ^ 31)), .long (lN (P / 2 ^ 31)), .long (lN f1), .long (lN (2 ^ 62 % P)), .long (lN (2 ^ 124 % P)), .int (nI k1)]))] := hD
            refine lv_astore (lv' := [(4, .ref q44), (0, .long (lN P)), (2, .long (lN G))]) hx hb d_Gr_of_52 hl (by decide) rfl (fun ls hl => ?_)
            refine va_new (ci := 0) (fs := [.long 0, .long 0, .long 0, .long 0, .long 0, .long 0, .int 0]) (C := "BallotBoard$Modulus") (T := F_Mo) (N := 7) hx hb hts (fun w9 h9 => List.mem_cons_of_mem _ (i_Mo w9 h9)) t_Mo t_Mo_ok hown (hts _ (List.mem_cons_of_mem _ gk_190)) (hts _ (List.mem_cons_of_mem _ gk_191)) (hts _ (List.mem_cons_of_mem _ gk_9)) hK hP hD hS hA rfl (fun j hj => by
              match j, hj with
              | 0, _ => rfl
              | 1, _ => rfl
              | 2, _ => rfl
              | 3, _ => rfl
              | 4, _ => rfl
              | 5, _ => rfl
              | 6, _ => rfl
              | j + 7, hj => exact absurd hj (by omega)) (Nat.le_of_ble_eq_true rfl) (Nat.le_of_ble_eq_true rfl) d_Gr_of_54 (fun q54 H hP hD hS => ?_)
            have hP : va_P (dC, dI) classes [(q44, .inr (0, [.long (lN P), .long (lN (P % 2 ^ 31)), .long (lN (P / 2 ^ 31)), .long (lN f1), .long (lN (2 ^ 62 % P)), .long (lN (2 ^ 124 % P)), .int (nI k1)])), (q54, .inr (0, [.long 0, .long 0, .long 0, .long 0, .long 0, .long 0, .int 0]))] H := hP
            have hD : va_D A [(q44, .inr (0, [.long (lN P), .long (lN (P % 2 ^ 31)), .long (lN (P / 2 ^ 31)), .long (lN f1), .long (lN (2 ^ 62 % P)), .long (lN (2 ^ 124 % P)), .int (nI k1)])), (q54, .inr (0, [.long 0, .long 0, .long 0, .long 0, .long 0, .long 0, .int 0]))] := hD
            refine W.widen (k := 2) (n := 14) (by decide) (by decide) ?_
            refine lv_dup hx hb d_Gr_of_57 rfl ?_
            refine lv_lload_n hx hb d_Gr_of_58 rfl (lv_at hl 1 rfl) ?_
            refine lv_iconst (v := 1) hx hb d_Gr_of_59 (by decide) ?_
            refine lv_lshr (v := (lN P) >>> ((1 : Int32).toInt64 &&& 63)) hx hb d_Gr_of_60 rfl ?_
            rw [show ((lN P) >>> ((1 : Int32).toInt64 &&& 63) : Int64) = (lN Q) from by rw [hQ]; exact ln_half (by omega)]
            have hPc := hP.sub (ws' := [(q54, .inr (0, [.long 0, .long 0, .long 0, .long 0, .long 0, .long 0, .int 0]))]) [1] rfl
            have hDc := hD.sub (ws' := [(q54, .inr (0, [.long 0, .long 0, .long 0, .long 0, .long 0, .long 0, .int 0]))]) [1] (by decide) rfl
            have hKc := hK.sub (tys' := []) [] rfl
            have hFc := va_free (wc := [(q54, .inr (0, [.long 0, .long 0, .long 0, .long 0, .long 0, .long 0, .int 0]))]) hD hS hA [1] rfl
            refine va_callv (va_runI (As := [.long (lN Q)]) (rest := [.ref q54]) ⟨hx, hb, hml, hown, hts⟩ (c_Mo_init l dC dI q54 H.size Q (by omega) (by omega) (by omega)) (cwI 1 hts (gw_good gk_194) rfl rfl rfl (hts _ (List.mem_cons_of_mem _ gk_9)) (hts _ (List.mem_cons_of_mem _ gk_192)) (hts _ (List.mem_cons_of_mem _ gk_193)) rfl (by decide +kernel) ⟨Nat.le_of_ble_eq_true rfl, Nat.le_of_ble_eq_true rfl⟩) ⟨fun a U g mk q => by obtain ⟨q0, q1, qP, qK, qD⟩ := q; exact ⟨q0, q1, qP, va_K.moved (u := U) (U := U.calling g mk a) (Vm.Alike.refl U.vm) qK, qD⟩, fun U hU hW => ⟨rfl, by rw [hU], by rw [hU]; exact hPc, va_K.moved hW.alike hKc, hDc.weaken (fun _ _ _ _ => trivial)⟩⟩ rfl rfl hl.1 rfl (lv_room (Nat.le_of_ble_eq_true rfl)) d_Gr_of_61 ⟨Nat.le_of_ble_eq_true rfl, Nat.le_of_ble_eq_true rfl⟩) hS (fun q _ h => hFc q h) hFc (fun u9 t9 H1 locs ht hvm hw hB hz1 hk1 hS => ?_)
            obtain ⟨f2, k2⟩ := u9
            have hokE : md_ok Q f2 k2 := hw
            obtain ⟨hP1, hK1, hD1⟩ := hB
            rw [ht] at hP1
            obtain ⟨hP, hD⟩ := va_join (wr := [(q44, .inr (0, [.long (lN P), .long (lN (P % 2 ^ 31)), .long (lN (P / 2 ^ 31)), .long (lN f1), .long (lN (2 ^ 62 % P)), .long (lN (2 ^ 124 % P)), .int (nI k1)]))]) (w1 := [(q54, .inr (0, [.long (lN Q), .long (lN (Q % 2 ^ 31)), .long (lN (Q / 2 ^ 31)), .long (lN f2), .long (lN (2 ^ 62 % Q)), .long (lN (2 ^ 124 % Q)), .int (nI k2)]))]) hP hD [1] [0] rfl rfl (by decide) (by decide) hk1 hFc hP1 hD1
            generalize H1 = H at hP hS ⊢
            have hP : va_P (dC, dI) classes [(q44, .inr (0, [.long (lN P), .long (lN (P % 2 ^ 31)), .long (lN (P / 2 ^ 31)), .long (lN f1), .long (lN (2 ^ 62 % P)), .long (lN (2 ^ 124 % P)), .int (nI k1)])), (q54, .inr (0, [.long (lN Q), .long (lN (Q % 2 ^ 31)), .long (lN (Q / 2 ^ 31)), .long (lN f2), .long (lN (2 ^ 62 % Q)), .long (lN (2 ^ 124 % Q)), .int (nI k2)]))] H := hP
            have hD : va_D A [(q44, .inr (0, [.long (lN P), .long (lN (P % 2 ^ 31)), .long (lN (P / 2 ^ 31)), .long (lN f1), .long (lN (2 ^ 62 % P)), .long (lN (2 ^ 124 % P)), .int (nI k1)])), (q54, .inr (0, [.long (lN Q), .long (lN (Q % 2 ^ 31)), .long (lN (Q / 2 ^ 31)), .long (lN f2), .long (lN (2 ^ 62 % Q)), .long (lN (2 ^ 124 % Q)), .int (nI k2)]))] := hD
            refine lv_astore (lv' := [(5, .ref q54), (4, .ref q44), (0, .long (lN P)), (2, .long (lN G))]) hx hb d_Gr_of_64 hl (by decide) rfl (fun ls hl => ?_)
            refine lv_aload hx hb d_Gr_of_66 (lv_at hl 0 rfl) ?_
            have hPm := hP.sub (ws' := [(q54, .inr (0, md_fs Q f2 k2))]) [1] rfl
            have hZn : va_Z "BallotBoard$Modulus" "WITNESSES" "[I" (.ref wA) (fun _ => False) s H := (hZ.kept hS.2.1).narrow (fun q h => h.elim)
            have hTn : va_T .int wA 9 (fun j => .int (wit j)) (fun _ => False) s H := (hT.kept hS.2.1).narrow (fun q h => h.elim)
            refine va_calli (va_runV (As := []) (rest := []) ⟨hx, hb, hml, hown, hts⟩ (c_Mo_isPrime l H dC dI q54 wA Q f2 k2 hPm hokE) (cwV 0 hts (gw_V gk_229 gk_230 gk_231 gk_9 gk_232) rfl rfl rfl (by decide +kernel) ⟨Nat.le_of_ble_eq_true rfl, Nat.le_of_ble_eq_true rfl⟩) ⟨fun a U g mk q => ⟨q.1, q.2.1, va_K.moved (u := U) (U := U.calling g mk a) (Vm.Alike.refl U.vm) q.2.2.1, va_Z.moved (u := U) (U := U.calling g mk a) (Vm.Alike.refl U.vm) q.2.2.2.1, va_T.moved (u := U) (U := U.calling g mk a) (Vm.Alike.refl U.vm) q.2.2.2.2⟩, va_recv hK hP (ci := 0) (q0 := 1) rfl rfl, fun U hU hW => ⟨rfl, hU, va_K.moved hW.alike hK, va_Z.moved hW.alike hZn, va_T.moved hW.alike hTn⟩⟩ rfl rfl hl.1 rfl (lv_room (Nat.le_of_ble_eq_true rfl)) d_Gr_of_68 ⟨Nat.le_of_ble_eq_true rfl, Nat.le_of_ble_eq_true rfl⟩) hS (fun q _ h => h.elim) (fun q h => h.elim) (fun r_68 u9 t9 H1 locs ht hvm hw hB hz1 hk1 hS => ?_)
            obtain rfl : H = H1 := hB.symm.trans ht
            have hprQ := hw
            refine lv_if_eq (tgt := 82) hx hb d_Gr_of_71 (by decide) (fun c_6 => ?_) (fun c_6 => ?_)
            · -- taken
              have hbad : ¬ of_cond (lN P) (lN G) := by
                rintro ⟨P2, G2, e1, e2, -, h2, -, hq, -, hg2, hgp, -⟩
                have e3 := ln_inj hP63 (by omega) e1
                have e4 := ln_inj hG63 (by omega) e2
                subst e3
                subst e4
                rw [← hQ] at hq
                rcases hprQ with ⟨h, _⟩ | ⟨_, h⟩
                · rw [h] at c_6
                  exact absurd c_6 (by decide)
                · exact h hq
              refine lv_null hx hb d_Gr_of_82 ?_
              refine W.widen (k := 3) (n := 18) (by decide) (by decide) ?_
              exact W.aret (v := .null) hx hb hr (Or.inl ⟨_, rfl⟩) (Or.inl rfl) (fun t ht hW => ⟨⟨none, none, rfl, ⟨rfl, hbad⟩, trivial⟩, hS.F ht⟩) hS.2.2 d_Gr_of_83
            · -- not taken
              have hqC : nt_Cl Q := by
                rcases hprQ with ⟨_, h⟩ | ⟨h, _⟩
                · exact h
                · exact absurd h c_6
              refine lv_aload hx hb d_Gr_of_74 (lv_at hl 1 rfl) ?_
              have hPm := hP.sub (ws' := [(q44, .inr (0, md_fs P f1 k1))]) [0] rfl
              have hZn : va_Z "BallotBoard$Modulus" "WITNESSES" "[I" (.ref wA) (fun _ => False) s H := (hZ.kept hS.2.1).narrow (fun q h => h.elim)
              have hTn : va_T .int wA 9 (fun j => .int (wit j)) (fun _ => False) s H := (hT.kept hS.2.1).narrow (fun q h => h.elim)
              refine va_calli (va_runV (As := []) (rest := []) ⟨hx, hb, hml, hown, hts⟩ (c_Mo_isPrime l H dC dI q44 wA P f1 k1 hPm hokF) (cwV 0 hts (gw_V gk_229 gk_230 gk_231 gk_9 gk_232) rfl rfl rfl (by decide +kernel) ⟨Nat.le_of_ble_eq_true rfl, Nat.le_of_ble_eq_true rfl⟩) ⟨fun a U g mk q => ⟨q.1, q.2.1, va_K.moved (u := U) (U := U.calling g mk a) (Vm.Alike.refl U.vm) q.2.2.1, va_Z.moved (u := U) (U := U.calling g mk a) (Vm.Alike.refl U.vm) q.2.2.2.1, va_T.moved (u := U) (U := U.calling g mk a) (Vm.Alike.refl U.vm) q.2.2.2.2⟩, va_recv hK hP (ci := 0) (q0 := 0) rfl rfl, fun U hU hW => ⟨rfl, hU, va_K.moved hW.alike hK, va_Z.moved hW.alike hZn, va_T.moved hW.alike hTn⟩⟩ rfl rfl hl.1 rfl (lv_room (Nat.le_of_ble_eq_true rfl)) d_Gr_of_76 ⟨Nat.le_of_ble_eq_true rfl, Nat.le_of_ble_eq_true rfl⟩) hS (fun q _ h => h.elim) (fun q h => h.elim) (fun r_76 u9 t9 H1 locs ht hvm hw hB hz1 hk1 hS => ?_)
              obtain rfl : H = H1 := hB.symm.trans ht
              have hprP := hw
              refine lv_if_ne (tgt := 84) hx hb d_Gr_of_79 (by decide) (fun c_7 => ?_) (fun c_7 => ?_)
              · -- taken
                have hpC : nt_Cl P := by
                  rcases hprP with ⟨_, h⟩ | ⟨h, _⟩
                  · exact h
                  · exact absurd h c_7
                refine va_new (ci := 1) (fs := [.null, .null, .long 0, .long 0]) (C := "BallotBoard$Group") (T := F_Gr) (N := 4) hx hb hts (fun w9 h9 => List.mem_cons_of_mem _ (i_Gr w9 h9)) t_Gr t_Gr_ok hown (hts _ (List.mem_cons_of_mem _ gk_251)) (hts _ (List.mem_cons_of_mem _ gk_252)) (hts _ (List.mem_cons_of_mem _ gk_8)) hK hP hD hS hA rfl (fun j hj => by
                  match j, hj with
                  | 0, _ => rfl
                  | 1, _ => rfl
                  | 2, _ => rfl
                  | 3, _ => rfl
                  | j + 4, hj => exact absurd hj (by omega)) (Nat.le_of_ble_eq_true rfl) (Nat.le_of_ble_eq_true rfl) d_Gr_of_84 (fun q84 H hP hD hS => ?_)
                have hP : va_P (dC, dI) classes [(q44, .inr (0, [.long (lN P), .long (lN (P % 2 ^ 31)), .long (lN (P / 2 ^ 31)), .long (lN f1), .long (lN (2 ^ 62 % P)), .long (lN (2 ^ 124 % P)), .int (nI k1)])), (q54, .inr (0, [.long (lN Q), .long (lN (Q % 2 ^ 31)), .long (lN (Q / 2 ^ 31)), .long (lN f2), .long (lN (2 ^ 62 % Q)), .long (lN (2 ^ 124 % Q)), .int (nI k2)])), (q84, .inr (1, [.null, .null, .long 0, .long 0]))] H := hP
                have hD : va_D A [(q44, .inr (0, [.long (lN P), .long (lN (P % 2 ^ 31)), .long (lN (P / 2 ^ 31)), .long (lN f1), .long (lN (2 ^ 62 % P)), .long (lN (2 ^ 124 % P)), .int (nI k1)])), (q54, .inr (0, [.long (lN Q), .long (lN (Q % 2 ^ 31)), .long (lN (Q / 2 ^ 31)), .long (lN f2), .long (lN (2 ^ 62 % Q)), .long (lN (2 ^ 124 % Q)), .int (nI k2)])), (q84, .inr (1, [.null, .null, .long 0, .long 0]))] := hD
                refine W.widen (k := 3) (n := 18) (by decide) (by decide) ?_
                refine lv_dup hx hb d_Gr_of_87 rfl ?_
                refine lv_aload hx hb d_Gr_of_88 (lv_at hl 1 rfl) ?_
                refine lv_aload hx hb d_Gr_of_90 (lv_at hl 0 rfl) ?_
                refine lv_lload_n hx hb d_Gr_of_92 rfl (lv_at hl 3 rfl) ?_
                have hPc := hP.sub (ws' := [(q84, .inr (1, [.null, .null, .long 0, .long 0])), (q44, .inr (0, [.long (lN P), .long (lN (P % 2 ^ 31)), .long (lN (P / 2 ^ 31)), .long (lN f1), .long (lN (2 ^ 62 % P)), .long (lN (2 ^ 124 % P)), .int (nI k1)])), (q54, .inr (0, [.long (lN Q), .long (lN (Q % 2 ^ 31)), .long (lN (Q / 2 ^ 31)), .long (lN f2), .long (lN (2 ^ 62 % Q)), .long (lN (2 ^ 124 % Q)), .int (nI k2)]))]) [2, 0, 1] rfl
                have hDc := hD.sub (ws' := [(q84, .inr (1, [.null, .null, .long 0, .long 0])), (q44, .inr (0, [.long (lN P), .long (lN (P % 2 ^ 31)), .long (lN (P / 2 ^ 31)), .long (lN f1), .long (lN (2 ^ 62 % P)), .long (lN (2 ^ 124 % P)), .int (nI k1)])), (q54, .inr (0, [.long (lN Q), .long (lN (Q % 2 ^ 31)), .long (lN (Q / 2 ^ 31)), .long (lN f2), .long (lN (2 ^ 62 % Q)), .long (lN (2 ^ 124 % Q)), .int (nI k2)]))]) [2, 0, 1] (by decide) rfl
                have hKc := hK.sub (tys' := []) [] rfl
                have hFc := va_free (wc := [(q84, .inr (1, [.null, .null, .long 0, .long 0])), (q44, .inr (0, [.long (lN P), .long (lN (P % 2 ^ 31)), .long (lN (P / 2 ^ 31)), .long (lN f1), .long (lN (2 ^ 62 % P)), .long (lN (2 ^ 124 % P)), .int (nI k1)])), (q54, .inr (0, [.long (lN Q), .long (lN (Q % 2 ^ 31)), .long (lN (Q / 2 ^ 31)), .long (lN f2), .long (lN (2 ^ 62 % Q)), .long (lN (2 ^ 124 % Q)), .int (nI k2)]))]) hD hS hA [2, 0, 1] rfl
                refine va_callv (va_runI (As := [.ref q44, .ref q54, .long (lN G)]) (rest := [.ref q84]) ⟨hx, hb, hml, hown, hts⟩ (c_Gr_init l dC dI q84 H.size q44 q54 P f1 k1 Q f2 k2 G hokF hokE (by omega) hGP) (cwI 3 hts (gw_good gk_255) rfl rfl rfl (hts _ (List.mem_cons_of_mem _ gk_8)) (hts _ (List.mem_cons_of_mem _ gk_253)) (hts _ (List.mem_cons_of_mem _ gk_254)) rfl (by decide +kernel) ⟨Nat.le_of_ble_eq_true rfl, Nat.le_of_ble_eq_true rfl⟩) ⟨fun a U g mk q => by obtain ⟨q0, q1, qP, qK, qD⟩ := q; exact ⟨q0, q1, qP, va_K.moved (u := U) (U := U.calling g mk a) (Vm.Alike.refl U.vm) qK, qD⟩, fun U hU hW => ⟨rfl, by rw [hU], by rw [hU]; exact hPc, va_K.moved hW.alike hKc, hDc.weaken (fun _ _ _ _ => trivial)⟩⟩ rfl rfl hl.1 rfl (lv_room (Nat.le_of_ble_eq_true rfl)) d_Gr_of_93 ⟨Nat.le_of_ble_eq_true rfl, Nat.le_of_ble_eq_true rfl⟩) hS (fun q _ h => hFc q h) hFc (fun u9 t9 H1 locs ht hvm hw hB hz1 hk1 hS => ?_)
                have hw9 := hw
                obtain ⟨hP1, hK1, hD1⟩ := hB
                rw [ht] at hP1
                obtain ⟨hP, hD⟩ := va_join (wr := []) (w1 := [(q84, .inr (1, [.ref q44, .ref q54, .long (lN G), .long (lN (G ^ (Q - 1) % P))])), (q44, .inr (0, [.long (lN P), .long (lN (P % 2 ^ 31)), .long (lN (P / 2 ^ 31)), .long (lN f1), .long (lN (2 ^ 62 % P)), .long (lN (2 ^ 124 % P)), .int (nI k1)])), (q54, .inr (0, [.long (lN Q), .long (lN (Q % 2 ^ 31)), .long (lN (Q / 2 ^ 31)), .long (lN f2), .long (lN (2 ^ 62 % Q)), .long (lN (2 ^ 124 % Q)), .int (nI k2)]))]) hP hD [2, 0, 1] [] rfl rfl (by decide) (by decide) hk1 hFc hP1 hD1
                generalize H1 = H at hP hS ⊢
                have hP : va_P (dC, dI) classes [(q84, .inr (1, [.ref q44, .ref q54, .long (lN G), .long (lN (G ^ (Q - 1) % P))])), (q44, .inr (0, [.long (lN P), .long (lN (P % 2 ^ 31)), .long (lN (P / 2 ^ 31)), .long (lN f1), .long (lN (2 ^ 62 % P)), .long (lN (2 ^ 124 % P)), .int (nI k1)])), (q54, .inr (0, [.long (lN Q), .long (lN (Q % 2 ^ 31)), .long (lN (Q / 2 ^ 31)), .long (lN f2), .long (lN (2 ^ 62 % Q)), .long (lN (2 ^ 124 % Q)), .int (nI k2)]))] H := hP
                have hD : va_D A [(q84, .inr (1, [.ref q44, .ref q54, .long (lN G), .long (lN (G ^ (Q - 1) % P))])), (q44, .inr (0, [.long (lN P), .long (lN (P % 2 ^ 31)), .long (lN (P / 2 ^ 31)), .long (lN f1), .long (lN (2 ^ 62 % P)), .long (lN (2 ^ 124 % P)), .int (nI k1)])), (q54, .inr (0, [.long (lN Q), .long (lN (Q % 2 ^ 31)), .long (lN (Q / 2 ^ 31)), .long (lN f2), .long (lN (2 ^ 62 % Q)), .long (lN (2 ^ 124 % Q)), .int (nI k2)]))] := hD
                refine lv_astore (lv' := [(6, .ref q84), (5, .ref q54), (4, .ref q44), (0, .long (lN P)), (2, .long (lN G))]) hx hb d_Gr_of_96 hl (by decide) rfl (fun ls hl => ?_)
                refine lv_aload hx hb d_Gr_of_98 (lv_at hl 0 rfl) ?_
                refine lv_lload_n hx hb d_Gr_of_100 rfl (lv_at hl 4 rfl) ?_
                refine va_calli (va_runV (As := [.long (lN G)]) (rest := []) ⟨hx, hb, hml, hown, hts⟩ (c_Gr_has l H dC dI q84 q44 q54 P f1 k1 Q f2 k2 G (lN G) hP ⟨hokF, hokE, by omega, hG2, hGP⟩) (cwV 1 hts (gw_V gk_275 gk_276 gk_277 gk_8 gk_278) rfl rfl rfl (by decide +kernel) ⟨Nat.le_of_ble_eq_true rfl, Nat.le_of_ble_eq_true rfl⟩) ⟨fun a U g mk q => ⟨q.1, q.2.1, va_K.moved (u := U) (U := U.calling g mk a) (Vm.Alike.refl U.vm) q.2.2⟩, va_recv hK hP (ci := 1) (q0 := 0) rfl rfl, fun U hU hW => ⟨rfl, hU, va_K.moved hW.alike hK0⟩⟩ rfl rfl hl.1 rfl (lv_room (Nat.le_of_ble_eq_true rfl)) d_Gr_of_101 ⟨Nat.le_of_ble_eq_true rfl, Nat.le_of_ble_eq_true rfl⟩) hS (fun q _ h => h.elim) (fun q h => h.elim) (fun r_101 u9 t9 H1 locs ht hvm hw hB hz1 hk1 hS => ?_)
                obtain rfl : H = H1 := hB.symm.trans ht
                have hhas := hw
                refine lv_if_eq (tgt := 112) hx hb d_Gr_of_104 (by decide) (fun c_8 => ?_) (fun c_8 => ?_)
                · -- taken
                  have hbad : ¬ of_cond (lN P) (lN G) := by
                    rintro ⟨P2, G2, e1, e2, -, h2, -, -, -, hg2, hgp, hgq⟩
                    have e3 := ln_inj hP63 (by omega) e1
                    have e4 := ln_inj hG63 (by omega) e2
                    subst e3
                    subst e4
                    rw [← hQ] at hgq
                    rcases hhas with ⟨h, _⟩ | ⟨_, h⟩
                    · rw [h] at c_8
                      exact absurd c_8 (by decide)
                    · exact h ⟨G, rfl, by omega, hGP, hgq⟩
                  refine lv_null hx hb d_Gr_of_112 ?_
                  refine W.widen (k := 3) (n := 18) (by decide) (by decide) ?_
                  exact W.aret (v := .null) hx hb hr (Or.inl ⟨_, rfl⟩) (Or.inl rfl) (fun t ht hW => ⟨⟨none, none, rfl, ⟨rfl, hbad⟩, trivial⟩, hS.F ht⟩) hS.2.2 d_Gr_of_113
                · -- not taken
                  have hgQ : G ^ Q % P = 1 := by
                    rcases hhas with ⟨_, h⟩ | ⟨h, _⟩
                    · obtain ⟨Y, e1, _, h2, h3⟩ := h
                      have e3 := ln_inj hG63 (by omega) e1
                      subst e3
                      exact h3
                    · exact absurd h c_8
                  refine lv_aload hx hb d_Gr_of_107 (lv_at hl 0 rfl) ?_
                  refine lv_goto (tgt := 113) hx hb d_Gr_of_109 (by decide) ?_
                  refine W.widen (k := 3) (n := 18) (by decide) (by decide) ?_
                  exact W.aret (v := .ref q84) hx hb hr (Or.inl ⟨_, rfl⟩) (Or.inr ⟨_, rfl⟩) (fun t ht hW => ⟨⟨some q84, some (q84, q44, q54, P, f1, k1, Q, f2, k2, G), rfl, ⟨rfl, rfl, rfl, ⟨hokF, hokE, by omega, hG2, hGP, hgQ⟩, ⟨P, G, rfl, rfl, hP7, hP61, hP4, by rw [← hQ]; exact hqC, hpC, hG2, hGP, by rw [← hQ]; exact hgQ⟩⟩, ⟨by rw [ht]; exact hP, by rw [← hAe]; exact hD⟩⟩, hS.F ht⟩) hS.2.2 d_Gr_of_113
              · -- not taken
                have hbad : ¬ of_cond (lN P) (lN G) := by
                  rintro ⟨P2, G2, e1, e2, -, h2, -, -, hq, hg2, hgp, -⟩
                  have e3 := ln_inj hP63 (by omega) e1
                  have e4 := ln_inj hG63 (by omega) e2
                  subst e3
                  subst e4
                  rcases hprP with ⟨h, _⟩ | ⟨_, h⟩
                  · rw [h] at c_7
                    exact absurd c_7 (by decide)
                  · exact h hq
                refine lv_null hx hb d_Gr_of_82 ?_
                refine W.widen (k := 3) (n := 18) (by decide) (by decide) ?_
                exact W.aret (v := .null) hx hb hr (Or.inl ⟨_, rfl⟩) (Or.inl rfl) (fun t ht hW => ⟨⟨none, none, rfl, ⟨rfl, hbad⟩, trivial⟩, hS.F ht⟩) hS.2.2 d_Gr_of_83
          · -- not taken
            have hbad : ¬ of_cond (lN P) (lN G) := by
              rintro ⟨P2, G2, e1, e2, -, h2, -, -, -, hg2, hgp, -⟩
              have e3 := ln_inj hP63 (by omega) e1
              have e4 := ln_inj hG63 (by omega) e2
              exact c_5 ((ln_cmp_lt hG63 hP63).mpr (by omega))
            refine lv_null hx hb d_Gr_of_42 ?_
            refine W.widen (k := 3) (n := 18) (by decide) (by decide) ?_
            exact W.aret (v := .null) hx hb hr (Or.inl ⟨_, rfl⟩) (Or.inl rfl) (fun t ht hW => ⟨⟨none, none, rfl, ⟨rfl, hbad⟩, trivial⟩, hS.F ht⟩) hS.2.2 d_Gr_of_43
