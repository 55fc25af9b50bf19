def allS (N : Nat) (cl : Int32) (f : Nat → Nat) : Prop := cl = 1 ∧ ∀ i, i < N → f i ≠ 0
abbrev b_Bm_allShares : ByteArray := prog_10_method_43_code
abbrev y_Bm_allShares : MethodName := ⟨"BallotBoardModel", "allShares", "()Z"⟩
abbrev w_Bm_allShares : List Cond := .code y_Bm_allShares b_Bm_allShares 2 (some .boolean) :: gw
theorem d_Bm_allShares_0 : decode b_Bm_allShares 0 = .ok (.iconst 0, 1) := by decide +kernel
theorem d_Bm_allShares_1 : decode b_Bm_allShares 1 = .ok (.istore_n 1, 1) := by decide +kernel
theorem d_Bm_allShares_2 : decode b_Bm_allShares 2 = .ok (.iload_n 1, 1) := by decide +kernel
theorem d_Bm_allShares_3 : decode b_Bm_allShares 3 = .ok (.aload_n 0, 1) := by decide +kernel
theorem d_Bm_allShares_4 : decode b_Bm_allShares 4 = .ok (.getfield 211, 3) := by decide +kernel
theorem d_Bm_allShares_7 : decode b_Bm_allShares 7 = .ok (.if_icmp .ge 20, 3) := by decide +kernel
theorem d_Bm_allShares_10 : decode b_Bm_allShares 10 = .ok (.aload_n 0, 1) := by decide +kernel
theorem d_Bm_allShares_11 : decode b_Bm_allShares 11 = .ok (.getfield 26, 3) := by decide +kernel
theorem d_Bm_allShares_14 : decode b_Bm_allShares 14 = .ok (.iload_n 1, 1) := by decide +kernel
theorem d_Bm_allShares_15 : decode b_Bm_allShares 15 = .ok (.iaload, 1) := by decide +kernel
theorem d_Bm_allShares_16 : decode b_Bm_allShares 16 = .ok (.ifCond .ge 5, 3) := by decide +kernel
theorem d_Bm_allShares_19 : decode b_Bm_allShares 19 = .ok (.iconst 0, 1) := by decide +kernel
theorem d_Bm_allShares_20 : decode b_Bm_allShares 20 = .ok (.ireturn, 1) := by decide +kernel
theorem d_Bm_allShares_21 : decode b_Bm_allShares 21 = .ok (.iinc 1 1, 3) := by decide +kernel
theorem d_Bm_allShares_24 : decode b_Bm_allShares 24 = .ok (.goto (-22), 3) := by decide +kernel
theorem d_Bm_allShares_27 : decode b_Bm_allShares 27 = .ok (.aload_n 0, 1) := by decide +kernel
theorem d_Bm_allShares_28 : decode b_Bm_allShares 28 = .ok (.getfield 220, 3) := by decide +kernel
theorem d_Bm_allShares_31 : decode b_Bm_allShares 31 = .ok (.ireturn, 1) := by decide +kernel
set_option maxHeartbeats 8000000 in
set_option maxRecDepth 100000 in
theorem c_Bm_allShares (l : Launch) (H0 : Heap) (dC : Nat → ClassId) (dI : Nat → Nat → Nat) (cJ cI : ClassId) (m0 : Nat) (z0 z2 z3 : Int32) (z4 z5 z6 z7 z8 z9 : Int64) (cl : Int32) (a0 a1 a2 a3 a4 a5 a6 a7 a8 a9 b0 b1 oc b2 b3 b4 b5 : Nat) (N : Nat) (kf : Nat → Int32) (f : Nat → Nat) (v : Nat → Int64) (n : Nat) (hP : va_P (dC, dI) classes (mo_ws m0 z0 (nI N) z2 z3 z4 z5 z6 z7 z8 z9 cl a0 a1 a2 a3 a4 a5 a6 a7 a8 a9 b0 b1 oc b2 b3 b4 b5 ++ (iw_ws a5 cI 4 kf)) H0) (hN : N ≤ 4) (hn : n ≤ 154) (hcl : cl = 0 ∨ cl = 1) (hrk : rK 4 n f kf v) : Met l y_Bm_allShares w_Bm_allShares ({ frames := 0, cells := 0, slots := 0, locals := 0 }) (va_Pc [.ref m0] (fun U => U.heap = H0 ∧ va_K (dC, dI) classes [(cJ, .long), (cI, .int)] U)) (va_Qi (fun (r : Int32) (_ : Unit) => bz r (allS N cl f)) (fun _ t => t.heap = H0) (fun _ => False)) 0 0 (fun _ => False) := by
  refine Met.ofW (cc := b_Bm_allShares) (maxL := 2) (ret := (some .boolean)) (by decide) rfl ?_
  intro p e s m args below meth c s₁ Bd hml hv
  obtain ⟨rfl, hH, hK⟩ := hv
  subst hH
  have hx := Bd.exec
  have hb := Bd.bytes
  have hr := Bd.returns
  have hts := atoms_spec (ws := w_Bm_allShares) Bd.pre
  have hown : s.vm.findClass "BallotBoardModel" = some m.cls := findClass_of_methodNamed Bd.named
  have hlocks := Bd.notSynchronized
  have hS : va_S (fun _ => False) s.heap s.heap [] := va_S.rf
  have hl := lv_entry ([.ref m0]) (n := 2) (Nat.le_of_ble_eq_true rfl)
  rw [lg_entry_eq]
  generalize (lg_sl ([.ref m0]) ++ List.replicate (2 - (lg_sl ([.ref m0])).length) Slot.unset).toArray = ls at hl ⊢
  have hl : lv_has ls 2 [(0, .ref m0)] := hl
  have loop : ∀ (j i : Nat), i + j = N → (∀ a, a < i → f a ≠ 0) → ∀ (locs : List Loc), va_S (fun _ => False) s.heap s.heap locs → ∀ (ls : Array Slot), lv_has ls 2 [(0, .ref m0), (1, .int (nI i))] → W p l e ({ frames := 0, cells := 0, slots := 0, locals := 0 } : Room) s m ([.ref m0] : List Value).toArray below meth c s.heap locs 0 0 (MQ below (va_Qi (fun (r : Int32) (_ : Unit) => bz r (allS N cl f)) (fun _ t => t.heap = s.heap) (fun _ => False)) ([.ref m0] : List Value).toArray s 0 0 (fun _ => False)) (F0 m 2 ls []) := by
    intro j
    induction j using Nat.strongRecOn with
    | ind j ih =>
      intro i hij hall locs hS ls hl
      refine lv_iload_n hx hb d_Bm_allShares_2 rfl (lv_at hl 1 rfl) ?_
      refine lv_aload_n hx hb d_Bm_allShares_3 rfl (lv_at hl 0 rfl) ?_
      refine va_get (D := (dC, dI)) (ci := 8) (v := .int (nI N)) (C := "BallotBoardModel") (T := F_Bm) (N := 28) hx hb hts (fun w9 h9 => List.mem_cons_of_mem _ (i_Bm w9 h9)) hown hK hP 0 rfl rfl 1 (by decide) (hts _ (List.mem_cons_of_mem _ gk_920)) (fun _ h9 => h9) rfl d_Bm_allShares_4 ?_
      refine lv_icmp_ge (tgt := 27) hx hb d_Bm_allShares_7 (by decide) (fun c_1 => ?_) (fun c_1 => ?_)
      · -- taken
        have hi9 : i = N := by
          have := (nI_leI (by omega) (by omega)).mp c_1
          omega
        refine lv_aload_n hx hb d_Bm_allShares_27 rfl (lv_at hl 0 rfl) ?_
        refine va_get (D := (dC, dI)) (ci := 8) (v := .int cl) (C := "BallotBoardModel") (T := F_Bm) (N := 28) hx hb hts (fun w9 h9 => List.mem_cons_of_mem _ (i_Bm w9 h9)) hown hK hP 0 rfl rfl 10 (by decide) (hts _ (List.mem_cons_of_mem _ gk_929)) (fun _ h9 => h9) rfl d_Bm_allShares_28 ?_
        exact W.zret (v := cl) hx hb hr (by rcases hcl with h | h <;> rw [h] <;> decide) (fun t ht hW => ⟨⟨_, (), rfl, (by
          rcases hcl with h | h
          · rw [h]; exact bz_0 (fun k => absurd k.1 (by decide))
          · rw [h]; exact bz_1 ⟨rfl, fun a ha => hall a (by omega)⟩), ht⟩, hS.F ht⟩) hS.2.2 d_Bm_allShares_31
      · -- not taken
        have hi9 : i < N := Nat.lt_of_not_le (fun h => c_1 ((nI_leI (by omega) (by omega)).mpr h))
        refine lv_aload_n hx hb d_Bm_allShares_10 rfl (lv_at hl 0 rfl) ?_
        refine va_get (D := (dC, dI)) (ci := 8) (v := .ref a5) (C := "BallotBoardModel") (T := F_Bm) (N := 28) hx hb hts (fun w9 h9 => List.mem_cons_of_mem _ (i_Bm w9 h9)) hown hK hP 0 rfl rfl 16 (by decide) (hts _ (List.mem_cons_of_mem _ gk_935)) (fun _ h9 => h9) rfl d_Bm_allShares_11 ?_
        refine lv_iload_n hx hb d_Bm_allShares_14 rfl (lv_at hl 1 rfl) ?_
        refine va_iald hx hb hK hP 1 1 rfl rfl (vp_in_nI (by omega) (by omega)) d_Bm_allShares_15 ?_
        rw [show (kf (nI i : Int32).toNatClampNeg : Int32) = kf i from by rw [nI_clamp (by omega)]]
        refine lv_if_ge (tgt := 21) hx hb d_Bm_allShares_16 (by decide) (fun c_2 => ?_) (fun c_2 => ?_)
        · -- taken
          have hf9 : f i ≠ 0 := fun h => absurd ((rK_neg hrk hn (show i < 4 by omega)).mpr h) (Int32.not_lt.mpr c_2)
          obtain ⟨i_3, ei_3⟩ : ∃ y : Int32, y = (nI i) + 1 := ⟨_, rfl⟩
          refine lv_iinc (v := i_3) (lv' := [(1, .int i_3), (0, .ref m0)]) hx hb d_Bm_allShares_21 hl (k := 1) rfl (by rw [ei_3]; rfl) (by decide) rfl (fun ls hl => ?_)
          obtain rfl : i_3 = nI (i + 1) := by rw [ei_3]; exact nI_1 i
          refine lv_goto (tgt := 2) hx hb d_Bm_allShares_24 (by decide) ?_
          exact ih (j - 1) (by omega) (i + 1) (by omega) (fun a ha => by
            by_cases e9 : a = i
            · rw [e9]; exact hf9
            · exact hall a (by omega)) locs hS ls (lv_sub hl [1, 0] rfl)
        · -- not taken
          have hf9 : f i = 0 := (rK_neg hrk hn (show i < 4 by omega)).mp (Int32.not_le.mp c_2)
          have hbad : ¬ allS N cl f := fun h => h.2 i hi9 hf9
          refine lv_iconst (v := 0) hx hb d_Bm_allShares_19 (by decide) ?_
          exact W.zret (v := 0) hx hb hr (by decide) (fun t ht hW => ⟨⟨_, (), rfl, (bz_0 hbad), ht⟩, hS.F ht⟩) hS.2.2 d_Bm_allShares_20
  refine lv_iconst (v := 0) hx hb d_Bm_allShares_0 (by decide) ?_
  refine lv_istore_n (lv' := [(1, .int 0), (0, .ref m0)]) hx hb d_Bm_allShares_1 rfl hl (by decide) rfl (fun ls hl => ?_)
  exact loop N 0 (by omega) (fun a ha => absurd ha (by omega)) [] hS ls (lv_sub hl [1, 0] rfl)
abbrev b_Bm_result : ByteArray := prog_10_method_44_code
abbrev y_Bm_result : MethodName := ⟨"BallotBoardModel", "result", "()I"⟩
abbrev w_Bm_result : List Cond := .code y_Bm_result b_Bm_result 8 (some .int) :: gw
theorem d_Bm_result_0 : decode b_Bm_result 0 = .ok (.aload_n 0, 1) := by decide +kernel
theorem d_Bm_result_1 : decode b_Bm_result 1 = .ok (.iconst 0, 1) := by decide +kernel
theorem d_Bm_result_2 : decode b_Bm_result 2 = .ok (.putfield 131, 3) := by decide +kernel
theorem d_Bm_result_5 : decode b_Bm_result 5 = .ok (.aload_n 0, 1) := by decide +kernel
theorem d_Bm_result_6 : decode b_Bm_result 6 = .ok (.aload_n 0, 1) := by decide +kernel
theorem d_Bm_result_7 : decode b_Bm_result 7 = .ok (.invokevirtual 301, 3) := by decide +kernel
theorem d_Bm_result_10 : decode b_Bm_result 10 = .ok (.ifCond .ne 7, 3) := by decide +kernel
theorem d_Bm_result_13 : decode b_Bm_result 13 = .ok (.iconst 1, 1) := by decide +kernel
theorem d_Bm_result_14 : decode b_Bm_result 14 = .ok (.goto 4, 3) := by decide +kernel
theorem d_Bm_result_17 : decode b_Bm_result 17 = .ok (.iconst 0, 1) := by decide +kernel
theorem d_Bm_result_18 : decode b_Bm_result 18 = .ok (.iconst 1, 1) := by decide +kernel
theorem d_Bm_result_19 : decode b_Bm_result 19 = .ok (.invokevirtual 207, 3) := by decide +kernel
theorem d_Bm_result_22 : decode b_Bm_result 22 = .ok (.ifCond .eq 5, 3) := by decide +kernel
theorem d_Bm_result_25 : decode b_Bm_result 25 = .ok (.iconst 0, 1) := by decide +kernel
theorem d_Bm_result_26 : decode b_Bm_result 26 = .ok (.ireturn, 1) := by decide +kernel
theorem d_Bm_result_27 : decode b_Bm_result 27 = .ok (.lconst 1, 1) := by decide +kernel
theorem d_Bm_result_28 : decode b_Bm_result 28 = .ok (.lstore_n 1, 1) := by decide +kernel
theorem d_Bm_result_29 : decode b_Bm_result 29 = .ok (.lconst 1, 1) := by decide +kernel
theorem d_Bm_result_30 : decode b_Bm_result 30 = .ok (.lstore_n 3, 1) := by decide +kernel
theorem d_Bm_result_31 : decode b_Bm_result 31 = .ok (.iconst 0, 1) := by decide +kernel
theorem d_Bm_result_32 : decode b_Bm_result 32 = .ok (.istore 5, 2) := by decide +kernel
theorem d_Bm_result_34 : decode b_Bm_result 34 = .ok (.iload 5, 2) := by decide +kernel
theorem d_Bm_result_36 : decode b_Bm_result 36 = .ok (.aload_n 0, 1) := by decide +kernel
theorem d_Bm_result_37 : decode b_Bm_result 37 = .ok (.getfield 211, 3) := by decide +kernel
theorem d_Bm_result_40 : decode b_Bm_result 40 = .ok (.if_icmp .ge 22, 3) := by decide +kernel
theorem d_Bm_result_43 : decode b_Bm_result 43 = .ok (.aload_n 0, 1) := by decide +kernel
theorem d_Bm_result_44 : decode b_Bm_result 44 = .ok (.lload_n 1, 1) := by decide +kernel
theorem d_Bm_result_45 : decode b_Bm_result 45 = .ok (.aload_n 0, 1) := by decide +kernel
theorem d_Bm_result_46 : decode b_Bm_result 46 = .ok (.getfield 125, 3) := by decide +kernel
theorem d_Bm_result_49 : decode b_Bm_result 49 = .ok (.iload 5, 2) := by decide +kernel
theorem d_Bm_result_51 : decode b_Bm_result 51 = .ok (.laload, 1) := by decide +kernel
theorem d_Bm_result_52 : decode b_Bm_result 52 = .ok (.invokevirtual 177, 3) := by decide +kernel
theorem d_Bm_result_55 : decode b_Bm_result 55 = .ok (.lstore_n 1, 1) := by decide +kernel
theorem d_Bm_result_56 : decode b_Bm_result 56 = .ok (.iinc 5 1, 3) := by decide +kernel
theorem d_Bm_result_59 : decode b_Bm_result 59 = .ok (.goto (-25), 3) := by decide +kernel
theorem d_Bm_result_62 : decode b_Bm_result 62 = .ok (.aload_n 0, 1) := by decide +kernel
theorem d_Bm_result_63 : decode b_Bm_result 63 = .ok (.aload_n 0, 1) := by decide +kernel
theorem d_Bm_result_64 : decode b_Bm_result 64 = .ok (.getfield 230, 3) := by decide +kernel
theorem d_Bm_result_67 : decode b_Bm_result 67 = .ok (.lload_n 1, 1) := by decide +kernel
theorem d_Bm_result_68 : decode b_Bm_result 68 = .ok (.invokevirtual 270, 3) := by decide +kernel
theorem d_Bm_result_71 : decode b_Bm_result 71 = .ok (.lstore 5, 2) := by decide +kernel
theorem d_Bm_result_73 : decode b_Bm_result 73 = .ok (.iconst 0, 1) := by decide +kernel
theorem d_Bm_result_74 : decode b_Bm_result 74 = .ok (.istore 7, 2) := by decide +kernel
theorem d_Bm_result_76 : decode b_Bm_result 76 = .ok (.iload 7, 2) := by decide +kernel
theorem d_Bm_result_78 : decode b_Bm_result 78 = .ok (.aload_n 0, 1) := by decide +kernel
theorem d_Bm_result_79 : decode b_Bm_result 79 = .ok (.getfield 217, 3) := by decide +kernel
theorem d_Bm_result_82 : decode b_Bm_result 82 = .ok (.if_icmp .gt 29, 3) := by decide +kernel
theorem d_Bm_result_85 : decode b_Bm_result 85 = .ok (.lload_n 3, 1) := by decide +kernel
theorem d_Bm_result_86 : decode b_Bm_result 86 = .ok (.lload 5, 2) := by decide +kernel
theorem d_Bm_result_88 : decode b_Bm_result 88 = .ok (.lcmp, 1) := by decide +kernel
theorem d_Bm_result_89 : decode b_Bm_result 89 = .ok (.ifCond .ne 6, 3) := by decide +kernel
theorem d_Bm_result_92 : decode b_Bm_result 92 = .ok (.iload 7, 2) := by decide +kernel
theorem d_Bm_result_94 : decode b_Bm_result 94 = .ok (.ireturn, 1) := by decide +kernel
theorem d_Bm_result_95 : decode b_Bm_result 95 = .ok (.aload_n 0, 1) := by decide +kernel
theorem d_Bm_result_96 : decode b_Bm_result 96 = .ok (.lload_n 3, 1) := by decide +kernel
theorem d_Bm_result_97 : decode b_Bm_result 97 = .ok (.aload_n 0, 1) := by decide +kernel
theorem d_Bm_result_98 : decode b_Bm_result 98 = .ok (.getfield 180, 3) := by decide +kernel
theorem d_Bm_result_101 : decode b_Bm_result 101 = .ok (.invokevirtual 177, 3) := by decide +kernel
theorem d_Bm_result_104 : decode b_Bm_result 104 = .ok (.lstore_n 3, 1) := by decide +kernel
theorem d_Bm_result_105 : decode b_Bm_result 105 = .ok (.iinc 7 1, 3) := by decide +kernel
theorem d_Bm_result_108 : decode b_Bm_result 108 = .ok (.goto (-32), 3) := by decide +kernel
theorem d_Bm_result_111 : decode b_Bm_result 111 = .ok (.iconst (-1), 1) := by decide +kernel
theorem d_Bm_result_112 : decode b_Bm_result 112 = .ok (.ireturn, 1) := by decide +kernel
set_option maxHeartbeats 8000000 in
set_option maxRecDepth 100000 in
theorem c_Bm_result_1 (l : Launch) (dC : Nat → ClassId) (dI : Nat → Nat → Nat) (cJ cI : ClassId) (sz : Nat) (m0 : Nat) (e0 : Int32) (N n bc P Q G al pa pb : Nat) (cl : Int32) (a0 a1 a2 a3 a4 a5 a6 a7 a8 a9 b0 b1 oc b2 b3 b4 b5 : Nat) (sf : Nat → Int32) (sh : Nat → Int64) (so : Nat → Nat) (hN : N ≤ 4) (hgr : 0 < N → gfx P Q G) (hcl : cl = 0 ∨ cl = 1) (hclN : cl = 1 → 0 < N) (hn : n ≤ 154) (hrs : rK 4 n so sf sh) (hsP : ∀ j, so j < 2 ^ 61) (hC1 : ¬ allS N cl so) : Met l y_Bm_result w_Bm_result ({ frames := 6, cells := 0, slots := 0, locals := 161 }) (va_Pc [.ref m0] (fun U => U.heap.size = sz ∧ va_P (dC, dI) classes (mo_ws m0 e0 (nI N) (nI n) (nI bc) (lN P) (lN Q) (lN G) (lN al) (lN pa) (lN pb) cl a0 a1 a2 a3 a4 a5 a6 a7 a8 a9 b0 b1 oc b2 b3 b4 b5 ++ (iw_ws a5 cI 4 sf ++ (jw_ws b4 cJ 4 sh))) U.heap ∧ va_K (dC, dI) classes [(cJ, .long), (cI, .int)] U ∧ va_D (fun _ => True) (mo_ws m0 e0 (nI N) (nI n) (nI bc) (lN P) (lN Q) (lN G) (lN al) (lN pa) (lN pb) cl a0 a1 a2 a3 a4 a5 a6 a7 a8 a9 b0 b1 oc b2 b3 b4 b5 ++ (iw_ws a5 cI 4 sf ++ (jw_ws b4 cJ 4 sh))))) (va_Qi (fun (r : Int32) (_ : Unit) => True) (fun _ t => va_P (dC, dI) classes (mo_ws m0 1 (nI N) (nI n) (nI bc) (lN P) (lN Q) (lN G) (lN al) (lN pa) (lN pb) cl a0 a1 a2 a3 a4 a5 a6 a7 a8 a9 b0 b1 oc b2 b3 b4 b5 ++ (iw_ws a5 cI 4 sf ++ (jw_ws b4 cJ 4 sh))) t.heap ∧ va_K (dC, dI) classes [(cJ, .long), (cI, .int)] t ∧ va_D (va_A (mo_ws m0 e0 (nI N) (nI n) (nI bc) (lN P) (lN Q) (lN G) (lN al) (lN pa) (lN pb) cl a0 a1 a2 a3 a4 a5 a6 a7 a8 a9 b0 b1 oc b2 b3 b4 b5 ++ (iw_ws a5 cI 4 sf ++ (jw_ws b4 cJ 4 sh))) sz) (mo_ws m0 1 (nI N) (nI n) (nI bc) (lN P) (lN Q) (lN G) (lN al) (lN pa) (lN pb) cl a0 a1 a2 a3 a4 a5 a6 a7 a8 a9 b0 b1 oc b2 b3 b4 b5 ++ (iw_ws a5 cI 4 sf ++ (jw_ws b4 cJ 4 sh)))) (va_A (mo_ws m0 e0 (nI N) (nI n) (nI bc) (lN P) (lN Q) (lN G) (lN al) (lN pa) (lN pb) cl a0 a1 a2 a3 a4 a5 a6 a7 a8 a9 b0 b1 oc b2 b3 b4 b5 ++ (iw_ws a5 cI 4 sf ++ (jw_ws b4 cJ 4 sh))) sz)) 0 0 (va_A (mo_ws m0 e0 (nI N) (nI n) (nI bc) (lN P) (lN Q) (lN G) (lN al) (lN pa) (lN pb) cl a0 a1 a2 a3 a4 a5 a6 a7 a8 a9 b0 b1 oc b2 b3 b4 b5 ++ (iw_ws a5 cI 4 sf ++ (jw_ws b4 cJ 4 sh))) sz) := by
  refine Met.ofW (cc := b_Bm_result) (maxL := 8) (ret := (some .int)) (by decide) rfl ?_
  intro p e s m args below meth c s₁ Bd hml hv
  obtain ⟨rfl, hsz, hP, hK, hD0⟩ := hv
  have hx := Bd.exec
  have hb := Bd.bytes
  have hr := Bd.returns
  have hts := atoms_spec (ws := w_Bm_result) Bd.pre
  have hown : s.vm.findClass "BallotBoardModel" = some m.cls := findClass_of_methodNamed Bd.named
  have hlocks := Bd.notSynchronized
  subst hsz
  have hD := hD0.self (sz := s.heap.size)
  generalize hAe : va_A (mo_ws m0 e0 (nI N) (nI n) (nI bc) (lN P) (lN Q) (lN G) (lN al) (lN pa) (lN pb) cl a0 a1 a2 a3 a4 a5 a6 a7 a8 a9 b0 b1 oc b2 b3 b4 b5 ++ (iw_ws a5 cI 4 sf ++ (jw_ws b4 cJ 4 sh))) s.heap.size = A at hD ⊢
  have hA : ∀ q : Nat, s.heap.size ≤ q → A q := fun q h => by rw [← hAe]; exact Or.inr h
  have hS : va_S A s.heap s.heap [] := va_S.rf
  have hl := lv_entry ([.ref m0]) (n := 8) (Nat.le_of_ble_eq_true rfl)
  rw [lg_entry_eq]
  generalize (lg_sl ([.ref m0]) ++ List.replicate (8 - (lg_sl ([.ref m0])).length) Slot.unset).toArray = ls at hl ⊢
  have hl : lv_has ls 8 [(0, .ref m0)] := hl
  refine lv_aload_n hx hb d_Bm_result_0 rfl (lv_at hl 0 rfl) ?_
  refine lv_iconst (v := 0) hx hb d_Bm_result_1 (by decide) ?_
  refine va_put (D := (dC, dI)) (ci := 8) (v := .int 0) (ty := .int) (C := "BallotBoardModel") (T := F_Bm) (N := 28) hx hb hts (fun w9 h9 => List.mem_cons_of_mem _ (i_Bm w9 h9)) t_Bm t_Bm_ok n_Bm hown hK hP hD hS 0 rfl rfl 0 (by decide) (hts _ (List.mem_cons_of_mem _ gk_919)) (fun _ h9 => h9) rfl (by decide +kernel) rfl rfl (Nat.le_of_ble_eq_true rfl) d_Bm_result_2 (fun H locs hP hD hS => ?_)
  have hP : va_P (dC, dI) classes [(m0, .inr (8, [.int 0, .int (nI N), .int (nI n), .int (nI bc), .long (lN P), .long (lN Q), .long (lN G), .long (lN al), .long (lN pa), .long (lN pb), .int cl, .ref a0, .ref a1, .ref a2, .ref a3, .ref a4, .ref a5, .ref a6, .ref a7, .ref a8, .ref a9, .ref b0, .ref b1, .int (nI oc), .ref b2, .ref b3, .ref b4, .ref b5])), (a5, .inl (cI, 4, .inl sf)), (b4, .inl (cJ, 4, .inr (.inl sh)))] H := hP
  have hD : va_D A [(m0, .inr (8, [.int 0, .int (nI N), .int (nI n), .int (nI bc), .long (lN P), .long (lN Q), .long (lN G), .long (lN al), .long (lN pa), .long (lN pb), .int cl, .ref a0, .ref a1, .ref a2, .ref a3, .ref a4, .ref a5, .ref a6, .ref a7, .ref a8, .ref a9, .ref b0, .ref b1, .int (nI oc), .ref b2, .ref b3, .ref b4, .ref b5])), (a5, .inl (cI, 4, .inl sf)), (b4, .inl (cJ, 4, .inr (.inl sh)))] := hD
  refine lv_aload_n hx hb d_Bm_result_5 rfl (lv_at hl 0 rfl) ?_
  refine lv_aload_n hx hb d_Bm_result_6 rfl (lv_at hl 0 rfl) ?_
  have hPc := hP.sub (ws' := (mo_ws m0 0 (nI N) (nI n) (nI bc) (lN P) (lN Q) (lN G) (lN al) (lN pa) (lN pb) cl a0 a1 a2 a3 a4 a5 a6 a7 a8 a9 b0 b1 oc b2 b3 b4 b5 ++ (iw_ws a5 cI 4 sf))) [0, 1] rfl
  have hKc := hK.sub (tys' := [(cJ, .long), (cI, .int)]) [0, 1] rfl
  refine va_calli (va_runV (As := []) (rest := [.ref m0]) ⟨hx, hb, hml, hown, hts⟩ (c_Bm_allShares l H dC dI cJ cI m0 0 (nI n) (nI bc) (lN P) (lN Q) (lN G) (lN al) (lN pa) (lN pb) cl a0 a1 a2 a3 a4 a5 a6 a7 a8 a9 b0 b1 oc b2 b3 b4 b5 N sf so sh n hPc hN hn hcl hrs) (cwV 0 hts (gw_V gk_1174 gk_1176 gp_52 gk_7 gk_1177) rfl rfl rfl (by decide +kernel) ⟨Nat.le_of_ble_eq_true rfl, Nat.le_of_ble_eq_true rfl⟩) ⟨fun a U g mk q => ⟨q.1, q.2.1, va_K.moved (u := U) (U := U.calling g mk a) (Vm.Alike.refl U.vm) q.2.2⟩, va_recv hK hP (ci := 8) (q0 := 0) rfl rfl, fun U hU hW => ⟨rfl, hU, va_K.moved hW.alike hKc⟩⟩ rfl rfl hl.1 rfl (lv_room (Nat.le_of_ble_eq_true rfl)) d_Bm_result_7 ⟨Nat.le_of_ble_eq_true rfl, Nat.le_of_ble_eq_true rfl⟩) hS (fun q _ h => h.elim) (fun q h => h.elim) (fun r7 u9 t9 H1 locs ht hvm hw hB hz1 hk1 hS => ?_)
  obtain rfl : H = H1 := hB.symm.trans ht
  have h7 := hw
  refine lv_if_ne (tgt := 17) hx hb d_Bm_result_10 (by decide) (fun c_1 => ?_) (fun c_1 => ?_)
  · -- taken
    exact absurd (bz_t h7 c_1) hC1
  · -- not taken
    have bo7 := bz_f h7 c_1
    refine lv_iconst (v := 1) hx hb d_Bm_result_13 (by decide) ?_
    refine lv_goto (tgt := 18) hx hb d_Bm_result_14 (by decide) ?_
    refine lv_iconst (v := 1) hx hb d_Bm_result_18 (by decide) ?_
    have hPc := hP.sub (ws' := (mo_ws m0 0 (nI N) (nI n) (nI bc) (lN P) (lN Q) (lN G) (lN al) (lN pa) (lN pb) cl a0 a1 a2 a3 a4 a5 a6 a7 a8 a9 b0 b1 oc b2 b3 b4 b5)) [0] rfl
    have hDc := hD.sub (ws' := (mo_ws m0 0 (nI N) (nI n) (nI bc) (lN P) (lN Q) (lN G) (lN al) (lN pa) (lN pb) cl a0 a1 a2 a3 a4 a5 a6 a7 a8 a9 b0 b1 oc b2 b3 b4 b5)) [0] (by decide) rfl
    have hKc := hK.sub (tys' := [(cJ, .long), (cI, .int)]) [0, 1] rfl
    have hFc := va_free (wc := (mo_ws m0 0 (nI N) (nI n) (nI bc) (lN P) (lN Q) (lN G) (lN al) (lN pa) (lN pb) cl a0 a1 a2 a3 a4 a5 a6 a7 a8 a9 b0 b1 oc b2 b3 b4 b5)) hD hS hA [0] rfl
    refine va_calli (va_runV (As := [.int 1, .int 1]) (rest := []) ⟨hx, hb, hml, hown, hts⟩ (c_Bm_fails_1 l dC dI cJ cI H.size m0 (nI N) (nI n) (nI bc) (lN P) (lN Q) (lN G) (lN al) (lN pa) (lN pb) cl a0 a1 a2 a3 a4 a5 a6 a7 a8 a9 b0 b1 oc b2 b3 b4 b5 1 (by decide)) (cwV 2 hts (gw_V gk_1030 gk_1032 gp_27 gk_7 gk_1033) rfl rfl rfl (by decide +kernel) ⟨Nat.le_of_ble_eq_true rfl, Nat.le_of_ble_eq_true rfl⟩) ⟨fun a U g mk q => by obtain ⟨q0, q1, qP, qK, qD⟩ := q; exact ⟨q0, q1, qP, va_K.moved (u := U) (U := U.calling g mk a) (Vm.Alike.refl U.vm) qK, qD⟩, va_recv hK hP (ci := 8) (q0 := 0) rfl rfl, fun U hU hW => ⟨rfl, by rw [hU], by rw [hU]; exact hPc, va_K.moved hW.alike hKc, hDc.weaken (fun _ _ _ _ => trivial)⟩⟩ rfl rfl hl.1 rfl (lv_room (Nat.le_of_ble_eq_true rfl)) d_Bm_result_19 ⟨Nat.le_of_ble_eq_true rfl, Nat.le_of_ble_eq_true rfl⟩) hS (fun q _ h => hFc q h) hFc (fun r_2 u9 t9 H1 locs ht hvm hw hB hz1 hk1 hS => ?_)
    have hw : r_2 = 1 := hw
    subst hw
    obtain ⟨hP1, hK1, hD1⟩ := hB
    rw [ht] at hP1
    obtain ⟨hP, hD⟩ := va_join (wr := [(a5, .inl (cI, 4, .inl sf)), (b4, .inl (cJ, 4, .inr (.inl sh)))]) (w1 := [(m0, .inr (8, [.int 1, .int (nI N), .int (nI n), .int (nI bc), .long (lN P), .long (lN Q), .long (lN G), .long (lN al), .long (lN pa), .long (lN pb), .int cl, .ref a0, .ref a1, .ref a2, .ref a3, .ref a4, .ref a5, .ref a6, .ref a7, .ref a8, .ref a9, .ref b0, .ref b1, .int (nI oc), .ref b2, .ref b3, .ref b4, .ref b5]))]) hP hD [0] [1, 2] rfl rfl (by decide) (by decide) hk1 hFc hP1 hD1
    have hP := hP.sub (ws' := [(m0, .inr (8, [.int 1, .int (nI N), .int (nI n), .int (nI bc), .long (lN P), .long (lN Q), .long (lN G), .long (lN al), .long (lN pa), .long (lN pb), .int cl, .ref a0, .ref a1, .ref a2, .ref a3, .ref a4, .ref a5, .ref a6, .ref a7, .ref a8, .ref a9, .ref b0, .ref b1, .int (nI oc), .ref b2, .ref b3, .ref b4, .ref b5])), (a5, .inl (cI, 4, .inl sf)), (b4, .inl (cJ, 4, .inr (.inl sh)))]) [2, 0, 1] rfl
    have hD := hD.sub (ws' := [(m0, .inr (8, [.int 1, .int (nI N), .int (nI n), .int (nI bc), .long (lN P), .long (lN Q), .long (lN G), .long (lN al), .long (lN pa), .long (lN pb), .int cl, .ref a0, .ref a1, .ref a2, .ref a3, .ref a4, .ref a5, .ref a6, .ref a7, .ref a8, .ref a9, .ref b0, .ref b1, .int (nI oc), .ref b2, .ref b3, .ref b4, .ref b5])), (a5, .inl (cI, 4, .inl sf)), (b4, .inl (cJ, 4, .inr (.inl sh)))]) [2, 0, 1] (by decide) rfl
    generalize H1 = H at hP hS ⊢
    refine lv_if_eq (tgt := 27) hx hb d_Bm_result_22 (by decide) (fun c_3 => ?_) (fun c_3 => ?_)
    · -- taken
      exact absurd c_3 (by decide)
    · -- not taken
      refine lv_iconst (v := 0) hx hb d_Bm_result_25 (by decide) ?_
      exact W.iret (v := 0) hx hb hr (fun t ht9 hW => ⟨⟨_, (), rfl, trivial, by rw [ht9]; exact hP, va_K.moved hW.alike hK, hD⟩, hS.F ht9⟩) hS.2.2 d_Bm_result_26
/-- g ** i, one factor behind another -/
def gpw (P G : Nat) : Nat → Nat
  | 0 => 1
  | k + 1 => gpw P G k * G % P
theorem gpw_lt {P G : Nat} (h : 1 < P) : ∀ k, gpw P G k < P
  | 0 => h
  | k + 1 => Nat.mod_lt _ (by omega)
def oc_m (P G goal bc : Nat) (r : Int32) : Prop := (∃ i, i ≤ bc ∧ r = nI i ∧ gpw P G i = goal ∧ ∀ a, a < i → gpw P G a ≠ goal) ∨ (r = -1 ∧ ∀ a, a ≤ bc → gpw P G a ≠ goal)
set_option maxHeartbeats 8000000 in
set_option maxRecDepth 100000 in
theorem c_Bm_result_0 (l : Launch) (dC : Nat → ClassId) (dI : Nat → Nat → Nat) (cJ cI : ClassId) (sz : Nat) (m0 : Nat) (e0 : Int32) (N n bc P Q G al pa pb : Nat) (cl : Int32) (a0 a1 a2 a3 a4 a5 a6 a7 a8 a9 b0 b1 oc b2 b3 b4 b5 : Nat) (sf : Nat → Int32) (sh : Nat → Int64) (so : Nat → Nat) (hN : N ≤ 4) (hgr : 0 < N → gfx P Q G) (hcl : cl = 0 ∨ cl = 1) (hclN : cl = 1 → 0 < N) (hn : n ≤ 154) (hrs : rK 4 n so sf sh) (hsP : ∀ j, so j < 2 ^ 61) (hC1 : allS N cl so) (hsp : ∀ j, so j < P) (hpb : pb < P) (hbc : bc ≤ 64) : Met l y_Bm_result w_Bm_result ({ frames := 6, cells := 0, slots := 0, locals := 161 }) (va_Pc [.ref m0] (fun U => U.heap.size = sz ∧ va_P (dC, dI) classes (mo_ws m0 e0 (nI N) (nI n) (nI bc) (lN P) (lN Q) (lN G) (lN al) (lN pa) (lN pb) cl a0 a1 a2 a3 a4 a5 a6 a7 a8 a9 b0 b1 oc b2 b3 b4 b5 ++ (iw_ws a5 cI 4 sf ++ (jw_ws b4 cJ 4 sh))) U.heap ∧ va_K (dC, dI) classes [(cJ, .long), (cI, .int)] U ∧ va_D (fun _ => True) (mo_ws m0 e0 (nI N) (nI n) (nI bc) (lN P) (lN Q) (lN G) (lN al) (lN pa) (lN pb) cl a0 a1 a2 a3 a4 a5 a6 a7 a8 a9 b0 b1 oc b2 b3 b4 b5 ++ (iw_ws a5 cI 4 sf ++ (jw_ws b4 cJ 4 sh))))) (va_Qi (fun (r : Int32) (_ : Unit) => oc_m P G (pb * (prk P so N ^ (Q - 1) % P) % P) bc r) (fun _ t => va_P (dC, dI) classes (mo_ws m0 0 (nI N) (nI n) (nI bc) (lN P) (lN Q) (lN G) (lN al) (lN pa) (lN pb) cl a0 a1 a2 a3 a4 a5 a6 a7 a8 a9 b0 b1 oc b2 b3 b4 b5 ++ (iw_ws a5 cI 4 sf ++ (jw_ws b4 cJ 4 sh))) t.heap ∧ va_K (dC, dI) classes [(cJ, .long), (cI, .int)] t ∧ va_D (va_A (mo_ws m0 e0 (nI N) (nI n) (nI bc) (lN P) (lN Q) (lN G) (lN al) (lN pa) (lN pb) cl a0 a1 a2 a3 a4 a5 a6 a7 a8 a9 b0 b1 oc b2 b3 b4 b5 ++ (iw_ws a5 cI 4 sf ++ (jw_ws b4 cJ 4 sh))) sz) (mo_ws m0 0 (nI N) (nI n) (nI bc) (lN P) (lN Q) (lN G) (lN al) (lN pa) (lN pb) cl a0 a1 a2 a3 a4 a5 a6 a7 a8 a9 b0 b1 oc b2 b3 b4 b5 ++ (iw_ws a5 cI 4 sf ++ (jw_ws b4 cJ 4 sh)))) (va_A (mo_ws m0 e0 (nI N) (nI n) (nI bc) (lN P) (lN Q) (lN G) (lN al) (lN pa) (lN pb) cl a0 a1 a2 a3 a4 a5 a6 a7 a8 a9 b0 b1 oc b2 b3 b4 b5 ++ (iw_ws a5 cI 4 sf ++ (jw_ws b4 cJ 4 sh))) sz)) 0 0 (va_A (mo_ws m0 e0 (nI N) (nI n) (nI bc) (lN P) (lN Q) (lN G) (lN al) (lN pa) (lN pb) cl a0 a1 a2 a3 a4 a5 a6 a7 a8 a9 b0 b1 oc b2 b3 b4 b5 ++ (iw_ws a5 cI 4 sf ++ (jw_ws b4 cJ 4 sh))) sz) := by
  refine Met.ofW (cc := b_Bm_result) (maxL := 8) (ret := (some .int)) (by decide) rfl ?_
  intro p e s m args below meth c s₁ Bd hml hv
  obtain ⟨rfl, hsz, hP, hK, hD0⟩ := hv
  have hx := Bd.exec
  have hb := Bd.bytes
  have hr := Bd.returns
  have hts := atoms_spec (ws := w_Bm_result) Bd.pre
  have hown : s.vm.findClass "BallotBoardModel" = some m.cls := findClass_of_methodNamed Bd.named
  have hlocks := Bd.notSynchronized
  subst hsz
  have hD := hD0.self (sz := s.heap.size)
  generalize hAe : va_A (mo_ws m0 e0 (nI N) (nI n) (nI bc) (lN P) (lN Q) (lN G) (lN al) (lN pa) (lN pb) cl a0 a1 a2 a3 a4 a5 a6 a7 a8 a9 b0 b1 oc b2 b3 b4 b5 ++ (iw_ws a5 cI 4 sf ++ (jw_ws b4 cJ 4 sh))) s.heap.size = A at hD ⊢
  have hA : ∀ q : Nat, s.heap.size ≤ q → A q := fun q h => by rw [← hAe]; exact Or.inr h
  have hS : va_S A s.heap s.heap [] := va_S.rf
  have hl := lv_entry ([.ref m0]) (n := 8) (Nat.le_of_ble_eq_true rfl)
  rw [lg_entry_eq]
  generalize (lg_sl ([.ref m0]) ++ List.replicate (8 - (lg_sl ([.ref m0])).length) Slot.unset).toArray = ls at hl ⊢
  have hl : lv_has ls 8 [(0, .ref m0)] := hl
  have hN0 := hclN hC1.1
  obtain ⟨hPQ, h61F, hQ3, hG2, hGP, hGQ⟩ := hgr hN0
  refine lv_aload_n hx hb d_Bm_result_0 rfl (lv_at hl 0 rfl) ?_
  refine lv_iconst (v := 0) hx hb d_Bm_result_1 (by decide) ?_
  refine va_put (D := (dC, dI)) (ci := 8) (v := .int 0) (ty := .int) (C := "BallotBoardModel") (T := F_Bm) (N := 28) hx hb hts (fun w9 h9 => List.mem_cons_of_mem _ (i_Bm w9 h9)) t_Bm t_Bm_ok n_Bm hown hK hP hD hS 0 rfl rfl 0 (by decide) (hts _ (List.mem_cons_of_mem _ gk_919)) (fun _ h9 => h9) rfl (by decide +kernel) rfl rfl (Nat.le_of_ble_eq_true rfl) d_Bm_result_2 (fun H locs hP hD hS => ?_)
  have hP : va_P (dC, dI) classes [(m0, .inr (8, [.int 0, .int (nI N), .int (nI n), .int (nI bc), .long (lN P), .long (lN Q), .long (lN G), .long (lN al), .long (lN pa), .long (lN pb), .int cl, .ref a0, .ref a1, .ref a2, .ref a3, .ref a4, .ref a5, .ref a6, .ref a7, .ref a8, .ref a9, .ref b0, .ref b1, .int (nI oc), .ref b2, .ref b3, .ref b4, .ref b5])), (a5, .inl (cI, 4, .inl sf)), (b4, .inl (cJ, 4, .inr (.inl sh)))] H := hP
  have hD : va_D A [(m0, .inr (8, [.int 0, .int (nI N), .int (nI n), .int (nI bc), .long (lN P), .long (lN Q), .long (lN G), .long (lN al), .long (lN pa), .long (lN pb), .int cl, .ref a0, .ref a1, .ref a2, .ref a3, .ref a4, .ref a5, .ref a6, .ref a7, .ref a8, .ref a9, .ref b0, .ref b1, .int (nI oc), .ref b2, .ref b3, .ref b4, .ref b5])), (a5, .inl (cI, 4, .inl sf)), (b4, .inl (cJ, 4, .inr (.inl sh)))] := hD
  refine lv_aload_n hx hb d_Bm_result_5 rfl (lv_at hl 0 rfl) ?_
  refine lv_aload_n hx hb d_Bm_result_6 rfl (lv_at hl 0 rfl) ?_
  have hPc := hP.sub (ws' := (mo_ws m0 0 (nI N) (nI n) (nI bc) (lN P) (lN Q) (lN G) (lN al) (lN pa) (lN pb) cl a0 a1 a2 a3 a4 a5 a6 a7 a8 a9 b0 b1 oc b2 b3 b4 b5 ++ (iw_ws a5 cI 4 sf))) [0, 1] rfl
  have hKc := hK.sub (tys' := [(cJ, .long), (cI, .int)]) [0, 1] rfl
  refine va_calli (va_runV (As := []) (rest := [.ref m0]) ⟨hx, hb, hml, hown, hts⟩ (c_Bm_allShares l H dC dI cJ cI m0 0 (nI n) (nI bc) (lN P) (lN Q) (lN G) (lN al) (lN pa) (lN pb) cl a0 a1 a2 a3 a4 a5 a6 a7 a8 a9 b0 b1 oc b2 b3 b4 b5 N sf so sh n hPc hN hn hcl hrs) (cwV 0 hts (gw_V gk_1174 gk_1176 gp_52 gk_7 gk_1177) rfl rfl rfl (by decide +kernel) ⟨Nat.le_of_ble_eq_true rfl, Nat.le_of_ble_eq_true rfl⟩) ⟨fun a U g mk q => ⟨q.1, q.2.1, va_K.moved (u := U) (U := U.calling g mk a) (Vm.Alike.refl U.vm) q.2.2⟩, va_recv hK hP (ci := 8) (q0 := 0) rfl rfl, fun U hU hW => ⟨rfl, hU, va_K.moved hW.alike hKc⟩⟩ rfl rfl hl.1 rfl (lv_room (Nat.le_of_ble_eq_true rfl)) d_Bm_result_7 ⟨Nat.le_of_ble_eq_true rfl, Nat.le_of_ble_eq_true rfl⟩) hS (fun q _ h => h.elim) (fun q h => h.elim) (fun r7 u9 t9 H1 locs ht hvm hw hB hz1 hk1 hS => ?_)
  obtain rfl : H = H1 := hB.symm.trans ht
  have h7 := hw
  refine lv_if_ne (tgt := 17) hx hb d_Bm_result_10 (by decide) (fun c_1 => ?_) (fun c_1 => ?_)
  · -- taken
    have bo7 := bz_t h7 c_1
    refine lv_iconst (v := 0) hx hb d_Bm_result_17 (by decide) ?_
    refine lv_iconst (v := 1) hx hb d_Bm_result_18 (by decide) ?_
    have hPc := hP.sub (ws' := (mo_ws m0 0 (nI N) (nI n) (nI bc) (lN P) (lN Q) (lN G) (lN al) (lN pa) (lN pb) cl a0 a1 a2 a3 a4 a5 a6 a7 a8 a9 b0 b1 oc b2 b3 b4 b5)) [0] rfl
    have hDc := hD.sub (ws' := (mo_ws m0 0 (nI N) (nI n) (nI bc) (lN P) (lN Q) (lN G) (lN al) (lN pa) (lN pb) cl a0 a1 a2 a3 a4 a5 a6 a7 a8 a9 b0 b1 oc b2 b3 b4 b5)) [0] (by decide) rfl
    have hKc := hK.sub (tys' := [(cJ, .long), (cI, .int)]) [0, 1] rfl
    have hFc := va_free (wc := (mo_ws m0 0 (nI N) (nI n) (nI bc) (lN P) (lN Q) (lN G) (lN al) (lN pa) (lN pb) cl a0 a1 a2 a3 a4 a5 a6 a7 a8 a9 b0 b1 oc b2 b3 b4 b5)) hD hS hA [0] rfl
    refine va_calli (va_runV (As := [.int 0, .int 1]) (rest := []) ⟨hx, hb, hml, hown, hts⟩ (c_Bm_fails_0 l dC dI cJ cI H.size m0 (nI N) (nI n) (nI bc) (lN P) (lN Q) (lN G) (lN al) (lN pa) (lN pb) cl a0 a1 a2 a3 a4 a5 a6 a7 a8 a9 b0 b1 oc b2 b3 b4 b5 1) (cwV 2 hts (gw_V gk_1030 gk_1032 gp_27 gk_7 gk_1033) rfl rfl rfl (by decide +kernel) ⟨Nat.le_of_ble_eq_true rfl, Nat.le_of_ble_eq_true rfl⟩) ⟨fun a U g mk q => by obtain ⟨q0, q1, qP, qK, qD⟩ := q; exact ⟨q0, q1, qP, va_K.moved (u := U) (U := U.calling g mk a) (Vm.Alike.refl U.vm) qK, qD⟩, va_recv hK hP (ci := 8) (q0 := 0) rfl rfl, fun U hU hW => ⟨rfl, by rw [hU], by rw [hU]; exact hPc, va_K.moved hW.alike hKc, hDc.weaken (fun _ _ _ _ => trivial)⟩⟩ rfl rfl hl.1 rfl (lv_room (Nat.le_of_ble_eq_true rfl)) d_Bm_result_19 ⟨Nat.le_of_ble_eq_true rfl, Nat.le_of_ble_eq_true rfl⟩) hS (fun q _ h => hFc q h) hFc (fun r_2 u9 t9 H1 locs ht hvm hw hB hz1 hk1 hS => ?_)
    have hw : r_2 = 0 := hw
    subst hw
    obtain ⟨hP1, hK1, hD1⟩ := hB
    rw [ht] at hP1
    obtain ⟨hP, hD⟩ := va_join (wr := [(a5, .inl (cI, 4, .inl sf)), (b4, .inl (cJ, 4, .inr (.inl sh)))]) (w1 := [(m0, .inr (8, [.int 0, .int (nI N), .int (nI n), .int (nI bc), .long (lN P), .long (lN Q), .long (lN G), .long (lN al), .long (lN pa), .long (lN pb), .int cl, .ref a0, .ref a1, .ref a2, .ref a3, .ref a4, .ref a5, .ref a6, .ref a7, .ref a8, .ref a9, .ref b0, .ref b1, .int (nI oc), .ref b2, .ref b3, .ref b4, .ref b5]))]) hP hD [0] [1, 2] rfl rfl (by decide) (by decide) hk1 hFc hP1 hD1
    have hP := hP.sub (ws' := [(m0, .inr (8, [.int 0, .int (nI N), .int (nI n), .int (nI bc), .long (lN P), .long (lN Q), .long (lN G), .long (lN al), .long (lN pa), .long (lN pb), .int cl, .ref a0, .ref a1, .ref a2, .ref a3, .ref a4, .ref a5, .ref a6, .ref a7, .ref a8, .ref a9, .ref b0, .ref b1, .int (nI oc), .ref b2, .ref b3, .ref b4, .ref b5])), (a5, .inl (cI, 4, .inl sf)), (b4, .inl (cJ, 4, .inr (.inl sh)))]) [2, 0, 1] rfl
    have hD := hD.sub (ws' := [(m0, .inr (8, [.int 0, .int (nI N), .int (nI n), .int (nI bc), .long (lN P), .long (lN Q), .long (lN G), .long (lN al), .long (lN pa), .long (lN pb), .int cl, .ref a0, .ref a1, .ref a2, .ref a3, .ref a4, .ref a5, .ref a6, .ref a7, .ref a8, .ref a9, .ref b0, .ref b1, .int (nI oc), .ref b2, .ref b3, .ref b4, .ref b5])), (a5, .inl (cI, 4, .inl sf)), (b4, .inl (cJ, 4, .inr (.inl sh)))]) [2, 0, 1] (by decide) rfl
    generalize H1 = H at hP hS ⊢
    refine lv_if_eq (tgt := 27) hx hb d_Bm_result_22 (by decide) (fun c_3 => ?_) (fun c_3 => ?_)
    · -- taken
      refine lv_lconst (v := 1) hx hb d_Bm_result_27 (by decide) ?_
      rw [show (1 : Int64) = (lN 1) from rfl]
      refine lv_lstore_n (lv' := [(1, .long (lN 1)), (0, .ref m0)]) hx hb d_Bm_result_28 rfl hl (by decide) rfl (fun ls hl => ?_)
      refine lv_lconst (v := 1) hx hb d_Bm_result_29 (by decide) ?_
      rw [show (1 : Int64) = (lN 1) from rfl]
      refine lv_lstore_n (lv' := [(3, .long (lN 1)), (1, .long (lN 1)), (0, .ref m0)]) hx hb d_Bm_result_30 rfl hl (by decide) rfl (fun ls hl => ?_)
      refine lv_iconst (v := 0) hx hb d_Bm_result_31 (by decide) ?_
      refine lv_istore (lv' := [(5, .int 0), (3, .long (lN 1)), (1, .long (lN 1)), (0, .ref m0)]) hx hb d_Bm_result_32 hl (by decide) rfl (fun ls hl => ?_)
      have loop9 : ∀ (j i : Nat), i + j = N → ∀ (H : Heap) (locs : List Loc), va_S A s.heap H locs → va_P (dC, dI) classes [(m0, .inr (8, [.int 0, .int (nI N), .int (nI n), .int (nI bc), .long (lN P), .long (lN Q), .long (lN G), .long (lN al), .long (lN pa), .long (lN pb), .int cl, .ref a0, .ref a1, .ref a2, .ref a3, .ref a4, .ref a5, .ref a6, .ref a7, .ref a8, .ref a9, .ref b0, .ref b1, .int (nI oc), .ref b2, .ref b3, .ref b4, .ref b5])), (a5, .inl (cI, 4, .inl sf)), (b4, .inl (cJ, 4, .inr (.inl sh)))] H → va_D A [(m0, .inr (8, [.int 0, .int (nI N), .int (nI n), .int (nI bc), .long (lN P), .long (lN Q), .long (lN G), .long (lN al), .long (lN pa), .long (lN pb), .int cl, .ref a0, .ref a1, .ref a2, .ref a3, .ref a4, .ref a5, .ref a6, .ref a7, .ref a8, .ref a9, .ref b0, .ref b1, .int (nI oc), .ref b2, .ref b3, .ref b4, .ref b5])), (a5, .inl (cI, 4, .inl sf)), (b4, .inl (cJ, 4, .inr (.inl sh)))] → ∀ (ls : Array Slot), lv_has ls 8 [(0, .ref m0), (1, .long (lN (prk P so i))), (3, .long (lN 1)), (5, .int (nI i))] → W p l e ({ frames := 6, cells := 0, slots := 0, locals := 161 } : Room) s m ([.ref m0] : List Value).toArray below meth c H locs 0 0 (MQ below (va_Qi (fun (r : Int32) (_ : Unit) => oc_m P G (pb * (prk P so N ^ (Q - 1) % P) % P) bc r) (fun _ t => va_P (dC, dI) classes (mo_ws m0 0 (nI N) (nI n) (nI bc) (lN P) (lN Q) (lN G) (lN al) (lN pa) (lN pb) cl a0 a1 a2 a3 a4 a5 a6 a7 a8 a9 b0 b1 oc b2 b3 b4 b5 ++ (iw_ws a5 cI 4 sf ++ (jw_ws b4 cJ 4 sh))) t.heap ∧ va_K (dC, dI) classes [(cJ, .long), (cI, .int)] t ∧ va_D A (mo_ws m0 0 (nI N) (nI n) (nI bc) (lN P) (lN Q) (lN G) (lN al) (lN pa) (lN pb) cl a0 a1 a2 a3 a4 a5 a6 a7 a8 a9 b0 b1 oc b2 b3 b4 b5 ++ (iw_ws a5 cI 4 sf ++ (jw_ws b4 cJ 4 sh)))) A) ([.ref m0] : List Value).toArray s 0 0 A) (F0 m 34 ls []) := by
        intro j
        induction j using Nat.strongRecOn with
        | ind j ih =>
          intro i hij H locs hS hP hD ls hl
          refine lv_iload hx hb d_Bm_result_34 (lv_at hl 3 rfl) ?_
          refine lv_aload_n hx hb d_Bm_result_36 rfl (lv_at hl 0 rfl) ?_
          refine va_get (D := (dC, dI)) (ci := 8) (v := .int (nI N)) (C := "BallotBoardModel") (T := F_Bm) (N := 28) hx hb hts (fun w9 h9 => List.mem_cons_of_mem _ (i_Bm w9 h9)) hown hK hP 0 rfl rfl 1 (by decide) (hts _ (List.mem_cons_of_mem _ gk_920)) (fun _ h9 => h9) rfl d_Bm_result_37 ?_
          refine lv_icmp_ge (tgt := 62) hx hb d_Bm_result_40 (by decide) (fun c_4 => ?_) (fun c_4 => ?_)
          · -- taken
            have hi9 : i = N := by
              have := (nI_leI (by omega) (by omega)).mp c_4
              omega
            rw [hi9] at hl
            refine lv_aload_n hx hb d_Bm_result_62 rfl (lv_at hl 0 rfl) ?_
            refine lv_aload_n hx hb d_Bm_result_63 rfl (lv_at hl 0 rfl) ?_
            refine va_get (D := (dC, dI)) (ci := 8) (v := .long (lN pb)) (C := "BallotBoardModel") (T := F_Bm) (N := 28) hx hb hts (fun w9 h9 => List.mem_cons_of_mem _ (i_Bm w9 h9)) hown hK hP 0 rfl rfl 9 (by decide) (hts _ (List.mem_cons_of_mem _ gk_928)) (fun _ h9 => h9) rfl d_Bm_result_64 ?_
            refine lv_lload_n hx hb d_Bm_result_67 rfl (lv_at hl 1 rfl) ?_
            have hPc := hP.sub (ws' := (mo_ws m0 0 (nI N) (nI n) (nI bc) (lN P) (lN Q) (lN G) (lN al) (lN pa) (lN pb) cl a0 a1 a2 a3 a4 a5 a6 a7 a8 a9 b0 b1 oc b2 b3 b4 b5)) [0] rfl
            have hKc := hK.sub (tys' := [(cJ, .long), (cI, .int)]) [0, 1] rfl
            refine va_calll (va_runV (As := [.long (lN pb), .long (lN (prk P so N))]) (rest := []) ⟨hx, hb, hml, hown, hts⟩ (c_Bm_over l H dC dI cJ cI m0 0 (nI N) (nI n) (nI bc) (lN al) (lN pa) (lN pb) cl a0 a1 a2 a3 a4 a5 a6 a7 a8 a9 b0 b1 oc b2 b3 b4 b5 P Q G pb (prk P so N) hPc hPQ h61F hQ3 hpb (prk_lt (by omega) so _)) (cwV 2 hts (gw_V gk_1129 gk_1131 gp_46 gk_7 gk_1132) rfl rfl rfl (by decide +kernel) ⟨Nat.le_of_ble_eq_true rfl, Nat.le_of_ble_eq_true rfl⟩) ⟨fun a U g mk q => ⟨q.1, q.2.1, va_K.moved (u := U) (U := U.calling g mk a) (Vm.Alike.refl U.vm) q.2.2⟩, va_recv hK hP (ci := 8) (q0 := 0) rfl rfl, fun U hU hW => ⟨rfl, hU, va_K.moved hW.alike hKc⟩⟩ rfl rfl hl.1 rfl (lv_room (Nat.le_of_ble_eq_true rfl)) d_Bm_result_68 ⟨Nat.le_of_ble_eq_true rfl, Nat.le_of_ble_eq_true rfl⟩) hS (fun q _ h => h.elim) (fun q h => h.elim) (fun r68 u9 t9 H1 locs ht hvm hw hB hz1 hk1 hS => ?_)
            obtain rfl : H = H1 := hB.symm.trans ht
            have hw : r68 = lN (pb * ((prk P so N) ^ (Q - 1) % P) % P) := hw
            subst hw
            refine lv_lstore (lv' := [(5, .long (lN (pb * ((prk P so N) ^ (Q - 1) % P) % P))), (0, .ref m0), (1, .long (lN (prk P so N))), (3, .long (lN 1))]) hx hb d_Bm_result_71 hl (by decide) rfl (fun ls hl => ?_)
            refine lv_iconst (v := 0) hx hb d_Bm_result_73 (by decide) ?_
            refine lv_istore (lv' := [(7, .int 0), (5, .long (lN (pb * ((prk P so N) ^ (Q - 1) % P) % P))), (0, .ref m0), (1, .long (lN (prk P so N))), (3, .long (lN 1))]) hx hb d_Bm_result_74 hl (by decide) rfl (fun ls hl => ?_)
            obtain ⟨goal, hgo⟩ : ∃ y : Nat, y = pb * ((prk P so N) ^ (Q - 1) % P) % P := ⟨_, rfl⟩
            have hgP : goal < P := by rw [hgo]; exact Nat.mod_lt _ (by omega)
            rw [← hgo] at hl ⊢
            have loop8 : ∀ (j i : Nat), i + j = bc + 1 → (∀ a, a < i → gpw P G a ≠ goal) → ∀ (H : Heap) (locs : List Loc), va_S A s.heap H locs → va_P (dC, dI) classes [(m0, .inr (8, [.int 0, .int (nI N), .int (nI n), .int (nI bc), .long (lN P), .long (lN Q), .long (lN G), .long (lN al), .long (lN pa), .long (lN pb), .int cl, .ref a0, .ref a1, .ref a2, .ref a3, .ref a4, .ref a5, .ref a6, .ref a7, .ref a8, .ref a9, .ref b0, .ref b1, .int (nI oc), .ref b2, .ref b3, .ref b4, .ref b5])), (a5, .inl (cI, 4, .inl sf)), (b4, .inl (cJ, 4, .inr (.inl sh)))] H → va_D A [(m0, .inr (8, [.int 0, .int (nI N), .int (nI n), .int (nI bc), .long (lN P), .long (lN Q), .long (lN G), .long (lN al), .long (lN pa), .long (lN pb), .int cl, .ref a0, .ref a1, .ref a2, .ref a3, .ref a4, .ref a5, .ref a6, .ref a7, .ref a8, .ref a9, .ref b0, .ref b1, .int (nI oc), .ref b2, .ref b3, .ref b4, .ref b5])), (a5, .inl (cI, 4, .inl sf)), (b4, .inl (cJ, 4, .inr (.inl sh)))] → ∀ (ls : Array Slot), lv_has ls 8 [(0, .ref m0), (3, .long (lN (gpw P G i))), (5, .long (lN goal)), (7, .int (nI i))] → W p l e ({ frames := 6, cells := 0, slots := 0, locals := 161 } : Room) s m ([.ref m0] : List Value).toArray below meth c H locs 0 0 (MQ below (va_Qi (fun (r : Int32) (_ : Unit) => oc_m P G goal bc r) (fun _ t => va_P (dC, dI) classes (mo_ws m0 0 (nI N) (nI n) (nI bc) (lN P) (lN Q) (lN G) (lN al) (lN pa) (lN pb) cl a0 a1 a2 a3 a4 a5 a6 a7 a8 a9 b0 b1 oc b2 b3 b4 b5 ++ (iw_ws a5 cI 4 sf ++ (jw_ws b4 cJ 4 sh))) t.heap ∧ va_K (dC, dI) classes [(cJ, .long), (cI, .int)] t ∧ va_D A (mo_ws m0 0 (nI N) (nI n) (nI bc) (lN P) (lN Q) (lN G) (lN al) (lN pa) (lN pb) cl a0 a1 a2 a3 a4 a5 a6 a7 a8 a9 b0 b1 oc b2 b3 b4 b5 ++ (iw_ws a5 cI 4 sf ++ (jw_ws b4 cJ 4 sh)))) A) ([.ref m0] : List Value).toArray s 0 0 A) (F0 m 76 ls []) := by
              intro j
              induction j using Nat.strongRecOn with
              | ind j ih =>
                intro i hij hall H locs hS hP hD ls hl
                have hg1 := gpw_lt (P := P) (G := G) (by omega) i
                refine lv_iload hx hb d_Bm_result_76 (lv_at hl 3 rfl) ?_
                refine lv_aload_n hx hb d_Bm_result_78 rfl (lv_at hl 0 rfl) ?_
                refine va_get (D := (dC, dI)) (ci := 8) (v := .int (nI bc)) (C := "BallotBoardModel") (T := F_Bm) (N := 28) hx hb hts (fun w9 h9 => List.mem_cons_of_mem _ (i_Bm w9 h9)) hown hK hP 0 rfl rfl 3 (by decide) (hts _ (List.mem_cons_of_mem _ gk_922)) (fun _ h9 => h9) rfl d_Bm_result_79 ?_
                refine lv_icmp_gt (tgt := 111) hx hb d_Bm_result_82 (by decide) (fun c_5 => ?_) (fun c_5 => ?_)
                · -- taken
                  have hi9 : i = bc + 1 := by
                    have := (nI_ltI (by omega) (by omega)).mp c_5
                    omega
                  refine lv_iconst (v := (-1)) hx hb d_Bm_result_111 (by decide) ?_
                  exact W.iret (v := (-1)) hx hb hr (fun t ht9 hW => ⟨⟨_, (), rfl, (Or.inr ⟨rfl, fun a ha => hall a (by omega)⟩), by rw [ht9]; exact hP, va_K.moved hW.alike hK, hD⟩, hS.F ht9⟩) hS.2.2 d_Bm_result_112
                · -- not taken
                  have hi9 : ¬ bc < i := fun h => c_5 ((nI_ltI (by omega) (by omega)).mpr h)
                  refine lv_lload_n hx hb d_Bm_result_85 rfl (lv_at hl 1 rfl) ?_
                  refine lv_lload hx hb d_Bm_result_86 (lv_at hl 2 rfl) ?_
                  refine W.lcmp hx hb d_Bm_result_88 ?_
                  refine lv_if_ne (tgt := 95) hx hb d_Bm_result_89 (by decide) (fun c_6 => ?_) (fun c_6 => ?_)
                  · -- taken
                    have hz9 : ¬ gpw P G i = goal := fun h => c_6 ((ln_cmp_eq (by omega) (by omega)).mpr h)
                    refine lv_aload_n hx hb d_Bm_result_95 rfl (lv_at hl 0 rfl) ?_
                    refine lv_lload_n hx hb d_Bm_result_96 rfl (lv_at hl 1 rfl) ?_
                    refine lv_aload_n hx hb d_Bm_result_97 rfl (lv_at hl 0 rfl) ?_
                    refine va_get (D := (dC, dI)) (ci := 8) (v := .long (lN G)) (C := "BallotBoardModel") (T := F_Bm) (N := 28) hx hb hts (fun w9 h9 => List.mem_cons_of_mem _ (i_Bm w9 h9)) hown hK hP 0 rfl rfl 6 (by decide) (hts _ (List.mem_cons_of_mem _ gk_925)) (fun _ h9 => h9) rfl d_Bm_result_98 ?_
                    have hPc := hP.sub (ws' := (mo_ws m0 0 (nI N) (nI n) (nI bc) (lN P) (lN Q) (lN G) (lN al) (lN pa) (lN pb) cl a0 a1 a2 a3 a4 a5 a6 a7 a8 a9 b0 b1 oc b2 b3 b4 b5)) [0] rfl
                    have hKc := hK.sub (tys' := [(cJ, .long), (cI, .int)]) [0, 1] rfl
                    refine va_calll (va_runV (As := [.long (lN (gpw P G i)), .long (lN G)]) (rest := []) ⟨hx, hb, hml, hown, hts⟩ (c_Bm_times l H dC dI cJ cI m0 0 (nI N) (nI n) (nI bc) (lN al) (lN pa) (lN pb) cl a0 a1 a2 a3 a4 a5 a6 a7 a8 a9 b0 b1 oc b2 b3 b4 b5 P Q G (gpw P G i) G hPc hPQ h61F hQ3 hg1 hGP) (cwV 2 hts (gw_V gk_1058 gk_1060 gp_33 gk_7 gk_1061) rfl rfl rfl (by decide +kernel) ⟨Nat.le_of_ble_eq_true rfl, Nat.le_of_ble_eq_true rfl⟩) ⟨fun a U g mk q => ⟨q.1, q.2.1, va_K.moved (u := U) (U := U.calling g mk a) (Vm.Alike.refl U.vm) q.2.2⟩, va_recv hK hP (ci := 8) (q0 := 0) rfl rfl, fun U hU hW => ⟨rfl, hU, va_K.moved hW.alike hKc⟩⟩ rfl rfl hl.1 rfl (lv_room (Nat.le_of_ble_eq_true rfl)) d_Bm_result_101 ⟨Nat.le_of_ble_eq_true rfl, Nat.le_of_ble_eq_true rfl⟩) hS (fun q _ h => h.elim) (fun q h => h.elim) (fun r101 u9 t9 H1 locs ht hvm hw hB hz1 hk1 hS => ?_)
                    obtain rfl : H = H1 := hB.symm.trans ht
                    have hw : r101 = lN ((gpw P G i) * G % P) := hw
                    subst hw
                    rw [show (lN ((gpw P G i) * G % P) : Int64) = (lN (gpw P G (i + 1))) from rfl]
                    refine lv_lstore_n (lv' := [(3, .long (lN (gpw P G (i + 1)))), (0, .ref m0), (5, .long (lN goal)), (7, .int (nI i))]) hx hb d_Bm_result_104 rfl hl (by decide) rfl (fun ls hl => ?_)
                    obtain ⟨i_7, ei_7⟩ : ∃ y : Int32, y = (nI i) + 1 := ⟨_, rfl⟩
                    refine lv_iinc (v := i_7) (lv' := [(7, .int i_7), (3, .long (lN (gpw P G (i + 1)))), (0, .ref m0), (5, .long (lN goal))]) hx hb d_Bm_result_105 hl (k := 3) rfl (by rw [ei_7]; rfl) (by decide) rfl (fun ls hl => ?_)
                    obtain rfl : i_7 = nI (i + 1) := by rw [ei_7]; exact nI_1 i
                    refine lv_goto (tgt := 76) hx hb d_Bm_result_108 (by decide) ?_
                    exact ih (j - 1) (by omega) (i + 1) (by omega) (fun a ha => by
                      by_cases e9 : a = i
                      · rw [e9]; exact hz9
                      · exact hall a (by omega)) H locs hS hP hD ls (lv_sub hl [2, 1, 3, 0] rfl)
                  · -- not taken
                    have hz9 : gpw P G i = goal := (ln_cmp_eq (by omega) (by omega)).mp c_6
                    refine lv_iload hx hb d_Bm_result_92 (lv_at hl 3 rfl) ?_
                    exact W.iret (v := (nI i)) hx hb hr (fun t ht9 hW => ⟨⟨_, (), rfl, (Or.inl ⟨i, by omega, rfl, hz9, hall⟩), by rw [ht9]; exact hP, va_K.moved hW.alike hK, hD⟩, hS.F ht9⟩) hS.2.2 d_Bm_result_94
            exact loop8 (bc + 1) 0 (by omega) (fun a ha => absurd ha (by omega)) H _ hS hP hD ls (lv_sub hl [2, 4, 1, 0] rfl)
          · -- not taken
            have hi9 : i < N := Nat.lt_of_not_le (fun h => c_4 ((nI_leI (by omega) (by omega)).mpr h))
            have hv9 := rK_val hrs (show i < 4 by omega) (hC1.2 i hi9)
            have hv8 := hsp i
            have hv7 := prk_lt (P := P) (by omega) so i
            refine lv_aload_n hx hb d_Bm_result_43 rfl (lv_at hl 0 rfl) ?_
            refine lv_lload_n hx hb d_Bm_result_44 rfl (lv_at hl 1 rfl) ?_
            refine lv_aload_n hx hb d_Bm_result_45 rfl (lv_at hl 0 rfl) ?_
            refine va_get (D := (dC, dI)) (ci := 8) (v := .ref b4) (C := "BallotBoardModel") (T := F_Bm) (N := 28) hx hb hts (fun w9 h9 => List.mem_cons_of_mem _ (i_Bm w9 h9)) hown hK hP 0 rfl rfl 26 (by decide) (hts _ (List.mem_cons_of_mem _ gk_945)) (fun _ h9 => h9) rfl d_Bm_result_46 ?_
            refine lv_iload hx hb d_Bm_result_49 (lv_at hl 3 rfl) ?_
            refine va_lald hx hb hK hP 2 0 rfl rfl (vp_in_nI (by omega) (by omega)) d_Bm_result_51 ?_
            rw [show (sh (nI i : Int32).toNatClampNeg : Int64) = sh i from by rw [nI_clamp (by omega)]]
            rw [show (sh i : Int64) = (lN (so i)) from hv9]
            have hPc := hP.sub (ws' := (mo_ws m0 0 (nI N) (nI n) (nI bc) (lN P) (lN Q) (lN G) (lN al) (lN pa) (lN pb) cl a0 a1 a2 a3 a4 a5 a6 a7 a8 a9 b0 b1 oc b2 b3 b4 b5)) [0] rfl
            have hKc := hK.sub (tys' := [(cJ, .long), (cI, .int)]) [0, 1] rfl
            refine va_calll (va_runV (As := [.long (lN (prk P so i)), .long (lN (so i))]) (rest := []) ⟨hx, hb, hml, hown, hts⟩ (c_Bm_times l H dC dI cJ cI m0 0 (nI N) (nI n) (nI bc) (lN al) (lN pa) (lN pb) cl a0 a1 a2 a3 a4 a5 a6 a7 a8 a9 b0 b1 oc b2 b3 b4 b5 P Q G (prk P so i) (so i) hPc hPQ h61F hQ3 hv7 hv8) (cwV 2 hts (gw_V gk_1058 gk_1060 gp_33 gk_7 gk_1061) rfl rfl rfl (by decide +kernel) ⟨Nat.le_of_ble_eq_true rfl, Nat.le_of_ble_eq_true rfl⟩) ⟨fun a U g mk q => ⟨q.1, q.2.1, va_K.moved (u := U) (U := U.calling g mk a) (Vm.Alike.refl U.vm) q.2.2⟩, va_recv hK hP (ci := 8) (q0 := 0) rfl rfl, fun U hU hW => ⟨rfl, hU, va_K.moved hW.alike hKc⟩⟩ rfl rfl hl.1 rfl (lv_room (Nat.le_of_ble_eq_true rfl)) d_Bm_result_52 ⟨Nat.le_of_ble_eq_true rfl, Nat.le_of_ble_eq_true rfl⟩) hS (fun q _ h => h.elim) (fun q h => h.elim) (fun r52 u9 t9 H1 locs ht hvm hw hB hz1 hk1 hS => ?_)
            obtain rfl : H = H1 := hB.symm.trans ht
            have hw : r52 = lN ((prk P so i) * (so i) % P) := hw
            subst hw
            rw [show (lN ((prk P so i) * (so i) % P) : Int64) = (lN (prk P so (i + 1))) from rfl]
            refine lv_lstore_n (lv' := [(1, .long (lN (prk P so (i + 1)))), (0, .ref m0), (3, .long (lN 1)), (5, .int (nI i))]) hx hb d_Bm_result_55 rfl hl (by decide) rfl (fun ls hl => ?_)
            obtain ⟨i_8, ei_8⟩ : ∃ y : Int32, y = (nI i) + 1 := ⟨_, rfl⟩
            refine lv_iinc (v := i_8) (lv' := [(5, .int i_8), (1, .long (lN (prk P so (i + 1)))), (0, .ref m0), (3, .long (lN 1))]) hx hb d_Bm_result_56 hl (k := 3) rfl (by rw [ei_8]; rfl) (by decide) rfl (fun ls hl => ?_)
            obtain rfl : i_8 = nI (i + 1) := by rw [ei_8]; exact nI_1 i
            refine lv_goto (tgt := 34) hx hb d_Bm_result_59 (by decide) ?_
            exact ih (j - 1) (by omega) (i + 1) (by omega) H locs hS hP hD ls (lv_sub hl [2, 1, 3, 0] rfl)
      exact loop9 N 0 (by omega) H _ hS hP hD ls (lv_sub hl [3, 2, 1, 0] rfl)
    · -- not taken
      exact absurd rfl c_3
  · -- not taken
    exact absurd hC1 (bz_f h7 c_1)
