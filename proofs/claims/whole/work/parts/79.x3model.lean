abbrev b_Bm_isPrime : ByteArray := prog_10_method_12_code
abbrev y_Bm_isPrime : MethodName := ⟨"BallotBoardModel", "isPrime", "(J)Z"⟩
abbrev w_Bm_isPrime : List Cond := .code y_Bm_isPrime b_Bm_isPrime 9 (some .boolean) :: gw
theorem d_Bm_isPrime_0 : decode b_Bm_isPrime 0 = .ok (.lload_n 0, 1) := by decide +kernel
theorem d_Bm_isPrime_1 : decode b_Bm_isPrime 1 = .ok (.ldc2_w 159, 3) := by decide +kernel
theorem d_Bm_isPrime_4 : decode b_Bm_isPrime 4 = .ok (.lcmp, 1) := by decide +kernel
theorem d_Bm_isPrime_5 : decode b_Bm_isPrime 5 = .ok (.ifCond .ge 5, 3) := by decide +kernel
theorem d_Bm_isPrime_8 : decode b_Bm_isPrime 8 = .ok (.iconst 0, 1) := by decide +kernel
theorem d_Bm_isPrime_9 : decode b_Bm_isPrime 9 = .ok (.ireturn, 1) := by decide +kernel
theorem d_Bm_isPrime_10 : decode b_Bm_isPrime 10 = .ok (.iconst 2, 1) := by decide +kernel
theorem d_Bm_isPrime_11 : decode b_Bm_isPrime 11 = .ok (.istore_n 2, 1) := by decide +kernel
theorem d_Bm_isPrime_12 : decode b_Bm_isPrime 12 = .ok (.iload_n 2, 1) := by decide +kernel
theorem d_Bm_isPrime_13 : decode b_Bm_isPrime 13 = .ok (.bipush 38, 2) := by decide +kernel
theorem d_Bm_isPrime_15 : decode b_Bm_isPrime 15 = .ok (.if_icmp .ge 31, 3) := by decide +kernel
theorem d_Bm_isPrime_18 : decode b_Bm_isPrime 18 = .ok (.lload_n 0, 1) := by decide +kernel
theorem d_Bm_isPrime_19 : decode b_Bm_isPrime 19 = .ok (.iload_n 2, 1) := by decide +kernel
theorem d_Bm_isPrime_20 : decode b_Bm_isPrime 20 = .ok (.i2l, 1) := by decide +kernel
theorem d_Bm_isPrime_21 : decode b_Bm_isPrime 21 = .ok (.lrem, 1) := by decide +kernel
theorem d_Bm_isPrime_22 : decode b_Bm_isPrime 22 = .ok (.lconst 0, 1) := by decide +kernel
theorem d_Bm_isPrime_23 : decode b_Bm_isPrime 23 = .ok (.lcmp, 1) := by decide +kernel
theorem d_Bm_isPrime_24 : decode b_Bm_isPrime 24 = .ok (.ifCond .ne 16, 3) := by decide +kernel
theorem d_Bm_isPrime_27 : decode b_Bm_isPrime 27 = .ok (.lload_n 0, 1) := by decide +kernel
theorem d_Bm_isPrime_28 : decode b_Bm_isPrime 28 = .ok (.iload_n 2, 1) := by decide +kernel
theorem d_Bm_isPrime_29 : decode b_Bm_isPrime 29 = .ok (.i2l, 1) := by decide +kernel
theorem d_Bm_isPrime_30 : decode b_Bm_isPrime 30 = .ok (.lcmp, 1) := by decide +kernel
theorem d_Bm_isPrime_31 : decode b_Bm_isPrime 31 = .ok (.ifCond .ne 7, 3) := by decide +kernel
theorem d_Bm_isPrime_34 : decode b_Bm_isPrime 34 = .ok (.iconst 1, 1) := by decide +kernel
theorem d_Bm_isPrime_35 : decode b_Bm_isPrime 35 = .ok (.goto 4, 3) := by decide +kernel
theorem d_Bm_isPrime_38 : decode b_Bm_isPrime 38 = .ok (.iconst 0, 1) := by decide +kernel
theorem d_Bm_isPrime_39 : decode b_Bm_isPrime 39 = .ok (.ireturn, 1) := by decide +kernel
theorem d_Bm_isPrime_40 : decode b_Bm_isPrime 40 = .ok (.iinc 2 1, 3) := by decide +kernel
theorem d_Bm_isPrime_43 : decode b_Bm_isPrime 43 = .ok (.goto (-31), 3) := by decide +kernel
theorem d_Bm_isPrime_46 : decode b_Bm_isPrime 46 = .ok (.lload_n 0, 1) := by decide +kernel
theorem d_Bm_isPrime_47 : decode b_Bm_isPrime 47 = .ok (.lconst 1, 1) := by decide +kernel
theorem d_Bm_isPrime_48 : decode b_Bm_isPrime 48 = .ok (.lsub, 1) := by decide +kernel
theorem d_Bm_isPrime_49 : decode b_Bm_isPrime 49 = .ok (.lstore_n 2, 1) := by decide +kernel
theorem d_Bm_isPrime_50 : decode b_Bm_isPrime 50 = .ok (.iconst 0, 1) := by decide +kernel
theorem d_Bm_isPrime_51 : decode b_Bm_isPrime 51 = .ok (.istore 4, 2) := by decide +kernel
theorem d_Bm_isPrime_53 : decode b_Bm_isPrime 53 = .ok (.lload_n 2, 1) := by decide +kernel
theorem d_Bm_isPrime_54 : decode b_Bm_isPrime 54 = .ok (.lconst 1, 1) := by decide +kernel
theorem d_Bm_isPrime_55 : decode b_Bm_isPrime 55 = .ok (.land, 1) := by decide +kernel
theorem d_Bm_isPrime_56 : decode b_Bm_isPrime 56 = .ok (.lconst 0, 1) := by decide +kernel
theorem d_Bm_isPrime_57 : decode b_Bm_isPrime 57 = .ok (.lcmp, 1) := by decide +kernel
theorem d_Bm_isPrime_58 : decode b_Bm_isPrime 58 = .ok (.ifCond .ne 13, 3) := by decide +kernel
theorem d_Bm_isPrime_61 : decode b_Bm_isPrime 61 = .ok (.lload_n 2, 1) := by decide +kernel
theorem d_Bm_isPrime_62 : decode b_Bm_isPrime 62 = .ok (.iconst 1, 1) := by decide +kernel
theorem d_Bm_isPrime_63 : decode b_Bm_isPrime 63 = .ok (.lshr, 1) := by decide +kernel
theorem d_Bm_isPrime_64 : decode b_Bm_isPrime 64 = .ok (.lstore_n 2, 1) := by decide +kernel
theorem d_Bm_isPrime_65 : decode b_Bm_isPrime 65 = .ok (.iinc 4 1, 3) := by decide +kernel
theorem d_Bm_isPrime_68 : decode b_Bm_isPrime 68 = .ok (.goto (-15), 3) := by decide +kernel
theorem d_Bm_isPrime_71 : decode b_Bm_isPrime 71 = .ok (.iconst 2, 1) := by decide +kernel
theorem d_Bm_isPrime_72 : decode b_Bm_isPrime 72 = .ok (.istore 5, 2) := by decide +kernel
theorem d_Bm_isPrime_74 : decode b_Bm_isPrime 74 = .ok (.iload 5, 2) := by decide +kernel
theorem d_Bm_isPrime_76 : decode b_Bm_isPrime 76 = .ok (.bipush 38, 2) := by decide +kernel
theorem d_Bm_isPrime_78 : decode b_Bm_isPrime 78 = .ok (.if_icmp .ge 73, 3) := by decide +kernel
theorem d_Bm_isPrime_81 : decode b_Bm_isPrime 81 = .ok (.iload 5, 2) := by decide +kernel
theorem d_Bm_isPrime_83 : decode b_Bm_isPrime 83 = .ok (.i2l, 1) := by decide +kernel
theorem d_Bm_isPrime_84 : decode b_Bm_isPrime 84 = .ok (.lload_n 2, 1) := by decide +kernel
theorem d_Bm_isPrime_85 : decode b_Bm_isPrime 85 = .ok (.lload_n 0, 1) := by decide +kernel
theorem d_Bm_isPrime_86 : decode b_Bm_isPrime 86 = .ok (.invokestatic 161, 3) := by decide +kernel
theorem d_Bm_isPrime_89 : decode b_Bm_isPrime 89 = .ok (.lstore 6, 2) := by decide +kernel
theorem d_Bm_isPrime_91 : decode b_Bm_isPrime 91 = .ok (.lload 6, 2) := by decide +kernel
theorem d_Bm_isPrime_93 : decode b_Bm_isPrime 93 = .ok (.lconst 1, 1) := by decide +kernel
theorem d_Bm_isPrime_94 : decode b_Bm_isPrime 94 = .ok (.lcmp, 1) := by decide +kernel
theorem d_Bm_isPrime_95 : decode b_Bm_isPrime 95 = .ok (.ifCond .ne 6, 3) := by decide +kernel
theorem d_Bm_isPrime_98 : decode b_Bm_isPrime 98 = .ok (.goto 47, 3) := by decide +kernel
theorem d_Bm_isPrime_101 : decode b_Bm_isPrime 101 = .ok (.iconst 0, 1) := by decide +kernel
theorem d_Bm_isPrime_102 : decode b_Bm_isPrime 102 = .ok (.istore 8, 2) := by decide +kernel
theorem d_Bm_isPrime_104 : decode b_Bm_isPrime 104 = .ok (.iload 8, 2) := by decide +kernel
theorem d_Bm_isPrime_106 : decode b_Bm_isPrime 106 = .ok (.iload 4, 2) := by decide +kernel
theorem d_Bm_isPrime_108 : decode b_Bm_isPrime 108 = .ok (.if_icmp .ge 28, 3) := by decide +kernel
theorem d_Bm_isPrime_111 : decode b_Bm_isPrime 111 = .ok (.lload 6, 2) := by decide +kernel
theorem d_Bm_isPrime_113 : decode b_Bm_isPrime 113 = .ok (.lload_n 0, 1) := by decide +kernel
theorem d_Bm_isPrime_114 : decode b_Bm_isPrime 114 = .ok (.lconst 1, 1) := by decide +kernel
theorem d_Bm_isPrime_115 : decode b_Bm_isPrime 115 = .ok (.lsub, 1) := by decide +kernel
theorem d_Bm_isPrime_116 : decode b_Bm_isPrime 116 = .ok (.lcmp, 1) := by decide +kernel
theorem d_Bm_isPrime_117 : decode b_Bm_isPrime 117 = .ok (.ifCond .eq 19, 3) := by decide +kernel
theorem d_Bm_isPrime_120 : decode b_Bm_isPrime 120 = .ok (.lload 6, 2) := by decide +kernel
theorem d_Bm_isPrime_122 : decode b_Bm_isPrime 122 = .ok (.lload 6, 2) := by decide +kernel
theorem d_Bm_isPrime_124 : decode b_Bm_isPrime 124 = .ok (.lload_n 0, 1) := by decide +kernel
theorem d_Bm_isPrime_125 : decode b_Bm_isPrime 125 = .ok (.invokestatic 156, 3) := by decide +kernel
theorem d_Bm_isPrime_128 : decode b_Bm_isPrime 128 = .ok (.lstore 6, 2) := by decide +kernel
theorem d_Bm_isPrime_130 : decode b_Bm_isPrime 130 = .ok (.iinc 8 1, 3) := by decide +kernel
theorem d_Bm_isPrime_133 : decode b_Bm_isPrime 133 = .ok (.goto (-29), 3) := by decide +kernel
theorem d_Bm_isPrime_136 : decode b_Bm_isPrime 136 = .ok (.iload 8, 2) := by decide +kernel
theorem d_Bm_isPrime_138 : decode b_Bm_isPrime 138 = .ok (.iload 4, 2) := by decide +kernel
theorem d_Bm_isPrime_140 : decode b_Bm_isPrime 140 = .ok (.if_icmp .ne 5, 3) := by decide +kernel
theorem d_Bm_isPrime_143 : decode b_Bm_isPrime 143 = .ok (.iconst 0, 1) := by decide +kernel
theorem d_Bm_isPrime_144 : decode b_Bm_isPrime 144 = .ok (.ireturn, 1) := by decide +kernel
theorem d_Bm_isPrime_145 : decode b_Bm_isPrime 145 = .ok (.iinc 5 1, 3) := by decide +kernel
theorem d_Bm_isPrime_148 : decode b_Bm_isPrime 148 = .ok (.goto (-74), 3) := by decide +kernel
theorem d_Bm_isPrime_151 : decode b_Bm_isPrime 151 = .ok (.iconst 1, 1) := by decide +kernel
theorem d_Bm_isPrime_152 : decode b_Bm_isPrime 152 = .ok (.ireturn, 1) := by decide +kernel
set_option maxHeartbeats 4000000 in
set_option maxRecDepth 100000 in
theorem c_Bm_isPrime (l : Launch) (H0 : Heap) (N : Nat) (hN : N ≤ 2 ^ 61) : Met l y_Bm_isPrime w_Bm_isPrime ({ frames := 3, cells := 0, slots := 0, locals := 89 }) (va_Pc [.long (lN N)] (fun U => U.heap = H0)) (va_Qi (fun (r : Int32) (_ : Unit) => (r = 1 ∧ nt_Rf N) ∨ (r = 0 ∧ ¬ nt_Rf N)) (fun _ t => t.heap = H0) (fun _ => False)) 0 0 (fun _ => False) := by
  refine Met.ofW (cc := b_Bm_isPrime) (maxL := 9) (ret := (some .boolean)) (by decide) rfl ?_
  intro p e s m args below meth c s₁ Bd hml hv
  obtain ⟨rfl, hH⟩ := hv
  subst hH
  have hx := Bd.exec
  have hb := Bd.bytes
  have hr := Bd.returns
  have hts := atoms_spec (ws := w_Bm_isPrime) Bd.pre
  have hown : s.vm.findClass "BallotBoardModel" = some m.cls := findClass_of_methodNamed Bd.named
  have hlocks := Bd.notSynchronized
  have hS : va_S (fun _ => False) s.heap s.heap [] := va_S.rf
  have hl := lv_entry ([.long (lN N)]) (n := 9) (Nat.le_of_ble_eq_true rfl)
  rw [lg_entry_eq]
  generalize (lg_sl ([.long (lN N)]) ++ List.replicate (9 - (lg_sl ([.long (lN N)])).length) Slot.unset).toArray = ls at hl ⊢
  have hl : lv_has ls 9 [(0, .long (lN N))] := hl
  have loop3 : ∀ (t d : Nat), N - 1 = 2 ^ t * d → d % 2 = 1 → 38 ≤ N → N < 2 ^ 61 → t < 62 → (∀ c, 2 ≤ c → c < 38 → ¬ c ∣ N) → ∀ (j b : Nat), b + j = 38 → 2 ≤ b → (∀ c, 2 ≤ c → c < b → nt_sp c N) → ∀ (locs : List Loc), va_S (fun _ => False) s.heap s.heap locs → ∀ (ls : Array Slot), lv_has ls 9 [(0, .long (lN N)), (2, .long (lN d)), (4, .int (nI t)), (5, .int (nI b))] → W p l e ({ frames := 3, cells := 0, slots := 0, locals := 89 } : Room) s m ([.long (lN N)] : List Value).toArray below meth c s.heap locs 0 0 (MQ below (va_Qi (fun (r : Int32) (_ : Unit) => (r = 1 ∧ nt_Rf N) ∨ (r = 0 ∧ ¬ nt_Rf N)) (fun _ t => t.heap = s.heap) (fun _ => False)) ([.long (lN N)] : List Value).toArray s 0 0 (fun _ => False)) (F0 m 74 ls []) := by
    intro t d htd hd h38 hN61 ht62 hdiv j
    have hd62 : d < 2 ^ 61 := by
      have : 1 * d ≤ 2 ^ t * d := Nat.mul_le_mul_right d (Nat.two_pow_pos t)
      omega
    induction j using Nat.strongRecOn with
    | ind j ih =>
      intro b hbj hb2 hsp locs hS ls hl
      refine lv_iload hx hb d_Bm_isPrime_74 (lv_at hl 3 rfl) ?_
      refine lv_bipush (v := 38) hx hb d_Bm_isPrime_76 (by decide) ?_
      refine lv_icmp_ge (tgt := 151) hx hb d_Bm_isPrime_78 (by decide) (fun c_1 => ?_) (fun c_1 => ?_)
      · -- taken
        have hb38 : 38 ≤ b := (ige 38 (by omega) (by omega) rfl).mp c_1
        refine lv_iconst (v := 1) hx hb d_Bm_isPrime_151 (by decide) ?_
        exact W.zret (v := 1) hx hb hr (by decide) (fun t ht hW => ⟨⟨_, (), rfl, (Or.inl ⟨rfl, by omega, Or.inr ⟨hdiv, fun c h2 hc => hsp c h2 (by omega)⟩⟩), ht⟩, hS.F ht⟩) hS.2.2 d_Bm_isPrime_152
      · -- not taken
        have hb38 : ¬ 38 ≤ b := fun h => c_1 ((ige 38 (by omega) (by omega) rfl).mpr h)
        refine lv_iload hx hb d_Bm_isPrime_81 (lv_at hl 3 rfl) ?_
        refine lv_i2l (v := (nI b : Int32).toInt64) hx hb d_Bm_isPrime_83 rfl ?_
        rw [show ((nI b : Int32).toInt64 : Int64) = (lN b) from nI_l (by omega)]
        refine lv_lload_n hx hb d_Bm_isPrime_84 rfl (lv_at hl 1 rfl) ?_
        refine lv_lload_n hx hb d_Bm_isPrime_85 rfl (lv_at hl 0 rfl) ?_
        refine va_calll (va_runS (As := [.long (lN b), .long (lN d), .long (lN N)]) (rest := []) ⟨hx, hb, hml, hown, hts⟩ (c_Bm_power l s.heap b d N (by omega) (by omega) (by omega)) (cwS 3 hts (gw_S gk_1018 gk_1019 gk_7 gk_1020) rfl rfl rfl (by decide +kernel) ⟨Nat.le_of_ble_eq_true rfl, Nat.le_of_ble_eq_true rfl⟩) ⟨fun a U g mk q => q, fun U hU hW => ⟨rfl, hU⟩⟩ rfl rfl hl.1 rfl (lv_room (Nat.le_of_ble_eq_true rfl)) d_Bm_isPrime_86 ⟨Nat.zero_le _, Nat.zero_le _⟩) hS (fun q _ h => h.elim) (fun q h => h.elim) (fun r_2 u9 t9 H1 locs ht hvm hw hB hz1 hk1 hS => ?_)
        obtain rfl : s.heap = H1 := hB.symm.trans ht
        have hw : r_2 = lN ((b ^ d) % N) := hw
        subst hw
        refine lv_lstore (lv' := [(6, .long (lN ((b ^ d) % N))), (0, .long (lN N)), (2, .long (lN d)), (4, .int (nI t)), (5, .int (nI b))]) hx hb d_Bm_isPrime_89 hl (by decide) rfl (fun ls hl => ?_)
        refine lv_lload hx hb d_Bm_isPrime_91 (lv_at hl 0 rfl) ?_
        refine lv_lconst (v := 1) hx hb d_Bm_isPrime_93 (by decide) ?_
        refine W.lcmp hx hb d_Bm_isPrime_94 ?_
        refine lv_if_ne (tgt := 101) hx hb d_Bm_isPrime_95 (by decide) (fun c_3 => ?_) (fun c_3 => ?_)
        · -- taken
          have h1 : b ^ d % N ≠ 1 := fun h => c_3 ((cmpe (Nat.lt_trans (Nat.mod_lt _ (by omega)) (by omega)) 1 (by omega) rfl).mpr h)
          have loop4 : ∀ (i4 k : Nat), k + i4 = t → (∀ i, i < k → b ^ (2 ^ i * d) % N ≠ N - 1) → ∀ (locs : List Loc), va_S (fun _ => False) s.heap s.heap locs → ∀ (ls : Array Slot), lv_has ls 9 [(0, .long (lN N)), (2, .long (lN d)), (4, .int (nI t)), (5, .int (nI b)), (6, .long (lN (b ^ (2 ^ k * d) % N))), (8, .int (nI k))] → W p l e ({ frames := 3, cells := 0, slots := 0, locals := 89 } : Room) s m ([.long (lN N)] : List Value).toArray below meth c s.heap locs 0 0 (MQ below (va_Qi (fun (r : Int32) (_ : Unit) => (r = 1 ∧ nt_Rf N) ∨ (r = 0 ∧ ¬ nt_Rf N)) (fun _ t => t.heap = s.heap) (fun _ => False)) ([.long (lN N)] : List Value).toArray s 0 0 (fun _ => False)) (F0 m 104 ls []) := by
            intro i4
            induction i4 using Nat.strongRecOn with
            | ind i4 ih4 =>
              intro k hki hbad locs hS ls hl
              refine lv_iload hx hb d_Bm_isPrime_104 (lv_at hl 5 rfl) ?_
              refine lv_iload hx hb d_Bm_isPrime_106 (lv_at hl 2 rfl) ?_
              refine lv_icmp_ge (tgt := 136) hx hb d_Bm_isPrime_108 (by decide) (fun c_1 => ?_) (fun c_1 => ?_)
              · -- taken
                have hkt : k = t := by
                  have := (ige t (by omega) (by omega) rfl).mp c_1
                  omega
                have hno : ∀ i, i < t → b ^ (2 ^ i * d) % N ≠ N - 1 := fun i hi => hbad i (by omega)
                refine lv_iload hx hb d_Bm_isPrime_136 (lv_at hl 5 rfl) ?_
                refine lv_iload hx hb d_Bm_isPrime_138 (lv_at hl 2 rfl) ?_
                refine lv_icmp_ne (tgt := 145) hx hb d_Bm_isPrime_140 (by decide) (fun c_2 => ?_) (fun c_2 => ?_)
                · -- taken
                  exact absurd (congrArg nI hkt) c_2
                · -- not taken
                  have hk0 := c_2
                  refine lv_iconst (v := 0) hx hb d_Bm_isPrime_143 (by decide) ?_
                  exact W.zret (v := 0) hx hb hr (by decide) (fun t ht hW => ⟨⟨_, (), rfl, (Or.inr ⟨rfl, Rf_no2 h38 hb2 (by omega) (sp_no htd hd h1 hno)⟩), ht⟩, hS.F ht⟩) hS.2.2 d_Bm_isPrime_144
              · -- not taken
                have hkt : k < t := Nat.lt_of_not_le (fun h => c_1 ((ige t (by omega) (by omega) rfl).mpr h))
                refine lv_lload hx hb d_Bm_isPrime_111 (lv_at hl 4 rfl) ?_
                refine lv_lload_n hx hb d_Bm_isPrime_113 rfl (lv_at hl 0 rfl) ?_
                refine lv_lconst (v := 1) hx hb d_Bm_isPrime_114 (by decide) ?_
                refine lv_lsub hx hb d_Bm_isPrime_115 ?_
                rw [show ((lN N) - 1 : Int64) = (lN (N - 1)) from lsub1 (by omega)]
                refine W.lcmp hx hb d_Bm_isPrime_116 ?_
                refine lv_if_eq (tgt := 136) hx hb d_Bm_isPrime_117 (by decide) (fun c_3 => ?_) (fun c_3 => ?_)
                · -- taken
                  have hx1 : b ^ (2 ^ k * d) % N = N - 1 := (ln_cmp_eq (Nat.lt_trans (Nat.mod_lt _ (by omega)) (by omega)) (by omega)).mp c_3
                  have hspb : nt_sp b N := ⟨d, t, htd, hd, Or.inr ⟨k, hkt, hx1⟩⟩
                  refine lv_iload hx hb d_Bm_isPrime_136 (lv_at hl 5 rfl) ?_
                  refine lv_iload hx hb d_Bm_isPrime_138 (lv_at hl 2 rfl) ?_
                  refine lv_icmp_ne (tgt := 145) hx hb d_Bm_isPrime_140 (by decide) (fun c_4 => ?_) (fun c_4 => ?_)
                  · -- taken
                    have hk1 := c_4
                    obtain ⟨i_5, ei_5⟩ : ∃ y : Int32, y = (nI b) + 1 := ⟨_, rfl⟩
                    refine lv_iinc (v := i_5) (lv' := [(5, .int i_5), (0, .long (lN N)), (2, .long (lN d)), (4, .int (nI t)), (6, .long (lN (b ^ (2 ^ k * d) % N))), (8, .int (nI k))]) hx hb d_Bm_isPrime_145 hl (k := 3) rfl (by rw [ei_5]; rfl) (by decide) rfl (fun ls hl => ?_)
                    obtain rfl : i_5 = nI (b + 1) := by rw [ei_5]; exact nI_1 b
                    refine lv_goto (tgt := 74) hx hb d_Bm_isPrime_148 (by decide) ?_
                    exact ih (j - 1) (by omega) (b + 1) (by omega) (by omega) (fun c h2 hlt => by
                      by_cases e : c = b
                      · rw [e]
                        exact hspb
                      · exact hsp c h2 (by omega)) locs hS ls (lv_sub hl [1, 2, 3, 0] rfl)
                  · -- not taken
                    exact absurd c_4 (fun h : nI k = nI t => by
                      have := (nI_eq (by omega) (by omega)).mp h
                      omega)
                · -- not taken
                  have hx1 : b ^ (2 ^ k * d) % N ≠ N - 1 := fun h => c_3 ((ln_cmp_eq (Nat.lt_trans (Nat.mod_lt _ (by omega)) (by omega)) (by omega)).mpr h)
                  refine lv_lload hx hb d_Bm_isPrime_120 (lv_at hl 4 rfl) ?_
                  refine lv_lload hx hb d_Bm_isPrime_122 (lv_at hl 4 rfl) ?_
                  refine lv_lload_n hx hb d_Bm_isPrime_124 rfl (lv_at hl 0 rfl) ?_
                  refine va_calll (va_runS (As := [.long (lN (b ^ (2 ^ k * d) % N)), .long (lN (b ^ (2 ^ k * d) % N)), .long (lN N)]) (rest := []) ⟨hx, hb, hml, hown, hts⟩ (c_Bm_product l s.heap (b ^ (2 ^ k * d) % N) (b ^ (2 ^ k * d) % N) N (Nat.mod_lt _ (by omega)) (Nat.lt_trans (Nat.mod_lt _ (by omega)) (by omega)) (by omega)) (cwS 3 hts (gw_S gk_1021 gk_1022 gk_7 gk_1023) rfl rfl rfl (by decide +kernel) ⟨Nat.le_of_ble_eq_true rfl, Nat.le_of_ble_eq_true rfl⟩) ⟨fun a U g mk q => q, fun U hU hW => ⟨rfl, hU⟩⟩ rfl rfl hl.1 rfl (lv_room (Nat.le_of_ble_eq_true rfl)) d_Bm_isPrime_125 ⟨Nat.zero_le _, Nat.zero_le _⟩) hS (fun q _ h => h.elim) (fun q h => h.elim) (fun r_6 u9 t9 H1 locs ht hvm hw hB hz1 hk1 hS => ?_)
                  obtain rfl : s.heap = H1 := hB.symm.trans ht
                  have hw : r_6 = lN (((b ^ (2 ^ k * d) % N) * (b ^ (2 ^ k * d) % N)) % N) := hw
                  subst hw
                  rw [show (lN (((b ^ (2 ^ k * d) % N) * (b ^ (2 ^ k * d) % N)) % N) : Int64) = (lN (b ^ (2 ^ (k + 1) * d) % N)) from by rw [sq_step]]
                  refine lv_lstore (lv' := [(6, .long (lN (b ^ (2 ^ (k + 1) * d) % N))), (0, .long (lN N)), (2, .long (lN d)), (4, .int (nI t)), (5, .int (nI b)), (8, .int (nI k))]) hx hb d_Bm_isPrime_128 hl (by decide) rfl (fun ls hl => ?_)
                  obtain ⟨i_7, ei_7⟩ : ∃ y : Int32, y = (nI k) + 1 := ⟨_, rfl⟩
                  refine lv_iinc (v := i_7) (lv' := [(8, .int i_7), (6, .long (lN (b ^ (2 ^ (k + 1) * d) % N))), (0, .long (lN N)), (2, .long (lN d)), (4, .int (nI t)), (5, .int (nI b))]) hx hb d_Bm_isPrime_130 hl (k := 5) rfl (by rw [ei_7]; rfl) (by decide) rfl (fun ls hl => ?_)
                  obtain rfl : i_7 = nI (k + 1) := by rw [ei_7]; exact nI_1 k
                  refine lv_goto (tgt := 104) hx hb d_Bm_isPrime_133 (by decide) ?_
                  exact ih4 (i4 - 1) (by omega) (k + 1) (by omega) (fun i hi => by
                    by_cases e : i = k
                    · rw [e]
                      exact hx1
                    · exact hbad i (by omega)) locs hS ls (lv_sub hl [2, 3, 4, 5, 1, 0] rfl)
          refine lv_iconst (v := 0) hx hb d_Bm_isPrime_101 (by decide) ?_
          refine lv_istore (lv' := [(8, .int 0), (6, .long (lN ((b ^ d) % N))), (0, .long (lN N)), (2, .long (lN d)), (4, .int (nI t)), (5, .int (nI b))]) hx hb d_Bm_isPrime_102 hl (by decide) rfl (fun ls hl => ?_)
          exact loop4 t 0 (by omega) (fun i hi => by omega) locs hS ls (lv_sub hl [2, 3, 4, 5, 1, 0] (by rw [Nat.pow_zero, Nat.one_mul]; rfl))
        · -- not taken
          have h1 : b ^ d % N = 1 := (cmpe (Nat.lt_trans (Nat.mod_lt _ (by omega)) (by omega)) 1 (by omega) rfl).mp c_3
          have hspb : nt_sp b N := ⟨d, t, htd, hd, Or.inl h1⟩
          refine lv_goto (tgt := 145) hx hb d_Bm_isPrime_98 (by decide) ?_
          obtain ⟨i_4, ei_4⟩ : ∃ y : Int32, y = (nI b) + 1 := ⟨_, rfl⟩
          refine lv_iinc (v := i_4) (lv' := [(5, .int i_4), (6, .long (lN ((b ^ d) % N))), (0, .long (lN N)), (2, .long (lN d)), (4, .int (nI t))]) hx hb d_Bm_isPrime_145 hl (k := 4) rfl (by rw [ei_4]; rfl) (by decide) rfl (fun ls hl => ?_)
          obtain rfl : i_4 = nI (b + 1) := by rw [ei_4]; exact nI_1 b
          refine lv_goto (tgt := 74) hx hb d_Bm_isPrime_148 (by decide) ?_
          exact ih (j - 1) (by omega) (b + 1) (by omega) (by omega) (fun c h2 hlt => by
            by_cases e : c = b
            · rw [e]
              exact hspb
            · exact hsp c h2 (by omega)) locs hS ls (lv_sub hl [2, 3, 4, 0] rfl)
  have loop2 : 38 ≤ N → N < 2 ^ 61 → (∀ c, 2 ≤ c → c < 38 → ¬ c ∣ N) → ∀ (d t : Nat), N - 1 = 2 ^ t * d → 0 < d → ∀ (locs : List Loc), va_S (fun _ => False) s.heap s.heap locs → ∀ (ls : Array Slot), lv_has ls 9 [(0, .long (lN N)), (2, .long (lN d)), (4, .int (nI t))] → W p l e ({ frames := 3, cells := 0, slots := 0, locals := 89 } : Room) s m ([.long (lN N)] : List Value).toArray below meth c s.heap locs 0 0 (MQ below (va_Qi (fun (r : Int32) (_ : Unit) => (r = 1 ∧ nt_Rf N) ∨ (r = 0 ∧ ¬ nt_Rf N)) (fun _ t => t.heap = s.heap) (fun _ => False)) ([.long (lN N)] : List Value).toArray s 0 0 (fun _ => False)) (F0 m 53 ls []) := by
    intro h38 hN61 hdiv d
    induction d using Nat.strongRecOn with
    | ind d ih =>
      intro t htd hd0 locs hS ls hl
      have hd62 : d < 2 ^ 61 := by
        have : 1 * d ≤ 2 ^ t * d := Nat.mul_le_mul_right d (Nat.two_pow_pos t)
        omega
      have ht62 : t < 62 := by
        apply Classical.byContradiction
        intro hge
        have h1 : 2 ^ 62 ≤ 2 ^ t := Nat.pow_le_pow_right (by omega) (by omega)
        have h2 : 2 ^ t * 1 ≤ 2 ^ t * d := Nat.mul_le_mul_left _ hd0
        omega
      refine lv_lload_n hx hb d_Bm_isPrime_53 rfl (lv_at hl 1 rfl) ?_
      refine lv_lconst (v := 1) hx hb d_Bm_isPrime_54 (by decide) ?_
      refine lv_land hx hb d_Bm_isPrime_55 ?_
      rw [show ((lN d) &&& 1 : Int64) = (lN (d % 2)) from wb_a1 (by omega)]
      refine lv_lconst (v := 0) hx hb d_Bm_isPrime_56 (by decide) ?_
      refine W.lcmp hx hb d_Bm_isPrime_57 ?_
      refine lv_if_ne (tgt := 71) hx hb d_Bm_isPrime_58 (by decide) (fun c_1 => ?_) (fun c_1 => ?_)
      · -- taken
        have hodd : d % 2 = 1 := by
          have : ¬ d % 2 = 0 := fun h => c_1 ((ln_even (by omega)).mpr h)
          omega
        refine lv_iconst (v := 2) hx hb d_Bm_isPrime_71 (by decide) ?_
        refine lv_istore (lv' := [(5, .int 2), (0, .long (lN N)), (2, .long (lN d)), (4, .int (nI t))]) hx hb d_Bm_isPrime_72 hl (by decide) rfl (fun ls hl => ?_)
        exact loop3 t d htd hodd h38 hN61 ht62 hdiv 36 2 (by omega) (by omega) (fun c h2 hlt => by omega) locs hS ls (lv_sub hl [1, 2, 3, 0] rfl)
      · -- not taken
        have hev : d % 2 = 0 := (ln_even (by omega)).mp c_1
        refine lv_lload_n hx hb d_Bm_isPrime_61 rfl (lv_at hl 1 rfl) ?_
        refine lv_iconst (v := 1) hx hb d_Bm_isPrime_62 (by decide) ?_
        refine lv_lshr (v := (lN d) >>> ((1 : Int32).toInt64 &&& 63)) hx hb d_Bm_isPrime_63 rfl ?_
        rw [show ((lN d) >>> ((1 : Int32).toInt64 &&& 63) : Int64) = (lN (d / 2)) from ln_half (by omega)]
        refine lv_lstore_n (lv' := [(2, .long (lN (d / 2))), (0, .long (lN N)), (4, .int (nI t))]) hx hb d_Bm_isPrime_64 rfl hl (by decide) rfl (fun ls hl => ?_)
        obtain ⟨i_2, ei_2⟩ : ∃ y : Int32, y = (nI t) + 1 := ⟨_, rfl⟩
        refine lv_iinc (v := i_2) (lv' := [(4, .int i_2), (2, .long (lN (d / 2))), (0, .long (lN N))]) hx hb d_Bm_isPrime_65 hl (k := 2) rfl (by rw [ei_2]; rfl) (by decide) rfl (fun ls hl => ?_)
        obtain rfl : i_2 = nI (t + 1) := by rw [ei_2]; exact nI_1 t
        refine lv_goto (tgt := 53) hx hb d_Bm_isPrime_68 (by decide) ?_
        exact ih (d / 2) (by omega) (t + 1) (by
          rw [htd, Nat.pow_succ]
          have : d = 2 * (d / 2) := by omega
          conv => lhs; rw [this]
          grind) (by omega) locs hS ls (lv_sub hl [2, 1, 0] rfl)
  have loop1 : 2 ≤ N → ∀ (j b : Nat), b + j = 38 → 2 ≤ b → (∀ c, 2 ≤ c → c < b → ¬ c ∣ N) → ∀ (locs : List Loc), va_S (fun _ => False) s.heap s.heap locs → ∀ (ls : Array Slot), lv_has ls 9 [(0, .long (lN N)), (2, .int (nI b))] → W p l e ({ frames := 3, cells := 0, slots := 0, locals := 89 } : Room) s m ([.long (lN N)] : List Value).toArray below meth c s.heap locs 0 0 (MQ below (va_Qi (fun (r : Int32) (_ : Unit) => (r = 1 ∧ nt_Rf N) ∨ (r = 0 ∧ ¬ nt_Rf N)) (fun _ t => t.heap = s.heap) (fun _ => False)) ([.long (lN N)] : List Value).toArray s 0 0 (fun _ => False)) (F0 m 12 ls []) := by
    intro h2N j
    induction j using Nat.strongRecOn with
    | ind j ih =>
      intro b hbj hb2 hdiv locs hS ls hl
      refine lv_iload_n hx hb d_Bm_isPrime_12 rfl (lv_at hl 1 rfl) ?_
      refine lv_bipush (v := 38) hx hb d_Bm_isPrime_13 (by decide) ?_
      refine lv_icmp_ge (tgt := 46) hx hb d_Bm_isPrime_15 (by decide) (fun c_1 => ?_) (fun c_1 => ?_)
      · -- taken
        have hb38 : 38 ≤ b := (ige 38 (by omega) (by omega) rfl).mp c_1
        have hdiv2 : ∀ c, 2 ≤ c → c < 38 → ¬ c ∣ N := fun c h2 hc => hdiv c h2 (by omega)
        have h38 : 38 ≤ N := Nat.le_of_not_lt (fun h => hdiv2 N h2N h (Nat.dvd_refl N))
        have hodd : N % 2 = 1 := by
          have := hdiv2 2 (by omega) (by omega)
          omega
        refine lv_lload_n hx hb d_Bm_isPrime_46 rfl (lv_at hl 0 rfl) ?_
        refine lv_lconst (v := 1) hx hb d_Bm_isPrime_47 (by decide) ?_
        refine lv_lsub hx hb d_Bm_isPrime_48 ?_
        rw [show ((lN N) - 1 : Int64) = (lN (N - 1)) from lsub1 (by omega)]
        refine lv_lstore_n (lv' := [(2, .long (lN (N - 1))), (0, .long (lN N))]) hx hb d_Bm_isPrime_49 rfl hl (by decide) rfl (fun ls hl => ?_)
        refine lv_iconst (v := 0) hx hb d_Bm_isPrime_50 (by decide) ?_
        refine lv_istore (lv' := [(4, .int 0), (2, .long (lN (N - 1))), (0, .long (lN N))]) hx hb d_Bm_isPrime_51 hl (by decide) rfl (fun ls hl => ?_)
        exact loop2 h38 (by omega) hdiv2 (N - 1) 0 (by omega) (by omega) locs hS ls (lv_sub hl [2, 1, 0] rfl)
      · -- not taken
        have hb38 : ¬ 38 ≤ b := fun h => c_1 ((ige 38 (by omega) (by omega) rfl).mpr h)
        refine lv_lload_n hx hb d_Bm_isPrime_18 rfl (lv_at hl 0 rfl) ?_
        refine lv_iload_n hx hb d_Bm_isPrime_19 rfl (lv_at hl 1 rfl) ?_
        refine lv_i2l (v := (nI b : Int32).toInt64) hx hb d_Bm_isPrime_20 rfl ?_
        rw [show ((nI b : Int32).toInt64 : Int64) = (lN b) from nI_l (by omega)]
        refine lv_lrem hx hb d_Bm_isPrime_21 (ln_ne0 (by omega) (by omega)) ?_
        rw [show ((lN N) - (lN N) / (lN b) * (lN b) : Int64) = (lN (N % b)) from pk_lRem (by omega) (by omega) (by omega)]
        refine lv_lconst (v := 0) hx hb d_Bm_isPrime_22 (by decide) ?_
        refine W.lcmp hx hb d_Bm_isPrime_23 ?_
        refine lv_if_ne (tgt := 40) hx hb d_Bm_isPrime_24 (by decide) (fun c_2 => ?_) (fun c_2 => ?_)
        · -- taken
          have hnd : ¬ b ∣ N := fun h => c_2 ((cmpe (Nat.lt_trans (Nat.mod_lt _ (by omega)) (by omega)) 0 (by omega) rfl).mpr (Nat.mod_eq_zero_of_dvd h))
          obtain ⟨i_3, ei_3⟩ : ∃ y : Int32, y = (nI b) + 1 := ⟨_, rfl⟩
          refine lv_iinc (v := i_3) (lv' := [(2, .int i_3), (0, .long (lN N))]) hx hb d_Bm_isPrime_40 hl (k := 1) rfl (by rw [ei_3]; rfl) (by decide) rfl (fun ls hl => ?_)
          obtain rfl : i_3 = nI (b + 1) := by rw [ei_3]; exact nI_1 b
          refine lv_goto (tgt := 12) hx hb d_Bm_isPrime_43 (by decide) ?_
          exact ih (j - 1) (by omega) (b + 1) (by omega) (by omega) (fun c h2 hlt => by
            by_cases e : c = b
            · rw [e]
              exact hnd
            · exact hdiv c h2 (by omega)) locs hS ls (lv_sub hl [1, 0] rfl)
        · -- not taken
          have hbd : b ∣ N := Nat.dvd_of_mod_eq_zero ((cmpe (Nat.lt_trans (Nat.mod_lt _ (by omega)) (by omega)) 0 (by omega) rfl).mp c_2)
          refine lv_lload_n hx hb d_Bm_isPrime_27 rfl (lv_at hl 0 rfl) ?_
          refine lv_iload_n hx hb d_Bm_isPrime_28 rfl (lv_at hl 1 rfl) ?_
          refine lv_i2l (v := (nI b : Int32).toInt64) hx hb d_Bm_isPrime_29 rfl ?_
          rw [show ((nI b : Int32).toInt64 : Int64) = (lN b) from nI_l (by omega)]
          refine W.lcmp hx hb d_Bm_isPrime_30 ?_
          refine lv_if_ne (tgt := 38) hx hb d_Bm_isPrime_31 (by decide) (fun c_4 => ?_) (fun c_4 => ?_)
          · -- taken
            have hne : N ≠ b := fun h => c_4 ((ln_cmp_eq (by omega) (by omega)).mpr h)
            refine lv_iconst (v := 0) hx hb d_Bm_isPrime_38 (by decide) ?_
            exact W.zret (v := 0) hx hb hr (by decide) (fun t ht hW => ⟨⟨_, (), rfl, (Or.inr ⟨rfl, Rf_no h2N hb2 (by omega) hbd hne⟩), ht⟩, hS.F ht⟩) hS.2.2 d_Bm_isPrime_39
          · -- not taken
            have heq : N = b := (ln_cmp_eq (by omega) (by omega)).mp c_4
            refine lv_iconst (v := 1) hx hb d_Bm_isPrime_34 (by decide) ?_
            refine lv_goto (tgt := 39) hx hb d_Bm_isPrime_35 (by decide) ?_
            exact W.zret (v := 1) hx hb hr (by decide) (fun t ht hW => ⟨⟨_, (), rfl, (Or.inl ⟨rfl, h2N, Or.inl ⟨by omega, fun c h2 hlt => hdiv c h2 (by omega)⟩⟩), ht⟩, hS.F ht⟩) hS.2.2 d_Bm_isPrime_39
  refine lv_lload_n hx hb d_Bm_isPrime_0 rfl (lv_at hl 0 rfl) ?_
  refine lv_ldc2 (v := 2) hx hb hown (hts _ (List.mem_cons_of_mem _ gk_1017)) d_Bm_isPrime_1 ?_
  refine W.lcmp hx hb d_Bm_isPrime_4 ?_
  refine lv_if_ge (tgt := 10) hx hb d_Bm_isPrime_5 (by decide) (fun c_1 => ?_) (fun c_1 => ?_)
  · -- taken
    have h2N : 2 ≤ N := (cmpg (by omega) 2 (by omega) rfl).mp c_1
    refine lv_iconst (v := 2) hx hb d_Bm_isPrime_10 (by decide) ?_
    refine lv_istore_n (lv' := [(2, .int 2), (0, .long (lN N))]) hx hb d_Bm_isPrime_11 rfl hl (by decide) rfl (fun ls hl => ?_)
    exact loop1 h2N 36 2 (by omega) (by omega) (fun c h2 hlt => by omega) [] hS ls (lv_sub hl [1, 0] rfl)
  · -- not taken
    have h2N : ¬ 2 ≤ N := fun h => c_1 ((cmpg (by omega) 2 (by omega) rfl).mpr h)
    refine lv_iconst (v := 0) hx hb d_Bm_isPrime_8 (by decide) ?_
    exact W.zret (v := 0) hx hb hr (by decide) (fun t ht hW => ⟨⟨_, (), rfl, (Or.inr ⟨rfl, fun h => h2N h.1⟩), ht⟩, hS.F ht⟩) hS.2.2 d_Bm_isPrime_9
