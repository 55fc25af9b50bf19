abbrev b_Mo_isPrime : ByteArray := prog_6_method_9_code
abbrev y_Mo_isPrime : MethodName := ⟨"BallotBoard$Modulus", "isPrime", "()Z"⟩
abbrev w_Mo_isPrime : List Cond := .code y_Mo_isPrime b_Mo_isPrime 10 (some .boolean) :: gw
theorem d_Mo_isPrime_0 : decode b_Mo_isPrime 0 = .ok (.aload_n 0, 1) := by decide +kernel
theorem d_Mo_isPrime_1 : decode b_Mo_isPrime 1 = .ok (.getfield 9, 3) := by decide +kernel
theorem d_Mo_isPrime_4 : decode b_Mo_isPrime 4 = .ok (.lconst 1, 1) := by decide +kernel
theorem d_Mo_isPrime_5 : decode b_Mo_isPrime 5 = .ok (.lsub, 1) := by decide +kernel
theorem d_Mo_isPrime_6 : decode b_Mo_isPrime 6 = .ok (.lstore_n 1, 1) := by decide +kernel
theorem d_Mo_isPrime_7 : decode b_Mo_isPrime 7 = .ok (.iconst 0, 1) := by decide +kernel
theorem d_Mo_isPrime_8 : decode b_Mo_isPrime 8 = .ok (.istore_n 3, 1) := by decide +kernel
theorem d_Mo_isPrime_9 : decode b_Mo_isPrime 9 = .ok (.iconst 0, 1) := by decide +kernel
theorem d_Mo_isPrime_10 : decode b_Mo_isPrime 10 = .ok (.istore 4, 2) := by decide +kernel
theorem d_Mo_isPrime_12 : decode b_Mo_isPrime 12 = .ok (.iload 4, 2) := by decide +kernel
theorem d_Mo_isPrime_14 : decode b_Mo_isPrime 14 = .ok (.bipush 61, 2) := by decide +kernel
theorem d_Mo_isPrime_16 : decode b_Mo_isPrime 16 = .ok (.if_icmp .ge 24, 3) := by decide +kernel
theorem d_Mo_isPrime_19 : decode b_Mo_isPrime 19 = .ok (.lload_n 1, 1) := by decide +kernel
theorem d_Mo_isPrime_20 : decode b_Mo_isPrime 20 = .ok (.lconst 1, 1) := by decide +kernel
theorem d_Mo_isPrime_21 : decode b_Mo_isPrime 21 = .ok (.land, 1) := by decide +kernel
theorem d_Mo_isPrime_22 : decode b_Mo_isPrime 22 = .ok (.lconst 0, 1) := by decide +kernel
theorem d_Mo_isPrime_23 : decode b_Mo_isPrime 23 = .ok (.lcmp, 1) := by decide +kernel
theorem d_Mo_isPrime_24 : decode b_Mo_isPrime 24 = .ok (.ifCond .ne 16, 3) := by decide +kernel
theorem d_Mo_isPrime_27 : decode b_Mo_isPrime 27 = .ok (.lload_n 1, 1) := by decide +kernel
theorem d_Mo_isPrime_28 : decode b_Mo_isPrime 28 = .ok (.iconst 1, 1) := by decide +kernel
theorem d_Mo_isPrime_29 : decode b_Mo_isPrime 29 = .ok (.lshr, 1) := by decide +kernel
theorem d_Mo_isPrime_30 : decode b_Mo_isPrime 30 = .ok (.lstore_n 1, 1) := by decide +kernel
theorem d_Mo_isPrime_31 : decode b_Mo_isPrime 31 = .ok (.iinc 3 1, 3) := by decide +kernel
theorem d_Mo_isPrime_34 : decode b_Mo_isPrime 34 = .ok (.iinc 4 1, 3) := by decide +kernel
theorem d_Mo_isPrime_37 : decode b_Mo_isPrime 37 = .ok (.goto (-25), 3) := by decide +kernel
theorem d_Mo_isPrime_40 : decode b_Mo_isPrime 40 = .ok (.getstatic 52, 3) := by decide +kernel
theorem d_Mo_isPrime_43 : decode b_Mo_isPrime 43 = .ok (.astore 4, 2) := by decide +kernel
theorem d_Mo_isPrime_45 : decode b_Mo_isPrime 45 = .ok (.aload 4, 2) := by decide +kernel
theorem d_Mo_isPrime_47 : decode b_Mo_isPrime 47 = .ok (.arraylength, 1) := by decide +kernel
theorem d_Mo_isPrime_48 : decode b_Mo_isPrime 48 = .ok (.istore 5, 2) := by decide +kernel
theorem d_Mo_isPrime_50 : decode b_Mo_isPrime 50 = .ok (.iconst 0, 1) := by decide +kernel
theorem d_Mo_isPrime_51 : decode b_Mo_isPrime 51 = .ok (.istore 6, 2) := by decide +kernel
theorem d_Mo_isPrime_53 : decode b_Mo_isPrime 53 = .ok (.iload 6, 2) := by decide +kernel
theorem d_Mo_isPrime_55 : decode b_Mo_isPrime 55 = .ok (.iload 5, 2) := by decide +kernel
theorem d_Mo_isPrime_57 : decode b_Mo_isPrime 57 = .ok (.if_icmp .ge 50, 3) := by decide +kernel
theorem d_Mo_isPrime_60 : decode b_Mo_isPrime 60 = .ok (.aload 4, 2) := by decide +kernel
theorem d_Mo_isPrime_62 : decode b_Mo_isPrime 62 = .ok (.iload 6, 2) := by decide +kernel
theorem d_Mo_isPrime_64 : decode b_Mo_isPrime 64 = .ok (.iaload, 1) := by decide +kernel
theorem d_Mo_isPrime_65 : decode b_Mo_isPrime 65 = .ok (.istore 7, 2) := by decide +kernel
theorem d_Mo_isPrime_67 : decode b_Mo_isPrime 67 = .ok (.iload 7, 2) := by decide +kernel
theorem d_Mo_isPrime_69 : decode b_Mo_isPrime 69 = .ok (.i2l, 1) := by decide +kernel
theorem d_Mo_isPrime_70 : decode b_Mo_isPrime 70 = .ok (.aload_n 0, 1) := by decide +kernel
theorem d_Mo_isPrime_71 : decode b_Mo_isPrime 71 = .ok (.getfield 9, 3) := by decide +kernel
theorem d_Mo_isPrime_74 : decode b_Mo_isPrime 74 = .ok (.lrem, 1) := by decide +kernel
theorem d_Mo_isPrime_75 : decode b_Mo_isPrime 75 = .ok (.lstore 8, 2) := by decide +kernel
theorem d_Mo_isPrime_77 : decode b_Mo_isPrime 77 = .ok (.lload 8, 2) := by decide +kernel
theorem d_Mo_isPrime_79 : decode b_Mo_isPrime 79 = .ok (.lconst 0, 1) := by decide +kernel
theorem d_Mo_isPrime_80 : decode b_Mo_isPrime 80 = .ok (.lcmp, 1) := by decide +kernel
theorem d_Mo_isPrime_81 : decode b_Mo_isPrime 81 = .ok (.ifCond .eq 20, 3) := by decide +kernel
theorem d_Mo_isPrime_84 : decode b_Mo_isPrime 84 = .ok (.aload_n 0, 1) := by decide +kernel
theorem d_Mo_isPrime_85 : decode b_Mo_isPrime 85 = .ok (.aload_n 0, 1) := by decide +kernel
theorem d_Mo_isPrime_86 : decode b_Mo_isPrime 86 = .ok (.lload 8, 2) := by decide +kernel
theorem d_Mo_isPrime_88 : decode b_Mo_isPrime 88 = .ok (.lload_n 1, 1) := by decide +kernel
theorem d_Mo_isPrime_89 : decode b_Mo_isPrime 89 = .ok (.invokevirtual 56, 3) := by decide +kernel
theorem d_Mo_isPrime_92 : decode b_Mo_isPrime 92 = .ok (.iload_n 3, 1) := by decide +kernel
theorem d_Mo_isPrime_93 : decode b_Mo_isPrime 93 = .ok (.invokevirtual 59, 3) := by decide +kernel
theorem d_Mo_isPrime_96 : decode b_Mo_isPrime 96 = .ok (.ifCond .ne 5, 3) := by decide +kernel
theorem d_Mo_isPrime_99 : decode b_Mo_isPrime 99 = .ok (.iconst 0, 1) := by decide +kernel
theorem d_Mo_isPrime_100 : decode b_Mo_isPrime 100 = .ok (.ireturn, 1) := by decide +kernel
theorem d_Mo_isPrime_101 : decode b_Mo_isPrime 101 = .ok (.iinc 6 1, 3) := by decide +kernel
theorem d_Mo_isPrime_104 : decode b_Mo_isPrime 104 = .ok (.goto (-51), 3) := by decide +kernel
theorem d_Mo_isPrime_107 : decode b_Mo_isPrime 107 = .ok (.iconst 1, 1) := by decide +kernel
theorem d_Mo_isPrime_108 : decode b_Mo_isPrime 108 = .ok (.ireturn, 1) := by decide +kernel
set_option maxHeartbeats 4000000 in
set_option maxRecDepth 100000 in
theorem c_Mo_isPrime (l : Launch) (H0 : Heap) (dC : Nat → ClassId) (dI : Nat → Nat → Nat) (h0 : Nat) (wA : Nat) (N f k : Nat) (hP : va_P (dC, dI) classes [(h0, .inr (0, md_fs N f k))] H0) (hok : md_ok N f k) : Met l y_Mo_isPrime w_Mo_isPrime ({ frames := 3, cells := 0, slots := 0, locals := 87 }) (va_Pc [.ref h0] (fun U => U.heap = H0 ∧ va_K (dC, dI) classes [] U ∧ va_Z "BallotBoard$Modulus" "WITNESSES" "[I" (.ref wA) (fun _ => False) U H0 ∧ va_T .int wA 9 (fun j => .int (wit j)) (fun _ => False) U H0)) (va_Qi (fun (r : Int32) (_ : Unit) => (r = 1 ∧ nt_Cl N) ∨ (r = 0 ∧ ¬ nt_Cl N)) (fun _ t => t.heap = H0) (fun _ => False)) 0 0 (fun _ => False) := by
  refine Met.ofW (cc := b_Mo_isPrime) (maxL := 10) (ret := (some .boolean)) (by decide) rfl ?_
  intro p e s m args below meth c s₁ Bd hml hv
  obtain ⟨rfl, hH, hK, hZ, hT⟩ := hv
  subst hH
  have hx := Bd.exec
  have hb := Bd.bytes
  have hr := Bd.returns
  have hts := atoms_spec (ws := w_Mo_isPrime) Bd.pre
  have hown : s.vm.findClass "BallotBoard$Modulus" = some m.cls := findClass_of_methodNamed Bd.named
  have hlocks := Bd.notSynchronized
  have hS : va_S (fun _ => False) s.heap s.heap [] := va_S.rf
  have hl := lv_entry ([.ref h0]) (n := 10) (Nat.le_of_ble_eq_true rfl)
  rw [lg_entry_eq]
  generalize (lg_sl ([.ref h0]) ++ List.replicate (10 - (lg_sl ([.ref h0])).length) Slot.unset).toArray = ls at hl ⊢
  have hl : lv_has ls 10 [(0, .ref h0)] := hl
  have hK0 := hK
  have hP0 := hP
  obtain ⟨ho, h3, h61, hf31, hfN, hk61, hNk⟩ := id hok
  have loopB : ∀ (t d : Nat), N - 1 = 2 ^ t * d → d % 2 = 1 → 1 ≤ t → t < 61 → d < 2 ^ k → ∀ (j i : Nat), i + j = 9 → (∀ a, a < i → witN a % N = 0 ∨ nt_sp (witN a) N) → ∀ (locs : List Loc), va_S (fun _ => False) s.heap s.heap locs → ∀ (ls : Array Slot), lv_has ls 10 [(0, .ref h0), (1, .long (lN d)), (3, .int (nI t)), (4, .ref wA), (5, .int 9), (6, .int (nI i))] → W p l e ({ frames := 3, cells := 0, slots := 0, locals := 87 } : Room) s m ([.ref h0] : List Value).toArray below meth c s.heap locs 0 0 (MQ below (va_Qi (fun (r : Int32) (_ : Unit) => (r = 1 ∧ nt_Cl N) ∨ (r = 0 ∧ ¬ nt_Cl N)) (fun _ t => t.heap = s.heap) (fun _ => False)) ([.ref h0] : List Value).toArray s 0 0 (fun _ => False)) (F0 m 53 ls []) := by
    intro t d htd hd ht1 ht61 hdk j
    induction j using Nat.strongRecOn with
    | ind j ih =>
      intro i hij hall locs hS ls hl
      have hw24 := witN_lt i
      refine lv_iload hx hb d_Mo_isPrime_53 (lv_at hl 5 rfl) ?_
      refine lv_iload hx hb d_Mo_isPrime_55 (lv_at hl 4 rfl) ?_
      refine lv_icmp_ge (tgt := 107) hx hb d_Mo_isPrime_57 (by decide) (fun c_1 => ?_) (fun c_1 => ?_)
      · -- taken
        have hi9 : 9 ≤ i := (ige 9 (by omega) (by omega) rfl).mp c_1
        refine lv_iconst (v := 1) hx hb d_Mo_isPrime_107 (by decide) ?_
        exact W.zret (v := 1) hx hb hr (by decide) (fun t ht hW => ⟨⟨_, (), rfl, (Or.inl ⟨rfl, Cl_of (fun a ha => hall a (by omega))⟩), ht⟩, hS.F ht⟩) hS.2.2 d_Mo_isPrime_108
      · -- not taken
        have hi9 : i < 9 := Nat.lt_of_not_le (fun h => c_1 ((ige 9 (by omega) (by omega) rfl).mpr h))
        refine lv_aload hx hb d_Mo_isPrime_60 (lv_at hl 3 rfl) ?_
        refine lv_iload hx hb d_Mo_isPrime_62 (lv_at hl 5 rfl) ?_
        refine va_ti (v := .int (wit (nI i : Int32).toNatClampNeg)) hx hb hT hS (vp_in_nI hi9 (by omega)) rfl d_Mo_isPrime_64 ?_
        rw [show (wit (nI i : Int32).toNatClampNeg : Int32) = wit i from by rw [nI_clamp (by omega)]]
        rw [show (wit i : Int32) = (nI (witN i)) from rfl]
        refine lv_istore (lv' := [(7, .int (nI (witN i))), (0, .ref h0), (1, .long (lN d)), (3, .int (nI t)), (4, .ref wA), (5, .int 9), (6, .int (nI i))]) hx hb d_Mo_isPrime_65 hl (by decide) rfl (fun ls hl => ?_)
        refine lv_iload hx hb d_Mo_isPrime_67 (lv_at hl 0 rfl) ?_
        refine lv_i2l (v := (nI (witN i) : Int32).toInt64) hx hb d_Mo_isPrime_69 rfl ?_
        rw [show ((nI (witN i) : Int32).toInt64 : Int64) = (lN (witN i)) from nI_l (by omega)]
        refine lv_aload_n hx hb d_Mo_isPrime_70 rfl (lv_at hl 1 rfl) ?_
        refine va_get (D := (dC, dI)) (ci := 0) (v := .long (lN N)) (C := "BallotBoard$Modulus") (T := F_Mo) (N := 7) hx hb hts (fun w9 h9 => List.mem_cons_of_mem _ (i_Mo w9 h9)) hown hK hP 0 rfl rfl 0 (by decide) (hts _ (List.mem_cons_of_mem _ gk_207)) (fun _ h9 => h9) rfl d_Mo_isPrime_71 ?_
        refine lv_lrem hx hb d_Mo_isPrime_74 (ln_ne0 (by omega) (by omega)) ?_
        rw [show ((lN (witN i)) - (lN (witN i)) / (lN N) * (lN N) : Int64) = (lN (witN i % N)) from pk_lRem (by omega) (by omega) (by omega)]
        refine lv_lstore (lv' := [(8, .long (lN (witN i % N))), (7, .int (nI (witN i))), (0, .ref h0), (1, .long (lN d)), (3, .int (nI t)), (4, .ref wA), (5, .int 9), (6, .int (nI i))]) hx hb d_Mo_isPrime_75 hl (by decide) rfl (fun ls hl => ?_)
        refine lv_lload hx hb d_Mo_isPrime_77 (lv_at hl 0 rfl) ?_
        refine lv_lconst (v := 0) hx hb d_Mo_isPrime_79 (by decide) ?_
        refine W.lcmp hx hb d_Mo_isPrime_80 ?_
        refine lv_if_eq (tgt := 101) hx hb d_Mo_isPrime_81 (by decide) (fun c_2 => ?_) (fun c_2 => ?_)
        · -- taken
          have hgood : witN i % N = 0 ∨ nt_sp (witN i) N := Or.inl ((cmpe (Nat.lt_trans (Nat.mod_lt _ (by omega)) (by omega)) 0 (by omega) rfl).mp c_2)
          obtain ⟨i_3, ei_3⟩ : ∃ y : Int32, y = (nI i) + 1 := ⟨_, rfl⟩
          refine lv_iinc (v := i_3) (lv' := [(6, .int i_3), (8, .long (lN (witN i % N))), (7, .int (nI (witN i))), (0, .ref h0), (1, .long (lN d)), (3, .int (nI t)), (4, .ref wA), (5, .int 9)]) hx hb d_Mo_isPrime_101 hl (k := 7) rfl (by rw [ei_3]; rfl) (by decide) rfl (fun ls hl => ?_)
          obtain rfl : i_3 = nI (i + 1) := by rw [ei_3]; exact nI_1 i
          refine lv_goto (tgt := 53) hx hb d_Mo_isPrime_104 (by decide) ?_
          exact ih (j - 1) (by omega) (i + 1) (by omega) (fun a ha => by
            by_cases e : a = i
            · rw [e]
              exact hgood
            · exact hall a (by omega)) locs hS ls (lv_sub hl [3, 4, 5, 6, 7, 0] rfl)
        · -- not taken
          have hne0 : ¬ witN i % N = 0 := fun h => c_2 ((cmpe (Nat.lt_trans (Nat.mod_lt _ (by omega)) (by omega)) 0 (by omega) rfl).mpr h)
          refine lv_aload_n hx hb d_Mo_isPrime_84 rfl (lv_at hl 2 rfl) ?_
          refine lv_aload_n hx hb d_Mo_isPrime_85 rfl (lv_at hl 2 rfl) ?_
          refine lv_lload hx hb d_Mo_isPrime_86 (lv_at hl 0 rfl) ?_
          refine lv_lload_n hx hb d_Mo_isPrime_88 rfl (lv_at hl 3 rfl) ?_
          refine va_calll (va_runV (As := [.long (lN (witN i % N)), .long (lN d)]) (rest := [.ref h0]) ⟨hx, hb, hml, hown, hts⟩ (c_Mo_power l s.heap dC dI h0 N f k (witN i % N) d hP0 hok (Nat.mod_lt _ (by omega)) hdk) (cwV 2 hts (gw_V gk_235 gk_236 gk_237 gk_9 gk_238) rfl rfl rfl (by decide +kernel) ⟨Nat.le_of_ble_eq_true rfl, Nat.le_of_ble_eq_true rfl⟩) ⟨fun a U g mk q => ⟨q.1, q.2.1, va_K.moved (u := U) (U := U.calling g mk a) (Vm.Alike.refl U.vm) q.2.2⟩, va_recv hK hP (ci := 0) (q0 := 0) rfl rfl, fun U hU hW => ⟨rfl, hU, va_K.moved hW.alike hK0⟩⟩ rfl rfl hl.1 rfl (lv_room (Nat.le_of_ble_eq_true rfl)) d_Mo_isPrime_89 ⟨Nat.zero_le _, Nat.zero_le _⟩) hS (fun q _ h => h.elim) (fun q h => h.elim) (fun r_4 u9 t9 H1 locs ht hvm hw hB hz1 hk1 hS => ?_)
          obtain rfl : s.heap = H1 := hB.symm.trans ht
          have hw : r_4 = lN ((witN i % N) ^ d % N) := hw
          subst hw
          refine lv_iload_n hx hb d_Mo_isPrime_92 rfl (lv_at hl 4 rfl) ?_
          refine va_calli (va_runV (As := [.long (lN ((witN i % N) ^ d % N)), .int (nI t)]) (rest := []) ⟨hx, hb, hml, hown, hts⟩ (c_Mo_passes l s.heap dC dI h0 N f k ((witN i % N) ^ d % N) t hP0 hok (Nat.mod_lt _ (by omega)) ht1 (by omega)) (cwV 2 hts (gw_V gk_243 gk_245 gp_1 gk_9 gk_246) rfl rfl rfl (by decide +kernel) ⟨Nat.le_of_ble_eq_true rfl, Nat.le_of_ble_eq_true rfl⟩) ⟨fun a U g mk q => ⟨q.1, q.2.1, va_K.moved (u := U) (U := U.calling g mk a) (Vm.Alike.refl U.vm) q.2.2⟩, va_recv hK hP (ci := 0) (q0 := 0) rfl rfl, fun U hU hW => ⟨rfl, hU, va_K.moved hW.alike hK0⟩⟩ rfl rfl hl.1 rfl (lv_room (Nat.le_of_ble_eq_true rfl)) d_Mo_isPrime_93 ⟨Nat.zero_le _, Nat.zero_le _⟩) hS (fun q _ h => h.elim) (fun q h => h.elim) (fun r_5 u9 t9 H1 locs ht hvm hw hB hz1 hk1 hS => ?_)
          obtain rfl : s.heap = H1 := hB.symm.trans ht
          have hpa := hw
          refine lv_if_ne (tgt := 101) hx hb d_Mo_isPrime_96 (by decide) (fun c_6 => ?_) (fun c_6 => ?_)
          · -- taken
            have hgood : witN i % N = 0 ∨ nt_sp (witN i) N := by
              rcases hpa with ⟨_, h⟩ | ⟨h, _⟩
              · exact Or.inr ((sp_iff htd hd).mp h)
              · exact absurd h c_6
            obtain ⟨i_7, ei_7⟩ : ∃ y : Int32, y = (nI i) + 1 := ⟨_, rfl⟩
            refine lv_iinc (v := i_7) (lv' := [(6, .int i_7), (8, .long (lN (witN i % N))), (7, .int (nI (witN i))), (0, .ref h0), (1, .long (lN d)), (3, .int (nI t)), (4, .ref wA), (5, .int 9)]) hx hb d_Mo_isPrime_101 hl (k := 7) rfl (by rw [ei_7]; rfl) (by decide) rfl (fun ls hl => ?_)
            obtain rfl : i_7 = nI (i + 1) := by rw [ei_7]; exact nI_1 i
            refine lv_goto (tgt := 53) hx hb d_Mo_isPrime_104 (by decide) ?_
            exact ih (j - 1) (by omega) (i + 1) (by omega) (fun a ha => by
              by_cases e : a = i
              · rw [e]
                exact hgood
              · exact hall a (by omega)) locs hS ls (lv_sub hl [3, 4, 5, 6, 7, 0] rfl)
          · -- not taken
            have hbad : ¬ (witN i % N = 0 ∨ nt_sp (witN i) N) := by
              rcases hpa with ⟨h, _⟩ | ⟨_, h⟩
              · rw [h] at c_6
                exact absurd c_6 (by decide)
              · intro h2
                rcases h2 with h2 | h2
                · exact hne0 h2
                · exact h ((sp_iff htd hd).mpr h2)
            refine lv_iconst (v := 0) hx hb d_Mo_isPrime_99 (by decide) ?_
            exact W.zret (v := 0) hx hb hr (by decide) (fun t ht hW => ⟨⟨_, (), rfl, (Or.inr ⟨rfl, fun h => hbad (h _ (wit_A hi9))⟩), ht⟩, hS.F ht⟩) hS.2.2 d_Mo_isPrime_100
  have loopA : ∀ (d t : Nat), N - 1 = 2 ^ t * d → 0 < d → ∀ (locs : List Loc), va_S (fun _ => False) s.heap s.heap locs → ∀ (ls : Array Slot), lv_has ls 10 [(0, .ref h0), (1, .long (lN d)), (3, .int (nI t)), (4, .int (nI t))] → W p l e ({ frames := 3, cells := 0, slots := 0, locals := 87 } : Room) s m ([.ref h0] : List Value).toArray below meth c s.heap locs 0 0 (MQ below (va_Qi (fun (r : Int32) (_ : Unit) => (r = 1 ∧ nt_Cl N) ∨ (r = 0 ∧ ¬ nt_Cl N)) (fun _ t => t.heap = s.heap) (fun _ => False)) ([.ref h0] : List Value).toArray s 0 0 (fun _ => False)) (F0 m 12 ls []) := by
    intro d
    induction d using Nat.strongRecOn with
    | ind d ih =>
      intro t htd hd0 locs hS ls hl
      have h2td : 2 ^ t * 1 ≤ 2 ^ t * d := Nat.mul_le_mul_left _ hd0
      have h1d : 1 * d ≤ 2 ^ t * d := Nat.mul_le_mul_right d (Nat.two_pow_pos t)
      have ht61 : t < 61 := by
        apply Classical.byContradiction
        intro hge
        have h1 : 2 ^ 61 ≤ 2 ^ t := Nat.pow_le_pow_right (by omega) (by omega)
        omega
      refine lv_iload hx hb d_Mo_isPrime_12 (lv_at hl 3 rfl) ?_
      refine lv_bipush (v := 61) hx hb d_Mo_isPrime_14 (by decide) ?_
      refine lv_icmp_ge (tgt := 40) hx hb d_Mo_isPrime_16 (by decide) (fun c_1 => ?_) (fun c_1 => ?_)
      · -- taken
        exact absurd ((ige 61 (by omega) (by omega) rfl).mp c_1) (by omega)
      · -- not taken
        refine lv_lload_n hx hb d_Mo_isPrime_19 rfl (lv_at hl 1 rfl) ?_
        refine lv_lconst (v := 1) hx hb d_Mo_isPrime_20 (by decide) ?_
        refine lv_land hx hb d_Mo_isPrime_21 ?_
        rw [show ((lN d) &&& 1 : Int64) = (lN (d % 2)) from wb_a1 (by omega)]
        refine lv_lconst (v := 0) hx hb d_Mo_isPrime_22 (by decide) ?_
        refine W.lcmp hx hb d_Mo_isPrime_23 ?_
        refine lv_if_ne (tgt := 40) hx hb d_Mo_isPrime_24 (by decide) (fun c_2 => ?_) (fun c_2 => ?_)
        · -- taken
          have hodd : d % 2 = 1 := by
            have : ¬ d % 2 = 0 := fun h => c_2 ((ln_even (by omega)).mpr h)
            omega
          have ht1 : 1 ≤ t := by
            apply Classical.byContradiction
            intro h0
            have e0 : t = 0 := by omega
            rw [e0, Nat.pow_zero, Nat.one_mul] at htd
            omega
          refine va_gets (v := .ref wA) hx hb hZ hS hown (hts _ (List.mem_cons_of_mem _ gk_233)) (fun _ h9 => h9) d_Mo_isPrime_40 ?_
          refine lv_astore (lv' := [(4, .ref wA), (0, .ref h0), (1, .long (lN d)), (3, .int (nI t))]) hx hb d_Mo_isPrime_43 hl (by decide) rfl (fun ls hl => ?_)
          refine lv_aload hx hb d_Mo_isPrime_45 (lv_at hl 0 rfl) ?_
          refine va_tlen (v := 9) hx hb hT hS rfl d_Mo_isPrime_47 ?_
          refine lv_istore (lv' := [(5, .int 9), (4, .ref wA), (0, .ref h0), (1, .long (lN d)), (3, .int (nI t))]) hx hb d_Mo_isPrime_48 hl (by decide) rfl (fun ls hl => ?_)
          refine lv_iconst (v := 0) hx hb d_Mo_isPrime_50 (by decide) ?_
          refine lv_istore (lv' := [(6, .int 0), (5, .int 9), (4, .ref wA), (0, .ref h0), (1, .long (lN d)), (3, .int (nI t))]) hx hb d_Mo_isPrime_51 hl (by decide) rfl (fun ls hl => ?_)
          exact loopB t d htd hodd ht1 ht61 (by omega) 9 0 (by omega) (fun a ha => by omega) locs hS ls (lv_sub hl [3, 4, 5, 2, 1, 0] rfl)
        · -- not taken
          have hev : d % 2 = 0 := (ln_even (by omega)).mp c_2
          refine lv_lload_n hx hb d_Mo_isPrime_27 rfl (lv_at hl 1 rfl) ?_
          refine lv_iconst (v := 1) hx hb d_Mo_isPrime_28 (by decide) ?_
          refine lv_lshr (v := (lN d) >>> ((1 : Int32).toInt64 &&& 63)) hx hb d_Mo_isPrime_29 rfl ?_
          rw [show ((lN d) >>> ((1 : Int32).toInt64 &&& 63) : Int64) = (lN (d / 2)) from ln_half (by omega)]
          refine lv_lstore_n (lv' := [(1, .long (lN (d / 2))), (0, .ref h0), (3, .int (nI t)), (4, .int (nI t))]) hx hb d_Mo_isPrime_30 rfl hl (by decide) rfl (fun ls hl => ?_)
          obtain ⟨i_3, ei_3⟩ : ∃ y : Int32, y = (nI t) + 1 := ⟨_, rfl⟩
          refine lv_iinc (v := i_3) (lv' := [(3, .int i_3), (1, .long (lN (d / 2))), (0, .ref h0), (4, .int (nI t))]) hx hb d_Mo_isPrime_31 hl (k := 2) rfl (by rw [ei_3]; rfl) (by decide) rfl (fun ls hl => ?_)
          obtain rfl : i_3 = nI (t + 1) := by rw [ei_3]; exact nI_1 t
          obtain ⟨i_4, ei_4⟩ : ∃ y : Int32, y = (nI t) + 1 := ⟨_, rfl⟩
          refine lv_iinc (v := i_4) (lv' := [(4, .int i_4), (3, .int (nI (t + 1))), (1, .long (lN (d / 2))), (0, .ref h0)]) hx hb d_Mo_isPrime_34 hl (k := 3) rfl (by rw [ei_4]; rfl) (by decide) rfl (fun ls hl => ?_)
          obtain rfl : i_4 = nI (t + 1) := by rw [ei_4]; exact nI_1 t
          refine lv_goto (tgt := 12) hx hb d_Mo_isPrime_37 (by decide) ?_
          exact ih (d / 2) (by omega) (t + 1) (by
            rw [htd, Nat.pow_succ]
            have : d = 2 * (d / 2) := by omega
            conv => lhs; rw [this]
            grind) (by omega) locs hS ls (lv_sub hl [3, 2, 1, 0] rfl)
  refine lv_aload_n hx hb d_Mo_isPrime_0 rfl (lv_at hl 0 rfl) ?_
  refine va_get (D := (dC, dI)) (ci := 0) (v := .long (lN N)) (C := "BallotBoard$Modulus") (T := F_Mo) (N := 7) hx hb hts (fun w9 h9 => List.mem_cons_of_mem _ (i_Mo w9 h9)) hown hK hP 0 rfl rfl 0 (by decide) (hts _ (List.mem_cons_of_mem _ gk_207)) (fun _ h9 => h9) rfl d_Mo_isPrime_1 ?_
  refine lv_lconst (v := 1) hx hb d_Mo_isPrime_4 (by decide) ?_
  refine lv_lsub hx hb d_Mo_isPrime_5 ?_
  rw [show ((lN N) - 1 : Int64) = (lN (N - 1)) from lsub1 (by omega)]
  refine lv_lstore_n (lv' := [(1, .long (lN (N - 1))), (0, .ref h0)]) hx hb d_Mo_isPrime_6 rfl hl (by decide) rfl (fun ls hl => ?_)
  refine lv_iconst (v := 0) hx hb d_Mo_isPrime_7 (by decide) ?_
  refine lv_istore_n (lv' := [(3, .int 0), (1, .long (lN (N - 1))), (0, .ref h0)]) hx hb d_Mo_isPrime_8 rfl hl (by decide) rfl (fun ls hl => ?_)
  refine lv_iconst (v := 0) hx hb d_Mo_isPrime_9 (by decide) ?_
  refine lv_istore (lv' := [(4, .int 0), (3, .int 0), (1, .long (lN (N - 1))), (0, .ref h0)]) hx hb d_Mo_isPrime_10 hl (by decide) rfl (fun ls hl => ?_)
  exact loopA (N - 1) 0 (by omega) (by omega) [] hS ls (lv_sub hl [3, 2, 1, 0] rfl)
