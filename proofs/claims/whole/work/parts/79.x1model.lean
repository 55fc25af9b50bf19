abbrev b_Bm_sum : ByteArray := prog_10_method_9_code
abbrev y_Bm_sum : MethodName := ⟨"BallotBoardModel", "sum", "(JJJ)J"⟩
abbrev w_Bm_sum : List Cond := .code y_Bm_sum b_Bm_sum 8 (some .long) :: gw
theorem d_Bm_sum_0 : decode b_Bm_sum 0 = .ok (.lload_n 0, 1) := by decide +kernel
theorem d_Bm_sum_1 : decode b_Bm_sum 1 = .ok (.lload_n 2, 1) := by decide +kernel
theorem d_Bm_sum_2 : decode b_Bm_sum 2 = .ok (.ladd, 1) := by decide +kernel
theorem d_Bm_sum_3 : decode b_Bm_sum 3 = .ok (.lstore 6, 2) := by decide +kernel
theorem d_Bm_sum_5 : decode b_Bm_sum 5 = .ok (.lload 6, 2) := by decide +kernel
theorem d_Bm_sum_7 : decode b_Bm_sum 7 = .ok (.lload 4, 2) := by decide +kernel
theorem d_Bm_sum_9 : decode b_Bm_sum 9 = .ok (.lcmp, 1) := by decide +kernel
theorem d_Bm_sum_10 : decode b_Bm_sum 10 = .ok (.ifCond .lt 11, 3) := by decide +kernel
theorem d_Bm_sum_13 : decode b_Bm_sum 13 = .ok (.lload 6, 2) := by decide +kernel
theorem d_Bm_sum_15 : decode b_Bm_sum 15 = .ok (.lload 4, 2) := by decide +kernel
theorem d_Bm_sum_17 : decode b_Bm_sum 17 = .ok (.lsub, 1) := by decide +kernel
theorem d_Bm_sum_18 : decode b_Bm_sum 18 = .ok (.goto 5, 3) := by decide +kernel
theorem d_Bm_sum_21 : decode b_Bm_sum 21 = .ok (.lload 6, 2) := by decide +kernel
theorem d_Bm_sum_23 : decode b_Bm_sum 23 = .ok (.lreturn, 1) := by decide +kernel
set_option maxHeartbeats 4000000 in
set_option maxRecDepth 100000 in
theorem c_Bm_sum (l : Launch) (H0 : Heap) (A B N : Nat) (hA : A < N) (hB : B < N) (hN : N < 2 ^ 62) : Met l y_Bm_sum w_Bm_sum ({ frames := 0, cells := 0, slots := 0, locals := 0 }) (va_Pc [.long (lN A), .long (lN B), .long (lN N)] (fun U => U.heap = H0)) (va_Ql (fun (r : Int64) (_ : Unit) => r = lN ((A + B) % N)) (fun _ t => t.heap = H0) (fun _ => False)) 0 0 (fun _ => False) := by
  refine Met.ofW (cc := b_Bm_sum) (maxL := 8) (ret := (some .long)) (by decide) rfl ?_
  intro p e s m args below meth c s₁ Bd hml hv
  obtain ⟨rfl, hH⟩ := hv
  subst hH
  have hx := Bd.exec
  have hb := Bd.bytes
  have hr := Bd.returns
  have hts := atoms_spec (ws := w_Bm_sum) Bd.pre
  have hown : s.vm.findClass "BallotBoardModel" = some m.cls := findClass_of_methodNamed Bd.named
  have hlocks := Bd.notSynchronized
  have hS : va_S (fun _ => False) s.heap s.heap [] := va_S.rf
  have hl := lv_entry ([.long (lN A), .long (lN B), .long (lN N)]) (n := 8) (Nat.le_of_ble_eq_true rfl)
  rw [lg_entry_eq]
  generalize (lg_sl ([.long (lN A), .long (lN B), .long (lN N)]) ++ List.replicate (8 - (lg_sl ([.long (lN A), .long (lN B), .long (lN N)])).length) Slot.unset).toArray = ls at hl ⊢
  have hl : lv_has ls 8 [(0, .long (lN A)), (2, .long (lN B)), (4, .long (lN N))] := hl
  refine lv_lload_n hx hb d_Bm_sum_0 rfl (lv_at hl 0 rfl) ?_
  refine lv_lload_n hx hb d_Bm_sum_1 rfl (lv_at hl 1 rfl) ?_
  refine lv_ladd hx hb d_Bm_sum_2 ?_
  rw [show ((lN A) + (lN B) : Int64) = (lN (A + B)) from lN_add A B]
  refine lv_lstore (lv' := [(6, .long (lN (A + B))), (0, .long (lN A)), (2, .long (lN B)), (4, .long (lN N))]) hx hb d_Bm_sum_3 hl (by decide) rfl (fun ls hl => ?_)
  refine lv_lload hx hb d_Bm_sum_5 (lv_at hl 0 rfl) ?_
  refine lv_lload hx hb d_Bm_sum_7 (lv_at hl 3 rfl) ?_
  refine W.lcmp hx hb d_Bm_sum_9 ?_
  refine lv_if_lt (tgt := 21) hx hb d_Bm_sum_10 (by decide) (fun c_1 => ?_) (fun c_1 => ?_)
  · -- taken
    have hlt : A + B < N := (pk_lLT (by omega) (by omega)).mp ((lg_cmp_lt _ _).mp c_1)
    refine lv_lload hx hb d_Bm_sum_21 (lv_at hl 0 rfl) ?_
    exact W.lret (v := (lN (A + B))) hx hb hr (fun t ht hW => ⟨⟨_, (), rfl, (by rw [Nat.mod_eq_of_lt hlt]), ht⟩, hS.F ht⟩) hS.2.2 d_Bm_sum_23
  · -- not taken
    have hge : N ≤ A + B := Nat.le_of_not_lt (fun h => c_1 ((lg_cmp_lt _ _).mpr ((pk_lLT (by omega) (by omega)).mpr h)))
    refine lv_lload hx hb d_Bm_sum_13 (lv_at hl 0 rfl) ?_
    refine lv_lload hx hb d_Bm_sum_15 (lv_at hl 3 rfl) ?_
    refine lv_lsub hx hb d_Bm_sum_17 ?_
    rw [show ((lN (A + B)) - (lN N) : Int64) = (lN (A + B - N)) from lN_sub hge]
    refine lv_goto (tgt := 23) hx hb d_Bm_sum_18 (by decide) ?_
    exact W.lret (v := (lN (A + B - N))) hx hb hr (fun t ht hW => ⟨⟨_, (), rfl, (by rw [Nat.mod_eq_sub_mod hge, Nat.mod_eq_of_lt (by omega)]), ht⟩, hS.F ht⟩) hS.2.2 d_Bm_sum_23
abbrev b_Bm_product : ByteArray := prog_10_method_10_code
abbrev y_Bm_product : MethodName := ⟨"BallotBoardModel", "product", "(JJJ)J"⟩
abbrev w_Bm_product : List Cond := .code y_Bm_product b_Bm_product 12 (some .long) :: gw
theorem d_Bm_product_0 : decode b_Bm_product 0 = .ok (.lconst 0, 1) := by decide +kernel
theorem d_Bm_product_1 : decode b_Bm_product 1 = .ok (.lstore 6, 2) := by decide +kernel
theorem d_Bm_product_3 : decode b_Bm_product 3 = .ok (.lload_n 0, 1) := by decide +kernel
theorem d_Bm_product_4 : decode b_Bm_product 4 = .ok (.lstore 8, 2) := by decide +kernel
theorem d_Bm_product_6 : decode b_Bm_product 6 = .ok (.lload_n 2, 1) := by decide +kernel
theorem d_Bm_product_7 : decode b_Bm_product 7 = .ok (.lstore 10, 2) := by decide +kernel
theorem d_Bm_product_9 : decode b_Bm_product 9 = .ok (.lload 10, 2) := by decide +kernel
theorem d_Bm_product_11 : decode b_Bm_product 11 = .ok (.lconst 0, 1) := by decide +kernel
theorem d_Bm_product_12 : decode b_Bm_product 12 = .ok (.lcmp, 1) := by decide +kernel
theorem d_Bm_product_13 : decode b_Bm_product 13 = .ok (.ifCond .le 43, 3) := by decide +kernel
theorem d_Bm_product_16 : decode b_Bm_product 16 = .ok (.lload 10, 2) := by decide +kernel
theorem d_Bm_product_18 : decode b_Bm_product 18 = .ok (.lconst 1, 1) := by decide +kernel
theorem d_Bm_product_19 : decode b_Bm_product 19 = .ok (.land, 1) := by decide +kernel
theorem d_Bm_product_20 : decode b_Bm_product 20 = .ok (.lconst 0, 1) := by decide +kernel
theorem d_Bm_product_21 : decode b_Bm_product 21 = .ok (.lcmp, 1) := by decide +kernel
theorem d_Bm_product_22 : decode b_Bm_product 22 = .ok (.ifCond .eq 14, 3) := by decide +kernel
theorem d_Bm_product_25 : decode b_Bm_product 25 = .ok (.lload 6, 2) := by decide +kernel
theorem d_Bm_product_27 : decode b_Bm_product 27 = .ok (.lload 8, 2) := by decide +kernel
theorem d_Bm_product_29 : decode b_Bm_product 29 = .ok (.lload 4, 2) := by decide +kernel
theorem d_Bm_product_31 : decode b_Bm_product 31 = .ok (.invokestatic 152, 3) := by decide +kernel
theorem d_Bm_product_34 : decode b_Bm_product 34 = .ok (.lstore 6, 2) := by decide +kernel
theorem d_Bm_product_36 : decode b_Bm_product 36 = .ok (.lload 8, 2) := by decide +kernel
theorem d_Bm_product_38 : decode b_Bm_product 38 = .ok (.lload 8, 2) := by decide +kernel
theorem d_Bm_product_40 : decode b_Bm_product 40 = .ok (.lload 4, 2) := by decide +kernel
theorem d_Bm_product_42 : decode b_Bm_product 42 = .ok (.invokestatic 152, 3) := by decide +kernel
theorem d_Bm_product_45 : decode b_Bm_product 45 = .ok (.lstore 8, 2) := by decide +kernel
theorem d_Bm_product_47 : decode b_Bm_product 47 = .ok (.lload 10, 2) := by decide +kernel
theorem d_Bm_product_49 : decode b_Bm_product 49 = .ok (.iconst 1, 1) := by decide +kernel
theorem d_Bm_product_50 : decode b_Bm_product 50 = .ok (.lshr, 1) := by decide +kernel
theorem d_Bm_product_51 : decode b_Bm_product 51 = .ok (.lstore 10, 2) := by decide +kernel
theorem d_Bm_product_53 : decode b_Bm_product 53 = .ok (.goto (-44), 3) := by decide +kernel
theorem d_Bm_product_56 : decode b_Bm_product 56 = .ok (.lload 6, 2) := by decide +kernel
theorem d_Bm_product_58 : decode b_Bm_product 58 = .ok (.lreturn, 1) := by decide +kernel
set_option maxHeartbeats 4000000 in
set_option maxRecDepth 100000 in
theorem c_Bm_product (l : Launch) (H0 : Heap) (A B N : Nat) (hA : A < N) (hB : B < 2 ^ 62) (hN : N < 2 ^ 61) : Met l y_Bm_product w_Bm_product ({ frames := 1, cells := 0, slots := 0, locals := 27 }) (va_Pc [.long (lN A), .long (lN B), .long (lN N)] (fun U => U.heap = H0)) (va_Ql (fun (r : Int64) (_ : Unit) => r = lN ((A * B) % N)) (fun _ t => t.heap = H0) (fun _ => False)) 0 0 (fun _ => False) := by
  refine Met.ofW (cc := b_Bm_product) (maxL := 12) (ret := (some .long)) (by decide) rfl ?_
  intro p e s m args below meth c s₁ Bd hml hv
  obtain ⟨rfl, hH⟩ := hv
  subst hH
  have hx := Bd.exec
  have hb := Bd.bytes
  have hr := Bd.returns
  have hts := atoms_spec (ws := w_Bm_product) Bd.pre
  have hown : s.vm.findClass "BallotBoardModel" = some m.cls := findClass_of_methodNamed Bd.named
  have hlocks := Bd.notSynchronized
  have hS : va_S (fun _ => False) s.heap s.heap [] := va_S.rf
  have hl := lv_entry ([.long (lN A), .long (lN B), .long (lN N)]) (n := 12) (Nat.le_of_ble_eq_true rfl)
  rw [lg_entry_eq]
  generalize (lg_sl ([.long (lN A), .long (lN B), .long (lN N)]) ++ List.replicate (12 - (lg_sl ([.long (lN A), .long (lN B), .long (lN N)])).length) Slot.unset).toArray = ls at hl ⊢
  have hl : lv_has ls 12 [(0, .long (lN A)), (2, .long (lN B)), (4, .long (lN N))] := hl
  have loop : ∀ (K S D : Nat), K < 2 ^ 62 → S < N → D < N → (S + D * K) % N = (A * B) % N → ∀ (locs : List Loc), va_S (fun _ => False) s.heap s.heap locs → ∀ (ls : Array Slot), lv_has ls 12 [(0, .long (lN A)), (2, .long (lN B)), (4, .long (lN N)), (6, .long (lN S)), (8, .long (lN D)), (10, .long (lN K))] → W p l e ({ frames := 1, cells := 0, slots := 0, locals := 27 } : Room) s m ([.long (lN A), .long (lN B), .long (lN N)] : List Value).toArray below meth c s.heap locs 0 0 (MQ below (va_Ql (fun (r : Int64) (_ : Unit) => r = lN ((A * B) % N)) (fun _ t => t.heap = s.heap) (fun _ => False)) ([.long (lN A), .long (lN B), .long (lN N)] : List Value).toArray s 0 0 (fun _ => False)) (F0 m 9 ls []) := by
    intro K
    induction K using Nat.strongRecOn with
    | ind K ih =>
      intro S D hK hSN hDN hinv locs hS ls hl
      have hN0 : 0 < N := by omega
      refine lv_lload hx hb d_Bm_product_9 (lv_at hl 5 rfl) ?_
      refine lv_lconst (v := 0) hx hb d_Bm_product_11 (by decide) ?_
      refine W.lcmp hx hb d_Bm_product_12 ?_
      refine lv_if_le (tgt := 56) hx hb d_Bm_product_13 (by decide) (fun c_1 => ?_) (fun c_1 => ?_)
      · -- taken
        have hK0 : K = 0 := (ln_le0 (by omega)).mp c_1
        subst hK0
        rw [Nat.mul_zero, Nat.add_zero, Nat.mod_eq_of_lt hSN] at hinv
        refine lv_lload hx hb d_Bm_product_56 (lv_at hl 3 rfl) ?_
        exact W.lret (v := (lN S)) hx hb hr (fun t ht hW => ⟨⟨_, (), rfl, (by rw [hinv]), ht⟩, hS.F ht⟩) hS.2.2 d_Bm_product_58
      · -- not taken
        have hK0 : K ≠ 0 := fun h => c_1 ((ln_le0 (by omega)).mpr h)
        refine lv_lload hx hb d_Bm_product_16 (lv_at hl 5 rfl) ?_
        refine lv_lconst (v := 1) hx hb d_Bm_product_18 (by decide) ?_
        refine lv_land hx hb d_Bm_product_19 ?_
        rw [show ((lN K) &&& 1 : Int64) = (lN (K % 2)) from wb_a1 (by omega)]
        refine lv_lconst (v := 0) hx hb d_Bm_product_20 (by decide) ?_
        refine W.lcmp hx hb d_Bm_product_21 ?_
        refine lv_if_eq (tgt := 36) hx hb d_Bm_product_22 (by decide) (fun c_2 => ?_) (fun c_2 => ?_)
        · -- taken
          have hpar : K % 2 = 0 := (ln_even (by omega)).mp c_2
          refine lv_lload hx hb d_Bm_product_36 (lv_at hl 4 rfl) ?_
          refine lv_lload hx hb d_Bm_product_38 (lv_at hl 4 rfl) ?_
          refine lv_lload hx hb d_Bm_product_40 (lv_at hl 2 rfl) ?_
          refine va_calll (va_runS (As := [.long (lN D), .long (lN D), .long (lN N)]) (rest := []) ⟨hx, hb, hml, hown, hts⟩ (c_Bm_sum l s.heap D D N (by assumption) (by assumption) (by omega)) (cwS 3 hts (gw_S gk_1024 gk_1025 gk_7 gk_1026) rfl rfl rfl (by decide +kernel) ⟨Nat.le_of_ble_eq_true rfl, Nat.le_of_ble_eq_true rfl⟩) ⟨fun a U g mk q => q, fun U hU hW => ⟨rfl, hU⟩⟩ rfl rfl hl.1 rfl (lv_room (Nat.le_of_ble_eq_true rfl)) d_Bm_product_42 ⟨Nat.zero_le _, Nat.zero_le _⟩) hS (fun q _ h => h.elim) (fun q h => h.elim) (fun r_3 u9 t9 H1 locs ht hvm hw hB hz1 hk1 hS => ?_)
          obtain rfl : s.heap = H1 := hB.symm.trans ht
          have hw : r_3 = lN ((D + D) % N) := hw
          subst hw
          refine lv_lstore (lv' := [(8, .long (lN ((D + D) % N))), (0, .long (lN A)), (2, .long (lN B)), (4, .long (lN N)), (6, .long (lN S)), (10, .long (lN K))]) hx hb d_Bm_product_45 hl (by decide) rfl (fun ls hl => ?_)
          refine lv_lload hx hb d_Bm_product_47 (lv_at hl 5 rfl) ?_
          refine lv_iconst (v := 1) hx hb d_Bm_product_49 (by decide) ?_
          refine lv_lshr (v := (lN K) >>> ((1 : Int32).toInt64 &&& 63)) hx hb d_Bm_product_50 rfl ?_
          rw [show ((lN K) >>> ((1 : Int32).toInt64 &&& 63) : Int64) = (lN (K / 2)) from ln_half hK]
          refine lv_lstore (lv' := [(10, .long (lN (K / 2))), (8, .long (lN ((D + D) % N))), (0, .long (lN A)), (2, .long (lN B)), (4, .long (lN N)), (6, .long (lN S))]) hx hb d_Bm_product_51 hl (by decide) rfl (fun ls hl => ?_)
          refine lv_goto (tgt := 9) hx hb d_Bm_product_53 (by decide) ?_
          have hm := md_half S D K N
          rw [if_pos hpar] at hm
          exact ih (K / 2) (by omega) S ((D + D) % N) (by omega) hSN (Nat.mod_lt _ hN0) (by rw [← hinv, hm]) locs hS ls (lv_sub hl [2, 3, 4, 5, 1, 0] rfl)
        · -- not taken
          have hpar : ¬ K % 2 = 0 := fun h => c_2 ((ln_even (by omega)).mpr h)
          refine lv_lload hx hb d_Bm_product_25 (lv_at hl 3 rfl) ?_
          refine lv_lload hx hb d_Bm_product_27 (lv_at hl 4 rfl) ?_
          refine lv_lload hx hb d_Bm_product_29 (lv_at hl 2 rfl) ?_
          refine va_calll (va_runS (As := [.long (lN S), .long (lN D), .long (lN N)]) (rest := []) ⟨hx, hb, hml, hown, hts⟩ (c_Bm_sum l s.heap S D N (by assumption) (by assumption) (by omega)) (cwS 3 hts (gw_S gk_1024 gk_1025 gk_7 gk_1026) rfl rfl rfl (by decide +kernel) ⟨Nat.le_of_ble_eq_true rfl, Nat.le_of_ble_eq_true rfl⟩) ⟨fun a U g mk q => q, fun U hU hW => ⟨rfl, hU⟩⟩ rfl rfl hl.1 rfl (lv_room (Nat.le_of_ble_eq_true rfl)) d_Bm_product_31 ⟨Nat.zero_le _, Nat.zero_le _⟩) hS (fun q _ h => h.elim) (fun q h => h.elim) (fun r_4 u9 t9 H1 locs ht hvm hw hB hz1 hk1 hS => ?_)
          obtain rfl : s.heap = H1 := hB.symm.trans ht
          have hw : r_4 = lN ((S + D) % N) := hw
          subst hw
          refine lv_lstore (lv' := [(6, .long (lN ((S + D) % N))), (0, .long (lN A)), (2, .long (lN B)), (4, .long (lN N)), (8, .long (lN D)), (10, .long (lN K))]) hx hb d_Bm_product_34 hl (by decide) rfl (fun ls hl => ?_)
          refine lv_lload hx hb d_Bm_product_36 (lv_at hl 4 rfl) ?_
          refine lv_lload hx hb d_Bm_product_38 (lv_at hl 4 rfl) ?_
          refine lv_lload hx hb d_Bm_product_40 (lv_at hl 3 rfl) ?_
          refine va_calll (va_runS (As := [.long (lN D), .long (lN D), .long (lN N)]) (rest := []) ⟨hx, hb, hml, hown, hts⟩ (c_Bm_sum l s.heap D D N (by assumption) (by assumption) (by omega)) (cwS 3 hts (gw_S gk_1024 gk_1025 gk_7 gk_1026) rfl rfl rfl (by decide +kernel) ⟨Nat.le_of_ble_eq_true rfl, Nat.le_of_ble_eq_true rfl⟩) ⟨fun a U g mk q => q, fun U hU hW => ⟨rfl, hU⟩⟩ rfl rfl hl.1 rfl (lv_room (Nat.le_of_ble_eq_true rfl)) d_Bm_product_42 ⟨Nat.zero_le _, Nat.zero_le _⟩) hS (fun q _ h => h.elim) (fun q h => h.elim) (fun r_5 u9 t9 H1 locs ht hvm hw hB hz1 hk1 hS => ?_)
          obtain rfl : s.heap = H1 := hB.symm.trans ht
          have hw : r_5 = lN ((D + D) % N) := hw
          subst hw
          refine lv_lstore (lv' := [(8, .long (lN ((D + D) % N))), (6, .long (lN ((S + D) % N))), (0, .long (lN A)), (2, .long (lN B)), (4, .long (lN N)), (10, .long (lN K))]) hx hb d_Bm_product_45 hl (by decide) rfl (fun ls hl => ?_)
          refine lv_lload hx hb d_Bm_product_47 (lv_at hl 5 rfl) ?_
          refine lv_iconst (v := 1) hx hb d_Bm_product_49 (by decide) ?_
          refine lv_lshr (v := (lN K) >>> ((1 : Int32).toInt64 &&& 63)) hx hb d_Bm_product_50 rfl ?_
          rw [show ((lN K) >>> ((1 : Int32).toInt64 &&& 63) : Int64) = (lN (K / 2)) from ln_half hK]
          refine lv_lstore (lv' := [(10, .long (lN (K / 2))), (8, .long (lN ((D + D) % N))), (6, .long (lN ((S + D) % N))), (0, .long (lN A)), (2, .long (lN B)), (4, .long (lN N))]) hx hb d_Bm_product_51 hl (by decide) rfl (fun ls hl => ?_)
          refine lv_goto (tgt := 9) hx hb d_Bm_product_53 (by decide) ?_
          have hm := md_half S D K N
          rw [if_neg hpar] at hm
          exact ih (K / 2) (by omega) ((S + D) % N) ((D + D) % N) (by omega) (Nat.mod_lt _ hN0) (Nat.mod_lt _ hN0) (by rw [← hinv, hm]) locs hS ls (lv_sub hl [3, 4, 5, 2, 1, 0] rfl)
  refine lv_lconst (v := 0) hx hb d_Bm_product_0 (by decide) ?_
  refine lv_lstore (lv' := [(6, .long 0), (0, .long (lN A)), (2, .long (lN B)), (4, .long (lN N))]) hx hb d_Bm_product_1 hl (by decide) rfl (fun ls hl => ?_)
  refine lv_lload_n hx hb d_Bm_product_3 rfl (lv_at hl 1 rfl) ?_
  refine lv_lstore (lv' := [(8, .long (lN A)), (6, .long 0), (0, .long (lN A)), (2, .long (lN B)), (4, .long (lN N))]) hx hb d_Bm_product_4 hl (by decide) rfl (fun ls hl => ?_)
  refine lv_lload_n hx hb d_Bm_product_6 rfl (lv_at hl 3 rfl) ?_
  refine lv_lstore (lv' := [(10, .long (lN B)), (8, .long (lN A)), (6, .long 0), (0, .long (lN A)), (2, .long (lN B)), (4, .long (lN N))]) hx hb d_Bm_product_7 hl (by decide) rfl (fun ls hl => ?_)
  exact loop B 0 A hB (by omega) hA (by rw [Nat.zero_add]) [] hS ls (lv_sub hl [3, 4, 5, 2, 1, 0] rfl)
abbrev b_Bm_power : ByteArray := prog_10_method_11_code
abbrev y_Bm_power : MethodName := ⟨"BallotBoardModel", "power", "(JJJ)J"⟩
abbrev w_Bm_power : List Cond := .code y_Bm_power b_Bm_power 12 (some .long) :: gw
theorem d_Bm_power_0 : decode b_Bm_power 0 = .ok (.lconst 1, 1) := by decide +kernel
theorem d_Bm_power_1 : decode b_Bm_power 1 = .ok (.lload 4, 2) := by decide +kernel
theorem d_Bm_power_3 : decode b_Bm_power 3 = .ok (.lrem, 1) := by decide +kernel
theorem d_Bm_power_4 : decode b_Bm_power 4 = .ok (.lstore 6, 2) := by decide +kernel
theorem d_Bm_power_6 : decode b_Bm_power 6 = .ok (.lload_n 0, 1) := by decide +kernel
theorem d_Bm_power_7 : decode b_Bm_power 7 = .ok (.lstore 8, 2) := by decide +kernel
theorem d_Bm_power_9 : decode b_Bm_power 9 = .ok (.lload_n 2, 1) := by decide +kernel
theorem d_Bm_power_10 : decode b_Bm_power 10 = .ok (.lstore 10, 2) := by decide +kernel
theorem d_Bm_power_12 : decode b_Bm_power 12 = .ok (.lload 10, 2) := by decide +kernel
theorem d_Bm_power_14 : decode b_Bm_power 14 = .ok (.lconst 0, 1) := by decide +kernel
theorem d_Bm_power_15 : decode b_Bm_power 15 = .ok (.lcmp, 1) := by decide +kernel
theorem d_Bm_power_16 : decode b_Bm_power 16 = .ok (.ifCond .le 43, 3) := by decide +kernel
theorem d_Bm_power_19 : decode b_Bm_power 19 = .ok (.lload 10, 2) := by decide +kernel
theorem d_Bm_power_21 : decode b_Bm_power 21 = .ok (.lconst 1, 1) := by decide +kernel
theorem d_Bm_power_22 : decode b_Bm_power 22 = .ok (.land, 1) := by decide +kernel
theorem d_Bm_power_23 : decode b_Bm_power 23 = .ok (.lconst 0, 1) := by decide +kernel
theorem d_Bm_power_24 : decode b_Bm_power 24 = .ok (.lcmp, 1) := by decide +kernel
theorem d_Bm_power_25 : decode b_Bm_power 25 = .ok (.ifCond .eq 14, 3) := by decide +kernel
theorem d_Bm_power_28 : decode b_Bm_power 28 = .ok (.lload 6, 2) := by decide +kernel
theorem d_Bm_power_30 : decode b_Bm_power 30 = .ok (.lload 8, 2) := by decide +kernel
theorem d_Bm_power_32 : decode b_Bm_power 32 = .ok (.lload 4, 2) := by decide +kernel
theorem d_Bm_power_34 : decode b_Bm_power 34 = .ok (.invokestatic 156, 3) := by decide +kernel
theorem d_Bm_power_37 : decode b_Bm_power 37 = .ok (.lstore 6, 2) := by decide +kernel
theorem d_Bm_power_39 : decode b_Bm_power 39 = .ok (.lload 8, 2) := by decide +kernel
theorem d_Bm_power_41 : decode b_Bm_power 41 = .ok (.lload 8, 2) := by decide +kernel
theorem d_Bm_power_43 : decode b_Bm_power 43 = .ok (.lload 4, 2) := by decide +kernel
theorem d_Bm_power_45 : decode b_Bm_power 45 = .ok (.invokestatic 156, 3) := by decide +kernel
theorem d_Bm_power_48 : decode b_Bm_power 48 = .ok (.lstore 8, 2) := by decide +kernel
theorem d_Bm_power_50 : decode b_Bm_power 50 = .ok (.lload 10, 2) := by decide +kernel
theorem d_Bm_power_52 : decode b_Bm_power 52 = .ok (.iconst 1, 1) := by decide +kernel
theorem d_Bm_power_53 : decode b_Bm_power 53 = .ok (.lshr, 1) := by decide +kernel
theorem d_Bm_power_54 : decode b_Bm_power 54 = .ok (.lstore 10, 2) := by decide +kernel
theorem d_Bm_power_56 : decode b_Bm_power 56 = .ok (.goto (-44), 3) := by decide +kernel
theorem d_Bm_power_59 : decode b_Bm_power 59 = .ok (.lload 6, 2) := by decide +kernel
theorem d_Bm_power_61 : decode b_Bm_power 61 = .ok (.lreturn, 1) := by decide +kernel
set_option maxHeartbeats 4000000 in
set_option maxRecDepth 100000 in
theorem c_Bm_power (l : Launch) (H0 : Heap) (A B N : Nat) (hA : A < N) (hB : B < 2 ^ 62) (hN : N < 2 ^ 61) : Met l y_Bm_power w_Bm_power ({ frames := 2, cells := 0, slots := 0, locals := 58 }) (va_Pc [.long (lN A), .long (lN B), .long (lN N)] (fun U => U.heap = H0)) (va_Ql (fun (r : Int64) (_ : Unit) => r = lN ((A ^ B) % N)) (fun _ t => t.heap = H0) (fun _ => False)) 0 0 (fun _ => False) := by
  refine Met.ofW (cc := b_Bm_power) (maxL := 12) (ret := (some .long)) (by decide) rfl ?_
  intro p e s m args below meth c s₁ Bd hml hv
  obtain ⟨rfl, hH⟩ := hv
  subst hH
  have hx := Bd.exec
  have hb := Bd.bytes
  have hr := Bd.returns
  have hts := atoms_spec (ws := w_Bm_power) Bd.pre
  have hown : s.vm.findClass "BallotBoardModel" = some m.cls := findClass_of_methodNamed Bd.named
  have hlocks := Bd.notSynchronized
  have hS : va_S (fun _ => False) s.heap s.heap [] := va_S.rf
  have hl := lv_entry ([.long (lN A), .long (lN B), .long (lN N)]) (n := 12) (Nat.le_of_ble_eq_true rfl)
  rw [lg_entry_eq]
  generalize (lg_sl ([.long (lN A), .long (lN B), .long (lN N)]) ++ List.replicate (12 - (lg_sl ([.long (lN A), .long (lN B), .long (lN N)])).length) Slot.unset).toArray = ls at hl ⊢
  have hl : lv_has ls 12 [(0, .long (lN A)), (2, .long (lN B)), (4, .long (lN N))] := hl
  have loop : ∀ (K S D : Nat), K < 2 ^ 62 → S < N → D < N → (S * D ^ K) % N = (A ^ B) % N → ∀ (locs : List Loc), va_S (fun _ => False) s.heap s.heap locs → ∀ (ls : Array Slot), lv_has ls 12 [(0, .long (lN A)), (2, .long (lN B)), (4, .long (lN N)), (6, .long (lN S)), (8, .long (lN D)), (10, .long (lN K))] → W p l e ({ frames := 2, cells := 0, slots := 0, locals := 58 } : Room) s m ([.long (lN A), .long (lN B), .long (lN N)] : List Value).toArray below meth c s.heap locs 0 0 (MQ below (va_Ql (fun (r : Int64) (_ : Unit) => r = lN ((A ^ B) % N)) (fun _ t => t.heap = s.heap) (fun _ => False)) ([.long (lN A), .long (lN B), .long (lN N)] : List Value).toArray s 0 0 (fun _ => False)) (F0 m 12 ls []) := by
    intro K
    induction K using Nat.strongRecOn with
    | ind K ih =>
      intro S D hK hSN hDN hinv locs hS ls hl
      have hN0 : 0 < N := by omega
      refine lv_lload hx hb d_Bm_power_12 (lv_at hl 5 rfl) ?_
      refine lv_lconst (v := 0) hx hb d_Bm_power_14 (by decide) ?_
      refine W.lcmp hx hb d_Bm_power_15 ?_
      refine lv_if_le (tgt := 59) hx hb d_Bm_power_16 (by decide) (fun c_1 => ?_) (fun c_1 => ?_)
      · -- taken
        have hK0 : K = 0 := (ln_le0 (by omega)).mp c_1
        subst hK0
        rw [Nat.pow_zero, Nat.mul_one, Nat.mod_eq_of_lt hSN] at hinv
        refine lv_lload hx hb d_Bm_power_59 (lv_at hl 3 rfl) ?_
        exact W.lret (v := (lN S)) hx hb hr (fun t ht hW => ⟨⟨_, (), rfl, (by rw [hinv]), ht⟩, hS.F ht⟩) hS.2.2 d_Bm_power_61
      · -- not taken
        have hK0 : K ≠ 0 := fun h => c_1 ((ln_le0 (by omega)).mpr h)
        refine lv_lload hx hb d_Bm_power_19 (lv_at hl 5 rfl) ?_
        refine lv_lconst (v := 1) hx hb d_Bm_power_21 (by decide) ?_
        refine lv_land hx hb d_Bm_power_22 ?_
        rw [show ((lN K) &&& 1 : Int64) = (lN (K % 2)) from wb_a1 (by omega)]
        refine lv_lconst (v := 0) hx hb d_Bm_power_23 (by decide) ?_
        refine W.lcmp hx hb d_Bm_power_24 ?_
        refine lv_if_eq (tgt := 39) hx hb d_Bm_power_25 (by decide) (fun c_2 => ?_) (fun c_2 => ?_)
        · -- taken
          have hpar : K % 2 = 0 := (ln_even (by omega)).mp c_2
          refine lv_lload hx hb d_Bm_power_39 (lv_at hl 4 rfl) ?_
          refine lv_lload hx hb d_Bm_power_41 (lv_at hl 4 rfl) ?_
          refine lv_lload hx hb d_Bm_power_43 (lv_at hl 2 rfl) ?_
          refine va_calll (va_runS (As := [.long (lN D), .long (lN D), .long (lN N)]) (rest := []) ⟨hx, hb, hml, hown, hts⟩ (c_Bm_product l s.heap D D N (by assumption) (by omega) (by assumption)) (cwS 3 hts (gw_S gk_1021 gk_1022 gk_7 gk_1023) rfl rfl rfl (by decide +kernel) ⟨Nat.le_of_ble_eq_true rfl, Nat.le_of_ble_eq_true rfl⟩) ⟨fun a U g mk q => q, fun U hU hW => ⟨rfl, hU⟩⟩ rfl rfl hl.1 rfl (lv_room (Nat.le_of_ble_eq_true rfl)) d_Bm_power_45 ⟨Nat.zero_le _, Nat.zero_le _⟩) hS (fun q _ h => h.elim) (fun q h => h.elim) (fun r_3 u9 t9 H1 locs ht hvm hw hB hz1 hk1 hS => ?_)
          obtain rfl : s.heap = H1 := hB.symm.trans ht
          have hw : r_3 = lN ((D * D) % N) := hw
          subst hw
          refine lv_lstore (lv' := [(8, .long (lN ((D * D) % N))), (0, .long (lN A)), (2, .long (lN B)), (4, .long (lN N)), (6, .long (lN S)), (10, .long (lN K))]) hx hb d_Bm_power_48 hl (by decide) rfl (fun ls hl => ?_)
          refine lv_lload hx hb d_Bm_power_50 (lv_at hl 5 rfl) ?_
          refine lv_iconst (v := 1) hx hb d_Bm_power_52 (by decide) ?_
          refine lv_lshr (v := (lN K) >>> ((1 : Int32).toInt64 &&& 63)) hx hb d_Bm_power_53 rfl ?_
          rw [show ((lN K) >>> ((1 : Int32).toInt64 &&& 63) : Int64) = (lN (K / 2)) from ln_half hK]
          refine lv_lstore (lv' := [(10, .long (lN (K / 2))), (8, .long (lN ((D * D) % N))), (0, .long (lN A)), (2, .long (lN B)), (4, .long (lN N)), (6, .long (lN S))]) hx hb d_Bm_power_54 hl (by decide) rfl (fun ls hl => ?_)
          refine lv_goto (tgt := 12) hx hb d_Bm_power_56 (by decide) ?_
          have hm := md_sq S D K N
          rw [if_pos hpar] at hm
          exact ih (K / 2) (by omega) S ((D * D) % N) (by omega) hSN (Nat.mod_lt _ hN0) (by rw [← hinv, hm]) locs hS ls (lv_sub hl [2, 3, 4, 5, 1, 0] rfl)
        · -- not taken
          have hpar : ¬ K % 2 = 0 := fun h => c_2 ((ln_even (by omega)).mpr h)
          refine lv_lload hx hb d_Bm_power_28 (lv_at hl 3 rfl) ?_
          refine lv_lload hx hb d_Bm_power_30 (lv_at hl 4 rfl) ?_
          refine lv_lload hx hb d_Bm_power_32 (lv_at hl 2 rfl) ?_
          refine va_calll (va_runS (As := [.long (lN S), .long (lN D), .long (lN N)]) (rest := []) ⟨hx, hb, hml, hown, hts⟩ (c_Bm_product l s.heap S D N (by assumption) (by omega) (by assumption)) (cwS 3 hts (gw_S gk_1021 gk_1022 gk_7 gk_1023) rfl rfl rfl (by decide +kernel) ⟨Nat.le_of_ble_eq_true rfl, Nat.le_of_ble_eq_true rfl⟩) ⟨fun a U g mk q => q, fun U hU hW => ⟨rfl, hU⟩⟩ rfl rfl hl.1 rfl (lv_room (Nat.le_of_ble_eq_true rfl)) d_Bm_power_34 ⟨Nat.zero_le _, Nat.zero_le _⟩) hS (fun q _ h => h.elim) (fun q h => h.elim) (fun r_4 u9 t9 H1 locs ht hvm hw hB hz1 hk1 hS => ?_)
          obtain rfl : s.heap = H1 := hB.symm.trans ht
          have hw : r_4 = lN ((S * D) % N) := hw
          subst hw
          refine lv_lstore (lv' := [(6, .long (lN ((S * D) % N))), (0, .long (lN A)), (2, .long (lN B)), (4, .long (lN N)), (8, .long (lN D)), (10, .long (lN K))]) hx hb d_Bm_power_37 hl (by decide) rfl (fun ls hl => ?_)
          refine lv_lload hx hb d_Bm_power_39 (lv_at hl 4 rfl) ?_
          refine lv_lload hx hb d_Bm_power_41 (lv_at hl 4 rfl) ?_
          refine lv_lload hx hb d_Bm_power_43 (lv_at hl 3 rfl) ?_
          refine va_calll (va_runS (As := [.long (lN D), .long (lN D), .long (lN N)]) (rest := []) ⟨hx, hb, hml, hown, hts⟩ (c_Bm_product l s.heap D D N (by assumption) (by omega) (by assumption)) (cwS 3 hts (gw_S gk_1021 gk_1022 gk_7 gk_1023) rfl rfl rfl (by decide +kernel) ⟨Nat.le_of_ble_eq_true rfl, Nat.le_of_ble_eq_true rfl⟩) ⟨fun a U g mk q => q, fun U hU hW => ⟨rfl, hU⟩⟩ rfl rfl hl.1 rfl (lv_room (Nat.le_of_ble_eq_true rfl)) d_Bm_power_45 ⟨Nat.zero_le _, Nat.zero_le _⟩) hS (fun q _ h => h.elim) (fun q h => h.elim) (fun r_5 u9 t9 H1 locs ht hvm hw hB hz1 hk1 hS => ?_)
          obtain rfl : s.heap = H1 := hB.symm.trans ht
          have hw : r_5 = lN ((D * D) % N) := hw
          subst hw
          refine lv_lstore (lv' := [(8, .long (lN ((D * D) % N))), (6, .long (lN ((S * D) % N))), (0, .long (lN A)), (2, .long (lN B)), (4, .long (lN N)), (10, .long (lN K))]) hx hb d_Bm_power_48 hl (by decide) rfl (fun ls hl => ?_)
          refine lv_lload hx hb d_Bm_power_50 (lv_at hl 5 rfl) ?_
          refine lv_iconst (v := 1) hx hb d_Bm_power_52 (by decide) ?_
          refine lv_lshr (v := (lN K) >>> ((1 : Int32).toInt64 &&& 63)) hx hb d_Bm_power_53 rfl ?_
          rw [show ((lN K) >>> ((1 : Int32).toInt64 &&& 63) : Int64) = (lN (K / 2)) from ln_half hK]
          refine lv_lstore (lv' := [(10, .long (lN (K / 2))), (8, .long (lN ((D * D) % N))), (6, .long (lN ((S * D) % N))), (0, .long (lN A)), (2, .long (lN B)), (4, .long (lN N))]) hx hb d_Bm_power_54 hl (by decide) rfl (fun ls hl => ?_)
          refine lv_goto (tgt := 12) hx hb d_Bm_power_56 (by decide) ?_
          have hm := md_sq S D K N
          rw [if_neg hpar] at hm
          exact ih (K / 2) (by omega) ((S * D) % N) ((D * D) % N) (by omega) (Nat.mod_lt _ hN0) (Nat.mod_lt _ hN0) (by rw [← hinv, hm]) locs hS ls (lv_sub hl [3, 4, 5, 2, 1, 0] rfl)
  refine lv_lconst (v := 1) hx hb d_Bm_power_0 (by decide) ?_
  refine lv_lload hx hb d_Bm_power_1 (lv_at hl 2 rfl) ?_
  refine lv_lrem hx hb d_Bm_power_3 (ln_ne0 (by omega) (by omega)) ?_
  rw [show (1 - 1 / (lN N) * (lN N) : Int64) = (lN (1 % N)) from ln_rem1 (by omega) (by omega)]
  refine lv_lstore (lv' := [(6, .long (lN (1 % N))), (0, .long (lN A)), (2, .long (lN B)), (4, .long (lN N))]) hx hb d_Bm_power_4 hl (by decide) rfl (fun ls hl => ?_)
  refine lv_lload_n hx hb d_Bm_power_6 rfl (lv_at hl 1 rfl) ?_
  refine lv_lstore (lv' := [(8, .long (lN A)), (6, .long (lN (1 % N))), (0, .long (lN A)), (2, .long (lN B)), (4, .long (lN N))]) hx hb d_Bm_power_7 hl (by decide) rfl (fun ls hl => ?_)
  refine lv_lload_n hx hb d_Bm_power_9 rfl (lv_at hl 3 rfl) ?_
  refine lv_lstore (lv' := [(10, .long (lN B)), (8, .long (lN A)), (6, .long (lN (1 % N))), (0, .long (lN A)), (2, .long (lN B)), (4, .long (lN N))]) hx hb d_Bm_power_10 hl (by decide) rfl (fun ls hl => ?_)
  exact loop B (1 % N) A hB (Nat.mod_lt _ (by omega)) hA (by rw [Nat.mod_mul_mod, Nat.one_mul]) [] hS ls (lv_sub hl [3, 4, 5, 2, 1, 0] rfl)
