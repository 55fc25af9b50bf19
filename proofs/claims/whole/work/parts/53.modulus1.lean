abbrev b_Mo_ninv : ByteArray := prog_6_method_12_code
abbrev y_Mo_ninv : MethodName := ⟨"BallotBoard$Modulus", "negatedInverse", "(J)J"⟩
abbrev w_Mo_ninv : List Cond := .code y_Mo_ninv b_Mo_ninv 5 (some .long) :: gw
theorem d_Mo_ninv_0 : decode b_Mo_ninv 0 = .ok (.lload_n 0, 1) := by decide +kernel
theorem d_Mo_ninv_1 : decode b_Mo_ninv 1 = .ok (.lstore_n 2, 1) := by decide +kernel
theorem d_Mo_ninv_2 : decode b_Mo_ninv 2 = .ok (.iconst 0, 1) := by decide +kernel
theorem d_Mo_ninv_3 : decode b_Mo_ninv 3 = .ok (.istore 4, 2) := by decide +kernel
theorem d_Mo_ninv_5 : decode b_Mo_ninv 5 = .ok (.iload 4, 2) := by decide +kernel
theorem d_Mo_ninv_7 : decode b_Mo_ninv 7 = .ok (.iconst 4, 1) := by decide +kernel
theorem d_Mo_ninv_8 : decode b_Mo_ninv 8 = .ok (.if_icmp .ge 19, 3) := by decide +kernel
theorem d_Mo_ninv_11 : decode b_Mo_ninv 11 = .ok (.lload_n 2, 1) := by decide +kernel
theorem d_Mo_ninv_12 : decode b_Mo_ninv 12 = .ok (.ldc2_w 50, 3) := by decide +kernel
theorem d_Mo_ninv_15 : decode b_Mo_ninv 15 = .ok (.lload_n 0, 1) := by decide +kernel
theorem d_Mo_ninv_16 : decode b_Mo_ninv 16 = .ok (.lload_n 2, 1) := by decide +kernel
theorem d_Mo_ninv_17 : decode b_Mo_ninv 17 = .ok (.lmul, 1) := by decide +kernel
theorem d_Mo_ninv_18 : decode b_Mo_ninv 18 = .ok (.lsub, 1) := by decide +kernel
theorem d_Mo_ninv_19 : decode b_Mo_ninv 19 = .ok (.lmul, 1) := by decide +kernel
theorem d_Mo_ninv_20 : decode b_Mo_ninv 20 = .ok (.lstore_n 2, 1) := by decide +kernel
theorem d_Mo_ninv_21 : decode b_Mo_ninv 21 = .ok (.iinc 4 1, 3) := by decide +kernel
theorem d_Mo_ninv_24 : decode b_Mo_ninv 24 = .ok (.goto (-19), 3) := by decide +kernel
theorem d_Mo_ninv_27 : decode b_Mo_ninv 27 = .ok (.lload_n 2, 1) := by decide +kernel
theorem d_Mo_ninv_28 : decode b_Mo_ninv 28 = .ok (.lneg, 1) := by decide +kernel
theorem d_Mo_ninv_29 : decode b_Mo_ninv 29 = .ok (.ldc2_w 13, 3) := by decide +kernel
theorem d_Mo_ninv_32 : decode b_Mo_ninv 32 = .ok (.land, 1) := by decide +kernel
theorem d_Mo_ninv_33 : decode b_Mo_ninv 33 = .ok (.lreturn, 1) := by decide +kernel
set_option maxHeartbeats 4000000 in
set_option maxRecDepth 100000 in
theorem c_Mo_ninv (l : Launch) (H0 : Heap) (N : Nat) (hN : N % 2 = 1) : Met l y_Mo_ninv w_Mo_ninv ({ frames := 0, cells := 0, slots := 0, locals := 0 }) (va_Pc [.long (lN N)] (fun U => U.heap = H0)) (va_Ql (fun (r : Int64) (_ : Unit) => ∃ f, r = lN f ∧ f < 2 ^ 31 ∧ (f * N + 1) % 2 ^ 31 = 0) (fun _ t => t.heap = H0) (fun _ => False)) 0 0 (fun _ => False) := by
  refine Met.ofW (cc := b_Mo_ninv) (maxL := 5) (ret := (some .long)) (by decide) rfl ?_
  intro p e s m args below meth c s₁ Bd hml hv
  obtain ⟨rfl, hH⟩ := hv
  subst hH
  have hx := Bd.exec
  have hb := Bd.bytes
  have hr := Bd.returns
  have hts := atoms_spec (ws := w_Mo_ninv) Bd.pre
  have hown : s.vm.findClass "BallotBoard$Modulus" = some m.cls := findClass_of_methodNamed Bd.named
  have hlocks := Bd.notSynchronized
  have hS : va_S (fun _ => False) s.heap s.heap [] := va_S.rf
  have hl := lv_entry ([.long (lN N)]) (n := 5) (Nat.le_of_ble_eq_true rfl)
  rw [lg_entry_eq]
  generalize (lg_sl ([.long (lN N)]) ++ List.replicate (5 - (lg_sl ([.long (lN N)])).length) Slot.unset).toArray = ls at hl ⊢
  have hl : lv_has ls 5 [(0, .long (lN N))] := hl
  have loop : ∀ (j i X : Nat), i + j = 4 → ((2 ^ (3 * 2 ^ i) : Nat) : Int) ∣ ((N * X : Nat) : Int) - 1 → ∀ (locs : List Loc), va_S (fun _ => False) s.heap s.heap locs → ∀ (ls : Array Slot), lv_has ls 5 [(0, .long (lN N)), (2, .long (lN X)), (4, .int (nI i))] → W p l e ({ frames := 0, cells := 0, slots := 0, locals := 0 } : Room) s m ([.long (lN N)] : List Value).toArray below meth c s.heap locs 0 0 (MQ below (va_Ql (fun (r : Int64) (_ : Unit) => ∃ f, r = lN f ∧ f < 2 ^ 31 ∧ (f * N + 1) % 2 ^ 31 = 0) (fun _ t => t.heap = s.heap) (fun _ => False)) ([.long (lN N)] : List Value).toArray s 0 0 (fun _ => False)) (F0 m 5 ls []) := by
    intro j
    induction j using Nat.strongRecOn with
    | ind j ih =>
      intro i X hij hdv locs hS ls hl
      refine lv_iload hx hb d_Mo_ninv_5 (lv_at hl 2 rfl) ?_
      refine lv_iconst (v := 4) hx hb d_Mo_ninv_7 (by decide) ?_
      refine lv_icmp_ge (tgt := 27) hx hb d_Mo_ninv_8 (by decide) (fun c_1 => ?_) (fun c_1 => ?_)
      · -- taken
        have hi4 : i = 4 := by
          have := (ige 4 (by omega) (by omega) rfl).mp c_1
          omega
        subst hi4
        refine lv_lload_n hx hb d_Mo_ninv_27 rfl (lv_at hl 1 rfl) ?_
        refine lv_lneg hx hb d_Mo_ninv_28 ?_
        rw [show (-(lN X) : Int64) = (lN (2 ^ 64 - X % 2 ^ 64)) from lw_neg X]
        refine lv_ldc2 (v := 2147483647) hx hb hown (hts _ (List.mem_cons_of_mem _ gk_196)) d_Mo_ninv_29 ?_
        refine lv_land hx hb d_Mo_ninv_32 ?_
        rw [show ((lN (2 ^ 64 - X % 2 ^ 64)) &&& 2147483647 : Int64) = (lN ((2 ^ 64 - X % 2 ^ 64) % 2 ^ 31)) from lw_mask _]
        exact W.lret (v := (lN ((2 ^ 64 - X % 2 ^ 64) % 2 ^ 31))) hx hb hr (fun t ht hW => ⟨⟨_, (), rfl, ⟨_, rfl, Nat.mod_lt _ (by decide), ni_end hdv⟩, ht⟩, hS.F ht⟩) hS.2.2 d_Mo_ninv_33
      · -- not taken
        have hi4 : ¬ 4 ≤ i := fun h => c_1 ((ige 4 (by omega) (by omega) rfl).mpr h)
        refine lv_lload_n hx hb d_Mo_ninv_11 rfl (lv_at hl 1 rfl) ?_
        refine lv_ldc2 (v := 2) hx hb hown (hts _ (List.mem_cons_of_mem _ gk_200)) d_Mo_ninv_12 ?_
        refine lv_lload_n hx hb d_Mo_ninv_15 rfl (lv_at hl 0 rfl) ?_
        refine lv_lload_n hx hb d_Mo_ninv_16 rfl (lv_at hl 1 rfl) ?_
        refine lv_lmul hx hb d_Mo_ninv_17 ?_
        rw [show ((lN N) * (lN X) : Int64) = (lN (N * X)) from lN_mul N X]
        refine lv_lsub hx hb d_Mo_ninv_18 ?_
        rw [show (2 - (lN (N * X)) : Int64) = (lN (2 ^ 64 - (N * X) % 2 ^ 64 + 2)) from lw_sub 2 (N * X)]
        refine lv_lmul hx hb d_Mo_ninv_19 ?_
        rw [show ((lN X) * (lN (2 ^ 64 - (N * X) % 2 ^ 64 + 2)) : Int64) = (lN (X * (2 ^ 64 - (N * X) % 2 ^ 64 + 2))) from lN_mul _ _]
        refine lv_lstore_n (lv' := [(2, .long (lN (X * (2 ^ 64 - (N * X) % 2 ^ 64 + 2)))), (0, .long (lN N)), (4, .int (nI i))]) hx hb d_Mo_ninv_20 rfl hl (by decide) rfl (fun ls hl => ?_)
        obtain ⟨i_2, ei_2⟩ : ∃ y : Int32, y = (nI i) + 1 := ⟨_, rfl⟩
        refine lv_iinc (v := i_2) (lv' := [(4, .int i_2), (2, .long (lN (X * (2 ^ 64 - (N * X) % 2 ^ 64 + 2)))), (0, .long (lN N))]) hx hb d_Mo_ninv_21 hl (k := 2) rfl (by rw [ei_2]; rfl) (by decide) rfl (fun ls hl => ?_)
        obtain rfl : i_2 = nI (i + 1) := by rw [ei_2]; exact nI_1 i
        refine lv_goto (tgt := 5) hx hb d_Mo_ninv_24 (by decide) ?_
        have hst := ni_step (k := 3 * 2 ^ i) (by
          have : 2 ^ i ≤ 2 ^ 3 := Nat.pow_le_pow_right (by omega) (by omega)
          omega) hdv
        exact ih (j - 1) (by omega) (i + 1) _ (by omega) (by
          have e : 3 * 2 ^ (i + 1) = 2 * (3 * 2 ^ i) := by rw [Nat.pow_succ]; omega
          rw [e]
          exact hst) locs hS ls (lv_sub hl [2, 1, 0] rfl)
  refine lv_lload_n hx hb d_Mo_ninv_0 rfl (lv_at hl 0 rfl) ?_
  refine lv_lstore_n (lv' := [(2, .long (lN N)), (0, .long (lN N))]) hx hb d_Mo_ninv_1 rfl hl (by decide) rfl (fun ls hl => ?_)
  refine lv_iconst (v := 0) hx hb d_Mo_ninv_2 (by decide) ?_
  refine lv_istore (lv' := [(4, .int 0), (2, .long (lN N)), (0, .long (lN N))]) hx hb d_Mo_ninv_3 hl (by decide) rfl (fun ls hl => ?_)
  exact loop 4 0 N (by omega) (ni_start hN) [] hS ls (lv_sub hl [2, 1, 0] rfl)
abbrev b_Mo_doubled : ByteArray := prog_6_method_13_code
abbrev y_Mo_doubled : MethodName := ⟨"BallotBoard$Modulus", "doubled", "(JIJ)J"⟩
abbrev w_Mo_doubled : List Cond := .code y_Mo_doubled b_Mo_doubled 8 (some .long) :: gw
theorem d_Mo_doubled_0 : decode b_Mo_doubled 0 = .ok (.lload_n 0, 1) := by decide +kernel
theorem d_Mo_doubled_1 : decode b_Mo_doubled 1 = .ok (.lstore 5, 2) := by decide +kernel
theorem d_Mo_doubled_3 : decode b_Mo_doubled 3 = .ok (.iconst 0, 1) := by decide +kernel
theorem d_Mo_doubled_4 : decode b_Mo_doubled 4 = .ok (.istore 7, 2) := by decide +kernel
theorem d_Mo_doubled_6 : decode b_Mo_doubled 6 = .ok (.iload 7, 2) := by decide +kernel
theorem d_Mo_doubled_8 : decode b_Mo_doubled 8 = .ok (.iload_n 2, 1) := by decide +kernel
theorem d_Mo_doubled_9 : decode b_Mo_doubled 9 = .ok (.if_icmp .ge 39, 3) := by decide +kernel
theorem d_Mo_doubled_12 : decode b_Mo_doubled 12 = .ok (.ldc2_w 50, 3) := by decide +kernel
theorem d_Mo_doubled_15 : decode b_Mo_doubled 15 = .ok (.lload 5, 2) := by decide +kernel
theorem d_Mo_doubled_17 : decode b_Mo_doubled 17 = .ok (.lmul, 1) := by decide +kernel
theorem d_Mo_doubled_18 : decode b_Mo_doubled 18 = .ok (.lload_n 3, 1) := by decide +kernel
theorem d_Mo_doubled_19 : decode b_Mo_doubled 19 = .ok (.lcmp, 1) := by decide +kernel
theorem d_Mo_doubled_20 : decode b_Mo_doubled 20 = .ok (.ifCond .lt 14, 3) := by decide +kernel
theorem d_Mo_doubled_23 : decode b_Mo_doubled 23 = .ok (.ldc2_w 50, 3) := by decide +kernel
theorem d_Mo_doubled_26 : decode b_Mo_doubled 26 = .ok (.lload 5, 2) := by decide +kernel
theorem d_Mo_doubled_28 : decode b_Mo_doubled 28 = .ok (.lmul, 1) := by decide +kernel
theorem d_Mo_doubled_29 : decode b_Mo_doubled 29 = .ok (.lload_n 3, 1) := by decide +kernel
theorem d_Mo_doubled_30 : decode b_Mo_doubled 30 = .ok (.lsub, 1) := by decide +kernel
theorem d_Mo_doubled_31 : decode b_Mo_doubled 31 = .ok (.goto 9, 3) := by decide +kernel
theorem d_Mo_doubled_34 : decode b_Mo_doubled 34 = .ok (.ldc2_w 50, 3) := by decide +kernel
theorem d_Mo_doubled_37 : decode b_Mo_doubled 37 = .ok (.lload 5, 2) := by decide +kernel
theorem d_Mo_doubled_39 : decode b_Mo_doubled 39 = .ok (.lmul, 1) := by decide +kernel
theorem d_Mo_doubled_40 : decode b_Mo_doubled 40 = .ok (.lstore 5, 2) := by decide +kernel
theorem d_Mo_doubled_42 : decode b_Mo_doubled 42 = .ok (.iinc 7 1, 3) := by decide +kernel
theorem d_Mo_doubled_45 : decode b_Mo_doubled 45 = .ok (.goto (-39), 3) := by decide +kernel
theorem d_Mo_doubled_48 : decode b_Mo_doubled 48 = .ok (.lload 5, 2) := by decide +kernel
theorem d_Mo_doubled_50 : decode b_Mo_doubled 50 = .ok (.lreturn, 1) := by decide +kernel
set_option maxHeartbeats 4000000 in
set_option maxRecDepth 100000 in
theorem c_Mo_doubled (l : Launch) (H0 : Heap) (X T N : Nat) (hX : X < N) (hT : T < 2 ^ 31) (hN : N < 2 ^ 62) : Met l y_Mo_doubled w_Mo_doubled ({ frames := 0, cells := 0, slots := 0, locals := 0 }) (va_Pc [.long (lN X), .int (nI T), .long (lN N)] (fun U => U.heap = H0)) (va_Ql (fun (r : Int64) (_ : Unit) => r = lN (X * 2 ^ T % N)) (fun _ t => t.heap = H0) (fun _ => False)) 0 0 (fun _ => False) := by
  refine Met.ofW (cc := b_Mo_doubled) (maxL := 8) (ret := (some .long)) (by decide) rfl ?_
  intro p e s m args below meth c s₁ Bd hml hv
  obtain ⟨rfl, hH⟩ := hv
  subst hH
  have hx := Bd.exec
  have hb := Bd.bytes
  have hr := Bd.returns
  have hts := atoms_spec (ws := w_Mo_doubled) Bd.pre
  have hown : s.vm.findClass "BallotBoard$Modulus" = some m.cls := findClass_of_methodNamed Bd.named
  have hlocks := Bd.notSynchronized
  have hS : va_S (fun _ => False) s.heap s.heap [] := va_S.rf
  have hl := lv_entry ([.long (lN X), .int (nI T), .long (lN N)]) (n := 8) (Nat.le_of_ble_eq_true rfl)
  rw [lg_entry_eq]
  generalize (lg_sl ([.long (lN X), .int (nI T), .long (lN N)]) ++ List.replicate (8 - (lg_sl ([.long (lN X), .int (nI T), .long (lN N)])).length) Slot.unset).toArray = ls at hl ⊢
  have hl : lv_has ls 8 [(0, .long (lN X)), (2, .int (nI T)), (3, .long (lN N))] := hl
  have loop : ∀ (j i : Nat), i + j = T → ∀ (locs : List Loc), va_S (fun _ => False) s.heap s.heap locs → ∀ (ls : Array Slot), lv_has ls 8 [(0, .long (lN X)), (2, .int (nI T)), (3, .long (lN N)), (5, .long (lN (X * 2 ^ i % N))), (7, .int (nI i))] → W p l e ({ frames := 0, cells := 0, slots := 0, locals := 0 } : Room) s m ([.long (lN X), .int (nI T), .long (lN N)] : List Value).toArray below meth c s.heap locs 0 0 (MQ below (va_Ql (fun (r : Int64) (_ : Unit) => r = lN (X * 2 ^ T % N)) (fun _ t => t.heap = s.heap) (fun _ => False)) ([.long (lN X), .int (nI T), .long (lN N)] : List Value).toArray s 0 0 (fun _ => False)) (F0 m 6 ls []) := by
    intro j
    induction j using Nat.strongRecOn with
    | ind j ih =>
      intro i hij locs hS ls hl
      have hlt : X * 2 ^ i % N < N := Nat.mod_lt _ (by omega)
      refine lv_iload hx hb d_Mo_doubled_6 (lv_at hl 4 rfl) ?_
      refine lv_iload_n hx hb d_Mo_doubled_8 rfl (lv_at hl 1 rfl) ?_
      refine lv_icmp_ge (tgt := 48) hx hb d_Mo_doubled_9 (by decide) (fun c_1 => ?_) (fun c_1 => ?_)
      · -- taken
        have hiT : i = T := by
          have := (ige T (by omega) (by omega) rfl).mp c_1
          omega
        refine lv_lload hx hb d_Mo_doubled_48 (lv_at hl 3 rfl) ?_
        exact W.lret (v := (lN (X * 2 ^ i % N))) hx hb hr (fun t ht hW => ⟨⟨_, (), rfl, (by rw [hiT]), ht⟩, hS.F ht⟩) hS.2.2 d_Mo_doubled_50
      · -- not taken
        have hiT : ¬ T ≤ i := fun h => c_1 ((ige T (by omega) (by omega) rfl).mpr h)
        refine lv_ldc2 (v := 2) hx hb hown (hts _ (List.mem_cons_of_mem _ gk_200)) d_Mo_doubled_12 ?_
        refine lv_lload hx hb d_Mo_doubled_15 (lv_at hl 3 rfl) ?_
        refine lv_lmul hx hb d_Mo_doubled_17 ?_
        rw [show (2 * (lN (X * 2 ^ i % N)) : Int64) = (lN (2 * (X * 2 ^ i % N))) from ld2 _]
        refine lv_lload_n hx hb d_Mo_doubled_18 rfl (lv_at hl 2 rfl) ?_
        refine W.lcmp hx hb d_Mo_doubled_19 ?_
        refine lv_if_lt (tgt := 34) hx hb d_Mo_doubled_20 (by decide) (fun c_2 => ?_) (fun c_2 => ?_)
        · -- taken
          have hc := (ln_cmp_lt (by omega) (by omega)).mp c_2
          refine lv_ldc2 (v := 2) hx hb hown (hts _ (List.mem_cons_of_mem _ gk_200)) d_Mo_doubled_34 ?_
          refine lv_lload hx hb d_Mo_doubled_37 (lv_at hl 3 rfl) ?_
          refine lv_lmul hx hb d_Mo_doubled_39 ?_
          rw [show (2 * lN (X * 2 ^ i % N) : Int64) = lN (X * 2 ^ (i + 1) % N) from dbl_lt hc]
          refine lv_lstore (lv' := [(5, .long (lN (X * 2 ^ (i + 1) % N))), (0, .long (lN X)), (2, .int (nI T)), (3, .long (lN N)), (7, .int (nI i))]) hx hb d_Mo_doubled_40 hl (by decide) rfl (fun ls hl => ?_)
          obtain ⟨i_3, ei_3⟩ : ∃ y : Int32, y = (nI i) + 1 := ⟨_, rfl⟩
          refine lv_iinc (v := i_3) (lv' := [(7, .int i_3), (5, .long (lN (X * 2 ^ (i + 1) % N))), (0, .long (lN X)), (2, .int (nI T)), (3, .long (lN N))]) hx hb d_Mo_doubled_42 hl (k := 4) rfl (by rw [ei_3]; rfl) (by decide) rfl (fun ls hl => ?_)
          obtain rfl : i_3 = nI (i + 1) := by rw [ei_3]; exact nI_1 i
          refine lv_goto (tgt := 6) hx hb d_Mo_doubled_45 (by decide) ?_
          exact ih (j - 1) (by omega) (i + 1) (by omega) locs hS ls (lv_sub hl [2, 3, 4, 1, 0] rfl)
        · -- not taken
          have hc : N ≤ 2 * (X * 2 ^ i % N) := Nat.le_of_not_lt (fun h => c_2 ((ln_cmp_lt (by omega) (by omega)).mpr h))
          refine lv_ldc2 (v := 2) hx hb hown (hts _ (List.mem_cons_of_mem _ gk_200)) d_Mo_doubled_23 ?_
          refine lv_lload hx hb d_Mo_doubled_26 (lv_at hl 3 rfl) ?_
          refine lv_lmul hx hb d_Mo_doubled_28 ?_
          rw [show (2 * (lN (X * 2 ^ i % N)) : Int64) = (lN (2 * (X * 2 ^ i % N))) from ld2 _]
          refine lv_lload_n hx hb d_Mo_doubled_29 rfl (lv_at hl 2 rfl) ?_
          refine lv_lsub hx hb d_Mo_doubled_30 ?_
          rw [show ((lN (2 * (X * 2 ^ i % N))) - (lN N) : Int64) = (lN (X * 2 ^ (i + 1) % N)) from dbl_ge hlt hc]
          refine lv_goto (tgt := 40) hx hb d_Mo_doubled_31 (by decide) ?_
          refine lv_lstore (lv' := [(5, .long (lN (X * 2 ^ (i + 1) % N))), (0, .long (lN X)), (2, .int (nI T)), (3, .long (lN N)), (7, .int (nI i))]) hx hb d_Mo_doubled_40 hl (by decide) rfl (fun ls hl => ?_)
          obtain ⟨i_4, ei_4⟩ : ∃ y : Int32, y = (nI i) + 1 := ⟨_, rfl⟩
          refine lv_iinc (v := i_4) (lv' := [(7, .int i_4), (5, .long (lN (X * 2 ^ (i + 1) % N))), (0, .long (lN X)), (2, .int (nI T)), (3, .long (lN N))]) hx hb d_Mo_doubled_42 hl (k := 4) rfl (by rw [ei_4]; rfl) (by decide) rfl (fun ls hl => ?_)
          obtain rfl : i_4 = nI (i + 1) := by rw [ei_4]; exact nI_1 i
          refine lv_goto (tgt := 6) hx hb d_Mo_doubled_45 (by decide) ?_
          exact ih (j - 1) (by omega) (i + 1) (by omega) locs hS ls (lv_sub hl [2, 3, 4, 1, 0] rfl)
  refine lv_lload_n hx hb d_Mo_doubled_0 rfl (lv_at hl 0 rfl) ?_
  refine lv_lstore (lv' := [(5, .long (lN X)), (0, .long (lN X)), (2, .int (nI T)), (3, .long (lN N))]) hx hb d_Mo_doubled_1 hl (by decide) rfl (fun ls hl => ?_)
  refine lv_iconst (v := 0) hx hb d_Mo_doubled_3 (by decide) ?_
  refine lv_istore (lv' := [(7, .int 0), (5, .long (lN X)), (0, .long (lN X)), (2, .int (nI T)), (3, .long (lN N))]) hx hb d_Mo_doubled_4 hl (by decide) rfl (fun ls hl => ?_)
  exact loop T 0 (by omega) [] hS ls (lv_sub hl [2, 3, 4, 1, 0] (by rw [Nat.pow_zero, Nat.mul_one, Nat.mod_eq_of_lt hX]; rfl))
abbrev b_Mo_bitsOf : ByteArray := prog_6_method_14_code
abbrev y_Mo_bitsOf : MethodName := ⟨"BallotBoard$Modulus", "bitsOf", "(J)I"⟩
abbrev w_Mo_bitsOf : List Cond := .code y_Mo_bitsOf b_Mo_bitsOf 3 (some .int) :: gw
theorem d_Mo_bitsOf_0 : decode b_Mo_bitsOf 0 = .ok (.iconst 0, 1) := by decide +kernel
theorem d_Mo_bitsOf_1 : decode b_Mo_bitsOf 1 = .ok (.istore_n 2, 1) := by decide +kernel
theorem d_Mo_bitsOf_2 : decode b_Mo_bitsOf 2 = .ok (.iload_n 2, 1) := by decide +kernel
theorem d_Mo_bitsOf_3 : decode b_Mo_bitsOf 3 = .ok (.bipush 61, 2) := by decide +kernel
theorem d_Mo_bitsOf_5 : decode b_Mo_bitsOf 5 = .ok (.if_icmp .ge 17, 3) := by decide +kernel
theorem d_Mo_bitsOf_8 : decode b_Mo_bitsOf 8 = .ok (.lload_n 0, 1) := by decide +kernel
theorem d_Mo_bitsOf_9 : decode b_Mo_bitsOf 9 = .ok (.iload_n 2, 1) := by decide +kernel
theorem d_Mo_bitsOf_10 : decode b_Mo_bitsOf 10 = .ok (.lushr, 1) := by decide +kernel
theorem d_Mo_bitsOf_11 : decode b_Mo_bitsOf 11 = .ok (.lconst 0, 1) := by decide +kernel
theorem d_Mo_bitsOf_12 : decode b_Mo_bitsOf 12 = .ok (.lcmp, 1) := by decide +kernel
theorem d_Mo_bitsOf_13 : decode b_Mo_bitsOf 13 = .ok (.ifCond .eq 9, 3) := by decide +kernel
theorem d_Mo_bitsOf_16 : decode b_Mo_bitsOf 16 = .ok (.iinc 2 1, 3) := by decide +kernel
theorem d_Mo_bitsOf_19 : decode b_Mo_bitsOf 19 = .ok (.goto (-17), 3) := by decide +kernel
theorem d_Mo_bitsOf_22 : decode b_Mo_bitsOf 22 = .ok (.iload_n 2, 1) := by decide +kernel
theorem d_Mo_bitsOf_23 : decode b_Mo_bitsOf 23 = .ok (.ireturn, 1) := by decide +kernel
set_option maxHeartbeats 4000000 in
set_option maxRecDepth 100000 in
theorem c_Mo_bitsOf (l : Launch) (H0 : Heap) (N : Nat) (hN : N < 2 ^ 61) : Met l y_Mo_bitsOf w_Mo_bitsOf ({ frames := 0, cells := 0, slots := 0, locals := 0 }) (va_Pc [.long (lN N)] (fun U => U.heap = H0)) (va_Qi (fun (r : Int32) (_ : Unit) => ∃ k, r = nI k ∧ k ≤ 61 ∧ N < 2 ^ k) (fun _ t => t.heap = H0) (fun _ => False)) 0 0 (fun _ => False) := by
  refine Met.ofW (cc := b_Mo_bitsOf) (maxL := 3) (ret := (some .int)) (by decide) rfl ?_
  intro p e s m args below meth c s₁ Bd hml hv
  obtain ⟨rfl, hH⟩ := hv
  subst hH
  have hx := Bd.exec
  have hb := Bd.bytes
  have hr := Bd.returns
  have hts := atoms_spec (ws := w_Mo_bitsOf) Bd.pre
  have hown : s.vm.findClass "BallotBoard$Modulus" = some m.cls := findClass_of_methodNamed Bd.named
  have hlocks := Bd.notSynchronized
  have hS : va_S (fun _ => False) s.heap s.heap [] := va_S.rf
  have hl := lv_entry ([.long (lN N)]) (n := 3) (Nat.le_of_ble_eq_true rfl)
  rw [lg_entry_eq]
  generalize (lg_sl ([.long (lN N)]) ++ List.replicate (3 - (lg_sl ([.long (lN N)])).length) Slot.unset).toArray = ls at hl ⊢
  have hl : lv_has ls 3 [(0, .long (lN N))] := hl
  have loop : ∀ (j i : Nat), i + j = 61 → ∀ (locs : List Loc), va_S (fun _ => False) s.heap s.heap locs → ∀ (ls : Array Slot), lv_has ls 3 [(0, .long (lN N)), (2, .int (nI i))] → W p l e ({ frames := 0, cells := 0, slots := 0, locals := 0 } : Room) s m ([.long (lN N)] : List Value).toArray below meth c s.heap locs 0 0 (MQ below (va_Qi (fun (r : Int32) (_ : Unit) => ∃ k, r = nI k ∧ k ≤ 61 ∧ N < 2 ^ k) (fun _ t => t.heap = s.heap) (fun _ => False)) ([.long (lN N)] : List Value).toArray s 0 0 (fun _ => False)) (F0 m 2 ls []) := by
    intro j
    induction j using Nat.strongRecOn with
    | ind j ih =>
      intro i hij locs hS ls hl
      refine lv_iload_n hx hb d_Mo_bitsOf_2 rfl (lv_at hl 1 rfl) ?_
      refine lv_bipush (v := 61) hx hb d_Mo_bitsOf_3 (by decide) ?_
      refine lv_icmp_ge (tgt := 22) hx hb d_Mo_bitsOf_5 (by decide) (fun c_1 => ?_) (fun c_1 => ?_)
      · -- taken
        have hres : N < 2 ^ i := by
          have := (ige 61 (by omega) (by omega) rfl).mp c_1
          have e : i = 61 := by omega
          rw [e]
          exact hN
        refine lv_iload_n hx hb d_Mo_bitsOf_22 rfl (lv_at hl 1 rfl) ?_
        exact W.iret (v := (nI i)) hx hb hr (fun t ht hW => ⟨⟨_, (), rfl, ⟨i, rfl, by omega, hres⟩, ht⟩, hS.F ht⟩) hS.2.2 d_Mo_bitsOf_23
      · -- not taken
        have hi : ¬ 61 ≤ i := fun h => c_1 ((ige 61 (by omega) (by omega) rfl).mpr h)
        refine lv_lload_n hx hb d_Mo_bitsOf_8 rfl (lv_at hl 0 rfl) ?_
        refine lv_iload_n hx hb d_Mo_bitsOf_9 rfl (lv_at hl 1 rfl) ?_
        refine lv_lushr (v := ((lN N).toUInt64 >>> ((nI i : Int32).toInt64.toUInt64 &&& Int64.toUInt64 63)).toInt64) hx hb d_Mo_bitsOf_10 rfl ?_
        rw [show (((lN N).toUInt64 >>> ((nI i : Int32).toInt64.toUInt64 &&& Int64.toUInt64 63)).toInt64 : Int64) = (lN (N / 2 ^ i)) from wb_shr (by omega) (by omega)]
        refine lv_lconst (v := 0) hx hb d_Mo_bitsOf_11 (by decide) ?_
        refine W.lcmp hx hb d_Mo_bitsOf_12 ?_
        refine lv_if_eq (tgt := 22) hx hb d_Mo_bitsOf_13 (by decide) (fun c_2 => ?_) (fun c_2 => ?_)
        · -- taken
          have hres : N < 2 ^ i := by
            have h0 := (cmpe (Nat.lt_of_le_of_lt (Nat.div_le_self _ _) (by omega)) 0 (by omega) rfl).mp c_2
            have := Nat.div_add_mod N (2 ^ i)
            have := Nat.mod_lt N (Nat.two_pow_pos i)
            rw [h0] at *
            omega
          refine lv_iload_n hx hb d_Mo_bitsOf_22 rfl (lv_at hl 1 rfl) ?_
          exact W.iret (v := (nI i)) hx hb hr (fun t ht hW => ⟨⟨_, (), rfl, ⟨i, rfl, by omega, hres⟩, ht⟩, hS.F ht⟩) hS.2.2 d_Mo_bitsOf_23
        · -- not taken
          obtain ⟨i_3, ei_3⟩ : ∃ y : Int32, y = (nI i) + 1 := ⟨_, rfl⟩
          refine lv_iinc (v := i_3) (lv' := [(2, .int i_3), (0, .long (lN N))]) hx hb d_Mo_bitsOf_16 hl (k := 1) rfl (by rw [ei_3]; rfl) (by decide) rfl (fun ls hl => ?_)
          obtain rfl : i_3 = nI (i + 1) := by rw [ei_3]; exact nI_1 i
          refine lv_goto (tgt := 2) hx hb d_Mo_bitsOf_19 (by decide) ?_
          exact ih (j - 1) (by omega) (i + 1) (by omega) locs hS ls (lv_sub hl [1, 0] rfl)
  refine lv_iconst (v := 0) hx hb d_Mo_bitsOf_0 (by decide) ?_
  refine lv_istore_n (lv' := [(2, .int 0), (0, .long (lN N))]) hx hb d_Mo_bitsOf_1 rfl hl (by decide) rfl (fun ls hl => ?_)
  exact loop 61 0 (by omega) [] hS ls (lv_sub hl [1, 0] rfl)
