/-! the reference's rows -/
def w8 (f : Nat → Int64) (o : Nat) (x0 x1 x2 x3 x4 x5 x6 x7 : Int64) : Nat → Int64 := vp_updL (vp_updL (vp_updL (vp_updL (vp_updL (vp_updL (vp_updL (vp_updL f o x0) (o + 1) x1) (o + 2) x2) (o + 3) x3) (o + 4) x4) (o + 5) x5) (o + 6) x6) (o + 7) x7
theorem w8_in (f : Nat → Int64) (o : Nat) (x0 x1 x2 x3 x4 x5 x6 x7 : Int64) (i : Nat) (hi : i < 8) : w8 f o x0 x1 x2 x3 x4 x5 x6 x7 (o + i) = r8 x0 x1 x2 x3 x4 x5 x6 x7 i := by
  unfold w8 vp_updL
  match i, hi with
  | 0, _ => rw [if_neg (by omega), if_neg (by omega), if_neg (by omega), if_neg (by omega), if_neg (by omega), if_neg (by omega), if_neg (by omega), if_pos (by omega)]; rfl
  | 1, _ => rw [if_neg (by omega), if_neg (by omega), if_neg (by omega), if_neg (by omega), if_neg (by omega), if_neg (by omega), if_pos (by omega)]; rfl
  | 2, _ => rw [if_neg (by omega), if_neg (by omega), if_neg (by omega), if_neg (by omega), if_neg (by omega), if_pos (by omega)]; rfl
  | 3, _ => rw [if_neg (by omega), if_neg (by omega), if_neg (by omega), if_neg (by omega), if_pos (by omega)]; rfl
  | 4, _ => rw [if_neg (by omega), if_neg (by omega), if_neg (by omega), if_pos (by omega)]; rfl
  | 5, _ => rw [if_neg (by omega), if_neg (by omega), if_pos (by omega)]; rfl
  | 6, _ => rw [if_neg (by omega), if_pos (by omega)]; rfl
  | 7, _ => rw [if_pos (by omega)]; rfl
  | i + 8, hi => exact absurd hi (by omega)
theorem w8_out (f : Nat → Int64) (o : Nat) (x0 x1 x2 x3 x4 x5 x6 x7 : Int64) (j : Nat) (hj : j < o ∨ o + 8 ≤ j) : w8 f o x0 x1 x2 x3 x4 x5 x6 x7 j = f j := by
  unfold w8 vp_updL
  rw [if_neg (by omega), if_neg (by omega), if_neg (by omega), if_neg (by omega), if_neg (by omega), if_neg (by omega), if_neg (by omega), if_neg (by omega)]
def c4 (f : Nat → Int64) (o : Nat) (g : Nat → Int64) : Nat → Int64 := vp_updL (vp_updL (vp_updL (vp_updL f (o + 0) (g 0)) (o + 1) (g 1)) (o + 2) (g 2)) (o + 3) (g 3)
theorem c4_in (f : Nat → Int64) (o : Nat) (g : Nat → Int64) (i : Nat) (hi : i < 4) : c4 f o g (o + i) = g i := by
  unfold c4 vp_updL
  match i, hi with
  | 0, _ => rw [if_neg (by omega), if_neg (by omega), if_neg (by omega), if_pos (by omega)]
  | 1, _ => rw [if_neg (by omega), if_neg (by omega), if_pos (by omega)]
  | 2, _ => rw [if_neg (by omega), if_pos (by omega)]
  | 3, _ => rw [if_pos (by omega)]
  | i + 4, hi => exact absurd hi (by omega)
theorem c4_out (f : Nat → Int64) (o : Nat) (g : Nat → Int64) (j : Nat) (hj : j < o ∨ o + 4 ≤ j) : c4 f o g j = f j := by
  unfold c4 vp_updL
  rw [if_neg (by omega), if_neg (by omega), if_neg (by omega), if_neg (by omega)]
abbrev b_Bm_fails : ByteArray := prog_10_method_4_code
abbrev y_Bm_fails : MethodName := ⟨"BallotBoardModel", "fails", "(ZI)Z"⟩
abbrev w_Bm_fails : List Cond := .code y_Bm_fails b_Bm_fails 3 (some .boolean) :: gw
theorem d_Bm_fails_0 : decode b_Bm_fails 0 = .ok (.iload_n 1, 1) := by decide +kernel
theorem d_Bm_fails_1 : decode b_Bm_fails 1 = .ok (.ifCond .eq 15, 3) := by decide +kernel
theorem d_Bm_fails_4 : decode b_Bm_fails 4 = .ok (.aload_n 0, 1) := by decide +kernel
theorem d_Bm_fails_5 : decode b_Bm_fails 5 = .ok (.getfield 131, 3) := by decide +kernel
theorem d_Bm_fails_8 : decode b_Bm_fails 8 = .ok (.ifCond .ne 8, 3) := by decide +kernel
theorem d_Bm_fails_11 : decode b_Bm_fails 11 = .ok (.aload_n 0, 1) := by decide +kernel
theorem d_Bm_fails_12 : decode b_Bm_fails 12 = .ok (.iload_n 2, 1) := by decide +kernel
theorem d_Bm_fails_13 : decode b_Bm_fails 13 = .ok (.putfield 131, 3) := by decide +kernel
theorem d_Bm_fails_16 : decode b_Bm_fails 16 = .ok (.aload_n 0, 1) := by decide +kernel
theorem d_Bm_fails_17 : decode b_Bm_fails 17 = .ok (.getfield 131, 3) := by decide +kernel
theorem d_Bm_fails_20 : decode b_Bm_fails 20 = .ok (.ifCond .eq 7, 3) := by decide +kernel
theorem d_Bm_fails_23 : decode b_Bm_fails 23 = .ok (.iconst 1, 1) := by decide +kernel
theorem d_Bm_fails_24 : decode b_Bm_fails 24 = .ok (.goto 4, 3) := by decide +kernel
theorem d_Bm_fails_27 : decode b_Bm_fails 27 = .ok (.iconst 0, 1) := by decide +kernel
theorem d_Bm_fails_28 : decode b_Bm_fails 28 = .ok (.ireturn, 1) := by decide +kernel
set_option maxHeartbeats 8000000 in
set_option maxRecDepth 100000 in
theorem c_Bm_fails_1 (l : Launch) (dC : Nat → ClassId) (dI : Nat → Nat → Nat) (cJ cI : ClassId) (sz : Nat) (m0 : Nat) (z1 z2 z3 : Int32) (z4 z5 z6 z7 z8 z9 : Int64) (z10 : Int32) (a0 a1 a2 a3 a4 a5 a6 a7 a8 a9 b0 b1 oc b2 b3 b4 b5 : Nat) (x2 : Int32) (hx2 : ¬ x2 = 0) : Met l y_Bm_fails w_Bm_fails ({ frames := 0, cells := 0, slots := 0, locals := 0 }) (va_Pc [.ref m0, .int 1, .int x2] (fun U => U.heap.size = sz ∧ va_P (dC, dI) classes (mo_ws m0 0 z1 z2 z3 z4 z5 z6 z7 z8 z9 z10 a0 a1 a2 a3 a4 a5 a6 a7 a8 a9 b0 b1 oc b2 b3 b4 b5) U.heap ∧ va_K (dC, dI) classes [(cJ, .long), (cI, .int)] U ∧ va_D (fun _ => True) (mo_ws m0 0 z1 z2 z3 z4 z5 z6 z7 z8 z9 z10 a0 a1 a2 a3 a4 a5 a6 a7 a8 a9 b0 b1 oc b2 b3 b4 b5))) (va_Qi (fun (r : Int32) (_ : Unit) => r = 1) (fun _ t => va_P (dC, dI) classes (mo_ws m0 x2 z1 z2 z3 z4 z5 z6 z7 z8 z9 z10 a0 a1 a2 a3 a4 a5 a6 a7 a8 a9 b0 b1 oc b2 b3 b4 b5) t.heap ∧ va_K (dC, dI) classes [(cJ, .long), (cI, .int)] t ∧ va_D (va_A (mo_ws m0 0 z1 z2 z3 z4 z5 z6 z7 z8 z9 z10 a0 a1 a2 a3 a4 a5 a6 a7 a8 a9 b0 b1 oc b2 b3 b4 b5) sz) (mo_ws m0 x2 z1 z2 z3 z4 z5 z6 z7 z8 z9 z10 a0 a1 a2 a3 a4 a5 a6 a7 a8 a9 b0 b1 oc b2 b3 b4 b5)) (va_A (mo_ws m0 0 z1 z2 z3 z4 z5 z6 z7 z8 z9 z10 a0 a1 a2 a3 a4 a5 a6 a7 a8 a9 b0 b1 oc b2 b3 b4 b5) sz)) 0 0 (va_A (mo_ws m0 0 z1 z2 z3 z4 z5 z6 z7 z8 z9 z10 a0 a1 a2 a3 a4 a5 a6 a7 a8 a9 b0 b1 oc b2 b3 b4 b5) sz) := by
  refine Met.ofW (cc := b_Bm_fails) (maxL := 3) (ret := (some .boolean)) (by decide) rfl ?_
  intro p e s m args below meth c s₁ Bd hml hv
  obtain ⟨rfl, hsz, hP, hK, hD0⟩ := hv
  have hx := Bd.exec
  have hb := Bd.bytes
  have hr := Bd.returns
  have hts := atoms_spec (ws := w_Bm_fails) Bd.pre
  have hown : s.vm.findClass "BallotBoardModel" = some m.cls := findClass_of_methodNamed Bd.named
  have hlocks := Bd.notSynchronized
  subst hsz
  have hD := hD0.self (sz := s.heap.size)
  generalize hAe : va_A (mo_ws m0 0 z1 z2 z3 z4 z5 z6 z7 z8 z9 z10 a0 a1 a2 a3 a4 a5 a6 a7 a8 a9 b0 b1 oc b2 b3 b4 b5) s.heap.size = A at hD ⊢
  have hA : ∀ q : Nat, s.heap.size ≤ q → A q := fun q h => by rw [← hAe]; exact Or.inr h
  have hS : va_S A s.heap s.heap [] := va_S.rf
  have hl := lv_entry ([.ref m0, .int 1, .int x2]) (n := 3) (Nat.le_of_ble_eq_true rfl)
  rw [lg_entry_eq]
  generalize (lg_sl ([.ref m0, .int 1, .int x2]) ++ List.replicate (3 - (lg_sl ([.ref m0, .int 1, .int x2])).length) Slot.unset).toArray = ls at hl ⊢
  have hl : lv_has ls 3 [(0, .ref m0), (1, .int 1), (2, .int x2)] := hl
  refine lv_iload_n hx hb d_Bm_fails_0 rfl (lv_at hl 1 rfl) ?_
  refine lv_if_eq (tgt := 16) hx hb d_Bm_fails_1 (by decide) (fun c_1 => ?_) (fun c_1 => ?_)
  · -- taken
    exact absurd c_1 (by decide)
  · -- not taken
    refine lv_aload_n hx hb d_Bm_fails_4 rfl (lv_at hl 0 rfl) ?_
    refine va_get (D := (dC, dI)) (ci := 8) (v := .int 0) (C := "BallotBoardModel") (T := F_Bm) (N := 28) hx hb hts (fun w9 h9 => List.mem_cons_of_mem _ (i_Bm w9 h9)) hown hK hP 0 rfl rfl 0 (by decide) (hts _ (List.mem_cons_of_mem _ gk_919)) (fun _ h9 => h9) rfl d_Bm_fails_5 ?_
    refine lv_if_ne (tgt := 16) hx hb d_Bm_fails_8 (by decide) (fun c_2 => ?_) (fun c_2 => ?_)
    · -- taken
      exact absurd rfl c_2
    · -- not taken
      refine lv_aload_n hx hb d_Bm_fails_11 rfl (lv_at hl 0 rfl) ?_
      refine lv_iload_n hx hb d_Bm_fails_12 rfl (lv_at hl 2 rfl) ?_
      refine va_put (D := (dC, dI)) (ci := 8) (v := .int x2) (ty := .int) (C := "BallotBoardModel") (T := F_Bm) (N := 28) hx hb hts (fun w9 h9 => List.mem_cons_of_mem _ (i_Bm w9 h9)) t_Bm t_Bm_ok n_Bm hown hK hP hD hS 0 rfl rfl 0 (by decide) (hts _ (List.mem_cons_of_mem _ gk_919)) (fun _ h9 => h9) rfl (by decide +kernel) rfl rfl (Nat.le_of_ble_eq_true rfl) d_Bm_fails_13 (fun H locs hP hD hS => ?_)
      have hP : va_P (dC, dI) classes [(m0, .inr (8, [.int x2, .int z1, .int z2, .int z3, .long z4, .long z5, .long z6, .long z7, .long z8, .long z9, .int z10, .ref a0, .ref a1, .ref a2, .ref a3, .ref a4, .ref a5, .ref a6, .ref a7, .ref a8, .ref a9, .ref b0, .ref b1, .int (nI oc), .ref b2, .ref b3, .ref b4, .ref b5]))] H := hP
      have hD : va_D A [(m0, .inr (8, [.int x2, .int z1, .int z2, .int z3, .long z4, .long z5, .long z6, .long z7, .long z8, .long z9, .int z10, .ref a0, .ref a1, .ref a2, .ref a3, .ref a4, .ref a5, .ref a6, .ref a7, .ref a8, .ref a9, .ref b0, .ref b1, .int (nI oc), .ref b2, .ref b3, .ref b4, .ref b5]))] := hD
      refine lv_aload_n hx hb d_Bm_fails_16 rfl (lv_at hl 0 rfl) ?_
      refine va_get (D := (dC, dI)) (ci := 8) (v := .int x2) (C := "BallotBoardModel") (T := F_Bm) (N := 28) hx hb hts (fun w9 h9 => List.mem_cons_of_mem _ (i_Bm w9 h9)) hown hK hP 0 rfl rfl 0 (by decide) (hts _ (List.mem_cons_of_mem _ gk_919)) (fun _ h9 => h9) rfl d_Bm_fails_17 ?_
      refine lv_if_eq (tgt := 27) hx hb d_Bm_fails_20 (by decide) (fun c_3 => ?_) (fun c_3 => ?_)
      · -- taken
        exact absurd c_3 hx2
      · -- not taken
        refine lv_iconst (v := 1) hx hb d_Bm_fails_23 (by decide) ?_
        refine lv_goto (tgt := 28) hx hb d_Bm_fails_24 (by decide) ?_
        exact W.zret (v := 1) hx hb hr (by decide) (fun t ht9 hW => ⟨⟨_, (), rfl, rfl, by rw [ht9]; exact hP, va_K.moved hW.alike hK, hD⟩, hS.F ht9⟩) hS.2.2 d_Bm_fails_28
set_option maxHeartbeats 8000000 in
set_option maxRecDepth 100000 in
theorem c_Bm_fails_0 (l : Launch) (dC : Nat → ClassId) (dI : Nat → Nat → Nat) (cJ cI : ClassId) (sz : Nat) (m0 : Nat) (z1 z2 z3 : Int32) (z4 z5 z6 z7 z8 z9 : Int64) (z10 : Int32) (a0 a1 a2 a3 a4 a5 a6 a7 a8 a9 b0 b1 oc b2 b3 b4 b5 : Nat) (x2 : Int32)  : Met l y_Bm_fails w_Bm_fails ({ frames := 0, cells := 0, slots := 0, locals := 0 }) (va_Pc [.ref m0, .int 0, .int x2] (fun U => U.heap.size = sz ∧ va_P (dC, dI) classes (mo_ws m0 0 z1 z2 z3 z4 z5 z6 z7 z8 z9 z10 a0 a1 a2 a3 a4 a5 a6 a7 a8 a9 b0 b1 oc b2 b3 b4 b5) U.heap ∧ va_K (dC, dI) classes [(cJ, .long), (cI, .int)] U ∧ va_D (fun _ => True) (mo_ws m0 0 z1 z2 z3 z4 z5 z6 z7 z8 z9 z10 a0 a1 a2 a3 a4 a5 a6 a7 a8 a9 b0 b1 oc b2 b3 b4 b5))) (va_Qi (fun (r : Int32) (_ : Unit) => r = 0) (fun _ t => va_P (dC, dI) classes (mo_ws m0 0 z1 z2 z3 z4 z5 z6 z7 z8 z9 z10 a0 a1 a2 a3 a4 a5 a6 a7 a8 a9 b0 b1 oc b2 b3 b4 b5) t.heap ∧ va_K (dC, dI) classes [(cJ, .long), (cI, .int)] t ∧ va_D (va_A (mo_ws m0 0 z1 z2 z3 z4 z5 z6 z7 z8 z9 z10 a0 a1 a2 a3 a4 a5 a6 a7 a8 a9 b0 b1 oc b2 b3 b4 b5) sz) (mo_ws m0 0 z1 z2 z3 z4 z5 z6 z7 z8 z9 z10 a0 a1 a2 a3 a4 a5 a6 a7 a8 a9 b0 b1 oc b2 b3 b4 b5)) (va_A (mo_ws m0 0 z1 z2 z3 z4 z5 z6 z7 z8 z9 z10 a0 a1 a2 a3 a4 a5 a6 a7 a8 a9 b0 b1 oc b2 b3 b4 b5) sz)) 0 0 (va_A (mo_ws m0 0 z1 z2 z3 z4 z5 z6 z7 z8 z9 z10 a0 a1 a2 a3 a4 a5 a6 a7 a8 a9 b0 b1 oc b2 b3 b4 b5) sz) := by
  refine Met.ofW (cc := b_Bm_fails) (maxL := 3) (ret := (some .boolean)) (by decide) rfl ?_
  intro p e s m args below meth c s₁ Bd hml hv
  obtain ⟨rfl, hsz, hP, hK, hD0⟩ := hv
  have hx := Bd.exec
  have hb := Bd.bytes
  have hr := Bd.returns
  have hts := atoms_spec (ws := w_Bm_fails) Bd.pre
  have hown : s.vm.findClass "BallotBoardModel" = some m.cls := findClass_of_methodNamed Bd.named
  have hlocks := Bd.notSynchronized
  subst hsz
  have hD := hD0.self (sz := s.heap.size)
  generalize hAe : va_A (mo_ws m0 0 z1 z2 z3 z4 z5 z6 z7 z8 z9 z10 a0 a1 a2 a3 a4 a5 a6 a7 a8 a9 b0 b1 oc b2 b3 b4 b5) s.heap.size = A at hD ⊢
  have hA : ∀ q : Nat, s.heap.size ≤ q → A q := fun q h => by rw [← hAe]; exact Or.inr h
  have hS : va_S A s.heap s.heap [] := va_S.rf
  have hl := lv_entry ([.ref m0, .int 0, .int x2]) (n := 3) (Nat.le_of_ble_eq_true rfl)
  rw [lg_entry_eq]
  generalize (lg_sl ([.ref m0, .int 0, .int x2]) ++ List.replicate (3 - (lg_sl ([.ref m0, .int 0, .int x2])).length) Slot.unset).toArray = ls at hl ⊢
  have hl : lv_has ls 3 [(0, .ref m0), (1, .int 0), (2, .int x2)] := hl
  refine lv_iload_n hx hb d_Bm_fails_0 rfl (lv_at hl 1 rfl) ?_
  refine lv_if_eq (tgt := 16) hx hb d_Bm_fails_1 (by decide) (fun c_1 => ?_) (fun c_1 => ?_)
  · -- taken
    refine lv_aload_n hx hb d_Bm_fails_16 rfl (lv_at hl 0 rfl) ?_
    refine va_get (D := (dC, dI)) (ci := 8) (v := .int 0) (C := "BallotBoardModel") (T := F_Bm) (N := 28) hx hb hts (fun w9 h9 => List.mem_cons_of_mem _ (i_Bm w9 h9)) hown hK hP 0 rfl rfl 0 (by decide) (hts _ (List.mem_cons_of_mem _ gk_919)) (fun _ h9 => h9) rfl d_Bm_fails_17 ?_
    refine lv_if_eq (tgt := 27) hx hb d_Bm_fails_20 (by decide) (fun c_2 => ?_) (fun c_2 => ?_)
    · -- taken
      refine lv_iconst (v := 0) hx hb d_Bm_fails_27 (by decide) ?_
      exact W.zret (v := 0) hx hb hr (by decide) (fun t ht9 hW => ⟨⟨_, (), rfl, rfl, by rw [ht9]; exact hP, va_K.moved hW.alike hK, hD⟩, hS.F ht9⟩) hS.2.2 d_Bm_fails_28
    · -- not taken
      exact absurd rfl c_2
  · -- not taken
    exact absurd rfl c_1
abbrev b_Bm_at : ByteArray := prog_10_method_24_code
abbrev y_Bm_at : MethodName := ⟨"BallotBoardModel", "at", "(II)J"⟩
abbrev w_Bm_at : List Cond := .code y_Bm_at b_Bm_at 3 (some .long) :: gw
theorem d_Bm_at_0 : decode b_Bm_at 0 = .ok (.aload_n 0, 1) := by decide +kernel
theorem d_Bm_at_1 : decode b_Bm_at 1 = .ok (.getfield 9, 3) := by decide +kernel
theorem d_Bm_at_4 : decode b_Bm_at 4 = .ok (.bipush 8, 2) := by decide +kernel
theorem d_Bm_at_6 : decode b_Bm_at 6 = .ok (.iload_n 1, 1) := by decide +kernel
theorem d_Bm_at_7 : decode b_Bm_at 7 = .ok (.imul, 1) := by decide +kernel
theorem d_Bm_at_8 : decode b_Bm_at 8 = .ok (.iload_n 2, 1) := by decide +kernel
theorem d_Bm_at_9 : decode b_Bm_at 9 = .ok (.iadd, 1) := by decide +kernel
theorem d_Bm_at_10 : decode b_Bm_at 10 = .ok (.laload, 1) := by decide +kernel
theorem d_Bm_at_11 : decode b_Bm_at 11 = .ok (.lreturn, 1) := by decide +kernel
set_option maxHeartbeats 8000000 in
set_option maxRecDepth 100000 in
theorem c_Bm_at (l : Launch) (H0 : Heap) (dC : Nat → ClassId) (dI : Nat → Nat → Nat) (cJ cI : ClassId) (m0 : Nat) (z0 z1 z2 z3 : Int32) (z4 z5 z6 z7 z8 z9 : Int64) (z10 : Int32) (a0 a1 a2 a3 a4 a5 a6 a7 a8 a9 b0 b1 oc b2 b3 b4 b5 : Nat) (nf : Nat → Int64) (k n : Nat) (hP : va_P (dC, dI) classes (mo_ws m0 z0 z1 z2 z3 z4 z5 z6 z7 z8 z9 z10 a0 a1 a2 a3 a4 a5 a6 a7 a8 a9 b0 b1 oc b2 b3 b4 b5 ++ (jw_ws a0 cJ 1232 nf)) H0) (hkn : 8 * k + n < 1232) : Met l y_Bm_at w_Bm_at ({ frames := 0, cells := 0, slots := 0, locals := 0 }) (va_Pc [.ref m0, .int (nI k), .int (nI n)] (fun U => U.heap = H0 ∧ va_K (dC, dI) classes [(cJ, .long), (cI, .int)] U)) (va_Ql (fun (r : Int64) (_ : Unit) => r = nf (8 * k + n)) (fun _ t => t.heap = H0) (fun _ => False)) 0 0 (fun _ => False) := by
  refine Met.ofW (cc := b_Bm_at) (maxL := 3) (ret := (some .long)) (by decide) rfl ?_
  intro p e s m args below meth c s₁ Bd hml hv
  obtain ⟨rfl, hH, hK⟩ := hv
  subst hH
  have hx := Bd.exec
  have hb := Bd.bytes
  have hr := Bd.returns
  have hts := atoms_spec (ws := w_Bm_at) Bd.pre
  have hown : s.vm.findClass "BallotBoardModel" = some m.cls := findClass_of_methodNamed Bd.named
  have hlocks := Bd.notSynchronized
  have hS : va_S (fun _ => False) s.heap s.heap [] := va_S.rf
  have hl := lv_entry ([.ref m0, .int (nI k), .int (nI n)]) (n := 3) (Nat.le_of_ble_eq_true rfl)
  rw [lg_entry_eq]
  generalize (lg_sl ([.ref m0, .int (nI k), .int (nI n)]) ++ List.replicate (3 - (lg_sl ([.ref m0, .int (nI k), .int (nI n)])).length) Slot.unset).toArray = ls at hl ⊢
  have hl : lv_has ls 3 [(0, .ref m0), (1, .int (nI k)), (2, .int (nI n))] := hl
  refine lv_aload_n hx hb d_Bm_at_0 rfl (lv_at hl 0 rfl) ?_
  refine va_get (D := (dC, dI)) (ci := 8) (v := .ref a0) (C := "BallotBoardModel") (T := F_Bm) (N := 28) hx hb hts (fun w9 h9 => List.mem_cons_of_mem _ (i_Bm w9 h9)) hown hK hP 0 rfl rfl 11 (by decide) (hts _ (List.mem_cons_of_mem _ gk_930)) (fun _ h9 => h9) rfl d_Bm_at_1 ?_
  refine lv_bipush (v := 8) hx hb d_Bm_at_4 (by decide) ?_
  refine lv_iload_n hx hb d_Bm_at_6 rfl (lv_at hl 1 rfl) ?_
  refine lv_imul hx hb d_Bm_at_7 ?_
  rw [show (8 * (nI k) : Int32) = (nI (8 * k)) from pk_mul 8 k]
  refine lv_iload_n hx hb d_Bm_at_8 rfl (lv_at hl 2 rfl) ?_
  refine lv_iadd hx hb d_Bm_at_9 ?_
  rw [show ((nI (8 * k)) + (nI n) : Int32) = (nI (8 * k + n)) from nI_add _ n]
  refine va_lald hx hb hK hP 1 0 rfl rfl (vp_in_nI (by omega) (by omega)) d_Bm_at_10 ?_
  rw [show (nf (nI (8 * k + n) : Int32).toNatClampNeg : Int64) = nf (8 * k + n) from by rw [nI_clamp (by omega)]]
  exact W.lret (v := (nf (8 * k + n))) hx hb hr (fun t ht hW => ⟨⟨_, (), rfl, rfl, ht⟩, hS.F ht⟩) hS.2.2 d_Bm_at_11
abbrev b_Bm_link : ByteArray := prog_10_method_27_code
abbrev y_Bm_link : MethodName := ⟨"BallotBoardModel", "link", "(I)V"⟩
abbrev w_Bm_link : List Cond := .code y_Bm_link b_Bm_link 3 none :: gw
theorem d_Bm_link_0 : decode b_Bm_link 0 = .ok (.aload_n 0, 1) := by decide +kernel
theorem d_Bm_link_1 : decode b_Bm_link 1 = .ok (.iconst 0, 1) := by decide +kernel
theorem d_Bm_link_2 : decode b_Bm_link 2 = .ok (.putfield 135, 3) := by decide +kernel
theorem d_Bm_link_5 : decode b_Bm_link 5 = .ok (.iconst 0, 1) := by decide +kernel
theorem d_Bm_link_6 : decode b_Bm_link 6 = .ok (.istore_n 2, 1) := by decide +kernel
theorem d_Bm_link_7 : decode b_Bm_link 7 = .ok (.iload_n 2, 1) := by decide +kernel
theorem d_Bm_link_8 : decode b_Bm_link 8 = .ok (.iconst 4, 1) := by decide +kernel
theorem d_Bm_link_9 : decode b_Bm_link 9 = .ok (.if_icmp .ge 33, 3) := by decide +kernel
theorem d_Bm_link_12 : decode b_Bm_link 12 = .ok (.aload_n 0, 1) := by decide +kernel
theorem d_Bm_link_13 : decode b_Bm_link 13 = .ok (.iload_n 1, 1) := by decide +kernel
theorem d_Bm_link_14 : decode b_Bm_link 14 = .ok (.ifCond .ne 7, 3) := by decide +kernel
theorem d_Bm_link_17 : decode b_Bm_link 17 = .ok (.lconst 0, 1) := by decide +kernel
theorem d_Bm_link_18 : decode b_Bm_link 18 = .ok (.goto 15, 3) := by decide +kernel
theorem d_Bm_link_21 : decode b_Bm_link 21 = .ok (.aload_n 0, 1) := by decide +kernel
theorem d_Bm_link_22 : decode b_Bm_link 22 = .ok (.getfield 13, 3) := by decide +kernel
theorem d_Bm_link_25 : decode b_Bm_link 25 = .ok (.iconst 4, 1) := by decide +kernel
theorem d_Bm_link_26 : decode b_Bm_link 26 = .ok (.iload_n 1, 1) := by decide +kernel
theorem d_Bm_link_27 : decode b_Bm_link 27 = .ok (.iconst 1, 1) := by decide +kernel
theorem d_Bm_link_28 : decode b_Bm_link 28 = .ok (.isub, 1) := by decide +kernel
theorem d_Bm_link_29 : decode b_Bm_link 29 = .ok (.imul, 1) := by decide +kernel
theorem d_Bm_link_30 : decode b_Bm_link 30 = .ok (.iload_n 2, 1) := by decide +kernel
theorem d_Bm_link_31 : decode b_Bm_link 31 = .ok (.iadd, 1) := by decide +kernel
theorem d_Bm_link_32 : decode b_Bm_link 32 = .ok (.laload, 1) := by decide +kernel
theorem d_Bm_link_33 : decode b_Bm_link 33 = .ok (.invokevirtual 138, 3) := by decide +kernel
theorem d_Bm_link_36 : decode b_Bm_link 36 = .ok (.iinc 2 1, 3) := by decide +kernel
theorem d_Bm_link_39 : decode b_Bm_link 39 = .ok (.goto (-32), 3) := by decide +kernel
theorem d_Bm_link_42 : decode b_Bm_link 42 = .ok (.iconst 0, 1) := by decide +kernel
theorem d_Bm_link_43 : decode b_Bm_link 43 = .ok (.istore_n 2, 1) := by decide +kernel
theorem d_Bm_link_44 : decode b_Bm_link 44 = .ok (.iload_n 2, 1) := by decide +kernel
theorem d_Bm_link_45 : decode b_Bm_link 45 = .ok (.aload_n 0, 1) := by decide +kernel
theorem d_Bm_link_46 : decode b_Bm_link 46 = .ok (.iload_n 1, 1) := by decide +kernel
theorem d_Bm_link_47 : decode b_Bm_link 47 = .ok (.iconst 0, 1) := by decide +kernel
theorem d_Bm_link_48 : decode b_Bm_link 48 = .ok (.invokevirtual 236, 3) := by decide +kernel
theorem d_Bm_link_51 : decode b_Bm_link 51 = .ok (.invokestatic 240, 3) := by decide +kernel
theorem d_Bm_link_54 : decode b_Bm_link 54 = .ok (.if_icmp .ge 19, 3) := by decide +kernel
theorem d_Bm_link_57 : decode b_Bm_link 57 = .ok (.aload_n 0, 1) := by decide +kernel
theorem d_Bm_link_58 : decode b_Bm_link 58 = .ok (.aload_n 0, 1) := by decide +kernel
theorem d_Bm_link_59 : decode b_Bm_link 59 = .ok (.iload_n 1, 1) := by decide +kernel
theorem d_Bm_link_60 : decode b_Bm_link 60 = .ok (.iload_n 2, 1) := by decide +kernel
theorem d_Bm_link_61 : decode b_Bm_link 61 = .ok (.invokevirtual 236, 3) := by decide +kernel
theorem d_Bm_link_64 : decode b_Bm_link 64 = .ok (.invokevirtual 138, 3) := by decide +kernel
theorem d_Bm_link_67 : decode b_Bm_link 67 = .ok (.iinc 2 1, 3) := by decide +kernel
theorem d_Bm_link_70 : decode b_Bm_link 70 = .ok (.goto (-26), 3) := by decide +kernel
theorem d_Bm_link_73 : decode b_Bm_link 73 = .ok (.aload_n 0, 1) := by decide +kernel
theorem d_Bm_link_74 : decode b_Bm_link 74 = .ok (.invokevirtual 183, 3) := by decide +kernel
theorem d_Bm_link_77 : decode b_Bm_link 77 = .ok (.return_, 1) := by decide +kernel
set_option maxHeartbeats 8000000 in
set_option maxRecDepth 100000 in
theorem c_Bm_link_0 (l : Launch) (dC : Nat → ClassId) (dI : Nat → Nat → Nat) (cJ cI : ClassId) (sz : Nat) (m0 : Nat) (z0 z1 z2 z3 : Int32) (z4 z5 z6 z7 z8 z9 : Int64) (z10 : Int32) (a0 a1 a2 a3 a4 a5 a6 a7 a8 a9 b0 b1 oc b2 b3 b4 b5 : Nat) (bf sc st : Nat → Int32) (tf nf cf : Nat → Int64) (k : Nat) (msg : List Int64) (hk : k < 154) (hk0 : k = 0) (hw2 : ¬ nf (8 * k + 0) = 2) (hmsg : [0, 0, 0, 0, nf (8 * k + 0), nf (8 * k + 1), nf (8 * k + 2), nf (8 * k + 3), nf (8 * k + 4)] = msg) : Met l y_Bm_link w_Bm_link ({ frames := 3, cells := 0, slots := 0, locals := 75 }) (va_Pc [.ref m0, .int (nI k)] (fun U => U.heap.size = sz ∧ va_P (dC, dI) classes (mo_ws m0 z0 z1 z2 z3 z4 z5 z6 z7 z8 z9 z10 a0 a1 a2 a3 a4 a5 a6 a7 a8 a9 b0 b1 oc b2 b3 b4 b5 ++ (iw_ws a7 cI 256 bf ++ (iw_ws a8 cI 64 sc ++ (iw_ws a9 cI 8 st ++ (iw_ws b0 cI 8 kS ++ (iw_ws b1 cI 64 kR ++ (jw_ws a2 cJ 4 tf ++ (jw_ws a0 cJ 1232 nf ++ (jw_ws a1 cJ 616 cf))))))))) U.heap ∧ va_K (dC, dI) classes [(cJ, .long), (cI, .int)] U ∧ va_D (fun _ => True) (mo_ws m0 z0 z1 z2 z3 z4 z5 z6 z7 z8 z9 z10 a0 a1 a2 a3 a4 a5 a6 a7 a8 a9 b0 b1 oc b2 b3 b4 b5 ++ (iw_ws a7 cI 256 bf ++ (iw_ws a8 cI 64 sc ++ (iw_ws a9 cI 8 st ++ (iw_ws b0 cI 8 kS ++ (iw_ws b1 cI 64 kR ++ (jw_ws a2 cJ 4 tf ++ (jw_ws a0 cJ 1232 nf ++ (jw_ws a1 cJ 616 cf))))))))))) (va_Qv (fun u9 : DU => dgo u9.2.2.1 msg ∧ ∀ j, j < 4 → u9.2.2.2.1 j = lkw msg j) (fun u9 t => va_P (dC, dI) classes (mo_ws m0 z0 z1 z2 z3 z4 z5 z6 z7 z8 z9 z10 a0 a1 a2 a3 a4 a5 a6 a7 a8 a9 b0 b1 u9.2.2.2.2 b2 b3 b4 b5 ++ (iw_ws a7 cI 256 u9.1 ++ (iw_ws a8 cI 64 u9.2.1 ++ (iw_ws a9 cI 8 u9.2.2.1 ++ (iw_ws b0 cI 8 kS ++ (iw_ws b1 cI 64 kR ++ (jw_ws a2 cJ 4 u9.2.2.2.1 ++ (jw_ws a0 cJ 1232 nf ++ (jw_ws a1 cJ 616 cf))))))))) t.heap ∧ va_K (dC, dI) classes [(cJ, .long), (cI, .int)] t ∧ va_D (va_A (mo_ws m0 z0 z1 z2 z3 z4 z5 z6 z7 z8 z9 z10 a0 a1 a2 a3 a4 a5 a6 a7 a8 a9 b0 b1 oc b2 b3 b4 b5 ++ (iw_ws a7 cI 256 bf ++ (iw_ws a8 cI 64 sc ++ (iw_ws a9 cI 8 st ++ (iw_ws b0 cI 8 kS ++ (iw_ws b1 cI 64 kR ++ (jw_ws a2 cJ 4 tf ++ (jw_ws a0 cJ 1232 nf ++ (jw_ws a1 cJ 616 cf))))))))) sz) (mo_ws m0 z0 z1 z2 z3 z4 z5 z6 z7 z8 z9 z10 a0 a1 a2 a3 a4 a5 a6 a7 a8 a9 b0 b1 u9.2.2.2.2 b2 b3 b4 b5 ++ (iw_ws a7 cI 256 u9.1 ++ (iw_ws a8 cI 64 u9.2.1 ++ (iw_ws a9 cI 8 u9.2.2.1 ++ (iw_ws b0 cI 8 kS ++ (iw_ws b1 cI 64 kR ++ (jw_ws a2 cJ 4 u9.2.2.2.1 ++ (jw_ws a0 cJ 1232 nf ++ (jw_ws a1 cJ 616 cf)))))))))) (va_A (mo_ws m0 z0 z1 z2 z3 z4 z5 z6 z7 z8 z9 z10 a0 a1 a2 a3 a4 a5 a6 a7 a8 a9 b0 b1 oc b2 b3 b4 b5 ++ (iw_ws a7 cI 256 bf ++ (iw_ws a8 cI 64 sc ++ (iw_ws a9 cI 8 st ++ (iw_ws b0 cI 8 kS ++ (iw_ws b1 cI 64 kR ++ (jw_ws a2 cJ 4 tf ++ (jw_ws a0 cJ 1232 nf ++ (jw_ws a1 cJ 616 cf))))))))) sz)) 0 0 (va_A (mo_ws m0 z0 z1 z2 z3 z4 z5 z6 z7 z8 z9 z10 a0 a1 a2 a3 a4 a5 a6 a7 a8 a9 b0 b1 oc b2 b3 b4 b5 ++ (iw_ws a7 cI 256 bf ++ (iw_ws a8 cI 64 sc ++ (iw_ws a9 cI 8 st ++ (iw_ws b0 cI 8 kS ++ (iw_ws b1 cI 64 kR ++ (jw_ws a2 cJ 4 tf ++ (jw_ws a0 cJ 1232 nf ++ (jw_ws a1 cJ 616 cf))))))))) sz) := by
  refine Met.ofW (cc := b_Bm_link) (maxL := 3) (ret := none) (by decide) rfl ?_
  intro p e s m args below meth c s₁ Bd hml hv
  obtain ⟨rfl, hsz, hP, hK, hD0⟩ := hv
  have hx := Bd.exec
  have hb := Bd.bytes
  have hr := Bd.returns
  have hts := atoms_spec (ws := w_Bm_link) Bd.pre
  have hown : s.vm.findClass "BallotBoardModel" = some m.cls := findClass_of_methodNamed Bd.named
  have hlocks := Bd.notSynchronized
  subst hsz
  have hD := hD0.self (sz := s.heap.size)
  generalize hAe : va_A (mo_ws m0 z0 z1 z2 z3 z4 z5 z6 z7 z8 z9 z10 a0 a1 a2 a3 a4 a5 a6 a7 a8 a9 b0 b1 oc b2 b3 b4 b5 ++ (iw_ws a7 cI 256 bf ++ (iw_ws a8 cI 64 sc ++ (iw_ws a9 cI 8 st ++ (iw_ws b0 cI 8 kS ++ (iw_ws b1 cI 64 kR ++ (jw_ws a2 cJ 4 tf ++ (jw_ws a0 cJ 1232 nf ++ (jw_ws a1 cJ 616 cf))))))))) s.heap.size = A at hD ⊢
  have hA : ∀ q : Nat, s.heap.size ≤ q → A q := fun q h => by rw [← hAe]; exact Or.inr h
  have hS : va_S A s.heap s.heap [] := va_S.rf
  have hl := lv_entry ([.ref m0, .int (nI k)]) (n := 3) (Nat.le_of_ble_eq_true rfl)
  rw [lg_entry_eq]
  generalize (lg_sl ([.ref m0, .int (nI k)]) ++ List.replicate (3 - (lg_sl ([.ref m0, .int (nI k)])).length) Slot.unset).toArray = ls at hl ⊢
  have hl : lv_has ls 3 [(0, .ref m0), (1, .int (nI k))] := hl
  refine lv_aload_n hx hb d_Bm_link_0 rfl (lv_at hl 0 rfl) ?_
  refine lv_iconst (v := 0) hx hb d_Bm_link_1 (by decide) ?_
  refine va_put (D := (dC, dI)) (ci := 8) (v := .int 0) (ty := .int) (C := "BallotBoardModel") (T := F_Bm) (N := 28) hx hb hts (fun w9 h9 => List.mem_cons_of_mem _ (i_Bm w9 h9)) t_Bm t_Bm_ok n_Bm hown hK hP hD hS 0 rfl rfl 23 (by decide) (hts _ (List.mem_cons_of_mem _ gk_942)) (fun _ h9 => h9) rfl (by decide +kernel) rfl rfl (Nat.le_of_ble_eq_true rfl) d_Bm_link_2 (fun H locs hP hD hS => ?_)
  have hP : va_P (dC, dI) classes [(m0, .inr (8, [.int z0, .int z1, .int z2, .int z3, .long z4, .long z5, .long z6, .long z7, .long z8, .long z9, .int z10, .ref a0, .ref a1, .ref a2, .ref a3, .ref a4, .ref a5, .ref a6, .ref a7, .ref a8, .ref a9, .ref b0, .ref b1, .int 0, .ref b2, .ref b3, .ref b4, .ref b5])), (a7, .inl (cI, 256, .inl bf)), (a8, .inl (cI, 64, .inl sc)), (a9, .inl (cI, 8, .inl st)), (b0, .inl (cI, 8, .inl kS)), (b1, .inl (cI, 64, .inl kR)), (a2, .inl (cJ, 4, .inr (.inl tf))), (a0, .inl (cJ, 1232, .inr (.inl nf))), (a1, .inl (cJ, 616, .inr (.inl cf)))] H := hP
  have hD : va_D A [(m0, .inr (8, [.int z0, .int z1, .int z2, .int z3, .long z4, .long z5, .long z6, .long z7, .long z8, .long z9, .int z10, .ref a0, .ref a1, .ref a2, .ref a3, .ref a4, .ref a5, .ref a6, .ref a7, .ref a8, .ref a9, .ref b0, .ref b1, .int 0, .ref b2, .ref b3, .ref b4, .ref b5])), (a7, .inl (cI, 256, .inl bf)), (a8, .inl (cI, 64, .inl sc)), (a9, .inl (cI, 8, .inl st)), (b0, .inl (cI, 8, .inl kS)), (b1, .inl (cI, 64, .inl kR)), (a2, .inl (cJ, 4, .inr (.inl tf))), (a0, .inl (cJ, 1232, .inr (.inl nf))), (a1, .inl (cJ, 616, .inr (.inl cf)))] := hD
  have hm0 := bok_0 bf
  refine lv_iconst (v := 0) hx hb d_Bm_link_5 (by decide) ?_
  refine lv_istore_n (lv' := [(2, .int 0), (0, .ref m0), (1, .int (nI k))]) hx hb d_Bm_link_6 rfl hl (by decide) rfl (fun ls hl => ?_)
  refine lv_iload_n hx hb d_Bm_link_7 rfl (lv_at hl 0 rfl) ?_
  refine lv_iconst (v := 4) hx hb d_Bm_link_8 (by decide) ?_
  refine lv_icmp_ge (tgt := 42) hx hb d_Bm_link_9 (by decide) (fun c_1 => ?_) (fun c_1 => ?_)
  · -- taken
    exact absurd c_1 (by decide)
  · -- not taken
    refine lv_aload_n hx hb d_Bm_link_12 rfl (lv_at hl 1 rfl) ?_
    refine lv_iload_n hx hb d_Bm_link_13 rfl (lv_at hl 2 rfl) ?_
    refine lv_if_ne (tgt := 21) hx hb d_Bm_link_14 (by decide) (fun c_2 => ?_) (fun c_2 => ?_)
    · -- taken
      exact absurd (by rw [hk0]; rfl) c_2
    · -- not taken
      refine lv_lconst (v := 0) hx hb d_Bm_link_17 (by decide) ?_
      refine lv_goto (tgt := 33) hx hb d_Bm_link_18 (by decide) ?_
      have hPc := hP.sub (ws' := (mo_ws m0 z0 z1 z2 z3 z4 z5 z6 z7 z8 z9 z10 a0 a1 a2 a3 a4 a5 a6 a7 a8 a9 b0 b1 0 b2 b3 b4 b5 ++ (iw_ws a7 cI 256 bf))) [0, 1] rfl
      have hDc := hD.sub (ws' := (mo_ws m0 z0 z1 z2 z3 z4 z5 z6 z7 z8 z9 z10 a0 a1 a2 a3 a4 a5 a6 a7 a8 a9 b0 b1 0 b2 b3 b4 b5 ++ (iw_ws a7 cI 256 bf))) [0, 1] (by decide) rfl
      have hKc := hK.sub (tys' := [(cJ, .long), (cI, .int)]) [0, 1] rfl
      have hFc := va_free (wc := (mo_ws m0 z0 z1 z2 z3 z4 z5 z6 z7 z8 z9 z10 a0 a1 a2 a3 a4 a5 a6 a7 a8 a9 b0 b1 0 b2 b3 b4 b5 ++ (iw_ws a7 cI 256 bf))) hD hS hA [0, 1] rfl
      refine va_callv (va_runV (As := [.long 0]) (rest := []) ⟨hx, hb, hml, hown, hts⟩ (c_Bm_eight l dC dI cJ cI H.size m0 z0 z1 z2 z3 z4 z5 z6 z7 z8 z9 z10 a0 a1 a2 a3 a4 a5 a6 a7 a8 a9 b0 b1 0 b2 b3 b4 b5 bf 0 (by omega)) (cwV 1 hts (gw_V gk_1070 gk_1072 gp_36 gk_7 gk_1073) rfl rfl rfl (by decide +kernel) ⟨Nat.le_of_ble_eq_true rfl, Nat.le_of_ble_eq_true rfl⟩) ⟨fun a U g mk q => by obtain ⟨q0, q1, qP, qK, qD⟩ := q; exact ⟨q0, q1, qP, va_K.moved (u := U) (U := U.calling g mk a) (Vm.Alike.refl U.vm) qK, qD⟩, va_recv hK hP (ci := 8) (q0 := 0) rfl rfl, fun U hU hW => ⟨rfl, by rw [hU], by rw [hU]; exact hPc, va_K.moved hW.alike hKc, hDc.weaken (fun _ _ _ _ => trivial)⟩⟩ rfl rfl hl.1 rfl (lv_room (Nat.le_of_ble_eq_true rfl)) d_Bm_link_33 ⟨Nat.le_of_ble_eq_true rfl, Nat.le_of_ble_eq_true rfl⟩) hS (fun q _ h => hFc q h) hFc (fun u9 t9 H1 locs ht hvm hw hB hz1 hk1 hS => ?_)
      obtain ⟨hP1, hK1, hD1⟩ := hB
      rw [ht] at hP1
      obtain ⟨hP, hD⟩ := va_join (wr := [(a8, .inl (cI, 64, .inl sc)), (a9, .inl (cI, 8, .inl st)), (b0, .inl (cI, 8, .inl kS)), (b1, .inl (cI, 64, .inl kR)), (a2, .inl (cJ, 4, .inr (.inl tf))), (a0, .inl (cJ, 1232, .inr (.inl nf))), (a1, .inl (cJ, 616, .inr (.inl cf)))]) (w1 := [(m0, .inr (8, [.int z0, .int z1, .int z2, .int z3, .long z4, .long z5, .long z6, .long z7, .long z8, .long z9, .int z10, .ref a0, .ref a1, .ref a2, .ref a3, .ref a4, .ref a5, .ref a6, .ref a7, .ref a8, .ref a9, .ref b0, .ref b1, .int (nI 8), .ref b2, .ref b3, .ref b4, .ref b5])), (a7, .inl (cI, 256, .inl (o8 bf 0 0)))]) hP hD [0, 1] [2, 3, 4, 5, 6, 7, 8] rfl rfl (by decide) (by decide) hk1 hFc hP1 hD1
      have hP := hP.sub (ws' := [(m0, .inr (8, [.int z0, .int z1, .int z2, .int z3, .long z4, .long z5, .long z6, .long z7, .long z8, .long z9, .int z10, .ref a0, .ref a1, .ref a2, .ref a3, .ref a4, .ref a5, .ref a6, .ref a7, .ref a8, .ref a9, .ref b0, .ref b1, .int (nI 8), .ref b2, .ref b3, .ref b4, .ref b5])), (a7, .inl (cI, 256, .inl (o8 bf 0 0))), (a8, .inl (cI, 64, .inl sc)), (a9, .inl (cI, 8, .inl st)), (b0, .inl (cI, 8, .inl kS)), (b1, .inl (cI, 64, .inl kR)), (a2, .inl (cJ, 4, .inr (.inl tf))), (a0, .inl (cJ, 1232, .inr (.inl nf))), (a1, .inl (cJ, 616, .inr (.inl cf)))]) [7, 8, 0, 1, 2, 3, 4, 5, 6] rfl
      have hD := hD.sub (ws' := [(m0, .inr (8, [.int z0, .int z1, .int z2, .int z3, .long z4, .long z5, .long z6, .long z7, .long z8, .long z9, .int z10, .ref a0, .ref a1, .ref a2, .ref a3, .ref a4, .ref a5, .ref a6, .ref a7, .ref a8, .ref a9, .ref b0, .ref b1, .int (nI 8), .ref b2, .ref b3, .ref b4, .ref b5])), (a7, .inl (cI, 256, .inl (o8 bf 0 0))), (a8, .inl (cI, 64, .inl sc)), (a9, .inl (cI, 8, .inl st)), (b0, .inl (cI, 8, .inl kS)), (b1, .inl (cI, 64, .inl kR)), (a2, .inl (cJ, 4, .inr (.inl tf))), (a0, .inl (cJ, 1232, .inr (.inl nf))), (a1, .inl (cJ, 616, .inr (.inl cf)))]) [7, 8, 0, 1, 2, 3, 4, 5, 6] (by decide) rfl
      generalize H1 = H at hP hS ⊢
      obtain ⟨g_4, eg_4⟩ : ∃ f : Nat → Int32, f = o8 bf 0 0 := ⟨_, rfl⟩
      rw [← eg_4] at hP hD
      have hm_5 : bok g_4 1 [0] := bok_add _ hm0 rfl eg_4
      obtain ⟨i_6, ei_6⟩ : ∃ y : Int32, y = 0 + 1 := ⟨_, rfl⟩
      refine lv_iinc (v := i_6) (lv' := [(2, .int i_6), (0, .ref m0), (1, .int (nI k))]) hx hb d_Bm_link_36 hl (k := 0) rfl (by rw [ei_6]; rfl) (by decide) rfl (fun ls hl => ?_)
      obtain rfl : i_6 = 1 := by rw [ei_6]; exact by decide
      refine lv_goto (tgt := 7) hx hb d_Bm_link_39 (by decide) ?_
      refine lv_iload_n hx hb d_Bm_link_7 rfl (lv_at hl 0 rfl) ?_
      refine lv_iconst (v := 4) hx hb d_Bm_link_8 (by decide) ?_
      refine lv_icmp_ge (tgt := 42) hx hb d_Bm_link_9 (by decide) (fun c_7 => ?_) (fun c_7 => ?_)
      · -- taken
        exact absurd c_7 (by decide)
      · -- not taken
        refine lv_aload_n hx hb d_Bm_link_12 rfl (lv_at hl 1 rfl) ?_
        refine lv_iload_n hx hb d_Bm_link_13 rfl (lv_at hl 2 rfl) ?_
        refine lv_if_ne (tgt := 21) hx hb d_Bm_link_14 (by decide) (fun c_8 => ?_) (fun c_8 => ?_)
        · -- taken
          exact absurd (by rw [hk0]; rfl) c_8
        · -- not taken
          refine lv_lconst (v := 0) hx hb d_Bm_link_17 (by decide) ?_
          refine lv_goto (tgt := 33) hx hb d_Bm_link_18 (by decide) ?_
          have hPc := hP.sub (ws' := (mo_ws m0 z0 z1 z2 z3 z4 z5 z6 z7 z8 z9 z10 a0 a1 a2 a3 a4 a5 a6 a7 a8 a9 b0 b1 8 b2 b3 b4 b5 ++ (iw_ws a7 cI 256 g_4))) [0, 1] rfl
          have hDc := hD.sub (ws' := (mo_ws m0 z0 z1 z2 z3 z4 z5 z6 z7 z8 z9 z10 a0 a1 a2 a3 a4 a5 a6 a7 a8 a9 b0 b1 8 b2 b3 b4 b5 ++ (iw_ws a7 cI 256 g_4))) [0, 1] (by decide) rfl
          have hKc := hK.sub (tys' := [(cJ, .long), (cI, .int)]) [0, 1] rfl
          have hFc := va_free (wc := (mo_ws m0 z0 z1 z2 z3 z4 z5 z6 z7 z8 z9 z10 a0 a1 a2 a3 a4 a5 a6 a7 a8 a9 b0 b1 8 b2 b3 b4 b5 ++ (iw_ws a7 cI 256 g_4))) hD hS hA [0, 1] rfl
          refine va_callv (va_runV (As := [.long 0]) (rest := []) ⟨hx, hb, hml, hown, hts⟩ (c_Bm_eight l dC dI cJ cI H.size m0 z0 z1 z2 z3 z4 z5 z6 z7 z8 z9 z10 a0 a1 a2 a3 a4 a5 a6 a7 a8 a9 b0 b1 8 b2 b3 b4 b5 g_4 0 (by omega)) (cwV 1 hts (gw_V gk_1070 gk_1072 gp_36 gk_7 gk_1073) rfl rfl rfl (by decide +kernel) ⟨Nat.le_of_ble_eq_true rfl, Nat.le_of_ble_eq_true rfl⟩) ⟨fun a U g mk q => by obtain ⟨q0, q1, qP, qK, qD⟩ := q; exact ⟨q0, q1, qP, va_K.moved (u := U) (U := U.calling g mk a) (Vm.Alike.refl U.vm) qK, qD⟩, va_recv hK hP (ci := 8) (q0 := 0) rfl rfl, fun U hU hW => ⟨rfl, by rw [hU], by rw [hU]; exact hPc, va_K.moved hW.alike hKc, hDc.weaken (fun _ _ _ _ => trivial)⟩⟩ rfl rfl hl.1 rfl (lv_room (Nat.le_of_ble_eq_true rfl)) d_Bm_link_33 ⟨Nat.le_of_ble_eq_true rfl, Nat.le_of_ble_eq_true rfl⟩) hS (fun q _ h => hFc q h) hFc (fun u9 t9 H1 locs ht hvm hw hB hz1 hk1 hS => ?_)
          obtain ⟨hP1, hK1, hD1⟩ := hB
          rw [ht] at hP1
          obtain ⟨hP, hD⟩ := va_join (wr := [(a8, .inl (cI, 64, .inl sc)), (a9, .inl (cI, 8, .inl st)), (b0, .inl (cI, 8, .inl kS)), (b1, .inl (cI, 64, .inl kR)), (a2, .inl (cJ, 4, .inr (.inl tf))), (a0, .inl (cJ, 1232, .inr (.inl nf))), (a1, .inl (cJ, 616, .inr (.inl cf)))]) (w1 := [(m0, .inr (8, [.int z0, .int z1, .int z2, .int z3, .long z4, .long z5, .long z6, .long z7, .long z8, .long z9, .int z10, .ref a0, .ref a1, .ref a2, .ref a3, .ref a4, .ref a5, .ref a6, .ref a7, .ref a8, .ref a9, .ref b0, .ref b1, .int (nI 16), .ref b2, .ref b3, .ref b4, .ref b5])), (a7, .inl (cI, 256, .inl (o8 g_4 8 0)))]) hP hD [0, 1] [2, 3, 4, 5, 6, 7, 8] rfl rfl (by decide) (by decide) hk1 hFc hP1 hD1
          have hP := hP.sub (ws' := [(m0, .inr (8, [.int z0, .int z1, .int z2, .int z3, .long z4, .long z5, .long z6, .long z7, .long z8, .long z9, .int z10, .ref a0, .ref a1, .ref a2, .ref a3, .ref a4, .ref a5, .ref a6, .ref a7, .ref a8, .ref a9, .ref b0, .ref b1, .int (nI 16), .ref b2, .ref b3, .ref b4, .ref b5])), (a7, .inl (cI, 256, .inl (o8 g_4 8 0))), (a8, .inl (cI, 64, .inl sc)), (a9, .inl (cI, 8, .inl st)), (b0, .inl (cI, 8, .inl kS)), (b1, .inl (cI, 64, .inl kR)), (a2, .inl (cJ, 4, .inr (.inl tf))), (a0, .inl (cJ, 1232, .inr (.inl nf))), (a1, .inl (cJ, 616, .inr (.inl cf)))]) [7, 8, 0, 1, 2, 3, 4, 5, 6] rfl
          have hD := hD.sub (ws' := [(m0, .inr (8, [.int z0, .int z1, .int z2, .int z3, .long z4, .long z5, .long z6, .long z7, .long z8, .long z9, .int z10, .ref a0, .ref a1, .ref a2, .ref a3, .ref a4, .ref a5, .ref a6, .ref a7, .ref a8, .ref a9, .ref b0, .ref b1, .int (nI 16), .ref b2, .ref b3, .ref b4, .ref b5])), (a7, .inl (cI, 256, .inl (o8 g_4 8 0))), (a8, .inl (cI, 64, .inl sc)), (a9, .inl (cI, 8, .inl st)), (b0, .inl (cI, 8, .inl kS)), (b1, .inl (cI, 64, .inl kR)), (a2, .inl (cJ, 4, .inr (.inl tf))), (a0, .inl (cJ, 1232, .inr (.inl nf))), (a1, .inl (cJ, 616, .inr (.inl cf)))]) [7, 8, 0, 1, 2, 3, 4, 5, 6] (by decide) rfl
          generalize H1 = H at hP hS ⊢
          obtain ⟨g_10, eg_10⟩ : ∃ f : Nat → Int32, f = o8 g_4 8 0 := ⟨_, rfl⟩
          rw [← eg_10] at hP hD
          have hm_11 : bok g_10 2 [0, 0] := bok_add _ hm_5 rfl eg_10
          obtain ⟨i_12, ei_12⟩ : ∃ y : Int32, y = 1 + 1 := ⟨_, rfl⟩
          refine lv_iinc (v := i_12) (lv' := [(2, .int i_12), (0, .ref m0), (1, .int (nI k))]) hx hb d_Bm_link_36 hl (k := 0) rfl (by rw [ei_12]; rfl) (by decide) rfl (fun ls hl => ?_)
          obtain rfl : i_12 = 2 := by rw [ei_12]; exact by decide
          refine lv_goto (tgt := 7) hx hb d_Bm_link_39 (by decide) ?_
          refine lv_iload_n hx hb d_Bm_link_7 rfl (lv_at hl 0 rfl) ?_
          refine lv_iconst (v := 4) hx hb d_Bm_link_8 (by decide) ?_
          refine lv_icmp_ge (tgt := 42) hx hb d_Bm_link_9 (by decide) (fun c_13 => ?_) (fun c_13 => ?_)
          · -- taken
            exact absurd c_13 (by decide)
          · -- not taken
            refine lv_aload_n hx hb d_Bm_link_12 rfl (lv_at hl 1 rfl) ?_
            refine lv_iload_n hx hb d_Bm_link_13 rfl (lv_at hl 2 rfl) ?_
            refine lv_if_ne (tgt := 21) hx hb d_Bm_link_14 (by decide) (fun c_14 => ?_) (fun c_14 => ?_)
            · -- taken
              exact absurd (by rw [hk0]; rfl) c_14
            · -- not taken
              refine lv_lconst (v := 0) hx hb d_Bm_link_17 (by decide) ?_
              refine lv_goto (tgt := 33) hx hb d_Bm_link_18 (by decide) ?_
              have hPc := hP.sub (ws' := (mo_ws m0 z0 z1 z2 z3 z4 z5 z6 z7 z8 z9 z10 a0 a1 a2 a3 a4 a5 a6 a7 a8 a9 b0 b1 16 b2 b3 b4 b5 ++ (iw_ws a7 cI 256 g_10))) [0, 1] rfl
              have hDc := hD.sub (ws' := (mo_ws m0 z0 z1 z2 z3 z4 z5 z6 z7 z8 z9 z10 a0 a1 a2 a3 a4 a5 a6 a7 a8 a9 b0 b1 16 b2 b3 b4 b5 ++ (iw_ws a7 cI 256 g_10))) [0, 1] (by decide) rfl
              have hKc := hK.sub (tys' := [(cJ, .long), (cI, .int)]) [0, 1] rfl
              have hFc := va_free (wc := (mo_ws m0 z0 z1 z2 z3 z4 z5 z6 z7 z8 z9 z10 a0 a1 a2 a3 a4 a5 a6 a7 a8 a9 b0 b1 16 b2 b3 b4 b5 ++ (iw_ws a7 cI 256 g_10))) hD hS hA [0, 1] rfl
              refine va_callv (va_runV (As := [.long 0]) (rest := []) ⟨hx, hb, hml, hown, hts⟩ (c_Bm_eight l dC dI cJ cI H.size m0 z0 z1 z2 z3 z4 z5 z6 z7 z8 z9 z10 a0 a1 a2 a3 a4 a5 a6 a7 a8 a9 b0 b1 16 b2 b3 b4 b5 g_10 0 (by omega)) (cwV 1 hts (gw_V gk_1070 gk_1072 gp_36 gk_7 gk_1073) rfl rfl rfl (by decide +kernel) ⟨Nat.le_of_ble_eq_true rfl, Nat.le_of_ble_eq_true rfl⟩) ⟨fun a U g mk q => by obtain ⟨q0, q1, qP, qK, qD⟩ := q; exact ⟨q0, q1, qP, va_K.moved (u := U) (U := U.calling g mk a) (Vm.Alike.refl U.vm) qK, qD⟩, va_recv hK hP (ci := 8) (q0 := 0) rfl rfl, fun U hU hW => ⟨rfl, by rw [hU], by rw [hU]; exact hPc, va_K.moved hW.alike hKc, hDc.weaken (fun _ _ _ _ => trivial)⟩⟩ rfl rfl hl.1 rfl (lv_room (Nat.le_of_ble_eq_true rfl)) d_Bm_link_33 ⟨Nat.le_of_ble_eq_true rfl, Nat.le_of_ble_eq_true rfl⟩) hS (fun q _ h => hFc q h) hFc (fun u9 t9 H1 locs ht hvm hw hB hz1 hk1 hS => ?_)
              obtain ⟨hP1, hK1, hD1⟩ := hB
              rw [ht] at hP1
              obtain ⟨hP, hD⟩ := va_join (wr := [(a8, .inl (cI, 64, .inl sc)), (a9, .inl (cI, 8, .inl st)), (b0, .inl (cI, 8, .inl kS)), (b1, .inl (cI, 64, .inl kR)), (a2, .inl (cJ, 4, .inr (.inl tf))), (a0, .inl (cJ, 1232, .inr (.inl nf))), (a1, .inl (cJ, 616, .inr (.inl cf)))]) (w1 := [(m0, .inr (8, [.int z0, .int z1, .int z2, .int z3, .long z4, .long z5, .long z6, .long z7, .long z8, .long z9, .int z10, .ref a0, .ref a1, .ref a2, .ref a3, .ref a4, .ref a5, .ref a6, .ref a7, .ref a8, .ref a9, .ref b0, .ref b1, .int (nI 24), .ref b2, .ref b3, .ref b4, .ref b5])), (a7, .inl (cI, 256, .inl (o8 g_10 16 0)))]) hP hD [0, 1] [2, 3, 4, 5, 6, 7, 8] rfl rfl (by decide) (by decide) hk1 hFc hP1 hD1
              have hP := hP.sub (ws' := [(m0, .inr (8, [.int z0, .int z1, .int z2, .int z3, .long z4, .long z5, .long z6, .long z7, .long z8, .long z9, .int z10, .ref a0, .ref a1, .ref a2, .ref a3, .ref a4, .ref a5, .ref a6, .ref a7, .ref a8, .ref a9, .ref b0, .ref b1, .int (nI 24), .ref b2, .ref b3, .ref b4, .ref b5])), (a7, .inl (cI, 256, .inl (o8 g_10 16 0))), (a8, .inl (cI, 64, .inl sc)), (a9, .inl (cI, 8, .inl st)), (b0, .inl (cI, 8, .inl kS)), (b1, .inl (cI, 64, .inl kR)), (a2, .inl (cJ, 4, .inr (.inl tf))), (a0, .inl (cJ, 1232, .inr (.inl nf))), (a1, .inl (cJ, 616, .inr (.inl cf)))]) [7, 8, 0, 1, 2, 3, 4, 5, 6] rfl
              have hD := hD.sub (ws' := [(m0, .inr (8, [.int z0, .int z1, .int z2, .int z3, .long z4, .long z5, .long z6, .long z7, .long z8, .long z9, .int z10, .ref a0, .ref a1, .ref a2, .ref a3, .ref a4, .ref a5, .ref a6, .ref a7, .ref a8, .ref a9, .ref b0, .ref b1, .int (nI 24), .ref b2, .ref b3, .ref b4, .ref b5])), (a7, .inl (cI, 256, .inl (o8 g_10 16 0))), (a8, .inl (cI, 64, .inl sc)), (a9, .inl (cI, 8, .inl st)), (b0, .inl (cI, 8, .inl kS)), (b1, .inl (cI, 64, .inl kR)), (a2, .inl (cJ, 4, .inr (.inl tf))), (a0, .inl (cJ, 1232, .inr (.inl nf))), (a1, .inl (cJ, 616, .inr (.inl cf)))]) [7, 8, 0, 1, 2, 3, 4, 5, 6] (by decide) rfl
              generalize H1 = H at hP hS ⊢
              obtain ⟨g_16, eg_16⟩ : ∃ f : Nat → Int32, f = o8 g_10 16 0 := ⟨_, rfl⟩
              rw [← eg_16] at hP hD
              have hm_17 : bok g_16 3 [0, 0, 0] := bok_add _ hm_11 rfl eg_16
              obtain ⟨i_18, ei_18⟩ : ∃ y : Int32, y = 2 + 1 := ⟨_, rfl⟩
              refine lv_iinc (v := i_18) (lv' := [(2, .int i_18), (0, .ref m0), (1, .int (nI k))]) hx hb d_Bm_link_36 hl (k := 0) rfl (by rw [ei_18]; rfl) (by decide) rfl (fun ls hl => ?_)
              obtain rfl : i_18 = 3 := by rw [ei_18]; exact by decide
              refine lv_goto (tgt := 7) hx hb d_Bm_link_39 (by decide) ?_
              refine lv_iload_n hx hb d_Bm_link_7 rfl (lv_at hl 0 rfl) ?_
              refine lv_iconst (v := 4) hx hb d_Bm_link_8 (by decide) ?_
              refine lv_icmp_ge (tgt := 42) hx hb d_Bm_link_9 (by decide) (fun c_19 => ?_) (fun c_19 => ?_)
              · -- taken
                exact absurd c_19 (by decide)
              · -- not taken
                refine lv_aload_n hx hb d_Bm_link_12 rfl (lv_at hl 1 rfl) ?_
                refine lv_iload_n hx hb d_Bm_link_13 rfl (lv_at hl 2 rfl) ?_
                refine lv_if_ne (tgt := 21) hx hb d_Bm_link_14 (by decide) (fun c_20 => ?_) (fun c_20 => ?_)
                · -- taken
                  exact absurd (by rw [hk0]; rfl) c_20
                · -- not taken
                  refine lv_lconst (v := 0) hx hb d_Bm_link_17 (by decide) ?_
                  refine lv_goto (tgt := 33) hx hb d_Bm_link_18 (by decide) ?_
                  have hPc := hP.sub (ws' := (mo_ws m0 z0 z1 z2 z3 z4 z5 z6 z7 z8 z9 z10 a0 a1 a2 a3 a4 a5 a6 a7 a8 a9 b0 b1 24 b2 b3 b4 b5 ++ (iw_ws a7 cI 256 g_16))) [0, 1] rfl
                  have hDc := hD.sub (ws' := (mo_ws m0 z0 z1 z2 z3 z4 z5 z6 z7 z8 z9 z10 a0 a1 a2 a3 a4 a5 a6 a7 a8 a9 b0 b1 24 b2 b3 b4 b5 ++ (iw_ws a7 cI 256 g_16))) [0, 1] (by decide) rfl
                  have hKc := hK.sub (tys' := [(cJ, .long), (cI, .int)]) [0, 1] rfl
                  have hFc := va_free (wc := (mo_ws m0 z0 z1 z2 z3 z4 z5 z6 z7 z8 z9 z10 a0 a1 a2 a3 a4 a5 a6 a7 a8 a9 b0 b1 24 b2 b3 b4 b5 ++ (iw_ws a7 cI 256 g_16))) hD hS hA [0, 1] rfl
                  refine va_callv (va_runV (As := [.long 0]) (rest := []) ⟨hx, hb, hml, hown, hts⟩ (c_Bm_eight l dC dI cJ cI H.size m0 z0 z1 z2 z3 z4 z5 z6 z7 z8 z9 z10 a0 a1 a2 a3 a4 a5 a6 a7 a8 a9 b0 b1 24 b2 b3 b4 b5 g_16 0 (by omega)) (cwV 1 hts (gw_V gk_1070 gk_1072 gp_36 gk_7 gk_1073) rfl rfl rfl (by decide +kernel) ⟨Nat.le_of_ble_eq_true rfl, Nat.le_of_ble_eq_true rfl⟩) ⟨fun a U g mk q => by obtain ⟨q0, q1, qP, qK, qD⟩ := q; exact ⟨q0, q1, qP, va_K.moved (u := U) (U := U.calling g mk a) (Vm.Alike.refl U.vm) qK, qD⟩, va_recv hK hP (ci := 8) (q0 := 0) rfl rfl, fun U hU hW => ⟨rfl, by rw [hU], by rw [hU]; exact hPc, va_K.moved hW.alike hKc, hDc.weaken (fun _ _ _ _ => trivial)⟩⟩ rfl rfl hl.1 rfl (lv_room (Nat.le_of_ble_eq_true rfl)) d_Bm_link_33 ⟨Nat.le_of_ble_eq_true rfl, Nat.le_of_ble_eq_true rfl⟩) hS (fun q _ h => hFc q h) hFc (fun u9 t9 H1 locs ht hvm hw hB hz1 hk1 hS => ?_)
                  obtain ⟨hP1, hK1, hD1⟩ := hB
                  rw [ht] at hP1
                  obtain ⟨hP, hD⟩ := va_join (wr := [(a8, .inl (cI, 64, .inl sc)), (a9, .inl (cI, 8, .inl st)), (b0, .inl (cI, 8, .inl kS)), (b1, .inl (cI, 64, .inl kR)), (a2, .inl (cJ, 4, .inr (.inl tf))), (a0, .inl (cJ, 1232, .inr (.inl nf))), (a1, .inl (cJ, 616, .inr (.inl cf)))]) (w1 := [(m0, .inr (8, [.int z0, .int z1, .int z2, .int z3, .long z4, .long z5, .long z6, .long z7, .long z8, .long z9, .int z10, .ref a0, .ref a1, .ref a2, .ref a3, .ref a4, .ref a5, .ref a6, .ref a7, .ref a8, .ref a9, .ref b0, .ref b1, .int (nI 32), .ref b2, .ref b3, .ref b4, .ref b5])), (a7, .inl (cI, 256, .inl (o8 g_16 24 0)))]) hP hD [0, 1] [2, 3, 4, 5, 6, 7, 8] rfl rfl (by decide) (by decide) hk1 hFc hP1 hD1
                  have hP := hP.sub (ws' := [(m0, .inr (8, [.int z0, .int z1, .int z2, .int z3, .long z4, .long z5, .long z6, .long z7, .long z8, .long z9, .int z10, .ref a0, .ref a1, .ref a2, .ref a3, .ref a4, .ref a5, .ref a6, .ref a7, .ref a8, .ref a9, .ref b0, .ref b1, .int (nI 32), .ref b2, .ref b3, .ref b4, .ref b5])), (a7, .inl (cI, 256, .inl (o8 g_16 24 0))), (a8, .inl (cI, 64, .inl sc)), (a9, .inl (cI, 8, .inl st)), (b0, .inl (cI, 8, .inl kS)), (b1, .inl (cI, 64, .inl kR)), (a2, .inl (cJ, 4, .inr (.inl tf))), (a0, .inl (cJ, 1232, .inr (.inl nf))), (a1, .inl (cJ, 616, .inr (.inl cf)))]) [7, 8, 0, 1, 2, 3, 4, 5, 6] rfl
                  have hD := hD.sub (ws' := [(m0, .inr (8, [.int z0, .int z1, .int z2, .int z3, .long z4, .long z5, .long z6, .long z7, .long z8, .long z9, .int z10, .ref a0, .ref a1, .ref a2, .ref a3, .ref a4, .ref a5, .ref a6, .ref a7, .ref a8, .ref a9, .ref b0, .ref b1, .int (nI 32), .ref b2, .ref b3, .ref b4, .ref b5])), (a7, .inl (cI, 256, .inl (o8 g_16 24 0))), (a8, .inl (cI, 64, .inl sc)), (a9, .inl (cI, 8, .inl st)), (b0, .inl (cI, 8, .inl kS)), (b1, .inl (cI, 64, .inl kR)), (a2, .inl (cJ, 4, .inr (.inl tf))), (a0, .inl (cJ, 1232, .inr (.inl nf))), (a1, .inl (cJ, 616, .inr (.inl cf)))]) [7, 8, 0, 1, 2, 3, 4, 5, 6] (by decide) rfl
                  generalize H1 = H at hP hS ⊢
                  obtain ⟨g_22, eg_22⟩ : ∃ f : Nat → Int32, f = o8 g_16 24 0 := ⟨_, rfl⟩
                  rw [← eg_22] at hP hD
                  have hm_23 : bok g_22 4 [0, 0, 0, 0] := bok_add _ hm_17 rfl eg_22
                  obtain ⟨i_24, ei_24⟩ : ∃ y : Int32, y = 3 + 1 := ⟨_, rfl⟩
                  refine lv_iinc (v := i_24) (lv' := [(2, .int i_24), (0, .ref m0), (1, .int (nI k))]) hx hb d_Bm_link_36 hl (k := 0) rfl (by rw [ei_24]; rfl) (by decide) rfl (fun ls hl => ?_)
                  obtain rfl : i_24 = 4 := by rw [ei_24]; exact by decide
                  refine lv_goto (tgt := 7) hx hb d_Bm_link_39 (by decide) ?_
                  refine lv_iload_n hx hb d_Bm_link_7 rfl (lv_at hl 0 rfl) ?_
                  refine lv_iconst (v := 4) hx hb d_Bm_link_8 (by decide) ?_
                  refine lv_icmp_ge (tgt := 42) hx hb d_Bm_link_9 (by decide) (fun c_25 => ?_) (fun c_25 => ?_)
                  · -- taken
                    refine lv_iconst (v := 0) hx hb d_Bm_link_42 (by decide) ?_
                    refine lv_istore_n (lv' := [(2, .int 0), (0, .ref m0), (1, .int (nI k))]) hx hb d_Bm_link_43 rfl hl (by decide) rfl (fun ls hl => ?_)
                    refine lv_iload_n hx hb d_Bm_link_44 rfl (lv_at hl 0 rfl) ?_
                    refine lv_aload_n hx hb d_Bm_link_45 rfl (lv_at hl 1 rfl) ?_
                    refine lv_iload_n hx hb d_Bm_link_46 rfl (lv_at hl 2 rfl) ?_
                    refine lv_iconst (v := 0) hx hb d_Bm_link_47 (by decide) ?_
                    have hPc := hP.sub (ws' := (mo_ws m0 z0 z1 z2 z3 z4 z5 z6 z7 z8 z9 z10 a0 a1 a2 a3 a4 a5 a6 a7 a8 a9 b0 b1 32 b2 b3 b4 b5 ++ (jw_ws a0 cJ 1232 nf))) [0, 7] rfl
                    have hKc := hK.sub (tys' := [(cJ, .long), (cI, .int)]) [0, 1] rfl
                    refine va_calll (va_runV (As := [.int (nI k), .int 0]) (rest := [.int 0]) ⟨hx, hb, hml, hown, hts⟩ (c_Bm_at l H dC dI cJ cI m0 z0 z1 z2 z3 z4 z5 z6 z7 z8 z9 z10 a0 a1 a2 a3 a4 a5 a6 a7 a8 a9 b0 b1 32 b2 b3 b4 b5 nf k 0 hPc (by omega)) (cwV 2 hts (gw_V gk_1102 gk_1104 gp_42 gk_7 gk_1105) rfl rfl rfl (by decide +kernel) ⟨Nat.le_of_ble_eq_true rfl, Nat.le_of_ble_eq_true rfl⟩) ⟨fun a U g mk q => ⟨q.1, q.2.1, va_K.moved (u := U) (U := U.calling g mk a) (Vm.Alike.refl U.vm) q.2.2⟩, va_recv hK hP (ci := 8) (q0 := 0) rfl rfl, fun U hU hW => ⟨rfl, hU, va_K.moved hW.alike hKc⟩⟩ rfl rfl hl.1 rfl (lv_room (Nat.le_of_ble_eq_true rfl)) d_Bm_link_48 ⟨Nat.le_of_ble_eq_true rfl, Nat.le_of_ble_eq_true rfl⟩) hS (fun q _ h => h.elim) (fun q h => h.elim) (fun r48 u9 t9 H1 locs ht hvm hw hB hz1 hk1 hS => ?_)
                    obtain rfl : H = H1 := hB.symm.trans ht
                    have hw : r48 = nf (8 * k + 0) := hw
                    subst hw
                    refine va_calli (va_runS (As := [.long (nf (8 * k + 0))]) (rest := [.int 0]) ⟨hx, hb, hml, hown, hts⟩ (c_Bm_many l H (nf (8 * k + 0))) (cwS 1 hts (gw_S gk_1106 gk_1107 gk_7 gk_1108) rfl rfl rfl (by decide +kernel) ⟨Nat.le_of_ble_eq_true rfl, Nat.le_of_ble_eq_true rfl⟩) ⟨fun a U g mk q => q, fun U hU hW => ⟨rfl, hU⟩⟩ rfl rfl hl.1 rfl (lv_room (Nat.le_of_ble_eq_true rfl)) d_Bm_link_51 ⟨Nat.le_of_ble_eq_true rfl, Nat.le_of_ble_eq_true rfl⟩) hS (fun q _ h => h.elim) (fun q h => h.elim) (fun r51 u9 t9 H1 locs ht hvm hw hB hz1 hk1 hS => ?_)
                    obtain rfl : H = H1 := hB.symm.trans ht
                    have hw : r51 = if nf (8 * k + 0) = 2 then 8 else 5 := hw
                    subst hw
                    rw [show (if nf (8 * k + 0) = 2 then 8 else 5 : Int32) = 5 from if_neg hw2]
                    refine lv_icmp_ge (tgt := 73) hx hb d_Bm_link_54 (by decide) (fun c_26 => ?_) (fun c_26 => ?_)
                    · -- taken
                      exact absurd c_26 (by decide)
                    · -- not taken
                      refine lv_aload_n hx hb d_Bm_link_57 rfl (lv_at hl 1 rfl) ?_
                      refine lv_aload_n hx hb d_Bm_link_58 rfl (lv_at hl 1 rfl) ?_
                      refine lv_iload_n hx hb d_Bm_link_59 rfl (lv_at hl 2 rfl) ?_
                      refine lv_iload_n hx hb d_Bm_link_60 rfl (lv_at hl 0 rfl) ?_
                      have hPc := hP.sub (ws' := (mo_ws m0 z0 z1 z2 z3 z4 z5 z6 z7 z8 z9 z10 a0 a1 a2 a3 a4 a5 a6 a7 a8 a9 b0 b1 32 b2 b3 b4 b5 ++ (jw_ws a0 cJ 1232 nf))) [0, 7] rfl
                      have hKc := hK.sub (tys' := [(cJ, .long), (cI, .int)]) [0, 1] rfl
                      refine va_calll (va_runV (As := [.int (nI k), .int 0]) (rest := [.ref m0]) ⟨hx, hb, hml, hown, hts⟩ (c_Bm_at l H dC dI cJ cI m0 z0 z1 z2 z3 z4 z5 z6 z7 z8 z9 z10 a0 a1 a2 a3 a4 a5 a6 a7 a8 a9 b0 b1 32 b2 b3 b4 b5 nf k 0 hPc (by omega)) (cwV 2 hts (gw_V gk_1102 gk_1104 gp_42 gk_7 gk_1105) rfl rfl rfl (by decide +kernel) ⟨Nat.le_of_ble_eq_true rfl, Nat.le_of_ble_eq_true rfl⟩) ⟨fun a U g mk q => ⟨q.1, q.2.1, va_K.moved (u := U) (U := U.calling g mk a) (Vm.Alike.refl U.vm) q.2.2⟩, va_recv hK hP (ci := 8) (q0 := 0) rfl rfl, fun U hU hW => ⟨rfl, hU, va_K.moved hW.alike hKc⟩⟩ rfl rfl hl.1 rfl (lv_room (Nat.le_of_ble_eq_true rfl)) d_Bm_link_61 ⟨Nat.le_of_ble_eq_true rfl, Nat.le_of_ble_eq_true rfl⟩) hS (fun q _ h => h.elim) (fun q h => h.elim) (fun r61 u9 t9 H1 locs ht hvm hw hB hz1 hk1 hS => ?_)
                      obtain rfl : H = H1 := hB.symm.trans ht
                      have hw : r61 = nf (8 * k + 0) := hw
                      subst hw
                      have hPc := hP.sub (ws' := (mo_ws m0 z0 z1 z2 z3 z4 z5 z6 z7 z8 z9 z10 a0 a1 a2 a3 a4 a5 a6 a7 a8 a9 b0 b1 32 b2 b3 b4 b5 ++ (iw_ws a7 cI 256 g_22))) [0, 1] rfl
                      have hDc := hD.sub (ws' := (mo_ws m0 z0 z1 z2 z3 z4 z5 z6 z7 z8 z9 z10 a0 a1 a2 a3 a4 a5 a6 a7 a8 a9 b0 b1 32 b2 b3 b4 b5 ++ (iw_ws a7 cI 256 g_22))) [0, 1] (by decide) rfl
                      have hKc := hK.sub (tys' := [(cJ, .long), (cI, .int)]) [0, 1] rfl
                      have hFc := va_free (wc := (mo_ws m0 z0 z1 z2 z3 z4 z5 z6 z7 z8 z9 z10 a0 a1 a2 a3 a4 a5 a6 a7 a8 a9 b0 b1 32 b2 b3 b4 b5 ++ (iw_ws a7 cI 256 g_22))) hD hS hA [0, 1] rfl
                      refine va_callv (va_runV (As := [.long (nf (8 * k + 0))]) (rest := []) ⟨hx, hb, hml, hown, hts⟩ (c_Bm_eight l dC dI cJ cI H.size m0 z0 z1 z2 z3 z4 z5 z6 z7 z8 z9 z10 a0 a1 a2 a3 a4 a5 a6 a7 a8 a9 b0 b1 32 b2 b3 b4 b5 g_22 (nf (8 * k + 0)) (by omega)) (cwV 1 hts (gw_V gk_1070 gk_1072 gp_36 gk_7 gk_1073) rfl rfl rfl (by decide +kernel) ⟨Nat.le_of_ble_eq_true rfl, Nat.le_of_ble_eq_true rfl⟩) ⟨fun a U g mk q => by obtain ⟨q0, q1, qP, qK, qD⟩ := q; exact ⟨q0, q1, qP, va_K.moved (u := U) (U := U.calling g mk a) (Vm.Alike.refl U.vm) qK, qD⟩, va_recv hK hP (ci := 8) (q0 := 0) rfl rfl, fun U hU hW => ⟨rfl, by rw [hU], by rw [hU]; exact hPc, va_K.moved hW.alike hKc, hDc.weaken (fun _ _ _ _ => trivial)⟩⟩ rfl rfl hl.1 rfl (lv_room (Nat.le_of_ble_eq_true rfl)) d_Bm_link_64 ⟨Nat.le_of_ble_eq_true rfl, Nat.le_of_ble_eq_true rfl⟩) hS (fun q _ h => hFc q h) hFc (fun u9 t9 H1 locs ht hvm hw hB hz1 hk1 hS => ?_)
                      obtain ⟨hP1, hK1, hD1⟩ := hB
                      rw [ht] at hP1
                      obtain ⟨hP, hD⟩ := va_join (wr := [(a8, .inl (cI, 64, .inl sc)), (a9, .inl (cI, 8, .inl st)), (b0, .inl (cI, 8, .inl kS)), (b1, .inl (cI, 64, .inl kR)), (a2, .inl (cJ, 4, .inr (.inl tf))), (a0, .inl (cJ, 1232, .inr (.inl nf))), (a1, .inl (cJ, 616, .inr (.inl cf)))]) (w1 := [(m0, .inr (8, [.int z0, .int z1, .int z2, .int z3, .long z4, .long z5, .long z6, .long z7, .long z8, .long z9, .int z10, .ref a0, .ref a1, .ref a2, .ref a3, .ref a4, .ref a5, .ref a6, .ref a7, .ref a8, .ref a9, .ref b0, .ref b1, .int (nI 40), .ref b2, .ref b3, .ref b4, .ref b5])), (a7, .inl (cI, 256, .inl (o8 g_22 32 (nf (8 * k + 0)))))]) hP hD [0, 1] [2, 3, 4, 5, 6, 7, 8] rfl rfl (by decide) (by decide) hk1 hFc hP1 hD1
                      have hP := hP.sub (ws' := [(m0, .inr (8, [.int z0, .int z1, .int z2, .int z3, .long z4, .long z5, .long z6, .long z7, .long z8, .long z9, .int z10, .ref a0, .ref a1, .ref a2, .ref a3, .ref a4, .ref a5, .ref a6, .ref a7, .ref a8, .ref a9, .ref b0, .ref b1, .int (nI 40), .ref b2, .ref b3, .ref b4, .ref b5])), (a7, .inl (cI, 256, .inl (o8 g_22 32 (nf (8 * k + 0))))), (a8, .inl (cI, 64, .inl sc)), (a9, .inl (cI, 8, .inl st)), (b0, .inl (cI, 8, .inl kS)), (b1, .inl (cI, 64, .inl kR)), (a2, .inl (cJ, 4, .inr (.inl tf))), (a0, .inl (cJ, 1232, .inr (.inl nf))), (a1, .inl (cJ, 616, .inr (.inl cf)))]) [7, 8, 0, 1, 2, 3, 4, 5, 6] rfl
                      have hD := hD.sub (ws' := [(m0, .inr (8, [.int z0, .int z1, .int z2, .int z3, .long z4, .long z5, .long z6, .long z7, .long z8, .long z9, .int z10, .ref a0, .ref a1, .ref a2, .ref a3, .ref a4, .ref a5, .ref a6, .ref a7, .ref a8, .ref a9, .ref b0, .ref b1, .int (nI 40), .ref b2, .ref b3, .ref b4, .ref b5])), (a7, .inl (cI, 256, .inl (o8 g_22 32 (nf (8 * k + 0))))), (a8, .inl (cI, 64, .inl sc)), (a9, .inl (cI, 8, .inl st)), (b0, .inl (cI, 8, .inl kS)), (b1, .inl (cI, 64, .inl kR)), (a2, .inl (cJ, 4, .inr (.inl tf))), (a0, .inl (cJ, 1232, .inr (.inl nf))), (a1, .inl (cJ, 616, .inr (.inl cf)))]) [7, 8, 0, 1, 2, 3, 4, 5, 6] (by decide) rfl
                      generalize H1 = H at hP hS ⊢
                      obtain ⟨g_28, eg_28⟩ : ∃ f : Nat → Int32, f = o8 g_22 32 (nf (8 * k + 0)) := ⟨_, rfl⟩
                      rw [← eg_28] at hP hD
                      have hm_29 : bok g_28 5 [0, 0, 0, 0, nf (8 * k + 0)] := bok_add _ hm_23 rfl eg_28
                      obtain ⟨i_30, ei_30⟩ : ∃ y : Int32, y = 0 + 1 := ⟨_, rfl⟩
                      refine lv_iinc (v := i_30) (lv' := [(2, .int i_30), (0, .ref m0), (1, .int (nI k))]) hx hb d_Bm_link_67 hl (k := 0) rfl (by rw [ei_30]; rfl) (by decide) rfl (fun ls hl => ?_)
                      obtain rfl : i_30 = 1 := by rw [ei_30]; exact by decide
                      refine lv_goto (tgt := 44) hx hb d_Bm_link_70 (by decide) ?_
                      refine lv_iload_n hx hb d_Bm_link_44 rfl (lv_at hl 0 rfl) ?_
                      refine lv_aload_n hx hb d_Bm_link_45 rfl (lv_at hl 1 rfl) ?_
                      refine lv_iload_n hx hb d_Bm_link_46 rfl (lv_at hl 2 rfl) ?_
                      refine lv_iconst (v := 0) hx hb d_Bm_link_47 (by decide) ?_
                      have hPc := hP.sub (ws' := (mo_ws m0 z0 z1 z2 z3 z4 z5 z6 z7 z8 z9 z10 a0 a1 a2 a3 a4 a5 a6 a7 a8 a9 b0 b1 40 b2 b3 b4 b5 ++ (jw_ws a0 cJ 1232 nf))) [0, 7] rfl
                      have hKc := hK.sub (tys' := [(cJ, .long), (cI, .int)]) [0, 1] rfl
                      refine va_calll (va_runV (As := [.int (nI k), .int 0]) (rest := [.int 1]) ⟨hx, hb, hml, hown, hts⟩ (c_Bm_at l H dC dI cJ cI m0 z0 z1 z2 z3 z4 z5 z6 z7 z8 z9 z10 a0 a1 a2 a3 a4 a5 a6 a7 a8 a9 b0 b1 40 b2 b3 b4 b5 nf k 0 hPc (by omega)) (cwV 2 hts (gw_V gk_1102 gk_1104 gp_42 gk_7 gk_1105) rfl rfl rfl (by decide +kernel) ⟨Nat.le_of_ble_eq_true rfl, Nat.le_of_ble_eq_true rfl⟩) ⟨fun a U g mk q => ⟨q.1, q.2.1, va_K.moved (u := U) (U := U.calling g mk a) (Vm.Alike.refl U.vm) q.2.2⟩, va_recv hK hP (ci := 8) (q0 := 0) rfl rfl, fun U hU hW => ⟨rfl, hU, va_K.moved hW.alike hKc⟩⟩ rfl rfl hl.1 rfl (lv_room (Nat.le_of_ble_eq_true rfl)) d_Bm_link_48 ⟨Nat.le_of_ble_eq_true rfl, Nat.le_of_ble_eq_true rfl⟩) hS (fun q _ h => h.elim) (fun q h => h.elim) (fun r48 u9 t9 H1 locs ht hvm hw hB hz1 hk1 hS => ?_)
                      obtain rfl : H = H1 := hB.symm.trans ht
                      have hw : r48 = nf (8 * k + 0) := hw
                      subst hw
                      refine va_calli (va_runS (As := [.long (nf (8 * k + 0))]) (rest := [.int 1]) ⟨hx, hb, hml, hown, hts⟩ (c_Bm_many l H (nf (8 * k + 0))) (cwS 1 hts (gw_S gk_1106 gk_1107 gk_7 gk_1108) rfl rfl rfl (by decide +kernel) ⟨Nat.le_of_ble_eq_true rfl, Nat.le_of_ble_eq_true rfl⟩) ⟨fun a U g mk q => q, fun U hU hW => ⟨rfl, hU⟩⟩ rfl rfl hl.1 rfl (lv_room (Nat.le_of_ble_eq_true rfl)) d_Bm_link_51 ⟨Nat.le_of_ble_eq_true rfl, Nat.le_of_ble_eq_true rfl⟩) hS (fun q _ h => h.elim) (fun q h => h.elim) (fun r51 u9 t9 H1 locs ht hvm hw hB hz1 hk1 hS => ?_)
                      obtain rfl : H = H1 := hB.symm.trans ht
                      have hw : r51 = if nf (8 * k + 0) = 2 then 8 else 5 := hw
                      subst hw
                      rw [show (if nf (8 * k + 0) = 2 then 8 else 5 : Int32) = 5 from if_neg hw2]
                      refine lv_icmp_ge (tgt := 73) hx hb d_Bm_link_54 (by decide) (fun c_31 => ?_) (fun c_31 => ?_)
                      · -- taken
                        exact absurd c_31 (by decide)
                      · -- not taken
                        refine lv_aload_n hx hb d_Bm_link_57 rfl (lv_at hl 1 rfl) ?_
                        refine lv_aload_n hx hb d_Bm_link_58 rfl (lv_at hl 1 rfl) ?_
                        refine lv_iload_n hx hb d_Bm_link_59 rfl (lv_at hl 2 rfl) ?_
                        refine lv_iload_n hx hb d_Bm_link_60 rfl (lv_at hl 0 rfl) ?_
                        have hPc := hP.sub (ws' := (mo_ws m0 z0 z1 z2 z3 z4 z5 z6 z7 z8 z9 z10 a0 a1 a2 a3 a4 a5 a6 a7 a8 a9 b0 b1 40 b2 b3 b4 b5 ++ (jw_ws a0 cJ 1232 nf))) [0, 7] rfl
                        have hKc := hK.sub (tys' := [(cJ, .long), (cI, .int)]) [0, 1] rfl
                        refine va_calll (va_runV (As := [.int (nI k), .int 1]) (rest := [.ref m0]) ⟨hx, hb, hml, hown, hts⟩ (c_Bm_at l H dC dI cJ cI m0 z0 z1 z2 z3 z4 z5 z6 z7 z8 z9 z10 a0 a1 a2 a3 a4 a5 a6 a7 a8 a9 b0 b1 40 b2 b3 b4 b5 nf k 1 hPc (by omega)) (cwV 2 hts (gw_V gk_1102 gk_1104 gp_42 gk_7 gk_1105) rfl rfl rfl (by decide +kernel) ⟨Nat.le_of_ble_eq_true rfl, Nat.le_of_ble_eq_true rfl⟩) ⟨fun a U g mk q => ⟨q.1, q.2.1, va_K.moved (u := U) (U := U.calling g mk a) (Vm.Alike.refl U.vm) q.2.2⟩, va_recv hK hP (ci := 8) (q0 := 0) rfl rfl, fun U hU hW => ⟨rfl, hU, va_K.moved hW.alike hKc⟩⟩ rfl rfl hl.1 rfl (lv_room (Nat.le_of_ble_eq_true rfl)) d_Bm_link_61 ⟨Nat.le_of_ble_eq_true rfl, Nat.le_of_ble_eq_true rfl⟩) hS (fun q _ h => h.elim) (fun q h => h.elim) (fun r61 u9 t9 H1 locs ht hvm hw hB hz1 hk1 hS => ?_)
                        obtain rfl : H = H1 := hB.symm.trans ht
                        have hw : r61 = nf (8 * k + 1) := hw
                        subst hw
                        have hPc := hP.sub (ws' := (mo_ws m0 z0 z1 z2 z3 z4 z5 z6 z7 z8 z9 z10 a0 a1 a2 a3 a4 a5 a6 a7 a8 a9 b0 b1 40 b2 b3 b4 b5 ++ (iw_ws a7 cI 256 g_28))) [0, 1] rfl
                        have hDc := hD.sub (ws' := (mo_ws m0 z0 z1 z2 z3 z4 z5 z6 z7 z8 z9 z10 a0 a1 a2 a3 a4 a5 a6 a7 a8 a9 b0 b1 40 b2 b3 b4 b5 ++ (iw_ws a7 cI 256 g_28))) [0, 1] (by decide) rfl
                        have hKc := hK.sub (tys' := [(cJ, .long), (cI, .int)]) [0, 1] rfl
                        have hFc := va_free (wc := (mo_ws m0 z0 z1 z2 z3 z4 z5 z6 z7 z8 z9 z10 a0 a1 a2 a3 a4 a5 a6 a7 a8 a9 b0 b1 40 b2 b3 b4 b5 ++ (iw_ws a7 cI 256 g_28))) hD hS hA [0, 1] rfl
                        refine va_callv (va_runV (As := [.long (nf (8 * k + 1))]) (rest := []) ⟨hx, hb, hml, hown, hts⟩ (c_Bm_eight l dC dI cJ cI H.size m0 z0 z1 z2 z3 z4 z5 z6 z7 z8 z9 z10 a0 a1 a2 a3 a4 a5 a6 a7 a8 a9 b0 b1 40 b2 b3 b4 b5 g_28 (nf (8 * k + 1)) (by omega)) (cwV 1 hts (gw_V gk_1070 gk_1072 gp_36 gk_7 gk_1073) rfl rfl rfl (by decide +kernel) ⟨Nat.le_of_ble_eq_true rfl, Nat.le_of_ble_eq_true rfl⟩) ⟨fun a U g mk q => by obtain ⟨q0, q1, qP, qK, qD⟩ := q; exact ⟨q0, q1, qP, va_K.moved (u := U) (U := U.calling g mk a) (Vm.Alike.refl U.vm) qK, qD⟩, va_recv hK hP (ci := 8) (q0 := 0) rfl rfl, fun U hU hW => ⟨rfl, by rw [hU], by rw [hU]; exact hPc, va_K.moved hW.alike hKc, hDc.weaken (fun _ _ _ _ => trivial)⟩⟩ rfl rfl hl.1 rfl (lv_room (Nat.le_of_ble_eq_true rfl)) d_Bm_link_64 ⟨Nat.le_of_ble_eq_true rfl, Nat.le_of_ble_eq_true rfl⟩) hS (fun q _ h => hFc q h) hFc (fun u9 t9 H1 locs ht hvm hw hB hz1 hk1 hS => ?_)
                        obtain ⟨hP1, hK1, hD1⟩ := hB
                        rw [ht] at hP1
                        obtain ⟨hP, hD⟩ := va_join (wr := [(a8, .inl (cI, 64, .inl sc)), (a9, .inl (cI, 8, .inl st)), (b0, .inl (cI, 8, .inl kS)), (b1, .inl (cI, 64, .inl kR)), (a2, .inl (cJ, 4, .inr (.inl tf))), (a0, .inl (cJ, 1232, .inr (.inl nf))), (a1, .inl (cJ, 616, .inr (.inl cf)))]) (w1 := [(m0, .inr (8, [.int z0, .int z1, .int z2, .int z3, .long z4, .long z5, .long z6, .long z7, .long z8, .long z9, .int z10, .ref a0, .ref a1, .ref a2, .ref a3, .ref a4, .ref a5, .ref a6, .ref a7, .ref a8, .ref a9, .ref b0, .ref b1, .int (nI 48), .ref b2, .ref b3, .ref b4, .ref b5])), (a7, .inl (cI, 256, .inl (o8 g_28 40 (nf (8 * k + 1)))))]) hP hD [0, 1] [2, 3, 4, 5, 6, 7, 8] rfl rfl (by decide) (by decide) hk1 hFc hP1 hD1
                        have hP := hP.sub (ws' := [(m0, .inr (8, [.int z0, .int z1, .int z2, .int z3, .long z4, .long z5, .long z6, .long z7, .long z8, .long z9, .int z10, .ref a0, .ref a1, .ref a2, .ref a3, .ref a4, .ref a5, .ref a6, .ref a7, .ref a8, .ref a9, .ref b0, .ref b1, .int (nI 48), .ref b2, .ref b3, .ref b4, .ref b5])), (a7, .inl (cI, 256, .inl (o8 g_28 40 (nf (8 * k + 1))))), (a8, .inl (cI, 64, .inl sc)), (a9, .inl (cI, 8, .inl st)), (b0, .inl (cI, 8, .inl kS)), (b1, .inl (cI, 64, .inl kR)), (a2, .inl (cJ, 4, .inr (.inl tf))), (a0, .inl (cJ, 1232, .inr (.inl nf))), (a1, .inl (cJ, 616, .inr (.inl cf)))]) [7, 8, 0, 1, 2, 3, 4, 5, 6] rfl
                        have hD := hD.sub (ws' := [(m0, .inr (8, [.int z0, .int z1, .int z2, .int z3, .long z4, .long z5, .long z6, .long z7, .long z8, .long z9, .int z10, .ref a0, .ref a1, .ref a2, .ref a3, .ref a4, .ref a5, .ref a6, .ref a7, .ref a8, .ref a9, .ref b0, .ref b1, .int (nI 48), .ref b2, .ref b3, .ref b4, .ref b5])), (a7, .inl (cI, 256, .inl (o8 g_28 40 (nf (8 * k + 1))))), (a8, .inl (cI, 64, .inl sc)), (a9, .inl (cI, 8, .inl st)), (b0, .inl (cI, 8, .inl kS)), (b1, .inl (cI, 64, .inl kR)), (a2, .inl (cJ, 4, .inr (.inl tf))), (a0, .inl (cJ, 1232, .inr (.inl nf))), (a1, .inl (cJ, 616, .inr (.inl cf)))]) [7, 8, 0, 1, 2, 3, 4, 5, 6] (by decide) rfl
                        generalize H1 = H at hP hS ⊢
                        obtain ⟨g_33, eg_33⟩ : ∃ f : Nat → Int32, f = o8 g_28 40 (nf (8 * k + 1)) := ⟨_, rfl⟩
                        rw [← eg_33] at hP hD
                        have hm_34 : bok g_33 6 [0, 0, 0, 0, nf (8 * k + 0), nf (8 * k + 1)] := bok_add _ hm_29 rfl eg_33
                        obtain ⟨i_35, ei_35⟩ : ∃ y : Int32, y = 1 + 1 := ⟨_, rfl⟩
                        refine lv_iinc (v := i_35) (lv' := [(2, .int i_35), (0, .ref m0), (1, .int (nI k))]) hx hb d_Bm_link_67 hl (k := 0) rfl (by rw [ei_35]; rfl) (by decide) rfl (fun ls hl => ?_)
                        obtain rfl : i_35 = 2 := by rw [ei_35]; exact by decide
                        refine lv_goto (tgt := 44) hx hb d_Bm_link_70 (by decide) ?_
                        refine lv_iload_n hx hb d_Bm_link_44 rfl (lv_at hl 0 rfl) ?_
                        refine lv_aload_n hx hb d_Bm_link_45 rfl (lv_at hl 1 rfl) ?_
                        refine lv_iload_n hx hb d_Bm_link_46 rfl (lv_at hl 2 rfl) ?_
                        refine lv_iconst (v := 0) hx hb d_Bm_link_47 (by decide) ?_
                        have hPc := hP.sub (ws' := (mo_ws m0 z0 z1 z2 z3 z4 z5 z6 z7 z8 z9 z10 a0 a1 a2 a3 a4 a5 a6 a7 a8 a9 b0 b1 48 b2 b3 b4 b5 ++ (jw_ws a0 cJ 1232 nf))) [0, 7] rfl
                        have hKc := hK.sub (tys' := [(cJ, .long), (cI, .int)]) [0, 1] rfl
                        refine va_calll (va_runV (As := [.int (nI k), .int 0]) (rest := [.int 2]) ⟨hx, hb, hml, hown, hts⟩ (c_Bm_at l H dC dI cJ cI m0 z0 z1 z2 z3 z4 z5 z6 z7 z8 z9 z10 a0 a1 a2 a3 a4 a5 a6 a7 a8 a9 b0 b1 48 b2 b3 b4 b5 nf k 0 hPc (by omega)) (cwV 2 hts (gw_V gk_1102 gk_1104 gp_42 gk_7 gk_1105) rfl rfl rfl (by decide +kernel) ⟨Nat.le_of_ble_eq_true rfl, Nat.le_of_ble_eq_true rfl⟩) ⟨fun a U g mk q => ⟨q.1, q.2.1, va_K.moved (u := U) (U := U.calling g mk a) (Vm.Alike.refl U.vm) q.2.2⟩, va_recv hK hP (ci := 8) (q0 := 0) rfl rfl, fun U hU hW => ⟨rfl, hU, va_K.moved hW.alike hKc⟩⟩ rfl rfl hl.1 rfl (lv_room (Nat.le_of_ble_eq_true rfl)) d_Bm_link_48 ⟨Nat.le_of_ble_eq_true rfl, Nat.le_of_ble_eq_true rfl⟩) hS (fun q _ h => h.elim) (fun q h => h.elim) (fun r48 u9 t9 H1 locs ht hvm hw hB hz1 hk1 hS => ?_)
                        obtain rfl : H = H1 := hB.symm.trans ht
                        have hw : r48 = nf (8 * k + 0) := hw
                        subst hw
                        refine va_calli (va_runS (As := [.long (nf (8 * k + 0))]) (rest := [.int 2]) ⟨hx, hb, hml, hown, hts⟩ (c_Bm_many l H (nf (8 * k + 0))) (cwS 1 hts (gw_S gk_1106 gk_1107 gk_7 gk_1108) rfl rfl rfl (by decide +kernel) ⟨Nat.le_of_ble_eq_true rfl, Nat.le_of_ble_eq_true rfl⟩) ⟨fun a U g mk q => q, fun U hU hW => ⟨rfl, hU⟩⟩ rfl rfl hl.1 rfl (lv_room (Nat.le_of_ble_eq_true rfl)) d_Bm_link_51 ⟨Nat.le_of_ble_eq_true rfl, Nat.le_of_ble_eq_true rfl⟩) hS (fun q _ h => h.elim) (fun q h => h.elim) (fun r51 u9 t9 H1 locs ht hvm hw hB hz1 hk1 hS => ?_)
                        obtain rfl : H = H1 := hB.symm.trans ht
                        have hw : r51 = if nf (8 * k + 0) = 2 then 8 else 5 := hw
                        subst hw
                        rw [show (if nf (8 * k + 0) = 2 then 8 else 5 : Int32) = 5 from if_neg hw2]
                        refine lv_icmp_ge (tgt := 73) hx hb d_Bm_link_54 (by decide) (fun c_36 => ?_) (fun c_36 => ?_)
                        · -- taken
                          exact absurd c_36 (by decide)
                        · -- not taken
                          refine lv_aload_n hx hb d_Bm_link_57 rfl (lv_at hl 1 rfl) ?_
                          refine lv_aload_n hx hb d_Bm_link_58 rfl (lv_at hl 1 rfl) ?_
                          refine lv_iload_n hx hb d_Bm_link_59 rfl (lv_at hl 2 rfl) ?_
                          refine lv_iload_n hx hb d_Bm_link_60 rfl (lv_at hl 0 rfl) ?_
                          have hPc := hP.sub (ws' := (mo_ws m0 z0 z1 z2 z3 z4 z5 z6 z7 z8 z9 z10 a0 a1 a2 a3 a4 a5 a6 a7 a8 a9 b0 b1 48 b2 b3 b4 b5 ++ (jw_ws a0 cJ 1232 nf))) [0, 7] rfl
                          have hKc := hK.sub (tys' := [(cJ, .long), (cI, .int)]) [0, 1] rfl
                          refine va_calll (va_runV (As := [.int (nI k), .int 2]) (rest := [.ref m0]) ⟨hx, hb, hml, hown, hts⟩ (c_Bm_at l H dC dI cJ cI m0 z0 z1 z2 z3 z4 z5 z6 z7 z8 z9 z10 a0 a1 a2 a3 a4 a5 a6 a7 a8 a9 b0 b1 48 b2 b3 b4 b5 nf k 2 hPc (by omega)) (cwV 2 hts (gw_V gk_1102 gk_1104 gp_42 gk_7 gk_1105) rfl rfl rfl (by decide +kernel) ⟨Nat.le_of_ble_eq_true rfl, Nat.le_of_ble_eq_true rfl⟩) ⟨fun a U g mk q => ⟨q.1, q.2.1, va_K.moved (u := U) (U := U.calling g mk a) (Vm.Alike.refl U.vm) q.2.2⟩, va_recv hK hP (ci := 8) (q0 := 0) rfl rfl, fun U hU hW => ⟨rfl, hU, va_K.moved hW.alike hKc⟩⟩ rfl rfl hl.1 rfl (lv_room (Nat.le_of_ble_eq_true rfl)) d_Bm_link_61 ⟨Nat.le_of_ble_eq_true rfl, Nat.le_of_ble_eq_true rfl⟩) hS (fun q _ h => h.elim) (fun q h => h.elim) (fun r61 u9 t9 H1 locs ht hvm hw hB hz1 hk1 hS => ?_)
                          obtain rfl : H = H1 := hB.symm.trans ht
                          have hw : r61 = nf (8 * k + 2) := hw
                          subst hw
                          have hPc := hP.sub (ws' := (mo_ws m0 z0 z1 z2 z3 z4 z5 z6 z7 z8 z9 z10 a0 a1 a2 a3 a4 a5 a6 a7 a8 a9 b0 b1 48 b2 b3 b4 b5 ++ (iw_ws a7 cI 256 g_33))) [0, 1] rfl
                          have hDc := hD.sub (ws' := (mo_ws m0 z0 z1 z2 z3 z4 z5 z6 z7 z8 z9 z10 a0 a1 a2 a3 a4 a5 a6 a7 a8 a9 b0 b1 48 b2 b3 b4 b5 ++ (iw_ws a7 cI 256 g_33))) [0, 1] (by decide) rfl
                          have hKc := hK.sub (tys' := [(cJ, .long), (cI, .int)]) [0, 1] rfl
                          have hFc := va_free (wc := (mo_ws m0 z0 z1 z2 z3 z4 z5 z6 z7 z8 z9 z10 a0 a1 a2 a3 a4 a5 a6 a7 a8 a9 b0 b1 48 b2 b3 b4 b5 ++ (iw_ws a7 cI 256 g_33))) hD hS hA [0, 1] rfl
                          refine va_callv (va_runV (As := [.long (nf (8 * k + 2))]) (rest := []) ⟨hx, hb, hml, hown, hts⟩ (c_Bm_eight l dC dI cJ cI H.size m0 z0 z1 z2 z3 z4 z5 z6 z7 z8 z9 z10 a0 a1 a2 a3 a4 a5 a6 a7 a8 a9 b0 b1 48 b2 b3 b4 b5 g_33 (nf (8 * k + 2)) (by omega)) (cwV 1 hts (gw_V gk_1070 gk_1072 gp_36 gk_7 gk_1073) rfl rfl rfl (by decide +kernel) ⟨Nat.le_of_ble_eq_true rfl, Nat.le_of_ble_eq_true rfl⟩) ⟨fun a U g mk q => by obtain ⟨q0, q1, qP, qK, qD⟩ := q; exact ⟨q0, q1, qP, va_K.moved (u := U) (U := U.calling g mk a) (Vm.Alike.refl U.vm) qK, qD⟩, va_recv hK hP (ci := 8) (q0 := 0) rfl rfl, fun U hU hW => ⟨rfl, by rw [hU], by rw [hU]; exact hPc, va_K.moved hW.alike hKc, hDc.weaken (fun _ _ _ _ => trivial)⟩⟩ rfl rfl hl.1 rfl (lv_room (Nat.le_of_ble_eq_true rfl)) d_Bm_link_64 ⟨Nat.le_of_ble_eq_true rfl, Nat.le_of_ble_eq_true rfl⟩) hS (fun q _ h => hFc q h) hFc (fun u9 t9 H1 locs ht hvm hw hB hz1 hk1 hS => ?_)
                          obtain ⟨hP1, hK1, hD1⟩ := hB
                          rw [ht] at hP1
                          obtain ⟨hP, hD⟩ := va_join (wr := [(a8, .inl (cI, 64, .inl sc)), (a9, .inl (cI, 8, .inl st)), (b0, .inl (cI, 8, .inl kS)), (b1, .inl (cI, 64, .inl kR)), (a2, .inl (cJ, 4, .inr (.inl tf))), (a0, .inl (cJ, 1232, .inr (.inl nf))), (a1, .inl (cJ, 616, .inr (.inl cf)))]) (w1 := [(m0, .inr (8, [.int z0, .int z1, .int z2, .int z3, .long z4, .long z5, .long z6, .long z7, .long z8, .long z9, .int z10, .ref a0, .ref a1, .ref a2, .ref a3, .ref a4, .ref a5, .ref a6, .ref a7, .ref a8, .ref a9, .ref b0, .ref b1, .int (nI 56), .ref b2, .ref b3, .ref b4, .ref b5])), (a7, .inl (cI, 256, .inl (o8 g_33 48 (nf (8 * k + 2)))))]) hP hD [0, 1] [2, 3, 4, 5, 6, 7, 8] rfl rfl (by decide) (by decide) hk1 hFc hP1 hD1
                          have hP := hP.sub (ws' := [(m0, .inr (8, [.int z0, .int z1, .int z2, .int z3, .long z4, .long z5, .long z6, .long z7, .long z8, .long z9, .int z10, .ref a0, .ref a1, .ref a2, .ref a3, .ref a4, .ref a5, .ref a6, .ref a7, .ref a8, .ref a9, .ref b0, .ref b1, .int (nI 56), .ref b2, .ref b3, .ref b4, .ref b5])), (a7, .inl (cI, 256, .inl (o8 g_33 48 (nf (8 * k + 2))))), (a8, .inl (cI, 64, .inl sc)), (a9, .inl (cI, 8, .inl st)), (b0, .inl (cI, 8, .inl kS)), (b1, .inl (cI, 64, .inl kR)), (a2, .inl (cJ, 4, .inr (.inl tf))), (a0, .inl (cJ, 1232, .inr (.inl nf))), (a1, .inl (cJ, 616, .inr (.inl cf)))]) [7, 8, 0, 1, 2, 3, 4, 5, 6] rfl
                          have hD := hD.sub (ws' := [(m0, .inr (8, [.int z0, .int z1, .int z2, .int z3, .long z4, .long z5, .long z6, .long z7, .long z8, .long z9, .int z10, .ref a0, .ref a1, .ref a2, .ref a3, .ref a4, .ref a5, .ref a6, .ref a7, .ref a8, .ref a9, .ref b0, .ref b1, .int (nI 56), .ref b2, .ref b3, .ref b4, .ref b5])), (a7, .inl (cI, 256, .inl (o8 g_33 48 (nf (8 * k + 2))))), (a8, .inl (cI, 64, .inl sc)), (a9, .inl (cI, 8, .inl st)), (b0, .inl (cI, 8, .inl kS)), (b1, .inl (cI, 64, .inl kR)), (a2, .inl (cJ, 4, .inr (.inl tf))), (a0, .inl (cJ, 1232, .inr (.inl nf))), (a1, .inl (cJ, 616, .inr (.inl cf)))]) [7, 8, 0, 1, 2, 3, 4, 5, 6] (by decide) rfl
                          generalize H1 = H at hP hS ⊢
                          obtain ⟨g_38, eg_38⟩ : ∃ f : Nat → Int32, f = o8 g_33 48 (nf (8 * k + 2)) := ⟨_, rfl⟩
                          rw [← eg_38] at hP hD
                          have hm_39 : bok g_38 7 [0, 0, 0, 0, nf (8 * k + 0), nf (8 * k + 1), nf (8 * k + 2)] := bok_add _ hm_34 rfl eg_38
                          obtain ⟨i_40, ei_40⟩ : ∃ y : Int32, y = 2 + 1 := ⟨_, rfl⟩
                          refine lv_iinc (v := i_40) (lv' := [(2, .int i_40), (0, .ref m0), (1, .int (nI k))]) hx hb d_Bm_link_67 hl (k := 0) rfl (by rw [ei_40]; rfl) (by decide) rfl (fun ls hl => ?_)
                          obtain rfl : i_40 = 3 := by rw [ei_40]; exact by decide
                          refine lv_goto (tgt := 44) hx hb d_Bm_link_70 (by decide) ?_
                          refine lv_iload_n hx hb d_Bm_link_44 rfl (lv_at hl 0 rfl) ?_
                          refine lv_aload_n hx hb d_Bm_link_45 rfl (lv_at hl 1 rfl) ?_
                          refine lv_iload_n hx hb d_Bm_link_46 rfl (lv_at hl 2 rfl) ?_
                          refine lv_iconst (v := 0) hx hb d_Bm_link_47 (by decide) ?_
                          have hPc := hP.sub (ws' := (mo_ws m0 z0 z1 z2 z3 z4 z5 z6 z7 z8 z9 z10 a0 a1 a2 a3 a4 a5 a6 a7 a8 a9 b0 b1 56 b2 b3 b4 b5 ++ (jw_ws a0 cJ 1232 nf))) [0, 7] rfl
                          have hKc := hK.sub (tys' := [(cJ, .long), (cI, .int)]) [0, 1] rfl
                          refine va_calll (va_runV (As := [.int (nI k), .int 0]) (rest := [.int 3]) ⟨hx, hb, hml, hown, hts⟩ (c_Bm_at l H dC dI cJ cI m0 z0 z1 z2 z3 z4 z5 z6 z7 z8 z9 z10 a0 a1 a2 a3 a4 a5 a6 a7 a8 a9 b0 b1 56 b2 b3 b4 b5 nf k 0 hPc (by omega)) (cwV 2 hts (gw_V gk_1102 gk_1104 gp_42 gk_7 gk_1105) rfl rfl rfl (by decide +kernel) ⟨Nat.le_of_ble_eq_true rfl, Nat.le_of_ble_eq_true rfl⟩) ⟨fun a U g mk q => ⟨q.1, q.2.1, va_K.moved (u := U) (U := U.calling g mk a) (Vm.Alike.refl U.vm) q.2.2⟩, va_recv hK hP (ci := 8) (q0 := 0) rfl rfl, fun U hU hW => ⟨rfl, hU, va_K.moved hW.alike hKc⟩⟩ rfl rfl hl.1 rfl (lv_room (Nat.le_of_ble_eq_true rfl)) d_Bm_link_48 ⟨Nat.le_of_ble_eq_true rfl, Nat.le_of_ble_eq_true rfl⟩) hS (fun q _ h => h.elim) (fun q h => h.elim) (fun r48 u9 t9 H1 locs ht hvm hw hB hz1 hk1 hS => ?_)
                          obtain rfl : H = H1 := hB.symm.trans ht
                          have hw : r48 = nf (8 * k + 0) := hw
                          subst hw
                          refine va_calli (va_runS (As := [.long (nf (8 * k + 0))]) (rest := [.int 3]) ⟨hx, hb, hml, hown, hts⟩ (c_Bm_many l H (nf (8 * k + 0))) (cwS 1 hts (gw_S gk_1106 gk_1107 gk_7 gk_1108) rfl rfl rfl (by decide +kernel) ⟨Nat.le_of_ble_eq_true rfl, Nat.le_of_ble_eq_true rfl⟩) ⟨fun a U g mk q => q, fun U hU hW => ⟨rfl, hU⟩⟩ rfl rfl hl.1 rfl (lv_room (Nat.le_of_ble_eq_true rfl)) d_Bm_link_51 ⟨Nat.le_of_ble_eq_true rfl, Nat.le_of_ble_eq_true rfl⟩) hS (fun q _ h => h.elim) (fun q h => h.elim) (fun r51 u9 t9 H1 locs ht hvm hw hB hz1 hk1 hS => ?_)
                          obtain rfl : H = H1 := hB.symm.trans ht
                          have hw : r51 = if nf (8 * k + 0) = 2 then 8 else 5 := hw
                          subst hw
                          rw [show (if nf (8 * k + 0) = 2 then 8 else 5 : Int32) = 5 from if_neg hw2]
                          refine lv_icmp_ge (tgt := 73) hx hb d_Bm_link_54 (by decide) (fun c_41 => ?_) (fun c_41 => ?_)
                          · -- taken
                            exact absurd c_41 (by decide)
                          · -- not taken
                            refine lv_aload_n hx hb d_Bm_link_57 rfl (lv_at hl 1 rfl) ?_
                            refine lv_aload_n hx hb d_Bm_link_58 rfl (lv_at hl 1 rfl) ?_
                            refine lv_iload_n hx hb d_Bm_link_59 rfl (lv_at hl 2 rfl) ?_
                            refine lv_iload_n hx hb d_Bm_link_60 rfl (lv_at hl 0 rfl) ?_
                            have hPc := hP.sub (ws' := (mo_ws m0 z0 z1 z2 z3 z4 z5 z6 z7 z8 z9 z10 a0 a1 a2 a3 a4 a5 a6 a7 a8 a9 b0 b1 56 b2 b3 b4 b5 ++ (jw_ws a0 cJ 1232 nf))) [0, 7] rfl
                            have hKc := hK.sub (tys' := [(cJ, .long), (cI, .int)]) [0, 1] rfl
                            refine va_calll (va_runV (As := [.int (nI k), .int 3]) (rest := [.ref m0]) ⟨hx, hb, hml, hown, hts⟩ (c_Bm_at l H dC dI cJ cI m0 z0 z1 z2 z3 z4 z5 z6 z7 z8 z9 z10 a0 a1 a2 a3 a4 a5 a6 a7 a8 a9 b0 b1 56 b2 b3 b4 b5 nf k 3 hPc (by omega)) (cwV 2 hts (gw_V gk_1102 gk_1104 gp_42 gk_7 gk_1105) rfl rfl rfl (by decide +kernel) ⟨Nat.le_of_ble_eq_true rfl, Nat.le_of_ble_eq_true rfl⟩) ⟨fun a U g mk q => ⟨q.1, q.2.1, va_K.moved (u := U) (U := U.calling g mk a) (Vm.Alike.refl U.vm) q.2.2⟩, va_recv hK hP (ci := 8) (q0 := 0) rfl rfl, fun U hU hW => ⟨rfl, hU, va_K.moved hW.alike hKc⟩⟩ rfl rfl hl.1 rfl (lv_room (Nat.le_of_ble_eq_true rfl)) d_Bm_link_61 ⟨Nat.le_of_ble_eq_true rfl, Nat.le_of_ble_eq_true rfl⟩) hS (fun q _ h => h.elim) (fun q h => h.elim) (fun r61 u9 t9 H1 locs ht hvm hw hB hz1 hk1 hS => ?_)
                            obtain rfl : H = H1 := hB.symm.trans ht
                            have hw : r61 = nf (8 * k + 3) := hw
                            subst hw
                            have hPc := hP.sub (ws' := (mo_ws m0 z0 z1 z2 z3 z4 z5 z6 z7 z8 z9 z10 a0 a1 a2 a3 a4 a5 a6 a7 a8 a9 b0 b1 56 b2 b3 b4 b5 ++ (iw_ws a7 cI 256 g_38))) [0, 1] rfl
                            have hDc := hD.sub (ws' := (mo_ws m0 z0 z1 z2 z3 z4 z5 z6 z7 z8 z9 z10 a0 a1 a2 a3 a4 a5 a6 a7 a8 a9 b0 b1 56 b2 b3 b4 b5 ++ (iw_ws a7 cI 256 g_38))) [0, 1] (by decide) rfl
                            have hKc := hK.sub (tys' := [(cJ, .long), (cI, .int)]) [0, 1] rfl
                            have hFc := va_free (wc := (mo_ws m0 z0 z1 z2 z3 z4 z5 z6 z7 z8 z9 z10 a0 a1 a2 a3 a4 a5 a6 a7 a8 a9 b0 b1 56 b2 b3 b4 b5 ++ (iw_ws a7 cI 256 g_38))) hD hS hA [0, 1] rfl
                            refine va_callv (va_runV (As := [.long (nf (8 * k + 3))]) (rest := []) ⟨hx, hb, hml, hown, hts⟩ (c_Bm_eight l dC dI cJ cI H.size m0 z0 z1 z2 z3 z4 z5 z6 z7 z8 z9 z10 a0 a1 a2 a3 a4 a5 a6 a7 a8 a9 b0 b1 56 b2 b3 b4 b5 g_38 (nf (8 * k + 3)) (by omega)) (cwV 1 hts (gw_V gk_1070 gk_1072 gp_36 gk_7 gk_1073) rfl rfl rfl (by decide +kernel) ⟨Nat.le_of_ble_eq_true rfl, Nat.le_of_ble_eq_true rfl⟩) ⟨fun a U g mk q => by obtain ⟨q0, q1, qP, qK, qD⟩ := q; exact ⟨q0, q1, qP, va_K.moved (u := U) (U := U.calling g mk a) (Vm.Alike.refl U.vm) qK, qD⟩, va_recv hK hP (ci := 8) (q0 := 0) rfl rfl, fun U hU hW => ⟨rfl, by rw [hU], by rw [hU]; exact hPc, va_K.moved hW.alike hKc, hDc.weaken (fun _ _ _ _ => trivial)⟩⟩ rfl rfl hl.1 rfl (lv_room (Nat.le_of_ble_eq_true rfl)) d_Bm_link_64 ⟨Nat.le_of_ble_eq_true rfl, Nat.le_of_ble_eq_true rfl⟩) hS (fun q _ h => hFc q h) hFc (fun u9 t9 H1 locs ht hvm hw hB hz1 hk1 hS => ?_)
                            obtain ⟨hP1, hK1, hD1⟩ := hB
                            rw [ht] at hP1
                            obtain ⟨hP, hD⟩ := va_join (wr := [(a8, .inl (cI, 64, .inl sc)), (a9, .inl (cI, 8, .inl st)), (b0, .inl (cI, 8, .inl kS)), (b1, .inl (cI, 64, .inl kR)), (a2, .inl (cJ, 4, .inr (.inl tf))), (a0, .inl (cJ, 1232, .inr (.inl nf))), (a1, .inl (cJ, 616, .inr (.inl cf)))]) (w1 := [(m0, .inr (8, [.int z0, .int z1, .int z2, .int z3, .long z4, .long z5, .long z6, .long z7, .long z8, .long z9, .int z10, .ref a0, .ref a1, .ref a2, .ref a3, .ref a4, .ref a5, .ref a6, .ref a7, .ref a8, .ref a9, .ref b0, .ref b1, .int (nI 64), .ref b2, .ref b3, .ref b4, .ref b5])), (a7, .inl (cI, 256, .inl (o8 g_38 56 (nf (8 * k + 3)))))]) hP hD [0, 1] [2, 3, 4, 5, 6, 7, 8] rfl rfl (by decide) (by decide) hk1 hFc hP1 hD1
                            have hP := hP.sub (ws' := [(m0, .inr (8, [.int z0, .int z1, .int z2, .int z3, .long z4, .long z5, .long z6, .long z7, .long z8, .long z9, .int z10, .ref a0, .ref a1, .ref a2, .ref a3, .ref a4, .ref a5, .ref a6, .ref a7, .ref a8, .ref a9, .ref b0, .ref b1, .int (nI 64), .ref b2, .ref b3, .ref b4, .ref b5])), (a7, .inl (cI, 256, .inl (o8 g_38 56 (nf (8 * k + 3))))), (a8, .inl (cI, 64, .inl sc)), (a9, .inl (cI, 8, .inl st)), (b0, .inl (cI, 8, .inl kS)), (b1, .inl (cI, 64, .inl kR)), (a2, .inl (cJ, 4, .inr (.inl tf))), (a0, .inl (cJ, 1232, .inr (.inl nf))), (a1, .inl (cJ, 616, .inr (.inl cf)))]) [7, 8, 0, 1, 2, 3, 4, 5, 6] rfl
                            have hD := hD.sub (ws' := [(m0, .inr (8, [.int z0, .int z1, .int z2, .int z3, .long z4, .long z5, .long z6, .long z7, .long z8, .long z9, .int z10, .ref a0, .ref a1, .ref a2, .ref a3, .ref a4, .ref a5, .ref a6, .ref a7, .ref a8, .ref a9, .ref b0, .ref b1, .int (nI 64), .ref b2, .ref b3, .ref b4, .ref b5])), (a7, .inl (cI, 256, .inl (o8 g_38 56 (nf (8 * k + 3))))), (a8, .inl (cI, 64, .inl sc)), (a9, .inl (cI, 8, .inl st)), (b0, .inl (cI, 8, .inl kS)), (b1, .inl (cI, 64, .inl kR)), (a2, .inl (cJ, 4, .inr (.inl tf))), (a0, .inl (cJ, 1232, .inr (.inl nf))), (a1, .inl (cJ, 616, .inr (.inl cf)))]) [7, 8, 0, 1, 2, 3, 4, 5, 6] (by decide) rfl
                            generalize H1 = H at hP hS ⊢
                            obtain ⟨g_43, eg_43⟩ : ∃ f : Nat → Int32, f = o8 g_38 56 (nf (8 * k + 3)) := ⟨_, rfl⟩
                            rw [← eg_43] at hP hD
                            have hm_44 : bok g_43 8 [0, 0, 0, 0, nf (8 * k + 0), nf (8 * k + 1), nf (8 * k + 2), nf (8 * k + 3)] := bok_add _ hm_39 rfl eg_43
                            obtain ⟨i_45, ei_45⟩ : ∃ y : Int32, y = 3 + 1 := ⟨_, rfl⟩
                            refine lv_iinc (v := i_45) (lv' := [(2, .int i_45), (0, .ref m0), (1, .int (nI k))]) hx hb d_Bm_link_67 hl (k := 0) rfl (by rw [ei_45]; rfl) (by decide) rfl (fun ls hl => ?_)
                            obtain rfl : i_45 = 4 := by rw [ei_45]; exact by decide
                            refine lv_goto (tgt := 44) hx hb d_Bm_link_70 (by decide) ?_
                            refine lv_iload_n hx hb d_Bm_link_44 rfl (lv_at hl 0 rfl) ?_
                            refine lv_aload_n hx hb d_Bm_link_45 rfl (lv_at hl 1 rfl) ?_
                            refine lv_iload_n hx hb d_Bm_link_46 rfl (lv_at hl 2 rfl) ?_
                            refine lv_iconst (v := 0) hx hb d_Bm_link_47 (by decide) ?_
                            have hPc := hP.sub (ws' := (mo_ws m0 z0 z1 z2 z3 z4 z5 z6 z7 z8 z9 z10 a0 a1 a2 a3 a4 a5 a6 a7 a8 a9 b0 b1 64 b2 b3 b4 b5 ++ (jw_ws a0 cJ 1232 nf))) [0, 7] rfl
                            have hKc := hK.sub (tys' := [(cJ, .long), (cI, .int)]) [0, 1] rfl
                            refine va_calll (va_runV (As := [.int (nI k), .int 0]) (rest := [.int 4]) ⟨hx, hb, hml, hown, hts⟩ (c_Bm_at l H dC dI cJ cI m0 z0 z1 z2 z3 z4 z5 z6 z7 z8 z9 z10 a0 a1 a2 a3 a4 a5 a6 a7 a8 a9 b0 b1 64 b2 b3 b4 b5 nf k 0 hPc (by omega)) (cwV 2 hts (gw_V gk_1102 gk_1104 gp_42 gk_7 gk_1105) rfl rfl rfl (by decide +kernel) ⟨Nat.le_of_ble_eq_true rfl, Nat.le_of_ble_eq_true rfl⟩) ⟨fun a U g mk q => ⟨q.1, q.2.1, va_K.moved (u := U) (U := U.calling g mk a) (Vm.Alike.refl U.vm) q.2.2⟩, va_recv hK hP (ci := 8) (q0 := 0) rfl rfl, fun U hU hW => ⟨rfl, hU, va_K.moved hW.alike hKc⟩⟩ rfl rfl hl.1 rfl (lv_room (Nat.le_of_ble_eq_true rfl)) d_Bm_link_48 ⟨Nat.le_of_ble_eq_true rfl, Nat.le_of_ble_eq_true rfl⟩) hS (fun q _ h => h.elim) (fun q h => h.elim) (fun r48 u9 t9 H1 locs ht hvm hw hB hz1 hk1 hS => ?_)
                            obtain rfl : H = H1 := hB.symm.trans ht
                            have hw : r48 = nf (8 * k + 0) := hw
                            subst hw
                            refine va_calli (va_runS (As := [.long (nf (8 * k + 0))]) (rest := [.int 4]) ⟨hx, hb, hml, hown, hts⟩ (c_Bm_many l H (nf (8 * k + 0))) (cwS 1 hts (gw_S gk_1106 gk_1107 gk_7 gk_1108) rfl rfl rfl (by decide +kernel) ⟨Nat.le_of_ble_eq_true rfl, Nat.le_of_ble_eq_true rfl⟩) ⟨fun a U g mk q => q, fun U hU hW => ⟨rfl, hU⟩⟩ rfl rfl hl.1 rfl (lv_room (Nat.le_of_ble_eq_true rfl)) d_Bm_link_51 ⟨Nat.le_of_ble_eq_true rfl, Nat.le_of_ble_eq_true rfl⟩) hS (fun q _ h => h.elim) (fun q h => h.elim) (fun r51 u9 t9 H1 locs ht hvm hw hB hz1 hk1 hS => ?_)
                            obtain rfl : H = H1 := hB.symm.trans ht
                            have hw : r51 = if nf (8 * k + 0) = 2 then 8 else 5 := hw
                            subst hw
                            rw [show (if nf (8 * k + 0) = 2 then 8 else 5 : Int32) = 5 from if_neg hw2]
                            refine lv_icmp_ge (tgt := 73) hx hb d_Bm_link_54 (by decide) (fun c_46 => ?_) (fun c_46 => ?_)
                            · -- taken
                              exact absurd c_46 (by decide)
                            · -- not taken
                              refine lv_aload_n hx hb d_Bm_link_57 rfl (lv_at hl 1 rfl) ?_
                              refine lv_aload_n hx hb d_Bm_link_58 rfl (lv_at hl 1 rfl) ?_
                              refine lv_iload_n hx hb d_Bm_link_59 rfl (lv_at hl 2 rfl) ?_
                              refine lv_iload_n hx hb d_Bm_link_60 rfl (lv_at hl 0 rfl) ?_
                              have hPc := hP.sub (ws' := (mo_ws m0 z0 z1 z2 z3 z4 z5 z6 z7 z8 z9 z10 a0 a1 a2 a3 a4 a5 a6 a7 a8 a9 b0 b1 64 b2 b3 b4 b5 ++ (jw_ws a0 cJ 1232 nf))) [0, 7] rfl
                              have hKc := hK.sub (tys' := [(cJ, .long), (cI, .int)]) [0, 1] rfl
                              refine va_calll (va_runV (As := [.int (nI k), .int 4]) (rest := [.ref m0]) ⟨hx, hb, hml, hown, hts⟩ (c_Bm_at l H dC dI cJ cI m0 z0 z1 z2 z3 z4 z5 z6 z7 z8 z9 z10 a0 a1 a2 a3 a4 a5 a6 a7 a8 a9 b0 b1 64 b2 b3 b4 b5 nf k 4 hPc (by omega)) (cwV 2 hts (gw_V gk_1102 gk_1104 gp_42 gk_7 gk_1105) rfl rfl rfl (by decide +kernel) ⟨Nat.le_of_ble_eq_true rfl, Nat.le_of_ble_eq_true rfl⟩) ⟨fun a U g mk q => ⟨q.1, q.2.1, va_K.moved (u := U) (U := U.calling g mk a) (Vm.Alike.refl U.vm) q.2.2⟩, va_recv hK hP (ci := 8) (q0 := 0) rfl rfl, fun U hU hW => ⟨rfl, hU, va_K.moved hW.alike hKc⟩⟩ rfl rfl hl.1 rfl (lv_room (Nat.le_of_ble_eq_true rfl)) d_Bm_link_61 ⟨Nat.le_of_ble_eq_true rfl, Nat.le_of_ble_eq_true rfl⟩) hS (fun q _ h => h.elim) (fun q h => h.elim) (fun r61 u9 t9 H1 locs ht hvm hw hB hz1 hk1 hS => ?_)
                              obtain rfl : H = H1 := hB.symm.trans ht
                              have hw : r61 = nf (8 * k + 4) := hw
                              subst hw
                              have hPc := hP.sub (ws' := (mo_ws m0 z0 z1 z2 z3 z4 z5 z6 z7 z8 z9 z10 a0 a1 a2 a3 a4 a5 a6 a7 a8 a9 b0 b1 64 b2 b3 b4 b5 ++ (iw_ws a7 cI 256 g_43))) [0, 1] rfl
                              have hDc := hD.sub (ws' := (mo_ws m0 z0 z1 z2 z3 z4 z5 z6 z7 z8 z9 z10 a0 a1 a2 a3 a4 a5 a6 a7 a8 a9 b0 b1 64 b2 b3 b4 b5 ++ (iw_ws a7 cI 256 g_43))) [0, 1] (by decide) rfl
                              have hKc := hK.sub (tys' := [(cJ, .long), (cI, .int)]) [0, 1] rfl
                              have hFc := va_free (wc := (mo_ws m0 z0 z1 z2 z3 z4 z5 z6 z7 z8 z9 z10 a0 a1 a2 a3 a4 a5 a6 a7 a8 a9 b0 b1 64 b2 b3 b4 b5 ++ (iw_ws a7 cI 256 g_43))) hD hS hA [0, 1] rfl
                              refine va_callv (va_runV (As := [.long (nf (8 * k + 4))]) (rest := []) ⟨hx, hb, hml, hown, hts⟩ (c_Bm_eight l dC dI cJ cI H.size m0 z0 z1 z2 z3 z4 z5 z6 z7 z8 z9 z10 a0 a1 a2 a3 a4 a5 a6 a7 a8 a9 b0 b1 64 b2 b3 b4 b5 g_43 (nf (8 * k + 4)) (by omega)) (cwV 1 hts (gw_V gk_1070 gk_1072 gp_36 gk_7 gk_1073) rfl rfl rfl (by decide +kernel) ⟨Nat.le_of_ble_eq_true rfl, Nat.le_of_ble_eq_true rfl⟩) ⟨fun a U g mk q => by obtain ⟨q0, q1, qP, qK, qD⟩ := q; exact ⟨q0, q1, qP, va_K.moved (u := U) (U := U.calling g mk a) (Vm.Alike.refl U.vm) qK, qD⟩, va_recv hK hP (ci := 8) (q0 := 0) rfl rfl, fun U hU hW => ⟨rfl, by rw [hU], by rw [hU]; exact hPc, va_K.moved hW.alike hKc, hDc.weaken (fun _ _ _ _ => trivial)⟩⟩ rfl rfl hl.1 rfl (lv_room (Nat.le_of_ble_eq_true rfl)) d_Bm_link_64 ⟨Nat.le_of_ble_eq_true rfl, Nat.le_of_ble_eq_true rfl⟩) hS (fun q _ h => hFc q h) hFc (fun u9 t9 H1 locs ht hvm hw hB hz1 hk1 hS => ?_)
                              obtain ⟨hP1, hK1, hD1⟩ := hB
                              rw [ht] at hP1
                              obtain ⟨hP, hD⟩ := va_join (wr := [(a8, .inl (cI, 64, .inl sc)), (a9, .inl (cI, 8, .inl st)), (b0, .inl (cI, 8, .inl kS)), (b1, .inl (cI, 64, .inl kR)), (a2, .inl (cJ, 4, .inr (.inl tf))), (a0, .inl (cJ, 1232, .inr (.inl nf))), (a1, .inl (cJ, 616, .inr (.inl cf)))]) (w1 := [(m0, .inr (8, [.int z0, .int z1, .int z2, .int z3, .long z4, .long z5, .long z6, .long z7, .long z8, .long z9, .int z10, .ref a0, .ref a1, .ref a2, .ref a3, .ref a4, .ref a5, .ref a6, .ref a7, .ref a8, .ref a9, .ref b0, .ref b1, .int (nI 72), .ref b2, .ref b3, .ref b4, .ref b5])), (a7, .inl (cI, 256, .inl (o8 g_43 64 (nf (8 * k + 4)))))]) hP hD [0, 1] [2, 3, 4, 5, 6, 7, 8] rfl rfl (by decide) (by decide) hk1 hFc hP1 hD1
                              have hP := hP.sub (ws' := [(m0, .inr (8, [.int z0, .int z1, .int z2, .int z3, .long z4, .long z5, .long z6, .long z7, .long z8, .long z9, .int z10, .ref a0, .ref a1, .ref a2, .ref a3, .ref a4, .ref a5, .ref a6, .ref a7, .ref a8, .ref a9, .ref b0, .ref b1, .int (nI 72), .ref b2, .ref b3, .ref b4, .ref b5])), (a7, .inl (cI, 256, .inl (o8 g_43 64 (nf (8 * k + 4))))), (a8, .inl (cI, 64, .inl sc)), (a9, .inl (cI, 8, .inl st)), (b0, .inl (cI, 8, .inl kS)), (b1, .inl (cI, 64, .inl kR)), (a2, .inl (cJ, 4, .inr (.inl tf))), (a0, .inl (cJ, 1232, .inr (.inl nf))), (a1, .inl (cJ, 616, .inr (.inl cf)))]) [7, 8, 0, 1, 2, 3, 4, 5, 6] rfl
                              have hD := hD.sub (ws' := [(m0, .inr (8, [.int z0, .int z1, .int z2, .int z3, .long z4, .long z5, .long z6, .long z7, .long z8, .long z9, .int z10, .ref a0, .ref a1, .ref a2, .ref a3, .ref a4, .ref a5, .ref a6, .ref a7, .ref a8, .ref a9, .ref b0, .ref b1, .int (nI 72), .ref b2, .ref b3, .ref b4, .ref b5])), (a7, .inl (cI, 256, .inl (o8 g_43 64 (nf (8 * k + 4))))), (a8, .inl (cI, 64, .inl sc)), (a9, .inl (cI, 8, .inl st)), (b0, .inl (cI, 8, .inl kS)), (b1, .inl (cI, 64, .inl kR)), (a2, .inl (cJ, 4, .inr (.inl tf))), (a0, .inl (cJ, 1232, .inr (.inl nf))), (a1, .inl (cJ, 616, .inr (.inl cf)))]) [7, 8, 0, 1, 2, 3, 4, 5, 6] (by decide) rfl
                              generalize H1 = H at hP hS ⊢
                              obtain ⟨g_48, eg_48⟩ : ∃ f : Nat → Int32, f = o8 g_43 64 (nf (8 * k + 4)) := ⟨_, rfl⟩
                              rw [← eg_48] at hP hD
                              have hm_49 : bok g_48 9 [0, 0, 0, 0, nf (8 * k + 0), nf (8 * k + 1), nf (8 * k + 2), nf (8 * k + 3), nf (8 * k + 4)] := bok_add _ hm_44 rfl eg_48
                              obtain ⟨i_50, ei_50⟩ : ∃ y : Int32, y = 4 + 1 := ⟨_, rfl⟩
                              refine lv_iinc (v := i_50) (lv' := [(2, .int i_50), (0, .ref m0), (1, .int (nI k))]) hx hb d_Bm_link_67 hl (k := 0) rfl (by rw [ei_50]; rfl) (by decide) rfl (fun ls hl => ?_)
                              obtain rfl : i_50 = 5 := by rw [ei_50]; exact by decide
                              refine lv_goto (tgt := 44) hx hb d_Bm_link_70 (by decide) ?_
                              refine lv_iload_n hx hb d_Bm_link_44 rfl (lv_at hl 0 rfl) ?_
                              refine lv_aload_n hx hb d_Bm_link_45 rfl (lv_at hl 1 rfl) ?_
                              refine lv_iload_n hx hb d_Bm_link_46 rfl (lv_at hl 2 rfl) ?_
                              refine lv_iconst (v := 0) hx hb d_Bm_link_47 (by decide) ?_
                              have hPc := hP.sub (ws' := (mo_ws m0 z0 z1 z2 z3 z4 z5 z6 z7 z8 z9 z10 a0 a1 a2 a3 a4 a5 a6 a7 a8 a9 b0 b1 72 b2 b3 b4 b5 ++ (jw_ws a0 cJ 1232 nf))) [0, 7] rfl
                              have hKc := hK.sub (tys' := [(cJ, .long), (cI, .int)]) [0, 1] rfl
                              refine va_calll (va_runV (As := [.int (nI k), .int 0]) (rest := [.int 5]) ⟨hx, hb, hml, hown, hts⟩ (c_Bm_at l H dC dI cJ cI m0 z0 z1 z2 z3 z4 z5 z6 z7 z8 z9 z10 a0 a1 a2 a3 a4 a5 a6 a7 a8 a9 b0 b1 72 b2 b3 b4 b5 nf k 0 hPc (by omega)) (cwV 2 hts (gw_V gk_1102 gk_1104 gp_42 gk_7 gk_1105) rfl rfl rfl (by decide +kernel) ⟨Nat.le_of_ble_eq_true rfl, Nat.le_of_ble_eq_true rfl⟩) ⟨fun a U g mk q => ⟨q.1, q.2.1, va_K.moved (u := U) (U := U.calling g mk a) (Vm.Alike.refl U.vm) q.2.2⟩, va_recv hK hP (ci := 8) (q0 := 0) rfl rfl, fun U hU hW => ⟨rfl, hU, va_K.moved hW.alike hKc⟩⟩ rfl rfl hl.1 rfl (lv_room (Nat.le_of_ble_eq_true rfl)) d_Bm_link_48 ⟨Nat.le_of_ble_eq_true rfl, Nat.le_of_ble_eq_true rfl⟩) hS (fun q _ h => h.elim) (fun q h => h.elim) (fun r48 u9 t9 H1 locs ht hvm hw hB hz1 hk1 hS => ?_)
                              obtain rfl : H = H1 := hB.symm.trans ht
                              have hw : r48 = nf (8 * k + 0) := hw
                              subst hw
                              refine va_calli (va_runS (As := [.long (nf (8 * k + 0))]) (rest := [.int 5]) ⟨hx, hb, hml, hown, hts⟩ (c_Bm_many l H (nf (8 * k + 0))) (cwS 1 hts (gw_S gk_1106 gk_1107 gk_7 gk_1108) rfl rfl rfl (by decide +kernel) ⟨Nat.le_of_ble_eq_true rfl, Nat.le_of_ble_eq_true rfl⟩) ⟨fun a U g mk q => q, fun U hU hW => ⟨rfl, hU⟩⟩ rfl rfl hl.1 rfl (lv_room (Nat.le_of_ble_eq_true rfl)) d_Bm_link_51 ⟨Nat.le_of_ble_eq_true rfl, Nat.le_of_ble_eq_true rfl⟩) hS (fun q _ h => h.elim) (fun q h => h.elim) (fun r51 u9 t9 H1 locs ht hvm hw hB hz1 hk1 hS => ?_)
                              obtain rfl : H = H1 := hB.symm.trans ht
                              have hw : r51 = if nf (8 * k + 0) = 2 then 8 else 5 := hw
                              subst hw
                              rw [show (if nf (8 * k + 0) = 2 then 8 else 5 : Int32) = 5 from if_neg hw2]
                              refine lv_icmp_ge (tgt := 73) hx hb d_Bm_link_54 (by decide) (fun c_51 => ?_) (fun c_51 => ?_)
                              · -- taken
                                refine lv_aload_n hx hb d_Bm_link_73 rfl (lv_at hl 1 rfl) ?_
                                have hPc := hP.sub (ws' := (mo_ws m0 z0 z1 z2 z3 z4 z5 z6 z7 z8 z9 z10 a0 a1 a2 a3 a4 a5 a6 a7 a8 a9 b0 b1 (8 * 9) b2 b3 b4 b5 ++ (iw_ws a7 cI 256 g_48 ++ (iw_ws a8 cI 64 sc ++ (iw_ws a9 cI 8 st ++ (iw_ws b0 cI 8 kS ++ (iw_ws b1 cI 64 kR ++ (jw_ws a2 cJ 4 tf)))))))) [0, 1, 2, 3, 4, 5, 6] rfl
                                have hDc := hD.sub (ws' := (mo_ws m0 z0 z1 z2 z3 z4 z5 z6 z7 z8 z9 z10 a0 a1 a2 a3 a4 a5 a6 a7 a8 a9 b0 b1 (8 * 9) b2 b3 b4 b5 ++ (iw_ws a7 cI 256 g_48 ++ (iw_ws a8 cI 64 sc ++ (iw_ws a9 cI 8 st ++ (iw_ws b0 cI 8 kS ++ (iw_ws b1 cI 64 kR ++ (jw_ws a2 cJ 4 tf)))))))) [0, 1, 2, 3, 4, 5, 6] (by decide) rfl
                                have hKc := hK.sub (tys' := [(cJ, .long), (cI, .int)]) [0, 1] rfl
                                have hFc := va_free (wc := (mo_ws m0 z0 z1 z2 z3 z4 z5 z6 z7 z8 z9 z10 a0 a1 a2 a3 a4 a5 a6 a7 a8 a9 b0 b1 (8 * 9) b2 b3 b4 b5 ++ (iw_ws a7 cI 256 g_48 ++ (iw_ws a8 cI 64 sc ++ (iw_ws a9 cI 8 st ++ (iw_ws b0 cI 8 kS ++ (iw_ws b1 cI 64 kR ++ (jw_ws a2 cJ 4 tf)))))))) hD hS hA [0, 1, 2, 3, 4, 5, 6] rfl
                                refine va_callv (va_runV (As := []) (rest := []) ⟨hx, hb, hml, hown, hts⟩ (c_Bm_digest l dC dI cJ cI H.size m0 z0 z1 z2 z3 z4 z5 z6 z7 z8 z9 z10 a0 a1 a2 a3 a4 a5 a6 a7 a8 a9 b0 b1 b2 b3 b4 b5 9 g_48 sc st tf [0, 0, 0, 0, nf (8 * k + 0), nf (8 * k + 1), nf (8 * k + 2), nf (8 * k + 3), nf (8 * k + 4)] (by decide) hm_49) (cwV 0 hts (gw_V gk_1074 gk_1076 gp_37 gk_7 gk_1077) rfl rfl rfl (by decide +kernel) ⟨Nat.le_of_ble_eq_true rfl, Nat.le_of_ble_eq_true rfl⟩) ⟨fun a U g mk q => by obtain ⟨q0, q1, qP, qK, qD⟩ := q; exact ⟨q0, q1, qP, va_K.moved (u := U) (U := U.calling g mk a) (Vm.Alike.refl U.vm) qK, qD⟩, va_recv hK hP (ci := 8) (q0 := 0) rfl rfl, fun U hU hW => ⟨rfl, by rw [hU], by rw [hU]; exact hPc, va_K.moved hW.alike hKc, hDc.weaken (fun _ _ _ _ => trivial)⟩⟩ rfl rfl hl.1 rfl (lv_room (Nat.le_of_ble_eq_true rfl)) d_Bm_link_74 ⟨Nat.le_of_ble_eq_true rfl, Nat.le_of_ble_eq_true rfl⟩) hS (fun q _ h => hFc q h) hFc (fun u9 t9 H1 locs ht hvm hw hB hz1 hk1 hS => ?_)
                                obtain ⟨gbk_52, gsk_52, gtk_52, gfk_52, gok_52⟩ := u9
                                have hdg : dgo gtk_52 [0, 0, 0, 0, nf (8 * k + 0), nf (8 * k + 1), nf (8 * k + 2), nf (8 * k + 3), nf (8 * k + 4)] ∧ ∀ j, j < 4 → gfk_52 j = lkw [0, 0, 0, 0, nf (8 * k + 0), nf (8 * k + 1), nf (8 * k + 2), nf (8 * k + 3), nf (8 * k + 4)] j := hw
                                obtain ⟨hP1, hK1, hD1⟩ := hB
                                rw [ht] at hP1
                                obtain ⟨hP, hD⟩ := va_join (wr := [(a0, .inl (cJ, 1232, .inr (.inl nf))), (a1, .inl (cJ, 616, .inr (.inl cf)))]) (w1 := [(m0, .inr (8, [.int z0, .int z1, .int z2, .int z3, .long z4, .long z5, .long z6, .long z7, .long z8, .long z9, .int z10, .ref a0, .ref a1, .ref a2, .ref a3, .ref a4, .ref a5, .ref a6, .ref a7, .ref a8, .ref a9, .ref b0, .ref b1, .int (nI gok_52), .ref b2, .ref b3, .ref b4, .ref b5])), (a7, .inl (cI, 256, .inl gbk_52)), (a8, .inl (cI, 64, .inl gsk_52)), (a9, .inl (cI, 8, .inl gtk_52)), (b0, .inl (cI, 8, .inl kS)), (b1, .inl (cI, 64, .inl kR)), (a2, .inl (cJ, 4, .inr (.inl gfk_52)))]) hP hD [0, 1, 2, 3, 4, 5, 6] [7, 8] rfl rfl (by decide) (by decide) hk1 hFc hP1 hD1
                                have hP := hP.sub (ws' := [(m0, .inr (8, [.int z0, .int z1, .int z2, .int z3, .long z4, .long z5, .long z6, .long z7, .long z8, .long z9, .int z10, .ref a0, .ref a1, .ref a2, .ref a3, .ref a4, .ref a5, .ref a6, .ref a7, .ref a8, .ref a9, .ref b0, .ref b1, .int (nI gok_52), .ref b2, .ref b3, .ref b4, .ref b5])), (a7, .inl (cI, 256, .inl gbk_52)), (a8, .inl (cI, 64, .inl gsk_52)), (a9, .inl (cI, 8, .inl gtk_52)), (b0, .inl (cI, 8, .inl kS)), (b1, .inl (cI, 64, .inl kR)), (a2, .inl (cJ, 4, .inr (.inl gfk_52))), (a0, .inl (cJ, 1232, .inr (.inl nf))), (a1, .inl (cJ, 616, .inr (.inl cf)))]) [2, 3, 4, 5, 6, 7, 8, 0, 1] rfl
                                have hD := hD.sub (ws' := [(m0, .inr (8, [.int z0, .int z1, .int z2, .int z3, .long z4, .long z5, .long z6, .long z7, .long z8, .long z9, .int z10, .ref a0, .ref a1, .ref a2, .ref a3, .ref a4, .ref a5, .ref a6, .ref a7, .ref a8, .ref a9, .ref b0, .ref b1, .int (nI gok_52), .ref b2, .ref b3, .ref b4, .ref b5])), (a7, .inl (cI, 256, .inl gbk_52)), (a8, .inl (cI, 64, .inl gsk_52)), (a9, .inl (cI, 8, .inl gtk_52)), (b0, .inl (cI, 8, .inl kS)), (b1, .inl (cI, 64, .inl kR)), (a2, .inl (cJ, 4, .inr (.inl gfk_52))), (a0, .inl (cJ, 1232, .inr (.inl nf))), (a1, .inl (cJ, 616, .inr (.inl cf)))]) [2, 3, 4, 5, 6, 7, 8, 0, 1] (by decide) rfl
                                generalize H1 = H at hP hS ⊢
                                exact W.vret hx hb hr (fun t ht9 hW => ⟨⟨(gbk_52, gsk_52, gtk_52, gfk_52, gok_52), rfl, (by rw [← hmsg]; exact hdg), by rw [ht9]; exact hP, va_K.moved hW.alike hK, hD⟩, hS.F ht9⟩) hS.2.2 d_Bm_link_77
                              · -- not taken
                                exact absurd c_51 (by decide)
                  · -- not taken
                    exact absurd c_25 (by decide)
set_option maxHeartbeats 8000000 in
set_option maxRecDepth 100000 in
theorem c_Bm_link_5 (l : Launch) (dC : Nat → ClassId) (dI : Nat → Nat → Nat) (cJ cI : ClassId) (sz : Nat) (m0 : Nat) (z0 z1 z2 z3 : Int32) (z4 z5 z6 z7 z8 z9 : Int64) (z10 : Int32) (a0 a1 a2 a3 a4 a5 a6 a7 a8 a9 b0 b1 oc b2 b3 b4 b5 : Nat) (bf sc st : Nat → Int32) (tf nf cf : Nat → Int64) (k : Nat) (msg : List Int64) (hk : k < 154) (hk0 : 0 < k) (hw2 : ¬ nf (8 * k + 0) = 2) (hmsg : [cf (4 * (k - 1) + 0), cf (4 * (k - 1) + 1), cf (4 * (k - 1) + 2), cf (4 * (k - 1) + 3), nf (8 * k + 0), nf (8 * k + 1), nf (8 * k + 2), nf (8 * k + 3), nf (8 * k + 4)] = msg) : Met l y_Bm_link w_Bm_link ({ frames := 3, cells := 0, slots := 0, locals := 75 }) (va_Pc [.ref m0, .int (nI k)] (fun U => U.heap.size = sz ∧ va_P (dC, dI) classes (mo_ws m0 z0 z1 z2 z3 z4 z5 z6 z7 z8 z9 z10 a0 a1 a2 a3 a4 a5 a6 a7 a8 a9 b0 b1 oc b2 b3 b4 b5 ++ (iw_ws a7 cI 256 bf ++ (iw_ws a8 cI 64 sc ++ (iw_ws a9 cI 8 st ++ (iw_ws b0 cI 8 kS ++ (iw_ws b1 cI 64 kR ++ (jw_ws a2 cJ 4 tf ++ (jw_ws a0 cJ 1232 nf ++ (jw_ws a1 cJ 616 cf))))))))) U.heap ∧ va_K (dC, dI) classes [(cJ, .long), (cI, .int)] U ∧ va_D (fun _ => True) (mo_ws m0 z0 z1 z2 z3 z4 z5 z6 z7 z8 z9 z10 a0 a1 a2 a3 a4 a5 a6 a7 a8 a9 b0 b1 oc b2 b3 b4 b5 ++ (iw_ws a7 cI 256 bf ++ (iw_ws a8 cI 64 sc ++ (iw_ws a9 cI 8 st ++ (iw_ws b0 cI 8 kS ++ (iw_ws b1 cI 64 kR ++ (jw_ws a2 cJ 4 tf ++ (jw_ws a0 cJ 1232 nf ++ (jw_ws a1 cJ 616 cf))))))))))) (va_Qv (fun u9 : DU => dgo u9.2.2.1 msg ∧ ∀ j, j < 4 → u9.2.2.2.1 j = lkw msg j) (fun u9 t => va_P (dC, dI) classes (mo_ws m0 z0 z1 z2 z3 z4 z5 z6 z7 z8 z9 z10 a0 a1 a2 a3 a4 a5 a6 a7 a8 a9 b0 b1 u9.2.2.2.2 b2 b3 b4 b5 ++ (iw_ws a7 cI 256 u9.1 ++ (iw_ws a8 cI 64 u9.2.1 ++ (iw_ws a9 cI 8 u9.2.2.1 ++ (iw_ws b0 cI 8 kS ++ (iw_ws b1 cI 64 kR ++ (jw_ws a2 cJ 4 u9.2.2.2.1 ++ (jw_ws a0 cJ 1232 nf ++ (jw_ws a1 cJ 616 cf))))))))) t.heap ∧ va_K (dC, dI) classes [(cJ, .long), (cI, .int)] t ∧ va_D (va_A (mo_ws m0 z0 z1 z2 z3 z4 z5 z6 z7 z8 z9 z10 a0 a1 a2 a3 a4 a5 a6 a7 a8 a9 b0 b1 oc b2 b3 b4 b5 ++ (iw_ws a7 cI 256 bf ++ (iw_ws a8 cI 64 sc ++ (iw_ws a9 cI 8 st ++ (iw_ws b0 cI 8 kS ++ (iw_ws b1 cI 64 kR ++ (jw_ws a2 cJ 4 tf ++ (jw_ws a0 cJ 1232 nf ++ (jw_ws a1 cJ 616 cf))))))))) sz) (mo_ws m0 z0 z1 z2 z3 z4 z5 z6 z7 z8 z9 z10 a0 a1 a2 a3 a4 a5 a6 a7 a8 a9 b0 b1 u9.2.2.2.2 b2 b3 b4 b5 ++ (iw_ws a7 cI 256 u9.1 ++ (iw_ws a8 cI 64 u9.2.1 ++ (iw_ws a9 cI 8 u9.2.2.1 ++ (iw_ws b0 cI 8 kS ++ (iw_ws b1 cI 64 kR ++ (jw_ws a2 cJ 4 u9.2.2.2.1 ++ (jw_ws a0 cJ 1232 nf ++ (jw_ws a1 cJ 616 cf)))))))))) (va_A (mo_ws m0 z0 z1 z2 z3 z4 z5 z6 z7 z8 z9 z10 a0 a1 a2 a3 a4 a5 a6 a7 a8 a9 b0 b1 oc b2 b3 b4 b5 ++ (iw_ws a7 cI 256 bf ++ (iw_ws a8 cI 64 sc ++ (iw_ws a9 cI 8 st ++ (iw_ws b0 cI 8 kS ++ (iw_ws b1 cI 64 kR ++ (jw_ws a2 cJ 4 tf ++ (jw_ws a0 cJ 1232 nf ++ (jw_ws a1 cJ 616 cf))))))))) sz)) 0 0 (va_A (mo_ws m0 z0 z1 z2 z3 z4 z5 z6 z7 z8 z9 z10 a0 a1 a2 a3 a4 a5 a6 a7 a8 a9 b0 b1 oc b2 b3 b4 b5 ++ (iw_ws a7 cI 256 bf ++ (iw_ws a8 cI 64 sc ++ (iw_ws a9 cI 8 st ++ (iw_ws b0 cI 8 kS ++ (iw_ws b1 cI 64 kR ++ (jw_ws a2 cJ 4 tf ++ (jw_ws a0 cJ 1232 nf ++ (jw_ws a1 cJ 616 cf))))))))) sz) := by
  refine Met.ofW (cc := b_Bm_link) (maxL := 3) (ret := none) (by decide) rfl ?_
  intro p e s m args below meth c s₁ Bd hml hv
  obtain ⟨rfl, hsz, hP, hK, hD0⟩ := hv
  have hx := Bd.exec
  have hb := Bd.bytes
  have hr := Bd.returns
  have hts := atoms_spec (ws := w_Bm_link) Bd.pre
  have hown : s.vm.findClass "BallotBoardModel" = some m.cls := findClass_of_methodNamed Bd.named
  have hlocks := Bd.notSynchronized
  subst hsz
  have hD := hD0.self (sz := s.heap.size)
  generalize hAe : va_A (mo_ws m0 z0 z1 z2 z3 z4 z5 z6 z7 z8 z9 z10 a0 a1 a2 a3 a4 a5 a6 a7 a8 a9 b0 b1 oc b2 b3 b4 b5 ++ (iw_ws a7 cI 256 bf ++ (iw_ws a8 cI 64 sc ++ (iw_ws a9 cI 8 st ++ (iw_ws b0 cI 8 kS ++ (iw_ws b1 cI 64 kR ++ (jw_ws a2 cJ 4 tf ++ (jw_ws a0 cJ 1232 nf ++ (jw_ws a1 cJ 616 cf))))))))) s.heap.size = A at hD ⊢
  have hA : ∀ q : Nat, s.heap.size ≤ q → A q := fun q h => by rw [← hAe]; exact Or.inr h
  have hS : va_S A s.heap s.heap [] := va_S.rf
  have hl := lv_entry ([.ref m0, .int (nI k)]) (n := 3) (Nat.le_of_ble_eq_true rfl)
  rw [lg_entry_eq]
  generalize (lg_sl ([.ref m0, .int (nI k)]) ++ List.replicate (3 - (lg_sl ([.ref m0, .int (nI k)])).length) Slot.unset).toArray = ls at hl ⊢
  have hl : lv_has ls 3 [(0, .ref m0), (1, .int (nI k))] := hl
  refine lv_aload_n hx hb d_Bm_link_0 rfl (lv_at hl 0 rfl) ?_
  refine lv_iconst (v := 0) hx hb d_Bm_link_1 (by decide) ?_
  refine va_put (D := (dC, dI)) (ci := 8) (v := .int 0) (ty := .int) (C := "BallotBoardModel") (T := F_Bm) (N := 28) hx hb hts (fun w9 h9 => List.mem_cons_of_mem _ (i_Bm w9 h9)) t_Bm t_Bm_ok n_Bm hown hK hP hD hS 0 rfl rfl 23 (by decide) (hts _ (List.mem_cons_of_mem _ gk_942)) (fun _ h9 => h9) rfl (by decide +kernel) rfl rfl (Nat.le_of_ble_eq_true rfl) d_Bm_link_2 (fun H locs hP hD hS => ?_)
  have hP : va_P (dC, dI) classes [(m0, .inr (8, [.int z0, .int z1, .int z2, .int z3, .long z4, .long z5, .long z6, .long z7, .long z8, .long z9, .int z10, .ref a0, .ref a1, .ref a2, .ref a3, .ref a4, .ref a5, .ref a6, .ref a7, .ref a8, .ref a9, .ref b0, .ref b1, .int 0, .ref b2, .ref b3, .ref b4, .ref b5])), (a7, .inl (cI, 256, .inl bf)), (a8, .inl (cI, 64, .inl sc)), (a9, .inl (cI, 8, .inl st)), (b0, .inl (cI, 8, .inl kS)), (b1, .inl (cI, 64, .inl kR)), (a2, .inl (cJ, 4, .inr (.inl tf))), (a0, .inl (cJ, 1232, .inr (.inl nf))), (a1, .inl (cJ, 616, .inr (.inl cf)))] H := hP
  have hD : va_D A [(m0, .inr (8, [.int z0, .int z1, .int z2, .int z3, .long z4, .long z5, .long z6, .long z7, .long z8, .long z9, .int z10, .ref a0, .ref a1, .ref a2, .ref a3, .ref a4, .ref a5, .ref a6, .ref a7, .ref a8, .ref a9, .ref b0, .ref b1, .int 0, .ref b2, .ref b3, .ref b4, .ref b5])), (a7, .inl (cI, 256, .inl bf)), (a8, .inl (cI, 64, .inl sc)), (a9, .inl (cI, 8, .inl st)), (b0, .inl (cI, 8, .inl kS)), (b1, .inl (cI, 64, .inl kR)), (a2, .inl (cJ, 4, .inr (.inl tf))), (a0, .inl (cJ, 1232, .inr (.inl nf))), (a1, .inl (cJ, 616, .inr (.inl cf)))] := hD
  have hm0 := bok_0 bf
  refine lv_iconst (v := 0) hx hb d_Bm_link_5 (by decide) ?_
  refine lv_istore_n (lv' := [(2, .int 0), (0, .ref m0), (1, .int (nI k))]) hx hb d_Bm_link_6 rfl hl (by decide) rfl (fun ls hl => ?_)
  refine lv_iload_n hx hb d_Bm_link_7 rfl (lv_at hl 0 rfl) ?_
  refine lv_iconst (v := 4) hx hb d_Bm_link_8 (by decide) ?_
  refine lv_icmp_ge (tgt := 42) hx hb d_Bm_link_9 (by decide) (fun c_1 => ?_) (fun c_1 => ?_)
  · -- taken
    exact absurd c_1 (by decide)
  · -- not taken
    refine lv_aload_n hx hb d_Bm_link_12 rfl (lv_at hl 1 rfl) ?_
    refine lv_iload_n hx hb d_Bm_link_13 rfl (lv_at hl 2 rfl) ?_
    refine lv_if_ne (tgt := 21) hx hb d_Bm_link_14 (by decide) (fun c_2 => ?_) (fun c_2 => ?_)
    · -- taken
      refine lv_aload_n hx hb d_Bm_link_21 rfl (lv_at hl 1 rfl) ?_
      refine va_get (D := (dC, dI)) (ci := 8) (v := .ref a1) (C := "BallotBoardModel") (T := F_Bm) (N := 28) hx hb hts (fun w9 h9 => List.mem_cons_of_mem _ (i_Bm w9 h9)) hown hK hP 0 rfl rfl 12 (by decide) (hts _ (List.mem_cons_of_mem _ gk_931)) (fun _ h9 => h9) rfl d_Bm_link_22 ?_
      refine lv_iconst (v := 4) hx hb d_Bm_link_25 (by decide) ?_
      refine lv_iload_n hx hb d_Bm_link_26 rfl (lv_at hl 2 rfl) ?_
      refine lv_iconst (v := 1) hx hb d_Bm_link_27 (by decide) ?_
      refine lv_isub hx hb d_Bm_link_28 ?_
      rw [show ((nI k) - 1 : Int32) = (nI (k - 1)) from nI_subI (b := 1) (by omega) rfl]
      refine lv_imul hx hb d_Bm_link_29 ?_
      rw [show (4 * (nI (k - 1)) : Int32) = (nI (4 * (k - 1))) from pk_mul 4 (k - 1)]
      refine lv_iload_n hx hb d_Bm_link_30 rfl (lv_at hl 0 rfl) ?_
      refine lv_iadd hx hb d_Bm_link_31 ?_
      rw [show ((nI (4 * (k - 1))) + 0 : Int32) = (nI (4 * (k - 1) + 0)) from nI_add _ 0]
      refine va_lald hx hb hK hP 8 0 rfl rfl (vp_in_nI (by omega) (by omega)) d_Bm_link_32 ?_
      rw [show (cf (nI (4 * (k - 1) + 0) : Int32).toNatClampNeg : Int64) = cf (4 * (k - 1) + 0) from by rw [nI_clamp (by omega)]]
      have hPc := hP.sub (ws' := (mo_ws m0 z0 z1 z2 z3 z4 z5 z6 z7 z8 z9 z10 a0 a1 a2 a3 a4 a5 a6 a7 a8 a9 b0 b1 0 b2 b3 b4 b5 ++ (iw_ws a7 cI 256 bf))) [0, 1] rfl
      have hDc := hD.sub (ws' := (mo_ws m0 z0 z1 z2 z3 z4 z5 z6 z7 z8 z9 z10 a0 a1 a2 a3 a4 a5 a6 a7 a8 a9 b0 b1 0 b2 b3 b4 b5 ++ (iw_ws a7 cI 256 bf))) [0, 1] (by decide) rfl
      have hKc := hK.sub (tys' := [(cJ, .long), (cI, .int)]) [0, 1] rfl
      have hFc := va_free (wc := (mo_ws m0 z0 z1 z2 z3 z4 z5 z6 z7 z8 z9 z10 a0 a1 a2 a3 a4 a5 a6 a7 a8 a9 b0 b1 0 b2 b3 b4 b5 ++ (iw_ws a7 cI 256 bf))) hD hS hA [0, 1] rfl
      refine va_callv (va_runV (As := [.long (cf (4 * (k - 1) + 0))]) (rest := []) ⟨hx, hb, hml, hown, hts⟩ (c_Bm_eight l dC dI cJ cI H.size m0 z0 z1 z2 z3 z4 z5 z6 z7 z8 z9 z10 a0 a1 a2 a3 a4 a5 a6 a7 a8 a9 b0 b1 0 b2 b3 b4 b5 bf (cf (4 * (k - 1) + 0)) (by omega)) (cwV 1 hts (gw_V gk_1070 gk_1072 gp_36 gk_7 gk_1073) rfl rfl rfl (by decide +kernel) ⟨Nat.le_of_ble_eq_true rfl, Nat.le_of_ble_eq_true rfl⟩) ⟨fun a U g mk q => by obtain ⟨q0, q1, qP, qK, qD⟩ := q; exact ⟨q0, q1, qP, va_K.moved (u := U) (U := U.calling g mk a) (Vm.Alike.refl U.vm) qK, qD⟩, va_recv hK hP (ci := 8) (q0 := 0) rfl rfl, fun U hU hW => ⟨rfl, by rw [hU], by rw [hU]; exact hPc, va_K.moved hW.alike hKc, hDc.weaken (fun _ _ _ _ => trivial)⟩⟩ rfl rfl hl.1 rfl (lv_room (Nat.le_of_ble_eq_true rfl)) d_Bm_link_33 ⟨Nat.le_of_ble_eq_true rfl, Nat.le_of_ble_eq_true rfl⟩) hS (fun q _ h => hFc q h) hFc (fun u9 t9 H1 locs ht hvm hw hB hz1 hk1 hS => ?_)
      obtain ⟨hP1, hK1, hD1⟩ := hB
      rw [ht] at hP1
      obtain ⟨hP, hD⟩ := va_join (wr := [(a8, .inl (cI, 64, .inl sc)), (a9, .inl (cI, 8, .inl st)), (b0, .inl (cI, 8, .inl kS)), (b1, .inl (cI, 64, .inl kR)), (a2, .inl (cJ, 4, .inr (.inl tf))), (a0, .inl (cJ, 1232, .inr (.inl nf))), (a1, .inl (cJ, 616, .inr (.inl cf)))]) (w1 := [(m0, .inr (8, [.int z0, .int z1, .int z2, .int z3, .long z4, .long z5, .long z6, .long z7, .long z8, .long z9, .int z10, .ref a0, .ref a1, .ref a2, .ref a3, .ref a4, .ref a5, .ref a6, .ref a7, .ref a8, .ref a9, .ref b0, .ref b1, .int (nI 8), .ref b2, .ref b3, .ref b4, .ref b5])), (a7, .inl (cI, 256, .inl (o8 bf 0 (cf (4 * (k - 1) + 0)))))]) hP hD [0, 1] [2, 3, 4, 5, 6, 7, 8] rfl rfl (by decide) (by decide) hk1 hFc hP1 hD1
      have hP := hP.sub (ws' := [(m0, .inr (8, [.int z0, .int z1, .int z2, .int z3, .long z4, .long z5, .long z6, .long z7, .long z8, .long z9, .int z10, .ref a0, .ref a1, .ref a2, .ref a3, .ref a4, .ref a5, .ref a6, .ref a7, .ref a8, .ref a9, .ref b0, .ref b1, .int (nI 8), .ref b2, .ref b3, .ref b4, .ref b5])), (a7, .inl (cI, 256, .inl (o8 bf 0 (cf (4 * (k - 1) + 0))))), (a8, .inl (cI, 64, .inl sc)), (a9, .inl (cI, 8, .inl st)), (b0, .inl (cI, 8, .inl kS)), (b1, .inl (cI, 64, .inl kR)), (a2, .inl (cJ, 4, .inr (.inl tf))), (a0, .inl (cJ, 1232, .inr (.inl nf))), (a1, .inl (cJ, 616, .inr (.inl cf)))]) [7, 8, 0, 1, 2, 3, 4, 5, 6] rfl
      have hD := hD.sub (ws' := [(m0, .inr (8, [.int z0, .int z1, .int z2, .int z3, .long z4, .long z5, .long z6, .long z7, .long z8, .long z9, .int z10, .ref a0, .ref a1, .ref a2, .ref a3, .ref a4, .ref a5, .ref a6, .ref a7, .ref a8, .ref a9, .ref b0, .ref b1, .int (nI 8), .ref b2, .ref b3, .ref b4, .ref b5])), (a7, .inl (cI, 256, .inl (o8 bf 0 (cf (4 * (k - 1) + 0))))), (a8, .inl (cI, 64, .inl sc)), (a9, .inl (cI, 8, .inl st)), (b0, .inl (cI, 8, .inl kS)), (b1, .inl (cI, 64, .inl kR)), (a2, .inl (cJ, 4, .inr (.inl tf))), (a0, .inl (cJ, 1232, .inr (.inl nf))), (a1, .inl (cJ, 616, .inr (.inl cf)))]) [7, 8, 0, 1, 2, 3, 4, 5, 6] (by decide) rfl
      generalize H1 = H at hP hS ⊢
      obtain ⟨g_4, eg_4⟩ : ∃ f : Nat → Int32, f = o8 bf 0 (cf (4 * (k - 1) + 0)) := ⟨_, rfl⟩
      rw [← eg_4] at hP hD
      have hm_5 : bok g_4 1 [cf (4 * (k - 1) + 0)] := bok_add _ hm0 rfl eg_4
      obtain ⟨i_6, ei_6⟩ : ∃ y : Int32, y = 0 + 1 := ⟨_, rfl⟩
      refine lv_iinc (v := i_6) (lv' := [(2, .int i_6), (0, .ref m0), (1, .int (nI k))]) hx hb d_Bm_link_36 hl (k := 0) rfl (by rw [ei_6]; rfl) (by decide) rfl (fun ls hl => ?_)
      obtain rfl : i_6 = 1 := by rw [ei_6]; exact by decide
      refine lv_goto (tgt := 7) hx hb d_Bm_link_39 (by decide) ?_
      refine lv_iload_n hx hb d_Bm_link_7 rfl (lv_at hl 0 rfl) ?_
      refine lv_iconst (v := 4) hx hb d_Bm_link_8 (by decide) ?_
      refine lv_icmp_ge (tgt := 42) hx hb d_Bm_link_9 (by decide) (fun c_7 => ?_) (fun c_7 => ?_)
      · -- taken
        exact absurd c_7 (by decide)
      · -- not taken
        refine lv_aload_n hx hb d_Bm_link_12 rfl (lv_at hl 1 rfl) ?_
        refine lv_iload_n hx hb d_Bm_link_13 rfl (lv_at hl 2 rfl) ?_
        refine lv_if_ne (tgt := 21) hx hb d_Bm_link_14 (by decide) (fun c_8 => ?_) (fun c_8 => ?_)
        · -- taken
          refine lv_aload_n hx hb d_Bm_link_21 rfl (lv_at hl 1 rfl) ?_
          refine va_get (D := (dC, dI)) (ci := 8) (v := .ref a1) (C := "BallotBoardModel") (T := F_Bm) (N := 28) hx hb hts (fun w9 h9 => List.mem_cons_of_mem _ (i_Bm w9 h9)) hown hK hP 0 rfl rfl 12 (by decide) (hts _ (List.mem_cons_of_mem _ gk_931)) (fun _ h9 => h9) rfl d_Bm_link_22 ?_
          refine lv_iconst (v := 4) hx hb d_Bm_link_25 (by decide) ?_
          refine lv_iload_n hx hb d_Bm_link_26 rfl (lv_at hl 2 rfl) ?_
          refine lv_iconst (v := 1) hx hb d_Bm_link_27 (by decide) ?_
          refine lv_isub hx hb d_Bm_link_28 ?_
          rw [show ((nI k) - 1 : Int32) = (nI (k - 1)) from nI_subI (b := 1) (by omega) rfl]
          refine lv_imul hx hb d_Bm_link_29 ?_
          rw [show (4 * (nI (k - 1)) : Int32) = (nI (4 * (k - 1))) from pk_mul 4 (k - 1)]
          refine lv_iload_n hx hb d_Bm_link_30 rfl (lv_at hl 0 rfl) ?_
          refine lv_iadd hx hb d_Bm_link_31 ?_
          rw [show ((nI (4 * (k - 1))) + 1 : Int32) = (nI (4 * (k - 1) + 1)) from nI_add _ 1]
          refine va_lald hx hb hK hP 8 0 rfl rfl (vp_in_nI (by omega) (by omega)) d_Bm_link_32 ?_
          rw [show (cf (nI (4 * (k - 1) + 1) : Int32).toNatClampNeg : Int64) = cf (4 * (k - 1) + 1) from by rw [nI_clamp (by omega)]]
          have hPc := hP.sub (ws' := (mo_ws m0 z0 z1 z2 z3 z4 z5 z6 z7 z8 z9 z10 a0 a1 a2 a3 a4 a5 a6 a7 a8 a9 b0 b1 8 b2 b3 b4 b5 ++ (iw_ws a7 cI 256 g_4))) [0, 1] rfl
          have hDc := hD.sub (ws' := (mo_ws m0 z0 z1 z2 z3 z4 z5 z6 z7 z8 z9 z10 a0 a1 a2 a3 a4 a5 a6 a7 a8 a9 b0 b1 8 b2 b3 b4 b5 ++ (iw_ws a7 cI 256 g_4))) [0, 1] (by decide) rfl
          have hKc := hK.sub (tys' := [(cJ, .long), (cI, .int)]) [0, 1] rfl
          have hFc := va_free (wc := (mo_ws m0 z0 z1 z2 z3 z4 z5 z6 z7 z8 z9 z10 a0 a1 a2 a3 a4 a5 a6 a7 a8 a9 b0 b1 8 b2 b3 b4 b5 ++ (iw_ws a7 cI 256 g_4))) hD hS hA [0, 1] rfl
          refine va_callv (va_runV (As := [.long (cf (4 * (k - 1) + 1))]) (rest := []) ⟨hx, hb, hml, hown, hts⟩ (c_Bm_eight l dC dI cJ cI H.size m0 z0 z1 z2 z3 z4 z5 z6 z7 z8 z9 z10 a0 a1 a2 a3 a4 a5 a6 a7 a8 a9 b0 b1 8 b2 b3 b4 b5 g_4 (cf (4 * (k - 1) + 1)) (by omega)) (cwV 1 hts (gw_V gk_1070 gk_1072 gp_36 gk_7 gk_1073) rfl rfl rfl (by decide +kernel) ⟨Nat.le_of_ble_eq_true rfl, Nat.le_of_ble_eq_true rfl⟩) ⟨fun a U g mk q => by obtain ⟨q0, q1, qP, qK, qD⟩ := q; exact ⟨q0, q1, qP, va_K.moved (u := U) (U := U.calling g mk a) (Vm.Alike.refl U.vm) qK, qD⟩, va_recv hK hP (ci := 8) (q0 := 0) rfl rfl, fun U hU hW => ⟨rfl, by rw [hU], by rw [hU]; exact hPc, va_K.moved hW.alike hKc, hDc.weaken (fun _ _ _ _ => trivial)⟩⟩ rfl rfl hl.1 rfl (lv_room (Nat.le_of_ble_eq_true rfl)) d_Bm_link_33 ⟨Nat.le_of_ble_eq_true rfl, Nat.le_of_ble_eq_true rfl⟩) hS (fun q _ h => hFc q h) hFc (fun u9 t9 H1 locs ht hvm hw hB hz1 hk1 hS => ?_)
          obtain ⟨hP1, hK1, hD1⟩ := hB
          rw [ht] at hP1
          obtain ⟨hP, hD⟩ := va_join (wr := [(a8, .inl (cI, 64, .inl sc)), (a9, .inl (cI, 8, .inl st)), (b0, .inl (cI, 8, .inl kS)), (b1, .inl (cI, 64, .inl kR)), (a2, .inl (cJ, 4, .inr (.inl tf))), (a0, .inl (cJ, 1232, .inr (.inl nf))), (a1, .inl (cJ, 616, .inr (.inl cf)))]) (w1 := [(m0, .inr (8, [.int z0, .int z1, .int z2, .int z3, .long z4, .long z5, .long z6, .long z7, .long z8, .long z9, .int z10, .ref a0, .ref a1, .ref a2, .ref a3, .ref a4, .ref a5, .ref a6, .ref a7, .ref a8, .ref a9, .ref b0, .ref b1, .int (nI 16), .ref b2, .ref b3, .ref b4, .ref b5])), (a7, .inl (cI, 256, .inl (o8 g_4 8 (cf (4 * (k - 1) + 1)))))]) hP hD [0, 1] [2, 3, 4, 5, 6, 7, 8] rfl rfl (by decide) (by decide) hk1 hFc hP1 hD1
          have hP := hP.sub (ws' := [(m0, .inr (8, [.int z0, .int z1, .int z2, .int z3, .long z4, .long z5, .long z6, .long z7, .long z8, .long z9, .int z10, .ref a0, .ref a1, .ref a2, .ref a3, .ref a4, .ref a5, .ref a6, .ref a7, .ref a8, .ref a9, .ref b0, .ref b1, .int (nI 16), .ref b2, .ref b3, .ref b4, .ref b5])), (a7, .inl (cI, 256, .inl (o8 g_4 8 (cf (4 * (k - 1) + 1))))), (a8, .inl (cI, 64, .inl sc)), (a9, .inl (cI, 8, .inl st)), (b0, .inl (cI, 8, .inl kS)), (b1, .inl (cI, 64, .inl kR)), (a2, .inl (cJ, 4, .inr (.inl tf))), (a0, .inl (cJ, 1232, .inr (.inl nf))), (a1, .inl (cJ, 616, .inr (.inl cf)))]) [7, 8, 0, 1, 2, 3, 4, 5, 6] rfl
          have hD := hD.sub (ws' := [(m0, .inr (8, [.int z0, .int z1, .int z2, .int z3, .long z4, .long z5, .long z6, .long z7, .long z8, .long z9, .int z10, .ref a0, .ref a1, .ref a2, .ref a3, .ref a4, .ref a5, .ref a6, .ref a7, .ref a8, .ref a9, .ref b0, .ref b1, .int (nI 16), .ref b2, .ref b3, .ref b4, .ref b5])), (a7, .inl (cI, 256, .inl (o8 g_4 8 (cf (4 * (k - 1) + 1))))), (a8, .inl (cI, 64, .inl sc)), (a9, .inl (cI, 8, .inl st)), (b0, .inl (cI, 8, .inl kS)), (b1, .inl (cI, 64, .inl kR)), (a2, .inl (cJ, 4, .inr (.inl tf))), (a0, .inl (cJ, 1232, .inr (.inl nf))), (a1, .inl (cJ, 616, .inr (.inl cf)))]) [7, 8, 0, 1, 2, 3, 4, 5, 6] (by decide) rfl
          generalize H1 = H at hP hS ⊢
          obtain ⟨g_10, eg_10⟩ : ∃ f : Nat → Int32, f = o8 g_4 8 (cf (4 * (k - 1) + 1)) := ⟨_, rfl⟩
          rw [← eg_10] at hP hD
          have hm_11 : bok g_10 2 [cf (4 * (k - 1) + 0), cf (4 * (k - 1) + 1)] := bok_add _ hm_5 rfl eg_10
          obtain ⟨i_12, ei_12⟩ : ∃ y : Int32, y = 1 + 1 := ⟨_, rfl⟩
          refine lv_iinc (v := i_12) (lv' := [(2, .int i_12), (0, .ref m0), (1, .int (nI k))]) hx hb d_Bm_link_36 hl (k := 0) rfl (by rw [ei_12]; rfl) (by decide) rfl (fun ls hl => ?_)
          obtain rfl : i_12 = 2 := by rw [ei_12]; exact by decide
          refine lv_goto (tgt := 7) hx hb d_Bm_link_39 (by decide) ?_
          refine lv_iload_n hx hb d_Bm_link_7 rfl (lv_at hl 0 rfl) ?_
          refine lv_iconst (v := 4) hx hb d_Bm_link_8 (by decide) ?_
          refine lv_icmp_ge (tgt := 42) hx hb d_Bm_link_9 (by decide) (fun c_13 => ?_) (fun c_13 => ?_)
          · -- taken
            exact absurd c_13 (by decide)
          · -- not taken
            refine lv_aload_n hx hb d_Bm_link_12 rfl (lv_at hl 1 rfl) ?_
            refine lv_iload_n hx hb d_Bm_link_13 rfl (lv_at hl 2 rfl) ?_
            refine lv_if_ne (tgt := 21) hx hb d_Bm_link_14 (by decide) (fun c_14 => ?_) (fun c_14 => ?_)
            · -- taken
              refine lv_aload_n hx hb d_Bm_link_21 rfl (lv_at hl 1 rfl) ?_
              refine va_get (D := (dC, dI)) (ci := 8) (v := .ref a1) (C := "BallotBoardModel") (T := F_Bm) (N := 28) hx hb hts (fun w9 h9 => List.mem_cons_of_mem _ (i_Bm w9 h9)) hown hK hP 0 rfl rfl 12 (by decide) (hts _ (List.mem_cons_of_mem _ gk_931)) (fun _ h9 => h9) rfl d_Bm_link_22 ?_
              refine lv_iconst (v := 4) hx hb d_Bm_link_25 (by decide) ?_
              refine lv_iload_n hx hb d_Bm_link_26 rfl (lv_at hl 2 rfl) ?_
              refine lv_iconst (v := 1) hx hb d_Bm_link_27 (by decide) ?_
              refine lv_isub hx hb d_Bm_link_28 ?_
              rw [show ((nI k) - 1 : Int32) = (nI (k - 1)) from nI_subI (b := 1) (by omega) rfl]
              refine lv_imul hx hb d_Bm_link_29 ?_
              rw [show (4 * (nI (k - 1)) : Int32) = (nI (4 * (k - 1))) from pk_mul 4 (k - 1)]
              refine lv_iload_n hx hb d_Bm_link_30 rfl (lv_at hl 0 rfl) ?_
              refine lv_iadd hx hb d_Bm_link_31 ?_
              rw [show ((nI (4 * (k - 1))) + 2 : Int32) = (nI (4 * (k - 1) + 2)) from nI_add _ 2]
              refine va_lald hx hb hK hP 8 0 rfl rfl (vp_in_nI (by omega) (by omega)) d_Bm_link_32 ?_
              rw [show (cf (nI (4 * (k - 1) + 2) : Int32).toNatClampNeg : Int64) = cf (4 * (k - 1) + 2) from by rw [nI_clamp (by omega)]]
              have hPc := hP.sub (ws' := (mo_ws m0 z0 z1 z2 z3 z4 z5 z6 z7 z8 z9 z10 a0 a1 a2 a3 a4 a5 a6 a7 a8 a9 b0 b1 16 b2 b3 b4 b5 ++ (iw_ws a7 cI 256 g_10))) [0, 1] rfl
              have hDc := hD.sub (ws' := (mo_ws m0 z0 z1 z2 z3 z4 z5 z6 z7 z8 z9 z10 a0 a1 a2 a3 a4 a5 a6 a7 a8 a9 b0 b1 16 b2 b3 b4 b5 ++ (iw_ws a7 cI 256 g_10))) [0, 1] (by decide) rfl
              have hKc := hK.sub (tys' := [(cJ, .long), (cI, .int)]) [0, 1] rfl
              have hFc := va_free (wc := (mo_ws m0 z0 z1 z2 z3 z4 z5 z6 z7 z8 z9 z10 a0 a1 a2 a3 a4 a5 a6 a7 a8 a9 b0 b1 16 b2 b3 b4 b5 ++ (iw_ws a7 cI 256 g_10))) hD hS hA [0, 1] rfl
              refine va_callv (va_runV (As := [.long (cf (4 * (k - 1) + 2))]) (rest := []) ⟨hx, hb, hml, hown, hts⟩ (c_Bm_eight l dC dI cJ cI H.size m0 z0 z1 z2 z3 z4 z5 z6 z7 z8 z9 z10 a0 a1 a2 a3 a4 a5 a6 a7 a8 a9 b0 b1 16 b2 b3 b4 b5 g_10 (cf (4 * (k - 1) + 2)) (by omega)) (cwV 1 hts (gw_V gk_1070 gk_1072 gp_36 gk_7 gk_1073) rfl rfl rfl (by decide +kernel) ⟨Nat.le_of_ble_eq_true rfl, Nat.le_of_ble_eq_true rfl⟩) ⟨fun a U g mk q => by obtain ⟨q0, q1, qP, qK, qD⟩ := q; exact ⟨q0, q1, qP, va_K.moved (u := U) (U := U.calling g mk a) (Vm.Alike.refl U.vm) qK, qD⟩, va_recv hK hP (ci := 8) (q0 := 0) rfl rfl, fun U hU hW => ⟨rfl, by rw [hU], by rw [hU]; exact hPc, va_K.moved hW.alike hKc, hDc.weaken (fun _ _ _ _ => trivial)⟩⟩ rfl rfl hl.1 rfl (lv_room (Nat.le_of_ble_eq_true rfl)) d_Bm_link_33 ⟨Nat.le_of_ble_eq_true rfl, Nat.le_of_ble_eq_true rfl⟩) hS (fun q _ h => hFc q h) hFc (fun u9 t9 H1 locs ht hvm hw hB hz1 hk1 hS => ?_)
              obtain ⟨hP1, hK1, hD1⟩ := hB
              rw [ht] at hP1
              obtain ⟨hP, hD⟩ := va_join (wr := [(a8, .inl (cI, 64, .inl sc)), (a9, .inl (cI, 8, .inl st)), (b0, .inl (cI, 8, .inl kS)), (b1, .inl (cI, 64, .inl kR)), (a2, .inl (cJ, 4, .inr (.inl tf))), (a0, .inl (cJ, 1232, .inr (.inl nf))), (a1, .inl (cJ, 616, .inr (.inl cf)))]) (w1 := [(m0, .inr (8, [.int z0, .int z1, .int z2, .int z3, .long z4, .long z5, .long z6, .long z7, .long z8, .long z9, .int z10, .ref a0, .ref a1, .ref a2, .ref a3, .ref a4, .ref a5, .ref a6, .ref a7, .ref a8, .ref a9, .ref b0, .ref b1, .int (nI 24), .ref b2, .ref b3, .ref b4, .ref b5])), (a7, .inl (cI, 256, .inl (o8 g_10 16 (cf (4 * (k - 1) + 2)))))]) hP hD [0, 1] [2, 3, 4, 5, 6, 7, 8] rfl rfl (by decide) (by decide) hk1 hFc hP1 hD1
              have hP := hP.sub (ws' := [(m0, .inr (8, [.int z0, .int z1, .int z2, .int z3, .long z4, .long z5, .long z6, .long z7, .long z8, .long z9, .int z10, .ref a0, .ref a1, .ref a2, .ref a3, .ref a4, .ref a5, .ref a6, .ref a7, .ref a8, .ref a9, .ref b0, .ref b1, .int (nI 24), .ref b2, .ref b3, .ref b4, .ref b5])), (a7, .inl (cI, 256, .inl (o8 g_10 16 (cf (4 * (k - 1) + 2))))), (a8, .inl (cI, 64, .inl sc)), (a9, .inl (cI, 8, .inl st)), (b0, .inl (cI, 8, .inl kS)), (b1, .inl (cI, 64, .inl kR)), (a2, .inl (cJ, 4, .inr (.inl tf))), (a0, .inl (cJ, 1232, .inr (.inl nf))), (a1, .inl (cJ, 616, .inr (.inl cf)))]) [7, 8, 0, 1, 2, 3, 4, 5, 6] rfl
              have hD := hD.sub (ws' := [(m0, .inr (8, [.int z0, .int z1, .int z2, .int z3, .long z4, .long z5, .long z6, .long z7, .long z8, .long z9, .int z10, .ref a0, .ref a1, .ref a2, .ref a3, .ref a4, .ref a5, .ref a6, .ref a7, .ref a8, .ref a9, .ref b0, .ref b1, .int (nI 24), .ref b2, .ref b3, .ref b4, .ref b5])), (a7, .inl (cI, 256, .inl (o8 g_10 16 (cf (4 * (k - 1) + 2))))), (a8, .inl (cI, 64, .inl sc)), (a9, .inl (cI, 8, .inl st)), (b0, .inl (cI, 8, .inl kS)), (b1, .inl (cI, 64, .inl kR)), (a2, .inl (cJ, 4, .inr (.inl tf))), (a0, .inl (cJ, 1232, .inr (.inl nf))), (a1, .inl (cJ, 616, .inr (.inl cf)))]) [7, 8, 0, 1, 2, 3, 4, 5, 6] (by decide) rfl
              generalize H1 = H at hP hS ⊢
              obtain ⟨g_16, eg_16⟩ : ∃ f : Nat → Int32, f = o8 g_10 16 (cf (4 * (k - 1) + 2)) := ⟨_, rfl⟩
              rw [← eg_16] at hP hD
              have hm_17 : bok g_16 3 [cf (4 * (k - 1) + 0), cf (4 * (k - 1) + 1), cf (4 * (k - 1) + 2)] := bok_add _ hm_11 rfl eg_16
              obtain ⟨i_18, ei_18⟩ : ∃ y : Int32, y = 2 + 1 := ⟨_, rfl⟩
              refine lv_iinc (v := i_18) (lv' := [(2, .int i_18), (0, .ref m0), (1, .int (nI k))]) hx hb d_Bm_link_36 hl (k := 0) rfl (by rw [ei_18]; rfl) (by decide) rfl (fun ls hl => ?_)
              obtain rfl : i_18 = 3 := by rw [ei_18]; exact by decide
              refine lv_goto (tgt := 7) hx hb d_Bm_link_39 (by decide) ?_
              refine lv_iload_n hx hb d_Bm_link_7 rfl (lv_at hl 0 rfl) ?_
              refine lv_iconst (v := 4) hx hb d_Bm_link_8 (by decide) ?_
              refine lv_icmp_ge (tgt := 42) hx hb d_Bm_link_9 (by decide) (fun c_19 => ?_) (fun c_19 => ?_)
              · -- taken
                exact absurd c_19 (by decide)
              · -- not taken
                refine lv_aload_n hx hb d_Bm_link_12 rfl (lv_at hl 1 rfl) ?_
                refine lv_iload_n hx hb d_Bm_link_13 rfl (lv_at hl 2 rfl) ?_
                refine lv_if_ne (tgt := 21) hx hb d_Bm_link_14 (by decide) (fun c_20 => ?_) (fun c_20 => ?_)
                · -- taken
                  refine lv_aload_n hx hb d_Bm_link_21 rfl (lv_at hl 1 rfl) ?_
                  refine va_get (D := (dC, dI)) (ci := 8) (v := .ref a1) (C := "BallotBoardModel") (T := F_Bm) (N := 28) hx hb hts (fun w9 h9 => List.mem_cons_of_mem _ (i_Bm w9 h9)) hown hK hP 0 rfl rfl 12 (by decide) (hts _ (List.mem_cons_of_mem _ gk_931)) (fun _ h9 => h9) rfl d_Bm_link_22 ?_
                  refine lv_iconst (v := 4) hx hb d_Bm_link_25 (by decide) ?_
                  refine lv_iload_n hx hb d_Bm_link_26 rfl (lv_at hl 2 rfl) ?_
                  refine lv_iconst (v := 1) hx hb d_Bm_link_27 (by decide) ?_
                  refine lv_isub hx hb d_Bm_link_28 ?_
                  rw [show ((nI k) - 1 : Int32) = (nI (k - 1)) from nI_subI (b := 1) (by omega) rfl]
                  refine lv_imul hx hb d_Bm_link_29 ?_
                  rw [show (4 * (nI (k - 1)) : Int32) = (nI (4 * (k - 1))) from pk_mul 4 (k - 1)]
                  refine lv_iload_n hx hb d_Bm_link_30 rfl (lv_at hl 0 rfl) ?_
                  refine lv_iadd hx hb d_Bm_link_31 ?_
                  rw [show ((nI (4 * (k - 1))) + 3 : Int32) = (nI (4 * (k - 1) + 3)) from nI_add _ 3]
                  refine va_lald hx hb hK hP 8 0 rfl rfl (vp_in_nI (by omega) (by omega)) d_Bm_link_32 ?_
                  rw [show (cf (nI (4 * (k - 1) + 3) : Int32).toNatClampNeg : Int64) = cf (4 * (k - 1) + 3) from by rw [nI_clamp (by omega)]]
                  have hPc := hP.sub (ws' := (mo_ws m0 z0 z1 z2 z3 z4 z5 z6 z7 z8 z9 z10 a0 a1 a2 a3 a4 a5 a6 a7 a8 a9 b0 b1 24 b2 b3 b4 b5 ++ (iw_ws a7 cI 256 g_16))) [0, 1] rfl
                  have hDc := hD.sub (ws' := (mo_ws m0 z0 z1 z2 z3 z4 z5 z6 z7 z8 z9 z10 a0 a1 a2 a3 a4 a5 a6 a7 a8 a9 b0 b1 24 b2 b3 b4 b5 ++ (iw_ws a7 cI 256 g_16))) [0, 1] (by decide) rfl
                  have hKc := hK.sub (tys' := [(cJ, .long), (cI, .int)]) [0, 1] rfl
                  have hFc := va_free (wc := (mo_ws m0 z0 z1 z2 z3 z4 z5 z6 z7 z8 z9 z10 a0 a1 a2 a3 a4 a5 a6 a7 a8 a9 b0 b1 24 b2 b3 b4 b5 ++ (iw_ws a7 cI 256 g_16))) hD hS hA [0, 1] rfl
                  refine va_callv (va_runV (As := [.long (cf (4 * (k - 1) + 3))]) (rest := []) ⟨hx, hb, hml, hown, hts⟩ (c_Bm_eight l dC dI cJ cI H.size m0 z0 z1 z2 z3 z4 z5 z6 z7 z8 z9 z10 a0 a1 a2 a3 a4 a5 a6 a7 a8 a9 b0 b1 24 b2 b3 b4 b5 g_16 (cf (4 * (k - 1) + 3)) (by omega)) (cwV 1 hts (gw_V gk_1070 gk_1072 gp_36 gk_7 gk_1073) rfl rfl rfl (by decide +kernel) ⟨Nat.le_of_ble_eq_true rfl, Nat.le_of_ble_eq_true rfl⟩) ⟨fun a U g mk q => by obtain ⟨q0, q1, qP, qK, qD⟩ := q; exact ⟨q0, q1, qP, va_K.moved (u := U) (U := U.calling g mk a) (Vm.Alike.refl U.vm) qK, qD⟩, va_recv hK hP (ci := 8) (q0 := 0) rfl rfl, fun U hU hW => ⟨rfl, by rw [hU], by rw [hU]; exact hPc, va_K.moved hW.alike hKc, hDc.weaken (fun _ _ _ _ => trivial)⟩⟩ rfl rfl hl.1 rfl (lv_room (Nat.le_of_ble_eq_true rfl)) d_Bm_link_33 ⟨Nat.le_of_ble_eq_true rfl, Nat.le_of_ble_eq_true rfl⟩) hS (fun q _ h => hFc q h) hFc (fun u9 t9 H1 locs ht hvm hw hB hz1 hk1 hS => ?_)
                  obtain ⟨hP1, hK1, hD1⟩ := hB
                  rw [ht] at hP1
                  obtain ⟨hP, hD⟩ := va_join (wr := [(a8, .inl (cI, 64, .inl sc)), (a9, .inl (cI, 8, .inl st)), (b0, .inl (cI, 8, .inl kS)), (b1, .inl (cI, 64, .inl kR)), (a2, .inl (cJ, 4, .inr (.inl tf))), (a0, .inl (cJ, 1232, .inr (.inl nf))), (a1, .inl (cJ, 616, .inr (.inl cf)))]) (w1 := [(m0, .inr (8, [.int z0, .int z1, .int z2, .int z3, .long z4, .long z5, .long z6, .long z7, .long z8, .long z9, .int z10, .ref a0, .ref a1, .ref a2, .ref a3, .ref a4, .ref a5, .ref a6, .ref a7, .ref a8, .ref a9, .ref b0, .ref b1, .int (nI 32), .ref b2, .ref b3, .ref b4, .ref b5])), (a7, .inl (cI, 256, .inl (o8 g_16 24 (cf (4 * (k - 1) + 3)))))]) hP hD [0, 1] [2, 3, 4, 5, 6, 7, 8] rfl rfl (by decide) (by decide) hk1 hFc hP1 hD1
                  have hP := hP.sub (ws' := [(m0, .inr (8, [.int z0, .int z1, .int z2, .int z3, .long z4, .long z5, .long z6, .long z7, .long z8, .long z9, .int z10, .ref a0, .ref a1, .ref a2, .ref a3, .ref a4, .ref a5, .ref a6, .ref a7, .ref a8, .ref a9, .ref b0, .ref b1, .int (nI 32), .ref b2, .ref b3, .ref b4, .ref b5])), (a7, .inl (cI, 256, .inl (o8 g_16 24 (cf (4 * (k - 1) + 3))))), (a8, .inl (cI, 64, .inl sc)), (a9, .inl (cI, 8, .inl st)), (b0, .inl (cI, 8, .inl kS)), (b1, .inl (cI, 64, .inl kR)), (a2, .inl (cJ, 4, .inr (.inl tf))), (a0, .inl (cJ, 1232, .inr (.inl nf))), (a1, .inl (cJ, 616, .inr (.inl cf)))]) [7, 8, 0, 1, 2, 3, 4, 5, 6] rfl
                  have hD := hD.sub (ws' := [(m0, .inr (8, [.int z0, .int z1, .int z2, .int z3, .long z4, .long z5, .long z6, .long z7, .long z8, .long z9, .int z10, .ref a0, .ref a1, .ref a2, .ref a3, .ref a4, .ref a5, .ref a6, .ref a7, .ref a8, .ref a9, .ref b0, .ref b1, .int (nI 32), .ref b2, .ref b3, .ref b4, .ref b5])), (a7, .inl (cI, 256, .inl (o8 g_16 24 (cf (4 * (k - 1) + 3))))), (a8, .inl (cI, 64, .inl sc)), (a9, .inl (cI, 8, .inl st)), (b0, .inl (cI, 8, .inl kS)), (b1, .inl (cI, 64, .inl kR)), (a2, .inl (cJ, 4, .inr (.inl tf))), (a0, .inl (cJ, 1232, .inr (.inl nf))), (a1, .inl (cJ, 616, .inr (.inl cf)))]) [7, 8, 0, 1, 2, 3, 4, 5, 6] (by decide) rfl
                  generalize H1 = H at hP hS ⊢
                  obtain ⟨g_22, eg_22⟩ : ∃ f : Nat → Int32, f = o8 g_16 24 (cf (4 * (k - 1) + 3)) := ⟨_, rfl⟩
                  rw [← eg_22] at hP hD
                  have hm_23 : bok g_22 4 [cf (4 * (k - 1) + 0), cf (4 * (k - 1) + 1), cf (4 * (k - 1) + 2), cf (4 * (k - 1) + 3)] := bok_add _ hm_17 rfl eg_22
                  obtain ⟨i_24, ei_24⟩ : ∃ y : Int32, y = 3 + 1 := ⟨_, rfl⟩
                  refine lv_iinc (v := i_24) (lv' := [(2, .int i_24), (0, .ref m0), (1, .int (nI k))]) hx hb d_Bm_link_36 hl (k := 0) rfl (by rw [ei_24]; rfl) (by decide) rfl (fun ls hl => ?_)
                  obtain rfl : i_24 = 4 := by rw [ei_24]; exact by decide
                  refine lv_goto (tgt := 7) hx hb d_Bm_link_39 (by decide) ?_
                  refine lv_iload_n hx hb d_Bm_link_7 rfl (lv_at hl 0 rfl) ?_
                  refine lv_iconst (v := 4) hx hb d_Bm_link_8 (by decide) ?_
                  refine lv_icmp_ge (tgt := 42) hx hb d_Bm_link_9 (by decide) (fun c_25 => ?_) (fun c_25 => ?_)
                  · -- taken
                    refine lv_iconst (v := 0) hx hb d_Bm_link_42 (by decide) ?_
                    refine lv_istore_n (lv' := [(2, .int 0), (0, .ref m0), (1, .int (nI k))]) hx hb d_Bm_link_43 rfl hl (by decide) rfl (fun ls hl => ?_)
                    refine lv_iload_n hx hb d_Bm_link_44 rfl (lv_at hl 0 rfl) ?_
                    refine lv_aload_n hx hb d_Bm_link_45 rfl (lv_at hl 1 rfl) ?_
                    refine lv_iload_n hx hb d_Bm_link_46 rfl (lv_at hl 2 rfl) ?_
                    refine lv_iconst (v := 0) hx hb d_Bm_link_47 (by decide) ?_
                    have hPc := hP.sub (ws' := (mo_ws m0 z0 z1 z2 z3 z4 z5 z6 z7 z8 z9 z10 a0 a1 a2 a3 a4 a5 a6 a7 a8 a9 b0 b1 32 b2 b3 b4 b5 ++ (jw_ws a0 cJ 1232 nf))) [0, 7] rfl
                    have hKc := hK.sub (tys' := [(cJ, .long), (cI, .int)]) [0, 1] rfl
                    refine va_calll (va_runV (As := [.int (nI k), .int 0]) (rest := [.int 0]) ⟨hx, hb, hml, hown, hts⟩ (c_Bm_at l H dC dI cJ cI m0 z0 z1 z2 z3 z4 z5 z6 z7 z8 z9 z10 a0 a1 a2 a3 a4 a5 a6 a7 a8 a9 b0 b1 32 b2 b3 b4 b5 nf k 0 hPc (by omega)) (cwV 2 hts (gw_V gk_1102 gk_1104 gp_42 gk_7 gk_1105) rfl rfl rfl (by decide +kernel) ⟨Nat.le_of_ble_eq_true rfl, Nat.le_of_ble_eq_true rfl⟩) ⟨fun a U g mk q => ⟨q.1, q.2.1, va_K.moved (u := U) (U := U.calling g mk a) (Vm.Alike.refl U.vm) q.2.2⟩, va_recv hK hP (ci := 8) (q0 := 0) rfl rfl, fun U hU hW => ⟨rfl, hU, va_K.moved hW.alike hKc⟩⟩ rfl rfl hl.1 rfl (lv_room (Nat.le_of_ble_eq_true rfl)) d_Bm_link_48 ⟨Nat.le_of_ble_eq_true rfl, Nat.le_of_ble_eq_true rfl⟩) hS (fun q _ h => h.elim) (fun q h => h.elim) (fun r48 u9 t9 H1 locs ht hvm hw hB hz1 hk1 hS => ?_)
                    obtain rfl : H = H1 := hB.symm.trans ht
                    have hw : r48 = nf (8 * k + 0) := hw
                    subst hw
                    refine va_calli (va_runS (As := [.long (nf (8 * k + 0))]) (rest := [.int 0]) ⟨hx, hb, hml, hown, hts⟩ (c_Bm_many l H (nf (8 * k + 0))) (cwS 1 hts (gw_S gk_1106 gk_1107 gk_7 gk_1108) rfl rfl rfl (by decide +kernel) ⟨Nat.le_of_ble_eq_true rfl, Nat.le_of_ble_eq_true rfl⟩) ⟨fun a U g mk q => q, fun U hU hW => ⟨rfl, hU⟩⟩ rfl rfl hl.1 rfl (lv_room (Nat.le_of_ble_eq_true rfl)) d_Bm_link_51 ⟨Nat.le_of_ble_eq_true rfl, Nat.le_of_ble_eq_true rfl⟩) hS (fun q _ h => h.elim) (fun q h => h.elim) (fun r51 u9 t9 H1 locs ht hvm hw hB hz1 hk1 hS => ?_)
                    obtain rfl : H = H1 := hB.symm.trans ht
                    have hw : r51 = if nf (8 * k + 0) = 2 then 8 else 5 := hw
                    subst hw
                    rw [show (if nf (8 * k + 0) = 2 then 8 else 5 : Int32) = 5 from if_neg hw2]
                    refine lv_icmp_ge (tgt := 73) hx hb d_Bm_link_54 (by decide) (fun c_26 => ?_) (fun c_26 => ?_)
                    · -- taken
                      exact absurd c_26 (by decide)
                    · -- not taken
                      refine lv_aload_n hx hb d_Bm_link_57 rfl (lv_at hl 1 rfl) ?_
                      refine lv_aload_n hx hb d_Bm_link_58 rfl (lv_at hl 1 rfl) ?_
                      refine lv_iload_n hx hb d_Bm_link_59 rfl (lv_at hl 2 rfl) ?_
                      refine lv_iload_n hx hb d_Bm_link_60 rfl (lv_at hl 0 rfl) ?_
                      have hPc := hP.sub (ws' := (mo_ws m0 z0 z1 z2 z3 z4 z5 z6 z7 z8 z9 z10 a0 a1 a2 a3 a4 a5 a6 a7 a8 a9 b0 b1 32 b2 b3 b4 b5 ++ (jw_ws a0 cJ 1232 nf))) [0, 7] rfl
                      have hKc := hK.sub (tys' := [(cJ, .long), (cI, .int)]) [0, 1] rfl
                      refine va_calll (va_runV (As := [.int (nI k), .int 0]) (rest := [.ref m0]) ⟨hx, hb, hml, hown, hts⟩ (c_Bm_at l H dC dI cJ cI m0 z0 z1 z2 z3 z4 z5 z6 z7 z8 z9 z10 a0 a1 a2 a3 a4 a5 a6 a7 a8 a9 b0 b1 32 b2 b3 b4 b5 nf k 0 hPc (by omega)) (cwV 2 hts (gw_V gk_1102 gk_1104 gp_42 gk_7 gk_1105) rfl rfl rfl (by decide +kernel) ⟨Nat.le_of_ble_eq_true rfl, Nat.le_of_ble_eq_true rfl⟩) ⟨fun a U g mk q => ⟨q.1, q.2.1, va_K.moved (u := U) (U := U.calling g mk a) (Vm.Alike.refl U.vm) q.2.2⟩, va_recv hK hP (ci := 8) (q0 := 0) rfl rfl, fun U hU hW => ⟨rfl, hU, va_K.moved hW.alike hKc⟩⟩ rfl rfl hl.1 rfl (lv_room (Nat.le_of_ble_eq_true rfl)) d_Bm_link_61 ⟨Nat.le_of_ble_eq_true rfl, Nat.le_of_ble_eq_true rfl⟩) hS (fun q _ h => h.elim) (fun q h => h.elim) (fun r61 u9 t9 H1 locs ht hvm hw hB hz1 hk1 hS => ?_)
                      obtain rfl : H = H1 := hB.symm.trans ht
                      have hw : r61 = nf (8 * k + 0) := hw
                      subst hw
                      have hPc := hP.sub (ws' := (mo_ws m0 z0 z1 z2 z3 z4 z5 z6 z7 z8 z9 z10 a0 a1 a2 a3 a4 a5 a6 a7 a8 a9 b0 b1 32 b2 b3 b4 b5 ++ (iw_ws a7 cI 256 g_22))) [0, 1] rfl
                      have hDc := hD.sub (ws' := (mo_ws m0 z0 z1 z2 z3 z4 z5 z6 z7 z8 z9 z10 a0 a1 a2 a3 a4 a5 a6 a7 a8 a9 b0 b1 32 b2 b3 b4 b5 ++ (iw_ws a7 cI 256 g_22))) [0, 1] (by decide) rfl
                      have hKc := hK.sub (tys' := [(cJ, .long), (cI, .int)]) [0, 1] rfl
                      have hFc := va_free (wc := (mo_ws m0 z0 z1 z2 z3 z4 z5 z6 z7 z8 z9 z10 a0 a1 a2 a3 a4 a5 a6 a7 a8 a9 b0 b1 32 b2 b3 b4 b5 ++ (iw_ws a7 cI 256 g_22))) hD hS hA [0, 1] rfl
                      refine va_callv (va_runV (As := [.long (nf (8 * k + 0))]) (rest := []) ⟨hx, hb, hml, hown, hts⟩ (c_Bm_eight l dC dI cJ cI H.size m0 z0 z1 z2 z3 z4 z5 z6 z7 z8 z9 z10 a0 a1 a2 a3 a4 a5 a6 a7 a8 a9 b0 b1 32 b2 b3 b4 b5 g_22 (nf (8 * k + 0)) (by omega)) (cwV 1 hts (gw_V gk_1070 gk_1072 gp_36 gk_7 gk_1073) rfl rfl rfl (by decide +kernel) ⟨Nat.le_of_ble_eq_true rfl, Nat.le_of_ble_eq_true rfl⟩) ⟨fun a U g mk q => by obtain ⟨q0, q1, qP, qK, qD⟩ := q; exact ⟨q0, q1, qP, va_K.moved (u := U) (U := U.calling g mk a) (Vm.Alike.refl U.vm) qK, qD⟩, va_recv hK hP (ci := 8) (q0 := 0) rfl rfl, fun U hU hW => ⟨rfl, by rw [hU], by rw [hU]; exact hPc, va_K.moved hW.alike hKc, hDc.weaken (fun _ _ _ _ => trivial)⟩⟩ rfl rfl hl.1 rfl (lv_room (Nat.le_of_ble_eq_true rfl)) d_Bm_link_64 ⟨Nat.le_of_ble_eq_true rfl, Nat.le_of_ble_eq_true rfl⟩) hS (fun q _ h => hFc q h) hFc (fun u9 t9 H1 locs ht hvm hw hB hz1 hk1 hS => ?_)
                      obtain ⟨hP1, hK1, hD1⟩ := hB
                      rw [ht] at hP1
                      obtain ⟨hP, hD⟩ := va_join (wr := [(a8, .inl (cI, 64, .inl sc)), (a9, .inl (cI, 8, .inl st)), (b0, .inl (cI, 8, .inl kS)), (b1, .inl (cI, 64, .inl kR)), (a2, .inl (cJ, 4, .inr (.inl tf))), (a0, .inl (cJ, 1232, .inr (.inl nf))), (a1, .inl (cJ, 616, .inr (.inl cf)))]) (w1 := [(m0, .inr (8, [.int z0, .int z1, .int z2, .int z3, .long z4, .long z5, .long z6, .long z7, .long z8, .long z9, .int z10, .ref a0, .ref a1, .ref a2, .ref a3, .ref a4, .ref a5, .ref a6, .ref a7, .ref a8, .ref a9, .ref b0, .ref b1, .int (nI 40), .ref b2, .ref b3, .ref b4, .ref b5])), (a7, .inl (cI, 256, .inl (o8 g_22 32 (nf (8 * k + 0)))))]) hP hD [0, 1] [2, 3, 4, 5, 6, 7, 8] rfl rfl (by decide) (by decide) hk1 hFc hP1 hD1
                      have hP := hP.sub (ws' := [(m0, .inr (8, [.int z0, .int z1, .int z2, .int z3, .long z4, .long z5, .long z6, .long z7, .long z8, .long z9, .int z10, .ref a0, .ref a1, .ref a2, .ref a3, .ref a4, .ref a5, .ref a6, .ref a7, .ref a8, .ref a9, .ref b0, .ref b1, .int (nI 40), .ref b2, .ref b3, .ref b4, .ref b5])), (a7, .inl (cI, 256, .inl (o8 g_22 32 (nf (8 * k + 0))))), (a8, .inl (cI, 64, .inl sc)), (a9, .inl (cI, 8, .inl st)), (b0, .inl (cI, 8, .inl kS)), (b1, .inl (cI, 64, .inl kR)), (a2, .inl (cJ, 4, .inr (.inl tf))), (a0, .inl (cJ, 1232, .inr (.inl nf))), (a1, .inl (cJ, 616, .inr (.inl cf)))]) [7, 8, 0, 1, 2, 3, 4, 5, 6] rfl
                      have hD := hD.sub (ws' := [(m0, .inr (8, [.int z0, .int z1, .int z2, .int z3, .long z4, .long z5, .long z6, .long z7, .long z8, .long z9, .int z10, .ref a0, .ref a1, .ref a2, .ref a3, .ref a4, .ref a5, .ref a6, .ref a7, .ref a8, .ref a9, .ref b0, .ref b1, .int (nI 40), .ref b2, .ref b3, .ref b4, .ref b5])), (a7, .inl (cI, 256, .inl (o8 g_22 32 (nf (8 * k + 0))))), (a8, .inl (cI, 64, .inl sc)), (a9, .inl (cI, 8, .inl st)), (b0, .inl (cI, 8, .inl kS)), (b1, .inl (cI, 64, .inl kR)), (a2, .inl (cJ, 4, .inr (.inl tf))), (a0, .inl (cJ, 1232, .inr (.inl nf))), (a1, .inl (cJ, 616, .inr (.inl cf)))]) [7, 8, 0, 1, 2, 3, 4, 5, 6] (by decide) rfl
                      generalize H1 = H at hP hS ⊢
                      obtain ⟨g_28, eg_28⟩ : ∃ f : Nat → Int32, f = o8 g_22 32 (nf (8 * k + 0)) := ⟨_, rfl⟩
                      rw [← eg_28] at hP hD
                      have hm_29 : bok g_28 5 [cf (4 * (k - 1) + 0), cf (4 * (k - 1) + 1), cf (4 * (k - 1) + 2), cf (4 * (k - 1) + 3), nf (8 * k + 0)] := bok_add _ hm_23 rfl eg_28
                      obtain ⟨i_30, ei_30⟩ : ∃ y : Int32, y = 0 + 1 := ⟨_, rfl⟩
                      refine lv_iinc (v := i_30) (lv' := [(2, .int i_30), (0, .ref m0), (1, .int (nI k))]) hx hb d_Bm_link_67 hl (k := 0) rfl (by rw [ei_30]; rfl) (by decide) rfl (fun ls hl => ?_)
                      obtain rfl : i_30 = 1 := by rw [ei_30]; exact by decide
                      refine lv_goto (tgt := 44) hx hb d_Bm_link_70 (by decide) ?_
                      refine lv_iload_n hx hb d_Bm_link_44 rfl (lv_at hl 0 rfl) ?_
                      refine lv_aload_n hx hb d_Bm_link_45 rfl (lv_at hl 1 rfl) ?_
                      refine lv_iload_n hx hb d_Bm_link_46 rfl (lv_at hl 2 rfl) ?_
                      refine lv_iconst (v := 0) hx hb d_Bm_link_47 (by decide) ?_
                      have hPc := hP.sub (ws' := (mo_ws m0 z0 z1 z2 z3 z4 z5 z6 z7 z8 z9 z10 a0 a1 a2 a3 a4 a5 a6 a7 a8 a9 b0 b1 40 b2 b3 b4 b5 ++ (jw_ws a0 cJ 1232 nf))) [0, 7] rfl
                      have hKc := hK.sub (tys' := [(cJ, .long), (cI, .int)]) [0, 1] rfl
                      refine va_calll (va_runV (As := [.int (nI k), .int 0]) (rest := [.int 1]) ⟨hx, hb, hml, hown, hts⟩ (c_Bm_at l H dC dI cJ cI m0 z0 z1 z2 z3 z4 z5 z6 z7 z8 z9 z10 a0 a1 a2 a3 a4 a5 a6 a7 a8 a9 b0 b1 40 b2 b3 b4 b5 nf k 0 hPc (by omega)) (cwV 2 hts (gw_V gk_1102 gk_1104 gp_42 gk_7 gk_1105) rfl rfl rfl (by decide +kernel) ⟨Nat.le_of_ble_eq_true rfl, Nat.le_of_ble_eq_true rfl⟩) ⟨fun a U g mk q => ⟨q.1, q.2.1, va_K.moved (u := U) (U := U.calling g mk a) (Vm.Alike.refl U.vm) q.2.2⟩, va_recv hK hP (ci := 8) (q0 := 0) rfl rfl, fun U hU hW => ⟨rfl, hU, va_K.moved hW.alike hKc⟩⟩ rfl rfl hl.1 rfl (lv_room (Nat.le_of_ble_eq_true rfl)) d_Bm_link_48 ⟨Nat.le_of_ble_eq_true rfl, Nat.le_of_ble_eq_true rfl⟩) hS (fun q _ h => h.elim) (fun q h => h.elim) (fun r48 u9 t9 H1 locs ht hvm hw hB hz1 hk1 hS => ?_)
                      obtain rfl : H = H1 := hB.symm.trans ht
                      have hw : r48 = nf (8 * k + 0) := hw
                      subst hw
                      refine va_calli (va_runS (As := [.long (nf (8 * k + 0))]) (rest := [.int 1]) ⟨hx, hb, hml, hown, hts⟩ (c_Bm_many l H (nf (8 * k + 0))) (cwS 1 hts (gw_S gk_1106 gk_1107 gk_7 gk_1108) rfl rfl rfl (by decide +kernel) ⟨Nat.le_of_ble_eq_true rfl, Nat.le_of_ble_eq_true rfl⟩) ⟨fun a U g mk q => q, fun U hU hW => ⟨rfl, hU⟩⟩ rfl rfl hl.1 rfl (lv_room (Nat.le_of_ble_eq_true rfl)) d_Bm_link_51 ⟨Nat.le_of_ble_eq_true rfl, Nat.le_of_ble_eq_true rfl⟩) hS (fun q _ h => h.elim) (fun q h => h.elim) (fun r51 u9 t9 H1 locs ht hvm hw hB hz1 hk1 hS => ?_)
                      obtain rfl : H = H1 := hB.symm.trans ht
                      have hw : r51 = if nf (8 * k + 0) = 2 then 8 else 5 := hw
                      subst hw
                      rw [show (if nf (8 * k + 0) = 2 then 8 else 5 : Int32) = 5 from if_neg hw2]
                      refine lv_icmp_ge (tgt := 73) hx hb d_Bm_link_54 (by decide) (fun c_31 => ?_) (fun c_31 => ?_)
                      · -- taken
                        exact absurd c_31 (by decide)
                      · -- not taken
                        refine lv_aload_n hx hb d_Bm_link_57 rfl (lv_at hl 1 rfl) ?_
                        refine lv_aload_n hx hb d_Bm_link_58 rfl (lv_at hl 1 rfl) ?_
                        refine lv_iload_n hx hb d_Bm_link_59 rfl (lv_at hl 2 rfl) ?_
                        refine lv_iload_n hx hb d_Bm_link_60 rfl (lv_at hl 0 rfl) ?_
                        have hPc := hP.sub (ws' := (mo_ws m0 z0 z1 z2 z3 z4 z5 z6 z7 z8 z9 z10 a0 a1 a2 a3 a4 a5 a6 a7 a8 a9 b0 b1 40 b2 b3 b4 b5 ++ (jw_ws a0 cJ 1232 nf))) [0, 7] rfl
                        have hKc := hK.sub (tys' := [(cJ, .long), (cI, .int)]) [0, 1] rfl
                        refine va_calll (va_runV (As := [.int (nI k), .int 1]) (rest := [.ref m0]) ⟨hx, hb, hml, hown, hts⟩ (c_Bm_at l H dC dI cJ cI m0 z0 z1 z2 z3 z4 z5 z6 z7 z8 z9 z10 a0 a1 a2 a3 a4 a5 a6 a7 a8 a9 b0 b1 40 b2 b3 b4 b5 nf k 1 hPc (by omega)) (cwV 2 hts (gw_V gk_1102 gk_1104 gp_42 gk_7 gk_1105) rfl rfl rfl (by decide +kernel) ⟨Nat.le_of_ble_eq_true rfl, Nat.le_of_ble_eq_true rfl⟩) ⟨fun a U g mk q => ⟨q.1, q.2.1, va_K.moved (u := U) (U := U.calling g mk a) (Vm.Alike.refl U.vm) q.2.2⟩, va_recv hK hP (ci := 8) (q0 := 0) rfl rfl, fun U hU hW => ⟨rfl, hU, va_K.moved hW.alike hKc⟩⟩ rfl rfl hl.1 rfl (lv_room (Nat.le_of_ble_eq_true rfl)) d_Bm_link_61 ⟨Nat.le_of_ble_eq_true rfl, Nat.le_of_ble_eq_true rfl⟩) hS (fun q _ h => h.elim) (fun q h => h.elim) (fun r61 u9 t9 H1 locs ht hvm hw hB hz1 hk1 hS => ?_)
                        obtain rfl : H = H1 := hB.symm.trans ht
                        have hw : r61 = nf (8 * k + 1) := hw
                        subst hw
                        have hPc := hP.sub (ws' := (mo_ws m0 z0 z1 z2 z3 z4 z5 z6 z7 z8 z9 z10 a0 a1 a2 a3 a4 a5 a6 a7 a8 a9 b0 b1 40 b2 b3 b4 b5 ++ (iw_ws a7 cI 256 g_28))) [0, 1] rfl
                        have hDc := hD.sub (ws' := (mo_ws m0 z0 z1 z2 z3 z4 z5 z6 z7 z8 z9 z10 a0 a1 a2 a3 a4 a5 a6 a7 a8 a9 b0 b1 40 b2 b3 b4 b5 ++ (iw_ws a7 cI 256 g_28))) [0, 1] (by decide) rfl
                        have hKc := hK.sub (tys' := [(cJ, .long), (cI, .int)]) [0, 1] rfl
                        have hFc := va_free (wc := (mo_ws m0 z0 z1 z2 z3 z4 z5 z6 z7 z8 z9 z10 a0 a1 a2 a3 a4 a5 a6 a7 a8 a9 b0 b1 40 b2 b3 b4 b5 ++ (iw_ws a7 cI 256 g_28))) hD hS hA [0, 1] rfl
                        refine va_callv (va_runV (As := [.long (nf (8 * k + 1))]) (rest := []) ⟨hx, hb, hml, hown, hts⟩ (c_Bm_eight l dC dI cJ cI H.size m0 z0 z1 z2 z3 z4 z5 z6 z7 z8 z9 z10 a0 a1 a2 a3 a4 a5 a6 a7 a8 a9 b0 b1 40 b2 b3 b4 b5 g_28 (nf (8 * k + 1)) (by omega)) (cwV 1 hts (gw_V gk_1070 gk_1072 gp_36 gk_7 gk_1073) rfl rfl rfl (by decide +kernel) ⟨Nat.le_of_ble_eq_true rfl, Nat.le_of_ble_eq_true rfl⟩) ⟨fun a U g mk q => by obtain ⟨q0, q1, qP, qK, qD⟩ := q; exact ⟨q0, q1, qP, va_K.moved (u := U) (U := U.calling g mk a) (Vm.Alike.refl U.vm) qK, qD⟩, va_recv hK hP (ci := 8) (q0 := 0) rfl rfl, fun U hU hW => ⟨rfl, by rw [hU], by rw [hU]; exact hPc, va_K.moved hW.alike hKc, hDc.weaken (fun _ _ _ _ => trivial)⟩⟩ rfl rfl hl.1 rfl (lv_room (Nat.le_of_ble_eq_true rfl)) d_Bm_link_64 ⟨Nat.le_of_ble_eq_true rfl, Nat.le_of_ble_eq_true rfl⟩) hS (fun q _ h => hFc q h) hFc (fun u9 t9 H1 locs ht hvm hw hB hz1 hk1 hS => ?_)
                        obtain ⟨hP1, hK1, hD1⟩ := hB
                        rw [ht] at hP1
                        obtain ⟨hP, hD⟩ := va_join (wr := [(a8, .inl (cI, 64, .inl sc)), (a9, .inl (cI, 8, .inl st)), (b0, .inl (cI, 8, .inl kS)), (b1, .inl (cI, 64, .inl kR)), (a2, .inl (cJ, 4, .inr (.inl tf))), (a0, .inl (cJ, 1232, .inr (.inl nf))), (a1, .inl (cJ, 616, .inr (.inl cf)))]) (w1 := [(m0, .inr (8, [.int z0, .int z1, .int z2, .int z3, .long z4, .long z5, .long z6, .long z7, .long z8, .long z9, .int z10, .ref a0, .ref a1, .ref a2, .ref a3, .ref a4, .ref a5, .ref a6, .ref a7, .ref a8, .ref a9, .ref b0, .ref b1, .int (nI 48), .ref b2, .ref b3, .ref b4, .ref b5])), (a7, .inl (cI, 256, .inl (o8 g_28 40 (nf (8 * k + 1)))))]) hP hD [0, 1] [2, 3, 4, 5, 6, 7, 8] rfl rfl (by decide) (by decide) hk1 hFc hP1 hD1
                        have hP := hP.sub (ws' := [(m0, .inr (8, [.int z0, .int z1, .int z2, .int z3, .long z4, .long z5, .long z6, .long z7, .long z8, .long z9, .int z10, .ref a0, .ref a1, .ref a2, .ref a3, .ref a4, .ref a5, .ref a6, .ref a7, .ref a8, .ref a9, .ref b0, .ref b1, .int (nI 48), .ref b2, .ref b3, .ref b4, .ref b5])), (a7, .inl (cI, 256, .inl (o8 g_28 40 (nf (8 * k + 1))))), (a8, .inl (cI, 64, .inl sc)), (a9, .inl (cI, 8, .inl st)), (b0, .inl (cI, 8, .inl kS)), (b1, .inl (cI, 64, .inl kR)), (a2, .inl (cJ, 4, .inr (.inl tf))), (a0, .inl (cJ, 1232, .inr (.inl nf))), (a1, .inl (cJ, 616, .inr (.inl cf)))]) [7, 8, 0, 1, 2, 3, 4, 5, 6] rfl
                        have hD := hD.sub (ws' := [(m0, .inr (8, [.int z0, .int z1, .int z2, .int z3, .long z4, .long z5, .long z6, .long z7, .long z8, .long z9, .int z10, .ref a0, .ref a1, .ref a2, .ref a3, .ref a4, .ref a5, .ref a6, .ref a7, .ref a8, .ref a9, .ref b0, .ref b1, .int (nI 48), .ref b2, .ref b3, .ref b4, .ref b5])), (a7, .inl (cI, 256, .inl (o8 g_28 40 (nf (8 * k + 1))))), (a8, .inl (cI, 64, .inl sc)), (a9, .inl (cI, 8, .inl st)), (b0, .inl (cI, 8, .inl kS)), (b1, .inl (cI, 64, .inl kR)), (a2, .inl (cJ, 4, .inr (.inl tf))), (a0, .inl (cJ, 1232, .inr (.inl nf))), (a1, .inl (cJ, 616, .inr (.inl cf)))]) [7, 8, 0, 1, 2, 3, 4, 5, 6] (by decide) rfl
                        generalize H1 = H at hP hS ⊢
                        obtain ⟨g_33, eg_33⟩ : ∃ f : Nat → Int32, f = o8 g_28 40 (nf (8 * k + 1)) := ⟨_, rfl⟩
                        rw [← eg_33] at hP hD
                        have hm_34 : bok g_33 6 [cf (4 * (k - 1) + 0), cf (4 * (k - 1) + 1), cf (4 * (k - 1) + 2), cf (4 * (k - 1) + 3), nf (8 * k + 0), nf (8 * k + 1)] := bok_add _ hm_29 rfl eg_33
                        obtain ⟨i_35, ei_35⟩ : ∃ y : Int32, y = 1 + 1 := ⟨_, rfl⟩
                        refine lv_iinc (v := i_35) (lv' := [(2, .int i_35), (0, .ref m0), (1, .int (nI k))]) hx hb d_Bm_link_67 hl (k := 0) rfl (by rw [ei_35]; rfl) (by decide) rfl (fun ls hl => ?_)
                        obtain rfl : i_35 = 2 := by rw [ei_35]; exact by decide
                        refine lv_goto (tgt := 44) hx hb d_Bm_link_70 (by decide) ?_
                        refine lv_iload_n hx hb d_Bm_link_44 rfl (lv_at hl 0 rfl) ?_
                        refine lv_aload_n hx hb d_Bm_link_45 rfl (lv_at hl 1 rfl) ?_
                        refine lv_iload_n hx hb d_Bm_link_46 rfl (lv_at hl 2 rfl) ?_
                        refine lv_iconst (v := 0) hx hb d_Bm_link_47 (by decide) ?_
                        have hPc := hP.sub (ws' := (mo_ws m0 z0 z1 z2 z3 z4 z5 z6 z7 z8 z9 z10 a0 a1 a2 a3 a4 a5 a6 a7 a8 a9 b0 b1 48 b2 b3 b4 b5 ++ (jw_ws a0 cJ 1232 nf))) [0, 7] rfl
                        have hKc := hK.sub (tys' := [(cJ, .long), (cI, .int)]) [0, 1] rfl
                        refine va_calll (va_runV (As := [.int (nI k), .int 0]) (rest := [.int 2]) ⟨hx, hb, hml, hown, hts⟩ (c_Bm_at l H dC dI cJ cI m0 z0 z1 z2 z3 z4 z5 z6 z7 z8 z9 z10 a0 a1 a2 a3 a4 a5 a6 a7 a8 a9 b0 b1 48 b2 b3 b4 b5 nf k 0 hPc (by omega)) (cwV 2 hts (gw_V gk_1102 gk_1104 gp_42 gk_7 gk_1105) rfl rfl rfl (by decide +kernel) ⟨Nat.le_of_ble_eq_true rfl, Nat.le_of_ble_eq_true rfl⟩) ⟨fun a U g mk q => ⟨q.1, q.2.1, va_K.moved (u := U) (U := U.calling g mk a) (Vm.Alike.refl U.vm) q.2.2⟩, va_recv hK hP (ci := 8) (q0 := 0) rfl rfl, fun U hU hW => ⟨rfl, hU, va_K.moved hW.alike hKc⟩⟩ rfl rfl hl.1 rfl (lv_room (Nat.le_of_ble_eq_true rfl)) d_Bm_link_48 ⟨Nat.le_of_ble_eq_true rfl, Nat.le_of_ble_eq_true rfl⟩) hS (fun q _ h => h.elim) (fun q h => h.elim) (fun r48 u9 t9 H1 locs ht hvm hw hB hz1 hk1 hS => ?_)
                        obtain rfl : H = H1 := hB.symm.trans ht
                        have hw : r48 = nf (8 * k + 0) := hw
                        subst hw
                        refine va_calli (va_runS (As := [.long (nf (8 * k + 0))]) (rest := [.int 2]) ⟨hx, hb, hml, hown, hts⟩ (c_Bm_many l H (nf (8 * k + 0))) (cwS 1 hts (gw_S gk_1106 gk_1107 gk_7 gk_1108) rfl rfl rfl (by decide +kernel) ⟨Nat.le_of_ble_eq_true rfl, Nat.le_of_ble_eq_true rfl⟩) ⟨fun a U g mk q => q, fun U hU hW => ⟨rfl, hU⟩⟩ rfl rfl hl.1 rfl (lv_room (Nat.le_of_ble_eq_true rfl)) d_Bm_link_51 ⟨Nat.le_of_ble_eq_true rfl, Nat.le_of_ble_eq_true rfl⟩) hS (fun q _ h => h.elim) (fun q h => h.elim) (fun r51 u9 t9 H1 locs ht hvm hw hB hz1 hk1 hS => ?_)
                        obtain rfl : H = H1 := hB.symm.trans ht
                        have hw : r51 = if nf (8 * k + 0) = 2 then 8 else 5 := hw
                        subst hw
                        rw [show (if nf (8 * k + 0) = 2 then 8 else 5 : Int32) = 5 from if_neg hw2]
                        refine lv_icmp_ge (tgt := 73) hx hb d_Bm_link_54 (by decide) (fun c_36 => ?_) (fun c_36 => ?_)
                        · -- taken
                          exact absurd c_36 (by decide)
                        · -- not taken
                          refine lv_aload_n hx hb d_Bm_link_57 rfl (lv_at hl 1 rfl) ?_
                          refine lv_aload_n hx hb d_Bm_link_58 rfl (lv_at hl 1 rfl) ?_
                          refine lv_iload_n hx hb d_Bm_link_59 rfl (lv_at hl 2 rfl) ?_
                          refine lv_iload_n hx hb d_Bm_link_60 rfl (lv_at hl 0 rfl) ?_
                          have hPc := hP.sub (ws' := (mo_ws m0 z0 z1 z2 z3 z4 z5 z6 z7 z8 z9 z10 a0 a1 a2 a3 a4 a5 a6 a7 a8 a9 b0 b1 48 b2 b3 b4 b5 ++ (jw_ws a0 cJ 1232 nf))) [0, 7] rfl
                          have hKc := hK.sub (tys' := [(cJ, .long), (cI, .int)]) [0, 1] rfl
                          refine va_calll (va_runV (As := [.int (nI k), .int 2]) (rest := [.ref m0]) ⟨hx, hb, hml, hown, hts⟩ (c_Bm_at l H dC dI cJ cI m0 z0 z1 z2 z3 z4 z5 z6 z7 z8 z9 z10 a0 a1 a2 a3 a4 a5 a6 a7 a8 a9 b0 b1 48 b2 b3 b4 b5 nf k 2 hPc (by omega)) (cwV 2 hts (gw_V gk_1102 gk_1104 gp_42 gk_7 gk_1105) rfl rfl rfl (by decide +kernel) ⟨Nat.le_of_ble_eq_true rfl, Nat.le_of_ble_eq_true rfl⟩) ⟨fun a U g mk q => ⟨q.1, q.2.1, va_K.moved (u := U) (U := U.calling g mk a) (Vm.Alike.refl U.vm) q.2.2⟩, va_recv hK hP (ci := 8) (q0 := 0) rfl rfl, fun U hU hW => ⟨rfl, hU, va_K.moved hW.alike hKc⟩⟩ rfl rfl hl.1 rfl (lv_room (Nat.le_of_ble_eq_true rfl)) d_Bm_link_61 ⟨Nat.le_of_ble_eq_true rfl, Nat.le_of_ble_eq_true rfl⟩) hS (fun q _ h => h.elim) (fun q h => h.elim) (fun r61 u9 t9 H1 locs ht hvm hw hB hz1 hk1 hS => ?_)
                          obtain rfl : H = H1 := hB.symm.trans ht
                          have hw : r61 = nf (8 * k + 2) := hw
                          subst hw
                          have hPc := hP.sub (ws' := (mo_ws m0 z0 z1 z2 z3 z4 z5 z6 z7 z8 z9 z10 a0 a1 a2 a3 a4 a5 a6 a7 a8 a9 b0 b1 48 b2 b3 b4 b5 ++ (iw_ws a7 cI 256 g_33))) [0, 1] rfl
                          have hDc := hD.sub (ws' := (mo_ws m0 z0 z1 z2 z3 z4 z5 z6 z7 z8 z9 z10 a0 a1 a2 a3 a4 a5 a6 a7 a8 a9 b0 b1 48 b2 b3 b4 b5 ++ (iw_ws a7 cI 256 g_33))) [0, 1] (by decide) rfl
                          have hKc := hK.sub (tys' := [(cJ, .long), (cI, .int)]) [0, 1] rfl
                          have hFc := va_free (wc := (mo_ws m0 z0 z1 z2 z3 z4 z5 z6 z7 z8 z9 z10 a0 a1 a2 a3 a4 a5 a6 a7 a8 a9 b0 b1 48 b2 b3 b4 b5 ++ (iw_ws a7 cI 256 g_33))) hD hS hA [0, 1] rfl
                          refine va_callv (va_runV (As := [.long (nf (8 * k + 2))]) (rest := []) ⟨hx, hb, hml, hown, hts⟩ (c_Bm_eight l dC dI cJ cI H.size m0 z0 z1 z2 z3 z4 z5 z6 z7 z8 z9 z10 a0 a1 a2 a3 a4 a5 a6 a7 a8 a9 b0 b1 48 b2 b3 b4 b5 g_33 (nf (8 * k + 2)) (by omega)) (cwV 1 hts (gw_V gk_1070 gk_1072 gp_36 gk_7 gk_1073) rfl rfl rfl (by decide +kernel) ⟨Nat.le_of_ble_eq_true rfl, Nat.le_of_ble_eq_true rfl⟩) ⟨fun a U g mk q => by obtain ⟨q0, q1, qP, qK, qD⟩ := q; exact ⟨q0, q1, qP, va_K.moved (u := U) (U := U.calling g mk a) (Vm.Alike.refl U.vm) qK, qD⟩, va_recv hK hP (ci := 8) (q0 := 0) rfl rfl, fun U hU hW => ⟨rfl, by rw [hU], by rw [hU]; exact hPc, va_K.moved hW.alike hKc, hDc.weaken (fun _ _ _ _ => trivial)⟩⟩ rfl rfl hl.1 rfl (lv_room (Nat.le_of_ble_eq_true rfl)) d_Bm_link_64 ⟨Nat.le_of_ble_eq_true rfl, Nat.le_of_ble_eq_true rfl⟩) hS (fun q _ h => hFc q h) hFc (fun u9 t9 H1 locs ht hvm hw hB hz1 hk1 hS => ?_)
                          obtain ⟨hP1, hK1, hD1⟩ := hB
                          rw [ht] at hP1
                          obtain ⟨hP, hD⟩ := va_join (wr := [(a8, .inl (cI, 64, .inl sc)), (a9, .inl (cI, 8, .inl st)), (b0, .inl (cI, 8, .inl kS)), (b1, .inl (cI, 64, .inl kR)), (a2, .inl (cJ, 4, .inr (.inl tf))), (a0, .inl (cJ, 1232, .inr (.inl nf))), (a1, .inl (cJ, 616, .inr (.inl cf)))]) (w1 := [(m0, .inr (8, [.int z0, .int z1, .int z2, .int z3, .long z4, .long z5, .long z6, .long z7, .long z8, .long z9, .int z10, .ref a0, .ref a1, .ref a2, .ref a3, .ref a4, .ref a5, .ref a6, .ref a7, .ref a8, .ref a9, .ref b0, .ref b1, .int (nI 56), .ref b2, .ref b3, .ref b4, .ref b5])), (a7, .inl (cI, 256, .inl (o8 g_33 48 (nf (8 * k + 2)))))]) hP hD [0, 1] [2, 3, 4, 5, 6, 7, 8] rfl rfl (by decide) (by decide) hk1 hFc hP1 hD1
                          have hP := hP.sub (ws' := [(m0, .inr (8, [.int z0, .int z1, .int z2, .int z3, .long z4, .long z5, .long z6, .long z7, .long z8, .long z9, .int z10, .ref a0, .ref a1, .ref a2, .ref a3, .ref a4, .ref a5, .ref a6, .ref a7, .ref a8, .ref a9, .ref b0, .ref b1, .int (nI 56), .ref b2, .ref b3, .ref b4, .ref b5])), (a7, .inl (cI, 256, .inl (o8 g_33 48 (nf (8 * k + 2))))), (a8, .inl (cI, 64, .inl sc)), (a9, .inl (cI, 8, .inl st)), (b0, .inl (cI, 8, .inl kS)), (b1, .inl (cI, 64, .inl kR)), (a2, .inl (cJ, 4, .inr (.inl tf))), (a0, .inl (cJ, 1232, .inr (.inl nf))), (a1, .inl (cJ, 616, .inr (.inl cf)))]) [7, 8, 0, 1, 2, 3, 4, 5, 6] rfl
                          have hD := hD.sub (ws' := [(m0, .inr (8, [.int z0, .int z1, .int z2, .int z3, .long z4, .long z5, .long z6, .long z7, .long z8, .long z9, .int z10, .ref a0, .ref a1, .ref a2, .ref a3, .ref a4, .ref a5, .ref a6, .ref a7, .ref a8, .ref a9, .ref b0, .ref b1, .int (nI 56), .ref b2, .ref b3, .ref b4, .ref b5])), (a7, .inl (cI, 256, .inl (o8 g_33 48 (nf (8 * k + 2))))), (a8, .inl (cI, 64, .inl sc)), (a9, .inl (cI, 8, .inl st)), (b0, .inl (cI, 8, .inl kS)), (b1, .inl (cI, 64, .inl kR)), (a2, .inl (cJ, 4, .inr (.inl tf))), (a0, .inl (cJ, 1232, .inr (.inl nf))), (a1, .inl (cJ, 616, .inr (.inl cf)))]) [7, 8, 0, 1, 2, 3, 4, 5, 6] (by decide) rfl
                          generalize H1 = H at hP hS ⊢
                          obtain ⟨g_38, eg_38⟩ : ∃ f : Nat → Int32, f = o8 g_33 48 (nf (8 * k + 2)) := ⟨_, rfl⟩
                          rw [← eg_38] at hP hD
                          have hm_39 : bok g_38 7 [cf (4 * (k - 1) + 0), cf (4 * (k - 1) + 1), cf (4 * (k - 1) + 2), cf (4 * (k - 1) + 3), nf (8 * k + 0), nf (8 * k + 1), nf (8 * k + 2)] := bok_add _ hm_34 rfl eg_38
                          obtain ⟨i_40, ei_40⟩ : ∃ y : Int32, y = 2 + 1 := ⟨_, rfl⟩
                          refine lv_iinc (v := i_40) (lv' := [(2, .int i_40), (0, .ref m0), (1, .int (nI k))]) hx hb d_Bm_link_67 hl (k := 0) rfl (by rw [ei_40]; rfl) (by decide) rfl (fun ls hl => ?_)
                          obtain rfl : i_40 = 3 := by rw [ei_40]; exact by decide
                          refine lv_goto (tgt := 44) hx hb d_Bm_link_70 (by decide) ?_
                          refine lv_iload_n hx hb d_Bm_link_44 rfl (lv_at hl 0 rfl) ?_
                          refine lv_aload_n hx hb d_Bm_link_45 rfl (lv_at hl 1 rfl) ?_
                          refine lv_iload_n hx hb d_Bm_link_46 rfl (lv_at hl 2 rfl) ?_
                          refine lv_iconst (v := 0) hx hb d_Bm_link_47 (by decide) ?_
                          have hPc := hP.sub (ws' := (mo_ws m0 z0 z1 z2 z3 z4 z5 z6 z7 z8 z9 z10 a0 a1 a2 a3 a4 a5 a6 a7 a8 a9 b0 b1 56 b2 b3 b4 b5 ++ (jw_ws a0 cJ 1232 nf))) [0, 7] rfl
                          have hKc := hK.sub (tys' := [(cJ, .long), (cI, .int)]) [0, 1] rfl
                          refine va_calll (va_runV (As := [.int (nI k), .int 0]) (rest := [.int 3]) ⟨hx, hb, hml, hown, hts⟩ (c_Bm_at l H dC dI cJ cI m0 z0 z1 z2 z3 z4 z5 z6 z7 z8 z9 z10 a0 a1 a2 a3 a4 a5 a6 a7 a8 a9 b0 b1 56 b2 b3 b4 b5 nf k 0 hPc (by omega)) (cwV 2 hts (gw_V gk_1102 gk_1104 gp_42 gk_7 gk_1105) rfl rfl rfl (by decide +kernel) ⟨Nat.le_of_ble_eq_true rfl, Nat.le_of_ble_eq_true rfl⟩) ⟨fun a U g mk q => ⟨q.1, q.2.1, va_K.moved (u := U) (U := U.calling g mk a) (Vm.Alike.refl U.vm) q.2.2⟩, va_recv hK hP (ci := 8) (q0 := 0) rfl rfl, fun U hU hW => ⟨rfl, hU, va_K.moved hW.alike hKc⟩⟩ rfl rfl hl.1 rfl (lv_room (Nat.le_of_ble_eq_true rfl)) d_Bm_link_48 ⟨Nat.le_of_ble_eq_true rfl, Nat.le_of_ble_eq_true rfl⟩) hS (fun q _ h => h.elim) (fun q h => h.elim) (fun r48 u9 t9 H1 locs ht hvm hw hB hz1 hk1 hS => ?_)
                          obtain rfl : H = H1 := hB.symm.trans ht
                          have hw : r48 = nf (8 * k + 0) := hw
                          subst hw
                          refine va_calli (va_runS (As := [.long (nf (8 * k + 0))]) (rest := [.int 3]) ⟨hx, hb, hml, hown, hts⟩ (c_Bm_many l H (nf (8 * k + 0))) (cwS 1 hts (gw_S gk_1106 gk_1107 gk_7 gk_1108) rfl rfl rfl (by decide +kernel) ⟨Nat.le_of_ble_eq_true rfl, Nat.le_of_ble_eq_true rfl⟩) ⟨fun a U g mk q => q, fun U hU hW => ⟨rfl, hU⟩⟩ rfl rfl hl.1 rfl (lv_room (Nat.le_of_ble_eq_true rfl)) d_Bm_link_51 ⟨Nat.le_of_ble_eq_true rfl, Nat.le_of_ble_eq_true rfl⟩) hS (fun q _ h => h.elim) (fun q h => h.elim) (fun r51 u9 t9 H1 locs ht hvm hw hB hz1 hk1 hS => ?_)
                          obtain rfl : H = H1 := hB.symm.trans ht
                          have hw : r51 = if nf (8 * k + 0) = 2 then 8 else 5 := hw
                          subst hw
                          rw [show (if nf (8 * k + 0) = 2 then 8 else 5 : Int32) = 5 from if_neg hw2]
                          refine lv_icmp_ge (tgt := 73) hx hb d_Bm_link_54 (by decide) (fun c_41 => ?_) (fun c_41 => ?_)
                          · -- taken
                            exact absurd c_41 (by decide)
                          · -- not taken
                            refine lv_aload_n hx hb d_Bm_link_57 rfl (lv_at hl 1 rfl) ?_
                            refine lv_aload_n hx hb d_Bm_link_58 rfl (lv_at hl 1 rfl) ?_
                            refine lv_iload_n hx hb d_Bm_link_59 rfl (lv_at hl 2 rfl) ?_
                            refine lv_iload_n hx hb d_Bm_link_60 rfl (lv_at hl 0 rfl) ?_
                            have hPc := hP.sub (ws' := (mo_ws m0 z0 z1 z2 z3 z4 z5 z6 z7 z8 z9 z10 a0 a1 a2 a3 a4 a5 a6 a7 a8 a9 b0 b1 56 b2 b3 b4 b5 ++ (jw_ws a0 cJ 1232 nf))) [0, 7] rfl
                            have hKc := hK.sub (tys' := [(cJ, .long), (cI, .int)]) [0, 1] rfl
                            refine va_calll (va_runV (As := [.int (nI k), .int 3]) (rest := [.ref m0]) ⟨hx, hb, hml, hown, hts⟩ (c_Bm_at l H dC dI cJ cI m0 z0 z1 z2 z3 z4 z5 z6 z7 z8 z9 z10 a0 a1 a2 a3 a4 a5 a6 a7 a8 a9 b0 b1 56 b2 b3 b4 b5 nf k 3 hPc (by omega)) (cwV 2 hts (gw_V gk_1102 gk_1104 gp_42 gk_7 gk_1105) rfl rfl rfl (by decide +kernel) ⟨Nat.le_of_ble_eq_true rfl, Nat.le_of_ble_eq_true rfl⟩) ⟨fun a U g mk q => ⟨q.1, q.2.1, va_K.moved (u := U) (U := U.calling g mk a) (Vm.Alike.refl U.vm) q.2.2⟩, va_recv hK hP (ci := 8) (q0 := 0) rfl rfl, fun U hU hW => ⟨rfl, hU, va_K.moved hW.alike hKc⟩⟩ rfl rfl hl.1 rfl (lv_room (Nat.le_of_ble_eq_true rfl)) d_Bm_link_61 ⟨Nat.le_of_ble_eq_true rfl, Nat.le_of_ble_eq_true rfl⟩) hS (fun q _ h => h.elim) (fun q h => h.elim) (fun r61 u9 t9 H1 locs ht hvm hw hB hz1 hk1 hS => ?_)
                            obtain rfl : H = H1 := hB.symm.trans ht
                            have hw : r61 = nf (8 * k + 3) := hw
                            subst hw
                            have hPc := hP.sub (ws' := (mo_ws m0 z0 z1 z2 z3 z4 z5 z6 z7 z8 z9 z10 a0 a1 a2 a3 a4 a5 a6 a7 a8 a9 b0 b1 56 b2 b3 b4 b5 ++ (iw_ws a7 cI 256 g_38))) [0, 1] rfl
                            have hDc := hD.sub (ws' := (mo_ws m0 z0 z1 z2 z3 z4 z5 z6 z7 z8 z9 z10 a0 a1 a2 a3 a4 a5 a6 a7 a8 a9 b0 b1 56 b2 b3 b4 b5 ++ (iw_ws a7 cI 256 g_38))) [0, 1] (by decide) rfl
                            have hKc := hK.sub (tys' := [(cJ, .long), (cI, .int)]) [0, 1] rfl
                            have hFc := va_free (wc := (mo_ws m0 z0 z1 z2 z3 z4 z5 z6 z7 z8 z9 z10 a0 a1 a2 a3 a4 a5 a6 a7 a8 a9 b0 b1 56 b2 b3 b4 b5 ++ (iw_ws a7 cI 256 g_38))) hD hS hA [0, 1] rfl
                            refine va_callv (va_runV (As := [.long (nf (8 * k + 3))]) (rest := []) ⟨hx, hb, hml, hown, hts⟩ (c_Bm_eight l dC dI cJ cI H.size m0 z0 z1 z2 z3 z4 z5 z6 z7 z8 z9 z10 a0 a1 a2 a3 a4 a5 a6 a7 a8 a9 b0 b1 56 b2 b3 b4 b5 g_38 (nf (8 * k + 3)) (by omega)) (cwV 1 hts (gw_V gk_1070 gk_1072 gp_36 gk_7 gk_1073) rfl rfl rfl (by decide +kernel) ⟨Nat.le_of_ble_eq_true rfl, Nat.le_of_ble_eq_true rfl⟩) ⟨fun a U g mk q => by obtain ⟨q0, q1, qP, qK, qD⟩ := q; exact ⟨q0, q1, qP, va_K.moved (u := U) (U := U.calling g mk a) (Vm.Alike.refl U.vm) qK, qD⟩, va_recv hK hP (ci := 8) (q0 := 0) rfl rfl, fun U hU hW => ⟨rfl, by rw [hU], by rw [hU]; exact hPc, va_K.moved hW.alike hKc, hDc.weaken (fun _ _ _ _ => trivial)⟩⟩ rfl rfl hl.1 rfl (lv_room (Nat.le_of_ble_eq_true rfl)) d_Bm_link_64 ⟨Nat.le_of_ble_eq_true rfl, Nat.le_of_ble_eq_true rfl⟩) hS (fun q _ h => hFc q h) hFc (fun u9 t9 H1 locs ht hvm hw hB hz1 hk1 hS => ?_)
                            obtain ⟨hP1, hK1, hD1⟩ := hB
                            rw [ht] at hP1
                            obtain ⟨hP, hD⟩ := va_join (wr := [(a8, .inl (cI, 64, .inl sc)), (a9, .inl (cI, 8, .inl st)), (b0, .inl (cI, 8, .inl kS)), (b1, .inl (cI, 64, .inl kR)), (a2, .inl (cJ, 4, .inr (.inl tf))), (a0, .inl (cJ, 1232, .inr (.inl nf))), (a1, .inl (cJ, 616, .inr (.inl cf)))]) (w1 := [(m0, .inr (8, [.int z0, .int z1, .int z2, .int z3, .long z4, .long z5, .long z6, .long z7, .long z8, .long z9, .int z10, .ref a0, .ref a1, .ref a2, .ref a3, .ref a4, .ref a5, .ref a6, .ref a7, .ref a8, .ref a9, .ref b0, .ref b1, .int (nI 64), .ref b2, .ref b3, .ref b4, .ref b5])), (a7, .inl (cI, 256, .inl (o8 g_38 56 (nf (8 * k + 3)))))]) hP hD [0, 1] [2, 3, 4, 5, 6, 7, 8] rfl rfl (by decide) (by decide) hk1 hFc hP1 hD1
                            have hP := hP.sub (ws' := [(m0, .inr (8, [.int z0, .int z1, .int z2, .int z3, .long z4, .long z5, .long z6, .long z7, .long z8, .long z9, .int z10, .ref a0, .ref a1, .ref a2, .ref a3, .ref a4, .ref a5, .ref a6, .ref a7, .ref a8, .ref a9, .ref b0, .ref b1, .int (nI 64), .ref b2, .ref b3, .ref b4, .ref b5])), (a7, .inl (cI, 256, .inl (o8 g_38 56 (nf (8 * k + 3))))), (a8, .inl (cI, 64, .inl sc)), (a9, .inl (cI, 8, .inl st)), (b0, .inl (cI, 8, .inl kS)), (b1, .inl (cI, 64, .inl kR)), (a2, .inl (cJ, 4, .inr (.inl tf))), (a0, .inl (cJ, 1232, .inr (.inl nf))), (a1, .inl (cJ, 616, .inr (.inl cf)))]) [7, 8, 0, 1, 2, 3, 4, 5, 6] rfl
                            have hD := hD.sub (ws' := [(m0, .inr (8, [.int z0, .int z1, .int z2, .int z3, .long z4, .long z5, .long z6, .long z7, .long z8, .long z9, .int z10, .ref a0, .ref a1, .ref a2, .ref a3, .ref a4, .ref a5, .ref a6, .ref a7, .ref a8, .ref a9, .ref b0, .ref b1, .int (nI 64), .ref b2, .ref b3, .ref b4, .ref b5])), (a7, .inl (cI, 256, .inl (o8 g_38 56 (nf (8 * k + 3))))), (a8, .inl (cI, 64, .inl sc)), (a9, .inl (cI, 8, .inl st)), (b0, .inl (cI, 8, .inl kS)), (b1, .inl (cI, 64, .inl kR)), (a2, .inl (cJ, 4, .inr (.inl tf))), (a0, .inl (cJ, 1232, .inr (.inl nf))), (a1, .inl (cJ, 616, .inr (.inl cf)))]) [7, 8, 0, 1, 2, 3, 4, 5, 6] (by decide) rfl
                            generalize H1 = H at hP hS ⊢
                            obtain ⟨g_43, eg_43⟩ : ∃ f : Nat → Int32, f = o8 g_38 56 (nf (8 * k + 3)) := ⟨_, rfl⟩
                            rw [← eg_43] at hP hD
                            have hm_44 : bok g_43 8 [cf (4 * (k - 1) + 0), cf (4 * (k - 1) + 1), cf (4 * (k - 1) + 2), cf (4 * (k - 1) + 3), nf (8 * k + 0), nf (8 * k + 1), nf (8 * k + 2), nf (8 * k + 3)] := bok_add _ hm_39 rfl eg_43
                            obtain ⟨i_45, ei_45⟩ : ∃ y : Int32, y = 3 + 1 := ⟨_, rfl⟩
                            refine lv_iinc (v := i_45) (lv' := [(2, .int i_45), (0, .ref m0), (1, .int (nI k))]) hx hb d_Bm_link_67 hl (k := 0) rfl (by rw [ei_45]; rfl) (by decide) rfl (fun ls hl => ?_)
                            obtain rfl : i_45 = 4 := by rw [ei_45]; exact by decide
                            refine lv_goto (tgt := 44) hx hb d_Bm_link_70 (by decide) ?_
                            refine lv_iload_n hx hb d_Bm_link_44 rfl (lv_at hl 0 rfl) ?_
                            refine lv_aload_n hx hb d_Bm_link_45 rfl (lv_at hl 1 rfl) ?_
                            refine lv_iload_n hx hb d_Bm_link_46 rfl (lv_at hl 2 rfl) ?_
                            refine lv_iconst (v := 0) hx hb d_Bm_link_47 (by decide) ?_
                            have hPc := hP.sub (ws' := (mo_ws m0 z0 z1 z2 z3 z4 z5 z6 z7 z8 z9 z10 a0 a1 a2 a3 a4 a5 a6 a7 a8 a9 b0 b1 64 b2 b3 b4 b5 ++ (jw_ws a0 cJ 1232 nf))) [0, 7] rfl
                            have hKc := hK.sub (tys' := [(cJ, .long), (cI, .int)]) [0, 1] rfl
                            refine va_calll (va_runV (As := [.int (nI k), .int 0]) (rest := [.int 4]) ⟨hx, hb, hml, hown, hts⟩ (c_Bm_at l H dC dI cJ cI m0 z0 z1 z2 z3 z4 z5 z6 z7 z8 z9 z10 a0 a1 a2 a3 a4 a5 a6 a7 a8 a9 b0 b1 64 b2 b3 b4 b5 nf k 0 hPc (by omega)) (cwV 2 hts (gw_V gk_1102 gk_1104 gp_42 gk_7 gk_1105) rfl rfl rfl (by decide +kernel) ⟨Nat.le_of_ble_eq_true rfl, Nat.le_of_ble_eq_true rfl⟩) ⟨fun a U g mk q => ⟨q.1, q.2.1, va_K.moved (u := U) (U := U.calling g mk a) (Vm.Alike.refl U.vm) q.2.2⟩, va_recv hK hP (ci := 8) (q0 := 0) rfl rfl, fun U hU hW => ⟨rfl, hU, va_K.moved hW.alike hKc⟩⟩ rfl rfl hl.1 rfl (lv_room (Nat.le_of_ble_eq_true rfl)) d_Bm_link_48 ⟨Nat.le_of_ble_eq_true rfl, Nat.le_of_ble_eq_true rfl⟩) hS (fun q _ h => h.elim) (fun q h => h.elim) (fun r48 u9 t9 H1 locs ht hvm hw hB hz1 hk1 hS => ?_)
                            obtain rfl : H = H1 := hB.symm.trans ht
                            have hw : r48 = nf (8 * k + 0) := hw
                            subst hw
                            refine va_calli (va_runS (As := [.long (nf (8 * k + 0))]) (rest := [.int 4]) ⟨hx, hb, hml, hown, hts⟩ (c_Bm_many l H (nf (8 * k + 0))) (cwS 1 hts (gw_S gk_1106 gk_1107 gk_7 gk_1108) rfl rfl rfl (by decide +kernel) ⟨Nat.le_of_ble_eq_true rfl, Nat.le_of_ble_eq_true rfl⟩) ⟨fun a U g mk q => q, fun U hU hW => ⟨rfl, hU⟩⟩ rfl rfl hl.1 rfl (lv_room (Nat.le_of_ble_eq_true rfl)) d_Bm_link_51 ⟨Nat.le_of_ble_eq_true rfl, Nat.le_of_ble_eq_true rfl⟩) hS (fun q _ h => h.elim) (fun q h => h.elim) (fun r51 u9 t9 H1 locs ht hvm hw hB hz1 hk1 hS => ?_)
                            obtain rfl : H = H1 := hB.symm.trans ht
                            have hw : r51 = if nf (8 * k + 0) = 2 then 8 else 5 := hw
                            subst hw
                            rw [show (if nf (8 * k + 0) = 2 then 8 else 5 : Int32) = 5 from if_neg hw2]
                            refine lv_icmp_ge (tgt := 73) hx hb d_Bm_link_54 (by decide) (fun c_46 => ?_) (fun c_46 => ?_)
                            · -- taken
                              exact absurd c_46 (by decide)
                            · -- not taken
                              refine lv_aload_n hx hb d_Bm_link_57 rfl (lv_at hl 1 rfl) ?_
                              refine lv_aload_n hx hb d_Bm_link_58 rfl (lv_at hl 1 rfl) ?_
                              refine lv_iload_n hx hb d_Bm_link_59 rfl (lv_at hl 2 rfl) ?_
                              refine lv_iload_n hx hb d_Bm_link_60 rfl (lv_at hl 0 rfl) ?_
                              have hPc := hP.sub (ws' := (mo_ws m0 z0 z1 z2 z3 z4 z5 z6 z7 z8 z9 z10 a0 a1 a2 a3 a4 a5 a6 a7 a8 a9 b0 b1 64 b2 b3 b4 b5 ++ (jw_ws a0 cJ 1232 nf))) [0, 7] rfl
                              have hKc := hK.sub (tys' := [(cJ, .long), (cI, .int)]) [0, 1] rfl
                              refine va_calll (va_runV (As := [.int (nI k), .int 4]) (rest := [.ref m0]) ⟨hx, hb, hml, hown, hts⟩ (c_Bm_at l H dC dI cJ cI m0 z0 z1 z2 z3 z4 z5 z6 z7 z8 z9 z10 a0 a1 a2 a3 a4 a5 a6 a7 a8 a9 b0 b1 64 b2 b3 b4 b5 nf k 4 hPc (by omega)) (cwV 2 hts (gw_V gk_1102 gk_1104 gp_42 gk_7 gk_1105) rfl rfl rfl (by decide +kernel) ⟨Nat.le_of_ble_eq_true rfl, Nat.le_of_ble_eq_true rfl⟩) ⟨fun a U g mk q => ⟨q.1, q.2.1, va_K.moved (u := U) (U := U.calling g mk a) (Vm.Alike.refl U.vm) q.2.2⟩, va_recv hK hP (ci := 8) (q0 := 0) rfl rfl, fun U hU hW => ⟨rfl, hU, va_K.moved hW.alike hKc⟩⟩ rfl rfl hl.1 rfl (lv_room (Nat.le_of_ble_eq_true rfl)) d_Bm_link_61 ⟨Nat.le_of_ble_eq_true rfl, Nat.le_of_ble_eq_true rfl⟩) hS (fun q _ h => h.elim) (fun q h => h.elim) (fun r61 u9 t9 H1 locs ht hvm hw hB hz1 hk1 hS => ?_)
                              obtain rfl : H = H1 := hB.symm.trans ht
                              have hw : r61 = nf (8 * k + 4) := hw
                              subst hw
                              have hPc := hP.sub (ws' := (mo_ws m0 z0 z1 z2 z3 z4 z5 z6 z7 z8 z9 z10 a0 a1 a2 a3 a4 a5 a6 a7 a8 a9 b0 b1 64 b2 b3 b4 b5 ++ (iw_ws a7 cI 256 g_43))) [0, 1] rfl
                              have hDc := hD.sub (ws' := (mo_ws m0 z0 z1 z2 z3 z4 z5 z6 z7 z8 z9 z10 a0 a1 a2 a3 a4 a5 a6 a7 a8 a9 b0 b1 64 b2 b3 b4 b5 ++ (iw_ws a7 cI 256 g_43))) [0, 1] (by decide) rfl
                              have hKc := hK.sub (tys' := [(cJ, .long), (cI, .int)]) [0, 1] rfl
                              have hFc := va_free (wc := (mo_ws m0 z0 z1 z2 z3 z4 z5 z6 z7 z8 z9 z10 a0 a1 a2 a3 a4 a5 a6 a7 a8 a9 b0 b1 64 b2 b3 b4 b5 ++ (iw_ws a7 cI 256 g_43))) hD hS hA [0, 1] rfl
                              refine va_callv (va_runV (As := [.long (nf (8 * k + 4))]) (rest := []) ⟨hx, hb, hml, hown, hts⟩ (c_Bm_eight l dC dI cJ cI H.size m0 z0 z1 z2 z3 z4 z5 z6 z7 z8 z9 z10 a0 a1 a2 a3 a4 a5 a6 a7 a8 a9 b0 b1 64 b2 b3 b4 b5 g_43 (nf (8 * k + 4)) (by omega)) (cwV 1 hts (gw_V gk_1070 gk_1072 gp_36 gk_7 gk_1073) rfl rfl rfl (by decide +kernel) ⟨Nat.le_of_ble_eq_true rfl, Nat.le_of_ble_eq_true rfl⟩) ⟨fun a U g mk q => by obtain ⟨q0, q1, qP, qK, qD⟩ := q; exact ⟨q0, q1, qP, va_K.moved (u := U) (U := U.calling g mk a) (Vm.Alike.refl U.vm) qK, qD⟩, va_recv hK hP (ci := 8) (q0 := 0) rfl rfl, fun U hU hW => ⟨rfl, by rw [hU], by rw [hU]; exact hPc, va_K.moved hW.alike hKc, hDc.weaken (fun _ _ _ _ => trivial)⟩⟩ rfl rfl hl.1 rfl (lv_room (Nat.le_of_ble_eq_true rfl)) d_Bm_link_64 ⟨Nat.le_of_ble_eq_true rfl, Nat.le_of_ble_eq_true rfl⟩) hS (fun q _ h => hFc q h) hFc (fun u9 t9 H1 locs ht hvm hw hB hz1 hk1 hS => ?_)
                              obtain ⟨hP1, hK1, hD1⟩ := hB
                              rw [ht] at hP1
                              obtain ⟨hP, hD⟩ := va_join (wr := [(a8, .inl (cI, 64, .inl sc)), (a9, .inl (cI, 8, .inl st)), (b0, .inl (cI, 8, .inl kS)), (b1, .inl (cI, 64, .inl kR)), (a2, .inl (cJ, 4, .inr (.inl tf))), (a0, .inl (cJ, 1232, .inr (.inl nf))), (a1, .inl (cJ, 616, .inr (.inl cf)))]) (w1 := [(m0, .inr (8, [.int z0, .int z1, .int z2, .int z3, .long z4, .long z5, .long z6, .long z7, .long z8, .long z9, .int z10, .ref a0, .ref a1, .ref a2, .ref a3, .ref a4, .ref a5, .ref a6, .ref a7, .ref a8, .ref a9, .ref b0, .ref b1, .int (nI 72), .ref b2, .ref b3, .ref b4, .ref b5])), (a7, .inl (cI, 256, .inl (o8 g_43 64 (nf (8 * k + 4)))))]) hP hD [0, 1] [2, 3, 4, 5, 6, 7, 8] rfl rfl (by decide) (by decide) hk1 hFc hP1 hD1
                              have hP := hP.sub (ws' := [(m0, .inr (8, [.int z0, .int z1, .int z2, .int z3, .long z4, .long z5, .long z6, .long z7, .long z8, .long z9, .int z10, .ref a0, .ref a1, .ref a2, .ref a3, .ref a4, .ref a5, .ref a6, .ref a7, .ref a8, .ref a9, .ref b0, .ref b1, .int (nI 72), .ref b2, .ref b3, .ref b4, .ref b5])), (a7, .inl (cI, 256, .inl (o8 g_43 64 (nf (8 * k + 4))))), (a8, .inl (cI, 64, .inl sc)), (a9, .inl (cI, 8, .inl st)), (b0, .inl (cI, 8, .inl kS)), (b1, .inl (cI, 64, .inl kR)), (a2, .inl (cJ, 4, .inr (.inl tf))), (a0, .inl (cJ, 1232, .inr (.inl nf))), (a1, .inl (cJ, 616, .inr (.inl cf)))]) [7, 8, 0, 1, 2, 3, 4, 5, 6] rfl
                              have hD := hD.sub (ws' := [(m0, .inr (8, [.int z0, .int z1, .int z2, .int z3, .long z4, .long z5, .long z6, .long z7, .long z8, .long z9, .int z10, .ref a0, .ref a1, .ref a2, .ref a3, .ref a4, .ref a5, .ref a6, .ref a7, .ref a8, .ref a9, .ref b0, .ref b1, .int (nI 72), .ref b2, .ref b3, .ref b4, .ref b5])), (a7, .inl (cI, 256, .inl (o8 g_43 64 (nf (8 * k + 4))))), (a8, .inl (cI, 64, .inl sc)), (a9, .inl (cI, 8, .inl st)), (b0, .inl (cI, 8, .inl kS)), (b1, .inl (cI, 64, .inl kR)), (a2, .inl (cJ, 4, .inr (.inl tf))), (a0, .inl (cJ, 1232, .inr (.inl nf))), (a1, .inl (cJ, 616, .inr (.inl cf)))]) [7, 8, 0, 1, 2, 3, 4, 5, 6] (by decide) rfl
                              generalize H1 = H at hP hS ⊢
                              obtain ⟨g_48, eg_48⟩ : ∃ f : Nat → Int32, f = o8 g_43 64 (nf (8 * k + 4)) := ⟨_, rfl⟩
                              rw [← eg_48] at hP hD
                              have hm_49 : bok g_48 9 [cf (4 * (k - 1) + 0), cf (4 * (k - 1) + 1), cf (4 * (k - 1) + 2), cf (4 * (k - 1) + 3), nf (8 * k + 0), nf (8 * k + 1), nf (8 * k + 2), nf (8 * k + 3), nf (8 * k + 4)] := bok_add _ hm_44 rfl eg_48
                              obtain ⟨i_50, ei_50⟩ : ∃ y : Int32, y = 4 + 1 := ⟨_, rfl⟩
                              refine lv_iinc (v := i_50) (lv' := [(2, .int i_50), (0, .ref m0), (1, .int (nI k))]) hx hb d_Bm_link_67 hl (k := 0) rfl (by rw [ei_50]; rfl) (by decide) rfl (fun ls hl => ?_)
                              obtain rfl : i_50 = 5 := by rw [ei_50]; exact by decide
                              refine lv_goto (tgt := 44) hx hb d_Bm_link_70 (by decide) ?_
                              refine lv_iload_n hx hb d_Bm_link_44 rfl (lv_at hl 0 rfl) ?_
                              refine lv_aload_n hx hb d_Bm_link_45 rfl (lv_at hl 1 rfl) ?_
                              refine lv_iload_n hx hb d_Bm_link_46 rfl (lv_at hl 2 rfl) ?_
                              refine lv_iconst (v := 0) hx hb d_Bm_link_47 (by decide) ?_
                              have hPc := hP.sub (ws' := (mo_ws m0 z0 z1 z2 z3 z4 z5 z6 z7 z8 z9 z10 a0 a1 a2 a3 a4 a5 a6 a7 a8 a9 b0 b1 72 b2 b3 b4 b5 ++ (jw_ws a0 cJ 1232 nf))) [0, 7] rfl
                              have hKc := hK.sub (tys' := [(cJ, .long), (cI, .int)]) [0, 1] rfl
                              refine va_calll (va_runV (As := [.int (nI k), .int 0]) (rest := [.int 5]) ⟨hx, hb, hml, hown, hts⟩ (c_Bm_at l H dC dI cJ cI m0 z0 z1 z2 z3 z4 z5 z6 z7 z8 z9 z10 a0 a1 a2 a3 a4 a5 a6 a7 a8 a9 b0 b1 72 b2 b3 b4 b5 nf k 0 hPc (by omega)) (cwV 2 hts (gw_V gk_1102 gk_1104 gp_42 gk_7 gk_1105) rfl rfl rfl (by decide +kernel) ⟨Nat.le_of_ble_eq_true rfl, Nat.le_of_ble_eq_true rfl⟩) ⟨fun a U g mk q => ⟨q.1, q.2.1, va_K.moved (u := U) (U := U.calling g mk a) (Vm.Alike.refl U.vm) q.2.2⟩, va_recv hK hP (ci := 8) (q0 := 0) rfl rfl, fun U hU hW => ⟨rfl, hU, va_K.moved hW.alike hKc⟩⟩ rfl rfl hl.1 rfl (lv_room (Nat.le_of_ble_eq_true rfl)) d_Bm_link_48 ⟨Nat.le_of_ble_eq_true rfl, Nat.le_of_ble_eq_true rfl⟩) hS (fun q _ h => h.elim) (fun q h => h.elim) (fun r48 u9 t9 H1 locs ht hvm hw hB hz1 hk1 hS => ?_)
                              obtain rfl : H = H1 := hB.symm.trans ht
                              have hw : r48 = nf (8 * k + 0) := hw
                              subst hw
                              refine va_calli (va_runS (As := [.long (nf (8 * k + 0))]) (rest := [.int 5]) ⟨hx, hb, hml, hown, hts⟩ (c_Bm_many l H (nf (8 * k + 0))) (cwS 1 hts (gw_S gk_1106 gk_1107 gk_7 gk_1108) rfl rfl rfl (by decide +kernel) ⟨Nat.le_of_ble_eq_true rfl, Nat.le_of_ble_eq_true rfl⟩) ⟨fun a U g mk q => q, fun U hU hW => ⟨rfl, hU⟩⟩ rfl rfl hl.1 rfl (lv_room (Nat.le_of_ble_eq_true rfl)) d_Bm_link_51 ⟨Nat.le_of_ble_eq_true rfl, Nat.le_of_ble_eq_true rfl⟩) hS (fun q _ h => h.elim) (fun q h => h.elim) (fun r51 u9 t9 H1 locs ht hvm hw hB hz1 hk1 hS => ?_)
                              obtain rfl : H = H1 := hB.symm.trans ht
                              have hw : r51 = if nf (8 * k + 0) = 2 then 8 else 5 := hw
                              subst hw
                              rw [show (if nf (8 * k + 0) = 2 then 8 else 5 : Int32) = 5 from if_neg hw2]
                              refine lv_icmp_ge (tgt := 73) hx hb d_Bm_link_54 (by decide) (fun c_51 => ?_) (fun c_51 => ?_)
                              · -- taken
                                refine lv_aload_n hx hb d_Bm_link_73 rfl (lv_at hl 1 rfl) ?_
                                have hPc := hP.sub (ws' := (mo_ws m0 z0 z1 z2 z3 z4 z5 z6 z7 z8 z9 z10 a0 a1 a2 a3 a4 a5 a6 a7 a8 a9 b0 b1 (8 * 9) b2 b3 b4 b5 ++ (iw_ws a7 cI 256 g_48 ++ (iw_ws a8 cI 64 sc ++ (iw_ws a9 cI 8 st ++ (iw_ws b0 cI 8 kS ++ (iw_ws b1 cI 64 kR ++ (jw_ws a2 cJ 4 tf)))))))) [0, 1, 2, 3, 4, 5, 6] rfl
                                have hDc := hD.sub (ws' := (mo_ws m0 z0 z1 z2 z3 z4 z5 z6 z7 z8 z9 z10 a0 a1 a2 a3 a4 a5 a6 a7 a8 a9 b0 b1 (8 * 9) b2 b3 b4 b5 ++ (iw_ws a7 cI 256 g_48 ++ (iw_ws a8 cI 64 sc ++ (iw_ws a9 cI 8 st ++ (iw_ws b0 cI 8 kS ++ (iw_ws b1 cI 64 kR ++ (jw_ws a2 cJ 4 tf)))))))) [0, 1, 2, 3, 4, 5, 6] (by decide) rfl
                                have hKc := hK.sub (tys' := [(cJ, .long), (cI, .int)]) [0, 1] rfl
                                have hFc := va_free (wc := (mo_ws m0 z0 z1 z2 z3 z4 z5 z6 z7 z8 z9 z10 a0 a1 a2 a3 a4 a5 a6 a7 a8 a9 b0 b1 (8 * 9) b2 b3 b4 b5 ++ (iw_ws a7 cI 256 g_48 ++ (iw_ws a8 cI 64 sc ++ (iw_ws a9 cI 8 st ++ (iw_ws b0 cI 8 kS ++ (iw_ws b1 cI 64 kR ++ (jw_ws a2 cJ 4 tf)))))))) hD hS hA [0, 1, 2, 3, 4, 5, 6] rfl
                                refine va_callv (va_runV (As := []) (rest := []) ⟨hx, hb, hml, hown, hts⟩ (c_Bm_digest l dC dI cJ cI H.size m0 z0 z1 z2 z3 z4 z5 z6 z7 z8 z9 z10 a0 a1 a2 a3 a4 a5 a6 a7 a8 a9 b0 b1 b2 b3 b4 b5 9 g_48 sc st tf [cf (4 * (k - 1) + 0), cf (4 * (k - 1) + 1), cf (4 * (k - 1) + 2), cf (4 * (k - 1) + 3), nf (8 * k + 0), nf (8 * k + 1), nf (8 * k + 2), nf (8 * k + 3), nf (8 * k + 4)] (by decide) hm_49) (cwV 0 hts (gw_V gk_1074 gk_1076 gp_37 gk_7 gk_1077) rfl rfl rfl (by decide +kernel) ⟨Nat.le_of_ble_eq_true rfl, Nat.le_of_ble_eq_true rfl⟩) ⟨fun a U g mk q => by obtain ⟨q0, q1, qP, qK, qD⟩ := q; exact ⟨q0, q1, qP, va_K.moved (u := U) (U := U.calling g mk a) (Vm.Alike.refl U.vm) qK, qD⟩, va_recv hK hP (ci := 8) (q0 := 0) rfl rfl, fun U hU hW => ⟨rfl, by rw [hU], by rw [hU]; exact hPc, va_K.moved hW.alike hKc, hDc.weaken (fun _ _ _ _ => trivial)⟩⟩ rfl rfl hl.1 rfl (lv_room (Nat.le_of_ble_eq_true rfl)) d_Bm_link_74 ⟨Nat.le_of_ble_eq_true rfl, Nat.le_of_ble_eq_true rfl⟩) hS (fun q _ h => hFc q h) hFc (fun u9 t9 H1 locs ht hvm hw hB hz1 hk1 hS => ?_)
                                obtain ⟨gbk_52, gsk_52, gtk_52, gfk_52, gok_52⟩ := u9
                                have hdg : dgo gtk_52 [cf (4 * (k - 1) + 0), cf (4 * (k - 1) + 1), cf (4 * (k - 1) + 2), cf (4 * (k - 1) + 3), nf (8 * k + 0), nf (8 * k + 1), nf (8 * k + 2), nf (8 * k + 3), nf (8 * k + 4)] ∧ ∀ j, j < 4 → gfk_52 j = lkw [cf (4 * (k - 1) + 0), cf (4 * (k - 1) + 1), cf (4 * (k - 1) + 2), cf (4 * (k - 1) + 3), nf (8 * k + 0), nf (8 * k + 1), nf (8 * k + 2), nf (8 * k + 3), nf (8 * k + 4)] j := hw
                                obtain ⟨hP1, hK1, hD1⟩ := hB
                                rw [ht] at hP1
                                obtain ⟨hP, hD⟩ := va_join (wr := [(a0, .inl (cJ, 1232, .inr (.inl nf))), (a1, .inl (cJ, 616, .inr (.inl cf)))]) (w1 := [(m0, .inr (8, [.int z0, .int z1, .int z2, .int z3, .long z4, .long z5, .long z6, .long z7, .long z8, .long z9, .int z10, .ref a0, .ref a1, .ref a2, .ref a3, .ref a4, .ref a5, .ref a6, .ref a7, .ref a8, .ref a9, .ref b0, .ref b1, .int (nI gok_52), .ref b2, .ref b3, .ref b4, .ref b5])), (a7, .inl (cI, 256, .inl gbk_52)), (a8, .inl (cI, 64, .inl gsk_52)), (a9, .inl (cI, 8, .inl gtk_52)), (b0, .inl (cI, 8, .inl kS)), (b1, .inl (cI, 64, .inl kR)), (a2, .inl (cJ, 4, .inr (.inl gfk_52)))]) hP hD [0, 1, 2, 3, 4, 5, 6] [7, 8] rfl rfl (by decide) (by decide) hk1 hFc hP1 hD1
                                have hP := hP.sub (ws' := [(m0, .inr (8, [.int z0, .int z1, .int z2, .int z3, .long z4, .long z5, .long z6, .long z7, .long z8, .long z9, .int z10, .ref a0, .ref a1, .ref a2, .ref a3, .ref a4, .ref a5, .ref a6, .ref a7, .ref a8, .ref a9, .ref b0, .ref b1, .int (nI gok_52), .ref b2, .ref b3, .ref b4, .ref b5])), (a7, .inl (cI, 256, .inl gbk_52)), (a8, .inl (cI, 64, .inl gsk_52)), (a9, .inl (cI, 8, .inl gtk_52)), (b0, .inl (cI, 8, .inl kS)), (b1, .inl (cI, 64, .inl kR)), (a2, .inl (cJ, 4, .inr (.inl gfk_52))), (a0, .inl (cJ, 1232, .inr (.inl nf))), (a1, .inl (cJ, 616, .inr (.inl cf)))]) [2, 3, 4, 5, 6, 7, 8, 0, 1] rfl
                                have hD := hD.sub (ws' := [(m0, .inr (8, [.int z0, .int z1, .int z2, .int z3, .long z4, .long z5, .long z6, .long z7, .long z8, .long z9, .int z10, .ref a0, .ref a1, .ref a2, .ref a3, .ref a4, .ref a5, .ref a6, .ref a7, .ref a8, .ref a9, .ref b0, .ref b1, .int (nI gok_52), .ref b2, .ref b3, .ref b4, .ref b5])), (a7, .inl (cI, 256, .inl gbk_52)), (a8, .inl (cI, 64, .inl gsk_52)), (a9, .inl (cI, 8, .inl gtk_52)), (b0, .inl (cI, 8, .inl kS)), (b1, .inl (cI, 64, .inl kR)), (a2, .inl (cJ, 4, .inr (.inl gfk_52))), (a0, .inl (cJ, 1232, .inr (.inl nf))), (a1, .inl (cJ, 616, .inr (.inl cf)))]) [2, 3, 4, 5, 6, 7, 8, 0, 1] (by decide) rfl
                                generalize H1 = H at hP hS ⊢
                                exact W.vret hx hb hr (fun t ht9 hW => ⟨⟨(gbk_52, gsk_52, gtk_52, gfk_52, gok_52), rfl, (by rw [← hmsg]; exact hdg), by rw [ht9]; exact hP, va_K.moved hW.alike hK, hD⟩, hS.F ht9⟩) hS.2.2 d_Bm_link_77
                              · -- not taken
                                exact absurd c_51 (by decide)
                  · -- not taken
                    exact absurd c_25 (by decide)
                · -- not taken
                  exact absurd c_20 (nI_ne0 hk0 (by omega))
            · -- not taken
              exact absurd c_14 (nI_ne0 hk0 (by omega))
        · -- not taken
          exact absurd c_8 (nI_ne0 hk0 (by omega))
    · -- not taken
      exact absurd c_2 (nI_ne0 hk0 (by omega))
set_option maxHeartbeats 8000000 in
set_option maxRecDepth 100000 in
theorem c_Bm_link_8 (l : Launch) (dC : Nat → ClassId) (dI : Nat → Nat → Nat) (cJ cI : ClassId) (sz : Nat) (m0 : Nat) (z0 z1 z2 z3 : Int32) (z4 z5 z6 z7 z8 z9 : Int64) (z10 : Int32) (a0 a1 a2 a3 a4 a5 a6 a7 a8 a9 b0 b1 oc b2 b3 b4 b5 : Nat) (bf sc st : Nat → Int32) (tf nf cf : Nat → Int64) (k : Nat) (msg : List Int64) (hk : k < 154) (hk0 : 0 < k) (hw2 : nf (8 * k + 0) = 2) (hmsg : [cf (4 * (k - 1) + 0), cf (4 * (k - 1) + 1), cf (4 * (k - 1) + 2), cf (4 * (k - 1) + 3), nf (8 * k + 0), nf (8 * k + 1), nf (8 * k + 2), nf (8 * k + 3), nf (8 * k + 4), nf (8 * k + 5), nf (8 * k + 6), nf (8 * k + 7)] = msg) : Met l y_Bm_link w_Bm_link ({ frames := 3, cells := 0, slots := 0, locals := 75 }) (va_Pc [.ref m0, .int (nI k)] (fun U => U.heap.size = sz ∧ va_P (dC, dI) classes (mo_ws m0 z0 z1 z2 z3 z4 z5 z6 z7 z8 z9 z10 a0 a1 a2 a3 a4 a5 a6 a7 a8 a9 b0 b1 oc b2 b3 b4 b5 ++ (iw_ws a7 cI 256 bf ++ (iw_ws a8 cI 64 sc ++ (iw_ws a9 cI 8 st ++ (iw_ws b0 cI 8 kS ++ (iw_ws b1 cI 64 kR ++ (jw_ws a2 cJ 4 tf ++ (jw_ws a0 cJ 1232 nf ++ (jw_ws a1 cJ 616 cf))))))))) U.heap ∧ va_K (dC, dI) classes [(cJ, .long), (cI, .int)] U ∧ va_D (fun _ => True) (mo_ws m0 z0 z1 z2 z3 z4 z5 z6 z7 z8 z9 z10 a0 a1 a2 a3 a4 a5 a6 a7 a8 a9 b0 b1 oc b2 b3 b4 b5 ++ (iw_ws a7 cI 256 bf ++ (iw_ws a8 cI 64 sc ++ (iw_ws a9 cI 8 st ++ (iw_ws b0 cI 8 kS ++ (iw_ws b1 cI 64 kR ++ (jw_ws a2 cJ 4 tf ++ (jw_ws a0 cJ 1232 nf ++ (jw_ws a1 cJ 616 cf))))))))))) (va_Qv (fun u9 : DU => dgo u9.2.2.1 msg ∧ ∀ j, j < 4 → u9.2.2.2.1 j = lkw msg j) (fun u9 t => va_P (dC, dI) classes (mo_ws m0 z0 z1 z2 z3 z4 z5 z6 z7 z8 z9 z10 a0 a1 a2 a3 a4 a5 a6 a7 a8 a9 b0 b1 u9.2.2.2.2 b2 b3 b4 b5 ++ (iw_ws a7 cI 256 u9.1 ++ (iw_ws a8 cI 64 u9.2.1 ++ (iw_ws a9 cI 8 u9.2.2.1 ++ (iw_ws b0 cI 8 kS ++ (iw_ws b1 cI 64 kR ++ (jw_ws a2 cJ 4 u9.2.2.2.1 ++ (jw_ws a0 cJ 1232 nf ++ (jw_ws a1 cJ 616 cf))))))))) t.heap ∧ va_K (dC, dI) classes [(cJ, .long), (cI, .int)] t ∧ va_D (va_A (mo_ws m0 z0 z1 z2 z3 z4 z5 z6 z7 z8 z9 z10 a0 a1 a2 a3 a4 a5 a6 a7 a8 a9 b0 b1 oc b2 b3 b4 b5 ++ (iw_ws a7 cI 256 bf ++ (iw_ws a8 cI 64 sc ++ (iw_ws a9 cI 8 st ++ (iw_ws b0 cI 8 kS ++ (iw_ws b1 cI 64 kR ++ (jw_ws a2 cJ 4 tf ++ (jw_ws a0 cJ 1232 nf ++ (jw_ws a1 cJ 616 cf))))))))) sz) (mo_ws m0 z0 z1 z2 z3 z4 z5 z6 z7 z8 z9 z10 a0 a1 a2 a3 a4 a5 a6 a7 a8 a9 b0 b1 u9.2.2.2.2 b2 b3 b4 b5 ++ (iw_ws a7 cI 256 u9.1 ++ (iw_ws a8 cI 64 u9.2.1 ++ (iw_ws a9 cI 8 u9.2.2.1 ++ (iw_ws b0 cI 8 kS ++ (iw_ws b1 cI 64 kR ++ (jw_ws a2 cJ 4 u9.2.2.2.1 ++ (jw_ws a0 cJ 1232 nf ++ (jw_ws a1 cJ 616 cf)))))))))) (va_A (mo_ws m0 z0 z1 z2 z3 z4 z5 z6 z7 z8 z9 z10 a0 a1 a2 a3 a4 a5 a6 a7 a8 a9 b0 b1 oc b2 b3 b4 b5 ++ (iw_ws a7 cI 256 bf ++ (iw_ws a8 cI 64 sc ++ (iw_ws a9 cI 8 st ++ (iw_ws b0 cI 8 kS ++ (iw_ws b1 cI 64 kR ++ (jw_ws a2 cJ 4 tf ++ (jw_ws a0 cJ 1232 nf ++ (jw_ws a1 cJ 616 cf))))))))) sz)) 0 0 (va_A (mo_ws m0 z0 z1 z2 z3 z4 z5 z6 z7 z8 z9 z10 a0 a1 a2 a3 a4 a5 a6 a7 a8 a9 b0 b1 oc b2 b3 b4 b5 ++ (iw_ws a7 cI 256 bf ++ (iw_ws a8 cI 64 sc ++ (iw_ws a9 cI 8 st ++ (iw_ws b0 cI 8 kS ++ (iw_ws b1 cI 64 kR ++ (jw_ws a2 cJ 4 tf ++ (jw_ws a0 cJ 1232 nf ++ (jw_ws a1 cJ 616 cf))))))))) sz) := by
  refine Met.ofW (cc := b_Bm_link) (maxL := 3) (ret := none) (by decide) rfl ?_
  intro p e s m args below meth c s₁ Bd hml hv
  obtain ⟨rfl, hsz, hP, hK, hD0⟩ := hv
  have hx := Bd.exec
  have hb := Bd.bytes
  have hr := Bd.returns
  have hts := atoms_spec (ws := w_Bm_link) Bd.pre
  have hown : s.vm.findClass "BallotBoardModel" = some m.cls := findClass_of_methodNamed Bd.named
  have hlocks := Bd.notSynchronized
  subst hsz
  have hD := hD0.self (sz := s.heap.size)
  generalize hAe : va_A (mo_ws m0 z0 z1 z2 z3 z4 z5 z6 z7 z8 z9 z10 a0 a1 a2 a3 a4 a5 a6 a7 a8 a9 b0 b1 oc b2 b3 b4 b5 ++ (iw_ws a7 cI 256 bf ++ (iw_ws a8 cI 64 sc ++ (iw_ws a9 cI 8 st ++ (iw_ws b0 cI 8 kS ++ (iw_ws b1 cI 64 kR ++ (jw_ws a2 cJ 4 tf ++ (jw_ws a0 cJ 1232 nf ++ (jw_ws a1 cJ 616 cf))))))))) s.heap.size = A at hD ⊢
  have hA : ∀ q : Nat, s.heap.size ≤ q → A q := fun q h => by rw [← hAe]; exact Or.inr h
  have hS : va_S A s.heap s.heap [] := va_S.rf
  have hl := lv_entry ([.ref m0, .int (nI k)]) (n := 3) (Nat.le_of_ble_eq_true rfl)
  rw [lg_entry_eq]
  generalize (lg_sl ([.ref m0, .int (nI k)]) ++ List.replicate (3 - (lg_sl ([.ref m0, .int (nI k)])).length) Slot.unset).toArray = ls at hl ⊢
  have hl : lv_has ls 3 [(0, .ref m0), (1, .int (nI k))] := hl
  refine lv_aload_n hx hb d_Bm_link_0 rfl (lv_at hl 0 rfl) ?_
  refine lv_iconst (v := 0) hx hb d_Bm_link_1 (by decide) ?_
  refine va_put (D := (dC, dI)) (ci := 8) (v := .int 0) (ty := .int) (C := "BallotBoardModel") (T := F_Bm) (N := 28) hx hb hts (fun w9 h9 => List.mem_cons_of_mem _ (i_Bm w9 h9)) t_Bm t_Bm_ok n_Bm hown hK hP hD hS 0 rfl rfl 23 (by decide) (hts _ (List.mem_cons_of_mem _ gk_942)) (fun _ h9 => h9) rfl (by decide +kernel) rfl rfl (Nat.le_of_ble_eq_true rfl) d_Bm_link_2 (fun H locs hP hD hS => ?_)
  have hP : va_P (dC, dI) classes [(m0, .inr (8, [.int z0, .int z1, .int z2, .int z3, .long z4, .long z5, .long z6, .long z7, .long z8, .long z9, .int z10, .ref a0, .ref a1, .ref a2, .ref a3, .ref a4, .ref a5, .ref a6, .ref a7, .ref a8, .ref a9, .ref b0, .ref b1, .int 0, .ref b2, .ref b3, .ref b4, .ref b5])), (a7, .inl (cI, 256, .inl bf)), (a8, .inl (cI, 64, .inl sc)), (a9, .inl (cI, 8, .inl st)), (b0, .inl (cI, 8, .inl kS)), (b1, .inl (cI, 64, .inl kR)), (a2, .inl (cJ, 4, .inr (.inl tf))), (a0, .inl (cJ, 1232, .inr (.inl nf))), (a1, .inl (cJ, 616, .inr (.inl cf)))] H := hP
  have hD : va_D A [(m0, .inr (8, [.int z0, .int z1, .int z2, .int z3, .long z4, .long z5, .long z6, .long z7, .long z8, .long z9, .int z10, .ref a0, .ref a1, .ref a2, .ref a3, .ref a4, .ref a5, .ref a6, .ref a7, .ref a8, .ref a9, .ref b0, .ref b1, .int 0, .ref b2, .ref b3, .ref b4, .ref b5])), (a7, .inl (cI, 256, .inl bf)), (a8, .inl (cI, 64, .inl sc)), (a9, .inl (cI, 8, .inl st)), (b0, .inl (cI, 8, .inl kS)), (b1, .inl (cI, 64, .inl kR)), (a2, .inl (cJ, 4, .inr (.inl tf))), (a0, .inl (cJ, 1232, .inr (.inl nf))), (a1, .inl (cJ, 616, .inr (.inl cf)))] := hD
  have hm0 := bok_0 bf
  refine lv_iconst (v := 0) hx hb d_Bm_link_5 (by decide) ?_
  refine lv_istore_n (lv' := [(2, .int 0), (0, .ref m0), (1, .int (nI k))]) hx hb d_Bm_link_6 rfl hl (by decide) rfl (fun ls hl => ?_)
  refine lv_iload_n hx hb d_Bm_link_7 rfl (lv_at hl 0 rfl) ?_
  refine lv_iconst (v := 4) hx hb d_Bm_link_8 (by decide) ?_
  refine lv_icmp_ge (tgt := 42) hx hb d_Bm_link_9 (by decide) (fun c_1 => ?_) (fun c_1 => ?_)
  · -- taken
    exact absurd c_1 (by decide)
  · -- not taken
    refine lv_aload_n hx hb d_Bm_link_12 rfl (lv_at hl 1 rfl) ?_
    refine lv_iload_n hx hb d_Bm_link_13 rfl (lv_at hl 2 rfl) ?_
    refine lv_if_ne (tgt := 21) hx hb d_Bm_link_14 (by decide) (fun c_2 => ?_) (fun c_2 => ?_)
    · -- taken
      refine lv_aload_n hx hb d_Bm_link_21 rfl (lv_at hl 1 rfl) ?_
      refine va_get (D := (dC, dI)) (ci := 8) (v := .ref a1) (C := "BallotBoardModel") (T := F_Bm) (N := 28) hx hb hts (fun w9 h9 => List.mem_cons_of_mem _ (i_Bm w9 h9)) hown hK hP 0 rfl rfl 12 (by decide) (hts _ (List.mem_cons_of_mem _ gk_931)) (fun _ h9 => h9) rfl d_Bm_link_22 ?_
      refine lv_iconst (v := 4) hx hb d_Bm_link_25 (by decide) ?_
      refine lv_iload_n hx hb d_Bm_link_26 rfl (lv_at hl 2 rfl) ?_
      refine lv_iconst (v := 1) hx hb d_Bm_link_27 (by decide) ?_
      refine lv_isub hx hb d_Bm_link_28 ?_
      rw [show ((nI k) - 1 : Int32) = (nI (k - 1)) from nI_subI (b := 1) (by omega) rfl]
      refine lv_imul hx hb d_Bm_link_29 ?_
      rw [show (4 * (nI (k - 1)) : Int32) = (nI (4 * (k - 1))) from pk_mul 4 (k - 1)]
      refine lv_iload_n hx hb d_Bm_link_30 rfl (lv_at hl 0 rfl) ?_
      refine lv_iadd hx hb d_Bm_link_31 ?_
      rw [show ((nI (4 * (k - 1))) + 0 : Int32) = (nI (4 * (k - 1) + 0)) from nI_add _ 0]
      refine va_lald hx hb hK hP 8 0 rfl rfl (vp_in_nI (by omega) (by omega)) d_Bm_link_32 ?_
      rw [show (cf (nI (4 * (k - 1) + 0) : Int32).toNatClampNeg : Int64) = cf (4 * (k - 1) + 0) from by rw [nI_clamp (by omega)]]
      have hPc := hP.sub (ws' := (mo_ws m0 z0 z1 z2 z3 z4 z5 z6 z7 z8 z9 z10 a0 a1 a2 a3 a4 a5 a6 a7 a8 a9 b0 b1 0 b2 b3 b4 b5 ++ (iw_ws a7 cI 256 bf))) [0, 1] rfl
      have hDc := hD.sub (ws' := (mo_ws m0 z0 z1 z2 z3 z4 z5 z6 z7 z8 z9 z10 a0 a1 a2 a3 a4 a5 a6 a7 a8 a9 b0 b1 0 b2 b3 b4 b5 ++ (iw_ws a7 cI 256 bf))) [0, 1] (by decide) rfl
      have hKc := hK.sub (tys' := [(cJ, .long), (cI, .int)]) [0, 1] rfl
      have hFc := va_free (wc := (mo_ws m0 z0 z1 z2 z3 z4 z5 z6 z7 z8 z9 z10 a0 a1 a2 a3 a4 a5 a6 a7 a8 a9 b0 b1 0 b2 b3 b4 b5 ++ (iw_ws a7 cI 256 bf))) hD hS hA [0, 1] rfl
      refine va_callv (va_runV (As := [.long (cf (4 * (k - 1) + 0))]) (rest := []) ⟨hx, hb, hml, hown, hts⟩ (c_Bm_eight l dC dI cJ cI H.size m0 z0 z1 z2 z3 z4 z5 z6 z7 z8 z9 z10 a0 a1 a2 a3 a4 a5 a6 a7 a8 a9 b0 b1 0 b2 b3 b4 b5 bf (cf (4 * (k - 1) + 0)) (by omega)) (cwV 1 hts (gw_V gk_1070 gk_1072 gp_36 gk_7 gk_1073) rfl rfl rfl (by decide +kernel) ⟨Nat.le_of_ble_eq_true rfl, Nat.le_of_ble_eq_true rfl⟩) ⟨fun a U g mk q => by obtain ⟨q0, q1, qP, qK, qD⟩ := q; exact ⟨q0, q1, qP, va_K.moved (u := U) (U := U.calling g mk a) (Vm.Alike.refl U.vm) qK, qD⟩, va_recv hK hP (ci := 8) (q0 := 0) rfl rfl, fun U hU hW => ⟨rfl, by rw [hU], by rw [hU]; exact hPc, va_K.moved hW.alike hKc, hDc.weaken (fun _ _ _ _ => trivial)⟩⟩ rfl rfl hl.1 rfl (lv_room (Nat.le_of_ble_eq_true rfl)) d_Bm_link_33 ⟨Nat.le_of_ble_eq_true rfl, Nat.le_of_ble_eq_true rfl⟩) hS (fun q _ h => hFc q h) hFc (fun u9 t9 H1 locs ht hvm hw hB hz1 hk1 hS => ?_)
      obtain ⟨hP1, hK1, hD1⟩ := hB
      rw [ht] at hP1
      obtain ⟨hP, hD⟩ := va_join (wr := [(a8, .inl (cI, 64, .inl sc)), (a9, .inl (cI, 8, .inl st)), (b0, .inl (cI, 8, .inl kS)), (b1, .inl (cI, 64, .inl kR)), (a2, .inl (cJ, 4, .inr (.inl tf))), (a0, .inl (cJ, 1232, .inr (.inl nf))), (a1, .inl (cJ, 616, .inr (.inl cf)))]) (w1 := [(m0, .inr (8, [.int z0, .int z1, .int z2, .int z3, .long z4, .long z5, .long z6, .long z7, .long z8, .long z9, .int z10, .ref a0, .ref a1, .ref a2, .ref a3, .ref a4, .ref a5, .ref a6, .ref a7, .ref a8, .ref a9, .ref b0, .ref b1, .int (nI 8), .ref b2, .ref b3, .ref b4, .ref b5])), (a7, .inl (cI, 256, .inl (o8 bf 0 (cf (4 * (k - 1) + 0)))))]) hP hD [0, 1] [2, 3, 4, 5, 6, 7, 8] rfl rfl (by decide) (by decide) hk1 hFc hP1 hD1
      have hP := hP.sub (ws' := [(m0, .inr (8, [.int z0, .int z1, .int z2, .int z3, .long z4, .long z5, .long z6, .long z7, .long z8, .long z9, .int z10, .ref a0, .ref a1, .ref a2, .ref a3, .ref a4, .ref a5, .ref a6, .ref a7, .ref a8, .ref a9, .ref b0, .ref b1, .int (nI 8), .ref b2, .ref b3, .ref b4, .ref b5])), (a7, .inl (cI, 256, .inl (o8 bf 0 (cf (4 * (k - 1) + 0))))), (a8, .inl (cI, 64, .inl sc)), (a9, .inl (cI, 8, .inl st)), (b0, .inl (cI, 8, .inl kS)), (b1, .inl (cI, 64, .inl kR)), (a2, .inl (cJ, 4, .inr (.inl tf))), (a0, .inl (cJ, 1232, .inr (.inl nf))), (a1, .inl (cJ, 616, .inr (.inl cf)))]) [7, 8, 0, 1, 2, 3, 4, 5, 6] rfl
      have hD := hD.sub (ws' := [(m0, .inr (8, [.int z0, .int z1, .int z2, .int z3, .long z4, .long z5, .long z6, .long z7, .long z8, .long z9, .int z10, .ref a0, .ref a1, .ref a2, .ref a3, .ref a4, .ref a5, .ref a6, .ref a7, .ref a8, .ref a9, .ref b0, .ref b1, .int (nI 8), .ref b2, .ref b3, .ref b4, .ref b5])), (a7, .inl (cI, 256, .inl (o8 bf 0 (cf (4 * (k - 1) + 0))))), (a8, .inl (cI, 64, .inl sc)), (a9, .inl (cI, 8, .inl st)), (b0, .inl (cI, 8, .inl kS)), (b1, .inl (cI, 64, .inl kR)), (a2, .inl (cJ, 4, .inr (.inl tf))), (a0, .inl (cJ, 1232, .inr (.inl nf))), (a1, .inl (cJ, 616, .inr (.inl cf)))]) [7, 8, 0, 1, 2, 3, 4, 5, 6] (by decide) rfl
      generalize H1 = H at hP hS ⊢
      obtain ⟨g_4, eg_4⟩ : ∃ f : Nat → Int32, f = o8 bf 0 (cf (4 * (k - 1) + 0)) := ⟨_, rfl⟩
      rw [← eg_4] at hP hD
      have hm_5 : bok g_4 1 [cf (4 * (k - 1) + 0)] := bok_add _ hm0 rfl eg_4
      obtain ⟨i_6, ei_6⟩ : ∃ y : Int32, y = 0 + 1 := ⟨_, rfl⟩
      refine lv_iinc (v := i_6) (lv' := [(2, .int i_6), (0, .ref m0), (1, .int (nI k))]) hx hb d_Bm_link_36 hl (k := 0) rfl (by rw [ei_6]; rfl) (by decide) rfl (fun ls hl => ?_)
      obtain rfl : i_6 = 1 := by rw [ei_6]; exact by decide
      refine lv_goto (tgt := 7) hx hb d_Bm_link_39 (by decide) ?_
      refine lv_iload_n hx hb d_Bm_link_7 rfl (lv_at hl 0 rfl) ?_
      refine lv_iconst (v := 4) hx hb d_Bm_link_8 (by decide) ?_
      refine lv_icmp_ge (tgt := 42) hx hb d_Bm_link_9 (by decide) (fun c_7 => ?_) (fun c_7 => ?_)
      · -- taken
        exact absurd c_7 (by decide)
      · -- not taken
        refine lv_aload_n hx hb d_Bm_link_12 rfl (lv_at hl 1 rfl) ?_
        refine lv_iload_n hx hb d_Bm_link_13 rfl (lv_at hl 2 rfl) ?_
        refine lv_if_ne (tgt := 21) hx hb d_Bm_link_14 (by decide) (fun c_8 => ?_) (fun c_8 => ?_)
        · -- taken
          refine lv_aload_n hx hb d_Bm_link_21 rfl (lv_at hl 1 rfl) ?_
          refine va_get (D := (dC, dI)) (ci := 8) (v := .ref a1) (C := "BallotBoardModel") (T := F_Bm) (N := 28) hx hb hts (fun w9 h9 => List.mem_cons_of_mem _ (i_Bm w9 h9)) hown hK hP 0 rfl rfl 12 (by decide) (hts _ (List.mem_cons_of_mem _ gk_931)) (fun _ h9 => h9) rfl d_Bm_link_22 ?_
          refine lv_iconst (v := 4) hx hb d_Bm_link_25 (by decide) ?_
          refine lv_iload_n hx hb d_Bm_link_26 rfl (lv_at hl 2 rfl) ?_
          refine lv_iconst (v := 1) hx hb d_Bm_link_27 (by decide) ?_
          refine lv_isub hx hb d_Bm_link_28 ?_
          rw [show ((nI k) - 1 : Int32) = (nI (k - 1)) from nI_subI (b := 1) (by omega) rfl]
          refine lv_imul hx hb d_Bm_link_29 ?_
          rw [show (4 * (nI (k - 1)) : Int32) = (nI (4 * (k - 1))) from pk_mul 4 (k - 1)]
          refine lv_iload_n hx hb d_Bm_link_30 rfl (lv_at hl 0 rfl) ?_
          refine lv_iadd hx hb d_Bm_link_31 ?_
          rw [show ((nI (4 * (k - 1))) + 1 : Int32) = (nI (4 * (k - 1) + 1)) from nI_add _ 1]
          refine va_lald hx hb hK hP 8 0 rfl rfl (vp_in_nI (by omega) (by omega)) d_Bm_link_32 ?_
          rw [show (cf (nI (4 * (k - 1) + 1) : Int32).toNatClampNeg : Int64) = cf (4 * (k - 1) + 1) from by rw [nI_clamp (by omega)]]
          have hPc := hP.sub (ws' := (mo_ws m0 z0 z1 z2 z3 z4 z5 z6 z7 z8 z9 z10 a0 a1 a2 a3 a4 a5 a6 a7 a8 a9 b0 b1 8 b2 b3 b4 b5 ++ (iw_ws a7 cI 256 g_4))) [0, 1] rfl
          have hDc := hD.sub (ws' := (mo_ws m0 z0 z1 z2 z3 z4 z5 z6 z7 z8 z9 z10 a0 a1 a2 a3 a4 a5 a6 a7 a8 a9 b0 b1 8 b2 b3 b4 b5 ++ (iw_ws a7 cI 256 g_4))) [0, 1] (by decide) rfl
          have hKc := hK.sub (tys' := [(cJ, .long), (cI, .int)]) [0, 1] rfl
          have hFc := va_free (wc := (mo_ws m0 z0 z1 z2 z3 z4 z5 z6 z7 z8 z9 z10 a0 a1 a2 a3 a4 a5 a6 a7 a8 a9 b0 b1 8 b2 b3 b4 b5 ++ (iw_ws a7 cI 256 g_4))) hD hS hA [0, 1] rfl
          refine va_callv (va_runV (As := [.long (cf (4 * (k - 1) + 1))]) (rest := []) ⟨hx, hb, hml, hown, hts⟩ (c_Bm_eight l dC dI cJ cI H.size m0 z0 z1 z2 z3 z4 z5 z6 z7 z8 z9 z10 a0 a1 a2 a3 a4 a5 a6 a7 a8 a9 b0 b1 8 b2 b3 b4 b5 g_4 (cf (4 * (k - 1) + 1)) (by omega)) (cwV 1 hts (gw_V gk_1070 gk_1072 gp_36 gk_7 gk_1073) rfl rfl rfl (by decide +kernel) ⟨Nat.le_of_ble_eq_true rfl, Nat.le_of_ble_eq_true rfl⟩) ⟨fun a U g mk q => by obtain ⟨q0, q1, qP, qK, qD⟩ := q; exact ⟨q0, q1, qP, va_K.moved (u := U) (U := U.calling g mk a) (Vm.Alike.refl U.vm) qK, qD⟩, va_recv hK hP (ci := 8) (q0 := 0) rfl rfl, fun U hU hW => ⟨rfl, by rw [hU], by rw [hU]; exact hPc, va_K.moved hW.alike hKc, hDc.weaken (fun _ _ _ _ => trivial)⟩⟩ rfl rfl hl.1 rfl (lv_room (Nat.le_of_ble_eq_true rfl)) d_Bm_link_33 ⟨Nat.le_of_ble_eq_true rfl, Nat.le_of_ble_eq_true rfl⟩) hS (fun q _ h => hFc q h) hFc (fun u9 t9 H1 locs ht hvm hw hB hz1 hk1 hS => ?_)
          obtain ⟨hP1, hK1, hD1⟩ := hB
          rw [ht] at hP1
          obtain ⟨hP, hD⟩ := va_join (wr := [(a8, .inl (cI, 64, .inl sc)), (a9, .inl (cI, 8, .inl st)), (b0, .inl (cI, 8, .inl kS)), (b1, .inl (cI, 64, .inl kR)), (a2, .inl (cJ, 4, .inr (.inl tf))), (a0, .inl (cJ, 1232, .inr (.inl nf))), (a1, .inl (cJ, 616, .inr (.inl cf)))]) (w1 := [(m0, .inr (8, [.int z0, .int z1, .int z2, .int z3, .long z4, .long z5, .long z6, .long z7, .long z8, .long z9, .int z10, .ref a0, .ref a1, .ref a2, .ref a3, .ref a4, .ref a5, .ref a6, .ref a7, .ref a8, .ref a9, .ref b0, .ref b1, .int (nI 16), .ref b2, .ref b3, .ref b4, .ref b5])), (a7, .inl (cI, 256, .inl (o8 g_4 8 (cf (4 * (k - 1) + 1)))))]) hP hD [0, 1] [2, 3, 4, 5, 6, 7, 8] rfl rfl (by decide) (by decide) hk1 hFc hP1 hD1
          have hP := hP.sub (ws' := [(m0, .inr (8, [.int z0, .int z1, .int z2, .int z3, .long z4, .long z5, .long z6, .long z7, .long z8, .long z9, .int z10, .ref a0, .ref a1, .ref a2, .ref a3, .ref a4, .ref a5, .ref a6, .ref a7, .ref a8, .ref a9, .ref b0, .ref b1, .int (nI 16), .ref b2, .ref b3, .ref b4, .ref b5])), (a7, .inl (cI, 256, .inl (o8 g_4 8 (cf (4 * (k - 1) + 1))))), (a8, .inl (cI, 64, .inl sc)), (a9, .inl (cI, 8, .inl st)), (b0, .inl (cI, 8, .inl kS)), (b1, .inl (cI, 64, .inl kR)), (a2, .inl (cJ, 4, .inr (.inl tf))), (a0, .inl (cJ, 1232, .inr (.inl nf))), (a1, .inl (cJ, 616, .inr (.inl cf)))]) [7, 8, 0, 1, 2, 3, 4, 5, 6] rfl
          have hD := hD.sub (ws' := [(m0, .inr (8, [.int z0, .int z1, .int z2, .int z3, .long z4, .long z5, .long z6, .long z7, .long z8, .long z9, .int z10, .ref a0, .ref a1, .ref a2, .ref a3, .ref a4, .ref a5, .ref a6, .ref a7, .ref a8, .ref a9, .ref b0, .ref b1, .int (nI 16), .ref b2, .ref b3, .ref b4, .ref b5])), (a7, .inl (cI, 256, .inl (o8 g_4 8 (cf (4 * (k - 1) + 1))))), (a8, .inl (cI, 64, .inl sc)), (a9, .inl (cI, 8, .inl st)), (b0, .inl (cI, 8, .inl kS)), (b1, .inl (cI, 64, .inl kR)), (a2, .inl (cJ, 4, .inr (.inl tf))), (a0, .inl (cJ, 1232, .inr (.inl nf))), (a1, .inl (cJ, 616, .inr (.inl cf)))]) [7, 8, 0, 1, 2, 3, 4, 5, 6] (by decide) rfl
          generalize H1 = H at hP hS ⊢
          obtain ⟨g_10, eg_10⟩ : ∃ f : Nat → Int32, f = o8 g_4 8 (cf (4 * (k - 1) + 1)) := ⟨_, rfl⟩
          rw [← eg_10] at hP hD
          have hm_11 : bok g_10 2 [cf (4 * (k - 1) + 0), cf (4 * (k - 1) + 1)] := bok_add _ hm_5 rfl eg_10
          obtain ⟨i_12, ei_12⟩ : ∃ y : Int32, y = 1 + 1 := ⟨_, rfl⟩
          refine lv_iinc (v := i_12) (lv' := [(2, .int i_12), (0, .ref m0), (1, .int (nI k))]) hx hb d_Bm_link_36 hl (k := 0) rfl (by rw [ei_12]; rfl) (by decide) rfl (fun ls hl => ?_)
          obtain rfl : i_12 = 2 := by rw [ei_12]; exact by decide
          refine lv_goto (tgt := 7) hx hb d_Bm_link_39 (by decide) ?_
          refine lv_iload_n hx hb d_Bm_link_7 rfl (lv_at hl 0 rfl) ?_
          refine lv_iconst (v := 4) hx hb d_Bm_link_8 (by decide) ?_
          refine lv_icmp_ge (tgt := 42) hx hb d_Bm_link_9 (by decide) (fun c_13 => ?_) (fun c_13 => ?_)
          · -- taken
            exact absurd c_13 (by decide)
          · -- not taken
            refine lv_aload_n hx hb d_Bm_link_12 rfl (lv_at hl 1 rfl) ?_
            refine lv_iload_n hx hb d_Bm_link_13 rfl (lv_at hl 2 rfl) ?_
            refine lv_if_ne (tgt := 21) hx hb d_Bm_link_14 (by decide) (fun c_14 => ?_) (fun c_14 => ?_)
            · -- taken
              refine lv_aload_n hx hb d_Bm_link_21 rfl (lv_at hl 1 rfl) ?_
              refine va_get (D := (dC, dI)) (ci := 8) (v := .ref a1) (C := "BallotBoardModel") (T := F_Bm) (N := 28) hx hb hts (fun w9 h9 => List.mem_cons_of_mem _ (i_Bm w9 h9)) hown hK hP 0 rfl rfl 12 (by decide) (hts _ (List.mem_cons_of_mem _ gk_931)) (fun _ h9 => h9) rfl d_Bm_link_22 ?_
              refine lv_iconst (v := 4) hx hb d_Bm_link_25 (by decide) ?_
              refine lv_iload_n hx hb d_Bm_link_26 rfl (lv_at hl 2 rfl) ?_
              refine lv_iconst (v := 1) hx hb d_Bm_link_27 (by decide) ?_
              refine lv_isub hx hb d_Bm_link_28 ?_
              rw [show ((nI k) - 1 : Int32) = (nI (k - 1)) from nI_subI (b := 1) (by omega) rfl]
              refine lv_imul hx hb d_Bm_link_29 ?_
              rw [show (4 * (nI (k - 1)) : Int32) = (nI (4 * (k - 1))) from pk_mul 4 (k - 1)]
              refine lv_iload_n hx hb d_Bm_link_30 rfl (lv_at hl 0 rfl) ?_
              refine lv_iadd hx hb d_Bm_link_31 ?_
              rw [show ((nI (4 * (k - 1))) + 2 : Int32) = (nI (4 * (k - 1) + 2)) from nI_add _ 2]
              refine va_lald hx hb hK hP 8 0 rfl rfl (vp_in_nI (by omega) (by omega)) d_Bm_link_32 ?_
              rw [show (cf (nI (4 * (k - 1) + 2) : Int32).toNatClampNeg : Int64) = cf (4 * (k - 1) + 2) from by rw [nI_clamp (by omega)]]
              have hPc := hP.sub (ws' := (mo_ws m0 z0 z1 z2 z3 z4 z5 z6 z7 z8 z9 z10 a0 a1 a2 a3 a4 a5 a6 a7 a8 a9 b0 b1 16 b2 b3 b4 b5 ++ (iw_ws a7 cI 256 g_10))) [0, 1] rfl
              have hDc := hD.sub (ws' := (mo_ws m0 z0 z1 z2 z3 z4 z5 z6 z7 z8 z9 z10 a0 a1 a2 a3 a4 a5 a6 a7 a8 a9 b0 b1 16 b2 b3 b4 b5 ++ (iw_ws a7 cI 256 g_10))) [0, 1] (by decide) rfl
              have hKc := hK.sub (tys' := [(cJ, .long), (cI, .int)]) [0, 1] rfl
              have hFc := va_free (wc := (mo_ws m0 z0 z1 z2 z3 z4 z5 z6 z7 z8 z9 z10 a0 a1 a2 a3 a4 a5 a6 a7 a8 a9 b0 b1 16 b2 b3 b4 b5 ++ (iw_ws a7 cI 256 g_10))) hD hS hA [0, 1] rfl
              refine va_callv (va_runV (As := [.long (cf (4 * (k - 1) + 2))]) (rest := []) ⟨hx, hb, hml, hown, hts⟩ (c_Bm_eight l dC dI cJ cI H.size m0 z0 z1 z2 z3 z4 z5 z6 z7 z8 z9 z10 a0 a1 a2 a3 a4 a5 a6 a7 a8 a9 b0 b1 16 b2 b3 b4 b5 g_10 (cf (4 * (k - 1) + 2)) (by omega)) (cwV 1 hts (gw_V gk_1070 gk_1072 gp_36 gk_7 gk_1073) rfl rfl rfl (by decide +kernel) ⟨Nat.le_of_ble_eq_true rfl, Nat.le_of_ble_eq_true rfl⟩) ⟨fun a U g mk q => by obtain ⟨q0, q1, qP, qK, qD⟩ := q; exact ⟨q0, q1, qP, va_K.moved (u := U) (U := U.calling g mk a) (Vm.Alike.refl U.vm) qK, qD⟩, va_recv hK hP (ci := 8) (q0 := 0) rfl rfl, fun U hU hW => ⟨rfl, by rw [hU], by rw [hU]; exact hPc, va_K.moved hW.alike hKc, hDc.weaken (fun _ _ _ _ => trivial)⟩⟩ rfl rfl hl.1 rfl (lv_room (Nat.le_of_ble_eq_true rfl)) d_Bm_link_33 ⟨Nat.le_of_ble_eq_true rfl, Nat.le_of_ble_eq_true rfl⟩) hS (fun q _ h => hFc q h) hFc (fun u9 t9 H1 locs ht hvm hw hB hz1 hk1 hS => ?_)
              obtain ⟨hP1, hK1, hD1⟩ := hB
              rw [ht] at hP1
              obtain ⟨hP, hD⟩ := va_join (wr := [(a8, .inl (cI, 64, .inl sc)), (a9, .inl (cI, 8, .inl st)), (b0, .inl (cI, 8, .inl kS)), (b1, .inl (cI, 64, .inl kR)), (a2, .inl (cJ, 4, .inr (.inl tf))), (a0, .inl (cJ, 1232, .inr (.inl nf))), (a1, .inl (cJ, 616, .inr (.inl cf)))]) (w1 := [(m0, .inr (8, [.int z0, .int z1, .int z2, .int z3, .long z4, .long z5, .long z6, .long z7, .long z8, .long z9, .int z10, .ref a0, .ref a1, .ref a2, .ref a3, .ref a4, .ref a5, .ref a6, .ref a7, .ref a8, .ref a9, .ref b0, .ref b1, .int (nI 24), .ref b2, .ref b3, .ref b4, .ref b5])), (a7, .inl (cI, 256, .inl (o8 g_10 16 (cf (4 * (k - 1) + 2)))))]) hP hD [0, 1] [2, 3, 4, 5, 6, 7, 8] rfl rfl (by decide) (by decide) hk1 hFc hP1 hD1
              have hP := hP.sub (ws' := [(m0, .inr (8, [.int z0, .int z1, .int z2, .int z3, .long z4, .long z5, .long z6, .long z7, .long z8, .long z9, .int z10, .ref a0, .ref a1, .ref a2, .ref a3, .ref a4, .ref a5, .ref a6, .ref a7, .ref a8, .ref a9, .ref b0, .ref b1, .int (nI 24), .ref b2, .ref b3, .ref b4, .ref b5])), (a7, .inl (cI, 256, .inl (o8 g_10 16 (cf (4 * (k - 1) + 2))))), (a8, .inl (cI, 64, .inl sc)), (a9, .inl (cI, 8, .inl st)), (b0, .inl (cI, 8, .inl kS)), (b1, .inl (cI, 64, .inl kR)), (a2, .inl (cJ, 4, .inr (.inl tf))), (a0, .inl (cJ, 1232, .inr (.inl nf))), (a1, .inl (cJ, 616, .inr (.inl cf)))]) [7, 8, 0, 1, 2, 3, 4, 5, 6] rfl
              have hD := hD.sub (ws' := [(m0, .inr (8, [.int z0, .int z1, .int z2, .int z3, .long z4, .long z5, .long z6, .long z7, .long z8, .long z9, .int z10, .ref a0, .ref a1, .ref a2, .ref a3, .ref a4, .ref a5, .ref a6, .ref a7, .ref a8, .ref a9, .ref b0, .ref b1, .int (nI 24), .ref b2, .ref b3, .ref b4, .ref b5])), (a7, .inl (cI, 256, .inl (o8 g_10 16 (cf (4 * (k - 1) + 2))))), (a8, .inl (cI, 64, .inl sc)), (a9, .inl (cI, 8, .inl st)), (b0, .inl (cI, 8, .inl kS)), (b1, .inl (cI, 64, .inl kR)), (a2, .inl (cJ, 4, .inr (.inl tf))), (a0, .inl (cJ, 1232, .inr (.inl nf))), (a1, .inl (cJ, 616, .inr (.inl cf)))]) [7, 8, 0, 1, 2, 3, 4, 5, 6] (by decide) rfl
              generalize H1 = H at hP hS ⊢
              obtain ⟨g_16, eg_16⟩ : ∃ f : Nat → Int32, f = o8 g_10 16 (cf (4 * (k - 1) + 2)) := ⟨_, rfl⟩
              rw [← eg_16] at hP hD
              have hm_17 : bok g_16 3 [cf (4 * (k - 1) + 0), cf (4 * (k - 1) + 1), cf (4 * (k - 1) + 2)] := bok_add _ hm_11 rfl eg_16
              obtain ⟨i_18, ei_18⟩ : ∃ y : Int32, y = 2 + 1 := ⟨_, rfl⟩
              refine lv_iinc (v := i_18) (lv' := [(2, .int i_18), (0, .ref m0), (1, .int (nI k))]) hx hb d_Bm_link_36 hl (k := 0) rfl (by rw [ei_18]; rfl) (by decide) rfl (fun ls hl => ?_)
              obtain rfl : i_18 = 3 := by rw [ei_18]; exact by decide
              refine lv_goto (tgt := 7) hx hb d_Bm_link_39 (by decide) ?_
              refine lv_iload_n hx hb d_Bm_link_7 rfl (lv_at hl 0 rfl) ?_
              refine lv_iconst (v := 4) hx hb d_Bm_link_8 (by decide) ?_
              refine lv_icmp_ge (tgt := 42) hx hb d_Bm_link_9 (by decide) (fun c_19 => ?_) (fun c_19 => ?_)
              · -- taken
                exact absurd c_19 (by decide)
              · -- not taken
                refine lv_aload_n hx hb d_Bm_link_12 rfl (lv_at hl 1 rfl) ?_
                refine lv_iload_n hx hb d_Bm_link_13 rfl (lv_at hl 2 rfl) ?_
                refine lv_if_ne (tgt := 21) hx hb d_Bm_link_14 (by decide) (fun c_20 => ?_) (fun c_20 => ?_)
                · -- taken
                  refine lv_aload_n hx hb d_Bm_link_21 rfl (lv_at hl 1 rfl) ?_
                  refine va_get (D := (dC, dI)) (ci := 8) (v := .ref a1) (C := "BallotBoardModel") (T := F_Bm) (N := 28) hx hb hts (fun w9 h9 => List.mem_cons_of_mem _ (i_Bm w9 h9)) hown hK hP 0 rfl rfl 12 (by decide) (hts _ (List.mem_cons_of_mem _ gk_931)) (fun _ h9 => h9) rfl d_Bm_link_22 ?_
                  refine lv_iconst (v := 4) hx hb d_Bm_link_25 (by decide) ?_
                  refine lv_iload_n hx hb d_Bm_link_26 rfl (lv_at hl 2 rfl) ?_
                  refine lv_iconst (v := 1) hx hb d_Bm_link_27 (by decide) ?_
                  refine lv_isub hx hb d_Bm_link_28 ?_
                  rw [show ((nI k) - 1 : Int32) = (nI (k - 1)) from nI_subI (b := 1) (by omega) rfl]
                  refine lv_imul hx hb d_Bm_link_29 ?_
                  rw [show (4 * (nI (k - 1)) : Int32) = (nI (4 * (k - 1))) from pk_mul 4 (k - 1)]
                  refine lv_iload_n hx hb d_Bm_link_30 rfl (lv_at hl 0 rfl) ?_
                  refine lv_iadd hx hb d_Bm_link_31 ?_
                  rw [show ((nI (4 * (k - 1))) + 3 : Int32) = (nI (4 * (k - 1) + 3)) from nI_add _ 3]
                  refine va_lald hx hb hK hP 8 0 rfl rfl (vp_in_nI (by omega) (by omega)) d_Bm_link_32 ?_
                  rw [show (cf (nI (4 * (k - 1) + 3) : Int32).toNatClampNeg : Int64) = cf (4 * (k - 1) + 3) from by rw [nI_clamp (by omega)]]
                  have hPc := hP.sub (ws' := (mo_ws m0 z0 z1 z2 z3 z4 z5 z6 z7 z8 z9 z10 a0 a1 a2 a3 a4 a5 a6 a7 a8 a9 b0 b1 24 b2 b3 b4 b5 ++ (iw_ws a7 cI 256 g_16))) [0, 1] rfl
                  have hDc := hD.sub (ws' := (mo_ws m0 z0 z1 z2 z3 z4 z5 z6 z7 z8 z9 z10 a0 a1 a2 a3 a4 a5 a6 a7 a8 a9 b0 b1 24 b2 b3 b4 b5 ++ (iw_ws a7 cI 256 g_16))) [0, 1] (by decide) rfl
                  have hKc := hK.sub (tys' := [(cJ, .long), (cI, .int)]) [0, 1] rfl
                  have hFc := va_free (wc := (mo_ws m0 z0 z1 z2 z3 z4 z5 z6 z7 z8 z9 z10 a0 a1 a2 a3 a4 a5 a6 a7 a8 a9 b0 b1 24 b2 b3 b4 b5 ++ (iw_ws a7 cI 256 g_16))) hD hS hA [0, 1] rfl
                  refine va_callv (va_runV (As := [.long (cf (4 * (k - 1) + 3))]) (rest := []) ⟨hx, hb, hml, hown, hts⟩ (c_Bm_eight l dC dI cJ cI H.size m0 z0 z1 z2 z3 z4 z5 z6 z7 z8 z9 z10 a0 a1 a2 a3 a4 a5 a6 a7 a8 a9 b0 b1 24 b2 b3 b4 b5 g_16 (cf (4 * (k - 1) + 3)) (by omega)) (cwV 1 hts (gw_V gk_1070 gk_1072 gp_36 gk_7 gk_1073) rfl rfl rfl (by decide +kernel) ⟨Nat.le_of_ble_eq_true rfl, Nat.le_of_ble_eq_true rfl⟩) ⟨fun a U g mk q => by obtain ⟨q0, q1, qP, qK, qD⟩ := q; exact ⟨q0, q1, qP, va_K.moved (u := U) (U := U.calling g mk a) (Vm.Alike.refl U.vm) qK, qD⟩, va_recv hK hP (ci := 8) (q0 := 0) rfl rfl, fun U hU hW => ⟨rfl, by rw [hU], by rw [hU]; exact hPc, va_K.moved hW.alike hKc, hDc.weaken (fun _ _ _ _ => trivial)⟩⟩ rfl rfl hl.1 rfl (lv_room (Nat.le_of_ble_eq_true rfl)) d_Bm_link_33 ⟨Nat.le_of_ble_eq_true rfl, Nat.le_of_ble_eq_true rfl⟩) hS (fun q _ h => hFc q h) hFc (fun u9 t9 H1 locs ht hvm hw hB hz1 hk1 hS => ?_)
                  obtain ⟨hP1, hK1, hD1⟩ := hB
                  rw [ht] at hP1
                  obtain ⟨hP, hD⟩ := va_join (wr := [(a8, .inl (cI, 64, .inl sc)), (a9, .inl (cI, 8, .inl st)), (b0, .inl (cI, 8, .inl kS)), (b1, .inl (cI, 64, .inl kR)), (a2, .inl (cJ, 4, .inr (.inl tf))), (a0, .inl (cJ, 1232, .inr (.inl nf))), (a1, .inl (cJ, 616, .inr (.inl cf)))]) (w1 := [(m0, .inr (8, [.int z0, .int z1, .int z2, .int z3, .long z4, .long z5, .long z6, .long z7, .long z8, .long z9, .int z10, .ref a0, .ref a1, .ref a2, .ref a3, .ref a4, .ref a5, .ref a6, .ref a7, .ref a8, .ref a9, .ref b0, .ref b1, .int (nI 32), .ref b2, .ref b3, .ref b4, .ref b5])), (a7, .inl (cI, 256, .inl (o8 g_16 24 (cf (4 * (k - 1) + 3)))))]) hP hD [0, 1] [2, 3, 4, 5, 6, 7, 8] rfl rfl (by decide) (by decide) hk1 hFc hP1 hD1
                  have hP := hP.sub (ws' := [(m0, .inr (8, [.int z0, .int z1, .int z2, .int z3, .long z4, .long z5, .long z6, .long z7, .long z8, .long z9, .int z10, .ref a0, .ref a1, .ref a2, .ref a3, .ref a4, .ref a5, .ref a6, .ref a7, .ref a8, .ref a9, .ref b0, .ref b1, .int (nI 32), .ref b2, .ref b3, .ref b4, .ref b5])), (a7, .inl (cI, 256, .inl (o8 g_16 24 (cf (4 * (k - 1) + 3))))), (a8, .inl (cI, 64, .inl sc)), (a9, .inl (cI, 8, .inl st)), (b0, .inl (cI, 8, .inl kS)), (b1, .inl (cI, 64, .inl kR)), (a2, .inl (cJ, 4, .inr (.inl tf))), (a0, .inl (cJ, 1232, .inr (.inl nf))), (a1, .inl (cJ, 616, .inr (.inl cf)))]) [7, 8, 0, 1, 2, 3, 4, 5, 6] rfl
                  have hD := hD.sub (ws' := [(m0, .inr (8, [.int z0, .int z1, .int z2, .int z3, .long z4, .long z5, .long z6, .long z7, .long z8, .long z9, .int z10, .ref a0, .ref a1, .ref a2, .ref a3, .ref a4, .ref a5, .ref a6, .ref a7, .ref a8, .ref a9, .ref b0, .ref b1, .int (nI 32), .ref b2, .ref b3, .ref b4, .ref b5])), (a7, .inl (cI, 256, .inl (o8 g_16 24 (cf (4 * (k - 1) + 3))))), (a8, .inl (cI, 64, .inl sc)), (a9, .inl (cI, 8, .inl st)), (b0, .inl (cI, 8, .inl kS)), (b1, .inl (cI, 64, .inl kR)), (a2, .inl (cJ, 4, .inr (.inl tf))), (a0, .inl (cJ, 1232, .inr (.inl nf))), (a1, .inl (cJ, 616, .inr (.inl cf)))]) [7, 8, 0, 1, 2, 3, 4, 5, 6] (by decide) rfl
                  generalize H1 = H at hP hS ⊢
                  obtain ⟨g_22, eg_22⟩ : ∃ f : Nat → Int32, f = o8 g_16 24 (cf (4 * (k - 1) + 3)) := ⟨_, rfl⟩
                  rw [← eg_22] at hP hD
                  have hm_23 : bok g_22 4 [cf (4 * (k - 1) + 0), cf (4 * (k - 1) + 1), cf (4 * (k - 1) + 2), cf (4 * (k - 1) + 3)] := bok_add _ hm_17 rfl eg_22
                  obtain ⟨i_24, ei_24⟩ : ∃ y : Int32, y = 3 + 1 := ⟨_, rfl⟩
                  refine lv_iinc (v := i_24) (lv' := [(2, .int i_24), (0, .ref m0), (1, .int (nI k))]) hx hb d_Bm_link_36 hl (k := 0) rfl (by rw [ei_24]; rfl) (by decide) rfl (fun ls hl => ?_)
                  obtain rfl : i_24 = 4 := by rw [ei_24]; exact by decide
                  refine lv_goto (tgt := 7) hx hb d_Bm_link_39 (by decide) ?_
                  refine lv_iload_n hx hb d_Bm_link_7 rfl (lv_at hl 0 rfl) ?_
                  refine lv_iconst (v := 4) hx hb d_Bm_link_8 (by decide) ?_
                  refine lv_icmp_ge (tgt := 42) hx hb d_Bm_link_9 (by decide) (fun c_25 => ?_) (fun c_25 => ?_)
                  · -- taken
                    refine lv_iconst (v := 0) hx hb d_Bm_link_42 (by decide) ?_
                    refine lv_istore_n (lv' := [(2, .int 0), (0, .ref m0), (1, .int (nI k))]) hx hb d_Bm_link_43 rfl hl (by decide) rfl (fun ls hl => ?_)
                    refine lv_iload_n hx hb d_Bm_link_44 rfl (lv_at hl 0 rfl) ?_
                    refine lv_aload_n hx hb d_Bm_link_45 rfl (lv_at hl 1 rfl) ?_
                    refine lv_iload_n hx hb d_Bm_link_46 rfl (lv_at hl 2 rfl) ?_
                    refine lv_iconst (v := 0) hx hb d_Bm_link_47 (by decide) ?_
                    have hPc := hP.sub (ws' := (mo_ws m0 z0 z1 z2 z3 z4 z5 z6 z7 z8 z9 z10 a0 a1 a2 a3 a4 a5 a6 a7 a8 a9 b0 b1 32 b2 b3 b4 b5 ++ (jw_ws a0 cJ 1232 nf))) [0, 7] rfl
                    have hKc := hK.sub (tys' := [(cJ, .long), (cI, .int)]) [0, 1] rfl
                    refine va_calll (va_runV (As := [.int (nI k), .int 0]) (rest := [.int 0]) ⟨hx, hb, hml, hown, hts⟩ (c_Bm_at l H dC dI cJ cI m0 z0 z1 z2 z3 z4 z5 z6 z7 z8 z9 z10 a0 a1 a2 a3 a4 a5 a6 a7 a8 a9 b0 b1 32 b2 b3 b4 b5 nf k 0 hPc (by omega)) (cwV 2 hts (gw_V gk_1102 gk_1104 gp_42 gk_7 gk_1105) rfl rfl rfl (by decide +kernel) ⟨Nat.le_of_ble_eq_true rfl, Nat.le_of_ble_eq_true rfl⟩) ⟨fun a U g mk q => ⟨q.1, q.2.1, va_K.moved (u := U) (U := U.calling g mk a) (Vm.Alike.refl U.vm) q.2.2⟩, va_recv hK hP (ci := 8) (q0 := 0) rfl rfl, fun U hU hW => ⟨rfl, hU, va_K.moved hW.alike hKc⟩⟩ rfl rfl hl.1 rfl (lv_room (Nat.le_of_ble_eq_true rfl)) d_Bm_link_48 ⟨Nat.le_of_ble_eq_true rfl, Nat.le_of_ble_eq_true rfl⟩) hS (fun q _ h => h.elim) (fun q h => h.elim) (fun r48 u9 t9 H1 locs ht hvm hw hB hz1 hk1 hS => ?_)
                    obtain rfl : H = H1 := hB.symm.trans ht
                    have hw : r48 = nf (8 * k + 0) := hw
                    subst hw
                    refine va_calli (va_runS (As := [.long (nf (8 * k + 0))]) (rest := [.int 0]) ⟨hx, hb, hml, hown, hts⟩ (c_Bm_many l H (nf (8 * k + 0))) (cwS 1 hts (gw_S gk_1106 gk_1107 gk_7 gk_1108) rfl rfl rfl (by decide +kernel) ⟨Nat.le_of_ble_eq_true rfl, Nat.le_of_ble_eq_true rfl⟩) ⟨fun a U g mk q => q, fun U hU hW => ⟨rfl, hU⟩⟩ rfl rfl hl.1 rfl (lv_room (Nat.le_of_ble_eq_true rfl)) d_Bm_link_51 ⟨Nat.le_of_ble_eq_true rfl, Nat.le_of_ble_eq_true rfl⟩) hS (fun q _ h => h.elim) (fun q h => h.elim) (fun r51 u9 t9 H1 locs ht hvm hw hB hz1 hk1 hS => ?_)
                    obtain rfl : H = H1 := hB.symm.trans ht
                    have hw : r51 = if nf (8 * k + 0) = 2 then 8 else 5 := hw
                    subst hw
                    rw [show (if nf (8 * k + 0) = 2 then 8 else 5 : Int32) = 8 from if_pos hw2]
                    refine lv_icmp_ge (tgt := 73) hx hb d_Bm_link_54 (by decide) (fun c_26 => ?_) (fun c_26 => ?_)
                    · -- taken
                      exact absurd c_26 (by decide)
                    · -- not taken
                      refine lv_aload_n hx hb d_Bm_link_57 rfl (lv_at hl 1 rfl) ?_
                      refine lv_aload_n hx hb d_Bm_link_58 rfl (lv_at hl 1 rfl) ?_
                      refine lv_iload_n hx hb d_Bm_link_59 rfl (lv_at hl 2 rfl) ?_
                      refine lv_iload_n hx hb d_Bm_link_60 rfl (lv_at hl 0 rfl) ?_
                      have hPc := hP.sub (ws' := (mo_ws m0 z0 z1 z2 z3 z4 z5 z6 z7 z8 z9 z10 a0 a1 a2 a3 a4 a5 a6 a7 a8 a9 b0 b1 32 b2 b3 b4 b5 ++ (jw_ws a0 cJ 1232 nf))) [0, 7] rfl
                      have hKc := hK.sub (tys' := [(cJ, .long), (cI, .int)]) [0, 1] rfl
                      refine va_calll (va_runV (As := [.int (nI k), .int 0]) (rest := [.ref m0]) ⟨hx, hb, hml, hown, hts⟩ (c_Bm_at l H dC dI cJ cI m0 z0 z1 z2 z3 z4 z5 z6 z7 z8 z9 z10 a0 a1 a2 a3 a4 a5 a6 a7 a8 a9 b0 b1 32 b2 b3 b4 b5 nf k 0 hPc (by omega)) (cwV 2 hts (gw_V gk_1102 gk_1104 gp_42 gk_7 gk_1105) rfl rfl rfl (by decide +kernel) ⟨Nat.le_of_ble_eq_true rfl, Nat.le_of_ble_eq_true rfl⟩) ⟨fun a U g mk q => ⟨q.1, q.2.1, va_K.moved (u := U) (U := U.calling g mk a) (Vm.Alike.refl U.vm) q.2.2⟩, va_recv hK hP (ci := 8) (q0 := 0) rfl rfl, fun U hU hW => ⟨rfl, hU, va_K.moved hW.alike hKc⟩⟩ rfl rfl hl.1 rfl (lv_room (Nat.le_of_ble_eq_true rfl)) d_Bm_link_61 ⟨Nat.le_of_ble_eq_true rfl, Nat.le_of_ble_eq_true rfl⟩) hS (fun q _ h => h.elim) (fun q h => h.elim) (fun r61 u9 t9 H1 locs ht hvm hw hB hz1 hk1 hS => ?_)
                      obtain rfl : H = H1 := hB.symm.trans ht
                      have hw : r61 = nf (8 * k + 0) := hw
                      subst hw
                      have hPc := hP.sub (ws' := (mo_ws m0 z0 z1 z2 z3 z4 z5 z6 z7 z8 z9 z10 a0 a1 a2 a3 a4 a5 a6 a7 a8 a9 b0 b1 32 b2 b3 b4 b5 ++ (iw_ws a7 cI 256 g_22))) [0, 1] rfl
                      have hDc := hD.sub (ws' := (mo_ws m0 z0 z1 z2 z3 z4 z5 z6 z7 z8 z9 z10 a0 a1 a2 a3 a4 a5 a6 a7 a8 a9 b0 b1 32 b2 b3 b4 b5 ++ (iw_ws a7 cI 256 g_22))) [0, 1] (by decide) rfl
                      have hKc := hK.sub (tys' := [(cJ, .long), (cI, .int)]) [0, 1] rfl
                      have hFc := va_free (wc := (mo_ws m0 z0 z1 z2 z3 z4 z5 z6 z7 z8 z9 z10 a0 a1 a2 a3 a4 a5 a6 a7 a8 a9 b0 b1 32 b2 b3 b4 b5 ++ (iw_ws a7 cI 256 g_22))) hD hS hA [0, 1] rfl
                      refine va_callv (va_runV (As := [.long (nf (8 * k + 0))]) (rest := []) ⟨hx, hb, hml, hown, hts⟩ (c_Bm_eight l dC dI cJ cI H.size m0 z0 z1 z2 z3 z4 z5 z6 z7 z8 z9 z10 a0 a1 a2 a3 a4 a5 a6 a7 a8 a9 b0 b1 32 b2 b3 b4 b5 g_22 (nf (8 * k + 0)) (by omega)) (cwV 1 hts (gw_V gk_1070 gk_1072 gp_36 gk_7 gk_1073) rfl rfl rfl (by decide +kernel) ⟨Nat.le_of_ble_eq_true rfl, Nat.le_of_ble_eq_true rfl⟩) ⟨fun a U g mk q => by obtain ⟨q0, q1, qP, qK, qD⟩ := q; exact ⟨q0, q1, qP, va_K.moved (u := U) (U := U.calling g mk a) (Vm.Alike.refl U.vm) qK, qD⟩, va_recv hK hP (ci := 8) (q0 := 0) rfl rfl, fun U hU hW => ⟨rfl, by rw [hU], by rw [hU]; exact hPc, va_K.moved hW.alike hKc, hDc.weaken (fun _ _ _ _ => trivial)⟩⟩ rfl rfl hl.1 rfl (lv_room (Nat.le_of_ble_eq_true rfl)) d_Bm_link_64 ⟨Nat.le_of_ble_eq_true rfl, Nat.le_of_ble_eq_true rfl⟩) hS (fun q _ h => hFc q h) hFc (fun u9 t9 H1 locs ht hvm hw hB hz1 hk1 hS => ?_)
                      obtain ⟨hP1, hK1, hD1⟩ := hB
                      rw [ht] at hP1
                      obtain ⟨hP, hD⟩ := va_join (wr := [(a8, .inl (cI, 64, .inl sc)), (a9, .inl (cI, 8, .inl st)), (b0, .inl (cI, 8, .inl kS)), (b1, .inl (cI, 64, .inl kR)), (a2, .inl (cJ, 4, .inr (.inl tf))), (a0, .inl (cJ, 1232, .inr (.inl nf))), (a1, .inl (cJ, 616, .inr (.inl cf)))]) (w1 := [(m0, .inr (8, [.int z0, .int z1, .int z2, .int z3, .long z4, .long z5, .long z6, .long z7, .long z8, .long z9, .int z10, .ref a0, .ref a1, .ref a2, .ref a3, .ref a4, .ref a5, .ref a6, .ref a7, .ref a8, .ref a9, .ref b0, .ref b1, .int (nI 40), .ref b2, .ref b3, .ref b4, .ref b5])), (a7, .inl (cI, 256, .inl (o8 g_22 32 (nf (8 * k + 0)))))]) hP hD [0, 1] [2, 3, 4, 5, 6, 7, 8] rfl rfl (by decide) (by decide) hk1 hFc hP1 hD1
                      have hP := hP.sub (ws' := [(m0, .inr (8, [.int z0, .int z1, .int z2, .int z3, .long z4, .long z5, .long z6, .long z7, .long z8, .long z9, .int z10, .ref a0, .ref a1, .ref a2, .ref a3, .ref a4, .ref a5, .ref a6, .ref a7, .ref a8, .ref a9, .ref b0, .ref b1, .int (nI 40), .ref b2, .ref b3, .ref b4, .ref b5])), (a7, .inl (cI, 256, .inl (o8 g_22 32 (nf (8 * k + 0))))), (a8, .inl (cI, 64, .inl sc)), (a9, .inl (cI, 8, .inl st)), (b0, .inl (cI, 8, .inl kS)), (b1, .inl (cI, 64, .inl kR)), (a2, .inl (cJ, 4, .inr (.inl tf))), (a0, .inl (cJ, 1232, .inr (.inl nf))), (a1, .inl (cJ, 616, .inr (.inl cf)))]) [7, 8, 0, 1, 2, 3, 4, 5, 6] rfl
                      have hD := hD.sub (ws' := [(m0, .inr (8, [.int z0, .int z1, .int z2, .int z3, .long z4, .long z5, .long z6, .long z7, .long z8, .long z9, .int z10, .ref a0, .ref a1, .ref a2, .ref a3, .ref a4, .ref a5, .ref a6, .ref a7, .ref a8, .ref a9, .ref b0, .ref b1, .int (nI 40), .ref b2, .ref b3, .ref b4, .ref b5])), (a7, .inl (cI, 256, .inl (o8 g_22 32 (nf (8 * k + 0))))), (a8, .inl (cI, 64, .inl sc)), (a9, .inl (cI, 8, .inl st)), (b0, .inl (cI, 8, .inl kS)), (b1, .inl (cI, 64, .inl kR)), (a2, .inl (cJ, 4, .inr (.inl tf))), (a0, .inl (cJ, 1232, .inr (.inl nf))), (a1, .inl (cJ, 616, .inr (.inl cf)))]) [7, 8, 0, 1, 2, 3, 4, 5, 6] (by decide) rfl
                      generalize H1 = H at hP hS ⊢
                      obtain ⟨g_28, eg_28⟩ : ∃ f : Nat → Int32, f = o8 g_22 32 (nf (8 * k + 0)) := ⟨_, rfl⟩
                      rw [← eg_28] at hP hD
                      have hm_29 : bok g_28 5 [cf (4 * (k - 1) + 0), cf (4 * (k - 1) + 1), cf (4 * (k - 1) + 2), cf (4 * (k - 1) + 3), nf (8 * k + 0)] := bok_add _ hm_23 rfl eg_28
                      obtain ⟨i_30, ei_30⟩ : ∃ y : Int32, y = 0 + 1 := ⟨_, rfl⟩
                      refine lv_iinc (v := i_30) (lv' := [(2, .int i_30), (0, .ref m0), (1, .int (nI k))]) hx hb d_Bm_link_67 hl (k := 0) rfl (by rw [ei_30]; rfl) (by decide) rfl (fun ls hl => ?_)
                      obtain rfl : i_30 = 1 := by rw [ei_30]; exact by decide
                      refine lv_goto (tgt := 44) hx hb d_Bm_link_70 (by decide) ?_
                      refine lv_iload_n hx hb d_Bm_link_44 rfl (lv_at hl 0 rfl) ?_
                      refine lv_aload_n hx hb d_Bm_link_45 rfl (lv_at hl 1 rfl) ?_
                      refine lv_iload_n hx hb d_Bm_link_46 rfl (lv_at hl 2 rfl) ?_
                      refine lv_iconst (v := 0) hx hb d_Bm_link_47 (by decide) ?_
                      have hPc := hP.sub (ws' := (mo_ws m0 z0 z1 z2 z3 z4 z5 z6 z7 z8 z9 z10 a0 a1 a2 a3 a4 a5 a6 a7 a8 a9 b0 b1 40 b2 b3 b4 b5 ++ (jw_ws a0 cJ 1232 nf))) [0, 7] rfl
                      have hKc := hK.sub (tys' := [(cJ, .long), (cI, .int)]) [0, 1] rfl
                      refine va_calll (va_runV (As := [.int (nI k), .int 0]) (rest := [.int 1]) ⟨hx, hb, hml, hown, hts⟩ (c_Bm_at l H dC dI cJ cI m0 z0 z1 z2 z3 z4 z5 z6 z7 z8 z9 z10 a0 a1 a2 a3 a4 a5 a6 a7 a8 a9 b0 b1 40 b2 b3 b4 b5 nf k 0 hPc (by omega)) (cwV 2 hts (gw_V gk_1102 gk_1104 gp_42 gk_7 gk_1105) rfl rfl rfl (by decide +kernel) ⟨Nat.le_of_ble_eq_true rfl, Nat.le_of_ble_eq_true rfl⟩) ⟨fun a U g mk q => ⟨q.1, q.2.1, va_K.moved (u := U) (U := U.calling g mk a) (Vm.Alike.refl U.vm) q.2.2⟩, va_recv hK hP (ci := 8) (q0 := 0) rfl rfl, fun U hU hW => ⟨rfl, hU, va_K.moved hW.alike hKc⟩⟩ rfl rfl hl.1 rfl (lv_room (Nat.le_of_ble_eq_true rfl)) d_Bm_link_48 ⟨Nat.le_of_ble_eq_true rfl, Nat.le_of_ble_eq_true rfl⟩) hS (fun q _ h => h.elim) (fun q h => h.elim) (fun r48 u9 t9 H1 locs ht hvm hw hB hz1 hk1 hS => ?_)
                      obtain rfl : H = H1 := hB.symm.trans ht
                      have hw : r48 = nf (8 * k + 0) := hw
                      subst hw
                      refine va_calli (va_runS (As := [.long (nf (8 * k + 0))]) (rest := [.int 1]) ⟨hx, hb, hml, hown, hts⟩ (c_Bm_many l H (nf (8 * k + 0))) (cwS 1 hts (gw_S gk_1106 gk_1107 gk_7 gk_1108) rfl rfl rfl (by decide +kernel) ⟨Nat.le_of_ble_eq_true rfl, Nat.le_of_ble_eq_true rfl⟩) ⟨fun a U g mk q => q, fun U hU hW => ⟨rfl, hU⟩⟩ rfl rfl hl.1 rfl (lv_room (Nat.le_of_ble_eq_true rfl)) d_Bm_link_51 ⟨Nat.le_of_ble_eq_true rfl, Nat.le_of_ble_eq_true rfl⟩) hS (fun q _ h => h.elim) (fun q h => h.elim) (fun r51 u9 t9 H1 locs ht hvm hw hB hz1 hk1 hS => ?_)
                      obtain rfl : H = H1 := hB.symm.trans ht
                      have hw : r51 = if nf (8 * k + 0) = 2 then 8 else 5 := hw
                      subst hw
                      rw [show (if nf (8 * k + 0) = 2 then 8 else 5 : Int32) = 8 from if_pos hw2]
                      refine lv_icmp_ge (tgt := 73) hx hb d_Bm_link_54 (by decide) (fun c_31 => ?_) (fun c_31 => ?_)
                      · -- taken
                        exact absurd c_31 (by decide)
                      · -- not taken
                        refine lv_aload_n hx hb d_Bm_link_57 rfl (lv_at hl 1 rfl) ?_
                        refine lv_aload_n hx hb d_Bm_link_58 rfl (lv_at hl 1 rfl) ?_
                        refine lv_iload_n hx hb d_Bm_link_59 rfl (lv_at hl 2 rfl) ?_
                        refine lv_iload_n hx hb d_Bm_link_60 rfl (lv_at hl 0 rfl) ?_
                        have hPc := hP.sub (ws' := (mo_ws m0 z0 z1 z2 z3 z4 z5 z6 z7 z8 z9 z10 a0 a1 a2 a3 a4 a5 a6 a7 a8 a9 b0 b1 40 b2 b3 b4 b5 ++ (jw_ws a0 cJ 1232 nf))) [0, 7] rfl
                        have hKc := hK.sub (tys' := [(cJ, .long), (cI, .int)]) [0, 1] rfl
                        refine va_calll (va_runV (As := [.int (nI k), .int 1]) (rest := [.ref m0]) ⟨hx, hb, hml, hown, hts⟩ (c_Bm_at l H dC dI cJ cI m0 z0 z1 z2 z3 z4 z5 z6 z7 z8 z9 z10 a0 a1 a2 a3 a4 a5 a6 a7 a8 a9 b0 b1 40 b2 b3 b4 b5 nf k 1 hPc (by omega)) (cwV 2 hts (gw_V gk_1102 gk_1104 gp_42 gk_7 gk_1105) rfl rfl rfl (by decide +kernel) ⟨Nat.le_of_ble_eq_true rfl, Nat.le_of_ble_eq_true rfl⟩) ⟨fun a U g mk q => ⟨q.1, q.2.1, va_K.moved (u := U) (U := U.calling g mk a) (Vm.Alike.refl U.vm) q.2.2⟩, va_recv hK hP (ci := 8) (q0 := 0) rfl rfl, fun U hU hW => ⟨rfl, hU, va_K.moved hW.alike hKc⟩⟩ rfl rfl hl.1 rfl (lv_room (Nat.le_of_ble_eq_true rfl)) d_Bm_link_61 ⟨Nat.le_of_ble_eq_true rfl, Nat.le_of_ble_eq_true rfl⟩) hS (fun q _ h => h.elim) (fun q h => h.elim) (fun r61 u9 t9 H1 locs ht hvm hw hB hz1 hk1 hS => ?_)
                        obtain rfl : H = H1 := hB.symm.trans ht
                        have hw : r61 = nf (8 * k + 1) := hw
                        subst hw
                        have hPc := hP.sub (ws' := (mo_ws m0 z0 z1 z2 z3 z4 z5 z6 z7 z8 z9 z10 a0 a1 a2 a3 a4 a5 a6 a7 a8 a9 b0 b1 40 b2 b3 b4 b5 ++ (iw_ws a7 cI 256 g_28))) [0, 1] rfl
                        have hDc := hD.sub (ws' := (mo_ws m0 z0 z1 z2 z3 z4 z5 z6 z7 z8 z9 z10 a0 a1 a2 a3 a4 a5 a6 a7 a8 a9 b0 b1 40 b2 b3 b4 b5 ++ (iw_ws a7 cI 256 g_28))) [0, 1] (by decide) rfl
                        have hKc := hK.sub (tys' := [(cJ, .long), (cI, .int)]) [0, 1] rfl
                        have hFc := va_free (wc := (mo_ws m0 z0 z1 z2 z3 z4 z5 z6 z7 z8 z9 z10 a0 a1 a2 a3 a4 a5 a6 a7 a8 a9 b0 b1 40 b2 b3 b4 b5 ++ (iw_ws a7 cI 256 g_28))) hD hS hA [0, 1] rfl
                        refine va_callv (va_runV (As := [.long (nf (8 * k + 1))]) (rest := []) ⟨hx, hb, hml, hown, hts⟩ (c_Bm_eight l dC dI cJ cI H.size m0 z0 z1 z2 z3 z4 z5 z6 z7 z8 z9 z10 a0 a1 a2 a3 a4 a5 a6 a7 a8 a9 b0 b1 40 b2 b3 b4 b5 g_28 (nf (8 * k + 1)) (by omega)) (cwV 1 hts (gw_V gk_1070 gk_1072 gp_36 gk_7 gk_1073) rfl rfl rfl (by decide +kernel) ⟨Nat.le_of_ble_eq_true rfl, Nat.le_of_ble_eq_true rfl⟩) ⟨fun a U g mk q => by obtain ⟨q0, q1, qP, qK, qD⟩ := q; exact ⟨q0, q1, qP, va_K.moved (u := U) (U := U.calling g mk a) (Vm.Alike.refl U.vm) qK, qD⟩, va_recv hK hP (ci := 8) (q0 := 0) rfl rfl, fun U hU hW => ⟨rfl, by rw [hU], by rw [hU]; exact hPc, va_K.moved hW.alike hKc, hDc.weaken (fun _ _ _ _ => trivial)⟩⟩ rfl rfl hl.1 rfl (lv_room (Nat.le_of_ble_eq_true rfl)) d_Bm_link_64 ⟨Nat.le_of_ble_eq_true rfl, Nat.le_of_ble_eq_true rfl⟩) hS (fun q _ h => hFc q h) hFc (fun u9 t9 H1 locs ht hvm hw hB hz1 hk1 hS => ?_)
                        obtain ⟨hP1, hK1, hD1⟩ := hB
                        rw [ht] at hP1
                        obtain ⟨hP, hD⟩ := va_join (wr := [(a8, .inl (cI, 64, .inl sc)), (a9, .inl (cI, 8, .inl st)), (b0, .inl (cI, 8, .inl kS)), (b1, .inl (cI, 64, .inl kR)), (a2, .inl (cJ, 4, .inr (.inl tf))), (a0, .inl (cJ, 1232, .inr (.inl nf))), (a1, .inl (cJ, 616, .inr (.inl cf)))]) (w1 := [(m0, .inr (8, [.int z0, .int z1, .int z2, .int z3, .long z4, .long z5, .long z6, .long z7, .long z8, .long z9, .int z10, .ref a0, .ref a1, .ref a2, .ref a3, .ref a4, .ref a5, .ref a6, .ref a7, .ref a8, .ref a9, .ref b0, .ref b1, .int (nI 48), .ref b2, .ref b3, .ref b4, .ref b5])), (a7, .inl (cI, 256, .inl (o8 g_28 40 (nf (8 * k + 1)))))]) hP hD [0, 1] [2, 3, 4, 5, 6, 7, 8] rfl rfl (by decide) (by decide) hk1 hFc hP1 hD1
                        have hP := hP.sub (ws' := [(m0, .inr (8, [.int z0, .int z1, .int z2, .int z3, .long z4, .long z5, .long z6, .long z7, .long z8, .long z9, .int z10, .ref a0, .ref a1, .ref a2, .ref a3, .ref a4, .ref a5, .ref a6, .ref a7, .ref a8, .ref a9, .ref b0, .ref b1, .int (nI 48), .ref b2, .ref b3, .ref b4, .ref b5])), (a7, .inl (cI, 256, .inl (o8 g_28 40 (nf (8 * k + 1))))), (a8, .inl (cI, 64, .inl sc)), (a9, .inl (cI, 8, .inl st)), (b0, .inl (cI, 8, .inl kS)), (b1, .inl (cI, 64, .inl kR)), (a2, .inl (cJ, 4, .inr (.inl tf))), (a0, .inl (cJ, 1232, .inr (.inl nf))), (a1, .inl (cJ, 616, .inr (.inl cf)))]) [7, 8, 0, 1, 2, 3, 4, 5, 6] rfl
                        have hD := hD.sub (ws' := [(m0, .inr (8, [.int z0, .int z1, .int z2, .int z3, .long z4, .long z5, .long z6, .long z7, .long z8, .long z9, .int z10, .ref a0, .ref a1, .ref a2, .ref a3, .ref a4, .ref a5, .ref a6, .ref a7, .ref a8, .ref a9, .ref b0, .ref b1, .int (nI 48), .ref b2, .ref b3, .ref b4, .ref b5])), (a7, .inl (cI, 256, .inl (o8 g_28 40 (nf (8 * k + 1))))), (a8, .inl (cI, 64, .inl sc)), (a9, .inl (cI, 8, .inl st)), (b0, .inl (cI, 8, .inl kS)), (b1, .inl (cI, 64, .inl kR)), (a2, .inl (cJ, 4, .inr (.inl tf))), (a0, .inl (cJ, 1232, .inr (.inl nf))), (a1, .inl (cJ, 616, .inr (.inl cf)))]) [7, 8, 0, 1, 2, 3, 4, 5, 6] (by decide) rfl
                        generalize H1 = H at hP hS ⊢
                        obtain ⟨g_33, eg_33⟩ : ∃ f : Nat → Int32, f = o8 g_28 40 (nf (8 * k + 1)) := ⟨_, rfl⟩
                        rw [← eg_33] at hP hD
                        have hm_34 : bok g_33 6 [cf (4 * (k - 1) + 0), cf (4 * (k - 1) + 1), cf (4 * (k - 1) + 2), cf (4 * (k - 1) + 3), nf (8 * k + 0), nf (8 * k + 1)] := bok_add _ hm_29 rfl eg_33
                        obtain ⟨i_35, ei_35⟩ : ∃ y : Int32, y = 1 + 1 := ⟨_, rfl⟩
                        refine lv_iinc (v := i_35) (lv' := [(2, .int i_35), (0, .ref m0), (1, .int (nI k))]) hx hb d_Bm_link_67 hl (k := 0) rfl (by rw [ei_35]; rfl) (by decide) rfl (fun ls hl => ?_)
                        obtain rfl : i_35 = 2 := by rw [ei_35]; exact by decide
                        refine lv_goto (tgt := 44) hx hb d_Bm_link_70 (by decide) ?_
                        refine lv_iload_n hx hb d_Bm_link_44 rfl (lv_at hl 0 rfl) ?_
                        refine lv_aload_n hx hb d_Bm_link_45 rfl (lv_at hl 1 rfl) ?_
                        refine lv_iload_n hx hb d_Bm_link_46 rfl (lv_at hl 2 rfl) ?_
                        refine lv_iconst (v := 0) hx hb d_Bm_link_47 (by decide) ?_
                        have hPc := hP.sub (ws' := (mo_ws m0 z0 z1 z2 z3 z4 z5 z6 z7 z8 z9 z10 a0 a1 a2 a3 a4 a5 a6 a7 a8 a9 b0 b1 48 b2 b3 b4 b5 ++ (jw_ws a0 cJ 1232 nf))) [0, 7] rfl
                        have hKc := hK.sub (tys' := [(cJ, .long), (cI, .int)]) [0, 1] rfl
                        refine va_calll (va_runV (As := [.int (nI k), .int 0]) (rest := [.int 2]) ⟨hx, hb, hml, hown, hts⟩ (c_Bm_at l H dC dI cJ cI m0 z0 z1 z2 z3 z4 z5 z6 z7 z8 z9 z10 a0 a1 a2 a3 a4 a5 a6 a7 a8 a9 b0 b1 48 b2 b3 b4 b5 nf k 0 hPc (by omega)) (cwV 2 hts (gw_V gk_1102 gk_1104 gp_42 gk_7 gk_1105) rfl rfl rfl (by decide +kernel) ⟨Nat.le_of_ble_eq_true rfl, Nat.le_of_ble_eq_true rfl⟩) ⟨fun a U g mk q => ⟨q.1, q.2.1, va_K.moved (u := U) (U := U.calling g mk a) (Vm.Alike.refl U.vm) q.2.2⟩, va_recv hK hP (ci := 8) (q0 := 0) rfl rfl, fun U hU hW => ⟨rfl, hU, va_K.moved hW.alike hKc⟩⟩ rfl rfl hl.1 rfl (lv_room (Nat.le_of_ble_eq_true rfl)) d_Bm_link_48 ⟨Nat.le_of_ble_eq_true rfl, Nat.le_of_ble_eq_true rfl⟩) hS (fun q _ h => h.elim) (fun q h => h.elim) (fun r48 u9 t9 H1 locs ht hvm hw hB hz1 hk1 hS => ?_)
                        obtain rfl : H = H1 := hB.symm.trans ht
                        have hw : r48 = nf (8 * k + 0) := hw
                        subst hw
                        refine va_calli (va_runS (As := [.long (nf (8 * k + 0))]) (rest := [.int 2]) ⟨hx, hb, hml, hown, hts⟩ (c_Bm_many l H (nf (8 * k + 0))) (cwS 1 hts (gw_S gk_1106 gk_1107 gk_7 gk_1108) rfl rfl rfl (by decide +kernel) ⟨Nat.le_of_ble_eq_true rfl, Nat.le_of_ble_eq_true rfl⟩) ⟨fun a U g mk q => q, fun U hU hW => ⟨rfl, hU⟩⟩ rfl rfl hl.1 rfl (lv_room (Nat.le_of_ble_eq_true rfl)) d_Bm_link_51 ⟨Nat.le_of_ble_eq_true rfl, Nat.le_of_ble_eq_true rfl⟩) hS (fun q _ h => h.elim) (fun q h => h.elim) (fun r51 u9 t9 H1 locs ht hvm hw hB hz1 hk1 hS => ?_)
                        obtain rfl : H = H1 := hB.symm.trans ht
                        have hw : r51 = if nf (8 * k + 0) = 2 then 8 else 5 := hw
                        subst hw
                        rw [show (if nf (8 * k + 0) = 2 then 8 else 5 : Int32) = 8 from if_pos hw2]
                        refine lv_icmp_ge (tgt := 73) hx hb d_Bm_link_54 (by decide) (fun c_36 => ?_) (fun c_36 => ?_)
                        · -- taken
                          exact absurd c_36 (by decide)
                        · -- not taken
                          refine lv_aload_n hx hb d_Bm_link_57 rfl (lv_at hl 1 rfl) ?_
                          refine lv_aload_n hx hb d_Bm_link_58 rfl (lv_at hl 1 rfl) ?_
                          refine lv_iload_n hx hb d_Bm_link_59 rfl (lv_at hl 2 rfl) ?_
                          refine lv_iload_n hx hb d_Bm_link_60 rfl (lv_at hl 0 rfl) ?_
                          have hPc := hP.sub (ws' := (mo_ws m0 z0 z1 z2 z3 z4 z5 z6 z7 z8 z9 z10 a0 a1 a2 a3 a4 a5 a6 a7 a8 a9 b0 b1 48 b2 b3 b4 b5 ++ (jw_ws a0 cJ 1232 nf))) [0, 7] rfl
                          have hKc := hK.sub (tys' := [(cJ, .long), (cI, .int)]) [0, 1] rfl
                          refine va_calll (va_runV (As := [.int (nI k), .int 2]) (rest := [.ref m0]) ⟨hx, hb, hml, hown, hts⟩ (c_Bm_at l H dC dI cJ cI m0 z0 z1 z2 z3 z4 z5 z6 z7 z8 z9 z10 a0 a1 a2 a3 a4 a5 a6 a7 a8 a9 b0 b1 48 b2 b3 b4 b5 nf k 2 hPc (by omega)) (cwV 2 hts (gw_V gk_1102 gk_1104 gp_42 gk_7 gk_1105) rfl rfl rfl (by decide +kernel) ⟨Nat.le_of_ble_eq_true rfl, Nat.le_of_ble_eq_true rfl⟩) ⟨fun a U g mk q => ⟨q.1, q.2.1, va_K.moved (u := U) (U := U.calling g mk a) (Vm.Alike.refl U.vm) q.2.2⟩, va_recv hK hP (ci := 8) (q0 := 0) rfl rfl, fun U hU hW => ⟨rfl, hU, va_K.moved hW.alike hKc⟩⟩ rfl rfl hl.1 rfl (lv_room (Nat.le_of_ble_eq_true rfl)) d_Bm_link_61 ⟨Nat.le_of_ble_eq_true rfl, Nat.le_of_ble_eq_true rfl⟩) hS (fun q _ h => h.elim) (fun q h => h.elim) (fun r61 u9 t9 H1 locs ht hvm hw hB hz1 hk1 hS => ?_)
                          obtain rfl : H = H1 := hB.symm.trans ht
                          have hw : r61 = nf (8 * k + 2) := hw
                          subst hw
                          have hPc := hP.sub (ws' := (mo_ws m0 z0 z1 z2 z3 z4 z5 z6 z7 z8 z9 z10 a0 a1 a2 a3 a4 a5 a6 a7 a8 a9 b0 b1 48 b2 b3 b4 b5 ++ (iw_ws a7 cI 256 g_33))) [0, 1] rfl
                          have hDc := hD.sub (ws' := (mo_ws m0 z0 z1 z2 z3 z4 z5 z6 z7 z8 z9 z10 a0 a1 a2 a3 a4 a5 a6 a7 a8 a9 b0 b1 48 b2 b3 b4 b5 ++ (iw_ws a7 cI 256 g_33))) [0, 1] (by decide) rfl
                          have hKc := hK.sub (tys' := [(cJ, .long), (cI, .int)]) [0, 1] rfl
                          have hFc := va_free (wc := (mo_ws m0 z0 z1 z2 z3 z4 z5 z6 z7 z8 z9 z10 a0 a1 a2 a3 a4 a5 a6 a7 a8 a9 b0 b1 48 b2 b3 b4 b5 ++ (iw_ws a7 cI 256 g_33))) hD hS hA [0, 1] rfl
                          refine va_callv (va_runV (As := [.long (nf (8 * k + 2))]) (rest := []) ⟨hx, hb, hml, hown, hts⟩ (c_Bm_eight l dC dI cJ cI H.size m0 z0 z1 z2 z3 z4 z5 z6 z7 z8 z9 z10 a0 a1 a2 a3 a4 a5 a6 a7 a8 a9 b0 b1 48 b2 b3 b4 b5 g_33 (nf (8 * k + 2)) (by omega)) (cwV 1 hts (gw_V gk_1070 gk_1072 gp_36 gk_7 gk_1073) rfl rfl rfl (by decide +kernel) ⟨Nat.le_of_ble_eq_true rfl, Nat.le_of_ble_eq_true rfl⟩) ⟨fun a U g mk q => by obtain ⟨q0, q1, qP, qK, qD⟩ := q; exact ⟨q0, q1, qP, va_K.moved (u := U) (U := U.calling g mk a) (Vm.Alike.refl U.vm) qK, qD⟩, va_recv hK hP (ci := 8) (q0 := 0) rfl rfl, fun U hU hW => ⟨rfl, by rw [hU], by rw [hU]; exact hPc, va_K.moved hW.alike hKc, hDc.weaken (fun _ _ _ _ => trivial)⟩⟩ rfl rfl hl.1 rfl (lv_room (Nat.le_of_ble_eq_true rfl)) d_Bm_link_64 ⟨Nat.le_of_ble_eq_true rfl, Nat.le_of_ble_eq_true rfl⟩) hS (fun q _ h => hFc q h) hFc (fun u9 t9 H1 locs ht hvm hw hB hz1 hk1 hS => ?_)
                          obtain ⟨hP1, hK1, hD1⟩ := hB
                          rw [ht] at hP1
                          obtain ⟨hP, hD⟩ := va_join (wr := [(a8, .inl (cI, 64, .inl sc)), (a9, .inl (cI, 8, .inl st)), (b0, .inl (cI, 8, .inl kS)), (b1, .inl (cI, 64, .inl kR)), (a2, .inl (cJ, 4, .inr (.inl tf))), (a0, .inl (cJ, 1232, .inr (.inl nf))), (a1, .inl (cJ, 616, .inr (.inl cf)))]) (w1 := [(m0, .inr (8, [.int z0, .int z1, .int z2, .int z3, .long z4, .long z5, .long z6, .long z7, .long z8, .long z9, .int z10, .ref a0, .ref a1, .ref a2, .ref a3, .ref a4, .ref a5, .ref a6, .ref a7, .ref a8, .ref a9, .ref b0, .ref b1, .int (nI 56), .ref b2, .ref b3, .ref b4, .ref b5])), (a7, .inl (cI, 256, .inl (o8 g_33 48 (nf (8 * k + 2)))))]) hP hD [0, 1] [2, 3, 4, 5, 6, 7, 8] rfl rfl (by decide) (by decide) hk1 hFc hP1 hD1
                          have hP := hP.sub (ws' := [(m0, .inr (8, [.int z0, .int z1, .int z2, .int z3, .long z4, .long z5, .long z6, .long z7, .long z8, .long z9, .int z10, .ref a0, .ref a1, .ref a2, .ref a3, .ref a4, .ref a5, .ref a6, .ref a7, .ref a8, .ref a9, .ref b0, .ref b1, .int (nI 56), .ref b2, .ref b3, .ref b4, .ref b5])), (a7, .inl (cI, 256, .inl (o8 g_33 48 (nf (8 * k + 2))))), (a8, .inl (cI, 64, .inl sc)), (a9, .inl (cI, 8, .inl st)), (b0, .inl (cI, 8, .inl kS)), (b1, .inl (cI, 64, .inl kR)), (a2, .inl (cJ, 4, .inr (.inl tf))), (a0, .inl (cJ, 1232, .inr (.inl nf))), (a1, .inl (cJ, 616, .inr (.inl cf)))]) [7, 8, 0, 1, 2, 3, 4, 5, 6] rfl
                          have hD := hD.sub (ws' := [(m0, .inr (8, [.int z0, .int z1, .int z2, .int z3, .long z4, .long z5, .long z6, .long z7, .long z8, .long z9, .int z10, .ref a0, .ref a1, .ref a2, .ref a3, .ref a4, .ref a5, .ref a6, .ref a7, .ref a8, .ref a9, .ref b0, .ref b1, .int (nI 56), .ref b2, .ref b3, .ref b4, .ref b5])), (a7, .inl (cI, 256, .inl (o8 g_33 48 (nf (8 * k + 2))))), (a8, .inl (cI, 64, .inl sc)), (a9, .inl (cI, 8, .inl st)), (b0, .inl (cI, 8, .inl kS)), (b1, .inl (cI, 64, .inl kR)), (a2, .inl (cJ, 4, .inr (.inl tf))), (a0, .inl (cJ, 1232, .inr (.inl nf))), (a1, .inl (cJ, 616, .inr (.inl cf)))]) [7, 8, 0, 1, 2, 3, 4, 5, 6] (by decide) rfl
                          generalize H1 = H at hP hS ⊢
                          obtain ⟨g_38, eg_38⟩ : ∃ f : Nat → Int32, f = o8 g_33 48 (nf (8 * k + 2)) := ⟨_, rfl⟩
                          rw [← eg_38] at hP hD
                          have hm_39 : bok g_38 7 [cf (4 * (k - 1) + 0), cf (4 * (k - 1) + 1), cf (4 * (k - 1) + 2), cf (4 * (k - 1) + 3), nf (8 * k + 0), nf (8 * k + 1), nf (8 * k + 2)] := bok_add _ hm_34 rfl eg_38
                          obtain ⟨i_40, ei_40⟩ : ∃ y : Int32, y = 2 + 1 := ⟨_, rfl⟩
                          refine lv_iinc (v := i_40) (lv' := [(2, .int i_40), (0, .ref m0), (1, .int (nI k))]) hx hb d_Bm_link_67 hl (k := 0) rfl (by rw [ei_40]; rfl) (by decide) rfl (fun ls hl => ?_)
                          obtain rfl : i_40 = 3 := by rw [ei_40]; exact by decide
                          refine lv_goto (tgt := 44) hx hb d_Bm_link_70 (by decide) ?_
                          refine lv_iload_n hx hb d_Bm_link_44 rfl (lv_at hl 0 rfl) ?_
                          refine lv_aload_n hx hb d_Bm_link_45 rfl (lv_at hl 1 rfl) ?_
                          refine lv_iload_n hx hb d_Bm_link_46 rfl (lv_at hl 2 rfl) ?_
                          refine lv_iconst (v := 0) hx hb d_Bm_link_47 (by decide) ?_
                          have hPc := hP.sub (ws' := (mo_ws m0 z0 z1 z2 z3 z4 z5 z6 z7 z8 z9 z10 a0 a1 a2 a3 a4 a5 a6 a7 a8 a9 b0 b1 56 b2 b3 b4 b5 ++ (jw_ws a0 cJ 1232 nf))) [0, 7] rfl
                          have hKc := hK.sub (tys' := [(cJ, .long), (cI, .int)]) [0, 1] rfl
                          refine va_calll (va_runV (As := [.int (nI k), .int 0]) (rest := [.int 3]) ⟨hx, hb, hml, hown, hts⟩ (c_Bm_at l H dC dI cJ cI m0 z0 z1 z2 z3 z4 z5 z6 z7 z8 z9 z10 a0 a1 a2 a3 a4 a5 a6 a7 a8 a9 b0 b1 56 b2 b3 b4 b5 nf k 0 hPc (by omega)) (cwV 2 hts (gw_V gk_1102 gk_1104 gp_42 gk_7 gk_1105) rfl rfl rfl (by decide +kernel) ⟨Nat.le_of_ble_eq_true rfl, Nat.le_of_ble_eq_true rfl⟩) ⟨fun a U g mk q => ⟨q.1, q.2.1, va_K.moved (u := U) (U := U.calling g mk a) (Vm.Alike.refl U.vm) q.2.2⟩, va_recv hK hP (ci := 8) (q0 := 0) rfl rfl, fun U hU hW => ⟨rfl, hU, va_K.moved hW.alike hKc⟩⟩ rfl rfl hl.1 rfl (lv_room (Nat.le_of_ble_eq_true rfl)) d_Bm_link_48 ⟨Nat.le_of_ble_eq_true rfl, Nat.le_of_ble_eq_true rfl⟩) hS (fun q _ h => h.elim) (fun q h => h.elim) (fun r48 u9 t9 H1 locs ht hvm hw hB hz1 hk1 hS => ?_)
                          obtain rfl : H = H1 := hB.symm.trans ht
                          have hw : r48 = nf (8 * k + 0) := hw
                          subst hw
                          refine va_calli (va_runS (As := [.long (nf (8 * k + 0))]) (rest := [.int 3]) ⟨hx, hb, hml, hown, hts⟩ (c_Bm_many l H (nf (8 * k + 0))) (cwS 1 hts (gw_S gk_1106 gk_1107 gk_7 gk_1108) rfl rfl rfl (by decide +kernel) ⟨Nat.le_of_ble_eq_true rfl, Nat.le_of_ble_eq_true rfl⟩) ⟨fun a U g mk q => q, fun U hU hW => ⟨rfl, hU⟩⟩ rfl rfl hl.1 rfl (lv_room (Nat.le_of_ble_eq_true rfl)) d_Bm_link_51 ⟨Nat.le_of_ble_eq_true rfl, Nat.le_of_ble_eq_true rfl⟩) hS (fun q _ h => h.elim) (fun q h => h.elim) (fun r51 u9 t9 H1 locs ht hvm hw hB hz1 hk1 hS => ?_)
                          obtain rfl : H = H1 := hB.symm.trans ht
                          have hw : r51 = if nf (8 * k + 0) = 2 then 8 else 5 := hw
                          subst hw
                          rw [show (if nf (8 * k + 0) = 2 then 8 else 5 : Int32) = 8 from if_pos hw2]
                          refine lv_icmp_ge (tgt := 73) hx hb d_Bm_link_54 (by decide) (fun c_41 => ?_) (fun c_41 => ?_)
                          · -- taken
                            exact absurd c_41 (by decide)
                          · -- not taken
                            refine lv_aload_n hx hb d_Bm_link_57 rfl (lv_at hl 1 rfl) ?_
                            refine lv_aload_n hx hb d_Bm_link_58 rfl (lv_at hl 1 rfl) ?_
                            refine lv_iload_n hx hb d_Bm_link_59 rfl (lv_at hl 2 rfl) ?_
                            refine lv_iload_n hx hb d_Bm_link_60 rfl (lv_at hl 0 rfl) ?_
                            have hPc := hP.sub (ws' := (mo_ws m0 z0 z1 z2 z3 z4 z5 z6 z7 z8 z9 z10 a0 a1 a2 a3 a4 a5 a6 a7 a8 a9 b0 b1 56 b2 b3 b4 b5 ++ (jw_ws a0 cJ 1232 nf))) [0, 7] rfl
                            have hKc := hK.sub (tys' := [(cJ, .long), (cI, .int)]) [0, 1] rfl
                            refine va_calll (va_runV (As := [.int (nI k), .int 3]) (rest := [.ref m0]) ⟨hx, hb, hml, hown, hts⟩ (c_Bm_at l H dC dI cJ cI m0 z0 z1 z2 z3 z4 z5 z6 z7 z8 z9 z10 a0 a1 a2 a3 a4 a5 a6 a7 a8 a9 b0 b1 56 b2 b3 b4 b5 nf k 3 hPc (by omega)) (cwV 2 hts (gw_V gk_1102 gk_1104 gp_42 gk_7 gk_1105) rfl rfl rfl (by decide +kernel) ⟨Nat.le_of_ble_eq_true rfl, Nat.le_of_ble_eq_true rfl⟩) ⟨fun a U g mk q => ⟨q.1, q.2.1, va_K.moved (u := U) (U := U.calling g mk a) (Vm.Alike.refl U.vm) q.2.2⟩, va_recv hK hP (ci := 8) (q0 := 0) rfl rfl, fun U hU hW => ⟨rfl, hU, va_K.moved hW.alike hKc⟩⟩ rfl rfl hl.1 rfl (lv_room (Nat.le_of_ble_eq_true rfl)) d_Bm_link_61 ⟨Nat.le_of_ble_eq_true rfl, Nat.le_of_ble_eq_true rfl⟩) hS (fun q _ h => h.elim) (fun q h => h.elim) (fun r61 u9 t9 H1 locs ht hvm hw hB hz1 hk1 hS => ?_)
                            obtain rfl : H = H1 := hB.symm.trans ht
                            have hw : r61 = nf (8 * k + 3) := hw
                            subst hw
                            have hPc := hP.sub (ws' := (mo_ws m0 z0 z1 z2 z3 z4 z5 z6 z7 z8 z9 z10 a0 a1 a2 a3 a4 a5 a6 a7 a8 a9 b0 b1 56 b2 b3 b4 b5 ++ (iw_ws a7 cI 256 g_38))) [0, 1] rfl
                            have hDc := hD.sub (ws' := (mo_ws m0 z0 z1 z2 z3 z4 z5 z6 z7 z8 z9 z10 a0 a1 a2 a3 a4 a5 a6 a7 a8 a9 b0 b1 56 b2 b3 b4 b5 ++ (iw_ws a7 cI 256 g_38))) [0, 1] (by decide) rfl
                            have hKc := hK.sub (tys' := [(cJ, .long), (cI, .int)]) [0, 1] rfl
                            have hFc := va_free (wc := (mo_ws m0 z0 z1 z2 z3 z4 z5 z6 z7 z8 z9 z10 a0 a1 a2 a3 a4 a5 a6 a7 a8 a9 b0 b1 56 b2 b3 b4 b5 ++ (iw_ws a7 cI 256 g_38))) hD hS hA [0, 1] rfl
                            refine va_callv (va_runV (As := [.long (nf (8 * k + 3))]) (rest := []) ⟨hx, hb, hml, hown, hts⟩ (c_Bm_eight l dC dI cJ cI H.size m0 z0 z1 z2 z3 z4 z5 z6 z7 z8 z9 z10 a0 a1 a2 a3 a4 a5 a6 a7 a8 a9 b0 b1 56 b2 b3 b4 b5 g_38 (nf (8 * k + 3)) (by omega)) (cwV 1 hts (gw_V gk_1070 gk_1072 gp_36 gk_7 gk_1073) rfl rfl rfl (by decide +kernel) ⟨Nat.le_of_ble_eq_true rfl, Nat.le_of_ble_eq_true rfl⟩) ⟨fun a U g mk q => by obtain ⟨q0, q1, qP, qK, qD⟩ := q; exact ⟨q0, q1, qP, va_K.moved (u := U) (U := U.calling g mk a) (Vm.Alike.refl U.vm) qK, qD⟩, va_recv hK hP (ci := 8) (q0 := 0) rfl rfl, fun U hU hW => ⟨rfl, by rw [hU], by rw [hU]; exact hPc, va_K.moved hW.alike hKc, hDc.weaken (fun _ _ _ _ => trivial)⟩⟩ rfl rfl hl.1 rfl (lv_room (Nat.le_of_ble_eq_true rfl)) d_Bm_link_64 ⟨Nat.le_of_ble_eq_true rfl, Nat.le_of_ble_eq_true rfl⟩) hS (fun q _ h => hFc q h) hFc (fun u9 t9 H1 locs ht hvm hw hB hz1 hk1 hS => ?_)
                            obtain ⟨hP1, hK1, hD1⟩ := hB
                            rw [ht] at hP1
                            obtain ⟨hP, hD⟩ := va_join (wr := [(a8, .inl (cI, 64, .inl sc)), (a9, .inl (cI, 8, .inl st)), (b0, .inl (cI, 8, .inl kS)), (b1, .inl (cI, 64, .inl kR)), (a2, .inl (cJ, 4, .inr (.inl tf))), (a0, .inl (cJ, 1232, .inr (.inl nf))), (a1, .inl (cJ, 616, .inr (.inl cf)))]) (w1 := [(m0, .inr (8, [.int z0, .int z1, .int z2, .int z3, .long z4, .long z5, .long z6, .long z7, .long z8, .long z9, .int z10, .ref a0, .ref a1, .ref a2, .ref a3, .ref a4, .ref a5, .ref a6, .ref a7, .ref a8, .ref a9, .ref b0, .ref b1, .int (nI 64), .ref b2, .ref b3, .ref b4, .ref b5])), (a7, .inl (cI, 256, .inl (o8 g_38 56 (nf (8 * k + 3)))))]) hP hD [0, 1] [2, 3, 4, 5, 6, 7, 8] rfl rfl (by decide) (by decide) hk1 hFc hP1 hD1
                            have hP := hP.sub (ws' := [(m0, .inr (8, [.int z0, .int z1, .int z2, .int z3, .long z4, .long z5, .long z6, .long z7, .long z8, .long z9, .int z10, .ref a0, .ref a1, .ref a2, .ref a3, .ref a4, .ref a5, .ref a6, .ref a7, .ref a8, .ref a9, .ref b0, .ref b1, .int (nI 64), .ref b2, .ref b3, .ref b4, .ref b5])), (a7, .inl (cI, 256, .inl (o8 g_38 56 (nf (8 * k + 3))))), (a8, .inl (cI, 64, .inl sc)), (a9, .inl (cI, 8, .inl st)), (b0, .inl (cI, 8, .inl kS)), (b1, .inl (cI, 64, .inl kR)), (a2, .inl (cJ, 4, .inr (.inl tf))), (a0, .inl (cJ, 1232, .inr (.inl nf))), (a1, .inl (cJ, 616, .inr (.inl cf)))]) [7, 8, 0, 1, 2, 3, 4, 5, 6] rfl
                            have hD := hD.sub (ws' := [(m0, .inr (8, [.int z0, .int z1, .int z2, .int z3, .long z4, .long z5, .long z6, .long z7, .long z8, .long z9, .int z10, .ref a0, .ref a1, .ref a2, .ref a3, .ref a4, .ref a5, .ref a6, .ref a7, .ref a8, .ref a9, .ref b0, .ref b1, .int (nI 64), .ref b2, .ref b3, .ref b4, .ref b5])), (a7, .inl (cI, 256, .inl (o8 g_38 56 (nf (8 * k + 3))))), (a8, .inl (cI, 64, .inl sc)), (a9, .inl (cI, 8, .inl st)), (b0, .inl (cI, 8, .inl kS)), (b1, .inl (cI, 64, .inl kR)), (a2, .inl (cJ, 4, .inr (.inl tf))), (a0, .inl (cJ, 1232, .inr (.inl nf))), (a1, .inl (cJ, 616, .inr (.inl cf)))]) [7, 8, 0, 1, 2, 3, 4, 5, 6] (by decide) rfl
                            generalize H1 = H at hP hS ⊢
                            obtain ⟨g_43, eg_43⟩ : ∃ f : Nat → Int32, f = o8 g_38 56 (nf (8 * k + 3)) := ⟨_, rfl⟩
                            rw [← eg_43] at hP hD
                            have hm_44 : bok g_43 8 [cf (4 * (k - 1) + 0), cf (4 * (k - 1) + 1), cf (4 * (k - 1) + 2), cf (4 * (k - 1) + 3), nf (8 * k + 0), nf (8 * k + 1), nf (8 * k + 2), nf (8 * k + 3)] := bok_add _ hm_39 rfl eg_43
                            obtain ⟨i_45, ei_45⟩ : ∃ y : Int32, y = 3 + 1 := ⟨_, rfl⟩
                            refine lv_iinc (v := i_45) (lv' := [(2, .int i_45), (0, .ref m0), (1, .int (nI k))]) hx hb d_Bm_link_67 hl (k := 0) rfl (by rw [ei_45]; rfl) (by decide) rfl (fun ls hl => ?_)
                            obtain rfl : i_45 = 4 := by rw [ei_45]; exact by decide
                            refine lv_goto (tgt := 44) hx hb d_Bm_link_70 (by decide) ?_
                            refine lv_iload_n hx hb d_Bm_link_44 rfl (lv_at hl 0 rfl) ?_
                            refine lv_aload_n hx hb d_Bm_link_45 rfl (lv_at hl 1 rfl) ?_
                            refine lv_iload_n hx hb d_Bm_link_46 rfl (lv_at hl 2 rfl) ?_
                            refine lv_iconst (v := 0) hx hb d_Bm_link_47 (by decide) ?_
                            have hPc := hP.sub (ws' := (mo_ws m0 z0 z1 z2 z3 z4 z5 z6 z7 z8 z9 z10 a0 a1 a2 a3 a4 a5 a6 a7 a8 a9 b0 b1 64 b2 b3 b4 b5 ++ (jw_ws a0 cJ 1232 nf))) [0, 7] rfl
                            have hKc := hK.sub (tys' := [(cJ, .long), (cI, .int)]) [0, 1] rfl
                            refine va_calll (va_runV (As := [.int (nI k), .int 0]) (rest := [.int 4]) ⟨hx, hb, hml, hown, hts⟩ (c_Bm_at l H dC dI cJ cI m0 z0 z1 z2 z3 z4 z5 z6 z7 z8 z9 z10 a0 a1 a2 a3 a4 a5 a6 a7 a8 a9 b0 b1 64 b2 b3 b4 b5 nf k 0 hPc (by omega)) (cwV 2 hts (gw_V gk_1102 gk_1104 gp_42 gk_7 gk_1105) rfl rfl rfl (by decide +kernel) ⟨Nat.le_of_ble_eq_true rfl, Nat.le_of_ble_eq_true rfl⟩) ⟨fun a U g mk q => ⟨q.1, q.2.1, va_K.moved (u := U) (U := U.calling g mk a) (Vm.Alike.refl U.vm) q.2.2⟩, va_recv hK hP (ci := 8) (q0 := 0) rfl rfl, fun U hU hW => ⟨rfl, hU, va_K.moved hW.alike hKc⟩⟩ rfl rfl hl.1 rfl (lv_room (Nat.le_of_ble_eq_true rfl)) d_Bm_link_48 ⟨Nat.le_of_ble_eq_true rfl, Nat.le_of_ble_eq_true rfl⟩) hS (fun q _ h => h.elim) (fun q h => h.elim) (fun r48 u9 t9 H1 locs ht hvm hw hB hz1 hk1 hS => ?_)
                            obtain rfl : H = H1 := hB.symm.trans ht
                            have hw : r48 = nf (8 * k + 0) := hw
                            subst hw
                            refine va_calli (va_runS (As := [.long (nf (8 * k + 0))]) (rest := [.int 4]) ⟨hx, hb, hml, hown, hts⟩ (c_Bm_many l H (nf (8 * k + 0))) (cwS 1 hts (gw_S gk_1106 gk_1107 gk_7 gk_1108) rfl rfl rfl (by decide +kernel) ⟨Nat.le_of_ble_eq_true rfl, Nat.le_of_ble_eq_true rfl⟩) ⟨fun a U g mk q => q, fun U hU hW => ⟨rfl, hU⟩⟩ rfl rfl hl.1 rfl (lv_room (Nat.le_of_ble_eq_true rfl)) d_Bm_link_51 ⟨Nat.le_of_ble_eq_true rfl, Nat.le_of_ble_eq_true rfl⟩) hS (fun q _ h => h.elim) (fun q h => h.elim) (fun r51 u9 t9 H1 locs ht hvm hw hB hz1 hk1 hS => ?_)
                            obtain rfl : H = H1 := hB.symm.trans ht
                            have hw : r51 = if nf (8 * k + 0) = 2 then 8 else 5 := hw
                            subst hw
                            rw [show (if nf (8 * k + 0) = 2 then 8 else 5 : Int32) = 8 from if_pos hw2]
                            refine lv_icmp_ge (tgt := 73) hx hb d_Bm_link_54 (by decide) (fun c_46 => ?_) (fun c_46 => ?_)
                            · -- taken
                              exact absurd c_46 (by decide)
                            · -- not taken
                              refine lv_aload_n hx hb d_Bm_link_57 rfl (lv_at hl 1 rfl) ?_
                              refine lv_aload_n hx hb d_Bm_link_58 rfl (lv_at hl 1 rfl) ?_
                              refine lv_iload_n hx hb d_Bm_link_59 rfl (lv_at hl 2 rfl) ?_
                              refine lv_iload_n hx hb d_Bm_link_60 rfl (lv_at hl 0 rfl) ?_
                              have hPc := hP.sub (ws' := (mo_ws m0 z0 z1 z2 z3 z4 z5 z6 z7 z8 z9 z10 a0 a1 a2 a3 a4 a5 a6 a7 a8 a9 b0 b1 64 b2 b3 b4 b5 ++ (jw_ws a0 cJ 1232 nf))) [0, 7] rfl
                              have hKc := hK.sub (tys' := [(cJ, .long), (cI, .int)]) [0, 1] rfl
                              refine va_calll (va_runV (As := [.int (nI k), .int 4]) (rest := [.ref m0]) ⟨hx, hb, hml, hown, hts⟩ (c_Bm_at l H dC dI cJ cI m0 z0 z1 z2 z3 z4 z5 z6 z7 z8 z9 z10 a0 a1 a2 a3 a4 a5 a6 a7 a8 a9 b0 b1 64 b2 b3 b4 b5 nf k 4 hPc (by omega)) (cwV 2 hts (gw_V gk_1102 gk_1104 gp_42 gk_7 gk_1105) rfl rfl rfl (by decide +kernel) ⟨Nat.le_of_ble_eq_true rfl, Nat.le_of_ble_eq_true rfl⟩) ⟨fun a U g mk q => ⟨q.1, q.2.1, va_K.moved (u := U) (U := U.calling g mk a) (Vm.Alike.refl U.vm) q.2.2⟩, va_recv hK hP (ci := 8) (q0 := 0) rfl rfl, fun U hU hW => ⟨rfl, hU, va_K.moved hW.alike hKc⟩⟩ rfl rfl hl.1 rfl (lv_room (Nat.le_of_ble_eq_true rfl)) d_Bm_link_61 ⟨Nat.le_of_ble_eq_true rfl, Nat.le_of_ble_eq_true rfl⟩) hS (fun q _ h => h.elim) (fun q h => h.elim) (fun r61 u9 t9 H1 locs ht hvm hw hB hz1 hk1 hS => ?_)
                              obtain rfl : H = H1 := hB.symm.trans ht
                              have hw : r61 = nf (8 * k + 4) := hw
                              subst hw
                              have hPc := hP.sub (ws' := (mo_ws m0 z0 z1 z2 z3 z4 z5 z6 z7 z8 z9 z10 a0 a1 a2 a3 a4 a5 a6 a7 a8 a9 b0 b1 64 b2 b3 b4 b5 ++ (iw_ws a7 cI 256 g_43))) [0, 1] rfl
                              have hDc := hD.sub (ws' := (mo_ws m0 z0 z1 z2 z3 z4 z5 z6 z7 z8 z9 z10 a0 a1 a2 a3 a4 a5 a6 a7 a8 a9 b0 b1 64 b2 b3 b4 b5 ++ (iw_ws a7 cI 256 g_43))) [0, 1] (by decide) rfl
                              have hKc := hK.sub (tys' := [(cJ, .long), (cI, .int)]) [0, 1] rfl
                              have hFc := va_free (wc := (mo_ws m0 z0 z1 z2 z3 z4 z5 z6 z7 z8 z9 z10 a0 a1 a2 a3 a4 a5 a6 a7 a8 a9 b0 b1 64 b2 b3 b4 b5 ++ (iw_ws a7 cI 256 g_43))) hD hS hA [0, 1] rfl
                              refine va_callv (va_runV (As := [.long (nf (8 * k + 4))]) (rest := []) ⟨hx, hb, hml, hown, hts⟩ (c_Bm_eight l dC dI cJ cI H.size m0 z0 z1 z2 z3 z4 z5 z6 z7 z8 z9 z10 a0 a1 a2 a3 a4 a5 a6 a7 a8 a9 b0 b1 64 b2 b3 b4 b5 g_43 (nf (8 * k + 4)) (by omega)) (cwV 1 hts (gw_V gk_1070 gk_1072 gp_36 gk_7 gk_1073) rfl rfl rfl (by decide +kernel) ⟨Nat.le_of_ble_eq_true rfl, Nat.le_of_ble_eq_true rfl⟩) ⟨fun a U g mk q => by obtain ⟨q0, q1, qP, qK, qD⟩ := q; exact ⟨q0, q1, qP, va_K.moved (u := U) (U := U.calling g mk a) (Vm.Alike.refl U.vm) qK, qD⟩, va_recv hK hP (ci := 8) (q0 := 0) rfl rfl, fun U hU hW => ⟨rfl, by rw [hU], by rw [hU]; exact hPc, va_K.moved hW.alike hKc, hDc.weaken (fun _ _ _ _ => trivial)⟩⟩ rfl rfl hl.1 rfl (lv_room (Nat.le_of_ble_eq_true rfl)) d_Bm_link_64 ⟨Nat.le_of_ble_eq_true rfl, Nat.le_of_ble_eq_true rfl⟩) hS (fun q _ h => hFc q h) hFc (fun u9 t9 H1 locs ht hvm hw hB hz1 hk1 hS => ?_)
                              obtain ⟨hP1, hK1, hD1⟩ := hB
                              rw [ht] at hP1
                              obtain ⟨hP, hD⟩ := va_join (wr := [(a8, .inl (cI, 64, .inl sc)), (a9, .inl (cI, 8, .inl st)), (b0, .inl (cI, 8, .inl kS)), (b1, .inl (cI, 64, .inl kR)), (a2, .inl (cJ, 4, .inr (.inl tf))), (a0, .inl (cJ, 1232, .inr (.inl nf))), (a1, .inl (cJ, 616, .inr (.inl cf)))]) (w1 := [(m0, .inr (8, [.int z0, .int z1, .int z2, .int z3, .long z4, .long z5, .long z6, .long z7, .long z8, .long z9, .int z10, .ref a0, .ref a1, .ref a2, .ref a3, .ref a4, .ref a5, .ref a6, .ref a7, .ref a8, .ref a9, .ref b0, .ref b1, .int (nI 72), .ref b2, .ref b3, .ref b4, .ref b5])), (a7, .inl (cI, 256, .inl (o8 g_43 64 (nf (8 * k + 4)))))]) hP hD [0, 1] [2, 3, 4, 5, 6, 7, 8] rfl rfl (by decide) (by decide) hk1 hFc hP1 hD1
                              have hP := hP.sub (ws' := [(m0, .inr (8, [.int z0, .int z1, .int z2, .int z3, .long z4, .long z5, .long z6, .long z7, .long z8, .long z9, .int z10, .ref a0, .ref a1, .ref a2, .ref a3, .ref a4, .ref a5, .ref a6, .ref a7, .ref a8, .ref a9, .ref b0, .ref b1, .int (nI 72), .ref b2, .ref b3, .ref b4, .ref b5])), (a7, .inl (cI, 256, .inl (o8 g_43 64 (nf (8 * k + 4))))), (a8, .inl (cI, 64, .inl sc)), (a9, .inl (cI, 8, .inl st)), (b0, .inl (cI, 8, .inl kS)), (b1, .inl (cI, 64, .inl kR)), (a2, .inl (cJ, 4, .inr (.inl tf))), (a0, .inl (cJ, 1232, .inr (.inl nf))), (a1, .inl (cJ, 616, .inr (.inl cf)))]) [7, 8, 0, 1, 2, 3, 4, 5, 6] rfl
                              have hD := hD.sub (ws' := [(m0, .inr (8, [.int z0, .int z1, .int z2, .int z3, .long z4, .long z5, .long z6, .long z7, .long z8, .long z9, .int z10, .ref a0, .ref a1, .ref a2, .ref a3, .ref a4, .ref a5, .ref a6, .ref a7, .ref a8, .ref a9, .ref b0, .ref b1, .int (nI 72), .ref b2, .ref b3, .ref b4, .ref b5])), (a7, .inl (cI, 256, .inl (o8 g_43 64 (nf (8 * k + 4))))), (a8, .inl (cI, 64, .inl sc)), (a9, .inl (cI, 8, .inl st)), (b0, .inl (cI, 8, .inl kS)), (b1, .inl (cI, 64, .inl kR)), (a2, .inl (cJ, 4, .inr (.inl tf))), (a0, .inl (cJ, 1232, .inr (.inl nf))), (a1, .inl (cJ, 616, .inr (.inl cf)))]) [7, 8, 0, 1, 2, 3, 4, 5, 6] (by decide) rfl
                              generalize H1 = H at hP hS ⊢
                              obtain ⟨g_48, eg_48⟩ : ∃ f : Nat → Int32, f = o8 g_43 64 (nf (8 * k + 4)) := ⟨_, rfl⟩
                              rw [← eg_48] at hP hD
                              have hm_49 : bok g_48 9 [cf (4 * (k - 1) + 0), cf (4 * (k - 1) + 1), cf (4 * (k - 1) + 2), cf (4 * (k - 1) + 3), nf (8 * k + 0), nf (8 * k + 1), nf (8 * k + 2), nf (8 * k + 3), nf (8 * k + 4)] := bok_add _ hm_44 rfl eg_48
                              obtain ⟨i_50, ei_50⟩ : ∃ y : Int32, y = 4 + 1 := ⟨_, rfl⟩
                              refine lv_iinc (v := i_50) (lv' := [(2, .int i_50), (0, .ref m0), (1, .int (nI k))]) hx hb d_Bm_link_67 hl (k := 0) rfl (by rw [ei_50]; rfl) (by decide) rfl (fun ls hl => ?_)
                              obtain rfl : i_50 = 5 := by rw [ei_50]; exact by decide
                              refine lv_goto (tgt := 44) hx hb d_Bm_link_70 (by decide) ?_
                              refine lv_iload_n hx hb d_Bm_link_44 rfl (lv_at hl 0 rfl) ?_
                              refine lv_aload_n hx hb d_Bm_link_45 rfl (lv_at hl 1 rfl) ?_
                              refine lv_iload_n hx hb d_Bm_link_46 rfl (lv_at hl 2 rfl) ?_
                              refine lv_iconst (v := 0) hx hb d_Bm_link_47 (by decide) ?_
                              have hPc := hP.sub (ws' := (mo_ws m0 z0 z1 z2 z3 z4 z5 z6 z7 z8 z9 z10 a0 a1 a2 a3 a4 a5 a6 a7 a8 a9 b0 b1 72 b2 b3 b4 b5 ++ (jw_ws a0 cJ 1232 nf))) [0, 7] rfl
                              have hKc := hK.sub (tys' := [(cJ, .long), (cI, .int)]) [0, 1] rfl
                              refine va_calll (va_runV (As := [.int (nI k), .int 0]) (rest := [.int 5]) ⟨hx, hb, hml, hown, hts⟩ (c_Bm_at l H dC dI cJ cI m0 z0 z1 z2 z3 z4 z5 z6 z7 z8 z9 z10 a0 a1 a2 a3 a4 a5 a6 a7 a8 a9 b0 b1 72 b2 b3 b4 b5 nf k 0 hPc (by omega)) (cwV 2 hts (gw_V gk_1102 gk_1104 gp_42 gk_7 gk_1105) rfl rfl rfl (by decide +kernel) ⟨Nat.le_of_ble_eq_true rfl, Nat.le_of_ble_eq_true rfl⟩) ⟨fun a U g mk q => ⟨q.1, q.2.1, va_K.moved (u := U) (U := U.calling g mk a) (Vm.Alike.refl U.vm) q.2.2⟩, va_recv hK hP (ci := 8) (q0 := 0) rfl rfl, fun U hU hW => ⟨rfl, hU, va_K.moved hW.alike hKc⟩⟩ rfl rfl hl.1 rfl (lv_room (Nat.le_of_ble_eq_true rfl)) d_Bm_link_48 ⟨Nat.le_of_ble_eq_true rfl, Nat.le_of_ble_eq_true rfl⟩) hS (fun q _ h => h.elim) (fun q h => h.elim) (fun r48 u9 t9 H1 locs ht hvm hw hB hz1 hk1 hS => ?_)
                              obtain rfl : H = H1 := hB.symm.trans ht
                              have hw : r48 = nf (8 * k + 0) := hw
                              subst hw
                              refine va_calli (va_runS (As := [.long (nf (8 * k + 0))]) (rest := [.int 5]) ⟨hx, hb, hml, hown, hts⟩ (c_Bm_many l H (nf (8 * k + 0))) (cwS 1 hts (gw_S gk_1106 gk_1107 gk_7 gk_1108) rfl rfl rfl (by decide +kernel) ⟨Nat.le_of_ble_eq_true rfl, Nat.le_of_ble_eq_true rfl⟩) ⟨fun a U g mk q => q, fun U hU hW => ⟨rfl, hU⟩⟩ rfl rfl hl.1 rfl (lv_room (Nat.le_of_ble_eq_true rfl)) d_Bm_link_51 ⟨Nat.le_of_ble_eq_true rfl, Nat.le_of_ble_eq_true rfl⟩) hS (fun q _ h => h.elim) (fun q h => h.elim) (fun r51 u9 t9 H1 locs ht hvm hw hB hz1 hk1 hS => ?_)
                              obtain rfl : H = H1 := hB.symm.trans ht
                              have hw : r51 = if nf (8 * k + 0) = 2 then 8 else 5 := hw
                              subst hw
                              rw [show (if nf (8 * k + 0) = 2 then 8 else 5 : Int32) = 8 from if_pos hw2]
                              refine lv_icmp_ge (tgt := 73) hx hb d_Bm_link_54 (by decide) (fun c_51 => ?_) (fun c_51 => ?_)
                              · -- taken
                                exact absurd c_51 (by decide)
                              · -- not taken
                                refine lv_aload_n hx hb d_Bm_link_57 rfl (lv_at hl 1 rfl) ?_
                                refine lv_aload_n hx hb d_Bm_link_58 rfl (lv_at hl 1 rfl) ?_
                                refine lv_iload_n hx hb d_Bm_link_59 rfl (lv_at hl 2 rfl) ?_
                                refine lv_iload_n hx hb d_Bm_link_60 rfl (lv_at hl 0 rfl) ?_
                                have hPc := hP.sub (ws' := (mo_ws m0 z0 z1 z2 z3 z4 z5 z6 z7 z8 z9 z10 a0 a1 a2 a3 a4 a5 a6 a7 a8 a9 b0 b1 72 b2 b3 b4 b5 ++ (jw_ws a0 cJ 1232 nf))) [0, 7] rfl
                                have hKc := hK.sub (tys' := [(cJ, .long), (cI, .int)]) [0, 1] rfl
                                refine va_calll (va_runV (As := [.int (nI k), .int 5]) (rest := [.ref m0]) ⟨hx, hb, hml, hown, hts⟩ (c_Bm_at l H dC dI cJ cI m0 z0 z1 z2 z3 z4 z5 z6 z7 z8 z9 z10 a0 a1 a2 a3 a4 a5 a6 a7 a8 a9 b0 b1 72 b2 b3 b4 b5 nf k 5 hPc (by omega)) (cwV 2 hts (gw_V gk_1102 gk_1104 gp_42 gk_7 gk_1105) rfl rfl rfl (by decide +kernel) ⟨Nat.le_of_ble_eq_true rfl, Nat.le_of_ble_eq_true rfl⟩) ⟨fun a U g mk q => ⟨q.1, q.2.1, va_K.moved (u := U) (U := U.calling g mk a) (Vm.Alike.refl U.vm) q.2.2⟩, va_recv hK hP (ci := 8) (q0 := 0) rfl rfl, fun U hU hW => ⟨rfl, hU, va_K.moved hW.alike hKc⟩⟩ rfl rfl hl.1 rfl (lv_room (Nat.le_of_ble_eq_true rfl)) d_Bm_link_61 ⟨Nat.le_of_ble_eq_true rfl, Nat.le_of_ble_eq_true rfl⟩) hS (fun q _ h => h.elim) (fun q h => h.elim) (fun r61 u9 t9 H1 locs ht hvm hw hB hz1 hk1 hS => ?_)
                                obtain rfl : H = H1 := hB.symm.trans ht
                                have hw : r61 = nf (8 * k + 5) := hw
                                subst hw
                                have hPc := hP.sub (ws' := (mo_ws m0 z0 z1 z2 z3 z4 z5 z6 z7 z8 z9 z10 a0 a1 a2 a3 a4 a5 a6 a7 a8 a9 b0 b1 72 b2 b3 b4 b5 ++ (iw_ws a7 cI 256 g_48))) [0, 1] rfl
                                have hDc := hD.sub (ws' := (mo_ws m0 z0 z1 z2 z3 z4 z5 z6 z7 z8 z9 z10 a0 a1 a2 a3 a4 a5 a6 a7 a8 a9 b0 b1 72 b2 b3 b4 b5 ++ (iw_ws a7 cI 256 g_48))) [0, 1] (by decide) rfl
                                have hKc := hK.sub (tys' := [(cJ, .long), (cI, .int)]) [0, 1] rfl
                                have hFc := va_free (wc := (mo_ws m0 z0 z1 z2 z3 z4 z5 z6 z7 z8 z9 z10 a0 a1 a2 a3 a4 a5 a6 a7 a8 a9 b0 b1 72 b2 b3 b4 b5 ++ (iw_ws a7 cI 256 g_48))) hD hS hA [0, 1] rfl
                                refine va_callv (va_runV (As := [.long (nf (8 * k + 5))]) (rest := []) ⟨hx, hb, hml, hown, hts⟩ (c_Bm_eight l dC dI cJ cI H.size m0 z0 z1 z2 z3 z4 z5 z6 z7 z8 z9 z10 a0 a1 a2 a3 a4 a5 a6 a7 a8 a9 b0 b1 72 b2 b3 b4 b5 g_48 (nf (8 * k + 5)) (by omega)) (cwV 1 hts (gw_V gk_1070 gk_1072 gp_36 gk_7 gk_1073) rfl rfl rfl (by decide +kernel) ⟨Nat.le_of_ble_eq_true rfl, Nat.le_of_ble_eq_true rfl⟩) ⟨fun a U g mk q => by obtain ⟨q0, q1, qP, qK, qD⟩ := q; exact ⟨q0, q1, qP, va_K.moved (u := U) (U := U.calling g mk a) (Vm.Alike.refl U.vm) qK, qD⟩, va_recv hK hP (ci := 8) (q0 := 0) rfl rfl, fun U hU hW => ⟨rfl, by rw [hU], by rw [hU]; exact hPc, va_K.moved hW.alike hKc, hDc.weaken (fun _ _ _ _ => trivial)⟩⟩ rfl rfl hl.1 rfl (lv_room (Nat.le_of_ble_eq_true rfl)) d_Bm_link_64 ⟨Nat.le_of_ble_eq_true rfl, Nat.le_of_ble_eq_true rfl⟩) hS (fun q _ h => hFc q h) hFc (fun u9 t9 H1 locs ht hvm hw hB hz1 hk1 hS => ?_)
                                obtain ⟨hP1, hK1, hD1⟩ := hB
                                rw [ht] at hP1
                                obtain ⟨hP, hD⟩ := va_join (wr := [(a8, .inl (cI, 64, .inl sc)), (a9, .inl (cI, 8, .inl st)), (b0, .inl (cI, 8, .inl kS)), (b1, .inl (cI, 64, .inl kR)), (a2, .inl (cJ, 4, .inr (.inl tf))), (a0, .inl (cJ, 1232, .inr (.inl nf))), (a1, .inl (cJ, 616, .inr (.inl cf)))]) (w1 := [(m0, .inr (8, [.int z0, .int z1, .int z2, .int z3, .long z4, .long z5, .long z6, .long z7, .long z8, .long z9, .int z10, .ref a0, .ref a1, .ref a2, .ref a3, .ref a4, .ref a5, .ref a6, .ref a7, .ref a8, .ref a9, .ref b0, .ref b1, .int (nI 80), .ref b2, .ref b3, .ref b4, .ref b5])), (a7, .inl (cI, 256, .inl (o8 g_48 72 (nf (8 * k + 5)))))]) hP hD [0, 1] [2, 3, 4, 5, 6, 7, 8] rfl rfl (by decide) (by decide) hk1 hFc hP1 hD1
                                have hP := hP.sub (ws' := [(m0, .inr (8, [.int z0, .int z1, .int z2, .int z3, .long z4, .long z5, .long z6, .long z7, .long z8, .long z9, .int z10, .ref a0, .ref a1, .ref a2, .ref a3, .ref a4, .ref a5, .ref a6, .ref a7, .ref a8, .ref a9, .ref b0, .ref b1, .int (nI 80), .ref b2, .ref b3, .ref b4, .ref b5])), (a7, .inl (cI, 256, .inl (o8 g_48 72 (nf (8 * k + 5))))), (a8, .inl (cI, 64, .inl sc)), (a9, .inl (cI, 8, .inl st)), (b0, .inl (cI, 8, .inl kS)), (b1, .inl (cI, 64, .inl kR)), (a2, .inl (cJ, 4, .inr (.inl tf))), (a0, .inl (cJ, 1232, .inr (.inl nf))), (a1, .inl (cJ, 616, .inr (.inl cf)))]) [7, 8, 0, 1, 2, 3, 4, 5, 6] rfl
                                have hD := hD.sub (ws' := [(m0, .inr (8, [.int z0, .int z1, .int z2, .int z3, .long z4, .long z5, .long z6, .long z7, .long z8, .long z9, .int z10, .ref a0, .ref a1, .ref a2, .ref a3, .ref a4, .ref a5, .ref a6, .ref a7, .ref a8, .ref a9, .ref b0, .ref b1, .int (nI 80), .ref b2, .ref b3, .ref b4, .ref b5])), (a7, .inl (cI, 256, .inl (o8 g_48 72 (nf (8 * k + 5))))), (a8, .inl (cI, 64, .inl sc)), (a9, .inl (cI, 8, .inl st)), (b0, .inl (cI, 8, .inl kS)), (b1, .inl (cI, 64, .inl kR)), (a2, .inl (cJ, 4, .inr (.inl tf))), (a0, .inl (cJ, 1232, .inr (.inl nf))), (a1, .inl (cJ, 616, .inr (.inl cf)))]) [7, 8, 0, 1, 2, 3, 4, 5, 6] (by decide) rfl
                                generalize H1 = H at hP hS ⊢
                                obtain ⟨g_53, eg_53⟩ : ∃ f : Nat → Int32, f = o8 g_48 72 (nf (8 * k + 5)) := ⟨_, rfl⟩
                                rw [← eg_53] at hP hD
                                have hm_54 : bok g_53 10 [cf (4 * (k - 1) + 0), cf (4 * (k - 1) + 1), cf (4 * (k - 1) + 2), cf (4 * (k - 1) + 3), nf (8 * k + 0), nf (8 * k + 1), nf (8 * k + 2), nf (8 * k + 3), nf (8 * k + 4), nf (8 * k + 5)] := bok_add _ hm_49 rfl eg_53
                                obtain ⟨i_55, ei_55⟩ : ∃ y : Int32, y = 5 + 1 := ⟨_, rfl⟩
                                refine lv_iinc (v := i_55) (lv' := [(2, .int i_55), (0, .ref m0), (1, .int (nI k))]) hx hb d_Bm_link_67 hl (k := 0) rfl (by rw [ei_55]; rfl) (by decide) rfl (fun ls hl => ?_)
                                obtain rfl : i_55 = 6 := by rw [ei_55]; exact by decide
                                refine lv_goto (tgt := 44) hx hb d_Bm_link_70 (by decide) ?_
                                refine lv_iload_n hx hb d_Bm_link_44 rfl (lv_at hl 0 rfl) ?_
                                refine lv_aload_n hx hb d_Bm_link_45 rfl (lv_at hl 1 rfl) ?_
                                refine lv_iload_n hx hb d_Bm_link_46 rfl (lv_at hl 2 rfl) ?_
                                refine lv_iconst (v := 0) hx hb d_Bm_link_47 (by decide) ?_
                                have hPc := hP.sub (ws' := (mo_ws m0 z0 z1 z2 z3 z4 z5 z6 z7 z8 z9 z10 a0 a1 a2 a3 a4 a5 a6 a7 a8 a9 b0 b1 80 b2 b3 b4 b5 ++ (jw_ws a0 cJ 1232 nf))) [0, 7] rfl
                                have hKc := hK.sub (tys' := [(cJ, .long), (cI, .int)]) [0, 1] rfl
                                refine va_calll (va_runV (As := [.int (nI k), .int 0]) (rest := [.int 6]) ⟨hx, hb, hml, hown, hts⟩ (c_Bm_at l H dC dI cJ cI m0 z0 z1 z2 z3 z4 z5 z6 z7 z8 z9 z10 a0 a1 a2 a3 a4 a5 a6 a7 a8 a9 b0 b1 80 b2 b3 b4 b5 nf k 0 hPc (by omega)) (cwV 2 hts (gw_V gk_1102 gk_1104 gp_42 gk_7 gk_1105) rfl rfl rfl (by decide +kernel) ⟨Nat.le_of_ble_eq_true rfl, Nat.le_of_ble_eq_true rfl⟩) ⟨fun a U g mk q => ⟨q.1, q.2.1, va_K.moved (u := U) (U := U.calling g mk a) (Vm.Alike.refl U.vm) q.2.2⟩, va_recv hK hP (ci := 8) (q0 := 0) rfl rfl, fun U hU hW => ⟨rfl, hU, va_K.moved hW.alike hKc⟩⟩ rfl rfl hl.1 rfl (lv_room (Nat.le_of_ble_eq_true rfl)) d_Bm_link_48 ⟨Nat.le_of_ble_eq_true rfl, Nat.le_of_ble_eq_true rfl⟩) hS (fun q _ h => h.elim) (fun q h => h.elim) (fun r48 u9 t9 H1 locs ht hvm hw hB hz1 hk1 hS => ?_)
                                obtain rfl : H = H1 := hB.symm.trans ht
                                have hw : r48 = nf (8 * k + 0) := hw
                                subst hw
                                refine va_calli (va_runS (As := [.long (nf (8 * k + 0))]) (rest := [.int 6]) ⟨hx, hb, hml, hown, hts⟩ (c_Bm_many l H (nf (8 * k + 0))) (cwS 1 hts (gw_S gk_1106 gk_1107 gk_7 gk_1108) rfl rfl rfl (by decide +kernel) ⟨Nat.le_of_ble_eq_true rfl, Nat.le_of_ble_eq_true rfl⟩) ⟨fun a U g mk q => q, fun U hU hW => ⟨rfl, hU⟩⟩ rfl rfl hl.1 rfl (lv_room (Nat.le_of_ble_eq_true rfl)) d_Bm_link_51 ⟨Nat.le_of_ble_eq_true rfl, Nat.le_of_ble_eq_true rfl⟩) hS (fun q _ h => h.elim) (fun q h => h.elim) (fun r51 u9 t9 H1 locs ht hvm hw hB hz1 hk1 hS => ?_)
                                obtain rfl : H = H1 := hB.symm.trans ht
                                have hw : r51 = if nf (8 * k + 0) = 2 then 8 else 5 := hw
                                subst hw
                                rw [show (if nf (8 * k + 0) = 2 then 8 else 5 : Int32) = 8 from if_pos hw2]
                                refine lv_icmp_ge (tgt := 73) hx hb d_Bm_link_54 (by decide) (fun c_56 => ?_) (fun c_56 => ?_)
                                · -- taken
                                  exact absurd c_56 (by decide)
                                · -- not taken
                                  refine lv_aload_n hx hb d_Bm_link_57 rfl (lv_at hl 1 rfl) ?_
                                  refine lv_aload_n hx hb d_Bm_link_58 rfl (lv_at hl 1 rfl) ?_
                                  refine lv_iload_n hx hb d_Bm_link_59 rfl (lv_at hl 2 rfl) ?_
                                  refine lv_iload_n hx hb d_Bm_link_60 rfl (lv_at hl 0 rfl) ?_
                                  have hPc := hP.sub (ws' := (mo_ws m0 z0 z1 z2 z3 z4 z5 z6 z7 z8 z9 z10 a0 a1 a2 a3 a4 a5 a6 a7 a8 a9 b0 b1 80 b2 b3 b4 b5 ++ (jw_ws a0 cJ 1232 nf))) [0, 7] rfl
                                  have hKc := hK.sub (tys' := [(cJ, .long), (cI, .int)]) [0, 1] rfl
                                  refine va_calll (va_runV (As := [.int (nI k), .int 6]) (rest := [.ref m0]) ⟨hx, hb, hml, hown, hts⟩ (c_Bm_at l H dC dI cJ cI m0 z0 z1 z2 z3 z4 z5 z6 z7 z8 z9 z10 a0 a1 a2 a3 a4 a5 a6 a7 a8 a9 b0 b1 80 b2 b3 b4 b5 nf k 6 hPc (by omega)) (cwV 2 hts (gw_V gk_1102 gk_1104 gp_42 gk_7 gk_1105) rfl rfl rfl (by decide +kernel) ⟨Nat.le_of_ble_eq_true rfl, Nat.le_of_ble_eq_true rfl⟩) ⟨fun a U g mk q => ⟨q.1, q.2.1, va_K.moved (u := U) (U := U.calling g mk a) (Vm.Alike.refl U.vm) q.2.2⟩, va_recv hK hP (ci := 8) (q0 := 0) rfl rfl, fun U hU hW => ⟨rfl, hU, va_K.moved hW.alike hKc⟩⟩ rfl rfl hl.1 rfl (lv_room (Nat.le_of_ble_eq_true rfl)) d_Bm_link_61 ⟨Nat.le_of_ble_eq_true rfl, Nat.le_of_ble_eq_true rfl⟩) hS (fun q _ h => h.elim) (fun q h => h.elim) (fun r61 u9 t9 H1 locs ht hvm hw hB hz1 hk1 hS => ?_)
                                  obtain rfl : H = H1 := hB.symm.trans ht
                                  have hw : r61 = nf (8 * k + 6) := hw
                                  subst hw
                                  have hPc := hP.sub (ws' := (mo_ws m0 z0 z1 z2 z3 z4 z5 z6 z7 z8 z9 z10 a0 a1 a2 a3 a4 a5 a6 a7 a8 a9 b0 b1 80 b2 b3 b4 b5 ++ (iw_ws a7 cI 256 g_53))) [0, 1] rfl
                                  have hDc := hD.sub (ws' := (mo_ws m0 z0 z1 z2 z3 z4 z5 z6 z7 z8 z9 z10 a0 a1 a2 a3 a4 a5 a6 a7 a8 a9 b0 b1 80 b2 b3 b4 b5 ++ (iw_ws a7 cI 256 g_53))) [0, 1] (by decide) rfl
                                  have hKc := hK.sub (tys' := [(cJ, .long), (cI, .int)]) [0, 1] rfl
                                  have hFc := va_free (wc := (mo_ws m0 z0 z1 z2 z3 z4 z5 z6 z7 z8 z9 z10 a0 a1 a2 a3 a4 a5 a6 a7 a8 a9 b0 b1 80 b2 b3 b4 b5 ++ (iw_ws a7 cI 256 g_53))) hD hS hA [0, 1] rfl
                                  refine va_callv (va_runV (As := [.long (nf (8 * k + 6))]) (rest := []) ⟨hx, hb, hml, hown, hts⟩ (c_Bm_eight l dC dI cJ cI H.size m0 z0 z1 z2 z3 z4 z5 z6 z7 z8 z9 z10 a0 a1 a2 a3 a4 a5 a6 a7 a8 a9 b0 b1 80 b2 b3 b4 b5 g_53 (nf (8 * k + 6)) (by omega)) (cwV 1 hts (gw_V gk_1070 gk_1072 gp_36 gk_7 gk_1073) rfl rfl rfl (by decide +kernel) ⟨Nat.le_of_ble_eq_true rfl, Nat.le_of_ble_eq_true rfl⟩) ⟨fun a U g mk q => by obtain ⟨q0, q1, qP, qK, qD⟩ := q; exact ⟨q0, q1, qP, va_K.moved (u := U) (U := U.calling g mk a) (Vm.Alike.refl U.vm) qK, qD⟩, va_recv hK hP (ci := 8) (q0 := 0) rfl rfl, fun U hU hW => ⟨rfl, by rw [hU], by rw [hU]; exact hPc, va_K.moved hW.alike hKc, hDc.weaken (fun _ _ _ _ => trivial)⟩⟩ rfl rfl hl.1 rfl (lv_room (Nat.le_of_ble_eq_true rfl)) d_Bm_link_64 ⟨Nat.le_of_ble_eq_true rfl, Nat.le_of_ble_eq_true rfl⟩) hS (fun q _ h => hFc q h) hFc (fun u9 t9 H1 locs ht hvm hw hB hz1 hk1 hS => ?_)
                                  obtain ⟨hP1, hK1, hD1⟩ := hB
                                  rw [ht] at hP1
                                  obtain ⟨hP, hD⟩ := va_join (wr := [(a8, .inl (cI, 64, .inl sc)), (a9, .inl (cI, 8, .inl st)), (b0, .inl (cI, 8, .inl kS)), (b1, .inl (cI, 64, .inl kR)), (a2, .inl (cJ, 4, .inr (.inl tf))), (a0, .inl (cJ, 1232, .inr (.inl nf))), (a1, .inl (cJ, 616, .inr (.inl cf)))]) (w1 := [(m0, .inr (8, [.int z0, .int z1, .int z2, .int z3, .long z4, .long z5, .long z6, .long z7, .long z8, .long z9, .int z10, .ref a0, .ref a1, .ref a2, .ref a3, .ref a4, .ref a5, .ref a6, .ref a7, .ref a8, .ref a9, .ref b0, .ref b1, .int (nI 88), .ref b2, .ref b3, .ref b4, .ref b5])), (a7, .inl (cI, 256, .inl (o8 g_53 80 (nf (8 * k + 6)))))]) hP hD [0, 1] [2, 3, 4, 5, 6, 7, 8] rfl rfl (by decide) (by decide) hk1 hFc hP1 hD1
                                  have hP := hP.sub (ws' := [(m0, .inr (8, [.int z0, .int z1, .int z2, .int z3, .long z4, .long z5, .long z6, .long z7, .long z8, .long z9, .int z10, .ref a0, .ref a1, .ref a2, .ref a3, .ref a4, .ref a5, .ref a6, .ref a7, .ref a8, .ref a9, .ref b0, .ref b1, .int (nI 88), .ref b2, .ref b3, .ref b4, .ref b5])), (a7, .inl (cI, 256, .inl (o8 g_53 80 (nf (8 * k + 6))))), (a8, .inl (cI, 64, .inl sc)), (a9, .inl (cI, 8, .inl st)), (b0, .inl (cI, 8, .inl kS)), (b1, .inl (cI, 64, .inl kR)), (a2, .inl (cJ, 4, .inr (.inl tf))), (a0, .inl (cJ, 1232, .inr (.inl nf))), (a1, .inl (cJ, 616, .inr (.inl cf)))]) [7, 8, 0, 1, 2, 3, 4, 5, 6] rfl
                                  have hD := hD.sub (ws' := [(m0, .inr (8, [.int z0, .int z1, .int z2, .int z3, .long z4, .long z5, .long z6, .long z7, .long z8, .long z9, .int z10, .ref a0, .ref a1, .ref a2, .ref a3, .ref a4, .ref a5, .ref a6, .ref a7, .ref a8, .ref a9, .ref b0, .ref b1, .int (nI 88), .ref b2, .ref b3, .ref b4, .ref b5])), (a7, .inl (cI, 256, .inl (o8 g_53 80 (nf (8 * k + 6))))), (a8, .inl (cI, 64, .inl sc)), (a9, .inl (cI, 8, .inl st)), (b0, .inl (cI, 8, .inl kS)), (b1, .inl (cI, 64, .inl kR)), (a2, .inl (cJ, 4, .inr (.inl tf))), (a0, .inl (cJ, 1232, .inr (.inl nf))), (a1, .inl (cJ, 616, .inr (.inl cf)))]) [7, 8, 0, 1, 2, 3, 4, 5, 6] (by decide) rfl
                                  generalize H1 = H at hP hS ⊢
                                  obtain ⟨g_58, eg_58⟩ : ∃ f : Nat → Int32, f = o8 g_53 80 (nf (8 * k + 6)) := ⟨_, rfl⟩
                                  rw [← eg_58] at hP hD
                                  have hm_59 : bok g_58 11 [cf (4 * (k - 1) + 0), cf (4 * (k - 1) + 1), cf (4 * (k - 1) + 2), cf (4 * (k - 1) + 3), nf (8 * k + 0), nf (8 * k + 1), nf (8 * k + 2), nf (8 * k + 3), nf (8 * k + 4), nf (8 * k + 5), nf (8 * k + 6)] := bok_add _ hm_54 rfl eg_58
                                  obtain ⟨i_60, ei_60⟩ : ∃ y : Int32, y = 6 + 1 := ⟨_, rfl⟩
                                  refine lv_iinc (v := i_60) (lv' := [(2, .int i_60), (0, .ref m0), (1, .int (nI k))]) hx hb d_Bm_link_67 hl (k := 0) rfl (by rw [ei_60]; rfl) (by decide) rfl (fun ls hl => ?_)
                                  obtain rfl : i_60 = 7 := by rw [ei_60]; exact by decide
                                  refine lv_goto (tgt := 44) hx hb d_Bm_link_70 (by decide) ?_
                                  refine lv_iload_n hx hb d_Bm_link_44 rfl (lv_at hl 0 rfl) ?_
                                  refine lv_aload_n hx hb d_Bm_link_45 rfl (lv_at hl 1 rfl) ?_
                                  refine lv_iload_n hx hb d_Bm_link_46 rfl (lv_at hl 2 rfl) ?_
                                  refine lv_iconst (v := 0) hx hb d_Bm_link_47 (by decide) ?_
                                  have hPc := hP.sub (ws' := (mo_ws m0 z0 z1 z2 z3 z4 z5 z6 z7 z8 z9 z10 a0 a1 a2 a3 a4 a5 a6 a7 a8 a9 b0 b1 88 b2 b3 b4 b5 ++ (jw_ws a0 cJ 1232 nf))) [0, 7] rfl
                                  have hKc := hK.sub (tys' := [(cJ, .long), (cI, .int)]) [0, 1] rfl
                                  refine va_calll (va_runV (As := [.int (nI k), .int 0]) (rest := [.int 7]) ⟨hx, hb, hml, hown, hts⟩ (c_Bm_at l H dC dI cJ cI m0 z0 z1 z2 z3 z4 z5 z6 z7 z8 z9 z10 a0 a1 a2 a3 a4 a5 a6 a7 a8 a9 b0 b1 88 b2 b3 b4 b5 nf k 0 hPc (by omega)) (cwV 2 hts (gw_V gk_1102 gk_1104 gp_42 gk_7 gk_1105) rfl rfl rfl (by decide +kernel) ⟨Nat.le_of_ble_eq_true rfl, Nat.le_of_ble_eq_true rfl⟩) ⟨fun a U g mk q => ⟨q.1, q.2.1, va_K.moved (u := U) (U := U.calling g mk a) (Vm.Alike.refl U.vm) q.2.2⟩, va_recv hK hP (ci := 8) (q0 := 0) rfl rfl, fun U hU hW => ⟨rfl, hU, va_K.moved hW.alike hKc⟩⟩ rfl rfl hl.1 rfl (lv_room (Nat.le_of_ble_eq_true rfl)) d_Bm_link_48 ⟨Nat.le_of_ble_eq_true rfl, Nat.le_of_ble_eq_true rfl⟩) hS (fun q _ h => h.elim) (fun q h => h.elim) (fun r48 u9 t9 H1 locs ht hvm hw hB hz1 hk1 hS => ?_)
                                  obtain rfl : H = H1 := hB.symm.trans ht
                                  have hw : r48 = nf (8 * k + 0) := hw
                                  subst hw
                                  refine va_calli (va_runS (As := [.long (nf (8 * k + 0))]) (rest := [.int 7]) ⟨hx, hb, hml, hown, hts⟩ (c_Bm_many l H (nf (8 * k + 0))) (cwS 1 hts (gw_S gk_1106 gk_1107 gk_7 gk_1108) rfl rfl rfl (by decide +kernel) ⟨Nat.le_of_ble_eq_true rfl, Nat.le_of_ble_eq_true rfl⟩) ⟨fun a U g mk q => q, fun U hU hW => ⟨rfl, hU⟩⟩ rfl rfl hl.1 rfl (lv_room (Nat.le_of_ble_eq_true rfl)) d_Bm_link_51 ⟨Nat.le_of_ble_eq_true rfl, Nat.le_of_ble_eq_true rfl⟩) hS (fun q _ h => h.elim) (fun q h => h.elim) (fun r51 u9 t9 H1 locs ht hvm hw hB hz1 hk1 hS => ?_)
                                  obtain rfl : H = H1 := hB.symm.trans ht
                                  have hw : r51 = if nf (8 * k + 0) = 2 then 8 else 5 := hw
                                  subst hw
                                  rw [show (if nf (8 * k + 0) = 2 then 8 else 5 : Int32) = 8 from if_pos hw2]
                                  refine lv_icmp_ge (tgt := 73) hx hb d_Bm_link_54 (by decide) (fun c_61 => ?_) (fun c_61 => ?_)
                                  · -- taken
                                    exact absurd c_61 (by decide)
                                  · -- not taken
                                    refine lv_aload_n hx hb d_Bm_link_57 rfl (lv_at hl 1 rfl) ?_
                                    refine lv_aload_n hx hb d_Bm_link_58 rfl (lv_at hl 1 rfl) ?_
                                    refine lv_iload_n hx hb d_Bm_link_59 rfl (lv_at hl 2 rfl) ?_
                                    refine lv_iload_n hx hb d_Bm_link_60 rfl (lv_at hl 0 rfl) ?_
                                    have hPc := hP.sub (ws' := (mo_ws m0 z0 z1 z2 z3 z4 z5 z6 z7 z8 z9 z10 a0 a1 a2 a3 a4 a5 a6 a7 a8 a9 b0 b1 88 b2 b3 b4 b5 ++ (jw_ws a0 cJ 1232 nf))) [0, 7] rfl
                                    have hKc := hK.sub (tys' := [(cJ, .long), (cI, .int)]) [0, 1] rfl
                                    refine va_calll (va_runV (As := [.int (nI k), .int 7]) (rest := [.ref m0]) ⟨hx, hb, hml, hown, hts⟩ (c_Bm_at l H dC dI cJ cI m0 z0 z1 z2 z3 z4 z5 z6 z7 z8 z9 z10 a0 a1 a2 a3 a4 a5 a6 a7 a8 a9 b0 b1 88 b2 b3 b4 b5 nf k 7 hPc (by omega)) (cwV 2 hts (gw_V gk_1102 gk_1104 gp_42 gk_7 gk_1105) rfl rfl rfl (by decide +kernel) ⟨Nat.le_of_ble_eq_true rfl, Nat.le_of_ble_eq_true rfl⟩) ⟨fun a U g mk q => ⟨q.1, q.2.1, va_K.moved (u := U) (U := U.calling g mk a) (Vm.Alike.refl U.vm) q.2.2⟩, va_recv hK hP (ci := 8) (q0 := 0) rfl rfl, fun U hU hW => ⟨rfl, hU, va_K.moved hW.alike hKc⟩⟩ rfl rfl hl.1 rfl (lv_room (Nat.le_of_ble_eq_true rfl)) d_Bm_link_61 ⟨Nat.le_of_ble_eq_true rfl, Nat.le_of_ble_eq_true rfl⟩) hS (fun q _ h => h.elim) (fun q h => h.elim) (fun r61 u9 t9 H1 locs ht hvm hw hB hz1 hk1 hS => ?_)
                                    obtain rfl : H = H1 := hB.symm.trans ht
                                    have hw : r61 = nf (8 * k + 7) := hw
                                    subst hw
                                    have hPc := hP.sub (ws' := (mo_ws m0 z0 z1 z2 z3 z4 z5 z6 z7 z8 z9 z10 a0 a1 a2 a3 a4 a5 a6 a7 a8 a9 b0 b1 88 b2 b3 b4 b5 ++ (iw_ws a7 cI 256 g_58))) [0, 1] rfl
                                    have hDc := hD.sub (ws' := (mo_ws m0 z0 z1 z2 z3 z4 z5 z6 z7 z8 z9 z10 a0 a1 a2 a3 a4 a5 a6 a7 a8 a9 b0 b1 88 b2 b3 b4 b5 ++ (iw_ws a7 cI 256 g_58))) [0, 1] (by decide) rfl
                                    have hKc := hK.sub (tys' := [(cJ, .long), (cI, .int)]) [0, 1] rfl
                                    have hFc := va_free (wc := (mo_ws m0 z0 z1 z2 z3 z4 z5 z6 z7 z8 z9 z10 a0 a1 a2 a3 a4 a5 a6 a7 a8 a9 b0 b1 88 b2 b3 b4 b5 ++ (iw_ws a7 cI 256 g_58))) hD hS hA [0, 1] rfl
                                    refine va_callv (va_runV (As := [.long (nf (8 * k + 7))]) (rest := []) ⟨hx, hb, hml, hown, hts⟩ (c_Bm_eight l dC dI cJ cI H.size m0 z0 z1 z2 z3 z4 z5 z6 z7 z8 z9 z10 a0 a1 a2 a3 a4 a5 a6 a7 a8 a9 b0 b1 88 b2 b3 b4 b5 g_58 (nf (8 * k + 7)) (by omega)) (cwV 1 hts (gw_V gk_1070 gk_1072 gp_36 gk_7 gk_1073) rfl rfl rfl (by decide +kernel) ⟨Nat.le_of_ble_eq_true rfl, Nat.le_of_ble_eq_true rfl⟩) ⟨fun a U g mk q => by obtain ⟨q0, q1, qP, qK, qD⟩ := q; exact ⟨q0, q1, qP, va_K.moved (u := U) (U := U.calling g mk a) (Vm.Alike.refl U.vm) qK, qD⟩, va_recv hK hP (ci := 8) (q0 := 0) rfl rfl, fun U hU hW => ⟨rfl, by rw [hU], by rw [hU]; exact hPc, va_K.moved hW.alike hKc, hDc.weaken (fun _ _ _ _ => trivial)⟩⟩ rfl rfl hl.1 rfl (lv_room (Nat.le_of_ble_eq_true rfl)) d_Bm_link_64 ⟨Nat.le_of_ble_eq_true rfl, Nat.le_of_ble_eq_true rfl⟩) hS (fun q _ h => hFc q h) hFc (fun u9 t9 H1 locs ht hvm hw hB hz1 hk1 hS => ?_)
                                    obtain ⟨hP1, hK1, hD1⟩ := hB
                                    rw [ht] at hP1
                                    obtain ⟨hP, hD⟩ := va_join (wr := [(a8, .inl (cI, 64, .inl sc)), (a9, .inl (cI, 8, .inl st)), (b0, .inl (cI, 8, .inl kS)), (b1, .inl (cI, 64, .inl kR)), (a2, .inl (cJ, 4, .inr (.inl tf))), (a0, .inl (cJ, 1232, .inr (.inl nf))), (a1, .inl (cJ, 616, .inr (.inl cf)))]) (w1 := [(m0, .inr (8, [.int z0, .int z1, .int z2, .int z3, .long z4, .long z5, .long z6, .long z7, .long z8, .long z9, .int z10, .ref a0, .ref a1, .ref a2, .ref a3, .ref a4, .ref a5, .ref a6, .ref a7, .ref a8, .ref a9, .ref b0, .ref b1, .int (nI 96), .ref b2, .ref b3, .ref b4, .ref b5])), (a7, .inl (cI, 256, .inl (o8 g_58 88 (nf (8 * k + 7)))))]) hP hD [0, 1] [2, 3, 4, 5, 6, 7, 8] rfl rfl (by decide) (by decide) hk1 hFc hP1 hD1
                                    have hP := hP.sub (ws' := [(m0, .inr (8, [.int z0, .int z1, .int z2, .int z3, .long z4, .long z5, .long z6, .long z7, .long z8, .long z9, .int z10, .ref a0, .ref a1, .ref a2, .ref a3, .ref a4, .ref a5, .ref a6, .ref a7, .ref a8, .ref a9, .ref b0, .ref b1, .int (nI 96), .ref b2, .ref b3, .ref b4, .ref b5])), (a7, .inl (cI, 256, .inl (o8 g_58 88 (nf (8 * k + 7))))), (a8, .inl (cI, 64, .inl sc)), (a9, .inl (cI, 8, .inl st)), (b0, .inl (cI, 8, .inl kS)), (b1, .inl (cI, 64, .inl kR)), (a2, .inl (cJ, 4, .inr (.inl tf))), (a0, .inl (cJ, 1232, .inr (.inl nf))), (a1, .inl (cJ, 616, .inr (.inl cf)))]) [7, 8, 0, 1, 2, 3, 4, 5, 6] rfl
                                    have hD := hD.sub (ws' := [(m0, .inr (8, [.int z0, .int z1, .int z2, .int z3, .long z4, .long z5, .long z6, .long z7, .long z8, .long z9, .int z10, .ref a0, .ref a1, .ref a2, .ref a3, .ref a4, .ref a5, .ref a6, .ref a7, .ref a8, .ref a9, .ref b0, .ref b1, .int (nI 96), .ref b2, .ref b3, .ref b4, .ref b5])), (a7, .inl (cI, 256, .inl (o8 g_58 88 (nf (8 * k + 7))))), (a8, .inl (cI, 64, .inl sc)), (a9, .inl (cI, 8, .inl st)), (b0, .inl (cI, 8, .inl kS)), (b1, .inl (cI, 64, .inl kR)), (a2, .inl (cJ, 4, .inr (.inl tf))), (a0, .inl (cJ, 1232, .inr (.inl nf))), (a1, .inl (cJ, 616, .inr (.inl cf)))]) [7, 8, 0, 1, 2, 3, 4, 5, 6] (by decide) rfl
                                    generalize H1 = H at hP hS ⊢
                                    obtain ⟨g_63, eg_63⟩ : ∃ f : Nat → Int32, f = o8 g_58 88 (nf (8 * k + 7)) := ⟨_, rfl⟩
                                    rw [← eg_63] at hP hD
                                    have hm_64 : bok g_63 12 [cf (4 * (k - 1) + 0), cf (4 * (k - 1) + 1), cf (4 * (k - 1) + 2), cf (4 * (k - 1) + 3), nf (8 * k + 0), nf (8 * k + 1), nf (8 * k + 2), nf (8 * k + 3), nf (8 * k + 4), nf (8 * k + 5), nf (8 * k + 6), nf (8 * k + 7)] := bok_add _ hm_59 rfl eg_63
                                    obtain ⟨i_65, ei_65⟩ : ∃ y : Int32, y = 7 + 1 := ⟨_, rfl⟩
                                    refine lv_iinc (v := i_65) (lv' := [(2, .int i_65), (0, .ref m0), (1, .int (nI k))]) hx hb d_Bm_link_67 hl (k := 0) rfl (by rw [ei_65]; rfl) (by decide) rfl (fun ls hl => ?_)
                                    obtain rfl : i_65 = 8 := by rw [ei_65]; exact by decide
                                    refine lv_goto (tgt := 44) hx hb d_Bm_link_70 (by decide) ?_
                                    refine lv_iload_n hx hb d_Bm_link_44 rfl (lv_at hl 0 rfl) ?_
                                    refine lv_aload_n hx hb d_Bm_link_45 rfl (lv_at hl 1 rfl) ?_
                                    refine lv_iload_n hx hb d_Bm_link_46 rfl (lv_at hl 2 rfl) ?_
                                    refine lv_iconst (v := 0) hx hb d_Bm_link_47 (by decide) ?_
                                    have hPc := hP.sub (ws' := (mo_ws m0 z0 z1 z2 z3 z4 z5 z6 z7 z8 z9 z10 a0 a1 a2 a3 a4 a5 a6 a7 a8 a9 b0 b1 96 b2 b3 b4 b5 ++ (jw_ws a0 cJ 1232 nf))) [0, 7] rfl
                                    have hKc := hK.sub (tys' := [(cJ, .long), (cI, .int)]) [0, 1] rfl
                                    refine va_calll (va_runV (As := [.int (nI k), .int 0]) (rest := [.int 8]) ⟨hx, hb, hml, hown, hts⟩ (c_Bm_at l H dC dI cJ cI m0 z0 z1 z2 z3 z4 z5 z6 z7 z8 z9 z10 a0 a1 a2 a3 a4 a5 a6 a7 a8 a9 b0 b1 96 b2 b3 b4 b5 nf k 0 hPc (by omega)) (cwV 2 hts (gw_V gk_1102 gk_1104 gp_42 gk_7 gk_1105) rfl rfl rfl (by decide +kernel) ⟨Nat.le_of_ble_eq_true rfl, Nat.le_of_ble_eq_true rfl⟩) ⟨fun a U g mk q => ⟨q.1, q.2.1, va_K.moved (u := U) (U := U.calling g mk a) (Vm.Alike.refl U.vm) q.2.2⟩, va_recv hK hP (ci := 8) (q0 := 0) rfl rfl, fun U hU hW => ⟨rfl, hU, va_K.moved hW.alike hKc⟩⟩ rfl rfl hl.1 rfl (lv_room (Nat.le_of_ble_eq_true rfl)) d_Bm_link_48 ⟨Nat.le_of_ble_eq_true rfl, Nat.le_of_ble_eq_true rfl⟩) hS (fun q _ h => h.elim) (fun q h => h.elim) (fun r48 u9 t9 H1 locs ht hvm hw hB hz1 hk1 hS => ?_)
                                    obtain rfl : H = H1 := hB.symm.trans ht
                                    have hw : r48 = nf (8 * k + 0) := hw
                                    subst hw
                                    refine va_calli (va_runS (As := [.long (nf (8 * k + 0))]) (rest := [.int 8]) ⟨hx, hb, hml, hown, hts⟩ (c_Bm_many l H (nf (8 * k + 0))) (cwS 1 hts (gw_S gk_1106 gk_1107 gk_7 gk_1108) rfl rfl rfl (by decide +kernel) ⟨Nat.le_of_ble_eq_true rfl, Nat.le_of_ble_eq_true rfl⟩) ⟨fun a U g mk q => q, fun U hU hW => ⟨rfl, hU⟩⟩ rfl rfl hl.1 rfl (lv_room (Nat.le_of_ble_eq_true rfl)) d_Bm_link_51 ⟨Nat.le_of_ble_eq_true rfl, Nat.le_of_ble_eq_true rfl⟩) hS (fun q _ h => h.elim) (fun q h => h.elim) (fun r51 u9 t9 H1 locs ht hvm hw hB hz1 hk1 hS => ?_)
                                    obtain rfl : H = H1 := hB.symm.trans ht
                                    have hw : r51 = if nf (8 * k + 0) = 2 then 8 else 5 := hw
                                    subst hw
                                    rw [show (if nf (8 * k + 0) = 2 then 8 else 5 : Int32) = 8 from if_pos hw2]
                                    refine lv_icmp_ge (tgt := 73) hx hb d_Bm_link_54 (by decide) (fun c_66 => ?_) (fun c_66 => ?_)
                                    · -- taken
                                      refine lv_aload_n hx hb d_Bm_link_73 rfl (lv_at hl 1 rfl) ?_
                                      have hPc := hP.sub (ws' := (mo_ws m0 z0 z1 z2 z3 z4 z5 z6 z7 z8 z9 z10 a0 a1 a2 a3 a4 a5 a6 a7 a8 a9 b0 b1 (8 * 12) b2 b3 b4 b5 ++ (iw_ws a7 cI 256 g_63 ++ (iw_ws a8 cI 64 sc ++ (iw_ws a9 cI 8 st ++ (iw_ws b0 cI 8 kS ++ (iw_ws b1 cI 64 kR ++ (jw_ws a2 cJ 4 tf)))))))) [0, 1, 2, 3, 4, 5, 6] rfl
                                      have hDc := hD.sub (ws' := (mo_ws m0 z0 z1 z2 z3 z4 z5 z6 z7 z8 z9 z10 a0 a1 a2 a3 a4 a5 a6 a7 a8 a9 b0 b1 (8 * 12) b2 b3 b4 b5 ++ (iw_ws a7 cI 256 g_63 ++ (iw_ws a8 cI 64 sc ++ (iw_ws a9 cI 8 st ++ (iw_ws b0 cI 8 kS ++ (iw_ws b1 cI 64 kR ++ (jw_ws a2 cJ 4 tf)))))))) [0, 1, 2, 3, 4, 5, 6] (by decide) rfl
                                      have hKc := hK.sub (tys' := [(cJ, .long), (cI, .int)]) [0, 1] rfl
                                      have hFc := va_free (wc := (mo_ws m0 z0 z1 z2 z3 z4 z5 z6 z7 z8 z9 z10 a0 a1 a2 a3 a4 a5 a6 a7 a8 a9 b0 b1 (8 * 12) b2 b3 b4 b5 ++ (iw_ws a7 cI 256 g_63 ++ (iw_ws a8 cI 64 sc ++ (iw_ws a9 cI 8 st ++ (iw_ws b0 cI 8 kS ++ (iw_ws b1 cI 64 kR ++ (jw_ws a2 cJ 4 tf)))))))) hD hS hA [0, 1, 2, 3, 4, 5, 6] rfl
                                      refine va_callv (va_runV (As := []) (rest := []) ⟨hx, hb, hml, hown, hts⟩ (c_Bm_digest l dC dI cJ cI H.size m0 z0 z1 z2 z3 z4 z5 z6 z7 z8 z9 z10 a0 a1 a2 a3 a4 a5 a6 a7 a8 a9 b0 b1 b2 b3 b4 b5 12 g_63 sc st tf [cf (4 * (k - 1) + 0), cf (4 * (k - 1) + 1), cf (4 * (k - 1) + 2), cf (4 * (k - 1) + 3), nf (8 * k + 0), nf (8 * k + 1), nf (8 * k + 2), nf (8 * k + 3), nf (8 * k + 4), nf (8 * k + 5), nf (8 * k + 6), nf (8 * k + 7)] (by decide) hm_64) (cwV 0 hts (gw_V gk_1074 gk_1076 gp_37 gk_7 gk_1077) rfl rfl rfl (by decide +kernel) ⟨Nat.le_of_ble_eq_true rfl, Nat.le_of_ble_eq_true rfl⟩) ⟨fun a U g mk q => by obtain ⟨q0, q1, qP, qK, qD⟩ := q; exact ⟨q0, q1, qP, va_K.moved (u := U) (U := U.calling g mk a) (Vm.Alike.refl U.vm) qK, qD⟩, va_recv hK hP (ci := 8) (q0 := 0) rfl rfl, fun U hU hW => ⟨rfl, by rw [hU], by rw [hU]; exact hPc, va_K.moved hW.alike hKc, hDc.weaken (fun _ _ _ _ => trivial)⟩⟩ rfl rfl hl.1 rfl (lv_room (Nat.le_of_ble_eq_true rfl)) d_Bm_link_74 ⟨Nat.le_of_ble_eq_true rfl, Nat.le_of_ble_eq_true rfl⟩) hS (fun q _ h => hFc q h) hFc (fun u9 t9 H1 locs ht hvm hw hB hz1 hk1 hS => ?_)
                                      obtain ⟨gbk_67, gsk_67, gtk_67, gfk_67, gok_67⟩ := u9
                                      have hdg : dgo gtk_67 [cf (4 * (k - 1) + 0), cf (4 * (k - 1) + 1), cf (4 * (k - 1) + 2), cf (4 * (k - 1) + 3), nf (8 * k + 0), nf (8 * k + 1), nf (8 * k + 2), nf (8 * k + 3), nf (8 * k + 4), nf (8 * k + 5), nf (8 * k + 6), nf (8 * k + 7)] ∧ ∀ j, j < 4 → gfk_67 j = lkw [cf (4 * (k - 1) + 0), cf (4 * (k - 1) + 1), cf (4 * (k - 1) + 2), cf (4 * (k - 1) + 3), nf (8 * k + 0), nf (8 * k + 1), nf (8 * k + 2), nf (8 * k + 3), nf (8 * k + 4), nf (8 * k + 5), nf (8 * k + 6), nf (8 * k + 7)] j := hw
                                      obtain ⟨hP1, hK1, hD1⟩ := hB
                                      rw [ht] at hP1
                                      obtain ⟨hP, hD⟩ := va_join (wr := [(a0, .inl (cJ, 1232, .inr (.inl nf))), (a1, .inl (cJ, 616, .inr (.inl cf)))]) (w1 := [(m0, .inr (8, [.int z0, .int z1, .int z2, .int z3, .long z4, .long z5, .long z6, .long z7, .long z8, .long z9, .int z10, .ref a0, .ref a1, .ref a2, .ref a3, .ref a4, .ref a5, .ref a6, .ref a7, .ref a8, .ref a9, .ref b0, .ref b1, .int (nI gok_67), .ref b2, .ref b3, .ref b4, .ref b5])), (a7, .inl (cI, 256, .inl gbk_67)), (a8, .inl (cI, 64, .inl gsk_67)), (a9, .inl (cI, 8, .inl gtk_67)), (b0, .inl (cI, 8, .inl kS)), (b1, .inl (cI, 64, .inl kR)), (a2, .inl (cJ, 4, .inr (.inl gfk_67)))]) hP hD [0, 1, 2, 3, 4, 5, 6] [7, 8] rfl rfl (by decide) (by decide) hk1 hFc hP1 hD1
                                      have hP := hP.sub (ws' := [(m0, .inr (8, [.int z0, .int z1, .int z2, .int z3, .long z4, .long z5, .long z6, .long z7, .long z8, .long z9, .int z10, .ref a0, .ref a1, .ref a2, .ref a3, .ref a4, .ref a5, .ref a6, .ref a7, .ref a8, .ref a9, .ref b0, .ref b1, .int (nI gok_67), .ref b2, .ref b3, .ref b4, .ref b5])), (a7, .inl (cI, 256, .inl gbk_67)), (a8, .inl (cI, 64, .inl gsk_67)), (a9, .inl (cI, 8, .inl gtk_67)), (b0, .inl (cI, 8, .inl kS)), (b1, .inl (cI, 64, .inl kR)), (a2, .inl (cJ, 4, .inr (.inl gfk_67))), (a0, .inl (cJ, 1232, .inr (.inl nf))), (a1, .inl (cJ, 616, .inr (.inl cf)))]) [2, 3, 4, 5, 6, 7, 8, 0, 1] rfl
                                      have hD := hD.sub (ws' := [(m0, .inr (8, [.int z0, .int z1, .int z2, .int z3, .long z4, .long z5, .long z6, .long z7, .long z8, .long z9, .int z10, .ref a0, .ref a1, .ref a2, .ref a3, .ref a4, .ref a5, .ref a6, .ref a7, .ref a8, .ref a9, .ref b0, .ref b1, .int (nI gok_67), .ref b2, .ref b3, .ref b4, .ref b5])), (a7, .inl (cI, 256, .inl gbk_67)), (a8, .inl (cI, 64, .inl gsk_67)), (a9, .inl (cI, 8, .inl gtk_67)), (b0, .inl (cI, 8, .inl kS)), (b1, .inl (cI, 64, .inl kR)), (a2, .inl (cJ, 4, .inr (.inl gfk_67))), (a0, .inl (cJ, 1232, .inr (.inl nf))), (a1, .inl (cJ, 616, .inr (.inl cf)))]) [2, 3, 4, 5, 6, 7, 8, 0, 1] (by decide) rfl
                                      generalize H1 = H at hP hS ⊢
                                      exact W.vret hx hb hr (fun t ht9 hW => ⟨⟨(gbk_67, gsk_67, gtk_67, gfk_67, gok_67), rfl, (by rw [← hmsg]; exact hdg), by rw [ht9]; exact hP, va_K.moved hW.alike hK, hD⟩, hS.F ht9⟩) hS.2.2 d_Bm_link_77
                                    · -- not taken
                                      exact absurd c_66 (by decide)
                  · -- not taken
                    exact absurd c_25 (by decide)
                · -- not taken
                  exact absurd c_20 (nI_ne0 hk0 (by omega))
            · -- not taken
              exact absurd c_14 (nI_ne0 hk0 (by omega))
        · -- not taken
          exact absurd c_8 (nI_ne0 hk0 (by omega))
    · -- not taken
      exact absurd c_2 (nI_ne0 hk0 (by omega))
