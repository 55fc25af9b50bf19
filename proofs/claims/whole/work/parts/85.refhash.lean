abbrev b_Lo_rem : ByteArray := prog_15_method_45_code
abbrev y_Lo_rem : MethodName := ⟨"java/lang/Long", "remainderUnsigned", "(JJ)J"⟩
abbrev w_Lo_rem : List Cond := .code y_Lo_rem b_Lo_rem 8 (some .long) :: gw
theorem d_Lo_rem_0 : decode b_Lo_rem 0 = .ok (.lload_n 2, 1) := by decide +kernel
theorem d_Lo_rem_1 : decode b_Lo_rem 1 = .ok (.lconst 0, 1) := by decide +kernel
theorem d_Lo_rem_2 : decode b_Lo_rem 2 = .ok (.lcmp, 1) := by decide +kernel
theorem d_Lo_rem_3 : decode b_Lo_rem 3 = .ok (.ifCond .lt 37, 3) := by decide +kernel
theorem d_Lo_rem_6 : decode b_Lo_rem 6 = .ok (.lload_n 0, 1) := by decide +kernel
theorem d_Lo_rem_7 : decode b_Lo_rem 7 = .ok (.iconst 1, 1) := by decide +kernel
theorem d_Lo_rem_8 : decode b_Lo_rem 8 = .ok (.lushr, 1) := by decide +kernel
theorem d_Lo_rem_9 : decode b_Lo_rem 9 = .ok (.lload_n 2, 1) := by decide +kernel
theorem d_Lo_rem_10 : decode b_Lo_rem 10 = .ok (.ldiv, 1) := by decide +kernel
theorem d_Lo_rem_11 : decode b_Lo_rem 11 = .ok (.iconst 1, 1) := by decide +kernel
theorem d_Lo_rem_12 : decode b_Lo_rem 12 = .ok (.lshl, 1) := by decide +kernel
theorem d_Lo_rem_13 : decode b_Lo_rem 13 = .ok (.lstore 4, 2) := by decide +kernel
theorem d_Lo_rem_15 : decode b_Lo_rem 15 = .ok (.lload_n 0, 1) := by decide +kernel
theorem d_Lo_rem_16 : decode b_Lo_rem 16 = .ok (.lload 4, 2) := by decide +kernel
theorem d_Lo_rem_18 : decode b_Lo_rem 18 = .ok (.lload_n 2, 1) := by decide +kernel
theorem d_Lo_rem_19 : decode b_Lo_rem 19 = .ok (.lmul, 1) := by decide +kernel
theorem d_Lo_rem_20 : decode b_Lo_rem 20 = .ok (.lsub, 1) := by decide +kernel
theorem d_Lo_rem_21 : decode b_Lo_rem 21 = .ok (.lstore 6, 2) := by decide +kernel
theorem d_Lo_rem_23 : decode b_Lo_rem 23 = .ok (.lload 6, 2) := by decide +kernel
theorem d_Lo_rem_25 : decode b_Lo_rem 25 = .ok (.lload 6, 2) := by decide +kernel
theorem d_Lo_rem_27 : decode b_Lo_rem 27 = .ok (.lload_n 2, 1) := by decide +kernel
theorem d_Lo_rem_28 : decode b_Lo_rem 28 = .ok (.lsub, 1) := by decide +kernel
theorem d_Lo_rem_29 : decode b_Lo_rem 29 = .ok (.ldc2_w 306, 3) := by decide +kernel
theorem d_Lo_rem_32 : decode b_Lo_rem 32 = .ok (.lxor, 1) := by decide +kernel
theorem d_Lo_rem_33 : decode b_Lo_rem 33 = .ok (.bipush 63, 2) := by decide +kernel
theorem d_Lo_rem_35 : decode b_Lo_rem 35 = .ok (.lshr, 1) := by decide +kernel
theorem d_Lo_rem_36 : decode b_Lo_rem 36 = .ok (.lload_n 2, 1) := by decide +kernel
theorem d_Lo_rem_37 : decode b_Lo_rem 37 = .ok (.land, 1) := by decide +kernel
theorem d_Lo_rem_38 : decode b_Lo_rem 38 = .ok (.lsub, 1) := by decide +kernel
theorem d_Lo_rem_39 : decode b_Lo_rem 39 = .ok (.lreturn, 1) := by decide +kernel
set_option maxHeartbeats 4000000 in
set_option maxRecDepth 100000 in
theorem c_Lo_rem (l : Launch) (H0 : Heap) (U Q : Nat) (hU : U < 2 ^ 64) (hQ0 : 0 < Q) (hQ61 : Q < 2 ^ 61) : Met l y_Lo_rem w_Lo_rem ({ frames := 0, cells := 0, slots := 0, locals := 0 }) (va_Pc [.long (lN U), .long (lN Q)] (fun U => U.heap = H0)) (va_Ql (fun (r : Int64) (_ : Unit) => r = lN (U % Q)) (fun _ t => t.heap = H0) (fun _ => False)) 0 0 (fun _ => False) := by
  refine Met.ofW (cc := b_Lo_rem) (maxL := 8) (ret := (some .long)) (by decide) rfl ?_
  intro p e s m args below meth c s₁ Bd hml hv
  obtain ⟨rfl, hH⟩ := hv
  subst hH
  have hx := Bd.exec
  have hb := Bd.bytes
  have hr := Bd.returns
  have hts := atoms_spec (ws := w_Lo_rem) Bd.pre
  have hown : s.vm.findClass "java/lang/Long" = some m.cls := findClass_of_methodNamed Bd.named
  have hlocks := Bd.notSynchronized
  have hS : va_S (fun _ => False) s.heap s.heap [] := va_S.rf
  have hl := lv_entry ([.long (lN U), .long (lN Q)]) (n := 8) (Nat.le_of_ble_eq_true rfl)
  rw [lg_entry_eq]
  generalize (lg_sl ([.long (lN U), .long (lN Q)]) ++ List.replicate (8 - (lg_sl ([.long (lN U), .long (lN Q)])).length) Slot.unset).toArray = ls at hl ⊢
  have hl : lv_has ls 8 [(0, .long (lN U)), (2, .long (lN Q))] := hl
  refine lv_lload_n hx hb d_Lo_rem_0 rfl (lv_at hl 1 rfl) ?_
  refine lv_lconst (v := 0) hx hb d_Lo_rem_1 (by decide) ?_
  refine W.lcmp hx hb d_Lo_rem_2 ?_
  refine lv_if_lt (tgt := 40) hx hb d_Lo_rem_3 (by decide) (fun c_1 => ?_) (fun c_1 => ?_)
  · -- taken
    exact absurd c_1 (ln_neg (by omega))
  · -- not taken
    refine lv_lload_n hx hb d_Lo_rem_6 rfl (lv_at hl 0 rfl) ?_
    refine lv_iconst (v := 1) hx hb d_Lo_rem_7 (by decide) ?_
    refine lv_lushr (v := ((lN U).toUInt64 >>> ((1 : Int32).toInt64.toUInt64 &&& Int64.toUInt64 63)).toInt64) hx hb d_Lo_rem_8 rfl ?_
    rw [show (((lN U).toUInt64 >>> ((1 : Int32).toInt64.toUInt64 &&& Int64.toUInt64 63)).toInt64 : Int64) = (lN (U / 2)) from ru_half hU]
    refine lv_lload_n hx hb d_Lo_rem_9 rfl (lv_at hl 1 rfl) ?_
    refine lv_ldiv hx hb d_Lo_rem_10 (ln_ne0 hQ0 (by omega)) ?_
    rw [show ((lN (U / 2)) / (lN Q) : Int64) = (lN (U / 2 / Q)) from pk_lDiv (by omega) hQ0 (by omega)]
    refine lv_iconst (v := 1) hx hb d_Lo_rem_11 (by decide) ?_
    refine lv_lshl (v := (lN (U / 2 / Q) : Int64) <<< ((1 : Int32).toInt64 &&& 63)) hx hb d_Lo_rem_12 rfl ?_
    rw [show ((lN (U / 2 / Q) : Int64) <<< ((1 : Int32).toInt64 &&& 63) : Int64) = (lN (2 * (U / 2 / Q))) from ru_dbl _]
    refine lv_lstore (lv' := [(4, .long (lN (2 * (U / 2 / Q)))), (0, .long (lN U)), (2, .long (lN Q))]) hx hb d_Lo_rem_13 hl (by decide) rfl (fun ls hl => ?_)
    refine lv_lload_n hx hb d_Lo_rem_15 rfl (lv_at hl 1 rfl) ?_
    refine lv_lload hx hb d_Lo_rem_16 (lv_at hl 0 rfl) ?_
    refine lv_lload_n hx hb d_Lo_rem_18 rfl (lv_at hl 2 rfl) ?_
    refine lv_lmul hx hb d_Lo_rem_19 ?_
    rw [show ((lN (2 * (U / 2 / Q))) * (lN Q) : Int64) = (lN (2 * (U / 2 / Q) * Q)) from (lN_mul _ _)]
    refine lv_lsub hx hb d_Lo_rem_20 ?_
    rw [show ((lN U) - (lN (2 * (U / 2 / Q) * Q)) : Int64) = (lN (U - 2 * (U / 2 / Q) * Q)) from lN_sub (ru_le U Q)]
    refine lv_lstore (lv' := [(6, .long (lN (U - 2 * (U / 2 / Q) * Q))), (4, .long (lN (2 * (U / 2 / Q)))), (0, .long (lN U)), (2, .long (lN Q))]) hx hb d_Lo_rem_21 hl (by decide) rfl (fun ls hl => ?_)
    refine lv_lload hx hb d_Lo_rem_23 (lv_at hl 0 rfl) ?_
    refine lv_lload hx hb d_Lo_rem_25 (lv_at hl 0 rfl) ?_
    refine lv_lload_n hx hb d_Lo_rem_27 rfl (lv_at hl 3 rfl) ?_
    refine lv_lsub hx hb d_Lo_rem_28 ?_
    refine lv_ldc2 (v := (-1)) hx hb hown (hts _ (List.mem_cons_of_mem _ gk_1089)) d_Lo_rem_29 ?_
    refine lv_lxor hx hb d_Lo_rem_32 ?_
    refine lv_bipush (v := 63) hx hb d_Lo_rem_33 (by decide) ?_
    refine lv_lshr (v := (((lN (U - 2 * (U / 2 / Q) * Q)) - (lN Q)) ^^^ (-1)) >>> ((63 : Int32).toInt64 &&& 63)) hx hb d_Lo_rem_35 rfl ?_
    refine lv_lload_n hx hb d_Lo_rem_36 rfl (lv_at hl 3 rfl) ?_
    refine lv_land hx hb d_Lo_rem_37 ?_
    rw [show (((((lN (U - 2 * (U / 2 / Q) * Q)) - (lN Q)) ^^^ (-1)) >>> ((63 : Int32).toInt64 &&& 63)) &&& (lN Q) : Int64) = (lN (if Q ≤ U - 2 * (U / 2 / Q) * Q then Q else 0)) from ru_mask (ru_lt U hQ0) hQ61]
    refine lv_lsub hx hb d_Lo_rem_38 ?_
    rw [show ((lN (U - 2 * (U / 2 / Q) * Q)) - (lN (if Q ≤ U - 2 * (U / 2 / Q) * Q then Q else 0)) : Int64) = (lN (U % Q)) from ru_end U hQ0]
    exact W.lret (v := (lN (U % Q))) hx hb hr (fun t ht hW => ⟨⟨_, (), rfl, rfl, ht⟩, hS.F ht⟩) hS.2.2 d_Lo_rem_39
abbrev b_Bm_hash : ByteArray := prog_10_method_19_code
abbrev y_Bm_hash : MethodName := ⟨"BallotBoardModel", "hash", "(I)J"⟩
abbrev w_Bm_hash : List Cond := .code y_Bm_hash b_Bm_hash 3 (some .long) :: gw
theorem d_Bm_hash_0 : decode b_Bm_hash 0 = .ok (.aload_n 0, 1) := by decide +kernel
theorem d_Bm_hash_1 : decode b_Bm_hash 1 = .ok (.iconst 0, 1) := by decide +kernel
theorem d_Bm_hash_2 : decode b_Bm_hash 2 = .ok (.putfield 135, 3) := by decide +kernel
theorem d_Bm_hash_5 : decode b_Bm_hash 5 = .ok (.aload_n 0, 1) := by decide +kernel
theorem d_Bm_hash_6 : decode b_Bm_hash 6 = .ok (.aload_n 0, 1) := by decide +kernel
theorem d_Bm_hash_7 : decode b_Bm_hash 7 = .ok (.getfield 164, 3) := by decide +kernel
theorem d_Bm_hash_10 : decode b_Bm_hash 10 = .ok (.invokevirtual 138, 3) := by decide +kernel
theorem d_Bm_hash_13 : decode b_Bm_hash 13 = .ok (.aload_n 0, 1) := by decide +kernel
theorem d_Bm_hash_14 : decode b_Bm_hash 14 = .ok (.aload_n 0, 1) := by decide +kernel
theorem d_Bm_hash_15 : decode b_Bm_hash 15 = .ok (.getfield 180, 3) := by decide +kernel
theorem d_Bm_hash_18 : decode b_Bm_hash 18 = .ok (.invokevirtual 138, 3) := by decide +kernel
theorem d_Bm_hash_21 : decode b_Bm_hash 21 = .ok (.iconst 0, 1) := by decide +kernel
theorem d_Bm_hash_22 : decode b_Bm_hash 22 = .ok (.istore_n 2, 1) := by decide +kernel
theorem d_Bm_hash_23 : decode b_Bm_hash 23 = .ok (.iload_n 2, 1) := by decide +kernel
theorem d_Bm_hash_24 : decode b_Bm_hash 24 = .ok (.iload_n 1, 1) := by decide +kernel
theorem d_Bm_hash_25 : decode b_Bm_hash 25 = .ok (.if_icmp .ge 19, 3) := by decide +kernel
theorem d_Bm_hash_28 : decode b_Bm_hash 28 = .ok (.aload_n 0, 1) := by decide +kernel
theorem d_Bm_hash_29 : decode b_Bm_hash 29 = .ok (.aload_n 0, 1) := by decide +kernel
theorem d_Bm_hash_30 : decode b_Bm_hash 30 = .ok (.getfield 19, 3) := by decide +kernel
theorem d_Bm_hash_33 : decode b_Bm_hash 33 = .ok (.iload_n 2, 1) := by decide +kernel
theorem d_Bm_hash_34 : decode b_Bm_hash 34 = .ok (.laload, 1) := by decide +kernel
theorem d_Bm_hash_35 : decode b_Bm_hash 35 = .ok (.invokevirtual 138, 3) := by decide +kernel
theorem d_Bm_hash_38 : decode b_Bm_hash 38 = .ok (.iinc 2 1, 3) := by decide +kernel
theorem d_Bm_hash_41 : decode b_Bm_hash 41 = .ok (.goto (-18), 3) := by decide +kernel
theorem d_Bm_hash_44 : decode b_Bm_hash 44 = .ok (.aload_n 0, 1) := by decide +kernel
theorem d_Bm_hash_45 : decode b_Bm_hash 45 = .ok (.invokevirtual 183, 3) := by decide +kernel
theorem d_Bm_hash_48 : decode b_Bm_hash 48 = .ok (.aload_n 0, 1) := by decide +kernel
theorem d_Bm_hash_49 : decode b_Bm_hash 49 = .ok (.getfield 16, 3) := by decide +kernel
theorem d_Bm_hash_52 : decode b_Bm_hash 52 = .ok (.iconst 0, 1) := by decide +kernel
theorem d_Bm_hash_53 : decode b_Bm_hash 53 = .ok (.laload, 1) := by decide +kernel
theorem d_Bm_hash_54 : decode b_Bm_hash 54 = .ok (.aload_n 0, 1) := by decide +kernel
theorem d_Bm_hash_55 : decode b_Bm_hash 55 = .ok (.getfield 168, 3) := by decide +kernel
theorem d_Bm_hash_58 : decode b_Bm_hash 58 = .ok (.invokestatic 186, 3) := by decide +kernel
theorem d_Bm_hash_61 : decode b_Bm_hash 61 = .ok (.lreturn, 1) := by decide +kernel
set_option maxHeartbeats 8000000 in
set_option maxRecDepth 100000 in
theorem c_Bm_hash_4 (l : Launch) (dC : Nat → ClassId) (dI : Nat → Nat → Nat) (cJ cI : ClassId) (sz : Nat) (m0 : Nat) (z0 z1 z2 z3 : Int32) (z7 z8 z9 : Int64) (z10 : Int32) (a0 a1 a2 a3 a4 a5 a6 a7 a8 a9 b0 b1 oc b2 b3 b4 b5 : Nat) (P Q G : Nat) (bf sc st : Nat → Int32) (tf lf : Nat → Int64) (msg : List Int64) (hPQ : P = 2 * Q + 1) (h61F : P < 2 ^ 61) (hQ3 : 3 ≤ Q) (hmsg : [lN P, lN G, lf 0, lf 1, lf 2, lf 3] = msg) : Met l y_Bm_hash w_Bm_hash ({ frames := 3, cells := 0, slots := 0, locals := 75 }) (va_Pc [.ref m0, .int 4] (fun U => U.heap.size = sz ∧ va_P (dC, dI) classes (mo_ws m0 z0 z1 z2 z3 (lN P) (lN Q) (lN G) z7 z8 z9 z10 a0 a1 a2 a3 a4 a5 a6 a7 a8 a9 b0 b1 oc b2 b3 b4 b5 ++ (iw_ws a7 cI 256 bf ++ (iw_ws a8 cI 64 sc ++ (iw_ws a9 cI 8 st ++ (iw_ws b0 cI 8 kS ++ (iw_ws b1 cI 64 kR ++ (jw_ws a2 cJ 4 tf ++ (jw_ws a3 cJ 16 lf)))))))) U.heap ∧ va_K (dC, dI) classes [(cJ, .long), (cI, .int)] U ∧ va_D (fun _ => True) (mo_ws m0 z0 z1 z2 z3 (lN P) (lN Q) (lN G) z7 z8 z9 z10 a0 a1 a2 a3 a4 a5 a6 a7 a8 a9 b0 b1 oc b2 b3 b4 b5 ++ (iw_ws a7 cI 256 bf ++ (iw_ws a8 cI 64 sc ++ (iw_ws a9 cI 8 st ++ (iw_ws b0 cI 8 kS ++ (iw_ws b1 cI 64 kR ++ (jw_ws a2 cJ 4 tf ++ (jw_ws a3 cJ 16 lf)))))))))) (va_Ql (fun (r : Int64) (u9 : DU) => r = lN (hsh Q msg)) (fun u9 t => va_P (dC, dI) classes (mo_ws m0 z0 z1 z2 z3 (lN P) (lN Q) (lN G) z7 z8 z9 z10 a0 a1 a2 a3 a4 a5 a6 a7 a8 a9 b0 b1 u9.2.2.2.2 b2 b3 b4 b5 ++ (iw_ws a7 cI 256 u9.1 ++ (iw_ws a8 cI 64 u9.2.1 ++ (iw_ws a9 cI 8 u9.2.2.1 ++ (iw_ws b0 cI 8 kS ++ (iw_ws b1 cI 64 kR ++ (jw_ws a2 cJ 4 u9.2.2.2.1 ++ (jw_ws a3 cJ 16 lf)))))))) t.heap ∧ va_K (dC, dI) classes [(cJ, .long), (cI, .int)] t ∧ va_D (va_A (mo_ws m0 z0 z1 z2 z3 (lN P) (lN Q) (lN G) z7 z8 z9 z10 a0 a1 a2 a3 a4 a5 a6 a7 a8 a9 b0 b1 oc b2 b3 b4 b5 ++ (iw_ws a7 cI 256 bf ++ (iw_ws a8 cI 64 sc ++ (iw_ws a9 cI 8 st ++ (iw_ws b0 cI 8 kS ++ (iw_ws b1 cI 64 kR ++ (jw_ws a2 cJ 4 tf ++ (jw_ws a3 cJ 16 lf)))))))) sz) (mo_ws m0 z0 z1 z2 z3 (lN P) (lN Q) (lN G) z7 z8 z9 z10 a0 a1 a2 a3 a4 a5 a6 a7 a8 a9 b0 b1 u9.2.2.2.2 b2 b3 b4 b5 ++ (iw_ws a7 cI 256 u9.1 ++ (iw_ws a8 cI 64 u9.2.1 ++ (iw_ws a9 cI 8 u9.2.2.1 ++ (iw_ws b0 cI 8 kS ++ (iw_ws b1 cI 64 kR ++ (jw_ws a2 cJ 4 u9.2.2.2.1 ++ (jw_ws a3 cJ 16 lf))))))))) (va_A (mo_ws m0 z0 z1 z2 z3 (lN P) (lN Q) (lN G) z7 z8 z9 z10 a0 a1 a2 a3 a4 a5 a6 a7 a8 a9 b0 b1 oc b2 b3 b4 b5 ++ (iw_ws a7 cI 256 bf ++ (iw_ws a8 cI 64 sc ++ (iw_ws a9 cI 8 st ++ (iw_ws b0 cI 8 kS ++ (iw_ws b1 cI 64 kR ++ (jw_ws a2 cJ 4 tf ++ (jw_ws a3 cJ 16 lf)))))))) sz)) 0 0 (va_A (mo_ws m0 z0 z1 z2 z3 (lN P) (lN Q) (lN G) z7 z8 z9 z10 a0 a1 a2 a3 a4 a5 a6 a7 a8 a9 b0 b1 oc b2 b3 b4 b5 ++ (iw_ws a7 cI 256 bf ++ (iw_ws a8 cI 64 sc ++ (iw_ws a9 cI 8 st ++ (iw_ws b0 cI 8 kS ++ (iw_ws b1 cI 64 kR ++ (jw_ws a2 cJ 4 tf ++ (jw_ws a3 cJ 16 lf)))))))) sz) := by
  refine Met.ofW (cc := b_Bm_hash) (maxL := 3) (ret := (some .long)) (by decide) rfl ?_
  intro p e s m args below meth c s₁ Bd hml hv
  obtain ⟨rfl, hsz, hP, hK, hD0⟩ := hv
  have hx := Bd.exec
  have hb := Bd.bytes
  have hr := Bd.returns
  have hts := atoms_spec (ws := w_Bm_hash) Bd.pre
  have hown : s.vm.findClass "BallotBoardModel" = some m.cls := findClass_of_methodNamed Bd.named
  have hlocks := Bd.notSynchronized
  subst hsz
  have hD := hD0.self (sz := s.heap.size)
  generalize hAe : va_A (mo_ws m0 z0 z1 z2 z3 (lN P) (lN Q) (lN G) z7 z8 z9 z10 a0 a1 a2 a3 a4 a5 a6 a7 a8 a9 b0 b1 oc b2 b3 b4 b5 ++ (iw_ws a7 cI 256 bf ++ (iw_ws a8 cI 64 sc ++ (iw_ws a9 cI 8 st ++ (iw_ws b0 cI 8 kS ++ (iw_ws b1 cI 64 kR ++ (jw_ws a2 cJ 4 tf ++ (jw_ws a3 cJ 16 lf)))))))) s.heap.size = A at hD ⊢
  have hA : ∀ q : Nat, s.heap.size ≤ q → A q := fun q h => by rw [← hAe]; exact Or.inr h
  have hS : va_S A s.heap s.heap [] := va_S.rf
  have hl := lv_entry ([.ref m0, .int 4]) (n := 3) (Nat.le_of_ble_eq_true rfl)
  rw [lg_entry_eq]
  generalize (lg_sl ([.ref m0, .int 4]) ++ List.replicate (3 - (lg_sl ([.ref m0, .int 4])).length) Slot.unset).toArray = ls at hl ⊢
  have hl : lv_has ls 3 [(0, .ref m0), (1, .int 4)] := hl
  refine lv_aload_n hx hb d_Bm_hash_0 rfl (lv_at hl 0 rfl) ?_
  refine lv_iconst (v := 0) hx hb d_Bm_hash_1 (by decide) ?_
  refine va_put (D := (dC, dI)) (ci := 8) (v := .int 0) (ty := .int) (C := "BallotBoardModel") (T := F_Bm) (N := 28) hx hb hts (fun w9 h9 => List.mem_cons_of_mem _ (i_Bm w9 h9)) t_Bm t_Bm_ok n_Bm hown hK hP hD hS 0 rfl rfl 23 (by decide) (hts _ (List.mem_cons_of_mem _ gk_942)) (fun _ h9 => h9) rfl (by decide +kernel) rfl rfl (Nat.le_of_ble_eq_true rfl) d_Bm_hash_2 (fun H locs hP hD hS => ?_)
  have hP : va_P (dC, dI) classes [(m0, .inr (8, [.int z0, .int z1, .int z2, .int z3, .long (lN P), .long (lN Q), .long (lN G), .long z7, .long z8, .long z9, .int z10, .ref a0, .ref a1, .ref a2, .ref a3, .ref a4, .ref a5, .ref a6, .ref a7, .ref a8, .ref a9, .ref b0, .ref b1, .int 0, .ref b2, .ref b3, .ref b4, .ref b5])), (a7, .inl (cI, 256, .inl bf)), (a8, .inl (cI, 64, .inl sc)), (a9, .inl (cI, 8, .inl st)), (b0, .inl (cI, 8, .inl kS)), (b1, .inl (cI, 64, .inl kR)), (a2, .inl (cJ, 4, .inr (.inl tf))), (a3, .inl (cJ, 16, .inr (.inl lf)))] H := hP
  have hD : va_D A [(m0, .inr (8, [.int z0, .int z1, .int z2, .int z3, .long (lN P), .long (lN Q), .long (lN G), .long z7, .long z8, .long z9, .int z10, .ref a0, .ref a1, .ref a2, .ref a3, .ref a4, .ref a5, .ref a6, .ref a7, .ref a8, .ref a9, .ref b0, .ref b1, .int 0, .ref b2, .ref b3, .ref b4, .ref b5])), (a7, .inl (cI, 256, .inl bf)), (a8, .inl (cI, 64, .inl sc)), (a9, .inl (cI, 8, .inl st)), (b0, .inl (cI, 8, .inl kS)), (b1, .inl (cI, 64, .inl kR)), (a2, .inl (cJ, 4, .inr (.inl tf))), (a3, .inl (cJ, 16, .inr (.inl lf)))] := hD
  have hm0 := bok_0 bf
  refine lv_aload_n hx hb d_Bm_hash_5 rfl (lv_at hl 0 rfl) ?_
  refine lv_aload_n hx hb d_Bm_hash_6 rfl (lv_at hl 0 rfl) ?_
  refine va_get (D := (dC, dI)) (ci := 8) (v := .long (lN P)) (C := "BallotBoardModel") (T := F_Bm) (N := 28) hx hb hts (fun w9 h9 => List.mem_cons_of_mem _ (i_Bm w9 h9)) hown hK hP 0 rfl rfl 4 (by decide) (hts _ (List.mem_cons_of_mem _ gk_923)) (fun _ h9 => h9) rfl d_Bm_hash_7 ?_
  have hPc := hP.sub (ws' := (mo_ws m0 z0 z1 z2 z3 (lN P) (lN Q) (lN G) z7 z8 z9 z10 a0 a1 a2 a3 a4 a5 a6 a7 a8 a9 b0 b1 0 b2 b3 b4 b5 ++ (iw_ws a7 cI 256 bf))) [0, 1] rfl
  have hDc := hD.sub (ws' := (mo_ws m0 z0 z1 z2 z3 (lN P) (lN Q) (lN G) z7 z8 z9 z10 a0 a1 a2 a3 a4 a5 a6 a7 a8 a9 b0 b1 0 b2 b3 b4 b5 ++ (iw_ws a7 cI 256 bf))) [0, 1] (by decide) rfl
  have hKc := hK.sub (tys' := [(cJ, .long), (cI, .int)]) [0, 1] rfl
  have hFc := va_free (wc := (mo_ws m0 z0 z1 z2 z3 (lN P) (lN Q) (lN G) z7 z8 z9 z10 a0 a1 a2 a3 a4 a5 a6 a7 a8 a9 b0 b1 0 b2 b3 b4 b5 ++ (iw_ws a7 cI 256 bf))) hD hS hA [0, 1] rfl
  refine va_callv (va_runV (As := [.long (lN P)]) (rest := []) ⟨hx, hb, hml, hown, hts⟩ (c_Bm_eight l dC dI cJ cI H.size m0 z0 z1 z2 z3 (lN P) (lN Q) (lN G) z7 z8 z9 z10 a0 a1 a2 a3 a4 a5 a6 a7 a8 a9 b0 b1 0 b2 b3 b4 b5 bf (lN P) (by omega)) (cwV 1 hts (gw_V gk_1070 gk_1072 gp_36 gk_7 gk_1073) rfl rfl rfl (by decide +kernel) ⟨Nat.le_of_ble_eq_true rfl, Nat.le_of_ble_eq_true rfl⟩) ⟨fun a U g mk q => by obtain ⟨q0, q1, qP, qK, qD⟩ := q; exact ⟨q0, q1, qP, va_K.moved (u := U) (U := U.calling g mk a) (Vm.Alike.refl U.vm) qK, qD⟩, va_recv hK hP (ci := 8) (q0 := 0) rfl rfl, fun U hU hW => ⟨rfl, by rw [hU], by rw [hU]; exact hPc, va_K.moved hW.alike hKc, hDc.weaken (fun _ _ _ _ => trivial)⟩⟩ rfl rfl hl.1 rfl (lv_room (Nat.le_of_ble_eq_true rfl)) d_Bm_hash_10 ⟨Nat.le_of_ble_eq_true rfl, Nat.le_of_ble_eq_true rfl⟩) hS (fun q _ h => hFc q h) hFc (fun u9 t9 H1 locs ht hvm hw hB hz1 hk1 hS => ?_)
  obtain ⟨hP1, hK1, hD1⟩ := hB
  rw [ht] at hP1
  obtain ⟨hP, hD⟩ := va_join (wr := [(a8, .inl (cI, 64, .inl sc)), (a9, .inl (cI, 8, .inl st)), (b0, .inl (cI, 8, .inl kS)), (b1, .inl (cI, 64, .inl kR)), (a2, .inl (cJ, 4, .inr (.inl tf))), (a3, .inl (cJ, 16, .inr (.inl lf)))]) (w1 := [(m0, .inr (8, [.int z0, .int z1, .int z2, .int z3, .long (lN P), .long (lN Q), .long (lN G), .long z7, .long z8, .long z9, .int z10, .ref a0, .ref a1, .ref a2, .ref a3, .ref a4, .ref a5, .ref a6, .ref a7, .ref a8, .ref a9, .ref b0, .ref b1, .int (nI 8), .ref b2, .ref b3, .ref b4, .ref b5])), (a7, .inl (cI, 256, .inl (o8 bf 0 (lN P))))]) hP hD [0, 1] [2, 3, 4, 5, 6, 7] rfl rfl (by decide) (by decide) hk1 hFc hP1 hD1
  have hP := hP.sub (ws' := [(m0, .inr (8, [.int z0, .int z1, .int z2, .int z3, .long (lN P), .long (lN Q), .long (lN G), .long z7, .long z8, .long z9, .int z10, .ref a0, .ref a1, .ref a2, .ref a3, .ref a4, .ref a5, .ref a6, .ref a7, .ref a8, .ref a9, .ref b0, .ref b1, .int (nI 8), .ref b2, .ref b3, .ref b4, .ref b5])), (a7, .inl (cI, 256, .inl (o8 bf 0 (lN P)))), (a8, .inl (cI, 64, .inl sc)), (a9, .inl (cI, 8, .inl st)), (b0, .inl (cI, 8, .inl kS)), (b1, .inl (cI, 64, .inl kR)), (a2, .inl (cJ, 4, .inr (.inl tf))), (a3, .inl (cJ, 16, .inr (.inl lf)))]) [6, 7, 0, 1, 2, 3, 4, 5] rfl
  have hD := hD.sub (ws' := [(m0, .inr (8, [.int z0, .int z1, .int z2, .int z3, .long (lN P), .long (lN Q), .long (lN G), .long z7, .long z8, .long z9, .int z10, .ref a0, .ref a1, .ref a2, .ref a3, .ref a4, .ref a5, .ref a6, .ref a7, .ref a8, .ref a9, .ref b0, .ref b1, .int (nI 8), .ref b2, .ref b3, .ref b4, .ref b5])), (a7, .inl (cI, 256, .inl (o8 bf 0 (lN P)))), (a8, .inl (cI, 64, .inl sc)), (a9, .inl (cI, 8, .inl st)), (b0, .inl (cI, 8, .inl kS)), (b1, .inl (cI, 64, .inl kR)), (a2, .inl (cJ, 4, .inr (.inl tf))), (a3, .inl (cJ, 16, .inr (.inl lf)))]) [6, 7, 0, 1, 2, 3, 4, 5] (by decide) rfl
  generalize H1 = H at hP hS ⊢
  obtain ⟨g_2, eg_2⟩ : ∃ f : Nat → Int32, f = o8 bf 0 (lN P) := ⟨_, rfl⟩
  rw [← eg_2] at hP hD
  have hm_3 : bok g_2 1 [lN P] := bok_add _ hm0 rfl eg_2
  refine lv_aload_n hx hb d_Bm_hash_13 rfl (lv_at hl 0 rfl) ?_
  refine lv_aload_n hx hb d_Bm_hash_14 rfl (lv_at hl 0 rfl) ?_
  refine va_get (D := (dC, dI)) (ci := 8) (v := .long (lN G)) (C := "BallotBoardModel") (T := F_Bm) (N := 28) hx hb hts (fun w9 h9 => List.mem_cons_of_mem _ (i_Bm w9 h9)) hown hK hP 0 rfl rfl 6 (by decide) (hts _ (List.mem_cons_of_mem _ gk_925)) (fun _ h9 => h9) rfl d_Bm_hash_15 ?_
  have hPc := hP.sub (ws' := (mo_ws m0 z0 z1 z2 z3 (lN P) (lN Q) (lN G) z7 z8 z9 z10 a0 a1 a2 a3 a4 a5 a6 a7 a8 a9 b0 b1 8 b2 b3 b4 b5 ++ (iw_ws a7 cI 256 g_2))) [0, 1] rfl
  have hDc := hD.sub (ws' := (mo_ws m0 z0 z1 z2 z3 (lN P) (lN Q) (lN G) z7 z8 z9 z10 a0 a1 a2 a3 a4 a5 a6 a7 a8 a9 b0 b1 8 b2 b3 b4 b5 ++ (iw_ws a7 cI 256 g_2))) [0, 1] (by decide) rfl
  have hKc := hK.sub (tys' := [(cJ, .long), (cI, .int)]) [0, 1] rfl
  have hFc := va_free (wc := (mo_ws m0 z0 z1 z2 z3 (lN P) (lN Q) (lN G) z7 z8 z9 z10 a0 a1 a2 a3 a4 a5 a6 a7 a8 a9 b0 b1 8 b2 b3 b4 b5 ++ (iw_ws a7 cI 256 g_2))) hD hS hA [0, 1] rfl
  refine va_callv (va_runV (As := [.long (lN G)]) (rest := []) ⟨hx, hb, hml, hown, hts⟩ (c_Bm_eight l dC dI cJ cI H.size m0 z0 z1 z2 z3 (lN P) (lN Q) (lN G) z7 z8 z9 z10 a0 a1 a2 a3 a4 a5 a6 a7 a8 a9 b0 b1 8 b2 b3 b4 b5 g_2 (lN G) (by omega)) (cwV 1 hts (gw_V gk_1070 gk_1072 gp_36 gk_7 gk_1073) rfl rfl rfl (by decide +kernel) ⟨Nat.le_of_ble_eq_true rfl, Nat.le_of_ble_eq_true rfl⟩) ⟨fun a U g mk q => by obtain ⟨q0, q1, qP, qK, qD⟩ := q; exact ⟨q0, q1, qP, va_K.moved (u := U) (U := U.calling g mk a) (Vm.Alike.refl U.vm) qK, qD⟩, va_recv hK hP (ci := 8) (q0 := 0) rfl rfl, fun U hU hW => ⟨rfl, by rw [hU], by rw [hU]; exact hPc, va_K.moved hW.alike hKc, hDc.weaken (fun _ _ _ _ => trivial)⟩⟩ rfl rfl hl.1 rfl (lv_room (Nat.le_of_ble_eq_true rfl)) d_Bm_hash_18 ⟨Nat.le_of_ble_eq_true rfl, Nat.le_of_ble_eq_true rfl⟩) hS (fun q _ h => hFc q h) hFc (fun u9 t9 H1 locs ht hvm hw hB hz1 hk1 hS => ?_)
  obtain ⟨hP1, hK1, hD1⟩ := hB
  rw [ht] at hP1
  obtain ⟨hP, hD⟩ := va_join (wr := [(a8, .inl (cI, 64, .inl sc)), (a9, .inl (cI, 8, .inl st)), (b0, .inl (cI, 8, .inl kS)), (b1, .inl (cI, 64, .inl kR)), (a2, .inl (cJ, 4, .inr (.inl tf))), (a3, .inl (cJ, 16, .inr (.inl lf)))]) (w1 := [(m0, .inr (8, [.int z0, .int z1, .int z2, .int z3, .long (lN P), .long (lN Q), .long (lN G), .long z7, .long z8, .long z9, .int z10, .ref a0, .ref a1, .ref a2, .ref a3, .ref a4, .ref a5, .ref a6, .ref a7, .ref a8, .ref a9, .ref b0, .ref b1, .int (nI 16), .ref b2, .ref b3, .ref b4, .ref b5])), (a7, .inl (cI, 256, .inl (o8 g_2 8 (lN G))))]) hP hD [0, 1] [2, 3, 4, 5, 6, 7] rfl rfl (by decide) (by decide) hk1 hFc hP1 hD1
  have hP := hP.sub (ws' := [(m0, .inr (8, [.int z0, .int z1, .int z2, .int z3, .long (lN P), .long (lN Q), .long (lN G), .long z7, .long z8, .long z9, .int z10, .ref a0, .ref a1, .ref a2, .ref a3, .ref a4, .ref a5, .ref a6, .ref a7, .ref a8, .ref a9, .ref b0, .ref b1, .int (nI 16), .ref b2, .ref b3, .ref b4, .ref b5])), (a7, .inl (cI, 256, .inl (o8 g_2 8 (lN G)))), (a8, .inl (cI, 64, .inl sc)), (a9, .inl (cI, 8, .inl st)), (b0, .inl (cI, 8, .inl kS)), (b1, .inl (cI, 64, .inl kR)), (a2, .inl (cJ, 4, .inr (.inl tf))), (a3, .inl (cJ, 16, .inr (.inl lf)))]) [6, 7, 0, 1, 2, 3, 4, 5] rfl
  have hD := hD.sub (ws' := [(m0, .inr (8, [.int z0, .int z1, .int z2, .int z3, .long (lN P), .long (lN Q), .long (lN G), .long z7, .long z8, .long z9, .int z10, .ref a0, .ref a1, .ref a2, .ref a3, .ref a4, .ref a5, .ref a6, .ref a7, .ref a8, .ref a9, .ref b0, .ref b1, .int (nI 16), .ref b2, .ref b3, .ref b4, .ref b5])), (a7, .inl (cI, 256, .inl (o8 g_2 8 (lN G)))), (a8, .inl (cI, 64, .inl sc)), (a9, .inl (cI, 8, .inl st)), (b0, .inl (cI, 8, .inl kS)), (b1, .inl (cI, 64, .inl kR)), (a2, .inl (cJ, 4, .inr (.inl tf))), (a3, .inl (cJ, 16, .inr (.inl lf)))]) [6, 7, 0, 1, 2, 3, 4, 5] (by decide) rfl
  generalize H1 = H at hP hS ⊢
  obtain ⟨g_5, eg_5⟩ : ∃ f : Nat → Int32, f = o8 g_2 8 (lN G) := ⟨_, rfl⟩
  rw [← eg_5] at hP hD
  have hm_6 : bok g_5 2 [lN P, lN G] := bok_add _ hm_3 rfl eg_5
  refine lv_iconst (v := 0) hx hb d_Bm_hash_21 (by decide) ?_
  refine lv_istore_n (lv' := [(2, .int 0), (0, .ref m0), (1, .int 4)]) hx hb d_Bm_hash_22 rfl hl (by decide) rfl (fun ls hl => ?_)
  refine lv_iload_n hx hb d_Bm_hash_23 rfl (lv_at hl 0 rfl) ?_
  refine lv_iload_n hx hb d_Bm_hash_24 rfl (lv_at hl 2 rfl) ?_
  refine lv_icmp_ge (tgt := 44) hx hb d_Bm_hash_25 (by decide) (fun c_7 => ?_) (fun c_7 => ?_)
  · -- taken
    exact absurd c_7 (by decide)
  · -- not taken
    refine lv_aload_n hx hb d_Bm_hash_28 rfl (lv_at hl 1 rfl) ?_
    refine lv_aload_n hx hb d_Bm_hash_29 rfl (lv_at hl 1 rfl) ?_
    refine va_get (D := (dC, dI)) (ci := 8) (v := .ref a3) (C := "BallotBoardModel") (T := F_Bm) (N := 28) hx hb hts (fun w9 h9 => List.mem_cons_of_mem _ (i_Bm w9 h9)) hown hK hP 0 rfl rfl 14 (by decide) (hts _ (List.mem_cons_of_mem _ gk_933)) (fun _ h9 => h9) rfl d_Bm_hash_30 ?_
    refine lv_iload_n hx hb d_Bm_hash_33 rfl (lv_at hl 0 rfl) ?_
    refine va_lald hx hb hK hP 7 0 rfl rfl (vp_lit rfl) d_Bm_hash_34 ?_
    rw [show (lf (0 : Int32).toNatClampNeg : Int64) = lf 0 from rfl]
    have hPc := hP.sub (ws' := (mo_ws m0 z0 z1 z2 z3 (lN P) (lN Q) (lN G) z7 z8 z9 z10 a0 a1 a2 a3 a4 a5 a6 a7 a8 a9 b0 b1 16 b2 b3 b4 b5 ++ (iw_ws a7 cI 256 g_5))) [0, 1] rfl
    have hDc := hD.sub (ws' := (mo_ws m0 z0 z1 z2 z3 (lN P) (lN Q) (lN G) z7 z8 z9 z10 a0 a1 a2 a3 a4 a5 a6 a7 a8 a9 b0 b1 16 b2 b3 b4 b5 ++ (iw_ws a7 cI 256 g_5))) [0, 1] (by decide) rfl
    have hKc := hK.sub (tys' := [(cJ, .long), (cI, .int)]) [0, 1] rfl
    have hFc := va_free (wc := (mo_ws m0 z0 z1 z2 z3 (lN P) (lN Q) (lN G) z7 z8 z9 z10 a0 a1 a2 a3 a4 a5 a6 a7 a8 a9 b0 b1 16 b2 b3 b4 b5 ++ (iw_ws a7 cI 256 g_5))) hD hS hA [0, 1] rfl
    refine va_callv (va_runV (As := [.long (lf 0)]) (rest := []) ⟨hx, hb, hml, hown, hts⟩ (c_Bm_eight l dC dI cJ cI H.size m0 z0 z1 z2 z3 (lN P) (lN Q) (lN G) z7 z8 z9 z10 a0 a1 a2 a3 a4 a5 a6 a7 a8 a9 b0 b1 16 b2 b3 b4 b5 g_5 (lf 0) (by omega)) (cwV 1 hts (gw_V gk_1070 gk_1072 gp_36 gk_7 gk_1073) rfl rfl rfl (by decide +kernel) ⟨Nat.le_of_ble_eq_true rfl, Nat.le_of_ble_eq_true rfl⟩) ⟨fun a U g mk q => by obtain ⟨q0, q1, qP, qK, qD⟩ := q; exact ⟨q0, q1, qP, va_K.moved (u := U) (U := U.calling g mk a) (Vm.Alike.refl U.vm) qK, qD⟩, va_recv hK hP (ci := 8) (q0 := 0) rfl rfl, fun U hU hW => ⟨rfl, by rw [hU], by rw [hU]; exact hPc, va_K.moved hW.alike hKc, hDc.weaken (fun _ _ _ _ => trivial)⟩⟩ rfl rfl hl.1 rfl (lv_room (Nat.le_of_ble_eq_true rfl)) d_Bm_hash_35 ⟨Nat.le_of_ble_eq_true rfl, Nat.le_of_ble_eq_true rfl⟩) hS (fun q _ h => hFc q h) hFc (fun u9 t9 H1 locs ht hvm hw hB hz1 hk1 hS => ?_)
    obtain ⟨hP1, hK1, hD1⟩ := hB
    rw [ht] at hP1
    obtain ⟨hP, hD⟩ := va_join (wr := [(a8, .inl (cI, 64, .inl sc)), (a9, .inl (cI, 8, .inl st)), (b0, .inl (cI, 8, .inl kS)), (b1, .inl (cI, 64, .inl kR)), (a2, .inl (cJ, 4, .inr (.inl tf))), (a3, .inl (cJ, 16, .inr (.inl lf)))]) (w1 := [(m0, .inr (8, [.int z0, .int z1, .int z2, .int z3, .long (lN P), .long (lN Q), .long (lN G), .long z7, .long z8, .long z9, .int z10, .ref a0, .ref a1, .ref a2, .ref a3, .ref a4, .ref a5, .ref a6, .ref a7, .ref a8, .ref a9, .ref b0, .ref b1, .int (nI 24), .ref b2, .ref b3, .ref b4, .ref b5])), (a7, .inl (cI, 256, .inl (o8 g_5 16 (lf 0))))]) hP hD [0, 1] [2, 3, 4, 5, 6, 7] rfl rfl (by decide) (by decide) hk1 hFc hP1 hD1
    have hP := hP.sub (ws' := [(m0, .inr (8, [.int z0, .int z1, .int z2, .int z3, .long (lN P), .long (lN Q), .long (lN G), .long z7, .long z8, .long z9, .int z10, .ref a0, .ref a1, .ref a2, .ref a3, .ref a4, .ref a5, .ref a6, .ref a7, .ref a8, .ref a9, .ref b0, .ref b1, .int (nI 24), .ref b2, .ref b3, .ref b4, .ref b5])), (a7, .inl (cI, 256, .inl (o8 g_5 16 (lf 0)))), (a8, .inl (cI, 64, .inl sc)), (a9, .inl (cI, 8, .inl st)), (b0, .inl (cI, 8, .inl kS)), (b1, .inl (cI, 64, .inl kR)), (a2, .inl (cJ, 4, .inr (.inl tf))), (a3, .inl (cJ, 16, .inr (.inl lf)))]) [6, 7, 0, 1, 2, 3, 4, 5] rfl
    have hD := hD.sub (ws' := [(m0, .inr (8, [.int z0, .int z1, .int z2, .int z3, .long (lN P), .long (lN Q), .long (lN G), .long z7, .long z8, .long z9, .int z10, .ref a0, .ref a1, .ref a2, .ref a3, .ref a4, .ref a5, .ref a6, .ref a7, .ref a8, .ref a9, .ref b0, .ref b1, .int (nI 24), .ref b2, .ref b3, .ref b4, .ref b5])), (a7, .inl (cI, 256, .inl (o8 g_5 16 (lf 0)))), (a8, .inl (cI, 64, .inl sc)), (a9, .inl (cI, 8, .inl st)), (b0, .inl (cI, 8, .inl kS)), (b1, .inl (cI, 64, .inl kR)), (a2, .inl (cJ, 4, .inr (.inl tf))), (a3, .inl (cJ, 16, .inr (.inl lf)))]) [6, 7, 0, 1, 2, 3, 4, 5] (by decide) rfl
    generalize H1 = H at hP hS ⊢
    obtain ⟨g_9, eg_9⟩ : ∃ f : Nat → Int32, f = o8 g_5 16 (lf 0) := ⟨_, rfl⟩
    rw [← eg_9] at hP hD
    have hm_10 : bok g_9 3 [lN P, lN G, lf 0] := bok_add _ hm_6 rfl eg_9
    obtain ⟨i_11, ei_11⟩ : ∃ y : Int32, y = 0 + 1 := ⟨_, rfl⟩
    refine lv_iinc (v := i_11) (lv' := [(2, .int i_11), (0, .ref m0), (1, .int 4)]) hx hb d_Bm_hash_38 hl (k := 0) rfl (by rw [ei_11]; rfl) (by decide) rfl (fun ls hl => ?_)
    obtain rfl : i_11 = 1 := by rw [ei_11]; exact by decide
    refine lv_goto (tgt := 23) hx hb d_Bm_hash_41 (by decide) ?_
    refine lv_iload_n hx hb d_Bm_hash_23 rfl (lv_at hl 0 rfl) ?_
    refine lv_iload_n hx hb d_Bm_hash_24 rfl (lv_at hl 2 rfl) ?_
    refine lv_icmp_ge (tgt := 44) hx hb d_Bm_hash_25 (by decide) (fun c_12 => ?_) (fun c_12 => ?_)
    · -- taken
      exact absurd c_12 (by decide)
    · -- not taken
      refine lv_aload_n hx hb d_Bm_hash_28 rfl (lv_at hl 1 rfl) ?_
      refine lv_aload_n hx hb d_Bm_hash_29 rfl (lv_at hl 1 rfl) ?_
      refine va_get (D := (dC, dI)) (ci := 8) (v := .ref a3) (C := "BallotBoardModel") (T := F_Bm) (N := 28) hx hb hts (fun w9 h9 => List.mem_cons_of_mem _ (i_Bm w9 h9)) hown hK hP 0 rfl rfl 14 (by decide) (hts _ (List.mem_cons_of_mem _ gk_933)) (fun _ h9 => h9) rfl d_Bm_hash_30 ?_
      refine lv_iload_n hx hb d_Bm_hash_33 rfl (lv_at hl 0 rfl) ?_
      refine va_lald hx hb hK hP 7 0 rfl rfl (vp_lit rfl) d_Bm_hash_34 ?_
      rw [show (lf (1 : Int32).toNatClampNeg : Int64) = lf 1 from rfl]
      have hPc := hP.sub (ws' := (mo_ws m0 z0 z1 z2 z3 (lN P) (lN Q) (lN G) z7 z8 z9 z10 a0 a1 a2 a3 a4 a5 a6 a7 a8 a9 b0 b1 24 b2 b3 b4 b5 ++ (iw_ws a7 cI 256 g_9))) [0, 1] rfl
      have hDc := hD.sub (ws' := (mo_ws m0 z0 z1 z2 z3 (lN P) (lN Q) (lN G) z7 z8 z9 z10 a0 a1 a2 a3 a4 a5 a6 a7 a8 a9 b0 b1 24 b2 b3 b4 b5 ++ (iw_ws a7 cI 256 g_9))) [0, 1] (by decide) rfl
      have hKc := hK.sub (tys' := [(cJ, .long), (cI, .int)]) [0, 1] rfl
      have hFc := va_free (wc := (mo_ws m0 z0 z1 z2 z3 (lN P) (lN Q) (lN G) z7 z8 z9 z10 a0 a1 a2 a3 a4 a5 a6 a7 a8 a9 b0 b1 24 b2 b3 b4 b5 ++ (iw_ws a7 cI 256 g_9))) hD hS hA [0, 1] rfl
      refine va_callv (va_runV (As := [.long (lf 1)]) (rest := []) ⟨hx, hb, hml, hown, hts⟩ (c_Bm_eight l dC dI cJ cI H.size m0 z0 z1 z2 z3 (lN P) (lN Q) (lN G) z7 z8 z9 z10 a0 a1 a2 a3 a4 a5 a6 a7 a8 a9 b0 b1 24 b2 b3 b4 b5 g_9 (lf 1) (by omega)) (cwV 1 hts (gw_V gk_1070 gk_1072 gp_36 gk_7 gk_1073) rfl rfl rfl (by decide +kernel) ⟨Nat.le_of_ble_eq_true rfl, Nat.le_of_ble_eq_true rfl⟩) ⟨fun a U g mk q => by obtain ⟨q0, q1, qP, qK, qD⟩ := q; exact ⟨q0, q1, qP, va_K.moved (u := U) (U := U.calling g mk a) (Vm.Alike.refl U.vm) qK, qD⟩, va_recv hK hP (ci := 8) (q0 := 0) rfl rfl, fun U hU hW => ⟨rfl, by rw [hU], by rw [hU]; exact hPc, va_K.moved hW.alike hKc, hDc.weaken (fun _ _ _ _ => trivial)⟩⟩ rfl rfl hl.1 rfl (lv_room (Nat.le_of_ble_eq_true rfl)) d_Bm_hash_35 ⟨Nat.le_of_ble_eq_true rfl, Nat.le_of_ble_eq_true rfl⟩) hS (fun q _ h => hFc q h) hFc (fun u9 t9 H1 locs ht hvm hw hB hz1 hk1 hS => ?_)
      obtain ⟨hP1, hK1, hD1⟩ := hB
      rw [ht] at hP1
      obtain ⟨hP, hD⟩ := va_join (wr := [(a8, .inl (cI, 64, .inl sc)), (a9, .inl (cI, 8, .inl st)), (b0, .inl (cI, 8, .inl kS)), (b1, .inl (cI, 64, .inl kR)), (a2, .inl (cJ, 4, .inr (.inl tf))), (a3, .inl (cJ, 16, .inr (.inl lf)))]) (w1 := [(m0, .inr (8, [.int z0, .int z1, .int z2, .int z3, .long (lN P), .long (lN Q), .long (lN G), .long z7, .long z8, .long z9, .int z10, .ref a0, .ref a1, .ref a2, .ref a3, .ref a4, .ref a5, .ref a6, .ref a7, .ref a8, .ref a9, .ref b0, .ref b1, .int (nI 32), .ref b2, .ref b3, .ref b4, .ref b5])), (a7, .inl (cI, 256, .inl (o8 g_9 24 (lf 1))))]) hP hD [0, 1] [2, 3, 4, 5, 6, 7] rfl rfl (by decide) (by decide) hk1 hFc hP1 hD1
      have hP := hP.sub (ws' := [(m0, .inr (8, [.int z0, .int z1, .int z2, .int z3, .long (lN P), .long (lN Q), .long (lN G), .long z7, .long z8, .long z9, .int z10, .ref a0, .ref a1, .ref a2, .ref a3, .ref a4, .ref a5, .ref a6, .ref a7, .ref a8, .ref a9, .ref b0, .ref b1, .int (nI 32), .ref b2, .ref b3, .ref b4, .ref b5])), (a7, .inl (cI, 256, .inl (o8 g_9 24 (lf 1)))), (a8, .inl (cI, 64, .inl sc)), (a9, .inl (cI, 8, .inl st)), (b0, .inl (cI, 8, .inl kS)), (b1, .inl (cI, 64, .inl kR)), (a2, .inl (cJ, 4, .inr (.inl tf))), (a3, .inl (cJ, 16, .inr (.inl lf)))]) [6, 7, 0, 1, 2, 3, 4, 5] rfl
      have hD := hD.sub (ws' := [(m0, .inr (8, [.int z0, .int z1, .int z2, .int z3, .long (lN P), .long (lN Q), .long (lN G), .long z7, .long z8, .long z9, .int z10, .ref a0, .ref a1, .ref a2, .ref a3, .ref a4, .ref a5, .ref a6, .ref a7, .ref a8, .ref a9, .ref b0, .ref b1, .int (nI 32), .ref b2, .ref b3, .ref b4, .ref b5])), (a7, .inl (cI, 256, .inl (o8 g_9 24 (lf 1)))), (a8, .inl (cI, 64, .inl sc)), (a9, .inl (cI, 8, .inl st)), (b0, .inl (cI, 8, .inl kS)), (b1, .inl (cI, 64, .inl kR)), (a2, .inl (cJ, 4, .inr (.inl tf))), (a3, .inl (cJ, 16, .inr (.inl lf)))]) [6, 7, 0, 1, 2, 3, 4, 5] (by decide) rfl
      generalize H1 = H at hP hS ⊢
      obtain ⟨g_14, eg_14⟩ : ∃ f : Nat → Int32, f = o8 g_9 24 (lf 1) := ⟨_, rfl⟩
      rw [← eg_14] at hP hD
      have hm_15 : bok g_14 4 [lN P, lN G, lf 0, lf 1] := bok_add _ hm_10 rfl eg_14
      obtain ⟨i_16, ei_16⟩ : ∃ y : Int32, y = 1 + 1 := ⟨_, rfl⟩
      refine lv_iinc (v := i_16) (lv' := [(2, .int i_16), (0, .ref m0), (1, .int 4)]) hx hb d_Bm_hash_38 hl (k := 0) rfl (by rw [ei_16]; rfl) (by decide) rfl (fun ls hl => ?_)
      obtain rfl : i_16 = 2 := by rw [ei_16]; exact by decide
      refine lv_goto (tgt := 23) hx hb d_Bm_hash_41 (by decide) ?_
      refine lv_iload_n hx hb d_Bm_hash_23 rfl (lv_at hl 0 rfl) ?_
      refine lv_iload_n hx hb d_Bm_hash_24 rfl (lv_at hl 2 rfl) ?_
      refine lv_icmp_ge (tgt := 44) hx hb d_Bm_hash_25 (by decide) (fun c_17 => ?_) (fun c_17 => ?_)
      · -- taken
        exact absurd c_17 (by decide)
      · -- not taken
        refine lv_aload_n hx hb d_Bm_hash_28 rfl (lv_at hl 1 rfl) ?_
        refine lv_aload_n hx hb d_Bm_hash_29 rfl (lv_at hl 1 rfl) ?_
        refine va_get (D := (dC, dI)) (ci := 8) (v := .ref a3) (C := "BallotBoardModel") (T := F_Bm) (N := 28) hx hb hts (fun w9 h9 => List.mem_cons_of_mem _ (i_Bm w9 h9)) hown hK hP 0 rfl rfl 14 (by decide) (hts _ (List.mem_cons_of_mem _ gk_933)) (fun _ h9 => h9) rfl d_Bm_hash_30 ?_
        refine lv_iload_n hx hb d_Bm_hash_33 rfl (lv_at hl 0 rfl) ?_
        refine va_lald hx hb hK hP 7 0 rfl rfl (vp_lit rfl) d_Bm_hash_34 ?_
        rw [show (lf (2 : Int32).toNatClampNeg : Int64) = lf 2 from rfl]
        have hPc := hP.sub (ws' := (mo_ws m0 z0 z1 z2 z3 (lN P) (lN Q) (lN G) z7 z8 z9 z10 a0 a1 a2 a3 a4 a5 a6 a7 a8 a9 b0 b1 32 b2 b3 b4 b5 ++ (iw_ws a7 cI 256 g_14))) [0, 1] rfl
        have hDc := hD.sub (ws' := (mo_ws m0 z0 z1 z2 z3 (lN P) (lN Q) (lN G) z7 z8 z9 z10 a0 a1 a2 a3 a4 a5 a6 a7 a8 a9 b0 b1 32 b2 b3 b4 b5 ++ (iw_ws a7 cI 256 g_14))) [0, 1] (by decide) rfl
        have hKc := hK.sub (tys' := [(cJ, .long), (cI, .int)]) [0, 1] rfl
        have hFc := va_free (wc := (mo_ws m0 z0 z1 z2 z3 (lN P) (lN Q) (lN G) z7 z8 z9 z10 a0 a1 a2 a3 a4 a5 a6 a7 a8 a9 b0 b1 32 b2 b3 b4 b5 ++ (iw_ws a7 cI 256 g_14))) hD hS hA [0, 1] rfl
        refine va_callv (va_runV (As := [.long (lf 2)]) (rest := []) ⟨hx, hb, hml, hown, hts⟩ (c_Bm_eight l dC dI cJ cI H.size m0 z0 z1 z2 z3 (lN P) (lN Q) (lN G) z7 z8 z9 z10 a0 a1 a2 a3 a4 a5 a6 a7 a8 a9 b0 b1 32 b2 b3 b4 b5 g_14 (lf 2) (by omega)) (cwV 1 hts (gw_V gk_1070 gk_1072 gp_36 gk_7 gk_1073) rfl rfl rfl (by decide +kernel) ⟨Nat.le_of_ble_eq_true rfl, Nat.le_of_ble_eq_true rfl⟩) ⟨fun a U g mk q => by obtain ⟨q0, q1, qP, qK, qD⟩ := q; exact ⟨q0, q1, qP, va_K.moved (u := U) (U := U.calling g mk a) (Vm.Alike.refl U.vm) qK, qD⟩, va_recv hK hP (ci := 8) (q0 := 0) rfl rfl, fun U hU hW => ⟨rfl, by rw [hU], by rw [hU]; exact hPc, va_K.moved hW.alike hKc, hDc.weaken (fun _ _ _ _ => trivial)⟩⟩ rfl rfl hl.1 rfl (lv_room (Nat.le_of_ble_eq_true rfl)) d_Bm_hash_35 ⟨Nat.le_of_ble_eq_true rfl, Nat.le_of_ble_eq_true rfl⟩) hS (fun q _ h => hFc q h) hFc (fun u9 t9 H1 locs ht hvm hw hB hz1 hk1 hS => ?_)
        obtain ⟨hP1, hK1, hD1⟩ := hB
        rw [ht] at hP1
        obtain ⟨hP, hD⟩ := va_join (wr := [(a8, .inl (cI, 64, .inl sc)), (a9, .inl (cI, 8, .inl st)), (b0, .inl (cI, 8, .inl kS)), (b1, .inl (cI, 64, .inl kR)), (a2, .inl (cJ, 4, .inr (.inl tf))), (a3, .inl (cJ, 16, .inr (.inl lf)))]) (w1 := [(m0, .inr (8, [.int z0, .int z1, .int z2, .int z3, .long (lN P), .long (lN Q), .long (lN G), .long z7, .long z8, .long z9, .int z10, .ref a0, .ref a1, .ref a2, .ref a3, .ref a4, .ref a5, .ref a6, .ref a7, .ref a8, .ref a9, .ref b0, .ref b1, .int (nI 40), .ref b2, .ref b3, .ref b4, .ref b5])), (a7, .inl (cI, 256, .inl (o8 g_14 32 (lf 2))))]) hP hD [0, 1] [2, 3, 4, 5, 6, 7] rfl rfl (by decide) (by decide) hk1 hFc hP1 hD1
        have hP := hP.sub (ws' := [(m0, .inr (8, [.int z0, .int z1, .int z2, .int z3, .long (lN P), .long (lN Q), .long (lN G), .long z7, .long z8, .long z9, .int z10, .ref a0, .ref a1, .ref a2, .ref a3, .ref a4, .ref a5, .ref a6, .ref a7, .ref a8, .ref a9, .ref b0, .ref b1, .int (nI 40), .ref b2, .ref b3, .ref b4, .ref b5])), (a7, .inl (cI, 256, .inl (o8 g_14 32 (lf 2)))), (a8, .inl (cI, 64, .inl sc)), (a9, .inl (cI, 8, .inl st)), (b0, .inl (cI, 8, .inl kS)), (b1, .inl (cI, 64, .inl kR)), (a2, .inl (cJ, 4, .inr (.inl tf))), (a3, .inl (cJ, 16, .inr (.inl lf)))]) [6, 7, 0, 1, 2, 3, 4, 5] rfl
        have hD := hD.sub (ws' := [(m0, .inr (8, [.int z0, .int z1, .int z2, .int z3, .long (lN P), .long (lN Q), .long (lN G), .long z7, .long z8, .long z9, .int z10, .ref a0, .ref a1, .ref a2, .ref a3, .ref a4, .ref a5, .ref a6, .ref a7, .ref a8, .ref a9, .ref b0, .ref b1, .int (nI 40), .ref b2, .ref b3, .ref b4, .ref b5])), (a7, .inl (cI, 256, .inl (o8 g_14 32 (lf 2)))), (a8, .inl (cI, 64, .inl sc)), (a9, .inl (cI, 8, .inl st)), (b0, .inl (cI, 8, .inl kS)), (b1, .inl (cI, 64, .inl kR)), (a2, .inl (cJ, 4, .inr (.inl tf))), (a3, .inl (cJ, 16, .inr (.inl lf)))]) [6, 7, 0, 1, 2, 3, 4, 5] (by decide) rfl
        generalize H1 = H at hP hS ⊢
        obtain ⟨g_19, eg_19⟩ : ∃ f : Nat → Int32, f = o8 g_14 32 (lf 2) := ⟨_, rfl⟩
        rw [← eg_19] at hP hD
        have hm_20 : bok g_19 5 [lN P, lN G, lf 0, lf 1, lf 2] := bok_add _ hm_15 rfl eg_19
        obtain ⟨i_21, ei_21⟩ : ∃ y : Int32, y = 2 + 1 := ⟨_, rfl⟩
        refine lv_iinc (v := i_21) (lv' := [(2, .int i_21), (0, .ref m0), (1, .int 4)]) hx hb d_Bm_hash_38 hl (k := 0) rfl (by rw [ei_21]; rfl) (by decide) rfl (fun ls hl => ?_)
        obtain rfl : i_21 = 3 := by rw [ei_21]; exact by decide
        refine lv_goto (tgt := 23) hx hb d_Bm_hash_41 (by decide) ?_
        refine lv_iload_n hx hb d_Bm_hash_23 rfl (lv_at hl 0 rfl) ?_
        refine lv_iload_n hx hb d_Bm_hash_24 rfl (lv_at hl 2 rfl) ?_
        refine lv_icmp_ge (tgt := 44) hx hb d_Bm_hash_25 (by decide) (fun c_22 => ?_) (fun c_22 => ?_)
        · -- taken
          exact absurd c_22 (by decide)
        · -- not taken
          refine lv_aload_n hx hb d_Bm_hash_28 rfl (lv_at hl 1 rfl) ?_
          refine lv_aload_n hx hb d_Bm_hash_29 rfl (lv_at hl 1 rfl) ?_
          refine va_get (D := (dC, dI)) (ci := 8) (v := .ref a3) (C := "BallotBoardModel") (T := F_Bm) (N := 28) hx hb hts (fun w9 h9 => List.mem_cons_of_mem _ (i_Bm w9 h9)) hown hK hP 0 rfl rfl 14 (by decide) (hts _ (List.mem_cons_of_mem _ gk_933)) (fun _ h9 => h9) rfl d_Bm_hash_30 ?_
          refine lv_iload_n hx hb d_Bm_hash_33 rfl (lv_at hl 0 rfl) ?_
          refine va_lald hx hb hK hP 7 0 rfl rfl (vp_lit rfl) d_Bm_hash_34 ?_
          rw [show (lf (3 : Int32).toNatClampNeg : Int64) = lf 3 from rfl]
          have hPc := hP.sub (ws' := (mo_ws m0 z0 z1 z2 z3 (lN P) (lN Q) (lN G) z7 z8 z9 z10 a0 a1 a2 a3 a4 a5 a6 a7 a8 a9 b0 b1 40 b2 b3 b4 b5 ++ (iw_ws a7 cI 256 g_19))) [0, 1] rfl
          have hDc := hD.sub (ws' := (mo_ws m0 z0 z1 z2 z3 (lN P) (lN Q) (lN G) z7 z8 z9 z10 a0 a1 a2 a3 a4 a5 a6 a7 a8 a9 b0 b1 40 b2 b3 b4 b5 ++ (iw_ws a7 cI 256 g_19))) [0, 1] (by decide) rfl
          have hKc := hK.sub (tys' := [(cJ, .long), (cI, .int)]) [0, 1] rfl
          have hFc := va_free (wc := (mo_ws m0 z0 z1 z2 z3 (lN P) (lN Q) (lN G) z7 z8 z9 z10 a0 a1 a2 a3 a4 a5 a6 a7 a8 a9 b0 b1 40 b2 b3 b4 b5 ++ (iw_ws a7 cI 256 g_19))) hD hS hA [0, 1] rfl
          refine va_callv (va_runV (As := [.long (lf 3)]) (rest := []) ⟨hx, hb, hml, hown, hts⟩ (c_Bm_eight l dC dI cJ cI H.size m0 z0 z1 z2 z3 (lN P) (lN Q) (lN G) z7 z8 z9 z10 a0 a1 a2 a3 a4 a5 a6 a7 a8 a9 b0 b1 40 b2 b3 b4 b5 g_19 (lf 3) (by omega)) (cwV 1 hts (gw_V gk_1070 gk_1072 gp_36 gk_7 gk_1073) rfl rfl rfl (by decide +kernel) ⟨Nat.le_of_ble_eq_true rfl, Nat.le_of_ble_eq_true rfl⟩) ⟨fun a U g mk q => by obtain ⟨q0, q1, qP, qK, qD⟩ := q; exact ⟨q0, q1, qP, va_K.moved (u := U) (U := U.calling g mk a) (Vm.Alike.refl U.vm) qK, qD⟩, va_recv hK hP (ci := 8) (q0 := 0) rfl rfl, fun U hU hW => ⟨rfl, by rw [hU], by rw [hU]; exact hPc, va_K.moved hW.alike hKc, hDc.weaken (fun _ _ _ _ => trivial)⟩⟩ rfl rfl hl.1 rfl (lv_room (Nat.le_of_ble_eq_true rfl)) d_Bm_hash_35 ⟨Nat.le_of_ble_eq_true rfl, Nat.le_of_ble_eq_true rfl⟩) hS (fun q _ h => hFc q h) hFc (fun u9 t9 H1 locs ht hvm hw hB hz1 hk1 hS => ?_)
          obtain ⟨hP1, hK1, hD1⟩ := hB
          rw [ht] at hP1
          obtain ⟨hP, hD⟩ := va_join (wr := [(a8, .inl (cI, 64, .inl sc)), (a9, .inl (cI, 8, .inl st)), (b0, .inl (cI, 8, .inl kS)), (b1, .inl (cI, 64, .inl kR)), (a2, .inl (cJ, 4, .inr (.inl tf))), (a3, .inl (cJ, 16, .inr (.inl lf)))]) (w1 := [(m0, .inr (8, [.int z0, .int z1, .int z2, .int z3, .long (lN P), .long (lN Q), .long (lN G), .long z7, .long z8, .long z9, .int z10, .ref a0, .ref a1, .ref a2, .ref a3, .ref a4, .ref a5, .ref a6, .ref a7, .ref a8, .ref a9, .ref b0, .ref b1, .int (nI 48), .ref b2, .ref b3, .ref b4, .ref b5])), (a7, .inl (cI, 256, .inl (o8 g_19 40 (lf 3))))]) hP hD [0, 1] [2, 3, 4, 5, 6, 7] rfl rfl (by decide) (by decide) hk1 hFc hP1 hD1
          have hP := hP.sub (ws' := [(m0, .inr (8, [.int z0, .int z1, .int z2, .int z3, .long (lN P), .long (lN Q), .long (lN G), .long z7, .long z8, .long z9, .int z10, .ref a0, .ref a1, .ref a2, .ref a3, .ref a4, .ref a5, .ref a6, .ref a7, .ref a8, .ref a9, .ref b0, .ref b1, .int (nI 48), .ref b2, .ref b3, .ref b4, .ref b5])), (a7, .inl (cI, 256, .inl (o8 g_19 40 (lf 3)))), (a8, .inl (cI, 64, .inl sc)), (a9, .inl (cI, 8, .inl st)), (b0, .inl (cI, 8, .inl kS)), (b1, .inl (cI, 64, .inl kR)), (a2, .inl (cJ, 4, .inr (.inl tf))), (a3, .inl (cJ, 16, .inr (.inl lf)))]) [6, 7, 0, 1, 2, 3, 4, 5] rfl
          have hD := hD.sub (ws' := [(m0, .inr (8, [.int z0, .int z1, .int z2, .int z3, .long (lN P), .long (lN Q), .long (lN G), .long z7, .long z8, .long z9, .int z10, .ref a0, .ref a1, .ref a2, .ref a3, .ref a4, .ref a5, .ref a6, .ref a7, .ref a8, .ref a9, .ref b0, .ref b1, .int (nI 48), .ref b2, .ref b3, .ref b4, .ref b5])), (a7, .inl (cI, 256, .inl (o8 g_19 40 (lf 3)))), (a8, .inl (cI, 64, .inl sc)), (a9, .inl (cI, 8, .inl st)), (b0, .inl (cI, 8, .inl kS)), (b1, .inl (cI, 64, .inl kR)), (a2, .inl (cJ, 4, .inr (.inl tf))), (a3, .inl (cJ, 16, .inr (.inl lf)))]) [6, 7, 0, 1, 2, 3, 4, 5] (by decide) rfl
          generalize H1 = H at hP hS ⊢
          obtain ⟨g_24, eg_24⟩ : ∃ f : Nat → Int32, f = o8 g_19 40 (lf 3) := ⟨_, rfl⟩
          rw [← eg_24] at hP hD
          have hm_25 : bok g_24 6 [lN P, lN G, lf 0, lf 1, lf 2, lf 3] := bok_add _ hm_20 rfl eg_24
          obtain ⟨i_26, ei_26⟩ : ∃ y : Int32, y = 3 + 1 := ⟨_, rfl⟩
          refine lv_iinc (v := i_26) (lv' := [(2, .int i_26), (0, .ref m0), (1, .int 4)]) hx hb d_Bm_hash_38 hl (k := 0) rfl (by rw [ei_26]; rfl) (by decide) rfl (fun ls hl => ?_)
          obtain rfl : i_26 = 4 := by rw [ei_26]; exact by decide
          refine lv_goto (tgt := 23) hx hb d_Bm_hash_41 (by decide) ?_
          refine lv_iload_n hx hb d_Bm_hash_23 rfl (lv_at hl 0 rfl) ?_
          refine lv_iload_n hx hb d_Bm_hash_24 rfl (lv_at hl 2 rfl) ?_
          refine lv_icmp_ge (tgt := 44) hx hb d_Bm_hash_25 (by decide) (fun c_27 => ?_) (fun c_27 => ?_)
          · -- taken
            refine lv_aload_n hx hb d_Bm_hash_44 rfl (lv_at hl 1 rfl) ?_
            have hPc := hP.sub (ws' := (mo_ws m0 z0 z1 z2 z3 (lN P) (lN Q) (lN G) z7 z8 z9 z10 a0 a1 a2 a3 a4 a5 a6 a7 a8 a9 b0 b1 (8 * 6) b2 b3 b4 b5 ++ (iw_ws a7 cI 256 g_24 ++ (iw_ws a8 cI 64 sc ++ (iw_ws a9 cI 8 st ++ (iw_ws b0 cI 8 kS ++ (iw_ws b1 cI 64 kR ++ (jw_ws a2 cJ 4 tf)))))))) [0, 1, 2, 3, 4, 5, 6] rfl
            have hDc := hD.sub (ws' := (mo_ws m0 z0 z1 z2 z3 (lN P) (lN Q) (lN G) z7 z8 z9 z10 a0 a1 a2 a3 a4 a5 a6 a7 a8 a9 b0 b1 (8 * 6) b2 b3 b4 b5 ++ (iw_ws a7 cI 256 g_24 ++ (iw_ws a8 cI 64 sc ++ (iw_ws a9 cI 8 st ++ (iw_ws b0 cI 8 kS ++ (iw_ws b1 cI 64 kR ++ (jw_ws a2 cJ 4 tf)))))))) [0, 1, 2, 3, 4, 5, 6] (by decide) rfl
            have hKc := hK.sub (tys' := [(cJ, .long), (cI, .int)]) [0, 1] rfl
            have hFc := va_free (wc := (mo_ws m0 z0 z1 z2 z3 (lN P) (lN Q) (lN G) z7 z8 z9 z10 a0 a1 a2 a3 a4 a5 a6 a7 a8 a9 b0 b1 (8 * 6) b2 b3 b4 b5 ++ (iw_ws a7 cI 256 g_24 ++ (iw_ws a8 cI 64 sc ++ (iw_ws a9 cI 8 st ++ (iw_ws b0 cI 8 kS ++ (iw_ws b1 cI 64 kR ++ (jw_ws a2 cJ 4 tf)))))))) hD hS hA [0, 1, 2, 3, 4, 5, 6] rfl
            refine va_callv (va_runV (As := []) (rest := []) ⟨hx, hb, hml, hown, hts⟩ (c_Bm_digest l dC dI cJ cI H.size m0 z0 z1 z2 z3 (lN P) (lN Q) (lN G) z7 z8 z9 z10 a0 a1 a2 a3 a4 a5 a6 a7 a8 a9 b0 b1 b2 b3 b4 b5 6 g_24 sc st tf [lN P, lN G, lf 0, lf 1, lf 2, lf 3] (by decide) hm_25) (cwV 0 hts (gw_V gk_1074 gk_1076 gp_37 gk_7 gk_1077) rfl rfl rfl (by decide +kernel) ⟨Nat.le_of_ble_eq_true rfl, Nat.le_of_ble_eq_true rfl⟩) ⟨fun a U g mk q => by obtain ⟨q0, q1, qP, qK, qD⟩ := q; exact ⟨q0, q1, qP, va_K.moved (u := U) (U := U.calling g mk a) (Vm.Alike.refl U.vm) qK, qD⟩, va_recv hK hP (ci := 8) (q0 := 0) rfl rfl, fun U hU hW => ⟨rfl, by rw [hU], by rw [hU]; exact hPc, va_K.moved hW.alike hKc, hDc.weaken (fun _ _ _ _ => trivial)⟩⟩ rfl rfl hl.1 rfl (lv_room (Nat.le_of_ble_eq_true rfl)) d_Bm_hash_45 ⟨Nat.le_of_ble_eq_true rfl, Nat.le_of_ble_eq_true rfl⟩) hS (fun q _ h => hFc q h) hFc (fun u9 t9 H1 locs ht hvm hw hB hz1 hk1 hS => ?_)
            obtain ⟨gbk_28, gsk_28, gtk_28, gfk_28, gok_28⟩ := u9
            have hdg : dgo gtk_28 [lN P, lN G, lf 0, lf 1, lf 2, lf 3] ∧ ∀ j, j < 4 → gfk_28 j = lkw [lN P, lN G, lf 0, lf 1, lf 2, lf 3] j := hw
            obtain ⟨hP1, hK1, hD1⟩ := hB
            rw [ht] at hP1
            obtain ⟨hP, hD⟩ := va_join (wr := [(a3, .inl (cJ, 16, .inr (.inl lf)))]) (w1 := [(m0, .inr (8, [.int z0, .int z1, .int z2, .int z3, .long (lN P), .long (lN Q), .long (lN G), .long z7, .long z8, .long z9, .int z10, .ref a0, .ref a1, .ref a2, .ref a3, .ref a4, .ref a5, .ref a6, .ref a7, .ref a8, .ref a9, .ref b0, .ref b1, .int (nI gok_28), .ref b2, .ref b3, .ref b4, .ref b5])), (a7, .inl (cI, 256, .inl gbk_28)), (a8, .inl (cI, 64, .inl gsk_28)), (a9, .inl (cI, 8, .inl gtk_28)), (b0, .inl (cI, 8, .inl kS)), (b1, .inl (cI, 64, .inl kR)), (a2, .inl (cJ, 4, .inr (.inl gfk_28)))]) hP hD [0, 1, 2, 3, 4, 5, 6] [7] rfl rfl (by decide) (by decide) hk1 hFc hP1 hD1
            have hP := hP.sub (ws' := [(m0, .inr (8, [.int z0, .int z1, .int z2, .int z3, .long (lN P), .long (lN Q), .long (lN G), .long z7, .long z8, .long z9, .int z10, .ref a0, .ref a1, .ref a2, .ref a3, .ref a4, .ref a5, .ref a6, .ref a7, .ref a8, .ref a9, .ref b0, .ref b1, .int (nI gok_28), .ref b2, .ref b3, .ref b4, .ref b5])), (a7, .inl (cI, 256, .inl gbk_28)), (a8, .inl (cI, 64, .inl gsk_28)), (a9, .inl (cI, 8, .inl gtk_28)), (b0, .inl (cI, 8, .inl kS)), (b1, .inl (cI, 64, .inl kR)), (a2, .inl (cJ, 4, .inr (.inl gfk_28))), (a3, .inl (cJ, 16, .inr (.inl lf)))]) [1, 2, 3, 4, 5, 6, 7, 0] rfl
            have hD := hD.sub (ws' := [(m0, .inr (8, [.int z0, .int z1, .int z2, .int z3, .long (lN P), .long (lN Q), .long (lN G), .long z7, .long z8, .long z9, .int z10, .ref a0, .ref a1, .ref a2, .ref a3, .ref a4, .ref a5, .ref a6, .ref a7, .ref a8, .ref a9, .ref b0, .ref b1, .int (nI gok_28), .ref b2, .ref b3, .ref b4, .ref b5])), (a7, .inl (cI, 256, .inl gbk_28)), (a8, .inl (cI, 64, .inl gsk_28)), (a9, .inl (cI, 8, .inl gtk_28)), (b0, .inl (cI, 8, .inl kS)), (b1, .inl (cI, 64, .inl kR)), (a2, .inl (cJ, 4, .inr (.inl gfk_28))), (a3, .inl (cJ, 16, .inr (.inl lf)))]) [1, 2, 3, 4, 5, 6, 7, 0] (by decide) rfl
            generalize H1 = H at hP hS ⊢
            refine lv_aload_n hx hb d_Bm_hash_48 rfl (lv_at hl 1 rfl) ?_
            refine va_get (D := (dC, dI)) (ci := 8) (v := .ref a2) (C := "BallotBoardModel") (T := F_Bm) (N := 28) hx hb hts (fun w9 h9 => List.mem_cons_of_mem _ (i_Bm w9 h9)) hown hK hP 0 rfl rfl 13 (by decide) (hts _ (List.mem_cons_of_mem _ gk_932)) (fun _ h9 => h9) rfl d_Bm_hash_49 ?_
            refine lv_iconst (v := 0) hx hb d_Bm_hash_52 (by decide) ?_
            refine va_lald hx hb hK hP 6 0 rfl rfl (vp_lit rfl) d_Bm_hash_53 ?_
            rw [show (gfk_28 (0 : Int32).toNatClampNeg : Int64) = gfk_28 0 from rfl]
            rw [show (gfk_28 0 : Int64) = (lN (hN [lN P, lN G, lf 0, lf 1, lf 2, lf 3])) from (hdg.2 0 (by omega)).trans (lkw_hN _)]
            refine lv_aload_n hx hb d_Bm_hash_54 rfl (lv_at hl 1 rfl) ?_
            refine va_get (D := (dC, dI)) (ci := 8) (v := .long (lN Q)) (C := "BallotBoardModel") (T := F_Bm) (N := 28) hx hb hts (fun w9 h9 => List.mem_cons_of_mem _ (i_Bm w9 h9)) hown hK hP 0 rfl rfl 5 (by decide) (hts _ (List.mem_cons_of_mem _ gk_924)) (fun _ h9 => h9) rfl d_Bm_hash_55 ?_
            refine va_calll (va_runS (As := [.long (lN (hN [lN P, lN G, lf 0, lf 1, lf 2, lf 3])), .long (lN Q)]) (rest := []) ⟨hx, hb, hml, hown, hts⟩ (c_Lo_rem l H (hN [lN P, lN G, lf 0, lf 1, lf 2, lf 3]) Q (hN_lt _) (by omega) (by omega)) (va_cwS 2 hts (gw_Sv gk_1086 gk_1087 gk_17 gk_1088) rfl rfl rfl (by decide +kernel) ⟨Nat.le_of_ble_eq_true rfl, Nat.le_of_ble_eq_true rfl⟩) ⟨fun a U g mk q => q, fun U hU hW => ⟨rfl, hU⟩⟩ rfl rfl hl.1 rfl (lv_room (Nat.le_of_ble_eq_true rfl)) d_Bm_hash_58 ⟨Nat.le_of_ble_eq_true rfl, Nat.le_of_ble_eq_true rfl⟩) hS (fun q _ h => h.elim) (fun q h => h.elim) (fun r58 u9 t9 H1 locs ht hvm hw hB hz1 hk1 hS => ?_)
            obtain rfl : H = H1 := hB.symm.trans ht
            have hw : r58 = lN ((hN [lN P, lN G, lf 0, lf 1, lf 2, lf 3]) % Q) := hw
            subst hw
            exact W.lret (v := (lN ((hN [lN P, lN G, lf 0, lf 1, lf 2, lf 3]) % Q))) hx hb hr (fun t ht9 hW => ⟨⟨_, (gbk_28, gsk_28, gtk_28, gfk_28, gok_28), rfl, (by rw [← hmsg, ← hsh_eq]), by rw [ht9]; exact hP, va_K.moved hW.alike hK, hD⟩, hS.F ht9⟩) hS.2.2 d_Bm_hash_61
          · -- not taken
            exact absurd c_27 (by decide)
set_option maxHeartbeats 8000000 in
set_option maxRecDepth 100000 in
theorem c_Bm_hash_6 (l : Launch) (dC : Nat → ClassId) (dI : Nat → Nat → Nat) (cJ cI : ClassId) (sz : Nat) (m0 : Nat) (z0 z1 z2 z3 : Int32) (z7 z8 z9 : Int64) (z10 : Int32) (a0 a1 a2 a3 a4 a5 a6 a7 a8 a9 b0 b1 oc b2 b3 b4 b5 : Nat) (P Q G : Nat) (bf sc st : Nat → Int32) (tf lf : Nat → Int64) (msg : List Int64) (hPQ : P = 2 * Q + 1) (h61F : P < 2 ^ 61) (hQ3 : 3 ≤ Q) (hmsg : [lN P, lN G, lf 0, lf 1, lf 2, lf 3, lf 4, lf 5] = msg) : Met l y_Bm_hash w_Bm_hash ({ frames := 3, cells := 0, slots := 0, locals := 75 }) (va_Pc [.ref m0, .int 6] (fun U => U.heap.size = sz ∧ va_P (dC, dI) classes (mo_ws m0 z0 z1 z2 z3 (lN P) (lN Q) (lN G) z7 z8 z9 z10 a0 a1 a2 a3 a4 a5 a6 a7 a8 a9 b0 b1 oc b2 b3 b4 b5 ++ (iw_ws a7 cI 256 bf ++ (iw_ws a8 cI 64 sc ++ (iw_ws a9 cI 8 st ++ (iw_ws b0 cI 8 kS ++ (iw_ws b1 cI 64 kR ++ (jw_ws a2 cJ 4 tf ++ (jw_ws a3 cJ 16 lf)))))))) U.heap ∧ va_K (dC, dI) classes [(cJ, .long), (cI, .int)] U ∧ va_D (fun _ => True) (mo_ws m0 z0 z1 z2 z3 (lN P) (lN Q) (lN G) z7 z8 z9 z10 a0 a1 a2 a3 a4 a5 a6 a7 a8 a9 b0 b1 oc b2 b3 b4 b5 ++ (iw_ws a7 cI 256 bf ++ (iw_ws a8 cI 64 sc ++ (iw_ws a9 cI 8 st ++ (iw_ws b0 cI 8 kS ++ (iw_ws b1 cI 64 kR ++ (jw_ws a2 cJ 4 tf ++ (jw_ws a3 cJ 16 lf)))))))))) (va_Ql (fun (r : Int64) (u9 : DU) => r = lN (hsh Q msg)) (fun u9 t => va_P (dC, dI) classes (mo_ws m0 z0 z1 z2 z3 (lN P) (lN Q) (lN G) z7 z8 z9 z10 a0 a1 a2 a3 a4 a5 a6 a7 a8 a9 b0 b1 u9.2.2.2.2 b2 b3 b4 b5 ++ (iw_ws a7 cI 256 u9.1 ++ (iw_ws a8 cI 64 u9.2.1 ++ (iw_ws a9 cI 8 u9.2.2.1 ++ (iw_ws b0 cI 8 kS ++ (iw_ws b1 cI 64 kR ++ (jw_ws a2 cJ 4 u9.2.2.2.1 ++ (jw_ws a3 cJ 16 lf)))))))) t.heap ∧ va_K (dC, dI) classes [(cJ, .long), (cI, .int)] t ∧ va_D (va_A (mo_ws m0 z0 z1 z2 z3 (lN P) (lN Q) (lN G) z7 z8 z9 z10 a0 a1 a2 a3 a4 a5 a6 a7 a8 a9 b0 b1 oc b2 b3 b4 b5 ++ (iw_ws a7 cI 256 bf ++ (iw_ws a8 cI 64 sc ++ (iw_ws a9 cI 8 st ++ (iw_ws b0 cI 8 kS ++ (iw_ws b1 cI 64 kR ++ (jw_ws a2 cJ 4 tf ++ (jw_ws a3 cJ 16 lf)))))))) sz) (mo_ws m0 z0 z1 z2 z3 (lN P) (lN Q) (lN G) z7 z8 z9 z10 a0 a1 a2 a3 a4 a5 a6 a7 a8 a9 b0 b1 u9.2.2.2.2 b2 b3 b4 b5 ++ (iw_ws a7 cI 256 u9.1 ++ (iw_ws a8 cI 64 u9.2.1 ++ (iw_ws a9 cI 8 u9.2.2.1 ++ (iw_ws b0 cI 8 kS ++ (iw_ws b1 cI 64 kR ++ (jw_ws a2 cJ 4 u9.2.2.2.1 ++ (jw_ws a3 cJ 16 lf))))))))) (va_A (mo_ws m0 z0 z1 z2 z3 (lN P) (lN Q) (lN G) z7 z8 z9 z10 a0 a1 a2 a3 a4 a5 a6 a7 a8 a9 b0 b1 oc b2 b3 b4 b5 ++ (iw_ws a7 cI 256 bf ++ (iw_ws a8 cI 64 sc ++ (iw_ws a9 cI 8 st ++ (iw_ws b0 cI 8 kS ++ (iw_ws b1 cI 64 kR ++ (jw_ws a2 cJ 4 tf ++ (jw_ws a3 cJ 16 lf)))))))) sz)) 0 0 (va_A (mo_ws m0 z0 z1 z2 z3 (lN P) (lN Q) (lN G) z7 z8 z9 z10 a0 a1 a2 a3 a4 a5 a6 a7 a8 a9 b0 b1 oc b2 b3 b4 b5 ++ (iw_ws a7 cI 256 bf ++ (iw_ws a8 cI 64 sc ++ (iw_ws a9 cI 8 st ++ (iw_ws b0 cI 8 kS ++ (iw_ws b1 cI 64 kR ++ (jw_ws a2 cJ 4 tf ++ (jw_ws a3 cJ 16 lf)))))))) sz) := by
  refine Met.ofW (cc := b_Bm_hash) (maxL := 3) (ret := (some .long)) (by decide) rfl ?_
  intro p e s m args below meth c s₁ Bd hml hv
  obtain ⟨rfl, hsz, hP, hK, hD0⟩ := hv
  have hx := Bd.exec
  have hb := Bd.bytes
  have hr := Bd.returns
  have hts := atoms_spec (ws := w_Bm_hash) Bd.pre
  have hown : s.vm.findClass "BallotBoardModel" = some m.cls := findClass_of_methodNamed Bd.named
  have hlocks := Bd.notSynchronized
  subst hsz
  have hD := hD0.self (sz := s.heap.size)
  generalize hAe : va_A (mo_ws m0 z0 z1 z2 z3 (lN P) (lN Q) (lN G) z7 z8 z9 z10 a0 a1 a2 a3 a4 a5 a6 a7 a8 a9 b0 b1 oc b2 b3 b4 b5 ++ (iw_ws a7 cI 256 bf ++ (iw_ws a8 cI 64 sc ++ (iw_ws a9 cI 8 st ++ (iw_ws b0 cI 8 kS ++ (iw_ws b1 cI 64 kR ++ (jw_ws a2 cJ 4 tf ++ (jw_ws a3 cJ 16 lf)))))))) s.heap.size = A at hD ⊢
  have hA : ∀ q : Nat, s.heap.size ≤ q → A q := fun q h => by rw [← hAe]; exact Or.inr h
  have hS : va_S A s.heap s.heap [] := va_S.rf
  have hl := lv_entry ([.ref m0, .int 6]) (n := 3) (Nat.le_of_ble_eq_true rfl)
  rw [lg_entry_eq]
  generalize (lg_sl ([.ref m0, .int 6]) ++ List.replicate (3 - (lg_sl ([.ref m0, .int 6])).length) Slot.unset).toArray = ls at hl ⊢
  have hl : lv_has ls 3 [(0, .ref m0), (1, .int 6)] := hl
  refine lv_aload_n hx hb d_Bm_hash_0 rfl (lv_at hl 0 rfl) ?_
  refine lv_iconst (v := 0) hx hb d_Bm_hash_1 (by decide) ?_
  refine va_put (D := (dC, dI)) (ci := 8) (v := .int 0) (ty := .int) (C := "BallotBoardModel") (T := F_Bm) (N := 28) hx hb hts (fun w9 h9 => List.mem_cons_of_mem _ (i_Bm w9 h9)) t_Bm t_Bm_ok n_Bm hown hK hP hD hS 0 rfl rfl 23 (by decide) (hts _ (List.mem_cons_of_mem _ gk_942)) (fun _ h9 => h9) rfl (by decide +kernel) rfl rfl (Nat.le_of_ble_eq_true rfl) d_Bm_hash_2 (fun H locs hP hD hS => ?_)
  have hP : va_P (dC, dI) classes [(m0, .inr (8, [.int z0, .int z1, .int z2, .int z3, .long (lN P), .long (lN Q), .long (lN G), .long z7, .long z8, .long z9, .int z10, .ref a0, .ref a1, .ref a2, .ref a3, .ref a4, .ref a5, .ref a6, .ref a7, .ref a8, .ref a9, .ref b0, .ref b1, .int 0, .ref b2, .ref b3, .ref b4, .ref b5])), (a7, .inl (cI, 256, .inl bf)), (a8, .inl (cI, 64, .inl sc)), (a9, .inl (cI, 8, .inl st)), (b0, .inl (cI, 8, .inl kS)), (b1, .inl (cI, 64, .inl kR)), (a2, .inl (cJ, 4, .inr (.inl tf))), (a3, .inl (cJ, 16, .inr (.inl lf)))] H := hP
  have hD : va_D A [(m0, .inr (8, [.int z0, .int z1, .int z2, .int z3, .long (lN P), .long (lN Q), .long (lN G), .long z7, .long z8, .long z9, .int z10, .ref a0, .ref a1, .ref a2, .ref a3, .ref a4, .ref a5, .ref a6, .ref a7, .ref a8, .ref a9, .ref b0, .ref b1, .int 0, .ref b2, .ref b3, .ref b4, .ref b5])), (a7, .inl (cI, 256, .inl bf)), (a8, .inl (cI, 64, .inl sc)), (a9, .inl (cI, 8, .inl st)), (b0, .inl (cI, 8, .inl kS)), (b1, .inl (cI, 64, .inl kR)), (a2, .inl (cJ, 4, .inr (.inl tf))), (a3, .inl (cJ, 16, .inr (.inl lf)))] := hD
  have hm0 := bok_0 bf
  refine lv_aload_n hx hb d_Bm_hash_5 rfl (lv_at hl 0 rfl) ?_
  refine lv_aload_n hx hb d_Bm_hash_6 rfl (lv_at hl 0 rfl) ?_
  refine va_get (D := (dC, dI)) (ci := 8) (v := .long (lN P)) (C := "BallotBoardModel") (T := F_Bm) (N := 28) hx hb hts (fun w9 h9 => List.mem_cons_of_mem _ (i_Bm w9 h9)) hown hK hP 0 rfl rfl 4 (by decide) (hts _ (List.mem_cons_of_mem _ gk_923)) (fun _ h9 => h9) rfl d_Bm_hash_7 ?_
  have hPc := hP.sub (ws' := (mo_ws m0 z0 z1 z2 z3 (lN P) (lN Q) (lN G) z7 z8 z9 z10 a0 a1 a2 a3 a4 a5 a6 a7 a8 a9 b0 b1 0 b2 b3 b4 b5 ++ (iw_ws a7 cI 256 bf))) [0, 1] rfl
  have hDc := hD.sub (ws' := (mo_ws m0 z0 z1 z2 z3 (lN P) (lN Q) (lN G) z7 z8 z9 z10 a0 a1 a2 a3 a4 a5 a6 a7 a8 a9 b0 b1 0 b2 b3 b4 b5 ++ (iw_ws a7 cI 256 bf))) [0, 1] (by decide) rfl
  have hKc := hK.sub (tys' := [(cJ, .long), (cI, .int)]) [0, 1] rfl
  have hFc := va_free (wc := (mo_ws m0 z0 z1 z2 z3 (lN P) (lN Q) (lN G) z7 z8 z9 z10 a0 a1 a2 a3 a4 a5 a6 a7 a8 a9 b0 b1 0 b2 b3 b4 b5 ++ (iw_ws a7 cI 256 bf))) hD hS hA [0, 1] rfl
  refine va_callv (va_runV (As := [.long (lN P)]) (rest := []) ⟨hx, hb, hml, hown, hts⟩ (c_Bm_eight l dC dI cJ cI H.size m0 z0 z1 z2 z3 (lN P) (lN Q) (lN G) z7 z8 z9 z10 a0 a1 a2 a3 a4 a5 a6 a7 a8 a9 b0 b1 0 b2 b3 b4 b5 bf (lN P) (by omega)) (cwV 1 hts (gw_V gk_1070 gk_1072 gp_36 gk_7 gk_1073) rfl rfl rfl (by decide +kernel) ⟨Nat.le_of_ble_eq_true rfl, Nat.le_of_ble_eq_true rfl⟩) ⟨fun a U g mk q => by obtain ⟨q0, q1, qP, qK, qD⟩ := q; exact ⟨q0, q1, qP, va_K.moved (u := U) (U := U.calling g mk a) (Vm.Alike.refl U.vm) qK, qD⟩, va_recv hK hP (ci := 8) (q0 := 0) rfl rfl, fun U hU hW => ⟨rfl, by rw [hU], by rw [hU]; exact hPc, va_K.moved hW.alike hKc, hDc.weaken (fun _ _ _ _ => trivial)⟩⟩ rfl rfl hl.1 rfl (lv_room (Nat.le_of_ble_eq_true rfl)) d_Bm_hash_10 ⟨Nat.le_of_ble_eq_true rfl, Nat.le_of_ble_eq_true rfl⟩) hS (fun q _ h => hFc q h) hFc (fun u9 t9 H1 locs ht hvm hw hB hz1 hk1 hS => ?_)
  obtain ⟨hP1, hK1, hD1⟩ := hB
  rw [ht] at hP1
  obtain ⟨hP, hD⟩ := va_join (wr := [(a8, .inl (cI, 64, .inl sc)), (a9, .inl (cI, 8, .inl st)), (b0, .inl (cI, 8, .inl kS)), (b1, .inl (cI, 64, .inl kR)), (a2, .inl (cJ, 4, .inr (.inl tf))), (a3, .inl (cJ, 16, .inr (.inl lf)))]) (w1 := [(m0, .inr (8, [.int z0, .int z1, .int z2, .int z3, .long (lN P), .long (lN Q), .long (lN G), .long z7, .long z8, .long z9, .int z10, .ref a0, .ref a1, .ref a2, .ref a3, .ref a4, .ref a5, .ref a6, .ref a7, .ref a8, .ref a9, .ref b0, .ref b1, .int (nI 8), .ref b2, .ref b3, .ref b4, .ref b5])), (a7, .inl (cI, 256, .inl (o8 bf 0 (lN P))))]) hP hD [0, 1] [2, 3, 4, 5, 6, 7] rfl rfl (by decide) (by decide) hk1 hFc hP1 hD1
  have hP := hP.sub (ws' := [(m0, .inr (8, [.int z0, .int z1, .int z2, .int z3, .long (lN P), .long (lN Q), .long (lN G), .long z7, .long z8, .long z9, .int z10, .ref a0, .ref a1, .ref a2, .ref a3, .ref a4, .ref a5, .ref a6, .ref a7, .ref a8, .ref a9, .ref b0, .ref b1, .int (nI 8), .ref b2, .ref b3, .ref b4, .ref b5])), (a7, .inl (cI, 256, .inl (o8 bf 0 (lN P)))), (a8, .inl (cI, 64, .inl sc)), (a9, .inl (cI, 8, .inl st)), (b0, .inl (cI, 8, .inl kS)), (b1, .inl (cI, 64, .inl kR)), (a2, .inl (cJ, 4, .inr (.inl tf))), (a3, .inl (cJ, 16, .inr (.inl lf)))]) [6, 7, 0, 1, 2, 3, 4, 5] rfl
  have hD := hD.sub (ws' := [(m0, .inr (8, [.int z0, .int z1, .int z2, .int z3, .long (lN P), .long (lN Q), .long (lN G), .long z7, .long z8, .long z9, .int z10, .ref a0, .ref a1, .ref a2, .ref a3, .ref a4, .ref a5, .ref a6, .ref a7, .ref a8, .ref a9, .ref b0, .ref b1, .int (nI 8), .ref b2, .ref b3, .ref b4, .ref b5])), (a7, .inl (cI, 256, .inl (o8 bf 0 (lN P)))), (a8, .inl (cI, 64, .inl sc)), (a9, .inl (cI, 8, .inl st)), (b0, .inl (cI, 8, .inl kS)), (b1, .inl (cI, 64, .inl kR)), (a2, .inl (cJ, 4, .inr (.inl tf))), (a3, .inl (cJ, 16, .inr (.inl lf)))]) [6, 7, 0, 1, 2, 3, 4, 5] (by decide) rfl
  generalize H1 = H at hP hS ⊢
  obtain ⟨g_2, eg_2⟩ : ∃ f : Nat → Int32, f = o8 bf 0 (lN P) := ⟨_, rfl⟩
  rw [← eg_2] at hP hD
  have hm_3 : bok g_2 1 [lN P] := bok_add _ hm0 rfl eg_2
  refine lv_aload_n hx hb d_Bm_hash_13 rfl (lv_at hl 0 rfl) ?_
  refine lv_aload_n hx hb d_Bm_hash_14 rfl (lv_at hl 0 rfl) ?_
  refine va_get (D := (dC, dI)) (ci := 8) (v := .long (lN G)) (C := "BallotBoardModel") (T := F_Bm) (N := 28) hx hb hts (fun w9 h9 => List.mem_cons_of_mem _ (i_Bm w9 h9)) hown hK hP 0 rfl rfl 6 (by decide) (hts _ (List.mem_cons_of_mem _ gk_925)) (fun _ h9 => h9) rfl d_Bm_hash_15 ?_
  have hPc := hP.sub (ws' := (mo_ws m0 z0 z1 z2 z3 (lN P) (lN Q) (lN G) z7 z8 z9 z10 a0 a1 a2 a3 a4 a5 a6 a7 a8 a9 b0 b1 8 b2 b3 b4 b5 ++ (iw_ws a7 cI 256 g_2))) [0, 1] rfl
  have hDc := hD.sub (ws' := (mo_ws m0 z0 z1 z2 z3 (lN P) (lN Q) (lN G) z7 z8 z9 z10 a0 a1 a2 a3 a4 a5 a6 a7 a8 a9 b0 b1 8 b2 b3 b4 b5 ++ (iw_ws a7 cI 256 g_2))) [0, 1] (by decide) rfl
  have hKc := hK.sub (tys' := [(cJ, .long), (cI, .int)]) [0, 1] rfl
  have hFc := va_free (wc := (mo_ws m0 z0 z1 z2 z3 (lN P) (lN Q) (lN G) z7 z8 z9 z10 a0 a1 a2 a3 a4 a5 a6 a7 a8 a9 b0 b1 8 b2 b3 b4 b5 ++ (iw_ws a7 cI 256 g_2))) hD hS hA [0, 1] rfl
  refine va_callv (va_runV (As := [.long (lN G)]) (rest := []) ⟨hx, hb, hml, hown, hts⟩ (c_Bm_eight l dC dI cJ cI H.size m0 z0 z1 z2 z3 (lN P) (lN Q) (lN G) z7 z8 z9 z10 a0 a1 a2 a3 a4 a5 a6 a7 a8 a9 b0 b1 8 b2 b3 b4 b5 g_2 (lN G) (by omega)) (cwV 1 hts (gw_V gk_1070 gk_1072 gp_36 gk_7 gk_1073) rfl rfl rfl (by decide +kernel) ⟨Nat.le_of_ble_eq_true rfl, Nat.le_of_ble_eq_true rfl⟩) ⟨fun a U g mk q => by obtain ⟨q0, q1, qP, qK, qD⟩ := q; exact ⟨q0, q1, qP, va_K.moved (u := U) (U := U.calling g mk a) (Vm.Alike.refl U.vm) qK, qD⟩, va_recv hK hP (ci := 8) (q0 := 0) rfl rfl, fun U hU hW => ⟨rfl, by rw [hU], by rw [hU]; exact hPc, va_K.moved hW.alike hKc, hDc.weaken (fun _ _ _ _ => trivial)⟩⟩ rfl rfl hl.1 rfl (lv_room (Nat.le_of_ble_eq_true rfl)) d_Bm_hash_18 ⟨Nat.le_of_ble_eq_true rfl, Nat.le_of_ble_eq_true rfl⟩) hS (fun q _ h => hFc q h) hFc (fun u9 t9 H1 locs ht hvm hw hB hz1 hk1 hS => ?_)
  obtain ⟨hP1, hK1, hD1⟩ := hB
  rw [ht] at hP1
  obtain ⟨hP, hD⟩ := va_join (wr := [(a8, .inl (cI, 64, .inl sc)), (a9, .inl (cI, 8, .inl st)), (b0, .inl (cI, 8, .inl kS)), (b1, .inl (cI, 64, .inl kR)), (a2, .inl (cJ, 4, .inr (.inl tf))), (a3, .inl (cJ, 16, .inr (.inl lf)))]) (w1 := [(m0, .inr (8, [.int z0, .int z1, .int z2, .int z3, .long (lN P), .long (lN Q), .long (lN G), .long z7, .long z8, .long z9, .int z10, .ref a0, .ref a1, .ref a2, .ref a3, .ref a4, .ref a5, .ref a6, .ref a7, .ref a8, .ref a9, .ref b0, .ref b1, .int (nI 16), .ref b2, .ref b3, .ref b4, .ref b5])), (a7, .inl (cI, 256, .inl (o8 g_2 8 (lN G))))]) hP hD [0, 1] [2, 3, 4, 5, 6, 7] rfl rfl (by decide) (by decide) hk1 hFc hP1 hD1
  have hP := hP.sub (ws' := [(m0, .inr (8, [.int z0, .int z1, .int z2, .int z3, .long (lN P), .long (lN Q), .long (lN G), .long z7, .long z8, .long z9, .int z10, .ref a0, .ref a1, .ref a2, .ref a3, .ref a4, .ref a5, .ref a6, .ref a7, .ref a8, .ref a9, .ref b0, .ref b1, .int (nI 16), .ref b2, .ref b3, .ref b4, .ref b5])), (a7, .inl (cI, 256, .inl (o8 g_2 8 (lN G)))), (a8, .inl (cI, 64, .inl sc)), (a9, .inl (cI, 8, .inl st)), (b0, .inl (cI, 8, .inl kS)), (b1, .inl (cI, 64, .inl kR)), (a2, .inl (cJ, 4, .inr (.inl tf))), (a3, .inl (cJ, 16, .inr (.inl lf)))]) [6, 7, 0, 1, 2, 3, 4, 5] rfl
  have hD := hD.sub (ws' := [(m0, .inr (8, [.int z0, .int z1, .int z2, .int z3, .long (lN P), .long (lN Q), .long (lN G), .long z7, .long z8, .long z9, .int z10, .ref a0, .ref a1, .ref a2, .ref a3, .ref a4, .ref a5, .ref a6, .ref a7, .ref a8, .ref a9, .ref b0, .ref b1, .int (nI 16), .ref b2, .ref b3, .ref b4, .ref b5])), (a7, .inl (cI, 256, .inl (o8 g_2 8 (lN G)))), (a8, .inl (cI, 64, .inl sc)), (a9, .inl (cI, 8, .inl st)), (b0, .inl (cI, 8, .inl kS)), (b1, .inl (cI, 64, .inl kR)), (a2, .inl (cJ, 4, .inr (.inl tf))), (a3, .inl (cJ, 16, .inr (.inl lf)))]) [6, 7, 0, 1, 2, 3, 4, 5] (by decide) rfl
  generalize H1 = H at hP hS ⊢
  obtain ⟨g_5, eg_5⟩ : ∃ f : Nat → Int32, f = o8 g_2 8 (lN G) := ⟨_, rfl⟩
  rw [← eg_5] at hP hD
  have hm_6 : bok g_5 2 [lN P, lN G] := bok_add _ hm_3 rfl eg_5
  refine lv_iconst (v := 0) hx hb d_Bm_hash_21 (by decide) ?_
  refine lv_istore_n (lv' := [(2, .int 0), (0, .ref m0), (1, .int 6)]) hx hb d_Bm_hash_22 rfl hl (by decide) rfl (fun ls hl => ?_)
  refine lv_iload_n hx hb d_Bm_hash_23 rfl (lv_at hl 0 rfl) ?_
  refine lv_iload_n hx hb d_Bm_hash_24 rfl (lv_at hl 2 rfl) ?_
  refine lv_icmp_ge (tgt := 44) hx hb d_Bm_hash_25 (by decide) (fun c_7 => ?_) (fun c_7 => ?_)
  · -- taken
    exact absurd c_7 (by decide)
  · -- not taken
    refine lv_aload_n hx hb d_Bm_hash_28 rfl (lv_at hl 1 rfl) ?_
    refine lv_aload_n hx hb d_Bm_hash_29 rfl (lv_at hl 1 rfl) ?_
    refine va_get (D := (dC, dI)) (ci := 8) (v := .ref a3) (C := "BallotBoardModel") (T := F_Bm) (N := 28) hx hb hts (fun w9 h9 => List.mem_cons_of_mem _ (i_Bm w9 h9)) hown hK hP 0 rfl rfl 14 (by decide) (hts _ (List.mem_cons_of_mem _ gk_933)) (fun _ h9 => h9) rfl d_Bm_hash_30 ?_
    refine lv_iload_n hx hb d_Bm_hash_33 rfl (lv_at hl 0 rfl) ?_
    refine va_lald hx hb hK hP 7 0 rfl rfl (vp_lit rfl) d_Bm_hash_34 ?_
    rw [show (lf (0 : Int32).toNatClampNeg : Int64) = lf 0 from rfl]
    have hPc := hP.sub (ws' := (mo_ws m0 z0 z1 z2 z3 (lN P) (lN Q) (lN G) z7 z8 z9 z10 a0 a1 a2 a3 a4 a5 a6 a7 a8 a9 b0 b1 16 b2 b3 b4 b5 ++ (iw_ws a7 cI 256 g_5))) [0, 1] rfl
    have hDc := hD.sub (ws' := (mo_ws m0 z0 z1 z2 z3 (lN P) (lN Q) (lN G) z7 z8 z9 z10 a0 a1 a2 a3 a4 a5 a6 a7 a8 a9 b0 b1 16 b2 b3 b4 b5 ++ (iw_ws a7 cI 256 g_5))) [0, 1] (by decide) rfl
    have hKc := hK.sub (tys' := [(cJ, .long), (cI, .int)]) [0, 1] rfl
    have hFc := va_free (wc := (mo_ws m0 z0 z1 z2 z3 (lN P) (lN Q) (lN G) z7 z8 z9 z10 a0 a1 a2 a3 a4 a5 a6 a7 a8 a9 b0 b1 16 b2 b3 b4 b5 ++ (iw_ws a7 cI 256 g_5))) hD hS hA [0, 1] rfl
    refine va_callv (va_runV (As := [.long (lf 0)]) (rest := []) ⟨hx, hb, hml, hown, hts⟩ (c_Bm_eight l dC dI cJ cI H.size m0 z0 z1 z2 z3 (lN P) (lN Q) (lN G) z7 z8 z9 z10 a0 a1 a2 a3 a4 a5 a6 a7 a8 a9 b0 b1 16 b2 b3 b4 b5 g_5 (lf 0) (by omega)) (cwV 1 hts (gw_V gk_1070 gk_1072 gp_36 gk_7 gk_1073) rfl rfl rfl (by decide +kernel) ⟨Nat.le_of_ble_eq_true rfl, Nat.le_of_ble_eq_true rfl⟩) ⟨fun a U g mk q => by obtain ⟨q0, q1, qP, qK, qD⟩ := q; exact ⟨q0, q1, qP, va_K.moved (u := U) (U := U.calling g mk a) (Vm.Alike.refl U.vm) qK, qD⟩, va_recv hK hP (ci := 8) (q0 := 0) rfl rfl, fun U hU hW => ⟨rfl, by rw [hU], by rw [hU]; exact hPc, va_K.moved hW.alike hKc, hDc.weaken (fun _ _ _ _ => trivial)⟩⟩ rfl rfl hl.1 rfl (lv_room (Nat.le_of_ble_eq_true rfl)) d_Bm_hash_35 ⟨Nat.le_of_ble_eq_true rfl, Nat.le_of_ble_eq_true rfl⟩) hS (fun q _ h => hFc q h) hFc (fun u9 t9 H1 locs ht hvm hw hB hz1 hk1 hS => ?_)
    obtain ⟨hP1, hK1, hD1⟩ := hB
    rw [ht] at hP1
    obtain ⟨hP, hD⟩ := va_join (wr := [(a8, .inl (cI, 64, .inl sc)), (a9, .inl (cI, 8, .inl st)), (b0, .inl (cI, 8, .inl kS)), (b1, .inl (cI, 64, .inl kR)), (a2, .inl (cJ, 4, .inr (.inl tf))), (a3, .inl (cJ, 16, .inr (.inl lf)))]) (w1 := [(m0, .inr (8, [.int z0, .int z1, .int z2, .int z3, .long (lN P), .long (lN Q), .long (lN G), .long z7, .long z8, .long z9, .int z10, .ref a0, .ref a1, .ref a2, .ref a3, .ref a4, .ref a5, .ref a6, .ref a7, .ref a8, .ref a9, .ref b0, .ref b1, .int (nI 24), .ref b2, .ref b3, .ref b4, .ref b5])), (a7, .inl (cI, 256, .inl (o8 g_5 16 (lf 0))))]) hP hD [0, 1] [2, 3, 4, 5, 6, 7] rfl rfl (by decide) (by decide) hk1 hFc hP1 hD1
    have hP := hP.sub (ws' := [(m0, .inr (8, [.int z0, .int z1, .int z2, .int z3, .long (lN P), .long (lN Q), .long (lN G), .long z7, .long z8, .long z9, .int z10, .ref a0, .ref a1, .ref a2, .ref a3, .ref a4, .ref a5, .ref a6, .ref a7, .ref a8, .ref a9, .ref b0, .ref b1, .int (nI 24), .ref b2, .ref b3, .ref b4, .ref b5])), (a7, .inl (cI, 256, .inl (o8 g_5 16 (lf 0)))), (a8, .inl (cI, 64, .inl sc)), (a9, .inl (cI, 8, .inl st)), (b0, .inl (cI, 8, .inl kS)), (b1, .inl (cI, 64, .inl kR)), (a2, .inl (cJ, 4, .inr (.inl tf))), (a3, .inl (cJ, 16, .inr (.inl lf)))]) [6, 7, 0, 1, 2, 3, 4, 5] rfl
    have hD := hD.sub (ws' := [(m0, .inr (8, [.int z0, .int z1, .int z2, .int z3, .long (lN P), .long (lN Q), .long (lN G), .long z7, .long z8, .long z9, .int z10, .ref a0, .ref a1, .ref a2, .ref a3, .ref a4, .ref a5, .ref a6, .ref a7, .ref a8, .ref a9, .ref b0, .ref b1, .int (nI 24), .ref b2, .ref b3, .ref b4, .ref b5])), (a7, .inl (cI, 256, .inl (o8 g_5 16 (lf 0)))), (a8, .inl (cI, 64, .inl sc)), (a9, .inl (cI, 8, .inl st)), (b0, .inl (cI, 8, .inl kS)), (b1, .inl (cI, 64, .inl kR)), (a2, .inl (cJ, 4, .inr (.inl tf))), (a3, .inl (cJ, 16, .inr (.inl lf)))]) [6, 7, 0, 1, 2, 3, 4, 5] (by decide) rfl
    generalize H1 = H at hP hS ⊢
    obtain ⟨g_9, eg_9⟩ : ∃ f : Nat → Int32, f = o8 g_5 16 (lf 0) := ⟨_, rfl⟩
    rw [← eg_9] at hP hD
    have hm_10 : bok g_9 3 [lN P, lN G, lf 0] := bok_add _ hm_6 rfl eg_9
    obtain ⟨i_11, ei_11⟩ : ∃ y : Int32, y = 0 + 1 := ⟨_, rfl⟩
    refine lv_iinc (v := i_11) (lv' := [(2, .int i_11), (0, .ref m0), (1, .int 6)]) hx hb d_Bm_hash_38 hl (k := 0) rfl (by rw [ei_11]; rfl) (by decide) rfl (fun ls hl => ?_)
    obtain rfl : i_11 = 1 := by rw [ei_11]; exact by decide
    refine lv_goto (tgt := 23) hx hb d_Bm_hash_41 (by decide) ?_
    refine lv_iload_n hx hb d_Bm_hash_23 rfl (lv_at hl 0 rfl) ?_
    refine lv_iload_n hx hb d_Bm_hash_24 rfl (lv_at hl 2 rfl) ?_
    refine lv_icmp_ge (tgt := 44) hx hb d_Bm_hash_25 (by decide) (fun c_12 => ?_) (fun c_12 => ?_)
    · -- taken
      exact absurd c_12 (by decide)
    · -- not taken
      refine lv_aload_n hx hb d_Bm_hash_28 rfl (lv_at hl 1 rfl) ?_
      refine lv_aload_n hx hb d_Bm_hash_29 rfl (lv_at hl 1 rfl) ?_
      refine va_get (D := (dC, dI)) (ci := 8) (v := .ref a3) (C := "BallotBoardModel") (T := F_Bm) (N := 28) hx hb hts (fun w9 h9 => List.mem_cons_of_mem _ (i_Bm w9 h9)) hown hK hP 0 rfl rfl 14 (by decide) (hts _ (List.mem_cons_of_mem _ gk_933)) (fun _ h9 => h9) rfl d_Bm_hash_30 ?_
      refine lv_iload_n hx hb d_Bm_hash_33 rfl (lv_at hl 0 rfl) ?_
      refine va_lald hx hb hK hP 7 0 rfl rfl (vp_lit rfl) d_Bm_hash_34 ?_
      rw [show (lf (1 : Int32).toNatClampNeg : Int64) = lf 1 from rfl]
      have hPc := hP.sub (ws' := (mo_ws m0 z0 z1 z2 z3 (lN P) (lN Q) (lN G) z7 z8 z9 z10 a0 a1 a2 a3 a4 a5 a6 a7 a8 a9 b0 b1 24 b2 b3 b4 b5 ++ (iw_ws a7 cI 256 g_9))) [0, 1] rfl
      have hDc := hD.sub (ws' := (mo_ws m0 z0 z1 z2 z3 (lN P) (lN Q) (lN G) z7 z8 z9 z10 a0 a1 a2 a3 a4 a5 a6 a7 a8 a9 b0 b1 24 b2 b3 b4 b5 ++ (iw_ws a7 cI 256 g_9))) [0, 1] (by decide) rfl
      have hKc := hK.sub (tys' := [(cJ, .long), (cI, .int)]) [0, 1] rfl
      have hFc := va_free (wc := (mo_ws m0 z0 z1 z2 z3 (lN P) (lN Q) (lN G) z7 z8 z9 z10 a0 a1 a2 a3 a4 a5 a6 a7 a8 a9 b0 b1 24 b2 b3 b4 b5 ++ (iw_ws a7 cI 256 g_9))) hD hS hA [0, 1] rfl
      refine va_callv (va_runV (As := [.long (lf 1)]) (rest := []) ⟨hx, hb, hml, hown, hts⟩ (c_Bm_eight l dC dI cJ cI H.size m0 z0 z1 z2 z3 (lN P) (lN Q) (lN G) z7 z8 z9 z10 a0 a1 a2 a3 a4 a5 a6 a7 a8 a9 b0 b1 24 b2 b3 b4 b5 g_9 (lf 1) (by omega)) (cwV 1 hts (gw_V gk_1070 gk_1072 gp_36 gk_7 gk_1073) rfl rfl rfl (by decide +kernel) ⟨Nat.le_of_ble_eq_true rfl, Nat.le_of_ble_eq_true rfl⟩) ⟨fun a U g mk q => by obtain ⟨q0, q1, qP, qK, qD⟩ := q; exact ⟨q0, q1, qP, va_K.moved (u := U) (U := U.calling g mk a) (Vm.Alike.refl U.vm) qK, qD⟩, va_recv hK hP (ci := 8) (q0 := 0) rfl rfl, fun U hU hW => ⟨rfl, by rw [hU], by rw [hU]; exact hPc, va_K.moved hW.alike hKc, hDc.weaken (fun _ _ _ _ => trivial)⟩⟩ rfl rfl hl.1 rfl (lv_room (Nat.le_of_ble_eq_true rfl)) d_Bm_hash_35 ⟨Nat.le_of_ble_eq_true rfl, Nat.le_of_ble_eq_true rfl⟩) hS (fun q _ h => hFc q h) hFc (fun u9 t9 H1 locs ht hvm hw hB hz1 hk1 hS => ?_)
      obtain ⟨hP1, hK1, hD1⟩ := hB
      rw [ht] at hP1
      obtain ⟨hP, hD⟩ := va_join (wr := [(a8, .inl (cI, 64, .inl sc)), (a9, .inl (cI, 8, .inl st)), (b0, .inl (cI, 8, .inl kS)), (b1, .inl (cI, 64, .inl kR)), (a2, .inl (cJ, 4, .inr (.inl tf))), (a3, .inl (cJ, 16, .inr (.inl lf)))]) (w1 := [(m0, .inr (8, [.int z0, .int z1, .int z2, .int z3, .long (lN P), .long (lN Q), .long (lN G), .long z7, .long z8, .long z9, .int z10, .ref a0, .ref a1, .ref a2, .ref a3, .ref a4, .ref a5, .ref a6, .ref a7, .ref a8, .ref a9, .ref b0, .ref b1, .int (nI 32), .ref b2, .ref b3, .ref b4, .ref b5])), (a7, .inl (cI, 256, .inl (o8 g_9 24 (lf 1))))]) hP hD [0, 1] [2, 3, 4, 5, 6, 7] rfl rfl (by decide) (by decide) hk1 hFc hP1 hD1
      have hP := hP.sub (ws' := [(m0, .inr (8, [.int z0, .int z1, .int z2, .int z3, .long (lN P), .long (lN Q), .long (lN G), .long z7, .long z8, .long z9, .int z10, .ref a0, .ref a1, .ref a2, .ref a3, .ref a4, .ref a5, .ref a6, .ref a7, .ref a8, .ref a9, .ref b0, .ref b1, .int (nI 32), .ref b2, .ref b3, .ref b4, .ref b5])), (a7, .inl (cI, 256, .inl (o8 g_9 24 (lf 1)))), (a8, .inl (cI, 64, .inl sc)), (a9, .inl (cI, 8, .inl st)), (b0, .inl (cI, 8, .inl kS)), (b1, .inl (cI, 64, .inl kR)), (a2, .inl (cJ, 4, .inr (.inl tf))), (a3, .inl (cJ, 16, .inr (.inl lf)))]) [6, 7, 0, 1, 2, 3, 4, 5] rfl
      have hD := hD.sub (ws' := [(m0, .inr (8, [.int z0, .int z1, .int z2, .int z3, .long (lN P), .long (lN Q), .long (lN G), .long z7, .long z8, .long z9, .int z10, .ref a0, .ref a1, .ref a2, .ref a3, .ref a4, .ref a5, .ref a6, .ref a7, .ref a8, .ref a9, .ref b0, .ref b1, .int (nI 32), .ref b2, .ref b3, .ref b4, .ref b5])), (a7, .inl (cI, 256, .inl (o8 g_9 24 (lf 1)))), (a8, .inl (cI, 64, .inl sc)), (a9, .inl (cI, 8, .inl st)), (b0, .inl (cI, 8, .inl kS)), (b1, .inl (cI, 64, .inl kR)), (a2, .inl (cJ, 4, .inr (.inl tf))), (a3, .inl (cJ, 16, .inr (.inl lf)))]) [6, 7, 0, 1, 2, 3, 4, 5] (by decide) rfl
      generalize H1 = H at hP hS ⊢
      obtain ⟨g_14, eg_14⟩ : ∃ f : Nat → Int32, f = o8 g_9 24 (lf 1) := ⟨_, rfl⟩
      rw [← eg_14] at hP hD
      have hm_15 : bok g_14 4 [lN P, lN G, lf 0, lf 1] := bok_add _ hm_10 rfl eg_14
      obtain ⟨i_16, ei_16⟩ : ∃ y : Int32, y = 1 + 1 := ⟨_, rfl⟩
      refine lv_iinc (v := i_16) (lv' := [(2, .int i_16), (0, .ref m0), (1, .int 6)]) hx hb d_Bm_hash_38 hl (k := 0) rfl (by rw [ei_16]; rfl) (by decide) rfl (fun ls hl => ?_)
      obtain rfl : i_16 = 2 := by rw [ei_16]; exact by decide
      refine lv_goto (tgt := 23) hx hb d_Bm_hash_41 (by decide) ?_
      refine lv_iload_n hx hb d_Bm_hash_23 rfl (lv_at hl 0 rfl) ?_
      refine lv_iload_n hx hb d_Bm_hash_24 rfl (lv_at hl 2 rfl) ?_
      refine lv_icmp_ge (tgt := 44) hx hb d_Bm_hash_25 (by decide) (fun c_17 => ?_) (fun c_17 => ?_)
      · -- taken
        exact absurd c_17 (by decide)
      · -- not taken
        refine lv_aload_n hx hb d_Bm_hash_28 rfl (lv_at hl 1 rfl) ?_
        refine lv_aload_n hx hb d_Bm_hash_29 rfl (lv_at hl 1 rfl) ?_
        refine va_get (D := (dC, dI)) (ci := 8) (v := .ref a3) (C := "BallotBoardModel") (T := F_Bm) (N := 28) hx hb hts (fun w9 h9 => List.mem_cons_of_mem _ (i_Bm w9 h9)) hown hK hP 0 rfl rfl 14 (by decide) (hts _ (List.mem_cons_of_mem _ gk_933)) (fun _ h9 => h9) rfl d_Bm_hash_30 ?_
        refine lv_iload_n hx hb d_Bm_hash_33 rfl (lv_at hl 0 rfl) ?_
        refine va_lald hx hb hK hP 7 0 rfl rfl (vp_lit rfl) d_Bm_hash_34 ?_
        rw [show (lf (2 : Int32).toNatClampNeg : Int64) = lf 2 from rfl]
        have hPc := hP.sub (ws' := (mo_ws m0 z0 z1 z2 z3 (lN P) (lN Q) (lN G) z7 z8 z9 z10 a0 a1 a2 a3 a4 a5 a6 a7 a8 a9 b0 b1 32 b2 b3 b4 b5 ++ (iw_ws a7 cI 256 g_14))) [0, 1] rfl
        have hDc := hD.sub (ws' := (mo_ws m0 z0 z1 z2 z3 (lN P) (lN Q) (lN G) z7 z8 z9 z10 a0 a1 a2 a3 a4 a5 a6 a7 a8 a9 b0 b1 32 b2 b3 b4 b5 ++ (iw_ws a7 cI 256 g_14))) [0, 1] (by decide) rfl
        have hKc := hK.sub (tys' := [(cJ, .long), (cI, .int)]) [0, 1] rfl
        have hFc := va_free (wc := (mo_ws m0 z0 z1 z2 z3 (lN P) (lN Q) (lN G) z7 z8 z9 z10 a0 a1 a2 a3 a4 a5 a6 a7 a8 a9 b0 b1 32 b2 b3 b4 b5 ++ (iw_ws a7 cI 256 g_14))) hD hS hA [0, 1] rfl
        refine va_callv (va_runV (As := [.long (lf 2)]) (rest := []) ⟨hx, hb, hml, hown, hts⟩ (c_Bm_eight l dC dI cJ cI H.size m0 z0 z1 z2 z3 (lN P) (lN Q) (lN G) z7 z8 z9 z10 a0 a1 a2 a3 a4 a5 a6 a7 a8 a9 b0 b1 32 b2 b3 b4 b5 g_14 (lf 2) (by omega)) (cwV 1 hts (gw_V gk_1070 gk_1072 gp_36 gk_7 gk_1073) rfl rfl rfl (by decide +kernel) ⟨Nat.le_of_ble_eq_true rfl, Nat.le_of_ble_eq_true rfl⟩) ⟨fun a U g mk q => by obtain ⟨q0, q1, qP, qK, qD⟩ := q; exact ⟨q0, q1, qP, va_K.moved (u := U) (U := U.calling g mk a) (Vm.Alike.refl U.vm) qK, qD⟩, va_recv hK hP (ci := 8) (q0 := 0) rfl rfl, fun U hU hW => ⟨rfl, by rw [hU], by rw [hU]; exact hPc, va_K.moved hW.alike hKc, hDc.weaken (fun _ _ _ _ => trivial)⟩⟩ rfl rfl hl.1 rfl (lv_room (Nat.le_of_ble_eq_true rfl)) d_Bm_hash_35 ⟨Nat.le_of_ble_eq_true rfl, Nat.le_of_ble_eq_true rfl⟩) hS (fun q _ h => hFc q h) hFc (fun u9 t9 H1 locs ht hvm hw hB hz1 hk1 hS => ?_)
        obtain ⟨hP1, hK1, hD1⟩ := hB
        rw [ht] at hP1
        obtain ⟨hP, hD⟩ := va_join (wr := [(a8, .inl (cI, 64, .inl sc)), (a9, .inl (cI, 8, .inl st)), (b0, .inl (cI, 8, .inl kS)), (b1, .inl (cI, 64, .inl kR)), (a2, .inl (cJ, 4, .inr (.inl tf))), (a3, .inl (cJ, 16, .inr (.inl lf)))]) (w1 := [(m0, .inr (8, [.int z0, .int z1, .int z2, .int z3, .long (lN P), .long (lN Q), .long (lN G), .long z7, .long z8, .long z9, .int z10, .ref a0, .ref a1, .ref a2, .ref a3, .ref a4, .ref a5, .ref a6, .ref a7, .ref a8, .ref a9, .ref b0, .ref b1, .int (nI 40), .ref b2, .ref b3, .ref b4, .ref b5])), (a7, .inl (cI, 256, .inl (o8 g_14 32 (lf 2))))]) hP hD [0, 1] [2, 3, 4, 5, 6, 7] rfl rfl (by decide) (by decide) hk1 hFc hP1 hD1
        have hP := hP.sub (ws' := [(m0, .inr (8, [.int z0, .int z1, .int z2, .int z3, .long (lN P), .long (lN Q), .long (lN G), .long z7, .long z8, .long z9, .int z10, .ref a0, .ref a1, .ref a2, .ref a3, .ref a4, .ref a5, .ref a6, .ref a7, .ref a8, .ref a9, .ref b0, .ref b1, .int (nI 40), .ref b2, .ref b3, .ref b4, .ref b5])), (a7, .inl (cI, 256, .inl (o8 g_14 32 (lf 2)))), (a8, .inl (cI, 64, .inl sc)), (a9, .inl (cI, 8, .inl st)), (b0, .inl (cI, 8, .inl kS)), (b1, .inl (cI, 64, .inl kR)), (a2, .inl (cJ, 4, .inr (.inl tf))), (a3, .inl (cJ, 16, .inr (.inl lf)))]) [6, 7, 0, 1, 2, 3, 4, 5] rfl
        have hD := hD.sub (ws' := [(m0, .inr (8, [.int z0, .int z1, .int z2, .int z3, .long (lN P), .long (lN Q), .long (lN G), .long z7, .long z8, .long z9, .int z10, .ref a0, .ref a1, .ref a2, .ref a3, .ref a4, .ref a5, .ref a6, .ref a7, .ref a8, .ref a9, .ref b0, .ref b1, .int (nI 40), .ref b2, .ref b3, .ref b4, .ref b5])), (a7, .inl (cI, 256, .inl (o8 g_14 32 (lf 2)))), (a8, .inl (cI, 64, .inl sc)), (a9, .inl (cI, 8, .inl st)), (b0, .inl (cI, 8, .inl kS)), (b1, .inl (cI, 64, .inl kR)), (a2, .inl (cJ, 4, .inr (.inl tf))), (a3, .inl (cJ, 16, .inr (.inl lf)))]) [6, 7, 0, 1, 2, 3, 4, 5] (by decide) rfl
        generalize H1 = H at hP hS ⊢
        obtain ⟨g_19, eg_19⟩ : ∃ f : Nat → Int32, f = o8 g_14 32 (lf 2) := ⟨_, rfl⟩
        rw [← eg_19] at hP hD
        have hm_20 : bok g_19 5 [lN P, lN G, lf 0, lf 1, lf 2] := bok_add _ hm_15 rfl eg_19
        obtain ⟨i_21, ei_21⟩ : ∃ y : Int32, y = 2 + 1 := ⟨_, rfl⟩
        refine lv_iinc (v := i_21) (lv' := [(2, .int i_21), (0, .ref m0), (1, .int 6)]) hx hb d_Bm_hash_38 hl (k := 0) rfl (by rw [ei_21]; rfl) (by decide) rfl (fun ls hl => ?_)
        obtain rfl : i_21 = 3 := by rw [ei_21]; exact by decide
        refine lv_goto (tgt := 23) hx hb d_Bm_hash_41 (by decide) ?_
        refine lv_iload_n hx hb d_Bm_hash_23 rfl (lv_at hl 0 rfl) ?_
        refine lv_iload_n hx hb d_Bm_hash_24 rfl (lv_at hl 2 rfl) ?_
        refine lv_icmp_ge (tgt := 44) hx hb d_Bm_hash_25 (by decide) (fun c_22 => ?_) (fun c_22 => ?_)
        · -- taken
          exact absurd c_22 (by decide)
        · -- not taken
          refine lv_aload_n hx hb d_Bm_hash_28 rfl (lv_at hl 1 rfl) ?_
          refine lv_aload_n hx hb d_Bm_hash_29 rfl (lv_at hl 1 rfl) ?_
          refine va_get (D := (dC, dI)) (ci := 8) (v := .ref a3) (C := "BallotBoardModel") (T := F_Bm) (N := 28) hx hb hts (fun w9 h9 => List.mem_cons_of_mem _ (i_Bm w9 h9)) hown hK hP 0 rfl rfl 14 (by decide) (hts _ (List.mem_cons_of_mem _ gk_933)) (fun _ h9 => h9) rfl d_Bm_hash_30 ?_
          refine lv_iload_n hx hb d_Bm_hash_33 rfl (lv_at hl 0 rfl) ?_
          refine va_lald hx hb hK hP 7 0 rfl rfl (vp_lit rfl) d_Bm_hash_34 ?_
          rw [show (lf (3 : Int32).toNatClampNeg : Int64) = lf 3 from rfl]
          have hPc := hP.sub (ws' := (mo_ws m0 z0 z1 z2 z3 (lN P) (lN Q) (lN G) z7 z8 z9 z10 a0 a1 a2 a3 a4 a5 a6 a7 a8 a9 b0 b1 40 b2 b3 b4 b5 ++ (iw_ws a7 cI 256 g_19))) [0, 1] rfl
          have hDc := hD.sub (ws' := (mo_ws m0 z0 z1 z2 z3 (lN P) (lN Q) (lN G) z7 z8 z9 z10 a0 a1 a2 a3 a4 a5 a6 a7 a8 a9 b0 b1 40 b2 b3 b4 b5 ++ (iw_ws a7 cI 256 g_19))) [0, 1] (by decide) rfl
          have hKc := hK.sub (tys' := [(cJ, .long), (cI, .int)]) [0, 1] rfl
          have hFc := va_free (wc := (mo_ws m0 z0 z1 z2 z3 (lN P) (lN Q) (lN G) z7 z8 z9 z10 a0 a1 a2 a3 a4 a5 a6 a7 a8 a9 b0 b1 40 b2 b3 b4 b5 ++ (iw_ws a7 cI 256 g_19))) hD hS hA [0, 1] rfl
          refine va_callv (va_runV (As := [.long (lf 3)]) (rest := []) ⟨hx, hb, hml, hown, hts⟩ (c_Bm_eight l dC dI cJ cI H.size m0 z0 z1 z2 z3 (lN P) (lN Q) (lN G) z7 z8 z9 z10 a0 a1 a2 a3 a4 a5 a6 a7 a8 a9 b0 b1 40 b2 b3 b4 b5 g_19 (lf 3) (by omega)) (cwV 1 hts (gw_V gk_1070 gk_1072 gp_36 gk_7 gk_1073) rfl rfl rfl (by decide +kernel) ⟨Nat.le_of_ble_eq_true rfl, Nat.le_of_ble_eq_true rfl⟩) ⟨fun a U g mk q => by obtain ⟨q0, q1, qP, qK, qD⟩ := q; exact ⟨q0, q1, qP, va_K.moved (u := U) (U := U.calling g mk a) (Vm.Alike.refl U.vm) qK, qD⟩, va_recv hK hP (ci := 8) (q0 := 0) rfl rfl, fun U hU hW => ⟨rfl, by rw [hU], by rw [hU]; exact hPc, va_K.moved hW.alike hKc, hDc.weaken (fun _ _ _ _ => trivial)⟩⟩ rfl rfl hl.1 rfl (lv_room (Nat.le_of_ble_eq_true rfl)) d_Bm_hash_35 ⟨Nat.le_of_ble_eq_true rfl, Nat.le_of_ble_eq_true rfl⟩) hS (fun q _ h => hFc q h) hFc (fun u9 t9 H1 locs ht hvm hw hB hz1 hk1 hS => ?_)
          obtain ⟨hP1, hK1, hD1⟩ := hB
          rw [ht] at hP1
          obtain ⟨hP, hD⟩ := va_join (wr := [(a8, .inl (cI, 64, .inl sc)), (a9, .inl (cI, 8, .inl st)), (b0, .inl (cI, 8, .inl kS)), (b1, .inl (cI, 64, .inl kR)), (a2, .inl (cJ, 4, .inr (.inl tf))), (a3, .inl (cJ, 16, .inr (.inl lf)))]) (w1 := [(m0, .inr (8, [.int z0, .int z1, .int z2, .int z3, .long (lN P), .long (lN Q), .long (lN G), .long z7, .long z8, .long z9, .int z10, .ref a0, .ref a1, .ref a2, .ref a3, .ref a4, .ref a5, .ref a6, .ref a7, .ref a8, .ref a9, .ref b0, .ref b1, .int (nI 48), .ref b2, .ref b3, .ref b4, .ref b5])), (a7, .inl (cI, 256, .inl (o8 g_19 40 (lf 3))))]) hP hD [0, 1] [2, 3, 4, 5, 6, 7] rfl rfl (by decide) (by decide) hk1 hFc hP1 hD1
          have hP := hP.sub (ws' := [(m0, .inr (8, [.int z0, .int z1, .int z2, .int z3, .long (lN P), .long (lN Q), .long (lN G), .long z7, .long z8, .long z9, .int z10, .ref a0, .ref a1, .ref a2, .ref a3, .ref a4, .ref a5, .ref a6, .ref a7, .ref a8, .ref a9, .ref b0, .ref b1, .int (nI 48), .ref b2, .ref b3, .ref b4, .ref b5])), (a7, .inl (cI, 256, .inl (o8 g_19 40 (lf 3)))), (a8, .inl (cI, 64, .inl sc)), (a9, .inl (cI, 8, .inl st)), (b0, .inl (cI, 8, .inl kS)), (b1, .inl (cI, 64, .inl kR)), (a2, .inl (cJ, 4, .inr (.inl tf))), (a3, .inl (cJ, 16, .inr (.inl lf)))]) [6, 7, 0, 1, 2, 3, 4, 5] rfl
          have hD := hD.sub (ws' := [(m0, .inr (8, [.int z0, .int z1, .int z2, .int z3, .long (lN P), .long (lN Q), .long (lN G), .long z7, .long z8, .long z9, .int z10, .ref a0, .ref a1, .ref a2, .ref a3, .ref a4, .ref a5, .ref a6, .ref a7, .ref a8, .ref a9, .ref b0, .ref b1, .int (nI 48), .ref b2, .ref b3, .ref b4, .ref b5])), (a7, .inl (cI, 256, .inl (o8 g_19 40 (lf 3)))), (a8, .inl (cI, 64, .inl sc)), (a9, .inl (cI, 8, .inl st)), (b0, .inl (cI, 8, .inl kS)), (b1, .inl (cI, 64, .inl kR)), (a2, .inl (cJ, 4, .inr (.inl tf))), (a3, .inl (cJ, 16, .inr (.inl lf)))]) [6, 7, 0, 1, 2, 3, 4, 5] (by decide) rfl
          generalize H1 = H at hP hS ⊢
          obtain ⟨g_24, eg_24⟩ : ∃ f : Nat → Int32, f = o8 g_19 40 (lf 3) := ⟨_, rfl⟩
          rw [← eg_24] at hP hD
          have hm_25 : bok g_24 6 [lN P, lN G, lf 0, lf 1, lf 2, lf 3] := bok_add _ hm_20 rfl eg_24
          obtain ⟨i_26, ei_26⟩ : ∃ y : Int32, y = 3 + 1 := ⟨_, rfl⟩
          refine lv_iinc (v := i_26) (lv' := [(2, .int i_26), (0, .ref m0), (1, .int 6)]) hx hb d_Bm_hash_38 hl (k := 0) rfl (by rw [ei_26]; rfl) (by decide) rfl (fun ls hl => ?_)
          obtain rfl : i_26 = 4 := by rw [ei_26]; exact by decide
          refine lv_goto (tgt := 23) hx hb d_Bm_hash_41 (by decide) ?_
          refine lv_iload_n hx hb d_Bm_hash_23 rfl (lv_at hl 0 rfl) ?_
          refine lv_iload_n hx hb d_Bm_hash_24 rfl (lv_at hl 2 rfl) ?_
          refine lv_icmp_ge (tgt := 44) hx hb d_Bm_hash_25 (by decide) (fun c_27 => ?_) (fun c_27 => ?_)
          · -- taken
            exact absurd c_27 (by decide)
          · -- not taken
            refine lv_aload_n hx hb d_Bm_hash_28 rfl (lv_at hl 1 rfl) ?_
            refine lv_aload_n hx hb d_Bm_hash_29 rfl (lv_at hl 1 rfl) ?_
            refine va_get (D := (dC, dI)) (ci := 8) (v := .ref a3) (C := "BallotBoardModel") (T := F_Bm) (N := 28) hx hb hts (fun w9 h9 => List.mem_cons_of_mem _ (i_Bm w9 h9)) hown hK hP 0 rfl rfl 14 (by decide) (hts _ (List.mem_cons_of_mem _ gk_933)) (fun _ h9 => h9) rfl d_Bm_hash_30 ?_
            refine lv_iload_n hx hb d_Bm_hash_33 rfl (lv_at hl 0 rfl) ?_
            refine va_lald hx hb hK hP 7 0 rfl rfl (vp_lit rfl) d_Bm_hash_34 ?_
            rw [show (lf (4 : Int32).toNatClampNeg : Int64) = lf 4 from rfl]
            have hPc := hP.sub (ws' := (mo_ws m0 z0 z1 z2 z3 (lN P) (lN Q) (lN G) z7 z8 z9 z10 a0 a1 a2 a3 a4 a5 a6 a7 a8 a9 b0 b1 48 b2 b3 b4 b5 ++ (iw_ws a7 cI 256 g_24))) [0, 1] rfl
            have hDc := hD.sub (ws' := (mo_ws m0 z0 z1 z2 z3 (lN P) (lN Q) (lN G) z7 z8 z9 z10 a0 a1 a2 a3 a4 a5 a6 a7 a8 a9 b0 b1 48 b2 b3 b4 b5 ++ (iw_ws a7 cI 256 g_24))) [0, 1] (by decide) rfl
            have hKc := hK.sub (tys' := [(cJ, .long), (cI, .int)]) [0, 1] rfl
            have hFc := va_free (wc := (mo_ws m0 z0 z1 z2 z3 (lN P) (lN Q) (lN G) z7 z8 z9 z10 a0 a1 a2 a3 a4 a5 a6 a7 a8 a9 b0 b1 48 b2 b3 b4 b5 ++ (iw_ws a7 cI 256 g_24))) hD hS hA [0, 1] rfl
            refine va_callv (va_runV (As := [.long (lf 4)]) (rest := []) ⟨hx, hb, hml, hown, hts⟩ (c_Bm_eight l dC dI cJ cI H.size m0 z0 z1 z2 z3 (lN P) (lN Q) (lN G) z7 z8 z9 z10 a0 a1 a2 a3 a4 a5 a6 a7 a8 a9 b0 b1 48 b2 b3 b4 b5 g_24 (lf 4) (by omega)) (cwV 1 hts (gw_V gk_1070 gk_1072 gp_36 gk_7 gk_1073) rfl rfl rfl (by decide +kernel) ⟨Nat.le_of_ble_eq_true rfl, Nat.le_of_ble_eq_true rfl⟩) ⟨fun a U g mk q => by obtain ⟨q0, q1, qP, qK, qD⟩ := q; exact ⟨q0, q1, qP, va_K.moved (u := U) (U := U.calling g mk a) (Vm.Alike.refl U.vm) qK, qD⟩, va_recv hK hP (ci := 8) (q0 := 0) rfl rfl, fun U hU hW => ⟨rfl, by rw [hU], by rw [hU]; exact hPc, va_K.moved hW.alike hKc, hDc.weaken (fun _ _ _ _ => trivial)⟩⟩ rfl rfl hl.1 rfl (lv_room (Nat.le_of_ble_eq_true rfl)) d_Bm_hash_35 ⟨Nat.le_of_ble_eq_true rfl, Nat.le_of_ble_eq_true rfl⟩) hS (fun q _ h => hFc q h) hFc (fun u9 t9 H1 locs ht hvm hw hB hz1 hk1 hS => ?_)
            obtain ⟨hP1, hK1, hD1⟩ := hB
            rw [ht] at hP1
            obtain ⟨hP, hD⟩ := va_join (wr := [(a8, .inl (cI, 64, .inl sc)), (a9, .inl (cI, 8, .inl st)), (b0, .inl (cI, 8, .inl kS)), (b1, .inl (cI, 64, .inl kR)), (a2, .inl (cJ, 4, .inr (.inl tf))), (a3, .inl (cJ, 16, .inr (.inl lf)))]) (w1 := [(m0, .inr (8, [.int z0, .int z1, .int z2, .int z3, .long (lN P), .long (lN Q), .long (lN G), .long z7, .long z8, .long z9, .int z10, .ref a0, .ref a1, .ref a2, .ref a3, .ref a4, .ref a5, .ref a6, .ref a7, .ref a8, .ref a9, .ref b0, .ref b1, .int (nI 56), .ref b2, .ref b3, .ref b4, .ref b5])), (a7, .inl (cI, 256, .inl (o8 g_24 48 (lf 4))))]) hP hD [0, 1] [2, 3, 4, 5, 6, 7] rfl rfl (by decide) (by decide) hk1 hFc hP1 hD1
            have hP := hP.sub (ws' := [(m0, .inr (8, [.int z0, .int z1, .int z2, .int z3, .long (lN P), .long (lN Q), .long (lN G), .long z7, .long z8, .long z9, .int z10, .ref a0, .ref a1, .ref a2, .ref a3, .ref a4, .ref a5, .ref a6, .ref a7, .ref a8, .ref a9, .ref b0, .ref b1, .int (nI 56), .ref b2, .ref b3, .ref b4, .ref b5])), (a7, .inl (cI, 256, .inl (o8 g_24 48 (lf 4)))), (a8, .inl (cI, 64, .inl sc)), (a9, .inl (cI, 8, .inl st)), (b0, .inl (cI, 8, .inl kS)), (b1, .inl (cI, 64, .inl kR)), (a2, .inl (cJ, 4, .inr (.inl tf))), (a3, .inl (cJ, 16, .inr (.inl lf)))]) [6, 7, 0, 1, 2, 3, 4, 5] rfl
            have hD := hD.sub (ws' := [(m0, .inr (8, [.int z0, .int z1, .int z2, .int z3, .long (lN P), .long (lN Q), .long (lN G), .long z7, .long z8, .long z9, .int z10, .ref a0, .ref a1, .ref a2, .ref a3, .ref a4, .ref a5, .ref a6, .ref a7, .ref a8, .ref a9, .ref b0, .ref b1, .int (nI 56), .ref b2, .ref b3, .ref b4, .ref b5])), (a7, .inl (cI, 256, .inl (o8 g_24 48 (lf 4)))), (a8, .inl (cI, 64, .inl sc)), (a9, .inl (cI, 8, .inl st)), (b0, .inl (cI, 8, .inl kS)), (b1, .inl (cI, 64, .inl kR)), (a2, .inl (cJ, 4, .inr (.inl tf))), (a3, .inl (cJ, 16, .inr (.inl lf)))]) [6, 7, 0, 1, 2, 3, 4, 5] (by decide) rfl
            generalize H1 = H at hP hS ⊢
            obtain ⟨g_29, eg_29⟩ : ∃ f : Nat → Int32, f = o8 g_24 48 (lf 4) := ⟨_, rfl⟩
            rw [← eg_29] at hP hD
            have hm_30 : bok g_29 7 [lN P, lN G, lf 0, lf 1, lf 2, lf 3, lf 4] := bok_add _ hm_25 rfl eg_29
            obtain ⟨i_31, ei_31⟩ : ∃ y : Int32, y = 4 + 1 := ⟨_, rfl⟩
            refine lv_iinc (v := i_31) (lv' := [(2, .int i_31), (0, .ref m0), (1, .int 6)]) hx hb d_Bm_hash_38 hl (k := 0) rfl (by rw [ei_31]; rfl) (by decide) rfl (fun ls hl => ?_)
            obtain rfl : i_31 = 5 := by rw [ei_31]; exact by decide
            refine lv_goto (tgt := 23) hx hb d_Bm_hash_41 (by decide) ?_
            refine lv_iload_n hx hb d_Bm_hash_23 rfl (lv_at hl 0 rfl) ?_
            refine lv_iload_n hx hb d_Bm_hash_24 rfl (lv_at hl 2 rfl) ?_
            refine lv_icmp_ge (tgt := 44) hx hb d_Bm_hash_25 (by decide) (fun c_32 => ?_) (fun c_32 => ?_)
            · -- taken
              exact absurd c_32 (by decide)
            · -- not taken
              refine lv_aload_n hx hb d_Bm_hash_28 rfl (lv_at hl 1 rfl) ?_
              refine lv_aload_n hx hb d_Bm_hash_29 rfl (lv_at hl 1 rfl) ?_
              refine va_get (D := (dC, dI)) (ci := 8) (v := .ref a3) (C := "BallotBoardModel") (T := F_Bm) (N := 28) hx hb hts (fun w9 h9 => List.mem_cons_of_mem _ (i_Bm w9 h9)) hown hK hP 0 rfl rfl 14 (by decide) (hts _ (List.mem_cons_of_mem _ gk_933)) (fun _ h9 => h9) rfl d_Bm_hash_30 ?_
              refine lv_iload_n hx hb d_Bm_hash_33 rfl (lv_at hl 0 rfl) ?_
              refine va_lald hx hb hK hP 7 0 rfl rfl (vp_lit rfl) d_Bm_hash_34 ?_
              rw [show (lf (5 : Int32).toNatClampNeg : Int64) = lf 5 from rfl]
              have hPc := hP.sub (ws' := (mo_ws m0 z0 z1 z2 z3 (lN P) (lN Q) (lN G) z7 z8 z9 z10 a0 a1 a2 a3 a4 a5 a6 a7 a8 a9 b0 b1 56 b2 b3 b4 b5 ++ (iw_ws a7 cI 256 g_29))) [0, 1] rfl
              have hDc := hD.sub (ws' := (mo_ws m0 z0 z1 z2 z3 (lN P) (lN Q) (lN G) z7 z8 z9 z10 a0 a1 a2 a3 a4 a5 a6 a7 a8 a9 b0 b1 56 b2 b3 b4 b5 ++ (iw_ws a7 cI 256 g_29))) [0, 1] (by decide) rfl
              have hKc := hK.sub (tys' := [(cJ, .long), (cI, .int)]) [0, 1] rfl
              have hFc := va_free (wc := (mo_ws m0 z0 z1 z2 z3 (lN P) (lN Q) (lN G) z7 z8 z9 z10 a0 a1 a2 a3 a4 a5 a6 a7 a8 a9 b0 b1 56 b2 b3 b4 b5 ++ (iw_ws a7 cI 256 g_29))) hD hS hA [0, 1] rfl
              refine va_callv (va_runV (As := [.long (lf 5)]) (rest := []) ⟨hx, hb, hml, hown, hts⟩ (c_Bm_eight l dC dI cJ cI H.size m0 z0 z1 z2 z3 (lN P) (lN Q) (lN G) z7 z8 z9 z10 a0 a1 a2 a3 a4 a5 a6 a7 a8 a9 b0 b1 56 b2 b3 b4 b5 g_29 (lf 5) (by omega)) (cwV 1 hts (gw_V gk_1070 gk_1072 gp_36 gk_7 gk_1073) rfl rfl rfl (by decide +kernel) ⟨Nat.le_of_ble_eq_true rfl, Nat.le_of_ble_eq_true rfl⟩) ⟨fun a U g mk q => by obtain ⟨q0, q1, qP, qK, qD⟩ := q; exact ⟨q0, q1, qP, va_K.moved (u := U) (U := U.calling g mk a) (Vm.Alike.refl U.vm) qK, qD⟩, va_recv hK hP (ci := 8) (q0 := 0) rfl rfl, fun U hU hW => ⟨rfl, by rw [hU], by rw [hU]; exact hPc, va_K.moved hW.alike hKc, hDc.weaken (fun _ _ _ _ => trivial)⟩⟩ rfl rfl hl.1 rfl (lv_room (Nat.le_of_ble_eq_true rfl)) d_Bm_hash_35 ⟨Nat.le_of_ble_eq_true rfl, Nat.le_of_ble_eq_true rfl⟩) hS (fun q _ h => hFc q h) hFc (fun u9 t9 H1 locs ht hvm hw hB hz1 hk1 hS => ?_)
              obtain ⟨hP1, hK1, hD1⟩ := hB
              rw [ht] at hP1
              obtain ⟨hP, hD⟩ := va_join (wr := [(a8, .inl (cI, 64, .inl sc)), (a9, .inl (cI, 8, .inl st)), (b0, .inl (cI, 8, .inl kS)), (b1, .inl (cI, 64, .inl kR)), (a2, .inl (cJ, 4, .inr (.inl tf))), (a3, .inl (cJ, 16, .inr (.inl lf)))]) (w1 := [(m0, .inr (8, [.int z0, .int z1, .int z2, .int z3, .long (lN P), .long (lN Q), .long (lN G), .long z7, .long z8, .long z9, .int z10, .ref a0, .ref a1, .ref a2, .ref a3, .ref a4, .ref a5, .ref a6, .ref a7, .ref a8, .ref a9, .ref b0, .ref b1, .int (nI 64), .ref b2, .ref b3, .ref b4, .ref b5])), (a7, .inl (cI, 256, .inl (o8 g_29 56 (lf 5))))]) hP hD [0, 1] [2, 3, 4, 5, 6, 7] rfl rfl (by decide) (by decide) hk1 hFc hP1 hD1
              have hP := hP.sub (ws' := [(m0, .inr (8, [.int z0, .int z1, .int z2, .int z3, .long (lN P), .long (lN Q), .long (lN G), .long z7, .long z8, .long z9, .int z10, .ref a0, .ref a1, .ref a2, .ref a3, .ref a4, .ref a5, .ref a6, .ref a7, .ref a8, .ref a9, .ref b0, .ref b1, .int (nI 64), .ref b2, .ref b3, .ref b4, .ref b5])), (a7, .inl (cI, 256, .inl (o8 g_29 56 (lf 5)))), (a8, .inl (cI, 64, .inl sc)), (a9, .inl (cI, 8, .inl st)), (b0, .inl (cI, 8, .inl kS)), (b1, .inl (cI, 64, .inl kR)), (a2, .inl (cJ, 4, .inr (.inl tf))), (a3, .inl (cJ, 16, .inr (.inl lf)))]) [6, 7, 0, 1, 2, 3, 4, 5] rfl
              have hD := hD.sub (ws' := [(m0, .inr (8, [.int z0, .int z1, .int z2, .int z3, .long (lN P), .long (lN Q), .long (lN G), .long z7, .long z8, .long z9, .int z10, .ref a0, .ref a1, .ref a2, .ref a3, .ref a4, .ref a5, .ref a6, .ref a7, .ref a8, .ref a9, .ref b0, .ref b1, .int (nI 64), .ref b2, .ref b3, .ref b4, .ref b5])), (a7, .inl (cI, 256, .inl (o8 g_29 56 (lf 5)))), (a8, .inl (cI, 64, .inl sc)), (a9, .inl (cI, 8, .inl st)), (b0, .inl (cI, 8, .inl kS)), (b1, .inl (cI, 64, .inl kR)), (a2, .inl (cJ, 4, .inr (.inl tf))), (a3, .inl (cJ, 16, .inr (.inl lf)))]) [6, 7, 0, 1, 2, 3, 4, 5] (by decide) rfl
              generalize H1 = H at hP hS ⊢
              obtain ⟨g_34, eg_34⟩ : ∃ f : Nat → Int32, f = o8 g_29 56 (lf 5) := ⟨_, rfl⟩
              rw [← eg_34] at hP hD
              have hm_35 : bok g_34 8 [lN P, lN G, lf 0, lf 1, lf 2, lf 3, lf 4, lf 5] := bok_add _ hm_30 rfl eg_34
              obtain ⟨i_36, ei_36⟩ : ∃ y : Int32, y = 5 + 1 := ⟨_, rfl⟩
              refine lv_iinc (v := i_36) (lv' := [(2, .int i_36), (0, .ref m0), (1, .int 6)]) hx hb d_Bm_hash_38 hl (k := 0) rfl (by rw [ei_36]; rfl) (by decide) rfl (fun ls hl => ?_)
              obtain rfl : i_36 = 6 := by rw [ei_36]; exact by decide
              refine lv_goto (tgt := 23) hx hb d_Bm_hash_41 (by decide) ?_
              refine lv_iload_n hx hb d_Bm_hash_23 rfl (lv_at hl 0 rfl) ?_
              refine lv_iload_n hx hb d_Bm_hash_24 rfl (lv_at hl 2 rfl) ?_
              refine lv_icmp_ge (tgt := 44) hx hb d_Bm_hash_25 (by decide) (fun c_37 => ?_) (fun c_37 => ?_)
              · -- taken
                refine lv_aload_n hx hb d_Bm_hash_44 rfl (lv_at hl 1 rfl) ?_
                have hPc := hP.sub (ws' := (mo_ws m0 z0 z1 z2 z3 (lN P) (lN Q) (lN G) z7 z8 z9 z10 a0 a1 a2 a3 a4 a5 a6 a7 a8 a9 b0 b1 (8 * 8) b2 b3 b4 b5 ++ (iw_ws a7 cI 256 g_34 ++ (iw_ws a8 cI 64 sc ++ (iw_ws a9 cI 8 st ++ (iw_ws b0 cI 8 kS ++ (iw_ws b1 cI 64 kR ++ (jw_ws a2 cJ 4 tf)))))))) [0, 1, 2, 3, 4, 5, 6] rfl
                have hDc := hD.sub (ws' := (mo_ws m0 z0 z1 z2 z3 (lN P) (lN Q) (lN G) z7 z8 z9 z10 a0 a1 a2 a3 a4 a5 a6 a7 a8 a9 b0 b1 (8 * 8) b2 b3 b4 b5 ++ (iw_ws a7 cI 256 g_34 ++ (iw_ws a8 cI 64 sc ++ (iw_ws a9 cI 8 st ++ (iw_ws b0 cI 8 kS ++ (iw_ws b1 cI 64 kR ++ (jw_ws a2 cJ 4 tf)))))))) [0, 1, 2, 3, 4, 5, 6] (by decide) rfl
                have hKc := hK.sub (tys' := [(cJ, .long), (cI, .int)]) [0, 1] rfl
                have hFc := va_free (wc := (mo_ws m0 z0 z1 z2 z3 (lN P) (lN Q) (lN G) z7 z8 z9 z10 a0 a1 a2 a3 a4 a5 a6 a7 a8 a9 b0 b1 (8 * 8) b2 b3 b4 b5 ++ (iw_ws a7 cI 256 g_34 ++ (iw_ws a8 cI 64 sc ++ (iw_ws a9 cI 8 st ++ (iw_ws b0 cI 8 kS ++ (iw_ws b1 cI 64 kR ++ (jw_ws a2 cJ 4 tf)))))))) hD hS hA [0, 1, 2, 3, 4, 5, 6] rfl
                refine va_callv (va_runV (As := []) (rest := []) ⟨hx, hb, hml, hown, hts⟩ (c_Bm_digest l dC dI cJ cI H.size m0 z0 z1 z2 z3 (lN P) (lN Q) (lN G) z7 z8 z9 z10 a0 a1 a2 a3 a4 a5 a6 a7 a8 a9 b0 b1 b2 b3 b4 b5 8 g_34 sc st tf [lN P, lN G, lf 0, lf 1, lf 2, lf 3, lf 4, lf 5] (by decide) hm_35) (cwV 0 hts (gw_V gk_1074 gk_1076 gp_37 gk_7 gk_1077) rfl rfl rfl (by decide +kernel) ⟨Nat.le_of_ble_eq_true rfl, Nat.le_of_ble_eq_true rfl⟩) ⟨fun a U g mk q => by obtain ⟨q0, q1, qP, qK, qD⟩ := q; exact ⟨q0, q1, qP, va_K.moved (u := U) (U := U.calling g mk a) (Vm.Alike.refl U.vm) qK, qD⟩, va_recv hK hP (ci := 8) (q0 := 0) rfl rfl, fun U hU hW => ⟨rfl, by rw [hU], by rw [hU]; exact hPc, va_K.moved hW.alike hKc, hDc.weaken (fun _ _ _ _ => trivial)⟩⟩ rfl rfl hl.1 rfl (lv_room (Nat.le_of_ble_eq_true rfl)) d_Bm_hash_45 ⟨Nat.le_of_ble_eq_true rfl, Nat.le_of_ble_eq_true rfl⟩) hS (fun q _ h => hFc q h) hFc (fun u9 t9 H1 locs ht hvm hw hB hz1 hk1 hS => ?_)
                obtain ⟨gbk_38, gsk_38, gtk_38, gfk_38, gok_38⟩ := u9
                have hdg : dgo gtk_38 [lN P, lN G, lf 0, lf 1, lf 2, lf 3, lf 4, lf 5] ∧ ∀ j, j < 4 → gfk_38 j = lkw [lN P, lN G, lf 0, lf 1, lf 2, lf 3, lf 4, lf 5] j := hw
                obtain ⟨hP1, hK1, hD1⟩ := hB
                rw [ht] at hP1
                obtain ⟨hP, hD⟩ := va_join (wr := [(a3, .inl (cJ, 16, .inr (.inl lf)))]) (w1 := [(m0, .inr (8, [.int z0, .int z1, .int z2, .int z3, .long (lN P), .long (lN Q), .long (lN G), .long z7, .long z8, .long z9, .int z10, .ref a0, .ref a1, .ref a2, .ref a3, .ref a4, .ref a5, .ref a6, .ref a7, .ref a8, .ref a9, .ref b0, .ref b1, .int (nI gok_38), .ref b2, .ref b3, .ref b4, .ref b5])), (a7, .inl (cI, 256, .inl gbk_38)), (a8, .inl (cI, 64, .inl gsk_38)), (a9, .inl (cI, 8, .inl gtk_38)), (b0, .inl (cI, 8, .inl kS)), (b1, .inl (cI, 64, .inl kR)), (a2, .inl (cJ, 4, .inr (.inl gfk_38)))]) hP hD [0, 1, 2, 3, 4, 5, 6] [7] rfl rfl (by decide) (by decide) hk1 hFc hP1 hD1
                have hP := hP.sub (ws' := [(m0, .inr (8, [.int z0, .int z1, .int z2, .int z3, .long (lN P), .long (lN Q), .long (lN G), .long z7, .long z8, .long z9, .int z10, .ref a0, .ref a1, .ref a2, .ref a3, .ref a4, .ref a5, .ref a6, .ref a7, .ref a8, .ref a9, .ref b0, .ref b1, .int (nI gok_38), .ref b2, .ref b3, .ref b4, .ref b5])), (a7, .inl (cI, 256, .inl gbk_38)), (a8, .inl (cI, 64, .inl gsk_38)), (a9, .inl (cI, 8, .inl gtk_38)), (b0, .inl (cI, 8, .inl kS)), (b1, .inl (cI, 64, .inl kR)), (a2, .inl (cJ, 4, .inr (.inl gfk_38))), (a3, .inl (cJ, 16, .inr (.inl lf)))]) [1, 2, 3, 4, 5, 6, 7, 0] rfl
                have hD := hD.sub (ws' := [(m0, .inr (8, [.int z0, .int z1, .int z2, .int z3, .long (lN P), .long (lN Q), .long (lN G), .long z7, .long z8, .long z9, .int z10, .ref a0, .ref a1, .ref a2, .ref a3, .ref a4, .ref a5, .ref a6, .ref a7, .ref a8, .ref a9, .ref b0, .ref b1, .int (nI gok_38), .ref b2, .ref b3, .ref b4, .ref b5])), (a7, .inl (cI, 256, .inl gbk_38)), (a8, .inl (cI, 64, .inl gsk_38)), (a9, .inl (cI, 8, .inl gtk_38)), (b0, .inl (cI, 8, .inl kS)), (b1, .inl (cI, 64, .inl kR)), (a2, .inl (cJ, 4, .inr (.inl gfk_38))), (a3, .inl (cJ, 16, .inr (.inl lf)))]) [1, 2, 3, 4, 5, 6, 7, 0] (by decide) rfl
                generalize H1 = H at hP hS ⊢
                refine lv_aload_n hx hb d_Bm_hash_48 rfl (lv_at hl 1 rfl) ?_
                refine va_get (D := (dC, dI)) (ci := 8) (v := .ref a2) (C := "BallotBoardModel") (T := F_Bm) (N := 28) hx hb hts (fun w9 h9 => List.mem_cons_of_mem _ (i_Bm w9 h9)) hown hK hP 0 rfl rfl 13 (by decide) (hts _ (List.mem_cons_of_mem _ gk_932)) (fun _ h9 => h9) rfl d_Bm_hash_49 ?_
                refine lv_iconst (v := 0) hx hb d_Bm_hash_52 (by decide) ?_
                refine va_lald hx hb hK hP 6 0 rfl rfl (vp_lit rfl) d_Bm_hash_53 ?_
                rw [show (gfk_38 (0 : Int32).toNatClampNeg : Int64) = gfk_38 0 from rfl]
                rw [show (gfk_38 0 : Int64) = (lN (hN [lN P, lN G, lf 0, lf 1, lf 2, lf 3, lf 4, lf 5])) from (hdg.2 0 (by omega)).trans (lkw_hN _)]
                refine lv_aload_n hx hb d_Bm_hash_54 rfl (lv_at hl 1 rfl) ?_
                refine va_get (D := (dC, dI)) (ci := 8) (v := .long (lN Q)) (C := "BallotBoardModel") (T := F_Bm) (N := 28) hx hb hts (fun w9 h9 => List.mem_cons_of_mem _ (i_Bm w9 h9)) hown hK hP 0 rfl rfl 5 (by decide) (hts _ (List.mem_cons_of_mem _ gk_924)) (fun _ h9 => h9) rfl d_Bm_hash_55 ?_
                refine va_calll (va_runS (As := [.long (lN (hN [lN P, lN G, lf 0, lf 1, lf 2, lf 3, lf 4, lf 5])), .long (lN Q)]) (rest := []) ⟨hx, hb, hml, hown, hts⟩ (c_Lo_rem l H (hN [lN P, lN G, lf 0, lf 1, lf 2, lf 3, lf 4, lf 5]) Q (hN_lt _) (by omega) (by omega)) (va_cwS 2 hts (gw_Sv gk_1086 gk_1087 gk_17 gk_1088) rfl rfl rfl (by decide +kernel) ⟨Nat.le_of_ble_eq_true rfl, Nat.le_of_ble_eq_true rfl⟩) ⟨fun a U g mk q => q, fun U hU hW => ⟨rfl, hU⟩⟩ rfl rfl hl.1 rfl (lv_room (Nat.le_of_ble_eq_true rfl)) d_Bm_hash_58 ⟨Nat.le_of_ble_eq_true rfl, Nat.le_of_ble_eq_true rfl⟩) hS (fun q _ h => h.elim) (fun q h => h.elim) (fun r58 u9 t9 H1 locs ht hvm hw hB hz1 hk1 hS => ?_)
                obtain rfl : H = H1 := hB.symm.trans ht
                have hw : r58 = lN ((hN [lN P, lN G, lf 0, lf 1, lf 2, lf 3, lf 4, lf 5]) % Q) := hw
                subst hw
                exact W.lret (v := (lN ((hN [lN P, lN G, lf 0, lf 1, lf 2, lf 3, lf 4, lf 5]) % Q))) hx hb hr (fun t ht9 hW => ⟨⟨_, (gbk_38, gsk_38, gtk_38, gfk_38, gok_38), rfl, (by rw [← hmsg, ← hsh_eq]), by rw [ht9]; exact hP, va_K.moved hW.alike hK, hD⟩, hS.F ht9⟩) hS.2.2 d_Bm_hash_61
              · -- not taken
                exact absurd c_37 (by decide)
set_option maxHeartbeats 8000000 in
set_option maxRecDepth 100000 in
theorem c_Bm_hash_8 (l : Launch) (dC : Nat → ClassId) (dI : Nat → Nat → Nat) (cJ cI : ClassId) (sz : Nat) (m0 : Nat) (z0 z1 z2 z3 : Int32) (z7 z8 z9 : Int64) (z10 : Int32) (a0 a1 a2 a3 a4 a5 a6 a7 a8 a9 b0 b1 oc b2 b3 b4 b5 : Nat) (P Q G : Nat) (bf sc st : Nat → Int32) (tf lf : Nat → Int64) (msg : List Int64) (hPQ : P = 2 * Q + 1) (h61F : P < 2 ^ 61) (hQ3 : 3 ≤ Q) (hmsg : [lN P, lN G, lf 0, lf 1, lf 2, lf 3, lf 4, lf 5, lf 6, lf 7] = msg) : Met l y_Bm_hash w_Bm_hash ({ frames := 3, cells := 0, slots := 0, locals := 75 }) (va_Pc [.ref m0, .int 8] (fun U => U.heap.size = sz ∧ va_P (dC, dI) classes (mo_ws m0 z0 z1 z2 z3 (lN P) (lN Q) (lN G) z7 z8 z9 z10 a0 a1 a2 a3 a4 a5 a6 a7 a8 a9 b0 b1 oc b2 b3 b4 b5 ++ (iw_ws a7 cI 256 bf ++ (iw_ws a8 cI 64 sc ++ (iw_ws a9 cI 8 st ++ (iw_ws b0 cI 8 kS ++ (iw_ws b1 cI 64 kR ++ (jw_ws a2 cJ 4 tf ++ (jw_ws a3 cJ 16 lf)))))))) U.heap ∧ va_K (dC, dI) classes [(cJ, .long), (cI, .int)] U ∧ va_D (fun _ => True) (mo_ws m0 z0 z1 z2 z3 (lN P) (lN Q) (lN G) z7 z8 z9 z10 a0 a1 a2 a3 a4 a5 a6 a7 a8 a9 b0 b1 oc b2 b3 b4 b5 ++ (iw_ws a7 cI 256 bf ++ (iw_ws a8 cI 64 sc ++ (iw_ws a9 cI 8 st ++ (iw_ws b0 cI 8 kS ++ (iw_ws b1 cI 64 kR ++ (jw_ws a2 cJ 4 tf ++ (jw_ws a3 cJ 16 lf)))))))))) (va_Ql (fun (r : Int64) (u9 : DU) => r = lN (hsh Q msg)) (fun u9 t => va_P (dC, dI) classes (mo_ws m0 z0 z1 z2 z3 (lN P) (lN Q) (lN G) z7 z8 z9 z10 a0 a1 a2 a3 a4 a5 a6 a7 a8 a9 b0 b1 u9.2.2.2.2 b2 b3 b4 b5 ++ (iw_ws a7 cI 256 u9.1 ++ (iw_ws a8 cI 64 u9.2.1 ++ (iw_ws a9 cI 8 u9.2.2.1 ++ (iw_ws b0 cI 8 kS ++ (iw_ws b1 cI 64 kR ++ (jw_ws a2 cJ 4 u9.2.2.2.1 ++ (jw_ws a3 cJ 16 lf)))))))) t.heap ∧ va_K (dC, dI) classes [(cJ, .long), (cI, .int)] t ∧ va_D (va_A (mo_ws m0 z0 z1 z2 z3 (lN P) (lN Q) (lN G) z7 z8 z9 z10 a0 a1 a2 a3 a4 a5 a6 a7 a8 a9 b0 b1 oc b2 b3 b4 b5 ++ (iw_ws a7 cI 256 bf ++ (iw_ws a8 cI 64 sc ++ (iw_ws a9 cI 8 st ++ (iw_ws b0 cI 8 kS ++ (iw_ws b1 cI 64 kR ++ (jw_ws a2 cJ 4 tf ++ (jw_ws a3 cJ 16 lf)))))))) sz) (mo_ws m0 z0 z1 z2 z3 (lN P) (lN Q) (lN G) z7 z8 z9 z10 a0 a1 a2 a3 a4 a5 a6 a7 a8 a9 b0 b1 u9.2.2.2.2 b2 b3 b4 b5 ++ (iw_ws a7 cI 256 u9.1 ++ (iw_ws a8 cI 64 u9.2.1 ++ (iw_ws a9 cI 8 u9.2.2.1 ++ (iw_ws b0 cI 8 kS ++ (iw_ws b1 cI 64 kR ++ (jw_ws a2 cJ 4 u9.2.2.2.1 ++ (jw_ws a3 cJ 16 lf))))))))) (va_A (mo_ws m0 z0 z1 z2 z3 (lN P) (lN Q) (lN G) z7 z8 z9 z10 a0 a1 a2 a3 a4 a5 a6 a7 a8 a9 b0 b1 oc b2 b3 b4 b5 ++ (iw_ws a7 cI 256 bf ++ (iw_ws a8 cI 64 sc ++ (iw_ws a9 cI 8 st ++ (iw_ws b0 cI 8 kS ++ (iw_ws b1 cI 64 kR ++ (jw_ws a2 cJ 4 tf ++ (jw_ws a3 cJ 16 lf)))))))) sz)) 0 0 (va_A (mo_ws m0 z0 z1 z2 z3 (lN P) (lN Q) (lN G) z7 z8 z9 z10 a0 a1 a2 a3 a4 a5 a6 a7 a8 a9 b0 b1 oc b2 b3 b4 b5 ++ (iw_ws a7 cI 256 bf ++ (iw_ws a8 cI 64 sc ++ (iw_ws a9 cI 8 st ++ (iw_ws b0 cI 8 kS ++ (iw_ws b1 cI 64 kR ++ (jw_ws a2 cJ 4 tf ++ (jw_ws a3 cJ 16 lf)))))))) sz) := by
  refine Met.ofW (cc := b_Bm_hash) (maxL := 3) (ret := (some .long)) (by decide) rfl ?_
  intro p e s m args below meth c s₁ Bd hml hv
  obtain ⟨rfl, hsz, hP, hK, hD0⟩ := hv
  have hx := Bd.exec
  have hb := Bd.bytes
  have hr := Bd.returns
  have hts := atoms_spec (ws := w_Bm_hash) Bd.pre
  have hown : s.vm.findClass "BallotBoardModel" = some m.cls := findClass_of_methodNamed Bd.named
  have hlocks := Bd.notSynchronized
  subst hsz
  have hD := hD0.self (sz := s.heap.size)
  generalize hAe : va_A (mo_ws m0 z0 z1 z2 z3 (lN P) (lN Q) (lN G) z7 z8 z9 z10 a0 a1 a2 a3 a4 a5 a6 a7 a8 a9 b0 b1 oc b2 b3 b4 b5 ++ (iw_ws a7 cI 256 bf ++ (iw_ws a8 cI 64 sc ++ (iw_ws a9 cI 8 st ++ (iw_ws b0 cI 8 kS ++ (iw_ws b1 cI 64 kR ++ (jw_ws a2 cJ 4 tf ++ (jw_ws a3 cJ 16 lf)))))))) s.heap.size = A at hD ⊢
  have hA : ∀ q : Nat, s.heap.size ≤ q → A q := fun q h => by rw [← hAe]; exact Or.inr h
  have hS : va_S A s.heap s.heap [] := va_S.rf
  have hl := lv_entry ([.ref m0, .int 8]) (n := 3) (Nat.le_of_ble_eq_true rfl)
  rw [lg_entry_eq]
  generalize (lg_sl ([.ref m0, .int 8]) ++ List.replicate (3 - (lg_sl ([.ref m0, .int 8])).length) Slot.unset).toArray = ls at hl ⊢
  have hl : lv_has ls 3 [(0, .ref m0), (1, .int 8)] := hl
  refine lv_aload_n hx hb d_Bm_hash_0 rfl (lv_at hl 0 rfl) ?_
  refine lv_iconst (v := 0) hx hb d_Bm_hash_1 (by decide) ?_
  refine va_put (D := (dC, dI)) (ci := 8) (v := .int 0) (ty := .int) (C := "BallotBoardModel") (T := F_Bm) (N := 28) hx hb hts (fun w9 h9 => List.mem_cons_of_mem _ (i_Bm w9 h9)) t_Bm t_Bm_ok n_Bm hown hK hP hD hS 0 rfl rfl 23 (by decide) (hts _ (List.mem_cons_of_mem _ gk_942)) (fun _ h9 => h9) rfl (by decide +kernel) rfl rfl (Nat.le_of_ble_eq_true rfl) d_Bm_hash_2 (fun H locs hP hD hS => ?_)
  have hP : va_P (dC, dI) classes [(m0, .inr (8, [.int z0, .int z1, .int z2, .int z3, .long (lN P), .long (lN Q), .long (lN G), .long z7, .long z8, .long z9, .int z10, .ref a0, .ref a1, .ref a2, .ref a3, .ref a4, .ref a5, .ref a6, .ref a7, .ref a8, .ref a9, .ref b0, .ref b1, .int 0, .ref b2, .ref b3, .ref b4, .ref b5])), (a7, .inl (cI, 256, .inl bf)), (a8, .inl (cI, 64, .inl sc)), (a9, .inl (cI, 8, .inl st)), (b0, .inl (cI, 8, .inl kS)), (b1, .inl (cI, 64, .inl kR)), (a2, .inl (cJ, 4, .inr (.inl tf))), (a3, .inl (cJ, 16, .inr (.inl lf)))] H := hP
  have hD : va_D A [(m0, .inr (8, [.int z0, .int z1, .int z2, .int z3, .long (lN P), .long (lN Q), .long (lN G), .long z7, .long z8, .long z9, .int z10, .ref a0, .ref a1, .ref a2, .ref a3, .ref a4, .ref a5, .ref a6, .ref a7, .ref a8, .ref a9, .ref b0, .ref b1, .int 0, .ref b2, .ref b3, .ref b4, .ref b5])), (a7, .inl (cI, 256, .inl bf)), (a8, .inl (cI, 64, .inl sc)), (a9, .inl (cI, 8, .inl st)), (b0, .inl (cI, 8, .inl kS)), (b1, .inl (cI, 64, .inl kR)), (a2, .inl (cJ, 4, .inr (.inl tf))), (a3, .inl (cJ, 16, .inr (.inl lf)))] := hD
  have hm0 := bok_0 bf
  refine lv_aload_n hx hb d_Bm_hash_5 rfl (lv_at hl 0 rfl) ?_
  refine lv_aload_n hx hb d_Bm_hash_6 rfl (lv_at hl 0 rfl) ?_
  refine va_get (D := (dC, dI)) (ci := 8) (v := .long (lN P)) (C := "BallotBoardModel") (T := F_Bm) (N := 28) hx hb hts (fun w9 h9 => List.mem_cons_of_mem _ (i_Bm w9 h9)) hown hK hP 0 rfl rfl 4 (by decide) (hts _ (List.mem_cons_of_mem _ gk_923)) (fun _ h9 => h9) rfl d_Bm_hash_7 ?_
  have hPc := hP.sub (ws' := (mo_ws m0 z0 z1 z2 z3 (lN P) (lN Q) (lN G) z7 z8 z9 z10 a0 a1 a2 a3 a4 a5 a6 a7 a8 a9 b0 b1 0 b2 b3 b4 b5 ++ (iw_ws a7 cI 256 bf))) [0, 1] rfl
  have hDc := hD.sub (ws' := (mo_ws m0 z0 z1 z2 z3 (lN P) (lN Q) (lN G) z7 z8 z9 z10 a0 a1 a2 a3 a4 a5 a6 a7 a8 a9 b0 b1 0 b2 b3 b4 b5 ++ (iw_ws a7 cI 256 bf))) [0, 1] (by decide) rfl
  have hKc := hK.sub (tys' := [(cJ, .long), (cI, .int)]) [0, 1] rfl
  have hFc := va_free (wc := (mo_ws m0 z0 z1 z2 z3 (lN P) (lN Q) (lN G) z7 z8 z9 z10 a0 a1 a2 a3 a4 a5 a6 a7 a8 a9 b0 b1 0 b2 b3 b4 b5 ++ (iw_ws a7 cI 256 bf))) hD hS hA [0, 1] rfl
  refine va_callv (va_runV (As := [.long (lN P)]) (rest := []) ⟨hx, hb, hml, hown, hts⟩ (c_Bm_eight l dC dI cJ cI H.size m0 z0 z1 z2 z3 (lN P) (lN Q) (lN G) z7 z8 z9 z10 a0 a1 a2 a3 a4 a5 a6 a7 a8 a9 b0 b1 0 b2 b3 b4 b5 bf (lN P) (by omega)) (cwV 1 hts (gw_V gk_1070 gk_1072 gp_36 gk_7 gk_1073) rfl rfl rfl (by decide +kernel) ⟨Nat.le_of_ble_eq_true rfl, Nat.le_of_ble_eq_true rfl⟩) ⟨fun a U g mk q => by obtain ⟨q0, q1, qP, qK, qD⟩ := q; exact ⟨q0, q1, qP, va_K.moved (u := U) (U := U.calling g mk a) (Vm.Alike.refl U.vm) qK, qD⟩, va_recv hK hP (ci := 8) (q0 := 0) rfl rfl, fun U hU hW => ⟨rfl, by rw [hU], by rw [hU]; exact hPc, va_K.moved hW.alike hKc, hDc.weaken (fun _ _ _ _ => trivial)⟩⟩ rfl rfl hl.1 rfl (lv_room (Nat.le_of_ble_eq_true rfl)) d_Bm_hash_10 ⟨Nat.le_of_ble_eq_true rfl, Nat.le_of_ble_eq_true rfl⟩) hS (fun q _ h => hFc q h) hFc (fun u9 t9 H1 locs ht hvm hw hB hz1 hk1 hS => ?_)
  obtain ⟨hP1, hK1, hD1⟩ := hB
  rw [ht] at hP1
  obtain ⟨hP, hD⟩ := va_join (wr := [(a8, .inl (cI, 64, .inl sc)), (a9, .inl (cI, 8, .inl st)), (b0, .inl (cI, 8, .inl kS)), (b1, .inl (cI, 64, .inl kR)), (a2, .inl (cJ, 4, .inr (.inl tf))), (a3, .inl (cJ, 16, .inr (.inl lf)))]) (w1 := [(m0, .inr (8, [.int z0, .int z1, .int z2, .int z3, .long (lN P), .long (lN Q), .long (lN G), .long z7, .long z8, .long z9, .int z10, .ref a0, .ref a1, .ref a2, .ref a3, .ref a4, .ref a5, .ref a6, .ref a7, .ref a8, .ref a9, .ref b0, .ref b1, .int (nI 8), .ref b2, .ref b3, .ref b4, .ref b5])), (a7, .inl (cI, 256, .inl (o8 bf 0 (lN P))))]) hP hD [0, 1] [2, 3, 4, 5, 6, 7] rfl rfl (by decide) (by decide) hk1 hFc hP1 hD1
  have hP := hP.sub (ws' := [(m0, .inr (8, [.int z0, .int z1, .int z2, .int z3, .long (lN P), .long (lN Q), .long (lN G), .long z7, .long z8, .long z9, .int z10, .ref a0, .ref a1, .ref a2, .ref a3, .ref a4, .ref a5, .ref a6, .ref a7, .ref a8, .ref a9, .ref b0, .ref b1, .int (nI 8), .ref b2, .ref b3, .ref b4, .ref b5])), (a7, .inl (cI, 256, .inl (o8 bf 0 (lN P)))), (a8, .inl (cI, 64, .inl sc)), (a9, .inl (cI, 8, .inl st)), (b0, .inl (cI, 8, .inl kS)), (b1, .inl (cI, 64, .inl kR)), (a2, .inl (cJ, 4, .inr (.inl tf))), (a3, .inl (cJ, 16, .inr (.inl lf)))]) [6, 7, 0, 1, 2, 3, 4, 5] rfl
  have hD := hD.sub (ws' := [(m0, .inr (8, [.int z0, .int z1, .int z2, .int z3, .long (lN P), .long (lN Q), .long (lN G), .long z7, .long z8, .long z9, .int z10, .ref a0, .ref a1, .ref a2, .ref a3, .ref a4, .ref a5, .ref a6, .ref a7, .ref a8, .ref a9, .ref b0, .ref b1, .int (nI 8), .ref b2, .ref b3, .ref b4, .ref b5])), (a7, .inl (cI, 256, .inl (o8 bf 0 (lN P)))), (a8, .inl (cI, 64, .inl sc)), (a9, .inl (cI, 8, .inl st)), (b0, .inl (cI, 8, .inl kS)), (b1, .inl (cI, 64, .inl kR)), (a2, .inl (cJ, 4, .inr (.inl tf))), (a3, .inl (cJ, 16, .inr (.inl lf)))]) [6, 7, 0, 1, 2, 3, 4, 5] (by decide) rfl
  generalize H1 = H at hP hS ⊢
  obtain ⟨g_2, eg_2⟩ : ∃ f : Nat → Int32, f = o8 bf 0 (lN P) := ⟨_, rfl⟩
  rw [← eg_2] at hP hD
  have hm_3 : bok g_2 1 [lN P] := bok_add _ hm0 rfl eg_2
  refine lv_aload_n hx hb d_Bm_hash_13 rfl (lv_at hl 0 rfl) ?_
  refine lv_aload_n hx hb d_Bm_hash_14 rfl (lv_at hl 0 rfl) ?_
  refine va_get (D := (dC, dI)) (ci := 8) (v := .long (lN G)) (C := "BallotBoardModel") (T := F_Bm) (N := 28) hx hb hts (fun w9 h9 => List.mem_cons_of_mem _ (i_Bm w9 h9)) hown hK hP 0 rfl rfl 6 (by decide) (hts _ (List.mem_cons_of_mem _ gk_925)) (fun _ h9 => h9) rfl d_Bm_hash_15 ?_
  have hPc := hP.sub (ws' := (mo_ws m0 z0 z1 z2 z3 (lN P) (lN Q) (lN G) z7 z8 z9 z10 a0 a1 a2 a3 a4 a5 a6 a7 a8 a9 b0 b1 8 b2 b3 b4 b5 ++ (iw_ws a7 cI 256 g_2))) [0, 1] rfl
  have hDc := hD.sub (ws' := (mo_ws m0 z0 z1 z2 z3 (lN P) (lN Q) (lN G) z7 z8 z9 z10 a0 a1 a2 a3 a4 a5 a6 a7 a8 a9 b0 b1 8 b2 b3 b4 b5 ++ (iw_ws a7 cI 256 g_2))) [0, 1] (by decide) rfl
  have hKc := hK.sub (tys' := [(cJ, .long), (cI, .int)]) [0, 1] rfl
  have hFc := va_free (wc := (mo_ws m0 z0 z1 z2 z3 (lN P) (lN Q) (lN G) z7 z8 z9 z10 a0 a1 a2 a3 a4 a5 a6 a7 a8 a9 b0 b1 8 b2 b3 b4 b5 ++ (iw_ws a7 cI 256 g_2))) hD hS hA [0, 1] rfl
  refine va_callv (va_runV (As := [.long (lN G)]) (rest := []) ⟨hx, hb, hml, hown, hts⟩ (c_Bm_eight l dC dI cJ cI H.size m0 z0 z1 z2 z3 (lN P) (lN Q) (lN G) z7 z8 z9 z10 a0 a1 a2 a3 a4 a5 a6 a7 a8 a9 b0 b1 8 b2 b3 b4 b5 g_2 (lN G) (by omega)) (cwV 1 hts (gw_V gk_1070 gk_1072 gp_36 gk_7 gk_1073) rfl rfl rfl (by decide +kernel) ⟨Nat.le_of_ble_eq_true rfl, Nat.le_of_ble_eq_true rfl⟩) ⟨fun a U g mk q => by obtain ⟨q0, q1, qP, qK, qD⟩ := q; exact ⟨q0, q1, qP, va_K.moved (u := U) (U := U.calling g mk a) (Vm.Alike.refl U.vm) qK, qD⟩, va_recv hK hP (ci := 8) (q0 := 0) rfl rfl, fun U hU hW => ⟨rfl, by rw [hU], by rw [hU]; exact hPc, va_K.moved hW.alike hKc, hDc.weaken (fun _ _ _ _ => trivial)⟩⟩ rfl rfl hl.1 rfl (lv_room (Nat.le_of_ble_eq_true rfl)) d_Bm_hash_18 ⟨Nat.le_of_ble_eq_true rfl, Nat.le_of_ble_eq_true rfl⟩) hS (fun q _ h => hFc q h) hFc (fun u9 t9 H1 locs ht hvm hw hB hz1 hk1 hS => ?_)
  obtain ⟨hP1, hK1, hD1⟩ := hB
  rw [ht] at hP1
  obtain ⟨hP, hD⟩ := va_join (wr := [(a8, .inl (cI, 64, .inl sc)), (a9, .inl (cI, 8, .inl st)), (b0, .inl (cI, 8, .inl kS)), (b1, .inl (cI, 64, .inl kR)), (a2, .inl (cJ, 4, .inr (.inl tf))), (a3, .inl (cJ, 16, .inr (.inl lf)))]) (w1 := [(m0, .inr (8, [.int z0, .int z1, .int z2, .int z3, .long (lN P), .long (lN Q), .long (lN G), .long z7, .long z8, .long z9, .int z10, .ref a0, .ref a1, .ref a2, .ref a3, .ref a4, .ref a5, .ref a6, .ref a7, .ref a8, .ref a9, .ref b0, .ref b1, .int (nI 16), .ref b2, .ref b3, .ref b4, .ref b5])), (a7, .inl (cI, 256, .inl (o8 g_2 8 (lN G))))]) hP hD [0, 1] [2, 3, 4, 5, 6, 7] rfl rfl (by decide) (by decide) hk1 hFc hP1 hD1
  have hP := hP.sub (ws' := [(m0, .inr (8, [.int z0, .int z1, .int z2, .int z3, .long (lN P), .long (lN Q), .long (lN G), .long z7, .long z8, .long z9, .int z10, .ref a0, .ref a1, .ref a2, .ref a3, .ref a4, .ref a5, .ref a6, .ref a7, .ref a8, .ref a9, .ref b0, .ref b1, .int (nI 16), .ref b2, .ref b3, .ref b4, .ref b5])), (a7, .inl (cI, 256, .inl (o8 g_2 8 (lN G)))), (a8, .inl (cI, 64, .inl sc)), (a9, .inl (cI, 8, .inl st)), (b0, .inl (cI, 8, .inl kS)), (b1, .inl (cI, 64, .inl kR)), (a2, .inl (cJ, 4, .inr (.inl tf))), (a3, .inl (cJ, 16, .inr (.inl lf)))]) [6, 7, 0, 1, 2, 3, 4, 5] rfl
  have hD := hD.sub (ws' := [(m0, .inr (8, [.int z0, .int z1, .int z2, .int z3, .long (lN P), .long (lN Q), .long (lN G), .long z7, .long z8, .long z9, .int z10, .ref a0, .ref a1, .ref a2, .ref a3, .ref a4, .ref a5, .ref a6, .ref a7, .ref a8, .ref a9, .ref b0, .ref b1, .int (nI 16), .ref b2, .ref b3, .ref b4, .ref b5])), (a7, .inl (cI, 256, .inl (o8 g_2 8 (lN G)))), (a8, .inl (cI, 64, .inl sc)), (a9, .inl (cI, 8, .inl st)), (b0, .inl (cI, 8, .inl kS)), (b1, .inl (cI, 64, .inl kR)), (a2, .inl (cJ, 4, .inr (.inl tf))), (a3, .inl (cJ, 16, .inr (.inl lf)))]) [6, 7, 0, 1, 2, 3, 4, 5] (by decide) rfl
  generalize H1 = H at hP hS ⊢
  obtain ⟨g_5, eg_5⟩ : ∃ f : Nat → Int32, f = o8 g_2 8 (lN G) := ⟨_, rfl⟩
  rw [← eg_5] at hP hD
  have hm_6 : bok g_5 2 [lN P, lN G] := bok_add _ hm_3 rfl eg_5
  refine lv_iconst (v := 0) hx hb d_Bm_hash_21 (by decide) ?_
  refine lv_istore_n (lv' := [(2, .int 0), (0, .ref m0), (1, .int 8)]) hx hb d_Bm_hash_22 rfl hl (by decide) rfl (fun ls hl => ?_)
  refine lv_iload_n hx hb d_Bm_hash_23 rfl (lv_at hl 0 rfl) ?_
  refine lv_iload_n hx hb d_Bm_hash_24 rfl (lv_at hl 2 rfl) ?_
  refine lv_icmp_ge (tgt := 44) hx hb d_Bm_hash_25 (by decide) (fun c_7 => ?_) (fun c_7 => ?_)
  · -- taken
    exact absurd c_7 (by decide)
  · -- not taken
    refine lv_aload_n hx hb d_Bm_hash_28 rfl (lv_at hl 1 rfl) ?_
    refine lv_aload_n hx hb d_Bm_hash_29 rfl (lv_at hl 1 rfl) ?_
    refine va_get (D := (dC, dI)) (ci := 8) (v := .ref a3) (C := "BallotBoardModel") (T := F_Bm) (N := 28) hx hb hts (fun w9 h9 => List.mem_cons_of_mem _ (i_Bm w9 h9)) hown hK hP 0 rfl rfl 14 (by decide) (hts _ (List.mem_cons_of_mem _ gk_933)) (fun _ h9 => h9) rfl d_Bm_hash_30 ?_
    refine lv_iload_n hx hb d_Bm_hash_33 rfl (lv_at hl 0 rfl) ?_
    refine va_lald hx hb hK hP 7 0 rfl rfl (vp_lit rfl) d_Bm_hash_34 ?_
    rw [show (lf (0 : Int32).toNatClampNeg : Int64) = lf 0 from rfl]
    have hPc := hP.sub (ws' := (mo_ws m0 z0 z1 z2 z3 (lN P) (lN Q) (lN G) z7 z8 z9 z10 a0 a1 a2 a3 a4 a5 a6 a7 a8 a9 b0 b1 16 b2 b3 b4 b5 ++ (iw_ws a7 cI 256 g_5))) [0, 1] rfl
    have hDc := hD.sub (ws' := (mo_ws m0 z0 z1 z2 z3 (lN P) (lN Q) (lN G) z7 z8 z9 z10 a0 a1 a2 a3 a4 a5 a6 a7 a8 a9 b0 b1 16 b2 b3 b4 b5 ++ (iw_ws a7 cI 256 g_5))) [0, 1] (by decide) rfl
    have hKc := hK.sub (tys' := [(cJ, .long), (cI, .int)]) [0, 1] rfl
    have hFc := va_free (wc := (mo_ws m0 z0 z1 z2 z3 (lN P) (lN Q) (lN G) z7 z8 z9 z10 a0 a1 a2 a3 a4 a5 a6 a7 a8 a9 b0 b1 16 b2 b3 b4 b5 ++ (iw_ws a7 cI 256 g_5))) hD hS hA [0, 1] rfl
    refine va_callv (va_runV (As := [.long (lf 0)]) (rest := []) ⟨hx, hb, hml, hown, hts⟩ (c_Bm_eight l dC dI cJ cI H.size m0 z0 z1 z2 z3 (lN P) (lN Q) (lN G) z7 z8 z9 z10 a0 a1 a2 a3 a4 a5 a6 a7 a8 a9 b0 b1 16 b2 b3 b4 b5 g_5 (lf 0) (by omega)) (cwV 1 hts (gw_V gk_1070 gk_1072 gp_36 gk_7 gk_1073) rfl rfl rfl (by decide +kernel) ⟨Nat.le_of_ble_eq_true rfl, Nat.le_of_ble_eq_true rfl⟩) ⟨fun a U g mk q => by obtain ⟨q0, q1, qP, qK, qD⟩ := q; exact ⟨q0, q1, qP, va_K.moved (u := U) (U := U.calling g mk a) (Vm.Alike.refl U.vm) qK, qD⟩, va_recv hK hP (ci := 8) (q0 := 0) rfl rfl, fun U hU hW => ⟨rfl, by rw [hU], by rw [hU]; exact hPc, va_K.moved hW.alike hKc, hDc.weaken (fun _ _ _ _ => trivial)⟩⟩ rfl rfl hl.1 rfl (lv_room (Nat.le_of_ble_eq_true rfl)) d_Bm_hash_35 ⟨Nat.le_of_ble_eq_true rfl, Nat.le_of_ble_eq_true rfl⟩) hS (fun q _ h => hFc q h) hFc (fun u9 t9 H1 locs ht hvm hw hB hz1 hk1 hS => ?_)
    obtain ⟨hP1, hK1, hD1⟩ := hB
    rw [ht] at hP1
    obtain ⟨hP, hD⟩ := va_join (wr := [(a8, .inl (cI, 64, .inl sc)), (a9, .inl (cI, 8, .inl st)), (b0, .inl (cI, 8, .inl kS)), (b1, .inl (cI, 64, .inl kR)), (a2, .inl (cJ, 4, .inr (.inl tf))), (a3, .inl (cJ, 16, .inr (.inl lf)))]) (w1 := [(m0, .inr (8, [.int z0, .int z1, .int z2, .int z3, .long (lN P), .long (lN Q), .long (lN G), .long z7, .long z8, .long z9, .int z10, .ref a0, .ref a1, .ref a2, .ref a3, .ref a4, .ref a5, .ref a6, .ref a7, .ref a8, .ref a9, .ref b0, .ref b1, .int (nI 24), .ref b2, .ref b3, .ref b4, .ref b5])), (a7, .inl (cI, 256, .inl (o8 g_5 16 (lf 0))))]) hP hD [0, 1] [2, 3, 4, 5, 6, 7] rfl rfl (by decide) (by decide) hk1 hFc hP1 hD1
    have hP := hP.sub (ws' := [(m0, .inr (8, [.int z0, .int z1, .int z2, .int z3, .long (lN P), .long (lN Q), .long (lN G), .long z7, .long z8, .long z9, .int z10, .ref a0, .ref a1, .ref a2, .ref a3, .ref a4, .ref a5, .ref a6, .ref a7, .ref a8, .ref a9, .ref b0, .ref b1, .int (nI 24), .ref b2, .ref b3, .ref b4, .ref b5])), (a7, .inl (cI, 256, .inl (o8 g_5 16 (lf 0)))), (a8, .inl (cI, 64, .inl sc)), (a9, .inl (cI, 8, .inl st)), (b0, .inl (cI, 8, .inl kS)), (b1, .inl (cI, 64, .inl kR)), (a2, .inl (cJ, 4, .inr (.inl tf))), (a3, .inl (cJ, 16, .inr (.inl lf)))]) [6, 7, 0, 1, 2, 3, 4, 5] rfl
    have hD := hD.sub (ws' := [(m0, .inr (8, [.int z0, .int z1, .int z2, .int z3, .long (lN P), .long (lN Q), .long (lN G), .long z7, .long z8, .long z9, .int z10, .ref a0, .ref a1, .ref a2, .ref a3, .ref a4, .ref a5, .ref a6, .ref a7, .ref a8, .ref a9, .ref b0, .ref b1, .int (nI 24), .ref b2, .ref b3, .ref b4, .ref b5])), (a7, .inl (cI, 256, .inl (o8 g_5 16 (lf 0)))), (a8, .inl (cI, 64, .inl sc)), (a9, .inl (cI, 8, .inl st)), (b0, .inl (cI, 8, .inl kS)), (b1, .inl (cI, 64, .inl kR)), (a2, .inl (cJ, 4, .inr (.inl tf))), (a3, .inl (cJ, 16, .inr (.inl lf)))]) [6, 7, 0, 1, 2, 3, 4, 5] (by decide) rfl
    generalize H1 = H at hP hS ⊢
    obtain ⟨g_9, eg_9⟩ : ∃ f : Nat → Int32, f = o8 g_5 16 (lf 0) := ⟨_, rfl⟩
    rw [← eg_9] at hP hD
    have hm_10 : bok g_9 3 [lN P, lN G, lf 0] := bok_add _ hm_6 rfl eg_9
    obtain ⟨i_11, ei_11⟩ : ∃ y : Int32, y = 0 + 1 := ⟨_, rfl⟩
    refine lv_iinc (v := i_11) (lv' := [(2, .int i_11), (0, .ref m0), (1, .int 8)]) hx hb d_Bm_hash_38 hl (k := 0) rfl (by rw [ei_11]; rfl) (by decide) rfl (fun ls hl => ?_)
    obtain rfl : i_11 = 1 := by rw [ei_11]; exact by decide
    refine lv_goto (tgt := 23) hx hb d_Bm_hash_41 (by decide) ?_
    refine lv_iload_n hx hb d_Bm_hash_23 rfl (lv_at hl 0 rfl) ?_
    refine lv_iload_n hx hb d_Bm_hash_24 rfl (lv_at hl 2 rfl) ?_
    refine lv_icmp_ge (tgt := 44) hx hb d_Bm_hash_25 (by decide) (fun c_12 => ?_) (fun c_12 => ?_)
    · -- taken
      exact absurd c_12 (by decide)
    · -- not taken
      refine lv_aload_n hx hb d_Bm_hash_28 rfl (lv_at hl 1 rfl) ?_
      refine lv_aload_n hx hb d_Bm_hash_29 rfl (lv_at hl 1 rfl) ?_
      refine va_get (D := (dC, dI)) (ci := 8) (v := .ref a3) (C := "BallotBoardModel") (T := F_Bm) (N := 28) hx hb hts (fun w9 h9 => List.mem_cons_of_mem _ (i_Bm w9 h9)) hown hK hP 0 rfl rfl 14 (by decide) (hts _ (List.mem_cons_of_mem _ gk_933)) (fun _ h9 => h9) rfl d_Bm_hash_30 ?_
      refine lv_iload_n hx hb d_Bm_hash_33 rfl (lv_at hl 0 rfl) ?_
      refine va_lald hx hb hK hP 7 0 rfl rfl (vp_lit rfl) d_Bm_hash_34 ?_
      rw [show (lf (1 : Int32).toNatClampNeg : Int64) = lf 1 from rfl]
      have hPc := hP.sub (ws' := (mo_ws m0 z0 z1 z2 z3 (lN P) (lN Q) (lN G) z7 z8 z9 z10 a0 a1 a2 a3 a4 a5 a6 a7 a8 a9 b0 b1 24 b2 b3 b4 b5 ++ (iw_ws a7 cI 256 g_9))) [0, 1] rfl
      have hDc := hD.sub (ws' := (mo_ws m0 z0 z1 z2 z3 (lN P) (lN Q) (lN G) z7 z8 z9 z10 a0 a1 a2 a3 a4 a5 a6 a7 a8 a9 b0 b1 24 b2 b3 b4 b5 ++ (iw_ws a7 cI 256 g_9))) [0, 1] (by decide) rfl
      have hKc := hK.sub (tys' := [(cJ, .long), (cI, .int)]) [0, 1] rfl
      have hFc := va_free (wc := (mo_ws m0 z0 z1 z2 z3 (lN P) (lN Q) (lN G) z7 z8 z9 z10 a0 a1 a2 a3 a4 a5 a6 a7 a8 a9 b0 b1 24 b2 b3 b4 b5 ++ (iw_ws a7 cI 256 g_9))) hD hS hA [0, 1] rfl
      refine va_callv (va_runV (As := [.long (lf 1)]) (rest := []) ⟨hx, hb, hml, hown, hts⟩ (c_Bm_eight l dC dI cJ cI H.size m0 z0 z1 z2 z3 (lN P) (lN Q) (lN G) z7 z8 z9 z10 a0 a1 a2 a3 a4 a5 a6 a7 a8 a9 b0 b1 24 b2 b3 b4 b5 g_9 (lf 1) (by omega)) (cwV 1 hts (gw_V gk_1070 gk_1072 gp_36 gk_7 gk_1073) rfl rfl rfl (by decide +kernel) ⟨Nat.le_of_ble_eq_true rfl, Nat.le_of_ble_eq_true rfl⟩) ⟨fun a U g mk q => by obtain ⟨q0, q1, qP, qK, qD⟩ := q; exact ⟨q0, q1, qP, va_K.moved (u := U) (U := U.calling g mk a) (Vm.Alike.refl U.vm) qK, qD⟩, va_recv hK hP (ci := 8) (q0 := 0) rfl rfl, fun U hU hW => ⟨rfl, by rw [hU], by rw [hU]; exact hPc, va_K.moved hW.alike hKc, hDc.weaken (fun _ _ _ _ => trivial)⟩⟩ rfl rfl hl.1 rfl (lv_room (Nat.le_of_ble_eq_true rfl)) d_Bm_hash_35 ⟨Nat.le_of_ble_eq_true rfl, Nat.le_of_ble_eq_true rfl⟩) hS (fun q _ h => hFc q h) hFc (fun u9 t9 H1 locs ht hvm hw hB hz1 hk1 hS => ?_)
      obtain ⟨hP1, hK1, hD1⟩ := hB
      rw [ht] at hP1
      obtain ⟨hP, hD⟩ := va_join (wr := [(a8, .inl (cI, 64, .inl sc)), (a9, .inl (cI, 8, .inl st)), (b0, .inl (cI, 8, .inl kS)), (b1, .inl (cI, 64, .inl kR)), (a2, .inl (cJ, 4, .inr (.inl tf))), (a3, .inl (cJ, 16, .inr (.inl lf)))]) (w1 := [(m0, .inr (8, [.int z0, .int z1, .int z2, .int z3, .long (lN P), .long (lN Q), .long (lN G), .long z7, .long z8, .long z9, .int z10, .ref a0, .ref a1, .ref a2, .ref a3, .ref a4, .ref a5, .ref a6, .ref a7, .ref a8, .ref a9, .ref b0, .ref b1, .int (nI 32), .ref b2, .ref b3, .ref b4, .ref b5])), (a7, .inl (cI, 256, .inl (o8 g_9 24 (lf 1))))]) hP hD [0, 1] [2, 3, 4, 5, 6, 7] rfl rfl (by decide) (by decide) hk1 hFc hP1 hD1
      have hP := hP.sub (ws' := [(m0, .inr (8, [.int z0, .int z1, .int z2, .int z3, .long (lN P), .long (lN Q), .long (lN G), .long z7, .long z8, .long z9, .int z10, .ref a0, .ref a1, .ref a2, .ref a3, .ref a4, .ref a5, .ref a6, .ref a7, .ref a8, .ref a9, .ref b0, .ref b1, .int (nI 32), .ref b2, .ref b3, .ref b4, .ref b5])), (a7, .inl (cI, 256, .inl (o8 g_9 24 (lf 1)))), (a8, .inl (cI, 64, .inl sc)), (a9, .inl (cI, 8, .inl st)), (b0, .inl (cI, 8, .inl kS)), (b1, .inl (cI, 64, .inl kR)), (a2, .inl (cJ, 4, .inr (.inl tf))), (a3, .inl (cJ, 16, .inr (.inl lf)))]) [6, 7, 0, 1, 2, 3, 4, 5] rfl
      have hD := hD.sub (ws' := [(m0, .inr (8, [.int z0, .int z1, .int z2, .int z3, .long (lN P), .long (lN Q), .long (lN G), .long z7, .long z8, .long z9, .int z10, .ref a0, .ref a1, .ref a2, .ref a3, .ref a4, .ref a5, .ref a6, .ref a7, .ref a8, .ref a9, .ref b0, .ref b1, .int (nI 32), .ref b2, .ref b3, .ref b4, .ref b5])), (a7, .inl (cI, 256, .inl (o8 g_9 24 (lf 1)))), (a8, .inl (cI, 64, .inl sc)), (a9, .inl (cI, 8, .inl st)), (b0, .inl (cI, 8, .inl kS)), (b1, .inl (cI, 64, .inl kR)), (a2, .inl (cJ, 4, .inr (.inl tf))), (a3, .inl (cJ, 16, .inr (.inl lf)))]) [6, 7, 0, 1, 2, 3, 4, 5] (by decide) rfl
      generalize H1 = H at hP hS ⊢
      obtain ⟨g_14, eg_14⟩ : ∃ f : Nat → Int32, f = o8 g_9 24 (lf 1) := ⟨_, rfl⟩
      rw [← eg_14] at hP hD
      have hm_15 : bok g_14 4 [lN P, lN G, lf 0, lf 1] := bok_add _ hm_10 rfl eg_14
      obtain ⟨i_16, ei_16⟩ : ∃ y : Int32, y = 1 + 1 := ⟨_, rfl⟩
      refine lv_iinc (v := i_16) (lv' := [(2, .int i_16), (0, .ref m0), (1, .int 8)]) hx hb d_Bm_hash_38 hl (k := 0) rfl (by rw [ei_16]; rfl) (by decide) rfl (fun ls hl => ?_)
      obtain rfl : i_16 = 2 := by rw [ei_16]; exact by decide
      refine lv_goto (tgt := 23) hx hb d_Bm_hash_41 (by decide) ?_
      refine lv_iload_n hx hb d_Bm_hash_23 rfl (lv_at hl 0 rfl) ?_
      refine lv_iload_n hx hb d_Bm_hash_24 rfl (lv_at hl 2 rfl) ?_
      refine lv_icmp_ge (tgt := 44) hx hb d_Bm_hash_25 (by decide) (fun c_17 => ?_) (fun c_17 => ?_)
      · -- taken
        exact absurd c_17 (by decide)
      · -- not taken
        refine lv_aload_n hx hb d_Bm_hash_28 rfl (lv_at hl 1 rfl) ?_
        refine lv_aload_n hx hb d_Bm_hash_29 rfl (lv_at hl 1 rfl) ?_
        refine va_get (D := (dC, dI)) (ci := 8) (v := .ref a3) (C := "BallotBoardModel") (T := F_Bm) (N := 28) hx hb hts (fun w9 h9 => List.mem_cons_of_mem _ (i_Bm w9 h9)) hown hK hP 0 rfl rfl 14 (by decide) (hts _ (List.mem_cons_of_mem _ gk_933)) (fun _ h9 => h9) rfl d_Bm_hash_30 ?_
        refine lv_iload_n hx hb d_Bm_hash_33 rfl (lv_at hl 0 rfl) ?_
        refine va_lald hx hb hK hP 7 0 rfl rfl (vp_lit rfl) d_Bm_hash_34 ?_
        rw [show (lf (2 : Int32).toNatClampNeg : Int64) = lf 2 from rfl]
        have hPc := hP.sub (ws' := (mo_ws m0 z0 z1 z2 z3 (lN P) (lN Q) (lN G) z7 z8 z9 z10 a0 a1 a2 a3 a4 a5 a6 a7 a8 a9 b0 b1 32 b2 b3 b4 b5 ++ (iw_ws a7 cI 256 g_14))) [0, 1] rfl
        have hDc := hD.sub (ws' := (mo_ws m0 z0 z1 z2 z3 (lN P) (lN Q) (lN G) z7 z8 z9 z10 a0 a1 a2 a3 a4 a5 a6 a7 a8 a9 b0 b1 32 b2 b3 b4 b5 ++ (iw_ws a7 cI 256 g_14))) [0, 1] (by decide) rfl
        have hKc := hK.sub (tys' := [(cJ, .long), (cI, .int)]) [0, 1] rfl
        have hFc := va_free (wc := (mo_ws m0 z0 z1 z2 z3 (lN P) (lN Q) (lN G) z7 z8 z9 z10 a0 a1 a2 a3 a4 a5 a6 a7 a8 a9 b0 b1 32 b2 b3 b4 b5 ++ (iw_ws a7 cI 256 g_14))) hD hS hA [0, 1] rfl
        refine va_callv (va_runV (As := [.long (lf 2)]) (rest := []) ⟨hx, hb, hml, hown, hts⟩ (c_Bm_eight l dC dI cJ cI H.size m0 z0 z1 z2 z3 (lN P) (lN Q) (lN G) z7 z8 z9 z10 a0 a1 a2 a3 a4 a5 a6 a7 a8 a9 b0 b1 32 b2 b3 b4 b5 g_14 (lf 2) (by omega)) (cwV 1 hts (gw_V gk_1070 gk_1072 gp_36 gk_7 gk_1073) rfl rfl rfl (by decide +kernel) ⟨Nat.le_of_ble_eq_true rfl, Nat.le_of_ble_eq_true rfl⟩) ⟨fun a U g mk q => by obtain ⟨q0, q1, qP, qK, qD⟩ := q; exact ⟨q0, q1, qP, va_K.moved (u := U) (U := U.calling g mk a) (Vm.Alike.refl U.vm) qK, qD⟩, va_recv hK hP (ci := 8) (q0 := 0) rfl rfl, fun U hU hW => ⟨rfl, by rw [hU], by rw [hU]; exact hPc, va_K.moved hW.alike hKc, hDc.weaken (fun _ _ _ _ => trivial)⟩⟩ rfl rfl hl.1 rfl (lv_room (Nat.le_of_ble_eq_true rfl)) d_Bm_hash_35 ⟨Nat.le_of_ble_eq_true rfl, Nat.le_of_ble_eq_true rfl⟩) hS (fun q _ h => hFc q h) hFc (fun u9 t9 H1 locs ht hvm hw hB hz1 hk1 hS => ?_)
        obtain ⟨hP1, hK1, hD1⟩ := hB
        rw [ht] at hP1
        obtain ⟨hP, hD⟩ := va_join (wr := [(a8, .inl (cI, 64, .inl sc)), (a9, .inl (cI, 8, .inl st)), (b0, .inl (cI, 8, .inl kS)), (b1, .inl (cI, 64, .inl kR)), (a2, .inl (cJ, 4, .inr (.inl tf))), (a3, .inl (cJ, 16, .inr (.inl lf)))]) (w1 := [(m0, .inr (8, [.int z0, .int z1, .int z2, .int z3, .long (lN P), .long (lN Q), .long (lN G), .long z7, .long z8, .long z9, .int z10, .ref a0, .ref a1, .ref a2, .ref a3, .ref a4, .ref a5, .ref a6, .ref a7, .ref a8, .ref a9, .ref b0, .ref b1, .int (nI 40), .ref b2, .ref b3, .ref b4, .ref b5])), (a7, .inl (cI, 256, .inl (o8 g_14 32 (lf 2))))]) hP hD [0, 1] [2, 3, 4, 5, 6, 7] rfl rfl (by decide) (by decide) hk1 hFc hP1 hD1
        have hP := hP.sub (ws' := [(m0, .inr (8, [.int z0, .int z1, .int z2, .int z3, .long (lN P), .long (lN Q), .long (lN G), .long z7, .long z8, .long z9, .int z10, .ref a0, .ref a1, .ref a2, .ref a3, .ref a4, .ref a5, .ref a6, .ref a7, .ref a8, .ref a9, .ref b0, .ref b1, .int (nI 40), .ref b2, .ref b3, .ref b4, .ref b5])), (a7, .inl (cI, 256, .inl (o8 g_14 32 (lf 2)))), (a8, .inl (cI, 64, .inl sc)), (a9, .inl (cI, 8, .inl st)), (b0, .inl (cI, 8, .inl kS)), (b1, .inl (cI, 64, .inl kR)), (a2, .inl (cJ, 4, .inr (.inl tf))), (a3, .inl (cJ, 16, .inr (.inl lf)))]) [6, 7, 0, 1, 2, 3, 4, 5] rfl
        have hD := hD.sub (ws' := [(m0, .inr (8, [.int z0, .int z1, .int z2, .int z3, .long (lN P), .long (lN Q), .long (lN G), .long z7, .long z8, .long z9, .int z10, .ref a0, .ref a1, .ref a2, .ref a3, .ref a4, .ref a5, .ref a6, .ref a7, .ref a8, .ref a9, .ref b0, .ref b1, .int (nI 40), .ref b2, .ref b3, .ref b4, .ref b5])), (a7, .inl (cI, 256, .inl (o8 g_14 32 (lf 2)))), (a8, .inl (cI, 64, .inl sc)), (a9, .inl (cI, 8, .inl st)), (b0, .inl (cI, 8, .inl kS)), (b1, .inl (cI, 64, .inl kR)), (a2, .inl (cJ, 4, .inr (.inl tf))), (a3, .inl (cJ, 16, .inr (.inl lf)))]) [6, 7, 0, 1, 2, 3, 4, 5] (by decide) rfl
        generalize H1 = H at hP hS ⊢
        obtain ⟨g_19, eg_19⟩ : ∃ f : Nat → Int32, f = o8 g_14 32 (lf 2) := ⟨_, rfl⟩
        rw [← eg_19] at hP hD
        have hm_20 : bok g_19 5 [lN P, lN G, lf 0, lf 1, lf 2] := bok_add _ hm_15 rfl eg_19
        obtain ⟨i_21, ei_21⟩ : ∃ y : Int32, y = 2 + 1 := ⟨_, rfl⟩
        refine lv_iinc (v := i_21) (lv' := [(2, .int i_21), (0, .ref m0), (1, .int 8)]) hx hb d_Bm_hash_38 hl (k := 0) rfl (by rw [ei_21]; rfl) (by decide) rfl (fun ls hl => ?_)
        obtain rfl : i_21 = 3 := by rw [ei_21]; exact by decide
        refine lv_goto (tgt := 23) hx hb d_Bm_hash_41 (by decide) ?_
        refine lv_iload_n hx hb d_Bm_hash_23 rfl (lv_at hl 0 rfl) ?_
        refine lv_iload_n hx hb d_Bm_hash_24 rfl (lv_at hl 2 rfl) ?_
        refine lv_icmp_ge (tgt := 44) hx hb d_Bm_hash_25 (by decide) (fun c_22 => ?_) (fun c_22 => ?_)
        · -- taken
          exact absurd c_22 (by decide)
        · -- not taken
          refine lv_aload_n hx hb d_Bm_hash_28 rfl (lv_at hl 1 rfl) ?_
          refine lv_aload_n hx hb d_Bm_hash_29 rfl (lv_at hl 1 rfl) ?_
          refine va_get (D := (dC, dI)) (ci := 8) (v := .ref a3) (C := "BallotBoardModel") (T := F_Bm) (N := 28) hx hb hts (fun w9 h9 => List.mem_cons_of_mem _ (i_Bm w9 h9)) hown hK hP 0 rfl rfl 14 (by decide) (hts _ (List.mem_cons_of_mem _ gk_933)) (fun _ h9 => h9) rfl d_Bm_hash_30 ?_
          refine lv_iload_n hx hb d_Bm_hash_33 rfl (lv_at hl 0 rfl) ?_
          refine va_lald hx hb hK hP 7 0 rfl rfl (vp_lit rfl) d_Bm_hash_34 ?_
          rw [show (lf (3 : Int32).toNatClampNeg : Int64) = lf 3 from rfl]
          have hPc := hP.sub (ws' := (mo_ws m0 z0 z1 z2 z3 (lN P) (lN Q) (lN G) z7 z8 z9 z10 a0 a1 a2 a3 a4 a5 a6 a7 a8 a9 b0 b1 40 b2 b3 b4 b5 ++ (iw_ws a7 cI 256 g_19))) [0, 1] rfl
          have hDc := hD.sub (ws' := (mo_ws m0 z0 z1 z2 z3 (lN P) (lN Q) (lN G) z7 z8 z9 z10 a0 a1 a2 a3 a4 a5 a6 a7 a8 a9 b0 b1 40 b2 b3 b4 b5 ++ (iw_ws a7 cI 256 g_19))) [0, 1] (by decide) rfl
          have hKc := hK.sub (tys' := [(cJ, .long), (cI, .int)]) [0, 1] rfl
          have hFc := va_free (wc := (mo_ws m0 z0 z1 z2 z3 (lN P) (lN Q) (lN G) z7 z8 z9 z10 a0 a1 a2 a3 a4 a5 a6 a7 a8 a9 b0 b1 40 b2 b3 b4 b5 ++ (iw_ws a7 cI 256 g_19))) hD hS hA [0, 1] rfl
          refine va_callv (va_runV (As := [.long (lf 3)]) (rest := []) ⟨hx, hb, hml, hown, hts⟩ (c_Bm_eight l dC dI cJ cI H.size m0 z0 z1 z2 z3 (lN P) (lN Q) (lN G) z7 z8 z9 z10 a0 a1 a2 a3 a4 a5 a6 a7 a8 a9 b0 b1 40 b2 b3 b4 b5 g_19 (lf 3) (by omega)) (cwV 1 hts (gw_V gk_1070 gk_1072 gp_36 gk_7 gk_1073) rfl rfl rfl (by decide +kernel) ⟨Nat.le_of_ble_eq_true rfl, Nat.le_of_ble_eq_true rfl⟩) ⟨fun a U g mk q => by obtain ⟨q0, q1, qP, qK, qD⟩ := q; exact ⟨q0, q1, qP, va_K.moved (u := U) (U := U.calling g mk a) (Vm.Alike.refl U.vm) qK, qD⟩, va_recv hK hP (ci := 8) (q0 := 0) rfl rfl, fun U hU hW => ⟨rfl, by rw [hU], by rw [hU]; exact hPc, va_K.moved hW.alike hKc, hDc.weaken (fun _ _ _ _ => trivial)⟩⟩ rfl rfl hl.1 rfl (lv_room (Nat.le_of_ble_eq_true rfl)) d_Bm_hash_35 ⟨Nat.le_of_ble_eq_true rfl, Nat.le_of_ble_eq_true rfl⟩) hS (fun q _ h => hFc q h) hFc (fun u9 t9 H1 locs ht hvm hw hB hz1 hk1 hS => ?_)
          obtain ⟨hP1, hK1, hD1⟩ := hB
          rw [ht] at hP1
          obtain ⟨hP, hD⟩ := va_join (wr := [(a8, .inl (cI, 64, .inl sc)), (a9, .inl (cI, 8, .inl st)), (b0, .inl (cI, 8, .inl kS)), (b1, .inl (cI, 64, .inl kR)), (a2, .inl (cJ, 4, .inr (.inl tf))), (a3, .inl (cJ, 16, .inr (.inl lf)))]) (w1 := [(m0, .inr (8, [.int z0, .int z1, .int z2, .int z3, .long (lN P), .long (lN Q), .long (lN G), .long z7, .long z8, .long z9, .int z10, .ref a0, .ref a1, .ref a2, .ref a3, .ref a4, .ref a5, .ref a6, .ref a7, .ref a8, .ref a9, .ref b0, .ref b1, .int (nI 48), .ref b2, .ref b3, .ref b4, .ref b5])), (a7, .inl (cI, 256, .inl (o8 g_19 40 (lf 3))))]) hP hD [0, 1] [2, 3, 4, 5, 6, 7] rfl rfl (by decide) (by decide) hk1 hFc hP1 hD1
          have hP := hP.sub (ws' := [(m0, .inr (8, [.int z0, .int z1, .int z2, .int z3, .long (lN P), .long (lN Q), .long (lN G), .long z7, .long z8, .long z9, .int z10, .ref a0, .ref a1, .ref a2, .ref a3, .ref a4, .ref a5, .ref a6, .ref a7, .ref a8, .ref a9, .ref b0, .ref b1, .int (nI 48), .ref b2, .ref b3, .ref b4, .ref b5])), (a7, .inl (cI, 256, .inl (o8 g_19 40 (lf 3)))), (a8, .inl (cI, 64, .inl sc)), (a9, .inl (cI, 8, .inl st)), (b0, .inl (cI, 8, .inl kS)), (b1, .inl (cI, 64, .inl kR)), (a2, .inl (cJ, 4, .inr (.inl tf))), (a3, .inl (cJ, 16, .inr (.inl lf)))]) [6, 7, 0, 1, 2, 3, 4, 5] rfl
          have hD := hD.sub (ws' := [(m0, .inr (8, [.int z0, .int z1, .int z2, .int z3, .long (lN P), .long (lN Q), .long (lN G), .long z7, .long z8, .long z9, .int z10, .ref a0, .ref a1, .ref a2, .ref a3, .ref a4, .ref a5, .ref a6, .ref a7, .ref a8, .ref a9, .ref b0, .ref b1, .int (nI 48), .ref b2, .ref b3, .ref b4, .ref b5])), (a7, .inl (cI, 256, .inl (o8 g_19 40 (lf 3)))), (a8, .inl (cI, 64, .inl sc)), (a9, .inl (cI, 8, .inl st)), (b0, .inl (cI, 8, .inl kS)), (b1, .inl (cI, 64, .inl kR)), (a2, .inl (cJ, 4, .inr (.inl tf))), (a3, .inl (cJ, 16, .inr (.inl lf)))]) [6, 7, 0, 1, 2, 3, 4, 5] (by decide) rfl
          generalize H1 = H at hP hS ⊢
          obtain ⟨g_24, eg_24⟩ : ∃ f : Nat → Int32, f = o8 g_19 40 (lf 3) := ⟨_, rfl⟩
          rw [← eg_24] at hP hD
          have hm_25 : bok g_24 6 [lN P, lN G, lf 0, lf 1, lf 2, lf 3] := bok_add _ hm_20 rfl eg_24
          obtain ⟨i_26, ei_26⟩ : ∃ y : Int32, y = 3 + 1 := ⟨_, rfl⟩
          refine lv_iinc (v := i_26) (lv' := [(2, .int i_26), (0, .ref m0), (1, .int 8)]) hx hb d_Bm_hash_38 hl (k := 0) rfl (by rw [ei_26]; rfl) (by decide) rfl (fun ls hl => ?_)
          obtain rfl : i_26 = 4 := by rw [ei_26]; exact by decide
          refine lv_goto (tgt := 23) hx hb d_Bm_hash_41 (by decide) ?_
          refine lv_iload_n hx hb d_Bm_hash_23 rfl (lv_at hl 0 rfl) ?_
          refine lv_iload_n hx hb d_Bm_hash_24 rfl (lv_at hl 2 rfl) ?_
          refine lv_icmp_ge (tgt := 44) hx hb d_Bm_hash_25 (by decide) (fun c_27 => ?_) (fun c_27 => ?_)
          · -- taken
            exact absurd c_27 (by decide)
          · -- not taken
            refine lv_aload_n hx hb d_Bm_hash_28 rfl (lv_at hl 1 rfl) ?_
            refine lv_aload_n hx hb d_Bm_hash_29 rfl (lv_at hl 1 rfl) ?_
            refine va_get (D := (dC, dI)) (ci := 8) (v := .ref a3) (C := "BallotBoardModel") (T := F_Bm) (N := 28) hx hb hts (fun w9 h9 => List.mem_cons_of_mem _ (i_Bm w9 h9)) hown hK hP 0 rfl rfl 14 (by decide) (hts _ (List.mem_cons_of_mem _ gk_933)) (fun _ h9 => h9) rfl d_Bm_hash_30 ?_
            refine lv_iload_n hx hb d_Bm_hash_33 rfl (lv_at hl 0 rfl) ?_
            refine va_lald hx hb hK hP 7 0 rfl rfl (vp_lit rfl) d_Bm_hash_34 ?_
            rw [show (lf (4 : Int32).toNatClampNeg : Int64) = lf 4 from rfl]
            have hPc := hP.sub (ws' := (mo_ws m0 z0 z1 z2 z3 (lN P) (lN Q) (lN G) z7 z8 z9 z10 a0 a1 a2 a3 a4 a5 a6 a7 a8 a9 b0 b1 48 b2 b3 b4 b5 ++ (iw_ws a7 cI 256 g_24))) [0, 1] rfl
            have hDc := hD.sub (ws' := (mo_ws m0 z0 z1 z2 z3 (lN P) (lN Q) (lN G) z7 z8 z9 z10 a0 a1 a2 a3 a4 a5 a6 a7 a8 a9 b0 b1 48 b2 b3 b4 b5 ++ (iw_ws a7 cI 256 g_24))) [0, 1] (by decide) rfl
            have hKc := hK.sub (tys' := [(cJ, .long), (cI, .int)]) [0, 1] rfl
            have hFc := va_free (wc := (mo_ws m0 z0 z1 z2 z3 (lN P) (lN Q) (lN G) z7 z8 z9 z10 a0 a1 a2 a3 a4 a5 a6 a7 a8 a9 b0 b1 48 b2 b3 b4 b5 ++ (iw_ws a7 cI 256 g_24))) hD hS hA [0, 1] rfl
            refine va_callv (va_runV (As := [.long (lf 4)]) (rest := []) ⟨hx, hb, hml, hown, hts⟩ (c_Bm_eight l dC dI cJ cI H.size m0 z0 z1 z2 z3 (lN P) (lN Q) (lN G) z7 z8 z9 z10 a0 a1 a2 a3 a4 a5 a6 a7 a8 a9 b0 b1 48 b2 b3 b4 b5 g_24 (lf 4) (by omega)) (cwV 1 hts (gw_V gk_1070 gk_1072 gp_36 gk_7 gk_1073) rfl rfl rfl (by decide +kernel) ⟨Nat.le_of_ble_eq_true rfl, Nat.le_of_ble_eq_true rfl⟩) ⟨fun a U g mk q => by obtain ⟨q0, q1, qP, qK, qD⟩ := q; exact ⟨q0, q1, qP, va_K.moved (u := U) (U := U.calling g mk a) (Vm.Alike.refl U.vm) qK, qD⟩, va_recv hK hP (ci := 8) (q0 := 0) rfl rfl, fun U hU hW => ⟨rfl, by rw [hU], by rw [hU]; exact hPc, va_K.moved hW.alike hKc, hDc.weaken (fun _ _ _ _ => trivial)⟩⟩ rfl rfl hl.1 rfl (lv_room (Nat.le_of_ble_eq_true rfl)) d_Bm_hash_35 ⟨Nat.le_of_ble_eq_true rfl, Nat.le_of_ble_eq_true rfl⟩) hS (fun q _ h => hFc q h) hFc (fun u9 t9 H1 locs ht hvm hw hB hz1 hk1 hS => ?_)
            obtain ⟨hP1, hK1, hD1⟩ := hB
            rw [ht] at hP1
            obtain ⟨hP, hD⟩ := va_join (wr := [(a8, .inl (cI, 64, .inl sc)), (a9, .inl (cI, 8, .inl st)), (b0, .inl (cI, 8, .inl kS)), (b1, .inl (cI, 64, .inl kR)), (a2, .inl (cJ, 4, .inr (.inl tf))), (a3, .inl (cJ, 16, .inr (.inl lf)))]) (w1 := [(m0, .inr (8, [.int z0, .int z1, .int z2, .int z3, .long (lN P), .long (lN Q), .long (lN G), .long z7, .long z8, .long z9, .int z10, .ref a0, .ref a1, .ref a2, .ref a3, .ref a4, .ref a5, .ref a6, .ref a7, .ref a8, .ref a9, .ref b0, .ref b1, .int (nI 56), .ref b2, .ref b3, .ref b4, .ref b5])), (a7, .inl (cI, 256, .inl (o8 g_24 48 (lf 4))))]) hP hD [0, 1] [2, 3, 4, 5, 6, 7] rfl rfl (by decide) (by decide) hk1 hFc hP1 hD1
            have hP := hP.sub (ws' := [(m0, .inr (8, [.int z0, .int z1, .int z2, .int z3, .long (lN P), .long (lN Q), .long (lN G), .long z7, .long z8, .long z9, .int z10, .ref a0, .ref a1, .ref a2, .ref a3, .ref a4, .ref a5, .ref a6, .ref a7, .ref a8, .ref a9, .ref b0, .ref b1, .int (nI 56), .ref b2, .ref b3, .ref b4, .ref b5])), (a7, .inl (cI, 256, .inl (o8 g_24 48 (lf 4)))), (a8, .inl (cI, 64, .inl sc)), (a9, .inl (cI, 8, .inl st)), (b0, .inl (cI, 8, .inl kS)), (b1, .inl (cI, 64, .inl kR)), (a2, .inl (cJ, 4, .inr (.inl tf))), (a3, .inl (cJ, 16, .inr (.inl lf)))]) [6, 7, 0, 1, 2, 3, 4, 5] rfl
            have hD := hD.sub (ws' := [(m0, .inr (8, [.int z0, .int z1, .int z2, .int z3, .long (lN P), .long (lN Q), .long (lN G), .long z7, .long z8, .long z9, .int z10, .ref a0, .ref a1, .ref a2, .ref a3, .ref a4, .ref a5, .ref a6, .ref a7, .ref a8, .ref a9, .ref b0, .ref b1, .int (nI 56), .ref b2, .ref b3, .ref b4, .ref b5])), (a7, .inl (cI, 256, .inl (o8 g_24 48 (lf 4)))), (a8, .inl (cI, 64, .inl sc)), (a9, .inl (cI, 8, .inl st)), (b0, .inl (cI, 8, .inl kS)), (b1, .inl (cI, 64, .inl kR)), (a2, .inl (cJ, 4, .inr (.inl tf))), (a3, .inl (cJ, 16, .inr (.inl lf)))]) [6, 7, 0, 1, 2, 3, 4, 5] (by decide) rfl
            generalize H1 = H at hP hS ⊢
            obtain ⟨g_29, eg_29⟩ : ∃ f : Nat → Int32, f = o8 g_24 48 (lf 4) := ⟨_, rfl⟩
            rw [← eg_29] at hP hD
            have hm_30 : bok g_29 7 [lN P, lN G, lf 0, lf 1, lf 2, lf 3, lf 4] := bok_add _ hm_25 rfl eg_29
            obtain ⟨i_31, ei_31⟩ : ∃ y : Int32, y = 4 + 1 := ⟨_, rfl⟩
            refine lv_iinc (v := i_31) (lv' := [(2, .int i_31), (0, .ref m0), (1, .int 8)]) hx hb d_Bm_hash_38 hl (k := 0) rfl (by rw [ei_31]; rfl) (by decide) rfl (fun ls hl => ?_)
            obtain rfl : i_31 = 5 := by rw [ei_31]; exact by decide
            refine lv_goto (tgt := 23) hx hb d_Bm_hash_41 (by decide) ?_
            refine lv_iload_n hx hb d_Bm_hash_23 rfl (lv_at hl 0 rfl) ?_
            refine lv_iload_n hx hb d_Bm_hash_24 rfl (lv_at hl 2 rfl) ?_
            refine lv_icmp_ge (tgt := 44) hx hb d_Bm_hash_25 (by decide) (fun c_32 => ?_) (fun c_32 => ?_)
            · -- taken
              exact absurd c_32 (by decide)
            · -- not taken
              refine lv_aload_n hx hb d_Bm_hash_28 rfl (lv_at hl 1 rfl) ?_
              refine lv_aload_n hx hb d_Bm_hash_29 rfl (lv_at hl 1 rfl) ?_
              refine va_get (D := (dC, dI)) (ci := 8) (v := .ref a3) (C := "BallotBoardModel") (T := F_Bm) (N := 28) hx hb hts (fun w9 h9 => List.mem_cons_of_mem _ (i_Bm w9 h9)) hown hK hP 0 rfl rfl 14 (by decide) (hts _ (List.mem_cons_of_mem _ gk_933)) (fun _ h9 => h9) rfl d_Bm_hash_30 ?_
              refine lv_iload_n hx hb d_Bm_hash_33 rfl (lv_at hl 0 rfl) ?_
              refine va_lald hx hb hK hP 7 0 rfl rfl (vp_lit rfl) d_Bm_hash_34 ?_
              rw [show (lf (5 : Int32).toNatClampNeg : Int64) = lf 5 from rfl]
              have hPc := hP.sub (ws' := (mo_ws m0 z0 z1 z2 z3 (lN P) (lN Q) (lN G) z7 z8 z9 z10 a0 a1 a2 a3 a4 a5 a6 a7 a8 a9 b0 b1 56 b2 b3 b4 b5 ++ (iw_ws a7 cI 256 g_29))) [0, 1] rfl
              have hDc := hD.sub (ws' := (mo_ws m0 z0 z1 z2 z3 (lN P) (lN Q) (lN G) z7 z8 z9 z10 a0 a1 a2 a3 a4 a5 a6 a7 a8 a9 b0 b1 56 b2 b3 b4 b5 ++ (iw_ws a7 cI 256 g_29))) [0, 1] (by decide) rfl
              have hKc := hK.sub (tys' := [(cJ, .long), (cI, .int)]) [0, 1] rfl
              have hFc := va_free (wc := (mo_ws m0 z0 z1 z2 z3 (lN P) (lN Q) (lN G) z7 z8 z9 z10 a0 a1 a2 a3 a4 a5 a6 a7 a8 a9 b0 b1 56 b2 b3 b4 b5 ++ (iw_ws a7 cI 256 g_29))) hD hS hA [0, 1] rfl
              refine va_callv (va_runV (As := [.long (lf 5)]) (rest := []) ⟨hx, hb, hml, hown, hts⟩ (c_Bm_eight l dC dI cJ cI H.size m0 z0 z1 z2 z3 (lN P) (lN Q) (lN G) z7 z8 z9 z10 a0 a1 a2 a3 a4 a5 a6 a7 a8 a9 b0 b1 56 b2 b3 b4 b5 g_29 (lf 5) (by omega)) (cwV 1 hts (gw_V gk_1070 gk_1072 gp_36 gk_7 gk_1073) rfl rfl rfl (by decide +kernel) ⟨Nat.le_of_ble_eq_true rfl, Nat.le_of_ble_eq_true rfl⟩) ⟨fun a U g mk q => by obtain ⟨q0, q1, qP, qK, qD⟩ := q; exact ⟨q0, q1, qP, va_K.moved (u := U) (U := U.calling g mk a) (Vm.Alike.refl U.vm) qK, qD⟩, va_recv hK hP (ci := 8) (q0 := 0) rfl rfl, fun U hU hW => ⟨rfl, by rw [hU], by rw [hU]; exact hPc, va_K.moved hW.alike hKc, hDc.weaken (fun _ _ _ _ => trivial)⟩⟩ rfl rfl hl.1 rfl (lv_room (Nat.le_of_ble_eq_true rfl)) d_Bm_hash_35 ⟨Nat.le_of_ble_eq_true rfl, Nat.le_of_ble_eq_true rfl⟩) hS (fun q _ h => hFc q h) hFc (fun u9 t9 H1 locs ht hvm hw hB hz1 hk1 hS => ?_)
              obtain ⟨hP1, hK1, hD1⟩ := hB
              rw [ht] at hP1
              obtain ⟨hP, hD⟩ := va_join (wr := [(a8, .inl (cI, 64, .inl sc)), (a9, .inl (cI, 8, .inl st)), (b0, .inl (cI, 8, .inl kS)), (b1, .inl (cI, 64, .inl kR)), (a2, .inl (cJ, 4, .inr (.inl tf))), (a3, .inl (cJ, 16, .inr (.inl lf)))]) (w1 := [(m0, .inr (8, [.int z0, .int z1, .int z2, .int z3, .long (lN P), .long (lN Q), .long (lN G), .long z7, .long z8, .long z9, .int z10, .ref a0, .ref a1, .ref a2, .ref a3, .ref a4, .ref a5, .ref a6, .ref a7, .ref a8, .ref a9, .ref b0, .ref b1, .int (nI 64), .ref b2, .ref b3, .ref b4, .ref b5])), (a7, .inl (cI, 256, .inl (o8 g_29 56 (lf 5))))]) hP hD [0, 1] [2, 3, 4, 5, 6, 7] rfl rfl (by decide) (by decide) hk1 hFc hP1 hD1
              have hP := hP.sub (ws' := [(m0, .inr (8, [.int z0, .int z1, .int z2, .int z3, .long (lN P), .long (lN Q), .long (lN G), .long z7, .long z8, .long z9, .int z10, .ref a0, .ref a1, .ref a2, .ref a3, .ref a4, .ref a5, .ref a6, .ref a7, .ref a8, .ref a9, .ref b0, .ref b1, .int (nI 64), .ref b2, .ref b3, .ref b4, .ref b5])), (a7, .inl (cI, 256, .inl (o8 g_29 56 (lf 5)))), (a8, .inl (cI, 64, .inl sc)), (a9, .inl (cI, 8, .inl st)), (b0, .inl (cI, 8, .inl kS)), (b1, .inl (cI, 64, .inl kR)), (a2, .inl (cJ, 4, .inr (.inl tf))), (a3, .inl (cJ, 16, .inr (.inl lf)))]) [6, 7, 0, 1, 2, 3, 4, 5] rfl
              have hD := hD.sub (ws' := [(m0, .inr (8, [.int z0, .int z1, .int z2, .int z3, .long (lN P), .long (lN Q), .long (lN G), .long z7, .long z8, .long z9, .int z10, .ref a0, .ref a1, .ref a2, .ref a3, .ref a4, .ref a5, .ref a6, .ref a7, .ref a8, .ref a9, .ref b0, .ref b1, .int (nI 64), .ref b2, .ref b3, .ref b4, .ref b5])), (a7, .inl (cI, 256, .inl (o8 g_29 56 (lf 5)))), (a8, .inl (cI, 64, .inl sc)), (a9, .inl (cI, 8, .inl st)), (b0, .inl (cI, 8, .inl kS)), (b1, .inl (cI, 64, .inl kR)), (a2, .inl (cJ, 4, .inr (.inl tf))), (a3, .inl (cJ, 16, .inr (.inl lf)))]) [6, 7, 0, 1, 2, 3, 4, 5] (by decide) rfl
              generalize H1 = H at hP hS ⊢
              obtain ⟨g_34, eg_34⟩ : ∃ f : Nat → Int32, f = o8 g_29 56 (lf 5) := ⟨_, rfl⟩
              rw [← eg_34] at hP hD
              have hm_35 : bok g_34 8 [lN P, lN G, lf 0, lf 1, lf 2, lf 3, lf 4, lf 5] := bok_add _ hm_30 rfl eg_34
              obtain ⟨i_36, ei_36⟩ : ∃ y : Int32, y = 5 + 1 := ⟨_, rfl⟩
              refine lv_iinc (v := i_36) (lv' := [(2, .int i_36), (0, .ref m0), (1, .int 8)]) hx hb d_Bm_hash_38 hl (k := 0) rfl (by rw [ei_36]; rfl) (by decide) rfl (fun ls hl => ?_)
              obtain rfl : i_36 = 6 := by rw [ei_36]; exact by decide
              refine lv_goto (tgt := 23) hx hb d_Bm_hash_41 (by decide) ?_
              refine lv_iload_n hx hb d_Bm_hash_23 rfl (lv_at hl 0 rfl) ?_
              refine lv_iload_n hx hb d_Bm_hash_24 rfl (lv_at hl 2 rfl) ?_
              refine lv_icmp_ge (tgt := 44) hx hb d_Bm_hash_25 (by decide) (fun c_37 => ?_) (fun c_37 => ?_)
              · -- taken
                exact absurd c_37 (by decide)
              · -- not taken
                refine lv_aload_n hx hb d_Bm_hash_28 rfl (lv_at hl 1 rfl) ?_
                refine lv_aload_n hx hb d_Bm_hash_29 rfl (lv_at hl 1 rfl) ?_
                refine va_get (D := (dC, dI)) (ci := 8) (v := .ref a3) (C := "BallotBoardModel") (T := F_Bm) (N := 28) hx hb hts (fun w9 h9 => List.mem_cons_of_mem _ (i_Bm w9 h9)) hown hK hP 0 rfl rfl 14 (by decide) (hts _ (List.mem_cons_of_mem _ gk_933)) (fun _ h9 => h9) rfl d_Bm_hash_30 ?_
                refine lv_iload_n hx hb d_Bm_hash_33 rfl (lv_at hl 0 rfl) ?_
                refine va_lald hx hb hK hP 7 0 rfl rfl (vp_lit rfl) d_Bm_hash_34 ?_
                rw [show (lf (6 : Int32).toNatClampNeg : Int64) = lf 6 from rfl]
                have hPc := hP.sub (ws' := (mo_ws m0 z0 z1 z2 z3 (lN P) (lN Q) (lN G) z7 z8 z9 z10 a0 a1 a2 a3 a4 a5 a6 a7 a8 a9 b0 b1 64 b2 b3 b4 b5 ++ (iw_ws a7 cI 256 g_34))) [0, 1] rfl
                have hDc := hD.sub (ws' := (mo_ws m0 z0 z1 z2 z3 (lN P) (lN Q) (lN G) z7 z8 z9 z10 a0 a1 a2 a3 a4 a5 a6 a7 a8 a9 b0 b1 64 b2 b3 b4 b5 ++ (iw_ws a7 cI 256 g_34))) [0, 1] (by decide) rfl
                have hKc := hK.sub (tys' := [(cJ, .long), (cI, .int)]) [0, 1] rfl
                have hFc := va_free (wc := (mo_ws m0 z0 z1 z2 z3 (lN P) (lN Q) (lN G) z7 z8 z9 z10 a0 a1 a2 a3 a4 a5 a6 a7 a8 a9 b0 b1 64 b2 b3 b4 b5 ++ (iw_ws a7 cI 256 g_34))) hD hS hA [0, 1] rfl
                refine va_callv (va_runV (As := [.long (lf 6)]) (rest := []) ⟨hx, hb, hml, hown, hts⟩ (c_Bm_eight l dC dI cJ cI H.size m0 z0 z1 z2 z3 (lN P) (lN Q) (lN G) z7 z8 z9 z10 a0 a1 a2 a3 a4 a5 a6 a7 a8 a9 b0 b1 64 b2 b3 b4 b5 g_34 (lf 6) (by omega)) (cwV 1 hts (gw_V gk_1070 gk_1072 gp_36 gk_7 gk_1073) rfl rfl rfl (by decide +kernel) ⟨Nat.le_of_ble_eq_true rfl, Nat.le_of_ble_eq_true rfl⟩) ⟨fun a U g mk q => by obtain ⟨q0, q1, qP, qK, qD⟩ := q; exact ⟨q0, q1, qP, va_K.moved (u := U) (U := U.calling g mk a) (Vm.Alike.refl U.vm) qK, qD⟩, va_recv hK hP (ci := 8) (q0 := 0) rfl rfl, fun U hU hW => ⟨rfl, by rw [hU], by rw [hU]; exact hPc, va_K.moved hW.alike hKc, hDc.weaken (fun _ _ _ _ => trivial)⟩⟩ rfl rfl hl.1 rfl (lv_room (Nat.le_of_ble_eq_true rfl)) d_Bm_hash_35 ⟨Nat.le_of_ble_eq_true rfl, Nat.le_of_ble_eq_true rfl⟩) hS (fun q _ h => hFc q h) hFc (fun u9 t9 H1 locs ht hvm hw hB hz1 hk1 hS => ?_)
                obtain ⟨hP1, hK1, hD1⟩ := hB
                rw [ht] at hP1
                obtain ⟨hP, hD⟩ := va_join (wr := [(a8, .inl (cI, 64, .inl sc)), (a9, .inl (cI, 8, .inl st)), (b0, .inl (cI, 8, .inl kS)), (b1, .inl (cI, 64, .inl kR)), (a2, .inl (cJ, 4, .inr (.inl tf))), (a3, .inl (cJ, 16, .inr (.inl lf)))]) (w1 := [(m0, .inr (8, [.int z0, .int z1, .int z2, .int z3, .long (lN P), .long (lN Q), .long (lN G), .long z7, .long z8, .long z9, .int z10, .ref a0, .ref a1, .ref a2, .ref a3, .ref a4, .ref a5, .ref a6, .ref a7, .ref a8, .ref a9, .ref b0, .ref b1, .int (nI 72), .ref b2, .ref b3, .ref b4, .ref b5])), (a7, .inl (cI, 256, .inl (o8 g_34 64 (lf 6))))]) hP hD [0, 1] [2, 3, 4, 5, 6, 7] rfl rfl (by decide) (by decide) hk1 hFc hP1 hD1
                have hP := hP.sub (ws' := [(m0, .inr (8, [.int z0, .int z1, .int z2, .int z3, .long (lN P), .long (lN Q), .long (lN G), .long z7, .long z8, .long z9, .int z10, .ref a0, .ref a1, .ref a2, .ref a3, .ref a4, .ref a5, .ref a6, .ref a7, .ref a8, .ref a9, .ref b0, .ref b1, .int (nI 72), .ref b2, .ref b3, .ref b4, .ref b5])), (a7, .inl (cI, 256, .inl (o8 g_34 64 (lf 6)))), (a8, .inl (cI, 64, .inl sc)), (a9, .inl (cI, 8, .inl st)), (b0, .inl (cI, 8, .inl kS)), (b1, .inl (cI, 64, .inl kR)), (a2, .inl (cJ, 4, .inr (.inl tf))), (a3, .inl (cJ, 16, .inr (.inl lf)))]) [6, 7, 0, 1, 2, 3, 4, 5] rfl
                have hD := hD.sub (ws' := [(m0, .inr (8, [.int z0, .int z1, .int z2, .int z3, .long (lN P), .long (lN Q), .long (lN G), .long z7, .long z8, .long z9, .int z10, .ref a0, .ref a1, .ref a2, .ref a3, .ref a4, .ref a5, .ref a6, .ref a7, .ref a8, .ref a9, .ref b0, .ref b1, .int (nI 72), .ref b2, .ref b3, .ref b4, .ref b5])), (a7, .inl (cI, 256, .inl (o8 g_34 64 (lf 6)))), (a8, .inl (cI, 64, .inl sc)), (a9, .inl (cI, 8, .inl st)), (b0, .inl (cI, 8, .inl kS)), (b1, .inl (cI, 64, .inl kR)), (a2, .inl (cJ, 4, .inr (.inl tf))), (a3, .inl (cJ, 16, .inr (.inl lf)))]) [6, 7, 0, 1, 2, 3, 4, 5] (by decide) rfl
                generalize H1 = H at hP hS ⊢
                obtain ⟨g_39, eg_39⟩ : ∃ f : Nat → Int32, f = o8 g_34 64 (lf 6) := ⟨_, rfl⟩
                rw [← eg_39] at hP hD
                have hm_40 : bok g_39 9 [lN P, lN G, lf 0, lf 1, lf 2, lf 3, lf 4, lf 5, lf 6] := bok_add _ hm_35 rfl eg_39
                obtain ⟨i_41, ei_41⟩ : ∃ y : Int32, y = 6 + 1 := ⟨_, rfl⟩
                refine lv_iinc (v := i_41) (lv' := [(2, .int i_41), (0, .ref m0), (1, .int 8)]) hx hb d_Bm_hash_38 hl (k := 0) rfl (by rw [ei_41]; rfl) (by decide) rfl (fun ls hl => ?_)
                obtain rfl : i_41 = 7 := by rw [ei_41]; exact by decide
                refine lv_goto (tgt := 23) hx hb d_Bm_hash_41 (by decide) ?_
                refine lv_iload_n hx hb d_Bm_hash_23 rfl (lv_at hl 0 rfl) ?_
                refine lv_iload_n hx hb d_Bm_hash_24 rfl (lv_at hl 2 rfl) ?_
                refine lv_icmp_ge (tgt := 44) hx hb d_Bm_hash_25 (by decide) (fun c_42 => ?_) (fun c_42 => ?_)
                · -- taken
                  exact absurd c_42 (by decide)
                · -- not taken
                  refine lv_aload_n hx hb d_Bm_hash_28 rfl (lv_at hl 1 rfl) ?_
                  refine lv_aload_n hx hb d_Bm_hash_29 rfl (lv_at hl 1 rfl) ?_
                  refine va_get (D := (dC, dI)) (ci := 8) (v := .ref a3) (C := "BallotBoardModel") (T := F_Bm) (N := 28) hx hb hts (fun w9 h9 => List.mem_cons_of_mem _ (i_Bm w9 h9)) hown hK hP 0 rfl rfl 14 (by decide) (hts _ (List.mem_cons_of_mem _ gk_933)) (fun _ h9 => h9) rfl d_Bm_hash_30 ?_
                  refine lv_iload_n hx hb d_Bm_hash_33 rfl (lv_at hl 0 rfl) ?_
                  refine va_lald hx hb hK hP 7 0 rfl rfl (vp_lit rfl) d_Bm_hash_34 ?_
                  rw [show (lf (7 : Int32).toNatClampNeg : Int64) = lf 7 from rfl]
                  have hPc := hP.sub (ws' := (mo_ws m0 z0 z1 z2 z3 (lN P) (lN Q) (lN G) z7 z8 z9 z10 a0 a1 a2 a3 a4 a5 a6 a7 a8 a9 b0 b1 72 b2 b3 b4 b5 ++ (iw_ws a7 cI 256 g_39))) [0, 1] rfl
                  have hDc := hD.sub (ws' := (mo_ws m0 z0 z1 z2 z3 (lN P) (lN Q) (lN G) z7 z8 z9 z10 a0 a1 a2 a3 a4 a5 a6 a7 a8 a9 b0 b1 72 b2 b3 b4 b5 ++ (iw_ws a7 cI 256 g_39))) [0, 1] (by decide) rfl
                  have hKc := hK.sub (tys' := [(cJ, .long), (cI, .int)]) [0, 1] rfl
                  have hFc := va_free (wc := (mo_ws m0 z0 z1 z2 z3 (lN P) (lN Q) (lN G) z7 z8 z9 z10 a0 a1 a2 a3 a4 a5 a6 a7 a8 a9 b0 b1 72 b2 b3 b4 b5 ++ (iw_ws a7 cI 256 g_39))) hD hS hA [0, 1] rfl
                  refine va_callv (va_runV (As := [.long (lf 7)]) (rest := []) ⟨hx, hb, hml, hown, hts⟩ (c_Bm_eight l dC dI cJ cI H.size m0 z0 z1 z2 z3 (lN P) (lN Q) (lN G) z7 z8 z9 z10 a0 a1 a2 a3 a4 a5 a6 a7 a8 a9 b0 b1 72 b2 b3 b4 b5 g_39 (lf 7) (by omega)) (cwV 1 hts (gw_V gk_1070 gk_1072 gp_36 gk_7 gk_1073) rfl rfl rfl (by decide +kernel) ⟨Nat.le_of_ble_eq_true rfl, Nat.le_of_ble_eq_true rfl⟩) ⟨fun a U g mk q => by obtain ⟨q0, q1, qP, qK, qD⟩ := q; exact ⟨q0, q1, qP, va_K.moved (u := U) (U := U.calling g mk a) (Vm.Alike.refl U.vm) qK, qD⟩, va_recv hK hP (ci := 8) (q0 := 0) rfl rfl, fun U hU hW => ⟨rfl, by rw [hU], by rw [hU]; exact hPc, va_K.moved hW.alike hKc, hDc.weaken (fun _ _ _ _ => trivial)⟩⟩ rfl rfl hl.1 rfl (lv_room (Nat.le_of_ble_eq_true rfl)) d_Bm_hash_35 ⟨Nat.le_of_ble_eq_true rfl, Nat.le_of_ble_eq_true rfl⟩) hS (fun q _ h => hFc q h) hFc (fun u9 t9 H1 locs ht hvm hw hB hz1 hk1 hS => ?_)
                  obtain ⟨hP1, hK1, hD1⟩ := hB
                  rw [ht] at hP1
                  obtain ⟨hP, hD⟩ := va_join (wr := [(a8, .inl (cI, 64, .inl sc)), (a9, .inl (cI, 8, .inl st)), (b0, .inl (cI, 8, .inl kS)), (b1, .inl (cI, 64, .inl kR)), (a2, .inl (cJ, 4, .inr (.inl tf))), (a3, .inl (cJ, 16, .inr (.inl lf)))]) (w1 := [(m0, .inr (8, [.int z0, .int z1, .int z2, .int z3, .long (lN P), .long (lN Q), .long (lN G), .long z7, .long z8, .long z9, .int z10, .ref a0, .ref a1, .ref a2, .ref a3, .ref a4, .ref a5, .ref a6, .ref a7, .ref a8, .ref a9, .ref b0, .ref b1, .int (nI 80), .ref b2, .ref b3, .ref b4, .ref b5])), (a7, .inl (cI, 256, .inl (o8 g_39 72 (lf 7))))]) hP hD [0, 1] [2, 3, 4, 5, 6, 7] rfl rfl (by decide) (by decide) hk1 hFc hP1 hD1
                  have hP := hP.sub (ws' := [(m0, .inr (8, [.int z0, .int z1, .int z2, .int z3, .long (lN P), .long (lN Q), .long (lN G), .long z7, .long z8, .long z9, .int z10, .ref a0, .ref a1, .ref a2, .ref a3, .ref a4, .ref a5, .ref a6, .ref a7, .ref a8, .ref a9, .ref b0, .ref b1, .int (nI 80), .ref b2, .ref b3, .ref b4, .ref b5])), (a7, .inl (cI, 256, .inl (o8 g_39 72 (lf 7)))), (a8, .inl (cI, 64, .inl sc)), (a9, .inl (cI, 8, .inl st)), (b0, .inl (cI, 8, .inl kS)), (b1, .inl (cI, 64, .inl kR)), (a2, .inl (cJ, 4, .inr (.inl tf))), (a3, .inl (cJ, 16, .inr (.inl lf)))]) [6, 7, 0, 1, 2, 3, 4, 5] rfl
                  have hD := hD.sub (ws' := [(m0, .inr (8, [.int z0, .int z1, .int z2, .int z3, .long (lN P), .long (lN Q), .long (lN G), .long z7, .long z8, .long z9, .int z10, .ref a0, .ref a1, .ref a2, .ref a3, .ref a4, .ref a5, .ref a6, .ref a7, .ref a8, .ref a9, .ref b0, .ref b1, .int (nI 80), .ref b2, .ref b3, .ref b4, .ref b5])), (a7, .inl (cI, 256, .inl (o8 g_39 72 (lf 7)))), (a8, .inl (cI, 64, .inl sc)), (a9, .inl (cI, 8, .inl st)), (b0, .inl (cI, 8, .inl kS)), (b1, .inl (cI, 64, .inl kR)), (a2, .inl (cJ, 4, .inr (.inl tf))), (a3, .inl (cJ, 16, .inr (.inl lf)))]) [6, 7, 0, 1, 2, 3, 4, 5] (by decide) rfl
                  generalize H1 = H at hP hS ⊢
                  obtain ⟨g_44, eg_44⟩ : ∃ f : Nat → Int32, f = o8 g_39 72 (lf 7) := ⟨_, rfl⟩
                  rw [← eg_44] at hP hD
                  have hm_45 : bok g_44 10 [lN P, lN G, lf 0, lf 1, lf 2, lf 3, lf 4, lf 5, lf 6, lf 7] := bok_add _ hm_40 rfl eg_44
                  obtain ⟨i_46, ei_46⟩ : ∃ y : Int32, y = 7 + 1 := ⟨_, rfl⟩
                  refine lv_iinc (v := i_46) (lv' := [(2, .int i_46), (0, .ref m0), (1, .int 8)]) hx hb d_Bm_hash_38 hl (k := 0) rfl (by rw [ei_46]; rfl) (by decide) rfl (fun ls hl => ?_)
                  obtain rfl : i_46 = 8 := by rw [ei_46]; exact by decide
                  refine lv_goto (tgt := 23) hx hb d_Bm_hash_41 (by decide) ?_
                  refine lv_iload_n hx hb d_Bm_hash_23 rfl (lv_at hl 0 rfl) ?_
                  refine lv_iload_n hx hb d_Bm_hash_24 rfl (lv_at hl 2 rfl) ?_
                  refine lv_icmp_ge (tgt := 44) hx hb d_Bm_hash_25 (by decide) (fun c_47 => ?_) (fun c_47 => ?_)
                  · -- taken
                    refine lv_aload_n hx hb d_Bm_hash_44 rfl (lv_at hl 1 rfl) ?_
                    have hPc := hP.sub (ws' := (mo_ws m0 z0 z1 z2 z3 (lN P) (lN Q) (lN G) z7 z8 z9 z10 a0 a1 a2 a3 a4 a5 a6 a7 a8 a9 b0 b1 (8 * 10) b2 b3 b4 b5 ++ (iw_ws a7 cI 256 g_44 ++ (iw_ws a8 cI 64 sc ++ (iw_ws a9 cI 8 st ++ (iw_ws b0 cI 8 kS ++ (iw_ws b1 cI 64 kR ++ (jw_ws a2 cJ 4 tf)))))))) [0, 1, 2, 3, 4, 5, 6] rfl
                    have hDc := hD.sub (ws' := (mo_ws m0 z0 z1 z2 z3 (lN P) (lN Q) (lN G) z7 z8 z9 z10 a0 a1 a2 a3 a4 a5 a6 a7 a8 a9 b0 b1 (8 * 10) b2 b3 b4 b5 ++ (iw_ws a7 cI 256 g_44 ++ (iw_ws a8 cI 64 sc ++ (iw_ws a9 cI 8 st ++ (iw_ws b0 cI 8 kS ++ (iw_ws b1 cI 64 kR ++ (jw_ws a2 cJ 4 tf)))))))) [0, 1, 2, 3, 4, 5, 6] (by decide) rfl
                    have hKc := hK.sub (tys' := [(cJ, .long), (cI, .int)]) [0, 1] rfl
                    have hFc := va_free (wc := (mo_ws m0 z0 z1 z2 z3 (lN P) (lN Q) (lN G) z7 z8 z9 z10 a0 a1 a2 a3 a4 a5 a6 a7 a8 a9 b0 b1 (8 * 10) b2 b3 b4 b5 ++ (iw_ws a7 cI 256 g_44 ++ (iw_ws a8 cI 64 sc ++ (iw_ws a9 cI 8 st ++ (iw_ws b0 cI 8 kS ++ (iw_ws b1 cI 64 kR ++ (jw_ws a2 cJ 4 tf)))))))) hD hS hA [0, 1, 2, 3, 4, 5, 6] rfl
                    refine va_callv (va_runV (As := []) (rest := []) ⟨hx, hb, hml, hown, hts⟩ (c_Bm_digest l dC dI cJ cI H.size m0 z0 z1 z2 z3 (lN P) (lN Q) (lN G) z7 z8 z9 z10 a0 a1 a2 a3 a4 a5 a6 a7 a8 a9 b0 b1 b2 b3 b4 b5 10 g_44 sc st tf [lN P, lN G, lf 0, lf 1, lf 2, lf 3, lf 4, lf 5, lf 6, lf 7] (by decide) hm_45) (cwV 0 hts (gw_V gk_1074 gk_1076 gp_37 gk_7 gk_1077) rfl rfl rfl (by decide +kernel) ⟨Nat.le_of_ble_eq_true rfl, Nat.le_of_ble_eq_true rfl⟩) ⟨fun a U g mk q => by obtain ⟨q0, q1, qP, qK, qD⟩ := q; exact ⟨q0, q1, qP, va_K.moved (u := U) (U := U.calling g mk a) (Vm.Alike.refl U.vm) qK, qD⟩, va_recv hK hP (ci := 8) (q0 := 0) rfl rfl, fun U hU hW => ⟨rfl, by rw [hU], by rw [hU]; exact hPc, va_K.moved hW.alike hKc, hDc.weaken (fun _ _ _ _ => trivial)⟩⟩ rfl rfl hl.1 rfl (lv_room (Nat.le_of_ble_eq_true rfl)) d_Bm_hash_45 ⟨Nat.le_of_ble_eq_true rfl, Nat.le_of_ble_eq_true rfl⟩) hS (fun q _ h => hFc q h) hFc (fun u9 t9 H1 locs ht hvm hw hB hz1 hk1 hS => ?_)
                    obtain ⟨gbk_48, gsk_48, gtk_48, gfk_48, gok_48⟩ := u9
                    have hdg : dgo gtk_48 [lN P, lN G, lf 0, lf 1, lf 2, lf 3, lf 4, lf 5, lf 6, lf 7] ∧ ∀ j, j < 4 → gfk_48 j = lkw [lN P, lN G, lf 0, lf 1, lf 2, lf 3, lf 4, lf 5, lf 6, lf 7] j := hw
                    obtain ⟨hP1, hK1, hD1⟩ := hB
                    rw [ht] at hP1
                    obtain ⟨hP, hD⟩ := va_join (wr := [(a3, .inl (cJ, 16, .inr (.inl lf)))]) (w1 := [(m0, .inr (8, [.int z0, .int z1, .int z2, .int z3, .long (lN P), .long (lN Q), .long (lN G), .long z7, .long z8, .long z9, .int z10, .ref a0, .ref a1, .ref a2, .ref a3, .ref a4, .ref a5, .ref a6, .ref a7, .ref a8, .ref a9, .ref b0, .ref b1, .int (nI gok_48), .ref b2, .ref b3, .ref b4, .ref b5])), (a7, .inl (cI, 256, .inl gbk_48)), (a8, .inl (cI, 64, .inl gsk_48)), (a9, .inl (cI, 8, .inl gtk_48)), (b0, .inl (cI, 8, .inl kS)), (b1, .inl (cI, 64, .inl kR)), (a2, .inl (cJ, 4, .inr (.inl gfk_48)))]) hP hD [0, 1, 2, 3, 4, 5, 6] [7] rfl rfl (by decide) (by decide) hk1 hFc hP1 hD1
                    have hP := hP.sub (ws' := [(m0, .inr (8, [.int z0, .int z1, .int z2, .int z3, .long (lN P), .long (lN Q), .long (lN G), .long z7, .long z8, .long z9, .int z10, .ref a0, .ref a1, .ref a2, .ref a3, .ref a4, .ref a5, .ref a6, .ref a7, .ref a8, .ref a9, .ref b0, .ref b1, .int (nI gok_48), .ref b2, .ref b3, .ref b4, .ref b5])), (a7, .inl (cI, 256, .inl gbk_48)), (a8, .inl (cI, 64, .inl gsk_48)), (a9, .inl (cI, 8, .inl gtk_48)), (b0, .inl (cI, 8, .inl kS)), (b1, .inl (cI, 64, .inl kR)), (a2, .inl (cJ, 4, .inr (.inl gfk_48))), (a3, .inl (cJ, 16, .inr (.inl lf)))]) [1, 2, 3, 4, 5, 6, 7, 0] rfl
                    have hD := hD.sub (ws' := [(m0, .inr (8, [.int z0, .int z1, .int z2, .int z3, .long (lN P), .long (lN Q), .long (lN G), .long z7, .long z8, .long z9, .int z10, .ref a0, .ref a1, .ref a2, .ref a3, .ref a4, .ref a5, .ref a6, .ref a7, .ref a8, .ref a9, .ref b0, .ref b1, .int (nI gok_48), .ref b2, .ref b3, .ref b4, .ref b5])), (a7, .inl (cI, 256, .inl gbk_48)), (a8, .inl (cI, 64, .inl gsk_48)), (a9, .inl (cI, 8, .inl gtk_48)), (b0, .inl (cI, 8, .inl kS)), (b1, .inl (cI, 64, .inl kR)), (a2, .inl (cJ, 4, .inr (.inl gfk_48))), (a3, .inl (cJ, 16, .inr (.inl lf)))]) [1, 2, 3, 4, 5, 6, 7, 0] (by decide) rfl
                    generalize H1 = H at hP hS ⊢
                    refine lv_aload_n hx hb d_Bm_hash_48 rfl (lv_at hl 1 rfl) ?_
                    refine va_get (D := (dC, dI)) (ci := 8) (v := .ref a2) (C := "BallotBoardModel") (T := F_Bm) (N := 28) hx hb hts (fun w9 h9 => List.mem_cons_of_mem _ (i_Bm w9 h9)) hown hK hP 0 rfl rfl 13 (by decide) (hts _ (List.mem_cons_of_mem _ gk_932)) (fun _ h9 => h9) rfl d_Bm_hash_49 ?_
                    refine lv_iconst (v := 0) hx hb d_Bm_hash_52 (by decide) ?_
                    refine va_lald hx hb hK hP 6 0 rfl rfl (vp_lit rfl) d_Bm_hash_53 ?_
                    rw [show (gfk_48 (0 : Int32).toNatClampNeg : Int64) = gfk_48 0 from rfl]
                    rw [show (gfk_48 0 : Int64) = (lN (hN [lN P, lN G, lf 0, lf 1, lf 2, lf 3, lf 4, lf 5, lf 6, lf 7])) from (hdg.2 0 (by omega)).trans (lkw_hN _)]
                    refine lv_aload_n hx hb d_Bm_hash_54 rfl (lv_at hl 1 rfl) ?_
                    refine va_get (D := (dC, dI)) (ci := 8) (v := .long (lN Q)) (C := "BallotBoardModel") (T := F_Bm) (N := 28) hx hb hts (fun w9 h9 => List.mem_cons_of_mem _ (i_Bm w9 h9)) hown hK hP 0 rfl rfl 5 (by decide) (hts _ (List.mem_cons_of_mem _ gk_924)) (fun _ h9 => h9) rfl d_Bm_hash_55 ?_
                    refine va_calll (va_runS (As := [.long (lN (hN [lN P, lN G, lf 0, lf 1, lf 2, lf 3, lf 4, lf 5, lf 6, lf 7])), .long (lN Q)]) (rest := []) ⟨hx, hb, hml, hown, hts⟩ (c_Lo_rem l H (hN [lN P, lN G, lf 0, lf 1, lf 2, lf 3, lf 4, lf 5, lf 6, lf 7]) Q (hN_lt _) (by omega) (by omega)) (va_cwS 2 hts (gw_Sv gk_1086 gk_1087 gk_17 gk_1088) rfl rfl rfl (by decide +kernel) ⟨Nat.le_of_ble_eq_true rfl, Nat.le_of_ble_eq_true rfl⟩) ⟨fun a U g mk q => q, fun U hU hW => ⟨rfl, hU⟩⟩ rfl rfl hl.1 rfl (lv_room (Nat.le_of_ble_eq_true rfl)) d_Bm_hash_58 ⟨Nat.le_of_ble_eq_true rfl, Nat.le_of_ble_eq_true rfl⟩) hS (fun q _ h => h.elim) (fun q h => h.elim) (fun r58 u9 t9 H1 locs ht hvm hw hB hz1 hk1 hS => ?_)
                    obtain rfl : H = H1 := hB.symm.trans ht
                    have hw : r58 = lN ((hN [lN P, lN G, lf 0, lf 1, lf 2, lf 3, lf 4, lf 5, lf 6, lf 7]) % Q) := hw
                    subst hw
                    exact W.lret (v := (lN ((hN [lN P, lN G, lf 0, lf 1, lf 2, lf 3, lf 4, lf 5, lf 6, lf 7]) % Q))) hx hb hr (fun t ht9 hW => ⟨⟨_, (gbk_48, gsk_48, gtk_48, gfk_48, gok_48), rfl, (by rw [← hmsg, ← hsh_eq]), by rw [ht9]; exact hP, va_K.moved hW.alike hK, hD⟩, hS.F ht9⟩) hS.2.2 d_Bm_hash_61
                  · -- not taken
                    exact absurd c_47 (by decide)
abbrev b_Bm_hash4 : ByteArray := prog_10_method_20_code
abbrev y_Bm_hash4 : MethodName := ⟨"BallotBoardModel", "hash4", "(JJJJ)J"⟩
abbrev w_Bm_hash4 : List Cond := .code y_Bm_hash4 b_Bm_hash4 9 (some .long) :: gw
theorem d_Bm_hash4_0 : decode b_Bm_hash4 0 = .ok (.aload_n 0, 1) := by decide +kernel
theorem d_Bm_hash4_1 : decode b_Bm_hash4 1 = .ok (.getfield 19, 3) := by decide +kernel
theorem d_Bm_hash4_4 : decode b_Bm_hash4 4 = .ok (.iconst 0, 1) := by decide +kernel
theorem d_Bm_hash4_5 : decode b_Bm_hash4 5 = .ok (.lload_n 1, 1) := by decide +kernel
theorem d_Bm_hash4_6 : decode b_Bm_hash4 6 = .ok (.lastore, 1) := by decide +kernel
theorem d_Bm_hash4_7 : decode b_Bm_hash4 7 = .ok (.aload_n 0, 1) := by decide +kernel
theorem d_Bm_hash4_8 : decode b_Bm_hash4 8 = .ok (.getfield 19, 3) := by decide +kernel
theorem d_Bm_hash4_11 : decode b_Bm_hash4 11 = .ok (.iconst 1, 1) := by decide +kernel
theorem d_Bm_hash4_12 : decode b_Bm_hash4 12 = .ok (.lload_n 3, 1) := by decide +kernel
theorem d_Bm_hash4_13 : decode b_Bm_hash4 13 = .ok (.lastore, 1) := by decide +kernel
theorem d_Bm_hash4_14 : decode b_Bm_hash4 14 = .ok (.aload_n 0, 1) := by decide +kernel
theorem d_Bm_hash4_15 : decode b_Bm_hash4 15 = .ok (.getfield 19, 3) := by decide +kernel
theorem d_Bm_hash4_18 : decode b_Bm_hash4 18 = .ok (.iconst 2, 1) := by decide +kernel
theorem d_Bm_hash4_19 : decode b_Bm_hash4 19 = .ok (.lload 5, 2) := by decide +kernel
theorem d_Bm_hash4_21 : decode b_Bm_hash4 21 = .ok (.lastore, 1) := by decide +kernel
theorem d_Bm_hash4_22 : decode b_Bm_hash4 22 = .ok (.aload_n 0, 1) := by decide +kernel
theorem d_Bm_hash4_23 : decode b_Bm_hash4 23 = .ok (.getfield 19, 3) := by decide +kernel
theorem d_Bm_hash4_26 : decode b_Bm_hash4 26 = .ok (.iconst 3, 1) := by decide +kernel
theorem d_Bm_hash4_27 : decode b_Bm_hash4 27 = .ok (.lload 7, 2) := by decide +kernel
theorem d_Bm_hash4_29 : decode b_Bm_hash4 29 = .ok (.lastore, 1) := by decide +kernel
theorem d_Bm_hash4_30 : decode b_Bm_hash4 30 = .ok (.aload_n 0, 1) := by decide +kernel
theorem d_Bm_hash4_31 : decode b_Bm_hash4 31 = .ok (.iconst 4, 1) := by decide +kernel
theorem d_Bm_hash4_32 : decode b_Bm_hash4 32 = .ok (.invokevirtual 191, 3) := by decide +kernel
theorem d_Bm_hash4_35 : decode b_Bm_hash4 35 = .ok (.lreturn, 1) := by decide +kernel
set_option maxHeartbeats 8000000 in
set_option maxRecDepth 100000 in
theorem c_Bm_hash4 (l : Launch) (dC : Nat → ClassId) (dI : Nat → Nat → Nat) (cJ cI : ClassId) (sz : Nat) (m0 : Nat) (z0 z1 z2 z3 : Int32) (z7 z8 z9 : Int64) (z10 : Int32) (a0 a1 a2 a3 a4 a5 a6 a7 a8 a9 b0 b1 oc b2 b3 b4 b5 : Nat) (P Q G : Nat) (bf sc st : Nat → Int32) (tf lf : Nat → Int64) (x1 x2 x3 x4 : Int64) (hPQ : P = 2 * Q + 1) (h61F : P < 2 ^ 61) (hQ3 : 3 ≤ Q) : Met l y_Bm_hash4 w_Bm_hash4 ({ frames := 4, cells := 0, slots := 0, locals := 97 }) (va_Pc [.ref m0, .long x1, .long x2, .long x3, .long x4] (fun U => U.heap.size = sz ∧ va_P (dC, dI) classes (mo_ws m0 z0 z1 z2 z3 (lN P) (lN Q) (lN G) z7 z8 z9 z10 a0 a1 a2 a3 a4 a5 a6 a7 a8 a9 b0 b1 oc b2 b3 b4 b5 ++ (iw_ws a7 cI 256 bf ++ (iw_ws a8 cI 64 sc ++ (iw_ws a9 cI 8 st ++ (iw_ws b0 cI 8 kS ++ (iw_ws b1 cI 64 kR ++ (jw_ws a2 cJ 4 tf ++ (jw_ws a3 cJ 16 lf)))))))) U.heap ∧ va_K (dC, dI) classes [(cJ, .long), (cI, .int)] U ∧ va_D (fun _ => True) (mo_ws m0 z0 z1 z2 z3 (lN P) (lN Q) (lN G) z7 z8 z9 z10 a0 a1 a2 a3 a4 a5 a6 a7 a8 a9 b0 b1 oc b2 b3 b4 b5 ++ (iw_ws a7 cI 256 bf ++ (iw_ws a8 cI 64 sc ++ (iw_ws a9 cI 8 st ++ (iw_ws b0 cI 8 kS ++ (iw_ws b1 cI 64 kR ++ (jw_ws a2 cJ 4 tf ++ (jw_ws a3 cJ 16 lf)))))))))) (va_Ql (fun (r : Int64) (u9 : DU × (Nat → Int64)) => r = lN (hsh Q [lN P, lN G, x1, x2, x3, x4])) (fun u9 t => va_P (dC, dI) classes (mo_ws m0 z0 z1 z2 z3 (lN P) (lN Q) (lN G) z7 z8 z9 z10 a0 a1 a2 a3 a4 a5 a6 a7 a8 a9 b0 b1 u9.1.2.2.2.2 b2 b3 b4 b5 ++ (iw_ws a7 cI 256 u9.1.1 ++ (iw_ws a8 cI 64 u9.1.2.1 ++ (iw_ws a9 cI 8 u9.1.2.2.1 ++ (iw_ws b0 cI 8 kS ++ (iw_ws b1 cI 64 kR ++ (jw_ws a2 cJ 4 u9.1.2.2.2.1 ++ (jw_ws a3 cJ 16 u9.2)))))))) t.heap ∧ va_K (dC, dI) classes [(cJ, .long), (cI, .int)] t ∧ va_D (va_A (mo_ws m0 z0 z1 z2 z3 (lN P) (lN Q) (lN G) z7 z8 z9 z10 a0 a1 a2 a3 a4 a5 a6 a7 a8 a9 b0 b1 oc b2 b3 b4 b5 ++ (iw_ws a7 cI 256 bf ++ (iw_ws a8 cI 64 sc ++ (iw_ws a9 cI 8 st ++ (iw_ws b0 cI 8 kS ++ (iw_ws b1 cI 64 kR ++ (jw_ws a2 cJ 4 tf ++ (jw_ws a3 cJ 16 lf)))))))) sz) (mo_ws m0 z0 z1 z2 z3 (lN P) (lN Q) (lN G) z7 z8 z9 z10 a0 a1 a2 a3 a4 a5 a6 a7 a8 a9 b0 b1 u9.1.2.2.2.2 b2 b3 b4 b5 ++ (iw_ws a7 cI 256 u9.1.1 ++ (iw_ws a8 cI 64 u9.1.2.1 ++ (iw_ws a9 cI 8 u9.1.2.2.1 ++ (iw_ws b0 cI 8 kS ++ (iw_ws b1 cI 64 kR ++ (jw_ws a2 cJ 4 u9.1.2.2.2.1 ++ (jw_ws a3 cJ 16 u9.2))))))))) (va_A (mo_ws m0 z0 z1 z2 z3 (lN P) (lN Q) (lN G) z7 z8 z9 z10 a0 a1 a2 a3 a4 a5 a6 a7 a8 a9 b0 b1 oc b2 b3 b4 b5 ++ (iw_ws a7 cI 256 bf ++ (iw_ws a8 cI 64 sc ++ (iw_ws a9 cI 8 st ++ (iw_ws b0 cI 8 kS ++ (iw_ws b1 cI 64 kR ++ (jw_ws a2 cJ 4 tf ++ (jw_ws a3 cJ 16 lf)))))))) sz)) 0 0 (va_A (mo_ws m0 z0 z1 z2 z3 (lN P) (lN Q) (lN G) z7 z8 z9 z10 a0 a1 a2 a3 a4 a5 a6 a7 a8 a9 b0 b1 oc b2 b3 b4 b5 ++ (iw_ws a7 cI 256 bf ++ (iw_ws a8 cI 64 sc ++ (iw_ws a9 cI 8 st ++ (iw_ws b0 cI 8 kS ++ (iw_ws b1 cI 64 kR ++ (jw_ws a2 cJ 4 tf ++ (jw_ws a3 cJ 16 lf)))))))) sz) := by
  refine Met.ofW (cc := b_Bm_hash4) (maxL := 9) (ret := (some .long)) (by decide) rfl ?_
  intro p e s m args below meth c s₁ Bd hml hv
  obtain ⟨rfl, hsz, hP, hK, hD0⟩ := hv
  have hx := Bd.exec
  have hb := Bd.bytes
  have hr := Bd.returns
  have hts := atoms_spec (ws := w_Bm_hash4) Bd.pre
  have hown : s.vm.findClass "BallotBoardModel" = some m.cls := findClass_of_methodNamed Bd.named
  have hlocks := Bd.notSynchronized
  subst hsz
  have hD := hD0.self (sz := s.heap.size)
  generalize hAe : va_A (mo_ws m0 z0 z1 z2 z3 (lN P) (lN Q) (lN G) z7 z8 z9 z10 a0 a1 a2 a3 a4 a5 a6 a7 a8 a9 b0 b1 oc b2 b3 b4 b5 ++ (iw_ws a7 cI 256 bf ++ (iw_ws a8 cI 64 sc ++ (iw_ws a9 cI 8 st ++ (iw_ws b0 cI 8 kS ++ (iw_ws b1 cI 64 kR ++ (jw_ws a2 cJ 4 tf ++ (jw_ws a3 cJ 16 lf)))))))) s.heap.size = A at hD ⊢
  have hA : ∀ q : Nat, s.heap.size ≤ q → A q := fun q h => by rw [← hAe]; exact Or.inr h
  have hS : va_S A s.heap s.heap [] := va_S.rf
  have hl := lv_entry ([.ref m0, .long x1, .long x2, .long x3, .long x4]) (n := 9) (Nat.le_of_ble_eq_true rfl)
  rw [lg_entry_eq]
  generalize (lg_sl ([.ref m0, .long x1, .long x2, .long x3, .long x4]) ++ List.replicate (9 - (lg_sl ([.ref m0, .long x1, .long x2, .long x3, .long x4])).length) Slot.unset).toArray = ls at hl ⊢
  have hl : lv_has ls 9 [(0, .ref m0), (1, .long x1), (3, .long x2), (5, .long x3), (7, .long x4)] := hl
  refine lv_aload_n hx hb d_Bm_hash4_0 rfl (lv_at hl 0 rfl) ?_
  refine va_get (D := (dC, dI)) (ci := 8) (v := .ref a3) (C := "BallotBoardModel") (T := F_Bm) (N := 28) hx hb hts (fun w9 h9 => List.mem_cons_of_mem _ (i_Bm w9 h9)) hown hK hP 0 rfl rfl 14 (by decide) (hts _ (List.mem_cons_of_mem _ gk_933)) (fun _ h9 => h9) rfl d_Bm_hash4_1 ?_
  refine lv_iconst (v := 0) hx hb d_Bm_hash4_4 (by decide) ?_
  refine lv_lload_n hx hb d_Bm_hash4_5 rfl (lv_at hl 1 rfl) ?_
  refine va_last hx hb hK hP hD hS 7 0 rfl rfl (vp_lit rfl) d_Bm_hash4_6 (fun H locs hP hD hS => ?_)
  have hfe : vp_updL lf (0 : Int32).toNatClampNeg x1 = vp_updL lf 0 x1 := rfl
  have hP : va_P (dC, dI) classes [(m0, .inr (8, [.int z0, .int z1, .int z2, .int z3, .long (lN P), .long (lN Q), .long (lN G), .long z7, .long z8, .long z9, .int z10, .ref a0, .ref a1, .ref a2, .ref a3, .ref a4, .ref a5, .ref a6, .ref a7, .ref a8, .ref a9, .ref b0, .ref b1, .int (nI oc), .ref b2, .ref b3, .ref b4, .ref b5])), (a7, .inl (cI, 256, .inl bf)), (a8, .inl (cI, 64, .inl sc)), (a9, .inl (cI, 8, .inl st)), (b0, .inl (cI, 8, .inl kS)), (b1, .inl (cI, 64, .inl kR)), (a2, .inl (cJ, 4, .inr (.inl tf))), (a3, .inl (cJ, 16, .inr (.inl (vp_updL lf (0 : Int32).toNatClampNeg x1))))] H := hP
  have hD : va_D A [(m0, .inr (8, [.int z0, .int z1, .int z2, .int z3, .long (lN P), .long (lN Q), .long (lN G), .long z7, .long z8, .long z9, .int z10, .ref a0, .ref a1, .ref a2, .ref a3, .ref a4, .ref a5, .ref a6, .ref a7, .ref a8, .ref a9, .ref b0, .ref b1, .int (nI oc), .ref b2, .ref b3, .ref b4, .ref b5])), (a7, .inl (cI, 256, .inl bf)), (a8, .inl (cI, 64, .inl sc)), (a9, .inl (cI, 8, .inl st)), (b0, .inl (cI, 8, .inl kS)), (b1, .inl (cI, 64, .inl kR)), (a2, .inl (cJ, 4, .inr (.inl tf))), (a3, .inl (cJ, 16, .inr (.inl (vp_updL lf (0 : Int32).toNatClampNeg x1))))] := hD
  rw [hfe] at hP hD
  refine lv_aload_n hx hb d_Bm_hash4_7 rfl (lv_at hl 0 rfl) ?_
  refine va_get (D := (dC, dI)) (ci := 8) (v := .ref a3) (C := "BallotBoardModel") (T := F_Bm) (N := 28) hx hb hts (fun w9 h9 => List.mem_cons_of_mem _ (i_Bm w9 h9)) hown hK hP 0 rfl rfl 14 (by decide) (hts _ (List.mem_cons_of_mem _ gk_933)) (fun _ h9 => h9) rfl d_Bm_hash4_8 ?_
  refine lv_iconst (v := 1) hx hb d_Bm_hash4_11 (by decide) ?_
  refine lv_lload_n hx hb d_Bm_hash4_12 rfl (lv_at hl 2 rfl) ?_
  refine va_last hx hb hK hP hD hS 7 0 rfl rfl (vp_lit rfl) d_Bm_hash4_13 (fun H locs hP hD hS => ?_)
  have hfe : vp_updL (vp_updL lf 0 x1) (1 : Int32).toNatClampNeg x2 = vp_updL (vp_updL lf 0 x1) 1 x2 := rfl
  have hP : va_P (dC, dI) classes [(m0, .inr (8, [.int z0, .int z1, .int z2, .int z3, .long (lN P), .long (lN Q), .long (lN G), .long z7, .long z8, .long z9, .int z10, .ref a0, .ref a1, .ref a2, .ref a3, .ref a4, .ref a5, .ref a6, .ref a7, .ref a8, .ref a9, .ref b0, .ref b1, .int (nI oc), .ref b2, .ref b3, .ref b4, .ref b5])), (a7, .inl (cI, 256, .inl bf)), (a8, .inl (cI, 64, .inl sc)), (a9, .inl (cI, 8, .inl st)), (b0, .inl (cI, 8, .inl kS)), (b1, .inl (cI, 64, .inl kR)), (a2, .inl (cJ, 4, .inr (.inl tf))), (a3, .inl (cJ, 16, .inr (.inl (vp_updL (vp_updL lf 0 x1) (1 : Int32).toNatClampNeg x2))))] H := hP
  have hD : va_D A [(m0, .inr (8, [.int z0, .int z1, .int z2, .int z3, .long (lN P), .long (lN Q), .long (lN G), .long z7, .long z8, .long z9, .int z10, .ref a0, .ref a1, .ref a2, .ref a3, .ref a4, .ref a5, .ref a6, .ref a7, .ref a8, .ref a9, .ref b0, .ref b1, .int (nI oc), .ref b2, .ref b3, .ref b4, .ref b5])), (a7, .inl (cI, 256, .inl bf)), (a8, .inl (cI, 64, .inl sc)), (a9, .inl (cI, 8, .inl st)), (b0, .inl (cI, 8, .inl kS)), (b1, .inl (cI, 64, .inl kR)), (a2, .inl (cJ, 4, .inr (.inl tf))), (a3, .inl (cJ, 16, .inr (.inl (vp_updL (vp_updL lf 0 x1) (1 : Int32).toNatClampNeg x2))))] := hD
  rw [hfe] at hP hD
  refine lv_aload_n hx hb d_Bm_hash4_14 rfl (lv_at hl 0 rfl) ?_
  refine va_get (D := (dC, dI)) (ci := 8) (v := .ref a3) (C := "BallotBoardModel") (T := F_Bm) (N := 28) hx hb hts (fun w9 h9 => List.mem_cons_of_mem _ (i_Bm w9 h9)) hown hK hP 0 rfl rfl 14 (by decide) (hts _ (List.mem_cons_of_mem _ gk_933)) (fun _ h9 => h9) rfl d_Bm_hash4_15 ?_
  refine lv_iconst (v := 2) hx hb d_Bm_hash4_18 (by decide) ?_
  refine lv_lload hx hb d_Bm_hash4_19 (lv_at hl 3 rfl) ?_
  refine va_last hx hb hK hP hD hS 7 0 rfl rfl (vp_lit rfl) d_Bm_hash4_21 (fun H locs hP hD hS => ?_)
  have hfe : vp_updL (vp_updL (vp_updL lf 0 x1) 1 x2) (2 : Int32).toNatClampNeg x3 = vp_updL (vp_updL (vp_updL lf 0 x1) 1 x2) 2 x3 := rfl
  have hP : va_P (dC, dI) classes [(m0, .inr (8, [.int z0, .int z1, .int z2, .int z3, .long (lN P), .long (lN Q), .long (lN G), .long z7, .long z8, .long z9, .int z10, .ref a0, .ref a1, .ref a2, .ref a3, .ref a4, .ref a5, .ref a6, .ref a7, .ref a8, .ref a9, .ref b0, .ref b1, .int (nI oc), .ref b2, .ref b3, .ref b4, .ref b5])), (a7, .inl (cI, 256, .inl bf)), (a8, .inl (cI, 64, .inl sc)), (a9, .inl (cI, 8, .inl st)), (b0, .inl (cI, 8, .inl kS)), (b1, .inl (cI, 64, .inl kR)), (a2, .inl (cJ, 4, .inr (.inl tf))), (a3, .inl (cJ, 16, .inr (.inl (vp_updL (vp_updL (vp_updL lf 0 x1) 1 x2) (2 : Int32).toNatClampNeg x3))))] H := hP
  have hD : va_D A [(m0, .inr (8, [.int z0, .int z1, .int z2, .int z3, .long (lN P), .long (lN Q), .long (lN G), .long z7, .long z8, .long z9, .int z10, .ref a0, .ref a1, .ref a2, .ref a3, .ref a4, .ref a5, .ref a6, .ref a7, .ref a8, .ref a9, .ref b0, .ref b1, .int (nI oc), .ref b2, .ref b3, .ref b4, .ref b5])), (a7, .inl (cI, 256, .inl bf)), (a8, .inl (cI, 64, .inl sc)), (a9, .inl (cI, 8, .inl st)), (b0, .inl (cI, 8, .inl kS)), (b1, .inl (cI, 64, .inl kR)), (a2, .inl (cJ, 4, .inr (.inl tf))), (a3, .inl (cJ, 16, .inr (.inl (vp_updL (vp_updL (vp_updL lf 0 x1) 1 x2) (2 : Int32).toNatClampNeg x3))))] := hD
  rw [hfe] at hP hD
  refine lv_aload_n hx hb d_Bm_hash4_22 rfl (lv_at hl 0 rfl) ?_
  refine va_get (D := (dC, dI)) (ci := 8) (v := .ref a3) (C := "BallotBoardModel") (T := F_Bm) (N := 28) hx hb hts (fun w9 h9 => List.mem_cons_of_mem _ (i_Bm w9 h9)) hown hK hP 0 rfl rfl 14 (by decide) (hts _ (List.mem_cons_of_mem _ gk_933)) (fun _ h9 => h9) rfl d_Bm_hash4_23 ?_
  refine lv_iconst (v := 3) hx hb d_Bm_hash4_26 (by decide) ?_
  refine lv_lload hx hb d_Bm_hash4_27 (lv_at hl 4 rfl) ?_
  refine va_last hx hb hK hP hD hS 7 0 rfl rfl (vp_lit rfl) d_Bm_hash4_29 (fun H locs hP hD hS => ?_)
  have hfe : vp_updL (vp_updL (vp_updL (vp_updL lf 0 x1) 1 x2) 2 x3) (3 : Int32).toNatClampNeg x4 = vp_updL (vp_updL (vp_updL (vp_updL lf 0 x1) 1 x2) 2 x3) 3 x4 := rfl
  have hP : va_P (dC, dI) classes [(m0, .inr (8, [.int z0, .int z1, .int z2, .int z3, .long (lN P), .long (lN Q), .long (lN G), .long z7, .long z8, .long z9, .int z10, .ref a0, .ref a1, .ref a2, .ref a3, .ref a4, .ref a5, .ref a6, .ref a7, .ref a8, .ref a9, .ref b0, .ref b1, .int (nI oc), .ref b2, .ref b3, .ref b4, .ref b5])), (a7, .inl (cI, 256, .inl bf)), (a8, .inl (cI, 64, .inl sc)), (a9, .inl (cI, 8, .inl st)), (b0, .inl (cI, 8, .inl kS)), (b1, .inl (cI, 64, .inl kR)), (a2, .inl (cJ, 4, .inr (.inl tf))), (a3, .inl (cJ, 16, .inr (.inl (vp_updL (vp_updL (vp_updL (vp_updL lf 0 x1) 1 x2) 2 x3) (3 : Int32).toNatClampNeg x4))))] H := hP
  have hD : va_D A [(m0, .inr (8, [.int z0, .int z1, .int z2, .int z3, .long (lN P), .long (lN Q), .long (lN G), .long z7, .long z8, .long z9, .int z10, .ref a0, .ref a1, .ref a2, .ref a3, .ref a4, .ref a5, .ref a6, .ref a7, .ref a8, .ref a9, .ref b0, .ref b1, .int (nI oc), .ref b2, .ref b3, .ref b4, .ref b5])), (a7, .inl (cI, 256, .inl bf)), (a8, .inl (cI, 64, .inl sc)), (a9, .inl (cI, 8, .inl st)), (b0, .inl (cI, 8, .inl kS)), (b1, .inl (cI, 64, .inl kR)), (a2, .inl (cJ, 4, .inr (.inl tf))), (a3, .inl (cJ, 16, .inr (.inl (vp_updL (vp_updL (vp_updL (vp_updL lf 0 x1) 1 x2) 2 x3) (3 : Int32).toNatClampNeg x4))))] := hD
  rw [hfe] at hP hD
  refine lv_aload_n hx hb d_Bm_hash4_30 rfl (lv_at hl 0 rfl) ?_
  refine lv_iconst (v := 4) hx hb d_Bm_hash4_31 (by decide) ?_
  have hPc := hP.sub (ws' := (mo_ws m0 z0 z1 z2 z3 (lN P) (lN Q) (lN G) z7 z8 z9 z10 a0 a1 a2 a3 a4 a5 a6 a7 a8 a9 b0 b1 oc b2 b3 b4 b5 ++ (iw_ws a7 cI 256 bf ++ (iw_ws a8 cI 64 sc ++ (iw_ws a9 cI 8 st ++ (iw_ws b0 cI 8 kS ++ (iw_ws b1 cI 64 kR ++ (jw_ws a2 cJ 4 tf ++ (jw_ws a3 cJ 16 (vp_updL (vp_updL (vp_updL (vp_updL lf 0 x1) 1 x2) 2 x3) 3 x4)))))))))) [0, 1, 2, 3, 4, 5, 6, 7] rfl
  have hDc := hD.sub (ws' := (mo_ws m0 z0 z1 z2 z3 (lN P) (lN Q) (lN G) z7 z8 z9 z10 a0 a1 a2 a3 a4 a5 a6 a7 a8 a9 b0 b1 oc b2 b3 b4 b5 ++ (iw_ws a7 cI 256 bf ++ (iw_ws a8 cI 64 sc ++ (iw_ws a9 cI 8 st ++ (iw_ws b0 cI 8 kS ++ (iw_ws b1 cI 64 kR ++ (jw_ws a2 cJ 4 tf ++ (jw_ws a3 cJ 16 (vp_updL (vp_updL (vp_updL (vp_updL lf 0 x1) 1 x2) 2 x3) 3 x4)))))))))) [0, 1, 2, 3, 4, 5, 6, 7] (by decide) rfl
  have hKc := hK.sub (tys' := [(cJ, .long), (cI, .int)]) [0, 1] rfl
  have hFc := va_free (wc := (mo_ws m0 z0 z1 z2 z3 (lN P) (lN Q) (lN G) z7 z8 z9 z10 a0 a1 a2 a3 a4 a5 a6 a7 a8 a9 b0 b1 oc b2 b3 b4 b5 ++ (iw_ws a7 cI 256 bf ++ (iw_ws a8 cI 64 sc ++ (iw_ws a9 cI 8 st ++ (iw_ws b0 cI 8 kS ++ (iw_ws b1 cI 64 kR ++ (jw_ws a2 cJ 4 tf ++ (jw_ws a3 cJ 16 (vp_updL (vp_updL (vp_updL (vp_updL lf 0 x1) 1 x2) 2 x3) 3 x4)))))))))) hD hS hA [0, 1, 2, 3, 4, 5, 6, 7] rfl
  refine va_calll (va_runV (As := [.int 4]) (rest := []) ⟨hx, hb, hml, hown, hts⟩ (c_Bm_hash_4 l dC dI cJ cI H.size m0 z0 z1 z2 z3 z7 z8 z9 z10 a0 a1 a2 a3 a4 a5 a6 a7 a8 a9 b0 b1 oc b2 b3 b4 b5 P Q G bf sc st tf (vp_updL (vp_updL (vp_updL (vp_updL lf 0 x1) 1 x2) 2 x3) 3 x4) ([lN P, lN G, x1, x2, x3, x4]) hPQ h61F hQ3 rfl) (cwV 1 hts (gw_V gk_1066 gk_1068 gp_35 gk_7 gk_1069) rfl rfl rfl (by decide +kernel) ⟨Nat.le_of_ble_eq_true rfl, Nat.le_of_ble_eq_true rfl⟩) ⟨fun a U g mk q => by obtain ⟨q0, q1, qP, qK, qD⟩ := q; exact ⟨q0, q1, qP, va_K.moved (u := U) (U := U.calling g mk a) (Vm.Alike.refl U.vm) qK, qD⟩, va_recv hK hP (ci := 8) (q0 := 0) rfl rfl, fun U hU hW => ⟨rfl, by rw [hU], by rw [hU]; exact hPc, va_K.moved hW.alike hKc, hDc.weaken (fun _ _ _ _ => trivial)⟩⟩ rfl rfl hl.1 rfl (lv_room (Nat.le_of_ble_eq_true rfl)) d_Bm_hash4_32 ⟨Nat.le_of_ble_eq_true rfl, Nat.le_of_ble_eq_true rfl⟩) hS (fun q _ h => hFc q h) hFc (fun r_2 u9 t9 H1 locs ht hvm hw hB hz1 hk1 hS => ?_)
  obtain ⟨gbk_1, gsk_1, gtk_1, gfk_1, gok_1⟩ := u9
  have hw : r_2 = lN (hsh Q ([lN P, lN G, x1, x2, x3, x4])) := hw
  subst hw
  obtain ⟨hP1, hK1, hD1⟩ := hB
  rw [ht] at hP1
  obtain ⟨hP, hD⟩ := va_join (wr := []) (w1 := [(m0, .inr (8, [.int z0, .int z1, .int z2, .int z3, .long (lN P), .long (lN Q), .long (lN G), .long z7, .long z8, .long z9, .int z10, .ref a0, .ref a1, .ref a2, .ref a3, .ref a4, .ref a5, .ref a6, .ref a7, .ref a8, .ref a9, .ref b0, .ref b1, .int (nI gok_1), .ref b2, .ref b3, .ref b4, .ref b5])), (a7, .inl (cI, 256, .inl gbk_1)), (a8, .inl (cI, 64, .inl gsk_1)), (a9, .inl (cI, 8, .inl gtk_1)), (b0, .inl (cI, 8, .inl kS)), (b1, .inl (cI, 64, .inl kR)), (a2, .inl (cJ, 4, .inr (.inl gfk_1))), (a3, .inl (cJ, 16, .inr (.inl (vp_updL (vp_updL (vp_updL (vp_updL lf 0 x1) 1 x2) 2 x3) 3 x4))))]) hP hD [0, 1, 2, 3, 4, 5, 6, 7] [] rfl rfl (by decide) (by decide) hk1 hFc hP1 hD1
  have hP := hP.sub (ws' := [(m0, .inr (8, [.int z0, .int z1, .int z2, .int z3, .long (lN P), .long (lN Q), .long (lN G), .long z7, .long z8, .long z9, .int z10, .ref a0, .ref a1, .ref a2, .ref a3, .ref a4, .ref a5, .ref a6, .ref a7, .ref a8, .ref a9, .ref b0, .ref b1, .int (nI gok_1), .ref b2, .ref b3, .ref b4, .ref b5])), (a7, .inl (cI, 256, .inl gbk_1)), (a8, .inl (cI, 64, .inl gsk_1)), (a9, .inl (cI, 8, .inl gtk_1)), (b0, .inl (cI, 8, .inl kS)), (b1, .inl (cI, 64, .inl kR)), (a2, .inl (cJ, 4, .inr (.inl gfk_1))), (a3, .inl (cJ, 16, .inr (.inl (vp_updL (vp_updL (vp_updL (vp_updL lf 0 x1) 1 x2) 2 x3) 3 x4))))]) [0, 1, 2, 3, 4, 5, 6, 7] rfl
  have hD := hD.sub (ws' := [(m0, .inr (8, [.int z0, .int z1, .int z2, .int z3, .long (lN P), .long (lN Q), .long (lN G), .long z7, .long z8, .long z9, .int z10, .ref a0, .ref a1, .ref a2, .ref a3, .ref a4, .ref a5, .ref a6, .ref a7, .ref a8, .ref a9, .ref b0, .ref b1, .int (nI gok_1), .ref b2, .ref b3, .ref b4, .ref b5])), (a7, .inl (cI, 256, .inl gbk_1)), (a8, .inl (cI, 64, .inl gsk_1)), (a9, .inl (cI, 8, .inl gtk_1)), (b0, .inl (cI, 8, .inl kS)), (b1, .inl (cI, 64, .inl kR)), (a2, .inl (cJ, 4, .inr (.inl gfk_1))), (a3, .inl (cJ, 16, .inr (.inl (vp_updL (vp_updL (vp_updL (vp_updL lf 0 x1) 1 x2) 2 x3) 3 x4))))]) [0, 1, 2, 3, 4, 5, 6, 7] (by decide) rfl
  generalize H1 = H at hP hS ⊢
  exact W.lret (v := (lN (hsh Q ([lN P, lN G, x1, x2, x3, x4])))) hx hb hr (fun t ht9 hW => ⟨⟨_, ((gbk_1, gsk_1, gtk_1, gfk_1, gok_1), vp_updL (vp_updL (vp_updL (vp_updL lf 0 x1) 1 x2) 2 x3) 3 x4), rfl, rfl, by rw [ht9]; exact hP, va_K.moved hW.alike hK, hD⟩, hS.F ht9⟩) hS.2.2 d_Bm_hash4_35
abbrev b_Bm_hash6 : ByteArray := prog_10_method_21_code
abbrev y_Bm_hash6 : MethodName := ⟨"BallotBoardModel", "hash6", "(JJJJJJ)J"⟩
abbrev w_Bm_hash6 : List Cond := .code y_Bm_hash6 b_Bm_hash6 13 (some .long) :: gw
theorem d_Bm_hash6_0 : decode b_Bm_hash6 0 = .ok (.aload_n 0, 1) := by decide +kernel
theorem d_Bm_hash6_1 : decode b_Bm_hash6 1 = .ok (.getfield 19, 3) := by decide +kernel
theorem d_Bm_hash6_4 : decode b_Bm_hash6 4 = .ok (.iconst 4, 1) := by decide +kernel
theorem d_Bm_hash6_5 : decode b_Bm_hash6 5 = .ok (.lload 9, 2) := by decide +kernel
theorem d_Bm_hash6_7 : decode b_Bm_hash6 7 = .ok (.lastore, 1) := by decide +kernel
theorem d_Bm_hash6_8 : decode b_Bm_hash6 8 = .ok (.aload_n 0, 1) := by decide +kernel
theorem d_Bm_hash6_9 : decode b_Bm_hash6 9 = .ok (.getfield 19, 3) := by decide +kernel
theorem d_Bm_hash6_12 : decode b_Bm_hash6 12 = .ok (.iconst 5, 1) := by decide +kernel
theorem d_Bm_hash6_13 : decode b_Bm_hash6 13 = .ok (.lload 11, 2) := by decide +kernel
theorem d_Bm_hash6_15 : decode b_Bm_hash6 15 = .ok (.lastore, 1) := by decide +kernel
theorem d_Bm_hash6_16 : decode b_Bm_hash6 16 = .ok (.aload_n 0, 1) := by decide +kernel
theorem d_Bm_hash6_17 : decode b_Bm_hash6 17 = .ok (.getfield 19, 3) := by decide +kernel
theorem d_Bm_hash6_20 : decode b_Bm_hash6 20 = .ok (.iconst 0, 1) := by decide +kernel
theorem d_Bm_hash6_21 : decode b_Bm_hash6 21 = .ok (.lload_n 1, 1) := by decide +kernel
theorem d_Bm_hash6_22 : decode b_Bm_hash6 22 = .ok (.lastore, 1) := by decide +kernel
theorem d_Bm_hash6_23 : decode b_Bm_hash6 23 = .ok (.aload_n 0, 1) := by decide +kernel
theorem d_Bm_hash6_24 : decode b_Bm_hash6 24 = .ok (.getfield 19, 3) := by decide +kernel
theorem d_Bm_hash6_27 : decode b_Bm_hash6 27 = .ok (.iconst 1, 1) := by decide +kernel
theorem d_Bm_hash6_28 : decode b_Bm_hash6 28 = .ok (.lload_n 3, 1) := by decide +kernel
theorem d_Bm_hash6_29 : decode b_Bm_hash6 29 = .ok (.lastore, 1) := by decide +kernel
theorem d_Bm_hash6_30 : decode b_Bm_hash6 30 = .ok (.aload_n 0, 1) := by decide +kernel
theorem d_Bm_hash6_31 : decode b_Bm_hash6 31 = .ok (.getfield 19, 3) := by decide +kernel
theorem d_Bm_hash6_34 : decode b_Bm_hash6 34 = .ok (.iconst 2, 1) := by decide +kernel
theorem d_Bm_hash6_35 : decode b_Bm_hash6 35 = .ok (.lload 5, 2) := by decide +kernel
theorem d_Bm_hash6_37 : decode b_Bm_hash6 37 = .ok (.lastore, 1) := by decide +kernel
theorem d_Bm_hash6_38 : decode b_Bm_hash6 38 = .ok (.aload_n 0, 1) := by decide +kernel
theorem d_Bm_hash6_39 : decode b_Bm_hash6 39 = .ok (.getfield 19, 3) := by decide +kernel
theorem d_Bm_hash6_42 : decode b_Bm_hash6 42 = .ok (.iconst 3, 1) := by decide +kernel
theorem d_Bm_hash6_43 : decode b_Bm_hash6 43 = .ok (.lload 7, 2) := by decide +kernel
theorem d_Bm_hash6_45 : decode b_Bm_hash6 45 = .ok (.lastore, 1) := by decide +kernel
theorem d_Bm_hash6_46 : decode b_Bm_hash6 46 = .ok (.aload_n 0, 1) := by decide +kernel
theorem d_Bm_hash6_47 : decode b_Bm_hash6 47 = .ok (.bipush 6, 2) := by decide +kernel
theorem d_Bm_hash6_49 : decode b_Bm_hash6 49 = .ok (.invokevirtual 191, 3) := by decide +kernel
theorem d_Bm_hash6_52 : decode b_Bm_hash6 52 = .ok (.lreturn, 1) := by decide +kernel
set_option maxHeartbeats 8000000 in
set_option maxRecDepth 100000 in
theorem c_Bm_hash6 (l : Launch) (dC : Nat → ClassId) (dI : Nat → Nat → Nat) (cJ cI : ClassId) (sz : Nat) (m0 : Nat) (z0 z1 z2 z3 : Int32) (z7 z8 z9 : Int64) (z10 : Int32) (a0 a1 a2 a3 a4 a5 a6 a7 a8 a9 b0 b1 oc b2 b3 b4 b5 : Nat) (P Q G : Nat) (bf sc st : Nat → Int32) (tf lf : Nat → Int64) (x1 x2 x3 x4 x5 x6 : Int64) (hPQ : P = 2 * Q + 1) (h61F : P < 2 ^ 61) (hQ3 : 3 ≤ Q) : Met l y_Bm_hash6 w_Bm_hash6 ({ frames := 4, cells := 0, slots := 0, locals := 97 }) (va_Pc [.ref m0, .long x1, .long x2, .long x3, .long x4, .long x5, .long x6] (fun U => U.heap.size = sz ∧ va_P (dC, dI) classes (mo_ws m0 z0 z1 z2 z3 (lN P) (lN Q) (lN G) z7 z8 z9 z10 a0 a1 a2 a3 a4 a5 a6 a7 a8 a9 b0 b1 oc b2 b3 b4 b5 ++ (iw_ws a7 cI 256 bf ++ (iw_ws a8 cI 64 sc ++ (iw_ws a9 cI 8 st ++ (iw_ws b0 cI 8 kS ++ (iw_ws b1 cI 64 kR ++ (jw_ws a2 cJ 4 tf ++ (jw_ws a3 cJ 16 lf)))))))) U.heap ∧ va_K (dC, dI) classes [(cJ, .long), (cI, .int)] U ∧ va_D (fun _ => True) (mo_ws m0 z0 z1 z2 z3 (lN P) (lN Q) (lN G) z7 z8 z9 z10 a0 a1 a2 a3 a4 a5 a6 a7 a8 a9 b0 b1 oc b2 b3 b4 b5 ++ (iw_ws a7 cI 256 bf ++ (iw_ws a8 cI 64 sc ++ (iw_ws a9 cI 8 st ++ (iw_ws b0 cI 8 kS ++ (iw_ws b1 cI 64 kR ++ (jw_ws a2 cJ 4 tf ++ (jw_ws a3 cJ 16 lf)))))))))) (va_Ql (fun (r : Int64) (u9 : DU × (Nat → Int64)) => r = lN (hsh Q [lN P, lN G, x1, x2, x3, x4, x5, x6])) (fun u9 t => va_P (dC, dI) classes (mo_ws m0 z0 z1 z2 z3 (lN P) (lN Q) (lN G) z7 z8 z9 z10 a0 a1 a2 a3 a4 a5 a6 a7 a8 a9 b0 b1 u9.1.2.2.2.2 b2 b3 b4 b5 ++ (iw_ws a7 cI 256 u9.1.1 ++ (iw_ws a8 cI 64 u9.1.2.1 ++ (iw_ws a9 cI 8 u9.1.2.2.1 ++ (iw_ws b0 cI 8 kS ++ (iw_ws b1 cI 64 kR ++ (jw_ws a2 cJ 4 u9.1.2.2.2.1 ++ (jw_ws a3 cJ 16 u9.2)))))))) t.heap ∧ va_K (dC, dI) classes [(cJ, .long), (cI, .int)] t ∧ va_D (va_A (mo_ws m0 z0 z1 z2 z3 (lN P) (lN Q) (lN G) z7 z8 z9 z10 a0 a1 a2 a3 a4 a5 a6 a7 a8 a9 b0 b1 oc b2 b3 b4 b5 ++ (iw_ws a7 cI 256 bf ++ (iw_ws a8 cI 64 sc ++ (iw_ws a9 cI 8 st ++ (iw_ws b0 cI 8 kS ++ (iw_ws b1 cI 64 kR ++ (jw_ws a2 cJ 4 tf ++ (jw_ws a3 cJ 16 lf)))))))) sz) (mo_ws m0 z0 z1 z2 z3 (lN P) (lN Q) (lN G) z7 z8 z9 z10 a0 a1 a2 a3 a4 a5 a6 a7 a8 a9 b0 b1 u9.1.2.2.2.2 b2 b3 b4 b5 ++ (iw_ws a7 cI 256 u9.1.1 ++ (iw_ws a8 cI 64 u9.1.2.1 ++ (iw_ws a9 cI 8 u9.1.2.2.1 ++ (iw_ws b0 cI 8 kS ++ (iw_ws b1 cI 64 kR ++ (jw_ws a2 cJ 4 u9.1.2.2.2.1 ++ (jw_ws a3 cJ 16 u9.2))))))))) (va_A (mo_ws m0 z0 z1 z2 z3 (lN P) (lN Q) (lN G) z7 z8 z9 z10 a0 a1 a2 a3 a4 a5 a6 a7 a8 a9 b0 b1 oc b2 b3 b4 b5 ++ (iw_ws a7 cI 256 bf ++ (iw_ws a8 cI 64 sc ++ (iw_ws a9 cI 8 st ++ (iw_ws b0 cI 8 kS ++ (iw_ws b1 cI 64 kR ++ (jw_ws a2 cJ 4 tf ++ (jw_ws a3 cJ 16 lf)))))))) sz)) 0 0 (va_A (mo_ws m0 z0 z1 z2 z3 (lN P) (lN Q) (lN G) z7 z8 z9 z10 a0 a1 a2 a3 a4 a5 a6 a7 a8 a9 b0 b1 oc b2 b3 b4 b5 ++ (iw_ws a7 cI 256 bf ++ (iw_ws a8 cI 64 sc ++ (iw_ws a9 cI 8 st ++ (iw_ws b0 cI 8 kS ++ (iw_ws b1 cI 64 kR ++ (jw_ws a2 cJ 4 tf ++ (jw_ws a3 cJ 16 lf)))))))) sz) := by
  refine Met.ofW (cc := b_Bm_hash6) (maxL := 13) (ret := (some .long)) (by decide) rfl ?_
  intro p e s m args below meth c s₁ Bd hml hv
  obtain ⟨rfl, hsz, hP, hK, hD0⟩ := hv
  have hx := Bd.exec
  have hb := Bd.bytes
  have hr := Bd.returns
  have hts := atoms_spec (ws := w_Bm_hash6) Bd.pre
  have hown : s.vm.findClass "BallotBoardModel" = some m.cls := findClass_of_methodNamed Bd.named
  have hlocks := Bd.notSynchronized
  subst hsz
  have hD := hD0.self (sz := s.heap.size)
  generalize hAe : va_A (mo_ws m0 z0 z1 z2 z3 (lN P) (lN Q) (lN G) z7 z8 z9 z10 a0 a1 a2 a3 a4 a5 a6 a7 a8 a9 b0 b1 oc b2 b3 b4 b5 ++ (iw_ws a7 cI 256 bf ++ (iw_ws a8 cI 64 sc ++ (iw_ws a9 cI 8 st ++ (iw_ws b0 cI 8 kS ++ (iw_ws b1 cI 64 kR ++ (jw_ws a2 cJ 4 tf ++ (jw_ws a3 cJ 16 lf)))))))) s.heap.size = A at hD ⊢
  have hA : ∀ q : Nat, s.heap.size ≤ q → A q := fun q h => by rw [← hAe]; exact Or.inr h
  have hS : va_S A s.heap s.heap [] := va_S.rf
  have hl := lv_entry ([.ref m0, .long x1, .long x2, .long x3, .long x4, .long x5, .long x6]) (n := 13) (Nat.le_of_ble_eq_true rfl)
  rw [lg_entry_eq]
  generalize (lg_sl ([.ref m0, .long x1, .long x2, .long x3, .long x4, .long x5, .long x6]) ++ List.replicate (13 - (lg_sl ([.ref m0, .long x1, .long x2, .long x3, .long x4, .long x5, .long x6])).length) Slot.unset).toArray = ls at hl ⊢
  have hl : lv_has ls 13 [(0, .ref m0), (1, .long x1), (3, .long x2), (5, .long x3), (7, .long x4), (9, .long x5), (11, .long x6)] := hl
  refine lv_aload_n hx hb d_Bm_hash6_0 rfl (lv_at hl 0 rfl) ?_
  refine va_get (D := (dC, dI)) (ci := 8) (v := .ref a3) (C := "BallotBoardModel") (T := F_Bm) (N := 28) hx hb hts (fun w9 h9 => List.mem_cons_of_mem _ (i_Bm w9 h9)) hown hK hP 0 rfl rfl 14 (by decide) (hts _ (List.mem_cons_of_mem _ gk_933)) (fun _ h9 => h9) rfl d_Bm_hash6_1 ?_
  refine lv_iconst (v := 4) hx hb d_Bm_hash6_4 (by decide) ?_
  refine lv_lload hx hb d_Bm_hash6_5 (lv_at hl 5 rfl) ?_
  refine va_last hx hb hK hP hD hS 7 0 rfl rfl (vp_lit rfl) d_Bm_hash6_7 (fun H locs hP hD hS => ?_)
  have hfe : vp_updL lf (4 : Int32).toNatClampNeg x5 = vp_updL lf 4 x5 := rfl
  have hP : va_P (dC, dI) classes [(m0, .inr (8, [.int z0, .int z1, .int z2, .int z3, .long (lN P), .long (lN Q), .long (lN G), .long z7, .long z8, .long z9, .int z10, .ref a0, .ref a1, .ref a2, .ref a3, .ref a4, .ref a5, .ref a6, .ref a7, .ref a8, .ref a9, .ref b0, .ref b1, .int (nI oc), .ref b2, .ref b3, .ref b4, .ref b5])), (a7, .inl (cI, 256, .inl bf)), (a8, .inl (cI, 64, .inl sc)), (a9, .inl (cI, 8, .inl st)), (b0, .inl (cI, 8, .inl kS)), (b1, .inl (cI, 64, .inl kR)), (a2, .inl (cJ, 4, .inr (.inl tf))), (a3, .inl (cJ, 16, .inr (.inl (vp_updL lf (4 : Int32).toNatClampNeg x5))))] H := hP
  have hD : va_D A [(m0, .inr (8, [.int z0, .int z1, .int z2, .int z3, .long (lN P), .long (lN Q), .long (lN G), .long z7, .long z8, .long z9, .int z10, .ref a0, .ref a1, .ref a2, .ref a3, .ref a4, .ref a5, .ref a6, .ref a7, .ref a8, .ref a9, .ref b0, .ref b1, .int (nI oc), .ref b2, .ref b3, .ref b4, .ref b5])), (a7, .inl (cI, 256, .inl bf)), (a8, .inl (cI, 64, .inl sc)), (a9, .inl (cI, 8, .inl st)), (b0, .inl (cI, 8, .inl kS)), (b1, .inl (cI, 64, .inl kR)), (a2, .inl (cJ, 4, .inr (.inl tf))), (a3, .inl (cJ, 16, .inr (.inl (vp_updL lf (4 : Int32).toNatClampNeg x5))))] := hD
  rw [hfe] at hP hD
  refine lv_aload_n hx hb d_Bm_hash6_8 rfl (lv_at hl 0 rfl) ?_
  refine va_get (D := (dC, dI)) (ci := 8) (v := .ref a3) (C := "BallotBoardModel") (T := F_Bm) (N := 28) hx hb hts (fun w9 h9 => List.mem_cons_of_mem _ (i_Bm w9 h9)) hown hK hP 0 rfl rfl 14 (by decide) (hts _ (List.mem_cons_of_mem _ gk_933)) (fun _ h9 => h9) rfl d_Bm_hash6_9 ?_
  refine lv_iconst (v := 5) hx hb d_Bm_hash6_12 (by decide) ?_
  refine lv_lload hx hb d_Bm_hash6_13 (lv_at hl 6 rfl) ?_
  refine va_last hx hb hK hP hD hS 7 0 rfl rfl (vp_lit rfl) d_Bm_hash6_15 (fun H locs hP hD hS => ?_)
  have hfe : vp_updL (vp_updL lf 4 x5) (5 : Int32).toNatClampNeg x6 = vp_updL (vp_updL lf 4 x5) 5 x6 := rfl
  have hP : va_P (dC, dI) classes [(m0, .inr (8, [.int z0, .int z1, .int z2, .int z3, .long (lN P), .long (lN Q), .long (lN G), .long z7, .long z8, .long z9, .int z10, .ref a0, .ref a1, .ref a2, .ref a3, .ref a4, .ref a5, .ref a6, .ref a7, .ref a8, .ref a9, .ref b0, .ref b1, .int (nI oc), .ref b2, .ref b3, .ref b4, .ref b5])), (a7, .inl (cI, 256, .inl bf)), (a8, .inl (cI, 64, .inl sc)), (a9, .inl (cI, 8, .inl st)), (b0, .inl (cI, 8, .inl kS)), (b1, .inl (cI, 64, .inl kR)), (a2, .inl (cJ, 4, .inr (.inl tf))), (a3, .inl (cJ, 16, .inr (.inl (vp_updL (vp_updL lf 4 x5) (5 : Int32).toNatClampNeg x6))))] H := hP
  have hD : va_D A [(m0, .inr (8, [.int z0, .int z1, .int z2, .int z3, .long (lN P), .long (lN Q), .long (lN G), .long z7, .long z8, .long z9, .int z10, .ref a0, .ref a1, .ref a2, .ref a3, .ref a4, .ref a5, .ref a6, .ref a7, .ref a8, .ref a9, .ref b0, .ref b1, .int (nI oc), .ref b2, .ref b3, .ref b4, .ref b5])), (a7, .inl (cI, 256, .inl bf)), (a8, .inl (cI, 64, .inl sc)), (a9, .inl (cI, 8, .inl st)), (b0, .inl (cI, 8, .inl kS)), (b1, .inl (cI, 64, .inl kR)), (a2, .inl (cJ, 4, .inr (.inl tf))), (a3, .inl (cJ, 16, .inr (.inl (vp_updL (vp_updL lf 4 x5) (5 : Int32).toNatClampNeg x6))))] := hD
  rw [hfe] at hP hD
  refine lv_aload_n hx hb d_Bm_hash6_16 rfl (lv_at hl 0 rfl) ?_
  refine va_get (D := (dC, dI)) (ci := 8) (v := .ref a3) (C := "BallotBoardModel") (T := F_Bm) (N := 28) hx hb hts (fun w9 h9 => List.mem_cons_of_mem _ (i_Bm w9 h9)) hown hK hP 0 rfl rfl 14 (by decide) (hts _ (List.mem_cons_of_mem _ gk_933)) (fun _ h9 => h9) rfl d_Bm_hash6_17 ?_
  refine lv_iconst (v := 0) hx hb d_Bm_hash6_20 (by decide) ?_
  refine lv_lload_n hx hb d_Bm_hash6_21 rfl (lv_at hl 1 rfl) ?_
  refine va_last hx hb hK hP hD hS 7 0 rfl rfl (vp_lit rfl) d_Bm_hash6_22 (fun H locs hP hD hS => ?_)
  have hfe : vp_updL (vp_updL (vp_updL lf 4 x5) 5 x6) (0 : Int32).toNatClampNeg x1 = vp_updL (vp_updL (vp_updL lf 4 x5) 5 x6) 0 x1 := rfl
  have hP : va_P (dC, dI) classes [(m0, .inr (8, [.int z0, .int z1, .int z2, .int z3, .long (lN P), .long (lN Q), .long (lN G), .long z7, .long z8, .long z9, .int z10, .ref a0, .ref a1, .ref a2, .ref a3, .ref a4, .ref a5, .ref a6, .ref a7, .ref a8, .ref a9, .ref b0, .ref b1, .int (nI oc), .ref b2, .ref b3, .ref b4, .ref b5])), (a7, .inl (cI, 256, .inl bf)), (a8, .inl (cI, 64, .inl sc)), (a9, .inl (cI, 8, .inl st)), (b0, .inl (cI, 8, .inl kS)), (b1, .inl (cI, 64, .inl kR)), (a2, .inl (cJ, 4, .inr (.inl tf))), (a3, .inl (cJ, 16, .inr (.inl (vp_updL (vp_updL (vp_updL lf 4 x5) 5 x6) (0 : Int32).toNatClampNeg x1))))] H := hP
  have hD : va_D A [(m0, .inr (8, [.int z0, .int z1, .int z2, .int z3, .long (lN P), .long (lN Q), .long (lN G), .long z7, .long z8, .long z9, .int z10, .ref a0, .ref a1, .ref a2, .ref a3, .ref a4, .ref a5, .ref a6, .ref a7, .ref a8, .ref a9, .ref b0, .ref b1, .int (nI oc), .ref b2, .ref b3, .ref b4, .ref b5])), (a7, .inl (cI, 256, .inl bf)), (a8, .inl (cI, 64, .inl sc)), (a9, .inl (cI, 8, .inl st)), (b0, .inl (cI, 8, .inl kS)), (b1, .inl (cI, 64, .inl kR)), (a2, .inl (cJ, 4, .inr (.inl tf))), (a3, .inl (cJ, 16, .inr (.inl (vp_updL (vp_updL (vp_updL lf 4 x5) 5 x6) (0 : Int32).toNatClampNeg x1))))] := hD
  rw [hfe] at hP hD
  refine lv_aload_n hx hb d_Bm_hash6_23 rfl (lv_at hl 0 rfl) ?_
  refine va_get (D := (dC, dI)) (ci := 8) (v := .ref a3) (C := "BallotBoardModel") (T := F_Bm) (N := 28) hx hb hts (fun w9 h9 => List.mem_cons_of_mem _ (i_Bm w9 h9)) hown hK hP 0 rfl rfl 14 (by decide) (hts _ (List.mem_cons_of_mem _ gk_933)) (fun _ h9 => h9) rfl d_Bm_hash6_24 ?_
  refine lv_iconst (v := 1) hx hb d_Bm_hash6_27 (by decide) ?_
  refine lv_lload_n hx hb d_Bm_hash6_28 rfl (lv_at hl 2 rfl) ?_
  refine va_last hx hb hK hP hD hS 7 0 rfl rfl (vp_lit rfl) d_Bm_hash6_29 (fun H locs hP hD hS => ?_)
  have hfe : vp_updL (vp_updL (vp_updL (vp_updL lf 4 x5) 5 x6) 0 x1) (1 : Int32).toNatClampNeg x2 = vp_updL (vp_updL (vp_updL (vp_updL lf 4 x5) 5 x6) 0 x1) 1 x2 := rfl
  have hP : va_P (dC, dI) classes [(m0, .inr (8, [.int z0, .int z1, .int z2, .int z3, .long (lN P), .long (lN Q), .long (lN G), .long z7, .long z8, .long z9, .int z10, .ref a0, .ref a1, .ref a2, .ref a3, .ref a4, .ref a5, .ref a6, .ref a7, .ref a8, .ref a9, .ref b0, .ref b1, .int (nI oc), .ref b2, .ref b3, .ref b4, .ref b5])), (a7, .inl (cI, 256, .inl bf)), (a8, .inl (cI, 64, .inl sc)), (a9, .inl (cI, 8, .inl st)), (b0, .inl (cI, 8, .inl kS)), (b1, .inl (cI, 64, .inl kR)), (a2, .inl (cJ, 4, .inr (.inl tf))), (a3, .inl (cJ, 16, .inr (.inl (vp_updL (vp_updL (vp_updL (vp_updL lf 4 x5) 5 x6) 0 x1) (1 : Int32).toNatClampNeg x2))))] H := hP
  have hD : va_D A [(m0, .inr (8, [.int z0, .int z1, .int z2, .int z3, .long (lN P), .long (lN Q), .long (lN G), .long z7, .long z8, .long z9, .int z10, .ref a0, .ref a1, .ref a2, .ref a3, .ref a4, .ref a5, .ref a6, .ref a7, .ref a8, .ref a9, .ref b0, .ref b1, .int (nI oc), .ref b2, .ref b3, .ref b4, .ref b5])), (a7, .inl (cI, 256, .inl bf)), (a8, .inl (cI, 64, .inl sc)), (a9, .inl (cI, 8, .inl st)), (b0, .inl (cI, 8, .inl kS)), (b1, .inl (cI, 64, .inl kR)), (a2, .inl (cJ, 4, .inr (.inl tf))), (a3, .inl (cJ, 16, .inr (.inl (vp_updL (vp_updL (vp_updL (vp_updL lf 4 x5) 5 x6) 0 x1) (1 : Int32).toNatClampNeg x2))))] := hD
  rw [hfe] at hP hD
  refine lv_aload_n hx hb d_Bm_hash6_30 rfl (lv_at hl 0 rfl) ?_
  refine va_get (D := (dC, dI)) (ci := 8) (v := .ref a3) (C := "BallotBoardModel") (T := F_Bm) (N := 28) hx hb hts (fun w9 h9 => List.mem_cons_of_mem _ (i_Bm w9 h9)) hown hK hP 0 rfl rfl 14 (by decide) (hts _ (List.mem_cons_of_mem _ gk_933)) (fun _ h9 => h9) rfl d_Bm_hash6_31 ?_
  refine lv_iconst (v := 2) hx hb d_Bm_hash6_34 (by decide) ?_
  refine lv_lload hx hb d_Bm_hash6_35 (lv_at hl 3 rfl) ?_
  refine va_last hx hb hK hP hD hS 7 0 rfl rfl (vp_lit rfl) d_Bm_hash6_37 (fun H locs hP hD hS => ?_)
  have hfe : vp_updL (vp_updL (vp_updL (vp_updL (vp_updL lf 4 x5) 5 x6) 0 x1) 1 x2) (2 : Int32).toNatClampNeg x3 = vp_updL (vp_updL (vp_updL (vp_updL (vp_updL lf 4 x5) 5 x6) 0 x1) 1 x2) 2 x3 := rfl
  have hP : va_P (dC, dI) classes [(m0, .inr (8, [.int z0, .int z1, .int z2, .int z3, .long (lN P), .long (lN Q), .long (lN G), .long z7, .long z8, .long z9, .int z10, .ref a0, .ref a1, .ref a2, .ref a3, .ref a4, .ref a5, .ref a6, .ref a7, .ref a8, .ref a9, .ref b0, .ref b1, .int (nI oc), .ref b2, .ref b3, .ref b4, .ref b5])), (a7, .inl (cI, 256, .inl bf)), (a8, .inl (cI, 64, .inl sc)), (a9, .inl (cI, 8, .inl st)), (b0, .inl (cI, 8, .inl kS)), (b1, .inl (cI, 64, .inl kR)), (a2, .inl (cJ, 4, .inr (.inl tf))), (a3, .inl (cJ, 16, .inr (.inl (vp_updL (vp_updL (vp_updL (vp_updL (vp_updL lf 4 x5) 5 x6) 0 x1) 1 x2) (2 : Int32).toNatClampNeg x3))))] H := hP
  have hD : va_D A [(m0, .inr (8, [.int z0, .int z1, .int z2, .int z3, .long (lN P), .long (lN Q), .long (lN G), .long z7, .long z8, .long z9, .int z10, .ref a0, .ref a1, .ref a2, .ref a3, .ref a4, .ref a5, .ref a6, .ref a7, .ref a8, .ref a9, .ref b0, .ref b1, .int (nI oc), .ref b2, .ref b3, .ref b4, .ref b5])), (a7, .inl (cI, 256, .inl bf)), (a8, .inl (cI, 64, .inl sc)), (a9, .inl (cI, 8, .inl st)), (b0, .inl (cI, 8, .inl kS)), (b1, .inl (cI, 64, .inl kR)), (a2, .inl (cJ, 4, .inr (.inl tf))), (a3, .inl (cJ, 16, .inr (.inl (vp_updL (vp_updL (vp_updL (vp_updL (vp_updL lf 4 x5) 5 x6) 0 x1) 1 x2) (2 : Int32).toNatClampNeg x3))))] := hD
  rw [hfe] at hP hD
  refine lv_aload_n hx hb d_Bm_hash6_38 rfl (lv_at hl 0 rfl) ?_
  refine va_get (D := (dC, dI)) (ci := 8) (v := .ref a3) (C := "BallotBoardModel") (T := F_Bm) (N := 28) hx hb hts (fun w9 h9 => List.mem_cons_of_mem _ (i_Bm w9 h9)) hown hK hP 0 rfl rfl 14 (by decide) (hts _ (List.mem_cons_of_mem _ gk_933)) (fun _ h9 => h9) rfl d_Bm_hash6_39 ?_
  refine lv_iconst (v := 3) hx hb d_Bm_hash6_42 (by decide) ?_
  refine lv_lload hx hb d_Bm_hash6_43 (lv_at hl 4 rfl) ?_
  refine va_last hx hb hK hP hD hS 7 0 rfl rfl (vp_lit rfl) d_Bm_hash6_45 (fun H locs hP hD hS => ?_)
  have hfe : vp_updL (vp_updL (vp_updL (vp_updL (vp_updL (vp_updL lf 4 x5) 5 x6) 0 x1) 1 x2) 2 x3) (3 : Int32).toNatClampNeg x4 = vp_updL (vp_updL (vp_updL (vp_updL (vp_updL (vp_updL lf 4 x5) 5 x6) 0 x1) 1 x2) 2 x3) 3 x4 := rfl
  have hP : va_P (dC, dI) classes [(m0, .inr (8, [.int z0, .int z1, .int z2, .int z3, .long (lN P), .long (lN Q), .long (lN G), .long z7, .long z8, .long z9, .int z10, .ref a0, .ref a1, .ref a2, .ref a3, .ref a4, .ref a5, .ref a6, .ref a7, .ref a8, .ref a9, .ref b0, .ref b1, .int (nI oc), .ref b2, .ref b3, .ref b4, .ref b5])), (a7, .inl (cI, 256, .inl bf)), (a8, .inl (cI, 64, .inl sc)), (a9, .inl (cI, 8, .inl st)), (b0, .inl (cI, 8, .inl kS)), (b1, .inl (cI, 64, .inl kR)), (a2, .inl (cJ, 4, .inr (.inl tf))), (a3, .inl (cJ, 16, .inr (.inl (vp_updL (vp_updL (vp_updL (vp_updL (vp_updL (vp_updL lf 4 x5) 5 x6) 0 x1) 1 x2) 2 x3) (3 : Int32).toNatClampNeg x4))))] H := hP
  have hD : va_D A [(m0, .inr (8, [.int z0, .int z1, .int z2, .int z3, .long (lN P), .long (lN Q), .long (lN G), .long z7, .long z8, .long z9, .int z10, .ref a0, .ref a1, .ref a2, .ref a3, .ref a4, .ref a5, .ref a6, .ref a7, .ref a8, .ref a9, .ref b0, .ref b1, .int (nI oc), .ref b2, .ref b3, .ref b4, .ref b5])), (a7, .inl (cI, 256, .inl bf)), (a8, .inl (cI, 64, .inl sc)), (a9, .inl (cI, 8, .inl st)), (b0, .inl (cI, 8, .inl kS)), (b1, .inl (cI, 64, .inl kR)), (a2, .inl (cJ, 4, .inr (.inl tf))), (a3, .inl (cJ, 16, .inr (.inl (vp_updL (vp_updL (vp_updL (vp_updL (vp_updL (vp_updL lf 4 x5) 5 x6) 0 x1) 1 x2) 2 x3) (3 : Int32).toNatClampNeg x4))))] := hD
  rw [hfe] at hP hD
  refine lv_aload_n hx hb d_Bm_hash6_46 rfl (lv_at hl 0 rfl) ?_
  refine lv_bipush (v := 6) hx hb d_Bm_hash6_47 (by decide) ?_
  have hPc := hP.sub (ws' := (mo_ws m0 z0 z1 z2 z3 (lN P) (lN Q) (lN G) z7 z8 z9 z10 a0 a1 a2 a3 a4 a5 a6 a7 a8 a9 b0 b1 oc b2 b3 b4 b5 ++ (iw_ws a7 cI 256 bf ++ (iw_ws a8 cI 64 sc ++ (iw_ws a9 cI 8 st ++ (iw_ws b0 cI 8 kS ++ (iw_ws b1 cI 64 kR ++ (jw_ws a2 cJ 4 tf ++ (jw_ws a3 cJ 16 (vp_updL (vp_updL (vp_updL (vp_updL (vp_updL (vp_updL lf 4 x5) 5 x6) 0 x1) 1 x2) 2 x3) 3 x4)))))))))) [0, 1, 2, 3, 4, 5, 6, 7] rfl
  have hDc := hD.sub (ws' := (mo_ws m0 z0 z1 z2 z3 (lN P) (lN Q) (lN G) z7 z8 z9 z10 a0 a1 a2 a3 a4 a5 a6 a7 a8 a9 b0 b1 oc b2 b3 b4 b5 ++ (iw_ws a7 cI 256 bf ++ (iw_ws a8 cI 64 sc ++ (iw_ws a9 cI 8 st ++ (iw_ws b0 cI 8 kS ++ (iw_ws b1 cI 64 kR ++ (jw_ws a2 cJ 4 tf ++ (jw_ws a3 cJ 16 (vp_updL (vp_updL (vp_updL (vp_updL (vp_updL (vp_updL lf 4 x5) 5 x6) 0 x1) 1 x2) 2 x3) 3 x4)))))))))) [0, 1, 2, 3, 4, 5, 6, 7] (by decide) rfl
  have hKc := hK.sub (tys' := [(cJ, .long), (cI, .int)]) [0, 1] rfl
  have hFc := va_free (wc := (mo_ws m0 z0 z1 z2 z3 (lN P) (lN Q) (lN G) z7 z8 z9 z10 a0 a1 a2 a3 a4 a5 a6 a7 a8 a9 b0 b1 oc b2 b3 b4 b5 ++ (iw_ws a7 cI 256 bf ++ (iw_ws a8 cI 64 sc ++ (iw_ws a9 cI 8 st ++ (iw_ws b0 cI 8 kS ++ (iw_ws b1 cI 64 kR ++ (jw_ws a2 cJ 4 tf ++ (jw_ws a3 cJ 16 (vp_updL (vp_updL (vp_updL (vp_updL (vp_updL (vp_updL lf 4 x5) 5 x6) 0 x1) 1 x2) 2 x3) 3 x4)))))))))) hD hS hA [0, 1, 2, 3, 4, 5, 6, 7] rfl
  refine va_calll (va_runV (As := [.int 6]) (rest := []) ⟨hx, hb, hml, hown, hts⟩ (c_Bm_hash_6 l dC dI cJ cI H.size m0 z0 z1 z2 z3 z7 z8 z9 z10 a0 a1 a2 a3 a4 a5 a6 a7 a8 a9 b0 b1 oc b2 b3 b4 b5 P Q G bf sc st tf (vp_updL (vp_updL (vp_updL (vp_updL (vp_updL (vp_updL lf 4 x5) 5 x6) 0 x1) 1 x2) 2 x3) 3 x4) ([lN P, lN G, x1, x2, x3, x4, x5, x6]) hPQ h61F hQ3 rfl) (cwV 1 hts (gw_V gk_1066 gk_1068 gp_35 gk_7 gk_1069) rfl rfl rfl (by decide +kernel) ⟨Nat.le_of_ble_eq_true rfl, Nat.le_of_ble_eq_true rfl⟩) ⟨fun a U g mk q => by obtain ⟨q0, q1, qP, qK, qD⟩ := q; exact ⟨q0, q1, qP, va_K.moved (u := U) (U := U.calling g mk a) (Vm.Alike.refl U.vm) qK, qD⟩, va_recv hK hP (ci := 8) (q0 := 0) rfl rfl, fun U hU hW => ⟨rfl, by rw [hU], by rw [hU]; exact hPc, va_K.moved hW.alike hKc, hDc.weaken (fun _ _ _ _ => trivial)⟩⟩ rfl rfl hl.1 rfl (lv_room (Nat.le_of_ble_eq_true rfl)) d_Bm_hash6_49 ⟨Nat.le_of_ble_eq_true rfl, Nat.le_of_ble_eq_true rfl⟩) hS (fun q _ h => hFc q h) hFc (fun r_2 u9 t9 H1 locs ht hvm hw hB hz1 hk1 hS => ?_)
  obtain ⟨gbk_1, gsk_1, gtk_1, gfk_1, gok_1⟩ := u9
  have hw : r_2 = lN (hsh Q ([lN P, lN G, x1, x2, x3, x4, x5, x6])) := hw
  subst hw
  obtain ⟨hP1, hK1, hD1⟩ := hB
  rw [ht] at hP1
  obtain ⟨hP, hD⟩ := va_join (wr := []) (w1 := [(m0, .inr (8, [.int z0, .int z1, .int z2, .int z3, .long (lN P), .long (lN Q), .long (lN G), .long z7, .long z8, .long z9, .int z10, .ref a0, .ref a1, .ref a2, .ref a3, .ref a4, .ref a5, .ref a6, .ref a7, .ref a8, .ref a9, .ref b0, .ref b1, .int (nI gok_1), .ref b2, .ref b3, .ref b4, .ref b5])), (a7, .inl (cI, 256, .inl gbk_1)), (a8, .inl (cI, 64, .inl gsk_1)), (a9, .inl (cI, 8, .inl gtk_1)), (b0, .inl (cI, 8, .inl kS)), (b1, .inl (cI, 64, .inl kR)), (a2, .inl (cJ, 4, .inr (.inl gfk_1))), (a3, .inl (cJ, 16, .inr (.inl (vp_updL (vp_updL (vp_updL (vp_updL (vp_updL (vp_updL lf 4 x5) 5 x6) 0 x1) 1 x2) 2 x3) 3 x4))))]) hP hD [0, 1, 2, 3, 4, 5, 6, 7] [] rfl rfl (by decide) (by decide) hk1 hFc hP1 hD1
  have hP := hP.sub (ws' := [(m0, .inr (8, [.int z0, .int z1, .int z2, .int z3, .long (lN P), .long (lN Q), .long (lN G), .long z7, .long z8, .long z9, .int z10, .ref a0, .ref a1, .ref a2, .ref a3, .ref a4, .ref a5, .ref a6, .ref a7, .ref a8, .ref a9, .ref b0, .ref b1, .int (nI gok_1), .ref b2, .ref b3, .ref b4, .ref b5])), (a7, .inl (cI, 256, .inl gbk_1)), (a8, .inl (cI, 64, .inl gsk_1)), (a9, .inl (cI, 8, .inl gtk_1)), (b0, .inl (cI, 8, .inl kS)), (b1, .inl (cI, 64, .inl kR)), (a2, .inl (cJ, 4, .inr (.inl gfk_1))), (a3, .inl (cJ, 16, .inr (.inl (vp_updL (vp_updL (vp_updL (vp_updL (vp_updL (vp_updL lf 4 x5) 5 x6) 0 x1) 1 x2) 2 x3) 3 x4))))]) [0, 1, 2, 3, 4, 5, 6, 7] rfl
  have hD := hD.sub (ws' := [(m0, .inr (8, [.int z0, .int z1, .int z2, .int z3, .long (lN P), .long (lN Q), .long (lN G), .long z7, .long z8, .long z9, .int z10, .ref a0, .ref a1, .ref a2, .ref a3, .ref a4, .ref a5, .ref a6, .ref a7, .ref a8, .ref a9, .ref b0, .ref b1, .int (nI gok_1), .ref b2, .ref b3, .ref b4, .ref b5])), (a7, .inl (cI, 256, .inl gbk_1)), (a8, .inl (cI, 64, .inl gsk_1)), (a9, .inl (cI, 8, .inl gtk_1)), (b0, .inl (cI, 8, .inl kS)), (b1, .inl (cI, 64, .inl kR)), (a2, .inl (cJ, 4, .inr (.inl gfk_1))), (a3, .inl (cJ, 16, .inr (.inl (vp_updL (vp_updL (vp_updL (vp_updL (vp_updL (vp_updL lf 4 x5) 5 x6) 0 x1) 1 x2) 2 x3) 3 x4))))]) [0, 1, 2, 3, 4, 5, 6, 7] (by decide) rfl
  generalize H1 = H at hP hS ⊢
  exact W.lret (v := (lN (hsh Q ([lN P, lN G, x1, x2, x3, x4, x5, x6])))) hx hb hr (fun t ht9 hW => ⟨⟨_, ((gbk_1, gsk_1, gtk_1, gfk_1, gok_1), vp_updL (vp_updL (vp_updL (vp_updL (vp_updL (vp_updL lf 4 x5) 5 x6) 0 x1) 1 x2) 2 x3) 3 x4), rfl, rfl, by rw [ht9]; exact hP, va_K.moved hW.alike hK, hD⟩, hS.F ht9⟩) hS.2.2 d_Bm_hash6_52
abbrev b_Bm_hash8 : ByteArray := prog_10_method_22_code
abbrev y_Bm_hash8 : MethodName := ⟨"BallotBoardModel", "hash8", "(JJJJJJJ)J"⟩
abbrev w_Bm_hash8 : List Cond := .code y_Bm_hash8 b_Bm_hash8 15 (some .long) :: gw
theorem d_Bm_hash8_0 : decode b_Bm_hash8 0 = .ok (.aload_n 0, 1) := by decide +kernel
theorem d_Bm_hash8_1 : decode b_Bm_hash8 1 = .ok (.getfield 19, 3) := by decide +kernel
theorem d_Bm_hash8_4 : decode b_Bm_hash8 4 = .ok (.iconst 0, 1) := by decide +kernel
theorem d_Bm_hash8_5 : decode b_Bm_hash8 5 = .ok (.ldc2_w 159, 3) := by decide +kernel
theorem d_Bm_hash8_8 : decode b_Bm_hash8 8 = .ok (.lastore, 1) := by decide +kernel
theorem d_Bm_hash8_9 : decode b_Bm_hash8 9 = .ok (.aload_n 0, 1) := by decide +kernel
theorem d_Bm_hash8_10 : decode b_Bm_hash8 10 = .ok (.getfield 19, 3) := by decide +kernel
theorem d_Bm_hash8_13 : decode b_Bm_hash8 13 = .ok (.iconst 1, 1) := by decide +kernel
theorem d_Bm_hash8_14 : decode b_Bm_hash8 14 = .ok (.lload_n 1, 1) := by decide +kernel
theorem d_Bm_hash8_15 : decode b_Bm_hash8 15 = .ok (.lastore, 1) := by decide +kernel
theorem d_Bm_hash8_16 : decode b_Bm_hash8 16 = .ok (.aload_n 0, 1) := by decide +kernel
theorem d_Bm_hash8_17 : decode b_Bm_hash8 17 = .ok (.getfield 19, 3) := by decide +kernel
theorem d_Bm_hash8_20 : decode b_Bm_hash8 20 = .ok (.iconst 2, 1) := by decide +kernel
theorem d_Bm_hash8_21 : decode b_Bm_hash8 21 = .ok (.lload_n 3, 1) := by decide +kernel
theorem d_Bm_hash8_22 : decode b_Bm_hash8 22 = .ok (.lastore, 1) := by decide +kernel
theorem d_Bm_hash8_23 : decode b_Bm_hash8 23 = .ok (.aload_n 0, 1) := by decide +kernel
theorem d_Bm_hash8_24 : decode b_Bm_hash8 24 = .ok (.getfield 19, 3) := by decide +kernel
theorem d_Bm_hash8_27 : decode b_Bm_hash8 27 = .ok (.iconst 3, 1) := by decide +kernel
theorem d_Bm_hash8_28 : decode b_Bm_hash8 28 = .ok (.lload 5, 2) := by decide +kernel
theorem d_Bm_hash8_30 : decode b_Bm_hash8 30 = .ok (.lastore, 1) := by decide +kernel
theorem d_Bm_hash8_31 : decode b_Bm_hash8 31 = .ok (.aload_n 0, 1) := by decide +kernel
theorem d_Bm_hash8_32 : decode b_Bm_hash8 32 = .ok (.getfield 19, 3) := by decide +kernel
theorem d_Bm_hash8_35 : decode b_Bm_hash8 35 = .ok (.iconst 4, 1) := by decide +kernel
theorem d_Bm_hash8_36 : decode b_Bm_hash8 36 = .ok (.lload 7, 2) := by decide +kernel
theorem d_Bm_hash8_38 : decode b_Bm_hash8 38 = .ok (.lastore, 1) := by decide +kernel
theorem d_Bm_hash8_39 : decode b_Bm_hash8 39 = .ok (.aload_n 0, 1) := by decide +kernel
theorem d_Bm_hash8_40 : decode b_Bm_hash8 40 = .ok (.getfield 19, 3) := by decide +kernel
theorem d_Bm_hash8_43 : decode b_Bm_hash8 43 = .ok (.iconst 5, 1) := by decide +kernel
theorem d_Bm_hash8_44 : decode b_Bm_hash8 44 = .ok (.lload 9, 2) := by decide +kernel
theorem d_Bm_hash8_46 : decode b_Bm_hash8 46 = .ok (.lastore, 1) := by decide +kernel
theorem d_Bm_hash8_47 : decode b_Bm_hash8 47 = .ok (.aload_n 0, 1) := by decide +kernel
theorem d_Bm_hash8_48 : decode b_Bm_hash8 48 = .ok (.getfield 19, 3) := by decide +kernel
theorem d_Bm_hash8_51 : decode b_Bm_hash8 51 = .ok (.bipush 6, 2) := by decide +kernel
theorem d_Bm_hash8_53 : decode b_Bm_hash8 53 = .ok (.lload 11, 2) := by decide +kernel
theorem d_Bm_hash8_55 : decode b_Bm_hash8 55 = .ok (.lastore, 1) := by decide +kernel
theorem d_Bm_hash8_56 : decode b_Bm_hash8 56 = .ok (.aload_n 0, 1) := by decide +kernel
theorem d_Bm_hash8_57 : decode b_Bm_hash8 57 = .ok (.getfield 19, 3) := by decide +kernel
theorem d_Bm_hash8_60 : decode b_Bm_hash8 60 = .ok (.bipush 7, 2) := by decide +kernel
theorem d_Bm_hash8_62 : decode b_Bm_hash8 62 = .ok (.lload 13, 2) := by decide +kernel
theorem d_Bm_hash8_64 : decode b_Bm_hash8 64 = .ok (.lastore, 1) := by decide +kernel
theorem d_Bm_hash8_65 : decode b_Bm_hash8 65 = .ok (.aload_n 0, 1) := by decide +kernel
theorem d_Bm_hash8_66 : decode b_Bm_hash8 66 = .ok (.bipush 8, 2) := by decide +kernel
theorem d_Bm_hash8_68 : decode b_Bm_hash8 68 = .ok (.invokevirtual 191, 3) := by decide +kernel
theorem d_Bm_hash8_71 : decode b_Bm_hash8 71 = .ok (.lreturn, 1) := by decide +kernel
set_option maxHeartbeats 8000000 in
set_option maxRecDepth 100000 in
theorem c_Bm_hash8 (l : Launch) (dC : Nat → ClassId) (dI : Nat → Nat → Nat) (cJ cI : ClassId) (sz : Nat) (m0 : Nat) (z0 z1 z2 z3 : Int32) (z7 z8 z9 : Int64) (z10 : Int32) (a0 a1 a2 a3 a4 a5 a6 a7 a8 a9 b0 b1 oc b2 b3 b4 b5 : Nat) (P Q G : Nat) (bf sc st : Nat → Int32) (tf lf : Nat → Int64) (x1 x2 x3 x4 x5 x6 x7 : Int64) (hPQ : P = 2 * Q + 1) (h61F : P < 2 ^ 61) (hQ3 : 3 ≤ Q) : Met l y_Bm_hash8 w_Bm_hash8 ({ frames := 4, cells := 0, slots := 0, locals := 97 }) (va_Pc [.ref m0, .long x1, .long x2, .long x3, .long x4, .long x5, .long x6, .long x7] (fun U => U.heap.size = sz ∧ va_P (dC, dI) classes (mo_ws m0 z0 z1 z2 z3 (lN P) (lN Q) (lN G) z7 z8 z9 z10 a0 a1 a2 a3 a4 a5 a6 a7 a8 a9 b0 b1 oc b2 b3 b4 b5 ++ (iw_ws a7 cI 256 bf ++ (iw_ws a8 cI 64 sc ++ (iw_ws a9 cI 8 st ++ (iw_ws b0 cI 8 kS ++ (iw_ws b1 cI 64 kR ++ (jw_ws a2 cJ 4 tf ++ (jw_ws a3 cJ 16 lf)))))))) U.heap ∧ va_K (dC, dI) classes [(cJ, .long), (cI, .int)] U ∧ va_D (fun _ => True) (mo_ws m0 z0 z1 z2 z3 (lN P) (lN Q) (lN G) z7 z8 z9 z10 a0 a1 a2 a3 a4 a5 a6 a7 a8 a9 b0 b1 oc b2 b3 b4 b5 ++ (iw_ws a7 cI 256 bf ++ (iw_ws a8 cI 64 sc ++ (iw_ws a9 cI 8 st ++ (iw_ws b0 cI 8 kS ++ (iw_ws b1 cI 64 kR ++ (jw_ws a2 cJ 4 tf ++ (jw_ws a3 cJ 16 lf)))))))))) (va_Ql (fun (r : Int64) (u9 : DU × (Nat → Int64)) => r = lN (hsh Q [lN P, lN G, 2, x1, x2, x3, x4, x5, x6, x7])) (fun u9 t => va_P (dC, dI) classes (mo_ws m0 z0 z1 z2 z3 (lN P) (lN Q) (lN G) z7 z8 z9 z10 a0 a1 a2 a3 a4 a5 a6 a7 a8 a9 b0 b1 u9.1.2.2.2.2 b2 b3 b4 b5 ++ (iw_ws a7 cI 256 u9.1.1 ++ (iw_ws a8 cI 64 u9.1.2.1 ++ (iw_ws a9 cI 8 u9.1.2.2.1 ++ (iw_ws b0 cI 8 kS ++ (iw_ws b1 cI 64 kR ++ (jw_ws a2 cJ 4 u9.1.2.2.2.1 ++ (jw_ws a3 cJ 16 u9.2)))))))) t.heap ∧ va_K (dC, dI) classes [(cJ, .long), (cI, .int)] t ∧ va_D (va_A (mo_ws m0 z0 z1 z2 z3 (lN P) (lN Q) (lN G) z7 z8 z9 z10 a0 a1 a2 a3 a4 a5 a6 a7 a8 a9 b0 b1 oc b2 b3 b4 b5 ++ (iw_ws a7 cI 256 bf ++ (iw_ws a8 cI 64 sc ++ (iw_ws a9 cI 8 st ++ (iw_ws b0 cI 8 kS ++ (iw_ws b1 cI 64 kR ++ (jw_ws a2 cJ 4 tf ++ (jw_ws a3 cJ 16 lf)))))))) sz) (mo_ws m0 z0 z1 z2 z3 (lN P) (lN Q) (lN G) z7 z8 z9 z10 a0 a1 a2 a3 a4 a5 a6 a7 a8 a9 b0 b1 u9.1.2.2.2.2 b2 b3 b4 b5 ++ (iw_ws a7 cI 256 u9.1.1 ++ (iw_ws a8 cI 64 u9.1.2.1 ++ (iw_ws a9 cI 8 u9.1.2.2.1 ++ (iw_ws b0 cI 8 kS ++ (iw_ws b1 cI 64 kR ++ (jw_ws a2 cJ 4 u9.1.2.2.2.1 ++ (jw_ws a3 cJ 16 u9.2))))))))) (va_A (mo_ws m0 z0 z1 z2 z3 (lN P) (lN Q) (lN G) z7 z8 z9 z10 a0 a1 a2 a3 a4 a5 a6 a7 a8 a9 b0 b1 oc b2 b3 b4 b5 ++ (iw_ws a7 cI 256 bf ++ (iw_ws a8 cI 64 sc ++ (iw_ws a9 cI 8 st ++ (iw_ws b0 cI 8 kS ++ (iw_ws b1 cI 64 kR ++ (jw_ws a2 cJ 4 tf ++ (jw_ws a3 cJ 16 lf)))))))) sz)) 0 0 (va_A (mo_ws m0 z0 z1 z2 z3 (lN P) (lN Q) (lN G) z7 z8 z9 z10 a0 a1 a2 a3 a4 a5 a6 a7 a8 a9 b0 b1 oc b2 b3 b4 b5 ++ (iw_ws a7 cI 256 bf ++ (iw_ws a8 cI 64 sc ++ (iw_ws a9 cI 8 st ++ (iw_ws b0 cI 8 kS ++ (iw_ws b1 cI 64 kR ++ (jw_ws a2 cJ 4 tf ++ (jw_ws a3 cJ 16 lf)))))))) sz) := by
  refine Met.ofW (cc := b_Bm_hash8) (maxL := 15) (ret := (some .long)) (by decide) rfl ?_
  intro p e s m args below meth c s₁ Bd hml hv
  obtain ⟨rfl, hsz, hP, hK, hD0⟩ := hv
  have hx := Bd.exec
  have hb := Bd.bytes
  have hr := Bd.returns
  have hts := atoms_spec (ws := w_Bm_hash8) Bd.pre
  have hown : s.vm.findClass "BallotBoardModel" = some m.cls := findClass_of_methodNamed Bd.named
  have hlocks := Bd.notSynchronized
  subst hsz
  have hD := hD0.self (sz := s.heap.size)
  generalize hAe : va_A (mo_ws m0 z0 z1 z2 z3 (lN P) (lN Q) (lN G) z7 z8 z9 z10 a0 a1 a2 a3 a4 a5 a6 a7 a8 a9 b0 b1 oc b2 b3 b4 b5 ++ (iw_ws a7 cI 256 bf ++ (iw_ws a8 cI 64 sc ++ (iw_ws a9 cI 8 st ++ (iw_ws b0 cI 8 kS ++ (iw_ws b1 cI 64 kR ++ (jw_ws a2 cJ 4 tf ++ (jw_ws a3 cJ 16 lf)))))))) s.heap.size = A at hD ⊢
  have hA : ∀ q : Nat, s.heap.size ≤ q → A q := fun q h => by rw [← hAe]; exact Or.inr h
  have hS : va_S A s.heap s.heap [] := va_S.rf
  have hl := lv_entry ([.ref m0, .long x1, .long x2, .long x3, .long x4, .long x5, .long x6, .long x7]) (n := 15) (Nat.le_of_ble_eq_true rfl)
  rw [lg_entry_eq]
  generalize (lg_sl ([.ref m0, .long x1, .long x2, .long x3, .long x4, .long x5, .long x6, .long x7]) ++ List.replicate (15 - (lg_sl ([.ref m0, .long x1, .long x2, .long x3, .long x4, .long x5, .long x6, .long x7])).length) Slot.unset).toArray = ls at hl ⊢
  have hl : lv_has ls 15 [(0, .ref m0), (1, .long x1), (3, .long x2), (5, .long x3), (7, .long x4), (9, .long x5), (11, .long x6), (13, .long x7)] := hl
  refine lv_aload_n hx hb d_Bm_hash8_0 rfl (lv_at hl 0 rfl) ?_
  refine va_get (D := (dC, dI)) (ci := 8) (v := .ref a3) (C := "BallotBoardModel") (T := F_Bm) (N := 28) hx hb hts (fun w9 h9 => List.mem_cons_of_mem _ (i_Bm w9 h9)) hown hK hP 0 rfl rfl 14 (by decide) (hts _ (List.mem_cons_of_mem _ gk_933)) (fun _ h9 => h9) rfl d_Bm_hash8_1 ?_
  refine lv_iconst (v := 0) hx hb d_Bm_hash8_4 (by decide) ?_
  refine lv_ldc2 (v := 2) hx hb hown (hts _ (List.mem_cons_of_mem _ gk_1017)) d_Bm_hash8_5 ?_
  refine va_last hx hb hK hP hD hS 7 0 rfl rfl (vp_lit rfl) d_Bm_hash8_8 (fun H locs hP hD hS => ?_)
  have hfe : vp_updL lf (0 : Int32).toNatClampNeg 2 = vp_updL lf 0 2 := rfl
  have hP : va_P (dC, dI) classes [(m0, .inr (8, [.int z0, .int z1, .int z2, .int z3, .long (lN P), .long (lN Q), .long (lN G), .long z7, .long z8, .long z9, .int z10, .ref a0, .ref a1, .ref a2, .ref a3, .ref a4, .ref a5, .ref a6, .ref a7, .ref a8, .ref a9, .ref b0, .ref b1, .int (nI oc), .ref b2, .ref b3, .ref b4, .ref b5])), (a7, .inl (cI, 256, .inl bf)), (a8, .inl (cI, 64, .inl sc)), (a9, .inl (cI, 8, .inl st)), (b0, .inl (cI, 8, .inl kS)), (b1, .inl (cI, 64, .inl kR)), (a2, .inl (cJ, 4, .inr (.inl tf))), (a3, .inl (cJ, 16, .inr (.inl (vp_updL lf (0 : Int32).toNatClampNeg 2))))] H := hP
  have hD : va_D A [(m0, .inr (8, [.int z0, .int z1, .int z2, .int z3, .long (lN P), .long (lN Q), .long (lN G), .long z7, .long z8, .long z9, .int z10, .ref a0, .ref a1, .ref a2, .ref a3, .ref a4, .ref a5, .ref a6, .ref a7, .ref a8, .ref a9, .ref b0, .ref b1, .int (nI oc), .ref b2, .ref b3, .ref b4, .ref b5])), (a7, .inl (cI, 256, .inl bf)), (a8, .inl (cI, 64, .inl sc)), (a9, .inl (cI, 8, .inl st)), (b0, .inl (cI, 8, .inl kS)), (b1, .inl (cI, 64, .inl kR)), (a2, .inl (cJ, 4, .inr (.inl tf))), (a3, .inl (cJ, 16, .inr (.inl (vp_updL lf (0 : Int32).toNatClampNeg 2))))] := hD
  rw [hfe] at hP hD
  refine lv_aload_n hx hb d_Bm_hash8_9 rfl (lv_at hl 0 rfl) ?_
  refine va_get (D := (dC, dI)) (ci := 8) (v := .ref a3) (C := "BallotBoardModel") (T := F_Bm) (N := 28) hx hb hts (fun w9 h9 => List.mem_cons_of_mem _ (i_Bm w9 h9)) hown hK hP 0 rfl rfl 14 (by decide) (hts _ (List.mem_cons_of_mem _ gk_933)) (fun _ h9 => h9) rfl d_Bm_hash8_10 ?_
  refine lv_iconst (v := 1) hx hb d_Bm_hash8_13 (by decide) ?_
  refine lv_lload_n hx hb d_Bm_hash8_14 rfl (lv_at hl 1 rfl) ?_
  refine va_last hx hb hK hP hD hS 7 0 rfl rfl (vp_lit rfl) d_Bm_hash8_15 (fun H locs hP hD hS => ?_)
  have hfe : vp_updL (vp_updL lf 0 2) (1 : Int32).toNatClampNeg x1 = vp_updL (vp_updL lf 0 2) 1 x1 := rfl
  have hP : va_P (dC, dI) classes [(m0, .inr (8, [.int z0, .int z1, .int z2, .int z3, .long (lN P), .long (lN Q), .long (lN G), .long z7, .long z8, .long z9, .int z10, .ref a0, .ref a1, .ref a2, .ref a3, .ref a4, .ref a5, .ref a6, .ref a7, .ref a8, .ref a9, .ref b0, .ref b1, .int (nI oc), .ref b2, .ref b3, .ref b4, .ref b5])), (a7, .inl (cI, 256, .inl bf)), (a8, .inl (cI, 64, .inl sc)), (a9, .inl (cI, 8, .inl st)), (b0, .inl (cI, 8, .inl kS)), (b1, .inl (cI, 64, .inl kR)), (a2, .inl (cJ, 4, .inr (.inl tf))), (a3, .inl (cJ, 16, .inr (.inl (vp_updL (vp_updL lf 0 2) (1 : Int32).toNatClampNeg x1))))] H := hP
  have hD : va_D A [(m0, .inr (8, [.int z0, .int z1, .int z2, .int z3, .long (lN P), .long (lN Q), .long (lN G), .long z7, .long z8, .long z9, .int z10, .ref a0, .ref a1, .ref a2, .ref a3, .ref a4, .ref a5, .ref a6, .ref a7, .ref a8, .ref a9, .ref b0, .ref b1, .int (nI oc), .ref b2, .ref b3, .ref b4, .ref b5])), (a7, .inl (cI, 256, .inl bf)), (a8, .inl (cI, 64, .inl sc)), (a9, .inl (cI, 8, .inl st)), (b0, .inl (cI, 8, .inl kS)), (b1, .inl (cI, 64, .inl kR)), (a2, .inl (cJ, 4, .inr (.inl tf))), (a3, .inl (cJ, 16, .inr (.inl (vp_updL (vp_updL lf 0 2) (1 : Int32).toNatClampNeg x1))))] := hD
  rw [hfe] at hP hD
  refine lv_aload_n hx hb d_Bm_hash8_16 rfl (lv_at hl 0 rfl) ?_
  refine va_get (D := (dC, dI)) (ci := 8) (v := .ref a3) (C := "BallotBoardModel") (T := F_Bm) (N := 28) hx hb hts (fun w9 h9 => List.mem_cons_of_mem _ (i_Bm w9 h9)) hown hK hP 0 rfl rfl 14 (by decide) (hts _ (List.mem_cons_of_mem _ gk_933)) (fun _ h9 => h9) rfl d_Bm_hash8_17 ?_
  refine lv_iconst (v := 2) hx hb d_Bm_hash8_20 (by decide) ?_
  refine lv_lload_n hx hb d_Bm_hash8_21 rfl (lv_at hl 2 rfl) ?_
  refine va_last hx hb hK hP hD hS 7 0 rfl rfl (vp_lit rfl) d_Bm_hash8_22 (fun H locs hP hD hS => ?_)
  have hfe : vp_updL (vp_updL (vp_updL lf 0 2) 1 x1) (2 : Int32).toNatClampNeg x2 = vp_updL (vp_updL (vp_updL lf 0 2) 1 x1) 2 x2 := rfl
  have hP : va_P (dC, dI) classes [(m0, .inr (8, [.int z0, .int z1, .int z2, .int z3, .long (lN P), .long (lN Q), .long (lN G), .long z7, .long z8, .long z9, .int z10, .ref a0, .ref a1, .ref a2, .ref a3, .ref a4, .ref a5, .ref a6, .ref a7, .ref a8, .ref a9, .ref b0, .ref b1, .int (nI oc), .ref b2, .ref b3, .ref b4, .ref b5])), (a7, .inl (cI, 256, .inl bf)), (a8, .inl (cI, 64, .inl sc)), (a9, .inl (cI, 8, .inl st)), (b0, .inl (cI, 8, .inl kS)), (b1, .inl (cI, 64, .inl kR)), (a2, .inl (cJ, 4, .inr (.inl tf))), (a3, .inl (cJ, 16, .inr (.inl (vp_updL (vp_updL (vp_updL lf 0 2) 1 x1) (2 : Int32).toNatClampNeg x2))))] H := hP
  have hD : va_D A [(m0, .inr (8, [.int z0, .int z1, .int z2, .int z3, .long (lN P), .long (lN Q), .long (lN G), .long z7, .long z8, .long z9, .int z10, .ref a0, .ref a1, .ref a2, .ref a3, .ref a4, .ref a5, .ref a6, .ref a7, .ref a8, .ref a9, .ref b0, .ref b1, .int (nI oc), .ref b2, .ref b3, .ref b4, .ref b5])), (a7, .inl (cI, 256, .inl bf)), (a8, .inl (cI, 64, .inl sc)), (a9, .inl (cI, 8, .inl st)), (b0, .inl (cI, 8, .inl kS)), (b1, .inl (cI, 64, .inl kR)), (a2, .inl (cJ, 4, .inr (.inl tf))), (a3, .inl (cJ, 16, .inr (.inl (vp_updL (vp_updL (vp_updL lf 0 2) 1 x1) (2 : Int32).toNatClampNeg x2))))] := hD
  rw [hfe] at hP hD
  refine lv_aload_n hx hb d_Bm_hash8_23 rfl (lv_at hl 0 rfl) ?_
  refine va_get (D := (dC, dI)) (ci := 8) (v := .ref a3) (C := "BallotBoardModel") (T := F_Bm) (N := 28) hx hb hts (fun w9 h9 => List.mem_cons_of_mem _ (i_Bm w9 h9)) hown hK hP 0 rfl rfl 14 (by decide) (hts _ (List.mem_cons_of_mem _ gk_933)) (fun _ h9 => h9) rfl d_Bm_hash8_24 ?_
  refine lv_iconst (v := 3) hx hb d_Bm_hash8_27 (by decide) ?_
  refine lv_lload hx hb d_Bm_hash8_28 (lv_at hl 3 rfl) ?_
  refine va_last hx hb hK hP hD hS 7 0 rfl rfl (vp_lit rfl) d_Bm_hash8_30 (fun H locs hP hD hS => ?_)
  have hfe : vp_updL (vp_updL (vp_updL (vp_updL lf 0 2) 1 x1) 2 x2) (3 : Int32).toNatClampNeg x3 = vp_updL (vp_updL (vp_updL (vp_updL lf 0 2) 1 x1) 2 x2) 3 x3 := rfl
  have hP : va_P (dC, dI) classes [(m0, .inr (8, [.int z0, .int z1, .int z2, .int z3, .long (lN P), .long (lN Q), .long (lN G), .long z7, .long z8, .long z9, .int z10, .ref a0, .ref a1, .ref a2, .ref a3, .ref a4, .ref a5, .ref a6, .ref a7, .ref a8, .ref a9, .ref b0, .ref b1, .int (nI oc), .ref b2, .ref b3, .ref b4, .ref b5])), (a7, .inl (cI, 256, .inl bf)), (a8, .inl (cI, 64, .inl sc)), (a9, .inl (cI, 8, .inl st)), (b0, .inl (cI, 8, .inl kS)), (b1, .inl (cI, 64, .inl kR)), (a2, .inl (cJ, 4, .inr (.inl tf))), (a3, .inl (cJ, 16, .inr (.inl (vp_updL (vp_updL (vp_updL (vp_updL lf 0 2) 1 x1) 2 x2) (3 : Int32).toNatClampNeg x3))))] H := hP
  have hD : va_D A [(m0, .inr (8, [.int z0, .int z1, .int z2, .int z3, .long (lN P), .long (lN Q), .long (lN G), .long z7, .long z8, .long z9, .int z10, .ref a0, .ref a1, .ref a2, .ref a3, .ref a4, .ref a5, .ref a6, .ref a7, .ref a8, .ref a9, .ref b0, .ref b1, .int (nI oc), .ref b2, .ref b3, .ref b4, .ref b5])), (a7, .inl (cI, 256, .inl bf)), (a8, .inl (cI, 64, .inl sc)), (a9, .inl (cI, 8, .inl st)), (b0, .inl (cI, 8, .inl kS)), (b1, .inl (cI, 64, .inl kR)), (a2, .inl (cJ, 4, .inr (.inl tf))), (a3, .inl (cJ, 16, .inr (.inl (vp_updL (vp_updL (vp_updL (vp_updL lf 0 2) 1 x1) 2 x2) (3 : Int32).toNatClampNeg x3))))] := hD
  rw [hfe] at hP hD
  refine lv_aload_n hx hb d_Bm_hash8_31 rfl (lv_at hl 0 rfl) ?_
  refine va_get (D := (dC, dI)) (ci := 8) (v := .ref a3) (C := "BallotBoardModel") (T := F_Bm) (N := 28) hx hb hts (fun w9 h9 => List.mem_cons_of_mem _ (i_Bm w9 h9)) hown hK hP 0 rfl rfl 14 (by decide) (hts _ (List.mem_cons_of_mem _ gk_933)) (fun _ h9 => h9) rfl d_Bm_hash8_32 ?_
  refine lv_iconst (v := 4) hx hb d_Bm_hash8_35 (by decide) ?_
  refine lv_lload hx hb d_Bm_hash8_36 (lv_at hl 4 rfl) ?_
  refine va_last hx hb hK hP hD hS 7 0 rfl rfl (vp_lit rfl) d_Bm_hash8_38 (fun H locs hP hD hS => ?_)
  have hfe : vp_updL (vp_updL (vp_updL (vp_updL (vp_updL lf 0 2) 1 x1) 2 x2) 3 x3) (4 : Int32).toNatClampNeg x4 = vp_updL (vp_updL (vp_updL (vp_updL (vp_updL lf 0 2) 1 x1) 2 x2) 3 x3) 4 x4 := rfl
  have hP : va_P (dC, dI) classes [(m0, .inr (8, [.int z0, .int z1, .int z2, .int z3, .long (lN P), .long (lN Q), .long (lN G), .long z7, .long z8, .long z9, .int z10, .ref a0, .ref a1, .ref a2, .ref a3, .ref a4, .ref a5, .ref a6, .ref a7, .ref a8, .ref a9, .ref b0, .ref b1, .int (nI oc), .ref b2, .ref b3, .ref b4, .ref b5])), (a7, .inl (cI, 256, .inl bf)), (a8, .inl (cI, 64, .inl sc)), (a9, .inl (cI, 8, .inl st)), (b0, .inl (cI, 8, .inl kS)), (b1, .inl (cI, 64, .inl kR)), (a2, .inl (cJ, 4, .inr (.inl tf))), (a3, .inl (cJ, 16, .inr (.inl (vp_updL (vp_updL (vp_updL (vp_updL (vp_updL lf 0 2) 1 x1) 2 x2) 3 x3) (4 : Int32).toNatClampNeg x4))))] H := hP
  have hD : va_D A [(m0, .inr (8, [.int z0, .int z1, .int z2, .int z3, .long (lN P), .long (lN Q), .long (lN G), .long z7, .long z8, .long z9, .int z10, .ref a0, .ref a1, .ref a2, .ref a3, .ref a4, .ref a5, .ref a6, .ref a7, .ref a8, .ref a9, .ref b0, .ref b1, .int (nI oc), .ref b2, .ref b3, .ref b4, .ref b5])), (a7, .inl (cI, 256, .inl bf)), (a8, .inl (cI, 64, .inl sc)), (a9, .inl (cI, 8, .inl st)), (b0, .inl (cI, 8, .inl kS)), (b1, .inl (cI, 64, .inl kR)), (a2, .inl (cJ, 4, .inr (.inl tf))), (a3, .inl (cJ, 16, .inr (.inl (vp_updL (vp_updL (vp_updL (vp_updL (vp_updL lf 0 2) 1 x1) 2 x2) 3 x3) (4 : Int32).toNatClampNeg x4))))] := hD
  rw [hfe] at hP hD
  refine lv_aload_n hx hb d_Bm_hash8_39 rfl (lv_at hl 0 rfl) ?_
  refine va_get (D := (dC, dI)) (ci := 8) (v := .ref a3) (C := "BallotBoardModel") (T := F_Bm) (N := 28) hx hb hts (fun w9 h9 => List.mem_cons_of_mem _ (i_Bm w9 h9)) hown hK hP 0 rfl rfl 14 (by decide) (hts _ (List.mem_cons_of_mem _ gk_933)) (fun _ h9 => h9) rfl d_Bm_hash8_40 ?_
  refine lv_iconst (v := 5) hx hb d_Bm_hash8_43 (by decide) ?_
  refine lv_lload hx hb d_Bm_hash8_44 (lv_at hl 5 rfl) ?_
  refine va_last hx hb hK hP hD hS 7 0 rfl rfl (vp_lit rfl) d_Bm_hash8_46 (fun H locs hP hD hS => ?_)
  have hfe : vp_updL (vp_updL (vp_updL (vp_updL (vp_updL (vp_updL lf 0 2) 1 x1) 2 x2) 3 x3) 4 x4) (5 : Int32).toNatClampNeg x5 = vp_updL (vp_updL (vp_updL (vp_updL (vp_updL (vp_updL lf 0 2) 1 x1) 2 x2) 3 x3) 4 x4) 5 x5 := rfl
  have hP : va_P (dC, dI) classes [(m0, .inr (8, [.int z0, .int z1, .int z2, .int z3, .long (lN P), .long (lN Q), .long (lN G), .long z7, .long z8, .long z9, .int z10, .ref a0, .ref a1, .ref a2, .ref a3, .ref a4, .ref a5, .ref a6, .ref a7, .ref a8, .ref a9, .ref b0, .ref b1, .int (nI oc), .ref b2, .ref b3, .ref b4, .ref b5])), (a7, .inl (cI, 256, .inl bf)), (a8, .inl (cI, 64, .inl sc)), (a9, .inl (cI, 8, .inl st)), (b0, .inl (cI, 8, .inl kS)), (b1, .inl (cI, 64, .inl kR)), (a2, .inl (cJ, 4, .inr (.inl tf))), (a3, .inl (cJ, 16, .inr (.inl (vp_updL (vp_updL (vp_updL (vp_updL (vp_updL (vp_updL lf 0 2) 1 x1) 2 x2) 3 x3) 4 x4) (5 : Int32).toNatClampNeg x5))))] H := hP
  have hD : va_D A [(m0, .inr (8, [.int z0, .int z1, .int z2, .int z3, .long (lN P), .long (lN Q), .long (lN G), .long z7, .long z8, .long z9, .int z10, .ref a0, .ref a1, .ref a2, .ref a3, .ref a4, .ref a5, .ref a6, .ref a7, .ref a8, .ref a9, .ref b0, .ref b1, .int (nI oc), .ref b2, .ref b3, .ref b4, .ref b5])), (a7, .inl (cI, 256, .inl bf)), (a8, .inl (cI, 64, .inl sc)), (a9, .inl (cI, 8, .inl st)), (b0, .inl (cI, 8, .inl kS)), (b1, .inl (cI, 64, .inl kR)), (a2, .inl (cJ, 4, .inr (.inl tf))), (a3, .inl (cJ, 16, .inr (.inl (vp_updL (vp_updL (vp_updL (vp_updL (vp_updL (vp_updL lf 0 2) 1 x1) 2 x2) 3 x3) 4 x4) (5 : Int32).toNatClampNeg x5))))] := hD
  rw [hfe] at hP hD
  refine lv_aload_n hx hb d_Bm_hash8_47 rfl (lv_at hl 0 rfl) ?_
  refine va_get (D := (dC, dI)) (ci := 8) (v := .ref a3) (C := "BallotBoardModel") (T := F_Bm) (N := 28) hx hb hts (fun w9 h9 => List.mem_cons_of_mem _ (i_Bm w9 h9)) hown hK hP 0 rfl rfl 14 (by decide) (hts _ (List.mem_cons_of_mem _ gk_933)) (fun _ h9 => h9) rfl d_Bm_hash8_48 ?_
  refine lv_bipush (v := 6) hx hb d_Bm_hash8_51 (by decide) ?_
  refine lv_lload hx hb d_Bm_hash8_53 (lv_at hl 6 rfl) ?_
  refine va_last hx hb hK hP hD hS 7 0 rfl rfl (vp_lit rfl) d_Bm_hash8_55 (fun H locs hP hD hS => ?_)
  have hfe : vp_updL (vp_updL (vp_updL (vp_updL (vp_updL (vp_updL (vp_updL lf 0 2) 1 x1) 2 x2) 3 x3) 4 x4) 5 x5) (6 : Int32).toNatClampNeg x6 = vp_updL (vp_updL (vp_updL (vp_updL (vp_updL (vp_updL (vp_updL lf 0 2) 1 x1) 2 x2) 3 x3) 4 x4) 5 x5) 6 x6 := rfl
  have hP : va_P (dC, dI) classes [(m0, .inr (8, [.int z0, .int z1, .int z2, .int z3, .long (lN P), .long (lN Q), .long (lN G), .long z7, .long z8, .long z9, .int z10, .ref a0, .ref a1, .ref a2, .ref a3, .ref a4, .ref a5, .ref a6, .ref a7, .ref a8, .ref a9, .ref b0, .ref b1, .int (nI oc), .ref b2, .ref b3, .ref b4, .ref b5])), (a7, .inl (cI, 256, .inl bf)), (a8, .inl (cI, 64, .inl sc)), (a9, .inl (cI, 8, .inl st)), (b0, .inl (cI, 8, .inl kS)), (b1, .inl (cI, 64, .inl kR)), (a2, .inl (cJ, 4, .inr (.inl tf))), (a3, .inl (cJ, 16, .inr (.inl (vp_updL (vp_updL (vp_updL (vp_updL (vp_updL (vp_updL (vp_updL lf 0 2) 1 x1) 2 x2) 3 x3) 4 x4) 5 x5) (6 : Int32).toNatClampNeg x6))))] H := hP
  have hD : va_D A [(m0, .inr (8, [.int z0, .int z1, .int z2, .int z3, .long (lN P), .long (lN Q), .long (lN G), .long z7, .long z8, .long z9, .int z10, .ref a0, .ref a1, .ref a2, .ref a3, .ref a4, .ref a5, .ref a6, .ref a7, .ref a8, .ref a9, .ref b0, .ref b1, .int (nI oc), .ref b2, .ref b3, .ref b4, .ref b5])), (a7, .inl (cI, 256, .inl bf)), (a8, .inl (cI, 64, .inl sc)), (a9, .inl (cI, 8, .inl st)), (b0, .inl (cI, 8, .inl kS)), (b1, .inl (cI, 64, .inl kR)), (a2, .inl (cJ, 4, .inr (.inl tf))), (a3, .inl (cJ, 16, .inr (.inl (vp_updL (vp_updL (vp_updL (vp_updL (vp_updL (vp_updL (vp_updL lf 0 2) 1 x1) 2 x2) 3 x3) 4 x4) 5 x5) (6 : Int32).toNatClampNeg x6))))] := hD
  rw [hfe] at hP hD
  refine lv_aload_n hx hb d_Bm_hash8_56 rfl (lv_at hl 0 rfl) ?_
  refine va_get (D := (dC, dI)) (ci := 8) (v := .ref a3) (C := "BallotBoardModel") (T := F_Bm) (N := 28) hx hb hts (fun w9 h9 => List.mem_cons_of_mem _ (i_Bm w9 h9)) hown hK hP 0 rfl rfl 14 (by decide) (hts _ (List.mem_cons_of_mem _ gk_933)) (fun _ h9 => h9) rfl d_Bm_hash8_57 ?_
  refine lv_bipush (v := 7) hx hb d_Bm_hash8_60 (by decide) ?_
  refine lv_lload hx hb d_Bm_hash8_62 (lv_at hl 7 rfl) ?_
  refine va_last hx hb hK hP hD hS 7 0 rfl rfl (vp_lit rfl) d_Bm_hash8_64 (fun H locs hP hD hS => ?_)
  have hfe : vp_updL (vp_updL (vp_updL (vp_updL (vp_updL (vp_updL (vp_updL (vp_updL lf 0 2) 1 x1) 2 x2) 3 x3) 4 x4) 5 x5) 6 x6) (7 : Int32).toNatClampNeg x7 = vp_updL (vp_updL (vp_updL (vp_updL (vp_updL (vp_updL (vp_updL (vp_updL lf 0 2) 1 x1) 2 x2) 3 x3) 4 x4) 5 x5) 6 x6) 7 x7 := rfl
  have hP : va_P (dC, dI) classes [(m0, .inr (8, [.int z0, .int z1, .int z2, .int z3, .long (lN P), .long (lN Q), .long (lN G), .long z7, .long z8, .long z9, .int z10, .ref a0, .ref a1, .ref a2, .ref a3, .ref a4, .ref a5, .ref a6, .ref a7, .ref a8, .ref a9, .ref b0, .ref b1, .int (nI oc), .ref b2, .ref b3, .ref b4, .ref b5])), (a7, .inl (cI, 256, .inl bf)), (a8, .inl (cI, 64, .inl sc)), (a9, .inl (cI, 8, .inl st)), (b0, .inl (cI, 8, .inl kS)), (b1, .inl (cI, 64, .inl kR)), (a2, .inl (cJ, 4, .inr (.inl tf))), (a3, .inl (cJ, 16, .inr (.inl (vp_updL (vp_updL (vp_updL (vp_updL (vp_updL (vp_updL (vp_updL (vp_updL lf 0 2) 1 x1) 2 x2) 3 x3) 4 x4) 5 x5) 6 x6) (7 : Int32).toNatClampNeg x7))))] H := hP
  have hD : va_D A [(m0, .inr (8, [.int z0, .int z1, .int z2, .int z3, .long (lN P), .long (lN Q), .long (lN G), .long z7, .long z8, .long z9, .int z10, .ref a0, .ref a1, .ref a2, .ref a3, .ref a4, .ref a5, .ref a6, .ref a7, .ref a8, .ref a9, .ref b0, .ref b1, .int (nI oc), .ref b2, .ref b3, .ref b4, .ref b5])), (a7, .inl (cI, 256, .inl bf)), (a8, .inl (cI, 64, .inl sc)), (a9, .inl (cI, 8, .inl st)), (b0, .inl (cI, 8, .inl kS)), (b1, .inl (cI, 64, .inl kR)), (a2, .inl (cJ, 4, .inr (.inl tf))), (a3, .inl (cJ, 16, .inr (.inl (vp_updL (vp_updL (vp_updL (vp_updL (vp_updL (vp_updL (vp_updL (vp_updL lf 0 2) 1 x1) 2 x2) 3 x3) 4 x4) 5 x5) 6 x6) (7 : Int32).toNatClampNeg x7))))] := hD
  rw [hfe] at hP hD
  refine lv_aload_n hx hb d_Bm_hash8_65 rfl (lv_at hl 0 rfl) ?_
  refine lv_bipush (v := 8) hx hb d_Bm_hash8_66 (by decide) ?_
  have hPc := hP.sub (ws' := (mo_ws m0 z0 z1 z2 z3 (lN P) (lN Q) (lN G) z7 z8 z9 z10 a0 a1 a2 a3 a4 a5 a6 a7 a8 a9 b0 b1 oc b2 b3 b4 b5 ++ (iw_ws a7 cI 256 bf ++ (iw_ws a8 cI 64 sc ++ (iw_ws a9 cI 8 st ++ (iw_ws b0 cI 8 kS ++ (iw_ws b1 cI 64 kR ++ (jw_ws a2 cJ 4 tf ++ (jw_ws a3 cJ 16 (vp_updL (vp_updL (vp_updL (vp_updL (vp_updL (vp_updL (vp_updL (vp_updL lf 0 2) 1 x1) 2 x2) 3 x3) 4 x4) 5 x5) 6 x6) 7 x7)))))))))) [0, 1, 2, 3, 4, 5, 6, 7] rfl
  have hDc := hD.sub (ws' := (mo_ws m0 z0 z1 z2 z3 (lN P) (lN Q) (lN G) z7 z8 z9 z10 a0 a1 a2 a3 a4 a5 a6 a7 a8 a9 b0 b1 oc b2 b3 b4 b5 ++ (iw_ws a7 cI 256 bf ++ (iw_ws a8 cI 64 sc ++ (iw_ws a9 cI 8 st ++ (iw_ws b0 cI 8 kS ++ (iw_ws b1 cI 64 kR ++ (jw_ws a2 cJ 4 tf ++ (jw_ws a3 cJ 16 (vp_updL (vp_updL (vp_updL (vp_updL (vp_updL (vp_updL (vp_updL (vp_updL lf 0 2) 1 x1) 2 x2) 3 x3) 4 x4) 5 x5) 6 x6) 7 x7)))))))))) [0, 1, 2, 3, 4, 5, 6, 7] (by decide) rfl
  have hKc := hK.sub (tys' := [(cJ, .long), (cI, .int)]) [0, 1] rfl
  have hFc := va_free (wc := (mo_ws m0 z0 z1 z2 z3 (lN P) (lN Q) (lN G) z7 z8 z9 z10 a0 a1 a2 a3 a4 a5 a6 a7 a8 a9 b0 b1 oc b2 b3 b4 b5 ++ (iw_ws a7 cI 256 bf ++ (iw_ws a8 cI 64 sc ++ (iw_ws a9 cI 8 st ++ (iw_ws b0 cI 8 kS ++ (iw_ws b1 cI 64 kR ++ (jw_ws a2 cJ 4 tf ++ (jw_ws a3 cJ 16 (vp_updL (vp_updL (vp_updL (vp_updL (vp_updL (vp_updL (vp_updL (vp_updL lf 0 2) 1 x1) 2 x2) 3 x3) 4 x4) 5 x5) 6 x6) 7 x7)))))))))) hD hS hA [0, 1, 2, 3, 4, 5, 6, 7] rfl
  refine va_calll (va_runV (As := [.int 8]) (rest := []) ⟨hx, hb, hml, hown, hts⟩ (c_Bm_hash_8 l dC dI cJ cI H.size m0 z0 z1 z2 z3 z7 z8 z9 z10 a0 a1 a2 a3 a4 a5 a6 a7 a8 a9 b0 b1 oc b2 b3 b4 b5 P Q G bf sc st tf (vp_updL (vp_updL (vp_updL (vp_updL (vp_updL (vp_updL (vp_updL (vp_updL lf 0 2) 1 x1) 2 x2) 3 x3) 4 x4) 5 x5) 6 x6) 7 x7) ([lN P, lN G, 2, x1, x2, x3, x4, x5, x6, x7]) hPQ h61F hQ3 rfl) (cwV 1 hts (gw_V gk_1066 gk_1068 gp_35 gk_7 gk_1069) rfl rfl rfl (by decide +kernel) ⟨Nat.le_of_ble_eq_true rfl, Nat.le_of_ble_eq_true rfl⟩) ⟨fun a U g mk q => by obtain ⟨q0, q1, qP, qK, qD⟩ := q; exact ⟨q0, q1, qP, va_K.moved (u := U) (U := U.calling g mk a) (Vm.Alike.refl U.vm) qK, qD⟩, va_recv hK hP (ci := 8) (q0 := 0) rfl rfl, fun U hU hW => ⟨rfl, by rw [hU], by rw [hU]; exact hPc, va_K.moved hW.alike hKc, hDc.weaken (fun _ _ _ _ => trivial)⟩⟩ rfl rfl hl.1 rfl (lv_room (Nat.le_of_ble_eq_true rfl)) d_Bm_hash8_68 ⟨Nat.le_of_ble_eq_true rfl, Nat.le_of_ble_eq_true rfl⟩) hS (fun q _ h => hFc q h) hFc (fun r_2 u9 t9 H1 locs ht hvm hw hB hz1 hk1 hS => ?_)
  obtain ⟨gbk_1, gsk_1, gtk_1, gfk_1, gok_1⟩ := u9
  have hw : r_2 = lN (hsh Q ([lN P, lN G, 2, x1, x2, x3, x4, x5, x6, x7])) := hw
  subst hw
  obtain ⟨hP1, hK1, hD1⟩ := hB
  rw [ht] at hP1
  obtain ⟨hP, hD⟩ := va_join (wr := []) (w1 := [(m0, .inr (8, [.int z0, .int z1, .int z2, .int z3, .long (lN P), .long (lN Q), .long (lN G), .long z7, .long z8, .long z9, .int z10, .ref a0, .ref a1, .ref a2, .ref a3, .ref a4, .ref a5, .ref a6, .ref a7, .ref a8, .ref a9, .ref b0, .ref b1, .int (nI gok_1), .ref b2, .ref b3, .ref b4, .ref b5])), (a7, .inl (cI, 256, .inl gbk_1)), (a8, .inl (cI, 64, .inl gsk_1)), (a9, .inl (cI, 8, .inl gtk_1)), (b0, .inl (cI, 8, .inl kS)), (b1, .inl (cI, 64, .inl kR)), (a2, .inl (cJ, 4, .inr (.inl gfk_1))), (a3, .inl (cJ, 16, .inr (.inl (vp_updL (vp_updL (vp_updL (vp_updL (vp_updL (vp_updL (vp_updL (vp_updL lf 0 2) 1 x1) 2 x2) 3 x3) 4 x4) 5 x5) 6 x6) 7 x7))))]) hP hD [0, 1, 2, 3, 4, 5, 6, 7] [] rfl rfl (by decide) (by decide) hk1 hFc hP1 hD1
  have hP := hP.sub (ws' := [(m0, .inr (8, [.int z0, .int z1, .int z2, .int z3, .long (lN P), .long (lN Q), .long (lN G), .long z7, .long z8, .long z9, .int z10, .ref a0, .ref a1, .ref a2, .ref a3, .ref a4, .ref a5, .ref a6, .ref a7, .ref a8, .ref a9, .ref b0, .ref b1, .int (nI gok_1), .ref b2, .ref b3, .ref b4, .ref b5])), (a7, .inl (cI, 256, .inl gbk_1)), (a8, .inl (cI, 64, .inl gsk_1)), (a9, .inl (cI, 8, .inl gtk_1)), (b0, .inl (cI, 8, .inl kS)), (b1, .inl (cI, 64, .inl kR)), (a2, .inl (cJ, 4, .inr (.inl gfk_1))), (a3, .inl (cJ, 16, .inr (.inl (vp_updL (vp_updL (vp_updL (vp_updL (vp_updL (vp_updL (vp_updL (vp_updL lf 0 2) 1 x1) 2 x2) 3 x3) 4 x4) 5 x5) 6 x6) 7 x7))))]) [0, 1, 2, 3, 4, 5, 6, 7] rfl
  have hD := hD.sub (ws' := [(m0, .inr (8, [.int z0, .int z1, .int z2, .int z3, .long (lN P), .long (lN Q), .long (lN G), .long z7, .long z8, .long z9, .int z10, .ref a0, .ref a1, .ref a2, .ref a3, .ref a4, .ref a5, .ref a6, .ref a7, .ref a8, .ref a9, .ref b0, .ref b1, .int (nI gok_1), .ref b2, .ref b3, .ref b4, .ref b5])), (a7, .inl (cI, 256, .inl gbk_1)), (a8, .inl (cI, 64, .inl gsk_1)), (a9, .inl (cI, 8, .inl gtk_1)), (b0, .inl (cI, 8, .inl kS)), (b1, .inl (cI, 64, .inl kR)), (a2, .inl (cJ, 4, .inr (.inl gfk_1))), (a3, .inl (cJ, 16, .inr (.inl (vp_updL (vp_updL (vp_updL (vp_updL (vp_updL (vp_updL (vp_updL (vp_updL lf 0 2) 1 x1) 2 x2) 3 x3) 4 x4) 5 x5) 6 x6) 7 x7))))]) [0, 1, 2, 3, 4, 5, 6, 7] (by decide) rfl
  generalize H1 = H at hP hS ⊢
  exact W.lret (v := (lN (hsh Q ([lN P, lN G, 2, x1, x2, x3, x4, x5, x6, x7])))) hx hb hr (fun t ht9 hW => ⟨⟨_, ((gbk_1, gsk_1, gtk_1, gfk_1, gok_1), vp_updL (vp_updL (vp_updL (vp_updL (vp_updL (vp_updL (vp_updL (vp_updL lf 0 2) 1 x1) 2 x2) 3 x3) 4 x4) 5 x5) 6 x6) 7 x7), rfl, rfl, by rw [ht9]; exact hP, va_K.moved hW.alike hK, hD⟩, hS.F ht9⟩) hS.2.2 d_Bm_hash8_71
