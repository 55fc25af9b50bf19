theorem in_ROUNDS : ∀ j, j < 64 → Cond.eq (.elem (.static "BallotBoard$Hash" "ROUNDS" "[I") (.int (Int32.ofNat j))) (.int (kR j)) ∈ flatC (Jvm.Cond.and given_1 narrow_1) := by decide +kernel
theorem in_START : ∀ j, j < 8 → Cond.eq (.elem (.static "BallotBoard$Hash" "START" "[I") (.int (Int32.ofNat j))) (.int (kS j)) ∈ flatC (Jvm.Cond.and given_1 narrow_1) := by decide +kernel
theorem in_WITNESSES : ∀ j, j < 9 → Cond.eq (.elem (.static "BallotBoard$Modulus" "WITNESSES" "[I") (.int (Int32.ofNat j))) (.int (wit j)) ∈ flatC (Jvm.Cond.and given_1 narrow_1) := by decide +kernel
theorem xB_mem : ∀ w ∈ xB, w ∈ tables_1 := by decide +kernel
theorem xS_mem : ∀ q ∈ xS, Cond.stringRef "BallotBoard" q.1 q.2 ∈ tables_1 := by decide +kernel
theorem ov_spec {args : Array Value} {first s : State} {o : Option Outcome} {idx : List Nat} {ty : FieldType} (h : (Cond.arrayOver (.array ty)).holds args first o s idx = true) : ∃ comp c k, s.vm.classes[c]? = some k ∧ k.kind = .array comp (.array ty) ∧ s.vm.findClass ("[" ++ (FieldType.array ty).toString) = some c := by
  simp only [Cond.holds, Cond.value, beq_iff_eq] at h
  cases hc : s.vm.findClass (FieldType.array ty).toString with
  | none => simp [hc] at h
  | some comp =>
    simp only [hc, Option.bind_some, Option.bind_eq_some_iff, Option.map_eq_some_iff] at h
    obtain ⟨c, hi, k, hk, hb⟩ := h
    obtain ⟨hlt, hp, -⟩ := Array.findIdx?_eq_some_iff_getElem.mp hi
    have hkk : s.vm.classes[c] = k := (Array.getElem?_eq_some_iff.mp hk).2
    rw [hkk] at hp
    cases hkind : k.kind with
    | array component ty9 =>
      rw [hkind] at hb hp
      simp at hb hp
      exact ⟨comp, c, k, hk, by rw [hkind, hp, hb.1], hb.2⟩
    | _ => rw [hkind] at hb; simp at hb
theorem arrT {s : State} {cA : ClassId} {kA : Class} {comp : ClassId} {ty : FieldType} (h2 : s.vm.classes[cA]? = some kA) (h3 : kA.kind = .array comp ty) : ArrOfT s cA ty := fun _ _ => ⟨fun _ h => (by cases h), kA, h2, comp, h3⟩
set_option maxHeartbeats 16000000 in
set_option maxRecDepth 100000 in
theorem lw_K {s : State} {b : Nat} (hts0 : ∀ w ∈ lw_tbl, w.before #[Value.ref b] s = true) : ∃ (dC : Nat → ClassId) (dI : Nat → Nat → Nat) (cJ cI cR : ClassId), va_K (dC, dI) classes [(cJ, .long), (cI, .int), (cR, .array .long)] s := by
  have hts := lw_hts hts0
  obtain ⟨c0, iS0, hKn0⟩ := u_known (C := "BallotBoard$Modulus") (T := F_Mo) (N := 7) (n := 7) hts (fun w9 h9 => List.mem_cons_of_mem _ (i_Mo w9 h9)) (hts _ (List.mem_cons_of_mem _ gk_191))
  obtain ⟨c1, iS1, hKn1⟩ := u_known (C := "BallotBoard$Group") (T := F_Gr) (N := 4) (n := 4) hts (fun w9 h9 => List.mem_cons_of_mem _ (i_Gr w9 h9)) (hts _ (List.mem_cons_of_mem _ gk_252))
  obtain ⟨c2, iS2, hKn2⟩ := u_known (C := "BallotBoard$Hash") (T := F_Ha) (N := 4) (n := 4) hts (fun w9 h9 => List.mem_cons_of_mem _ (i_Ha w9 h9)) (hts _ (List.mem_cons_of_mem _ gk_28))
  obtain ⟨c3, iS3, hKn3⟩ := u_known (C := "BallotBoard$Board") (T := F_Bo) (N := 4) (n := 4) hts (fun w9 h9 => List.mem_cons_of_mem _ (i_Bo w9 h9)) (hts _ (List.mem_cons_of_mem _ gk_53))
  obtain ⟨c4, iS4, hKn4⟩ := u_known (C := "BallotBoard$Tally") (T := F_Ta) (N := 14) (n := 14) hts (fun w9 h9 => List.mem_cons_of_mem _ (i_Ta w9 h9)) (hts _ (List.mem_cons_of_mem _ gk_87))
  obtain ⟨c5, iS5, hKn5⟩ := u_known (C := "BallotBoard$Proofs") (T := F_Pr) (N := 2) (n := 2) hts (fun w9 h9 => List.mem_cons_of_mem _ (i_Pr w9 h9)) (hts _ (List.mem_cons_of_mem _ gk_74))
  obtain ⟨c6, iS6, hKn6⟩ := u_known (C := "BallotBoard$Auditor") (T := F_Au) (N := 4) (n := 4) hts (fun w9 h9 => List.mem_cons_of_mem _ (i_Au w9 h9)) (hts _ (List.mem_cons_of_mem _ gk_136))
  obtain ⟨c7, iS7, hKn7⟩ := u_known (C := "BallotBoard") (T := F_BB) (N := 6) (n := 6) hts (fun w9 h9 => List.mem_cons_of_mem _ (i_BB w9 h9)) (hts _ (List.mem_cons_of_mem _ gk_20))
  obtain ⟨c8, iS8, hKn8⟩ := u_known (C := "BallotBoardModel") (T := F_Bm) (N := 28) (n := 28) hts (fun w9 h9 => List.mem_cons_of_mem _ (i_Bm w9 h9)) (hts _ (List.mem_cons_of_mem _ gk_842))
  obtain ⟨cJ, kJ, mJ, fJ, hJ, gJ⟩ := Cond.arrayClass_spec (hts0 (Jvm.Cond.arrayClass Jvm.ClassFile.FieldType.long) (List.mem_append_right _ (List.mem_of_getElem? (i := 50) (by decide +kernel))))
  obtain ⟨cI, kI, mI, fI, hI, gI⟩ := Cond.arrayClass_spec (hts0 (Jvm.Cond.arrayClass Jvm.ClassFile.FieldType.int) (List.mem_append_right _ (List.mem_of_getElem? (i := 51) (by decide +kernel))))
  obtain ⟨mR, cR, kR9, hR, gR, fR⟩ := ov_spec (hts0 (Jvm.Cond.arrayOver (Jvm.ClassFile.FieldType.array Jvm.ClassFile.FieldType.long)) (List.mem_append_right _ (List.mem_of_getElem? (i := 59) (by decide +kernel))))
  refine ⟨fun k => if k = 0 then c0 else if k = 1 then c1 else if k = 2 then c2 else if k = 3 then c3 else if k = 4 then c4 else if k = 5 then c5 else if k = 6 then c6 else if k = 7 then c7 else c8, fun k => if k = 0 then iS0 else if k = 1 then iS1 else if k = 2 then iS2 else if k = 3 then iS3 else if k = 4 then iS4 else if k = 5 then iS5 else if k = 6 then iS6 else if k = 7 then iS7 else iS8, cJ, cI, cR, ?_, ?_⟩
  · intro k q hq
    match k, hq with
    | 0, hq => cases hq; exact hKn0
    | 1, hq => cases hq; exact hKn1
    | 2, hq => cases hq; exact hKn2
    | 3, hq => cases hq; exact hKn3
    | 4, hq => cases hq; exact hKn4
    | 5, hq => cases hq; exact hKn5
    | 6, hq => cases hq; exact hKn6
    | 7, hq => cases hq; exact hKn7
    | 8, hq => cases hq; exact hKn8
    | k + 9, hq => simp [classes] at hq
  · intro k q hq
    match k, hq with
    | 0, hq => cases hq; exact ⟨arrT hJ gJ, fJ⟩
    | 1, hq => cases hq; exact ⟨arrT hI gI, fI⟩
    | 2, hq => cases hq; exact ⟨arrT hR gR, fR⟩
    | k + 3, hq => simp at hq
set_option maxHeartbeats 16000000 in
set_option maxRecDepth 100000 in
theorem lw_C {p : Program} {l : Launch} {s : State} {m : MethodId} {meth : Method} {c : Code} {b L : Nat} {xs : Nat → Int32} (hnt : l.stackTraces = false) (hL : L ≤ 7168) (C0 : lw_At p s m meth c b L xs) : ∃ (dC : Nat → ClassId) (dI : Nat → Nat → Nat) (cJ cI cR : ClassId) (rA sA wA : Nat), LC p l s m meth c b L xs dC dI cJ cI cR (fun q : Nat => s.heap.size ≤ q) rA sA wA := by
  obtain ⟨hx, hb, hr, hml, hown, hts0, hX, hbl, hlocks, hgv⟩ := id C0
  have hs := flat_of_before _ hgv
  have hA : ∀ a : Nat, a < s.heap.size → ¬ (fun q : Nat => s.heap.size ≤ q) a := fun a h => Nat.not_le.mpr h
  obtain ⟨dC, dI, cJ, cI, cR, hK⟩ := lw_K hts0
  obtain ⟨a0, v0, T0⟩ := va_Tof (tm := .static "BallotBoard$Hash" "ROUNDS" "[I") (ty := .int) (N := 64) (f := fun j => .int (kR j)) (A := fun q : Nat => s.heap.size ≤ q) (by decide) (hs (Cond.arrayOf (.static "BallotBoard$Hash" "ROUNDS" "[I") .int) (by decide +kernel)) (va_eqt (hs (Cond.eq (.length (.static "BallotBoard$Hash" "ROUNDS" "[I")) (.int 64)) (by decide +kernel))) (fun j hj => va_eqt (hs _ (in_ROUNDS j hj))) hA
  have Z0 := va_Zof (A := fun q : Nat => s.heap.size ≤ q) (hts0 (Jvm.Cond.laysStatic "BallotBoard$Hash" "ROUNDS" "[I") (List.mem_append_right _ (List.mem_of_getElem? (i := 34) (by decide +kernel)))) (hts0 (Jvm.Cond.initialized "BallotBoard$Hash") (List.mem_append_right _ (List.mem_of_getElem? (i := 2) (by decide +kernel)))) v0 hA
  obtain ⟨a1, v1, T1⟩ := va_Tof (tm := .static "BallotBoard$Hash" "START" "[I") (ty := .int) (N := 8) (f := fun j => .int (kS j)) (A := fun q : Nat => s.heap.size ≤ q) (by decide) (hs (Cond.arrayOf (.static "BallotBoard$Hash" "START" "[I") .int) (by decide +kernel)) (va_eqt (hs (Cond.eq (.length (.static "BallotBoard$Hash" "START" "[I")) (.int 8)) (by decide +kernel))) (fun j hj => va_eqt (hs _ (in_START j hj))) hA
  have Z1 := va_Zof (A := fun q : Nat => s.heap.size ≤ q) (hts0 (Jvm.Cond.laysStatic "BallotBoard$Hash" "START" "[I") (List.mem_append_right _ (List.mem_of_getElem? (i := 36) (by decide +kernel)))) (hts0 (Jvm.Cond.initialized "BallotBoard$Hash") (List.mem_append_right _ (List.mem_of_getElem? (i := 2) (by decide +kernel)))) v1 hA
  obtain ⟨a2, v2, T2⟩ := va_Tof (tm := .static "BallotBoard$Modulus" "WITNESSES" "[I") (ty := .int) (N := 9) (f := fun j => .int (wit j)) (A := fun q : Nat => s.heap.size ≤ q) (by decide) (hs (Cond.arrayOf (.static "BallotBoard$Modulus" "WITNESSES" "[I") .int) (by decide +kernel)) (va_eqt (hs (Cond.eq (.length (.static "BallotBoard$Modulus" "WITNESSES" "[I")) (.int 9)) (by decide +kernel))) (fun j hj => va_eqt (hs _ (in_WITNESSES j hj))) hA
  have Z2 := va_Zof (A := fun q : Nat => s.heap.size ≤ q) (hts0 (Jvm.Cond.laysStatic "BallotBoard$Modulus" "WITNESSES" "[I") (List.mem_append_right _ (List.mem_of_getElem? (i := 234) (by decide +kernel)))) (hts0 (Jvm.Cond.initialized "BallotBoard$Modulus") (List.mem_append_right _ (List.mem_of_getElem? (i := 9) (by decide +kernel)))) v2 hA
  have hBc : ∃ cur, s.vm.findClass "BallotBoard" = some cur := by
    obtain ⟨cC, _, h, _⟩ := Cond.instantiable_spec (hts0 (Jvm.Cond.instantiable "BallotBoard" (6 : Nat)) (List.mem_append_right _ (List.mem_of_getElem? (i := 20) (by decide +kernel))))
    exact ⟨cC, h⟩
  obtain ⟨cur, hcur⟩ := hBc
  have hXz : xz (fun q : Nat => s.heap.size ≤ q) s s.heap := by
    refine ⟨(vx_Zqof (hts0 (Jvm.Cond.laysStatic "java/lang/Throwable" "UNASSIGNED_STACK" "[Ljava/lang/StackTraceElement;") (List.mem_append_right _ (List.mem_of_getElem? (i := 306) (by decide +kernel)))) (hts0 (Jvm.Cond.initialized "java/lang/Throwable") (List.mem_append_right _ (List.mem_of_getElem? (i := 10) (by decide +kernel)))) (hs (Cond.isRef (.static "java/lang/Throwable" "UNASSIGNED_STACK" "[Ljava/lang/StackTraceElement;")) (by decide +kernel)) hA), (vx_Zqof (hts0 (Jvm.Cond.laysStatic "java/lang/Throwable" "SUPPRESSED_SENTINEL" "Ljava/util/List;") (List.mem_append_right _ (List.mem_of_getElem? (i := 308) (by decide +kernel)))) (hts0 (Jvm.Cond.initialized "java/lang/Throwable") (List.mem_append_right _ (List.mem_of_getElem? (i := 10) (by decide +kernel)))) (hs (Cond.isRef (.static "java/lang/Throwable" "SUPPRESSED_SENTINEL" "Ljava/util/List;")) (by decide +kernel)) hA), fun w hw => va_tabs (xB_tab hw) rfl (hts0 w (List.mem_append_right _ (xB_mem w hw))), fun q hq => ?_⟩
    have h9 := hts0 _ (List.mem_append_right _ (xS_mem q hq))
    obtain ⟨_, _, _, a9, _, _, _, _, _, hev⟩ := Cond.stringRef_spec hcur h9
    exact ⟨a9, vk_R.of h9 hev⟩
  refine ⟨dC, dI, cJ, cI, cR, a0, a1, a2, hnt, C0, hK, fun q h => h, Nat.not_le.mpr hbl, ⟨Z0, T0, Z1, T1⟩, hXz, ⟨va_Nc.of (hs (Cond.not (.castable eA eS)) (by decide +kernel)), va_Nc.of (hs (Cond.not (.castable eB eS)) (by decide +kernel)), va_Nc.of (hs (Cond.not (.castable eA eB)) (by decide +kernel))⟩, ⟨Z2, T2⟩, hL⟩
