abbrev b_Ta_trustees : ByteArray := prog_8_method_4_code
abbrev y_Ta_trustees : MethodName := ⟨"BallotBoard$Tally", "trustees", "()I"⟩
abbrev w_Ta_trustees : List Cond := .code y_Ta_trustees b_Ta_trustees 1 (some .int) :: gw
theorem d_Ta_trustees_0 : decode b_Ta_trustees 0 = .ok (.aload_n 0, 1) := by decide +kernel
theorem d_Ta_trustees_1 : decode b_Ta_trustees 1 = .ok (.getfield 28, 3) := by decide +kernel
theorem d_Ta_trustees_4 : decode b_Ta_trustees 4 = .ok (.ireturn, 1) := by decide +kernel
set_option maxHeartbeats 8000000 in
set_option maxRecDepth 100000 in
theorem c_Ta_trustees (l : Launch) (H0 : Heap) (dC : Nat → ClassId) (dI : Nat → Nat → Nat) (cJ cI : ClassId) (t0 ka aa ba sa : Nat) (gv : Value) (ko ao bo so : Nat → Nat) (tn kc bc shc kp shp pa pb : Nat) (sht : Int32) (hP : va_P (dC, dI) classes (tl_ws t0 ka aa ba sa gv cJ ko ao bo so tn kc bc shc kp shp pa pb sht) H0)  : Met l y_Ta_trustees w_Ta_trustees ({ frames := 0, cells := 0, slots := 0, locals := 0 }) (va_Pc [.ref t0] (fun U => U.heap = H0 ∧ va_K (dC, dI) classes [(cJ, .long), (cI, .int)] U)) (va_Qi (fun (r : Int32) (_ : Unit) => r = nI tn) (fun _ t => t.heap = H0) (fun _ => False)) 0 0 (fun _ => False) := by
  refine Met.ofW (cc := b_Ta_trustees) (maxL := 1) (ret := (some .int)) (by decide) rfl ?_
  intro p e s m args below meth c s₁ Bd hml hv
  obtain ⟨rfl, hH, hK⟩ := hv
  subst hH
  have hx := Bd.exec
  have hb := Bd.bytes
  have hr := Bd.returns
  have hts := atoms_spec (ws := w_Ta_trustees) Bd.pre
  have hown : s.vm.findClass "BallotBoard$Tally" = some m.cls := findClass_of_methodNamed Bd.named
  have hlocks := Bd.notSynchronized
  have hS : va_S (fun _ => False) s.heap s.heap [] := va_S.rf
  have hl := lv_entry ([.ref t0]) (n := 1) (Nat.le_of_ble_eq_true rfl)
  rw [lg_entry_eq]
  generalize (lg_sl ([.ref t0]) ++ List.replicate (1 - (lg_sl ([.ref t0])).length) Slot.unset).toArray = ls at hl ⊢
  have hl : lv_has ls 1 [(0, .ref t0)] := hl
  refine lv_aload_n hx hb d_Ta_trustees_0 rfl (lv_at hl 0 rfl) ?_
  refine va_get (D := (dC, dI)) (ci := 4) (v := .int (nI tn)) (C := "BallotBoard$Tally") (T := F_Ta) (N := 14) hx hb hts (fun w9 h9 => List.mem_cons_of_mem _ (i_Ta w9 h9)) hown hK hP 0 rfl rfl 5 (by decide) (hts _ (List.mem_cons_of_mem _ gk_97)) (fun _ h9 => h9) rfl d_Ta_trustees_1 ?_
  exact W.iret (v := (nI tn)) hx hb hr (fun t ht hW => ⟨⟨_, (), rfl, rfl, ht⟩, hS.F ht⟩) hS.2.2 d_Ta_trustees_4
abbrev b_Ta_keys : ByteArray := prog_8_method_5_code
abbrev y_Ta_keys : MethodName := ⟨"BallotBoard$Tally", "keys", "()I"⟩
abbrev w_Ta_keys : List Cond := .code y_Ta_keys b_Ta_keys 1 (some .int) :: gw
theorem d_Ta_keys_0 : decode b_Ta_keys 0 = .ok (.aload_n 0, 1) := by decide +kernel
theorem d_Ta_keys_1 : decode b_Ta_keys 1 = .ok (.getfield 32, 3) := by decide +kernel
theorem d_Ta_keys_4 : decode b_Ta_keys 4 = .ok (.ireturn, 1) := by decide +kernel
set_option maxHeartbeats 8000000 in
set_option maxRecDepth 100000 in
theorem c_Ta_keys (l : Launch) (H0 : Heap) (dC : Nat → ClassId) (dI : Nat → Nat → Nat) (cJ cI : ClassId) (t0 ka aa ba sa : Nat) (gv : Value) (ko ao bo so : Nat → Nat) (tn kc bc shc kp shp pa pb : Nat) (sht : Int32) (hP : va_P (dC, dI) classes (tl_ws t0 ka aa ba sa gv cJ ko ao bo so tn kc bc shc kp shp pa pb sht) H0)  : Met l y_Ta_keys w_Ta_keys ({ frames := 0, cells := 0, slots := 0, locals := 0 }) (va_Pc [.ref t0] (fun U => U.heap = H0 ∧ va_K (dC, dI) classes [(cJ, .long), (cI, .int)] U)) (va_Qi (fun (r : Int32) (_ : Unit) => r = nI kc) (fun _ t => t.heap = H0) (fun _ => False)) 0 0 (fun _ => False) := by
  refine Met.ofW (cc := b_Ta_keys) (maxL := 1) (ret := (some .int)) (by decide) rfl ?_
  intro p e s m args below meth c s₁ Bd hml hv
  obtain ⟨rfl, hH, hK⟩ := hv
  subst hH
  have hx := Bd.exec
  have hb := Bd.bytes
  have hr := Bd.returns
  have hts := atoms_spec (ws := w_Ta_keys) Bd.pre
  have hown : s.vm.findClass "BallotBoard$Tally" = some m.cls := findClass_of_methodNamed Bd.named
  have hlocks := Bd.notSynchronized
  have hS : va_S (fun _ => False) s.heap s.heap [] := va_S.rf
  have hl := lv_entry ([.ref t0]) (n := 1) (Nat.le_of_ble_eq_true rfl)
  rw [lg_entry_eq]
  generalize (lg_sl ([.ref t0]) ++ List.replicate (1 - (lg_sl ([.ref t0])).length) Slot.unset).toArray = ls at hl ⊢
  have hl : lv_has ls 1 [(0, .ref t0)] := hl
  refine lv_aload_n hx hb d_Ta_keys_0 rfl (lv_at hl 0 rfl) ?_
  refine va_get (D := (dC, dI)) (ci := 4) (v := .int (nI kc)) (C := "BallotBoard$Tally") (T := F_Ta) (N := 14) hx hb hts (fun w9 h9 => List.mem_cons_of_mem _ (i_Ta w9 h9)) hown hK hP 0 rfl rfl 6 (by decide) (hts _ (List.mem_cons_of_mem _ gk_98)) (fun _ h9 => h9) rfl d_Ta_keys_1 ?_
  exact W.iret (v := (nI kc)) hx hb hr (fun t ht hW => ⟨⟨_, (), rfl, rfl, ht⟩, hS.F ht⟩) hS.2.2 d_Ta_keys_4
abbrev b_Ta_ballots : ByteArray := prog_8_method_6_code
abbrev y_Ta_ballots : MethodName := ⟨"BallotBoard$Tally", "ballots", "()I"⟩
abbrev w_Ta_ballots : List Cond := .code y_Ta_ballots b_Ta_ballots 1 (some .int) :: gw
theorem d_Ta_ballots_0 : decode b_Ta_ballots 0 = .ok (.aload_n 0, 1) := by decide +kernel
theorem d_Ta_ballots_1 : decode b_Ta_ballots 1 = .ok (.getfield 35, 3) := by decide +kernel
theorem d_Ta_ballots_4 : decode b_Ta_ballots 4 = .ok (.ireturn, 1) := by decide +kernel
set_option maxHeartbeats 8000000 in
set_option maxRecDepth 100000 in
theorem c_Ta_ballots (l : Launch) (H0 : Heap) (dC : Nat → ClassId) (dI : Nat → Nat → Nat) (cJ cI : ClassId) (t0 ka aa ba sa : Nat) (gv : Value) (ko ao bo so : Nat → Nat) (tn kc bc shc kp shp pa pb : Nat) (sht : Int32) (hP : va_P (dC, dI) classes (tl_ws t0 ka aa ba sa gv cJ ko ao bo so tn kc bc shc kp shp pa pb sht) H0)  : Met l y_Ta_ballots w_Ta_ballots ({ frames := 0, cells := 0, slots := 0, locals := 0 }) (va_Pc [.ref t0] (fun U => U.heap = H0 ∧ va_K (dC, dI) classes [(cJ, .long), (cI, .int)] U)) (va_Qi (fun (r : Int32) (_ : Unit) => r = nI bc) (fun _ t => t.heap = H0) (fun _ => False)) 0 0 (fun _ => False) := by
  refine Met.ofW (cc := b_Ta_ballots) (maxL := 1) (ret := (some .int)) (by decide) rfl ?_
  intro p e s m args below meth c s₁ Bd hml hv
  obtain ⟨rfl, hH, hK⟩ := hv
  subst hH
  have hx := Bd.exec
  have hb := Bd.bytes
  have hr := Bd.returns
  have hts := atoms_spec (ws := w_Ta_ballots) Bd.pre
  have hown : s.vm.findClass "BallotBoard$Tally" = some m.cls := findClass_of_methodNamed Bd.named
  have hlocks := Bd.notSynchronized
  have hS : va_S (fun _ => False) s.heap s.heap [] := va_S.rf
  have hl := lv_entry ([.ref t0]) (n := 1) (Nat.le_of_ble_eq_true rfl)
  rw [lg_entry_eq]
  generalize (lg_sl ([.ref t0]) ++ List.replicate (1 - (lg_sl ([.ref t0])).length) Slot.unset).toArray = ls at hl ⊢
  have hl : lv_has ls 1 [(0, .ref t0)] := hl
  refine lv_aload_n hx hb d_Ta_ballots_0 rfl (lv_at hl 0 rfl) ?_
  refine va_get (D := (dC, dI)) (ci := 4) (v := .int (nI bc)) (C := "BallotBoard$Tally") (T := F_Ta) (N := 14) hx hb hts (fun w9 h9 => List.mem_cons_of_mem _ (i_Ta w9 h9)) hown hK hP 0 rfl rfl 7 (by decide) (hts _ (List.mem_cons_of_mem _ gk_99)) (fun _ h9 => h9) rfl d_Ta_ballots_1 ?_
  exact W.iret (v := (nI bc)) hx hb hr (fun t ht hW => ⟨⟨_, (), rfl, rfl, ht⟩, hS.F ht⟩) hS.2.2 d_Ta_ballots_4
abbrev b_Ta_shares : ByteArray := prog_8_method_7_code
abbrev y_Ta_shares : MethodName := ⟨"BallotBoard$Tally", "shares", "()I"⟩
abbrev w_Ta_shares : List Cond := .code y_Ta_shares b_Ta_shares 1 (some .int) :: gw
theorem d_Ta_shares_0 : decode b_Ta_shares 0 = .ok (.aload_n 0, 1) := by decide +kernel
theorem d_Ta_shares_1 : decode b_Ta_shares 1 = .ok (.getfield 38, 3) := by decide +kernel
theorem d_Ta_shares_4 : decode b_Ta_shares 4 = .ok (.ireturn, 1) := by decide +kernel
set_option maxHeartbeats 8000000 in
set_option maxRecDepth 100000 in
theorem c_Ta_shares (l : Launch) (H0 : Heap) (dC : Nat → ClassId) (dI : Nat → Nat → Nat) (cJ cI : ClassId) (t0 ka aa ba sa : Nat) (gv : Value) (ko ao bo so : Nat → Nat) (tn kc bc shc kp shp pa pb : Nat) (sht : Int32) (hP : va_P (dC, dI) classes (tl_ws t0 ka aa ba sa gv cJ ko ao bo so tn kc bc shc kp shp pa pb sht) H0)  : Met l y_Ta_shares w_Ta_shares ({ frames := 0, cells := 0, slots := 0, locals := 0 }) (va_Pc [.ref t0] (fun U => U.heap = H0 ∧ va_K (dC, dI) classes [(cJ, .long), (cI, .int)] U)) (va_Qi (fun (r : Int32) (_ : Unit) => r = nI shc) (fun _ t => t.heap = H0) (fun _ => False)) 0 0 (fun _ => False) := by
  refine Met.ofW (cc := b_Ta_shares) (maxL := 1) (ret := (some .int)) (by decide) rfl ?_
  intro p e s m args below meth c s₁ Bd hml hv
  obtain ⟨rfl, hH, hK⟩ := hv
  subst hH
  have hx := Bd.exec
  have hb := Bd.bytes
  have hr := Bd.returns
  have hts := atoms_spec (ws := w_Ta_shares) Bd.pre
  have hown : s.vm.findClass "BallotBoard$Tally" = some m.cls := findClass_of_methodNamed Bd.named
  have hlocks := Bd.notSynchronized
  have hS : va_S (fun _ => False) s.heap s.heap [] := va_S.rf
  have hl := lv_entry ([.ref t0]) (n := 1) (Nat.le_of_ble_eq_true rfl)
  rw [lg_entry_eq]
  generalize (lg_sl ([.ref t0]) ++ List.replicate (1 - (lg_sl ([.ref t0])).length) Slot.unset).toArray = ls at hl ⊢
  have hl : lv_has ls 1 [(0, .ref t0)] := hl
  refine lv_aload_n hx hb d_Ta_shares_0 rfl (lv_at hl 0 rfl) ?_
  refine va_get (D := (dC, dI)) (ci := 4) (v := .int (nI shc)) (C := "BallotBoard$Tally") (T := F_Ta) (N := 14) hx hb hts (fun w9 h9 => List.mem_cons_of_mem _ (i_Ta w9 h9)) hown hK hP 0 rfl rfl 8 (by decide) (hts _ (List.mem_cons_of_mem _ gk_100)) (fun _ h9 => h9) rfl d_Ta_shares_1 ?_
  exact W.iret (v := (nI shc)) hx hb hr (fun t ht hW => ⟨⟨_, (), rfl, rfl, ht⟩, hS.F ht⟩) hS.2.2 d_Ta_shares_4
abbrev b_Ta_productA : ByteArray := prog_8_method_16_code
abbrev y_Ta_productA : MethodName := ⟨"BallotBoard$Tally", "productA", "()J"⟩
abbrev w_Ta_productA : List Cond := .code y_Ta_productA b_Ta_productA 1 (some .long) :: gw
theorem d_Ta_productA_0 : decode b_Ta_productA 0 = .ok (.aload_n 0, 1) := by decide +kernel
theorem d_Ta_productA_1 : decode b_Ta_productA 1 = .ok (.getfield 48, 3) := by decide +kernel
theorem d_Ta_productA_4 : decode b_Ta_productA 4 = .ok (.lreturn, 1) := by decide +kernel
set_option maxHeartbeats 8000000 in
set_option maxRecDepth 100000 in
theorem c_Ta_productA (l : Launch) (H0 : Heap) (dC : Nat → ClassId) (dI : Nat → Nat → Nat) (cJ cI : ClassId) (t0 ka aa ba sa : Nat) (gv : Value) (ko ao bo so : Nat → Nat) (tn kc bc shc kp shp pa pb : Nat) (sht : Int32) (hP : va_P (dC, dI) classes (tl_ws t0 ka aa ba sa gv cJ ko ao bo so tn kc bc shc kp shp pa pb sht) H0)  : Met l y_Ta_productA w_Ta_productA ({ frames := 0, cells := 0, slots := 0, locals := 0 }) (va_Pc [.ref t0] (fun U => U.heap = H0 ∧ va_K (dC, dI) classes [(cJ, .long), (cI, .int)] U)) (va_Ql (fun (r : Int64) (_ : Unit) => r = lN pa) (fun _ t => t.heap = H0) (fun _ => False)) 0 0 (fun _ => False) := by
  refine Met.ofW (cc := b_Ta_productA) (maxL := 1) (ret := (some .long)) (by decide) rfl ?_
  intro p e s m args below meth c s₁ Bd hml hv
  obtain ⟨rfl, hH, hK⟩ := hv
  subst hH
  have hx := Bd.exec
  have hb := Bd.bytes
  have hr := Bd.returns
  have hts := atoms_spec (ws := w_Ta_productA) Bd.pre
  have hown : s.vm.findClass "BallotBoard$Tally" = some m.cls := findClass_of_methodNamed Bd.named
  have hlocks := Bd.notSynchronized
  have hS : va_S (fun _ => False) s.heap s.heap [] := va_S.rf
  have hl := lv_entry ([.ref t0]) (n := 1) (Nat.le_of_ble_eq_true rfl)
  rw [lg_entry_eq]
  generalize (lg_sl ([.ref t0]) ++ List.replicate (1 - (lg_sl ([.ref t0])).length) Slot.unset).toArray = ls at hl ⊢
  have hl : lv_has ls 1 [(0, .ref t0)] := hl
  refine lv_aload_n hx hb d_Ta_productA_0 rfl (lv_at hl 0 rfl) ?_
  refine va_get (D := (dC, dI)) (ci := 4) (v := .long (lN pa)) (C := "BallotBoard$Tally") (T := F_Ta) (N := 14) hx hb hts (fun w9 h9 => List.mem_cons_of_mem _ (i_Ta w9 h9)) hown hK hP 0 rfl rfl 11 (by decide) (hts _ (List.mem_cons_of_mem _ gk_103)) (fun _ h9 => h9) rfl d_Ta_productA_1 ?_
  exact W.lret (v := (lN pa)) hx hb hr (fun t ht hW => ⟨⟨_, (), rfl, rfl, ht⟩, hS.F ht⟩) hS.2.2 d_Ta_productA_4
abbrev b_Ta_productB : ByteArray := prog_8_method_17_code
abbrev y_Ta_productB : MethodName := ⟨"BallotBoard$Tally", "productB", "()J"⟩
abbrev w_Ta_productB : List Cond := .code y_Ta_productB b_Ta_productB 1 (some .long) :: gw
theorem d_Ta_productB_0 : decode b_Ta_productB 0 = .ok (.aload_n 0, 1) := by decide +kernel
theorem d_Ta_productB_1 : decode b_Ta_productB 1 = .ok (.getfield 51, 3) := by decide +kernel
theorem d_Ta_productB_4 : decode b_Ta_productB 4 = .ok (.lreturn, 1) := by decide +kernel
set_option maxHeartbeats 8000000 in
set_option maxRecDepth 100000 in
theorem c_Ta_productB (l : Launch) (H0 : Heap) (dC : Nat → ClassId) (dI : Nat → Nat → Nat) (cJ cI : ClassId) (t0 ka aa ba sa : Nat) (gv : Value) (ko ao bo so : Nat → Nat) (tn kc bc shc kp shp pa pb : Nat) (sht : Int32) (hP : va_P (dC, dI) classes (tl_ws t0 ka aa ba sa gv cJ ko ao bo so tn kc bc shc kp shp pa pb sht) H0)  : Met l y_Ta_productB w_Ta_productB ({ frames := 0, cells := 0, slots := 0, locals := 0 }) (va_Pc [.ref t0] (fun U => U.heap = H0 ∧ va_K (dC, dI) classes [(cJ, .long), (cI, .int)] U)) (va_Ql (fun (r : Int64) (_ : Unit) => r = lN pb) (fun _ t => t.heap = H0) (fun _ => False)) 0 0 (fun _ => False) := by
  refine Met.ofW (cc := b_Ta_productB) (maxL := 1) (ret := (some .long)) (by decide) rfl ?_
  intro p e s m args below meth c s₁ Bd hml hv
  obtain ⟨rfl, hH, hK⟩ := hv
  subst hH
  have hx := Bd.exec
  have hb := Bd.bytes
  have hr := Bd.returns
  have hts := atoms_spec (ws := w_Ta_productB) Bd.pre
  have hown : s.vm.findClass "BallotBoard$Tally" = some m.cls := findClass_of_methodNamed Bd.named
  have hlocks := Bd.notSynchronized
  have hS : va_S (fun _ => False) s.heap s.heap [] := va_S.rf
  have hl := lv_entry ([.ref t0]) (n := 1) (Nat.le_of_ble_eq_true rfl)
  rw [lg_entry_eq]
  generalize (lg_sl ([.ref t0]) ++ List.replicate (1 - (lg_sl ([.ref t0])).length) Slot.unset).toArray = ls at hl ⊢
  have hl : lv_has ls 1 [(0, .ref t0)] := hl
  refine lv_aload_n hx hb d_Ta_productB_0 rfl (lv_at hl 0 rfl) ?_
  refine va_get (D := (dC, dI)) (ci := 4) (v := .long (lN pb)) (C := "BallotBoard$Tally") (T := F_Ta) (N := 14) hx hb hts (fun w9 h9 => List.mem_cons_of_mem _ (i_Ta w9 h9)) hown hK hP 0 rfl rfl 12 (by decide) (hts _ (List.mem_cons_of_mem _ gk_104)) (fun _ h9 => h9) rfl d_Ta_productB_1 ?_
  exact W.lret (v := (lN pb)) hx hb hr (fun t ht hW => ⟨⟨_, (), rfl, rfl, ht⟩, hS.F ht⟩) hS.2.2 d_Ta_productB_4
abbrev b_Ta_isShut : ByteArray := prog_8_method_8_code
abbrev y_Ta_isShut : MethodName := ⟨"BallotBoard$Tally", "isShut", "()Z"⟩
abbrev w_Ta_isShut : List Cond := .code y_Ta_isShut b_Ta_isShut 1 (some .boolean) :: gw
theorem d_Ta_isShut_0 : decode b_Ta_isShut 0 = .ok (.aload_n 0, 1) := by decide +kernel
theorem d_Ta_isShut_1 : decode b_Ta_isShut 1 = .ok (.getfield 54, 3) := by decide +kernel
theorem d_Ta_isShut_4 : decode b_Ta_isShut 4 = .ok (.ireturn, 1) := by decide +kernel
set_option maxHeartbeats 8000000 in
set_option maxRecDepth 100000 in
theorem c_Ta_isShut (l : Launch) (H0 : Heap) (dC : Nat → ClassId) (dI : Nat → Nat → Nat) (cJ cI : ClassId) (t0 ka aa ba sa : Nat) (gv : Value) (ko ao bo so : Nat → Nat) (tn kc bc shc kp shp pa pb : Nat) (sht : Int32) (hP : va_P (dC, dI) classes (tl_ws t0 ka aa ba sa gv cJ ko ao bo so tn kc bc shc kp shp pa pb sht) H0) (hsh : sht = 0 ∨ sht = 1) : Met l y_Ta_isShut w_Ta_isShut ({ frames := 0, cells := 0, slots := 0, locals := 0 }) (va_Pc [.ref t0] (fun U => U.heap = H0 ∧ va_K (dC, dI) classes [(cJ, .long), (cI, .int)] U)) (va_Qi (fun (r : Int32) (_ : Unit) => bz r (sht = 1)) (fun _ t => t.heap = H0) (fun _ => False)) 0 0 (fun _ => False) := by
  refine Met.ofW (cc := b_Ta_isShut) (maxL := 1) (ret := (some .boolean)) (by decide) rfl ?_
  intro p e s m args below meth c s₁ Bd hml hv
  obtain ⟨rfl, hH, hK⟩ := hv
  subst hH
  have hx := Bd.exec
  have hb := Bd.bytes
  have hr := Bd.returns
  have hts := atoms_spec (ws := w_Ta_isShut) Bd.pre
  have hown : s.vm.findClass "BallotBoard$Tally" = some m.cls := findClass_of_methodNamed Bd.named
  have hlocks := Bd.notSynchronized
  have hS : va_S (fun _ => False) s.heap s.heap [] := va_S.rf
  have hl := lv_entry ([.ref t0]) (n := 1) (Nat.le_of_ble_eq_true rfl)
  rw [lg_entry_eq]
  generalize (lg_sl ([.ref t0]) ++ List.replicate (1 - (lg_sl ([.ref t0])).length) Slot.unset).toArray = ls at hl ⊢
  have hl : lv_has ls 1 [(0, .ref t0)] := hl
  refine lv_aload_n hx hb d_Ta_isShut_0 rfl (lv_at hl 0 rfl) ?_
  refine va_get (D := (dC, dI)) (ci := 4) (v := .int sht) (C := "BallotBoard$Tally") (T := F_Ta) (N := 14) hx hb hts (fun w9 h9 => List.mem_cons_of_mem _ (i_Ta w9 h9)) hown hK hP 0 rfl rfl 13 (by decide) (hts _ (List.mem_cons_of_mem _ gk_105)) (fun _ h9 => h9) rfl d_Ta_isShut_1 ?_
  exact W.zret (v := sht) hx hb hr (by rcases hsh with h | h <;> rw [h] <;> decide) (fun t ht hW => ⟨⟨_, (), rfl, (by rcases hsh with h | h <;> rw [h]; exact bz_0 (by decide); exact bz_1 rfl), ht⟩, hS.F ht⟩) hS.2.2 d_Ta_isShut_4
abbrev b_Ta_group : ByteArray := prog_8_method_3_code
abbrev y_Ta_group : MethodName := ⟨"BallotBoard$Tally", "group", "()LBallotBoard$Group;"⟩
abbrev w_Ta_group : List Cond := .code y_Ta_group b_Ta_group 1 (some (.object "BallotBoard$Group")) :: gw
theorem d_Ta_group_0 : decode b_Ta_group 0 = .ok (.aload_n 0, 1) := by decide +kernel
theorem d_Ta_group_1 : decode b_Ta_group 1 = .ok (.getfield 24, 3) := by decide +kernel
theorem d_Ta_group_4 : decode b_Ta_group 4 = .ok (.areturn, 1) := by decide +kernel
set_option maxHeartbeats 8000000 in
set_option maxRecDepth 100000 in
theorem c_Ta_group (l : Launch) (H0 : Heap) (dC : Nat → ClassId) (dI : Nat → Nat → Nat) (cJ cI : ClassId) (t0 ka aa ba sa g0 : Nat) (ko ao bo so : Nat → Nat) (tn kc bc shc kp shp pa pb : Nat) (sht : Int32) (hP : va_P (dC, dI) classes (tl_ws t0 ka aa ba sa (.ref g0) cJ ko ao bo so tn kc bc shc kp shp pa pb sht) H0)  : Met l y_Ta_group w_Ta_group ({ frames := 0, cells := 0, slots := 0, locals := 0 }) (va_Pc [.ref t0] (fun U => U.heap = H0 ∧ va_K (dC, dI) classes [(cJ, .long), (cI, .int)] U)) (va_Qr (fun _ : Unit => True) (fun _ a t => a = g0 ∧ t.heap = H0) (fun _ => False)) 0 0 (fun _ => False) := by
  refine Met.ofW (cc := b_Ta_group) (maxL := 1) (ret := (some (.object "BallotBoard$Group"))) (by decide) rfl ?_
  intro p e s m args below meth c s₁ Bd hml hv
  obtain ⟨rfl, hH, hK⟩ := hv
  subst hH
  have hx := Bd.exec
  have hb := Bd.bytes
  have hr := Bd.returns
  have hts := atoms_spec (ws := w_Ta_group) Bd.pre
  have hown : s.vm.findClass "BallotBoard$Tally" = some m.cls := findClass_of_methodNamed Bd.named
  have hlocks := Bd.notSynchronized
  have hS : va_S (fun _ => False) s.heap s.heap [] := va_S.rf
  have hl := lv_entry ([.ref t0]) (n := 1) (Nat.le_of_ble_eq_true rfl)
  rw [lg_entry_eq]
  generalize (lg_sl ([.ref t0]) ++ List.replicate (1 - (lg_sl ([.ref t0])).length) Slot.unset).toArray = ls at hl ⊢
  have hl : lv_has ls 1 [(0, .ref t0)] := hl
  refine lv_aload_n hx hb d_Ta_group_0 rfl (lv_at hl 0 rfl) ?_
  refine va_get (D := (dC, dI)) (ci := 4) (v := .ref g0) (C := "BallotBoard$Tally") (T := F_Ta) (N := 14) hx hb hts (fun w9 h9 => List.mem_cons_of_mem _ (i_Ta w9 h9)) hown hK hP 0 rfl rfl 4 (by decide) (hts _ (List.mem_cons_of_mem _ gk_96)) (fun _ h9 => h9) rfl d_Ta_group_1 ?_
  exact W.aret (v := .ref g0) hx hb hr (Or.inl ⟨_, rfl⟩) (Or.inr ⟨_, rfl⟩) (fun t ht hW => ⟨⟨(), _, rfl, trivial, rfl, ht⟩, hS.F ht⟩) hS.2.2 d_Ta_group_4
abbrev b_Ta_hasTrustee : ByteArray := prog_8_method_9_code
abbrev y_Ta_hasTrustee : MethodName := ⟨"BallotBoard$Tally", "hasTrustee", "(I)Z"⟩
abbrev w_Ta_hasTrustee : List Cond := .code y_Ta_hasTrustee b_Ta_hasTrustee 2 (some .boolean) :: gw
theorem d_Ta_hasTrustee_0 : decode b_Ta_hasTrustee 0 = .ok (.iload_n 1, 1) := by decide +kernel
theorem d_Ta_hasTrustee_1 : decode b_Ta_hasTrustee 1 = .ok (.ifCond .lt 15, 3) := by decide +kernel
theorem d_Ta_hasTrustee_4 : decode b_Ta_hasTrustee 4 = .ok (.iload_n 1, 1) := by decide +kernel
theorem d_Ta_hasTrustee_5 : decode b_Ta_hasTrustee 5 = .ok (.aload_n 0, 1) := by decide +kernel
theorem d_Ta_hasTrustee_6 : decode b_Ta_hasTrustee 6 = .ok (.getfield 28, 3) := by decide +kernel
theorem d_Ta_hasTrustee_9 : decode b_Ta_hasTrustee 9 = .ok (.if_icmp .ge 7, 3) := by decide +kernel
theorem d_Ta_hasTrustee_12 : decode b_Ta_hasTrustee 12 = .ok (.iconst 1, 1) := by decide +kernel
theorem d_Ta_hasTrustee_13 : decode b_Ta_hasTrustee 13 = .ok (.goto 4, 3) := by decide +kernel
theorem d_Ta_hasTrustee_16 : decode b_Ta_hasTrustee 16 = .ok (.iconst 0, 1) := by decide +kernel
theorem d_Ta_hasTrustee_17 : decode b_Ta_hasTrustee 17 = .ok (.ireturn, 1) := by decide +kernel
set_option maxHeartbeats 8000000 in
set_option maxRecDepth 100000 in
theorem c_Ta_hasTrustee (l : Launch) (H0 : Heap) (dC : Nat → ClassId) (dI : Nat → Nat → Nat) (cJ cI : ClassId) (t0 ka aa ba sa : Nat) (gv : Value) (ko ao bo so : Nat → Nat) (tn kc bc shc kp shp pa pb : Nat) (sht : Int32) (x1 : Int32) (hP : va_P (dC, dI) classes (tl_ws t0 ka aa ba sa gv cJ ko ao bo so tn kc bc shc kp shp pa pb sht) H0) (htn : tn ≤ 4) : Met l y_Ta_hasTrustee w_Ta_hasTrustee ({ frames := 0, cells := 0, slots := 0, locals := 0 }) (va_Pc [.ref t0, .int x1] (fun U => U.heap = H0 ∧ va_K (dC, dI) classes [(cJ, .long), (cI, .int)] U)) (va_Qi (fun (r : Int32) (_ : Unit) => bz r (inN x1 tn)) (fun _ t => t.heap = H0) (fun _ => False)) 0 0 (fun _ => False) := by
  refine Met.ofW (cc := b_Ta_hasTrustee) (maxL := 2) (ret := (some .boolean)) (by decide) rfl ?_
  intro p e s m args below meth c s₁ Bd hml hv
  obtain ⟨rfl, hH, hK⟩ := hv
  subst hH
  have hx := Bd.exec
  have hb := Bd.bytes
  have hr := Bd.returns
  have hts := atoms_spec (ws := w_Ta_hasTrustee) Bd.pre
  have hown : s.vm.findClass "BallotBoard$Tally" = some m.cls := findClass_of_methodNamed Bd.named
  have hlocks := Bd.notSynchronized
  have hS : va_S (fun _ => False) s.heap s.heap [] := va_S.rf
  have hl := lv_entry ([.ref t0, .int x1]) (n := 2) (Nat.le_of_ble_eq_true rfl)
  rw [lg_entry_eq]
  generalize (lg_sl ([.ref t0, .int x1]) ++ List.replicate (2 - (lg_sl ([.ref t0, .int x1])).length) Slot.unset).toArray = ls at hl ⊢
  have hl : lv_has ls 2 [(0, .ref t0), (1, .int x1)] := hl
  refine lv_iload_n hx hb d_Ta_hasTrustee_0 rfl (lv_at hl 1 rfl) ?_
  refine lv_if_lt (tgt := 16) hx hb d_Ta_hasTrustee_1 (by decide) (fun c_1 => ?_) (fun c_1 => ?_)
  · -- taken
    have hbad : ¬ inN x1 tn := inN_neg (by omega) c_1
    refine lv_iconst (v := 0) hx hb d_Ta_hasTrustee_16 (by decide) ?_
    exact W.zret (v := 0) hx hb hr (by decide) (fun t ht hW => ⟨⟨_, (), rfl, (bz_0 hbad), ht⟩, hS.F ht⟩) hS.2.2 d_Ta_hasTrustee_17
  · -- not taken
    obtain ⟨I, hI31, rfl⟩ := i_nn c_1
    refine lv_iload_n hx hb d_Ta_hasTrustee_4 rfl (lv_at hl 1 rfl) ?_
    refine lv_aload_n hx hb d_Ta_hasTrustee_5 rfl (lv_at hl 0 rfl) ?_
    refine va_get (D := (dC, dI)) (ci := 4) (v := .int (nI tn)) (C := "BallotBoard$Tally") (T := F_Ta) (N := 14) hx hb hts (fun w9 h9 => List.mem_cons_of_mem _ (i_Ta w9 h9)) hown hK hP 0 rfl rfl 5 (by decide) (hts _ (List.mem_cons_of_mem _ gk_97)) (fun _ h9 => h9) rfl d_Ta_hasTrustee_6 ?_
    refine lv_icmp_ge (tgt := 16) hx hb d_Ta_hasTrustee_9 (by decide) (fun c_2 => ?_) (fun c_2 => ?_)
    · -- taken
      have hbad : ¬ inN (nI I) tn := inN_big hI31 (by omega) ((nI_leI (by omega) hI31).mp c_2)
      refine lv_iconst (v := 0) hx hb d_Ta_hasTrustee_16 (by decide) ?_
      exact W.zret (v := 0) hx hb hr (by decide) (fun t ht hW => ⟨⟨_, (), rfl, (bz_0 hbad), ht⟩, hS.F ht⟩) hS.2.2 d_Ta_hasTrustee_17
    · -- not taken
      have hgood : inN (nI I) tn := ⟨I, rfl, Nat.lt_of_not_le (fun h => c_2 ((nI_leI (by omega) hI31).mpr h))⟩
      refine lv_iconst (v := 1) hx hb d_Ta_hasTrustee_12 (by decide) ?_
      refine lv_goto (tgt := 17) hx hb d_Ta_hasTrustee_13 (by decide) ?_
      exact W.zret (v := 1) hx hb hr (by decide) (fun t ht hW => ⟨⟨_, (), rfl, (bz_1 hgood), ht⟩, hS.F ht⟩) hS.2.2 d_Ta_hasTrustee_17
abbrev b_Ta_hasKey : ByteArray := prog_8_method_10_code
abbrev y_Ta_hasKey : MethodName := ⟨"BallotBoard$Tally", "hasKey", "(I)Z"⟩
abbrev w_Ta_hasKey : List Cond := .code y_Ta_hasKey b_Ta_hasKey 2 (some .boolean) :: gw
theorem d_Ta_hasKey_0 : decode b_Ta_hasKey 0 = .ok (.aload_n 0, 1) := by decide +kernel
theorem d_Ta_hasKey_1 : decode b_Ta_hasKey 1 = .ok (.iload_n 1, 1) := by decide +kernel
theorem d_Ta_hasKey_2 : decode b_Ta_hasKey 2 = .ok (.invokevirtual 58, 3) := by decide +kernel
theorem d_Ta_hasKey_5 : decode b_Ta_hasKey 5 = .ok (.ifCond .eq 18, 3) := by decide +kernel
theorem d_Ta_hasKey_8 : decode b_Ta_hasKey 8 = .ok (.aload_n 0, 1) := by decide +kernel
theorem d_Ta_hasKey_9 : decode b_Ta_hasKey 9 = .ok (.getfield 9, 3) := by decide +kernel
theorem d_Ta_hasKey_12 : decode b_Ta_hasKey 12 = .ok (.iload_n 1, 1) := by decide +kernel
theorem d_Ta_hasKey_13 : decode b_Ta_hasKey 13 = .ok (.laload, 1) := by decide +kernel
theorem d_Ta_hasKey_14 : decode b_Ta_hasKey 14 = .ok (.lconst 0, 1) := by decide +kernel
theorem d_Ta_hasKey_15 : decode b_Ta_hasKey 15 = .ok (.lcmp, 1) := by decide +kernel
theorem d_Ta_hasKey_16 : decode b_Ta_hasKey 16 = .ok (.ifCond .eq 7, 3) := by decide +kernel
theorem d_Ta_hasKey_19 : decode b_Ta_hasKey 19 = .ok (.iconst 1, 1) := by decide +kernel
theorem d_Ta_hasKey_20 : decode b_Ta_hasKey 20 = .ok (.goto 4, 3) := by decide +kernel
theorem d_Ta_hasKey_23 : decode b_Ta_hasKey 23 = .ok (.iconst 0, 1) := by decide +kernel
theorem d_Ta_hasKey_24 : decode b_Ta_hasKey 24 = .ok (.ireturn, 1) := by decide +kernel
set_option maxHeartbeats 8000000 in
set_option maxRecDepth 100000 in
theorem c_Ta_hasKey (l : Launch) (H0 : Heap) (dC : Nat → ClassId) (dI : Nat → Nat → Nat) (cJ cI : ClassId) (t0 ka aa ba sa : Nat) (gv : Value) (ko ao bo so : Nat → Nat) (tn kc bc shc kp shp pa pb : Nat) (sht : Int32) (x1 : Int32) (hP : va_P (dC, dI) classes (tl_ws t0 ka aa ba sa gv cJ ko ao bo so tn kc bc shc kp shp pa pb sht) H0) (htn : tn ≤ 4) (hko : ∀ j, ko j < 2 ^ 61) : Met l y_Ta_hasKey w_Ta_hasKey ({ frames := 1, cells := 0, slots := 0, locals := 21 }) (va_Pc [.ref t0, .int x1] (fun U => U.heap = H0 ∧ va_K (dC, dI) classes [(cJ, .long), (cI, .int)] U)) (va_Qi (fun (r : Int32) (_ : Unit) => bz r (∃ I, x1 = nI I ∧ I < tn ∧ ko I ≠ 0)) (fun _ t => t.heap = H0) (fun _ => False)) 0 0 (fun _ => False) := by
  refine Met.ofW (cc := b_Ta_hasKey) (maxL := 2) (ret := (some .boolean)) (by decide) rfl ?_
  intro p e s m args below meth c s₁ Bd hml hv
  obtain ⟨rfl, hH, hK⟩ := hv
  subst hH
  have hx := Bd.exec
  have hb := Bd.bytes
  have hr := Bd.returns
  have hts := atoms_spec (ws := w_Ta_hasKey) Bd.pre
  have hown : s.vm.findClass "BallotBoard$Tally" = some m.cls := findClass_of_methodNamed Bd.named
  have hlocks := Bd.notSynchronized
  have hS : va_S (fun _ => False) s.heap s.heap [] := va_S.rf
  have hl := lv_entry ([.ref t0, .int x1]) (n := 2) (Nat.le_of_ble_eq_true rfl)
  rw [lg_entry_eq]
  generalize (lg_sl ([.ref t0, .int x1]) ++ List.replicate (2 - (lg_sl ([.ref t0, .int x1])).length) Slot.unset).toArray = ls at hl ⊢
  have hl : lv_has ls 2 [(0, .ref t0), (1, .int x1)] := hl
  refine lv_aload_n hx hb d_Ta_hasKey_0 rfl (lv_at hl 0 rfl) ?_
  refine lv_iload_n hx hb d_Ta_hasKey_1 rfl (lv_at hl 1 rfl) ?_
  have hPc := hP.sub (ws' := (tl_ws t0 ka aa ba sa gv cJ ko ao bo so tn kc bc shc kp shp pa pb sht)) [0, 1, 2, 3, 4] rfl
  have hKc := hK.sub (tys' := [(cJ, .long), (cI, .int)]) [0, 1] rfl
  refine va_calli (va_runV (As := [.int x1]) (rest := []) ⟨hx, hb, hml, hown, hts⟩ (c_Ta_hasTrustee l s.heap dC dI cJ cI t0 ka aa ba sa gv ko ao bo so tn kc bc shc kp shp pa pb sht x1 hPc (by omega)) (cwV 1 hts (gw_V gk_412 gk_413 gk_414 gk_5 gk_415) rfl rfl rfl (by decide +kernel) ⟨Nat.le_of_ble_eq_true rfl, Nat.le_of_ble_eq_true rfl⟩) ⟨fun a U g mk q => ⟨q.1, q.2.1, va_K.moved (u := U) (U := U.calling g mk a) (Vm.Alike.refl U.vm) q.2.2⟩, va_recv hK hP (ci := 4) (q0 := 0) rfl rfl, fun U hU hW => ⟨rfl, hU, va_K.moved hW.alike hKc⟩⟩ rfl rfl hl.1 rfl (lv_room (Nat.le_of_ble_eq_true rfl)) d_Ta_hasKey_2 ⟨Nat.le_of_ble_eq_true rfl, Nat.le_of_ble_eq_true rfl⟩) hS (fun q _ h => h.elim) (fun q h => h.elim) (fun r2 u9 t9 H1 locs ht hvm hw hB hz1 hk1 hS => ?_)
  obtain rfl : s.heap = H1 := hB.symm.trans ht
  have h2 := hw
  refine lv_if_eq (tgt := 23) hx hb d_Ta_hasKey_5 (by decide) (fun c_1 => ?_) (fun c_1 => ?_)
  · -- taken
    have hbad : ¬ (∃ I, x1 = nI I ∧ I < tn ∧ ko I ≠ 0) := fun ⟨I, h1, h2_, _⟩ => bz_f h2 c_1 ⟨I, h1, h2_⟩
    refine lv_iconst (v := 0) hx hb d_Ta_hasKey_23 (by decide) ?_
    exact W.zret (v := 0) hx hb hr (by decide) (fun t ht hW => ⟨⟨_, (), rfl, (bz_0 hbad), ht⟩, hS.F ht⟩) hS.2.2 d_Ta_hasKey_24
  · -- not taken
    have b2 := bz_t h2 c_1
    obtain ⟨I, rfl, hIn⟩ := b2
    refine lv_aload_n hx hb d_Ta_hasKey_8 rfl (lv_at hl 0 rfl) ?_
    refine va_get (D := (dC, dI)) (ci := 4) (v := .ref ka) (C := "BallotBoard$Tally") (T := F_Ta) (N := 14) hx hb hts (fun w9 h9 => List.mem_cons_of_mem _ (i_Ta w9 h9)) hown hK hP 0 rfl rfl 0 (by decide) (hts _ (List.mem_cons_of_mem _ gk_92)) (fun _ h9 => h9) rfl d_Ta_hasKey_9 ?_
    refine lv_iload_n hx hb d_Ta_hasKey_12 rfl (lv_at hl 1 rfl) ?_
    refine va_lald hx hb hK hP 1 0 rfl rfl (vp_in_nI (by omega) (by omega)) d_Ta_hasKey_13 ?_
    rw [show (lF ko (nI I : Int32).toNatClampNeg : Int64) = lN (ko I) from by rw [nI_clamp (by omega)]; rfl]
    refine lv_lconst (v := 0) hx hb d_Ta_hasKey_14 (by decide) ?_
    refine W.lcmp hx hb d_Ta_hasKey_15 ?_
    refine lv_if_eq (tgt := 23) hx hb d_Ta_hasKey_16 (by decide) (fun c_2 => ?_) (fun c_2 => ?_)
    · -- taken
      have hbad : ¬ (∃ J, nI I = nI J ∧ J < tn ∧ ko J ≠ 0) := by
        rintro ⟨J, e1, h1, h9⟩
        have e3 := nI_inj (by omega) (by omega) e1
        subst e3
        have := hko I
        exact h9 ((cmpe (by omega) 0 (by omega) rfl).mp c_2)
      refine lv_iconst (v := 0) hx hb d_Ta_hasKey_23 (by decide) ?_
      exact W.zret (v := 0) hx hb hr (by decide) (fun t ht hW => ⟨⟨_, (), rfl, (bz_0 hbad), ht⟩, hS.F ht⟩) hS.2.2 d_Ta_hasKey_24
    · -- not taken
      have hgood : (∃ J, nI I = nI J ∧ J < tn ∧ ko J ≠ 0) := ⟨I, rfl, hIn, fun h => c_2 ((cmpe (by have := hko I; omega) 0 (by omega) rfl).mpr h)⟩
      refine lv_iconst (v := 1) hx hb d_Ta_hasKey_19 (by decide) ?_
      refine lv_goto (tgt := 24) hx hb d_Ta_hasKey_20 (by decide) ?_
      exact W.zret (v := 1) hx hb hr (by decide) (fun t ht hW => ⟨⟨_, (), rfl, (bz_1 hgood), ht⟩, hS.F ht⟩) hS.2.2 d_Ta_hasKey_24
abbrev b_Ta_hasShare : ByteArray := prog_8_method_11_code
abbrev y_Ta_hasShare : MethodName := ⟨"BallotBoard$Tally", "hasShare", "(I)Z"⟩
abbrev w_Ta_hasShare : List Cond := .code y_Ta_hasShare b_Ta_hasShare 2 (some .boolean) :: gw
theorem d_Ta_hasShare_0 : decode b_Ta_hasShare 0 = .ok (.aload_n 0, 1) := by decide +kernel
theorem d_Ta_hasShare_1 : decode b_Ta_hasShare 1 = .ok (.iload_n 1, 1) := by decide +kernel
theorem d_Ta_hasShare_2 : decode b_Ta_hasShare 2 = .ok (.invokevirtual 58, 3) := by decide +kernel
theorem d_Ta_hasShare_5 : decode b_Ta_hasShare 5 = .ok (.ifCond .eq 18, 3) := by decide +kernel
theorem d_Ta_hasShare_8 : decode b_Ta_hasShare 8 = .ok (.aload_n 0, 1) := by decide +kernel
theorem d_Ta_hasShare_9 : decode b_Ta_hasShare 9 = .ok (.getfield 15, 3) := by decide +kernel
theorem d_Ta_hasShare_12 : decode b_Ta_hasShare 12 = .ok (.iload_n 1, 1) := by decide +kernel
theorem d_Ta_hasShare_13 : decode b_Ta_hasShare 13 = .ok (.laload, 1) := by decide +kernel
theorem d_Ta_hasShare_14 : decode b_Ta_hasShare 14 = .ok (.lconst 0, 1) := by decide +kernel
theorem d_Ta_hasShare_15 : decode b_Ta_hasShare 15 = .ok (.lcmp, 1) := by decide +kernel
theorem d_Ta_hasShare_16 : decode b_Ta_hasShare 16 = .ok (.ifCond .eq 7, 3) := by decide +kernel
theorem d_Ta_hasShare_19 : decode b_Ta_hasShare 19 = .ok (.iconst 1, 1) := by decide +kernel
theorem d_Ta_hasShare_20 : decode b_Ta_hasShare 20 = .ok (.goto 4, 3) := by decide +kernel
theorem d_Ta_hasShare_23 : decode b_Ta_hasShare 23 = .ok (.iconst 0, 1) := by decide +kernel
theorem d_Ta_hasShare_24 : decode b_Ta_hasShare 24 = .ok (.ireturn, 1) := by decide +kernel
set_option maxHeartbeats 8000000 in
set_option maxRecDepth 100000 in
theorem c_Ta_hasShare (l : Launch) (H0 : Heap) (dC : Nat → ClassId) (dI : Nat → Nat → Nat) (cJ cI : ClassId) (t0 ka aa ba sa : Nat) (gv : Value) (ko ao bo so : Nat → Nat) (tn kc bc shc kp shp pa pb : Nat) (sht : Int32) (x1 : Int32) (hP : va_P (dC, dI) classes (tl_ws t0 ka aa ba sa gv cJ ko ao bo so tn kc bc shc kp shp pa pb sht) H0) (htn : tn ≤ 4) (hso : ∀ j, so j < 2 ^ 61) : Met l y_Ta_hasShare w_Ta_hasShare ({ frames := 1, cells := 0, slots := 0, locals := 21 }) (va_Pc [.ref t0, .int x1] (fun U => U.heap = H0 ∧ va_K (dC, dI) classes [(cJ, .long), (cI, .int)] U)) (va_Qi (fun (r : Int32) (_ : Unit) => bz r (∃ I, x1 = nI I ∧ I < tn ∧ so I ≠ 0)) (fun _ t => t.heap = H0) (fun _ => False)) 0 0 (fun _ => False) := by
  refine Met.ofW (cc := b_Ta_hasShare) (maxL := 2) (ret := (some .boolean)) (by decide) rfl ?_
  intro p e s m args below meth c s₁ Bd hml hv
  obtain ⟨rfl, hH, hK⟩ := hv
  subst hH
  have hx := Bd.exec
  have hb := Bd.bytes
  have hr := Bd.returns
  have hts := atoms_spec (ws := w_Ta_hasShare) Bd.pre
  have hown : s.vm.findClass "BallotBoard$Tally" = some m.cls := findClass_of_methodNamed Bd.named
  have hlocks := Bd.notSynchronized
  have hS : va_S (fun _ => False) s.heap s.heap [] := va_S.rf
  have hl := lv_entry ([.ref t0, .int x1]) (n := 2) (Nat.le_of_ble_eq_true rfl)
  rw [lg_entry_eq]
  generalize (lg_sl ([.ref t0, .int x1]) ++ List.replicate (2 - (lg_sl ([.ref t0, .int x1])).length) Slot.unset).toArray = ls at hl ⊢
  have hl : lv_has ls 2 [(0, .ref t0), (1, .int x1)] := hl
  refine lv_aload_n hx hb d_Ta_hasShare_0 rfl (lv_at hl 0 rfl) ?_
  refine lv_iload_n hx hb d_Ta_hasShare_1 rfl (lv_at hl 1 rfl) ?_
  have hPc := hP.sub (ws' := (tl_ws t0 ka aa ba sa gv cJ ko ao bo so tn kc bc shc kp shp pa pb sht)) [0, 1, 2, 3, 4] rfl
  have hKc := hK.sub (tys' := [(cJ, .long), (cI, .int)]) [0, 1] rfl
  refine va_calli (va_runV (As := [.int x1]) (rest := []) ⟨hx, hb, hml, hown, hts⟩ (c_Ta_hasTrustee l s.heap dC dI cJ cI t0 ka aa ba sa gv ko ao bo so tn kc bc shc kp shp pa pb sht x1 hPc (by omega)) (cwV 1 hts (gw_V gk_412 gk_413 gk_414 gk_5 gk_415) rfl rfl rfl (by decide +kernel) ⟨Nat.le_of_ble_eq_true rfl, Nat.le_of_ble_eq_true rfl⟩) ⟨fun a U g mk q => ⟨q.1, q.2.1, va_K.moved (u := U) (U := U.calling g mk a) (Vm.Alike.refl U.vm) q.2.2⟩, va_recv hK hP (ci := 4) (q0 := 0) rfl rfl, fun U hU hW => ⟨rfl, hU, va_K.moved hW.alike hKc⟩⟩ rfl rfl hl.1 rfl (lv_room (Nat.le_of_ble_eq_true rfl)) d_Ta_hasShare_2 ⟨Nat.le_of_ble_eq_true rfl, Nat.le_of_ble_eq_true rfl⟩) hS (fun q _ h => h.elim) (fun q h => h.elim) (fun r2 u9 t9 H1 locs ht hvm hw hB hz1 hk1 hS => ?_)
  obtain rfl : s.heap = H1 := hB.symm.trans ht
  have h2 := hw
  refine lv_if_eq (tgt := 23) hx hb d_Ta_hasShare_5 (by decide) (fun c_1 => ?_) (fun c_1 => ?_)
  · -- taken
    have hbad : ¬ (∃ I, x1 = nI I ∧ I < tn ∧ so I ≠ 0) := fun ⟨I, h1, h2_, _⟩ => bz_f h2 c_1 ⟨I, h1, h2_⟩
    refine lv_iconst (v := 0) hx hb d_Ta_hasShare_23 (by decide) ?_
    exact W.zret (v := 0) hx hb hr (by decide) (fun t ht hW => ⟨⟨_, (), rfl, (bz_0 hbad), ht⟩, hS.F ht⟩) hS.2.2 d_Ta_hasShare_24
  · -- not taken
    have b2 := bz_t h2 c_1
    obtain ⟨I, rfl, hIn⟩ := b2
    refine lv_aload_n hx hb d_Ta_hasShare_8 rfl (lv_at hl 0 rfl) ?_
    refine va_get (D := (dC, dI)) (ci := 4) (v := .ref sa) (C := "BallotBoard$Tally") (T := F_Ta) (N := 14) hx hb hts (fun w9 h9 => List.mem_cons_of_mem _ (i_Ta w9 h9)) hown hK hP 0 rfl rfl 3 (by decide) (hts _ (List.mem_cons_of_mem _ gk_95)) (fun _ h9 => h9) rfl d_Ta_hasShare_9 ?_
    refine lv_iload_n hx hb d_Ta_hasShare_12 rfl (lv_at hl 1 rfl) ?_
    refine va_lald hx hb hK hP 4 0 rfl rfl (vp_in_nI (by omega) (by omega)) d_Ta_hasShare_13 ?_
    rw [show (lF so (nI I : Int32).toNatClampNeg : Int64) = lN (so I) from by rw [nI_clamp (by omega)]; rfl]
    refine lv_lconst (v := 0) hx hb d_Ta_hasShare_14 (by decide) ?_
    refine W.lcmp hx hb d_Ta_hasShare_15 ?_
    refine lv_if_eq (tgt := 23) hx hb d_Ta_hasShare_16 (by decide) (fun c_2 => ?_) (fun c_2 => ?_)
    · -- taken
      have hbad : ¬ (∃ J, nI I = nI J ∧ J < tn ∧ so J ≠ 0) := by
        rintro ⟨J, e1, h1, h9⟩
        have e3 := nI_inj (by omega) (by omega) e1
        subst e3
        have := hso I
        exact h9 ((cmpe (by omega) 0 (by omega) rfl).mp c_2)
      refine lv_iconst (v := 0) hx hb d_Ta_hasShare_23 (by decide) ?_
      exact W.zret (v := 0) hx hb hr (by decide) (fun t ht hW => ⟨⟨_, (), rfl, (bz_0 hbad), ht⟩, hS.F ht⟩) hS.2.2 d_Ta_hasShare_24
    · -- not taken
      have hgood : (∃ J, nI I = nI J ∧ J < tn ∧ so J ≠ 0) := ⟨I, rfl, hIn, fun h => c_2 ((cmpe (by have := hso I; omega) 0 (by omega) rfl).mpr h)⟩
      refine lv_iconst (v := 1) hx hb d_Ta_hasShare_19 (by decide) ?_
      refine lv_goto (tgt := 24) hx hb d_Ta_hasShare_20 (by decide) ?_
      exact W.zret (v := 1) hx hb hr (by decide) (fun t ht hW => ⟨⟨_, (), rfl, (bz_1 hgood), ht⟩, hS.F ht⟩) hS.2.2 d_Ta_hasShare_24
abbrev b_Ta_hasAllKeys : ByteArray := prog_8_method_12_code
abbrev y_Ta_hasAllKeys : MethodName := ⟨"BallotBoard$Tally", "hasAllKeys", "()Z"⟩
abbrev w_Ta_hasAllKeys : List Cond := .code y_Ta_hasAllKeys b_Ta_hasAllKeys 1 (some .boolean) :: gw
theorem d_Ta_hasAllKeys_0 : decode b_Ta_hasAllKeys 0 = .ok (.aload_n 0, 1) := by decide +kernel
theorem d_Ta_hasAllKeys_1 : decode b_Ta_hasAllKeys 1 = .ok (.getfield 28, 3) := by decide +kernel
theorem d_Ta_hasAllKeys_4 : decode b_Ta_hasAllKeys 4 = .ok (.ifCond .le 18, 3) := by decide +kernel
theorem d_Ta_hasAllKeys_7 : decode b_Ta_hasAllKeys 7 = .ok (.aload_n 0, 1) := by decide +kernel
theorem d_Ta_hasAllKeys_8 : decode b_Ta_hasAllKeys 8 = .ok (.getfield 32, 3) := by decide +kernel
theorem d_Ta_hasAllKeys_11 : decode b_Ta_hasAllKeys 11 = .ok (.aload_n 0, 1) := by decide +kernel
theorem d_Ta_hasAllKeys_12 : decode b_Ta_hasAllKeys 12 = .ok (.getfield 28, 3) := by decide +kernel
theorem d_Ta_hasAllKeys_15 : decode b_Ta_hasAllKeys 15 = .ok (.if_icmp .ne 7, 3) := by decide +kernel
theorem d_Ta_hasAllKeys_18 : decode b_Ta_hasAllKeys 18 = .ok (.iconst 1, 1) := by decide +kernel
theorem d_Ta_hasAllKeys_19 : decode b_Ta_hasAllKeys 19 = .ok (.goto 4, 3) := by decide +kernel
theorem d_Ta_hasAllKeys_22 : decode b_Ta_hasAllKeys 22 = .ok (.iconst 0, 1) := by decide +kernel
theorem d_Ta_hasAllKeys_23 : decode b_Ta_hasAllKeys 23 = .ok (.ireturn, 1) := by decide +kernel
set_option maxHeartbeats 8000000 in
set_option maxRecDepth 100000 in
theorem c_Ta_hasAllKeys (l : Launch) (H0 : Heap) (dC : Nat → ClassId) (dI : Nat → Nat → Nat) (cJ cI : ClassId) (t0 ka aa ba sa : Nat) (gv : Value) (ko ao bo so : Nat → Nat) (tn kc bc shc kp shp pa pb : Nat) (sht : Int32) (hP : va_P (dC, dI) classes (tl_ws t0 ka aa ba sa gv cJ ko ao bo so tn kc bc shc kp shp pa pb sht) H0) (htn : tn ≤ 4) (hkc : kc ≤ 4) : Met l y_Ta_hasAllKeys w_Ta_hasAllKeys ({ frames := 0, cells := 0, slots := 0, locals := 0 }) (va_Pc [.ref t0] (fun U => U.heap = H0 ∧ va_K (dC, dI) classes [(cJ, .long), (cI, .int)] U)) (va_Qi (fun (r : Int32) (_ : Unit) => bz r (0 < tn ∧ kc = tn)) (fun _ t => t.heap = H0) (fun _ => False)) 0 0 (fun _ => False) := by
  refine Met.ofW (cc := b_Ta_hasAllKeys) (maxL := 1) (ret := (some .boolean)) (by decide) rfl ?_
  intro p e s m args below meth c s₁ Bd hml hv
  obtain ⟨rfl, hH, hK⟩ := hv
  subst hH
  have hx := Bd.exec
  have hb := Bd.bytes
  have hr := Bd.returns
  have hts := atoms_spec (ws := w_Ta_hasAllKeys) Bd.pre
  have hown : s.vm.findClass "BallotBoard$Tally" = some m.cls := findClass_of_methodNamed Bd.named
  have hlocks := Bd.notSynchronized
  have hS : va_S (fun _ => False) s.heap s.heap [] := va_S.rf
  have hl := lv_entry ([.ref t0]) (n := 1) (Nat.le_of_ble_eq_true rfl)
  rw [lg_entry_eq]
  generalize (lg_sl ([.ref t0]) ++ List.replicate (1 - (lg_sl ([.ref t0])).length) Slot.unset).toArray = ls at hl ⊢
  have hl : lv_has ls 1 [(0, .ref t0)] := hl
  refine lv_aload_n hx hb d_Ta_hasAllKeys_0 rfl (lv_at hl 0 rfl) ?_
  refine va_get (D := (dC, dI)) (ci := 4) (v := .int (nI tn)) (C := "BallotBoard$Tally") (T := F_Ta) (N := 14) hx hb hts (fun w9 h9 => List.mem_cons_of_mem _ (i_Ta w9 h9)) hown hK hP 0 rfl rfl 5 (by decide) (hts _ (List.mem_cons_of_mem _ gk_97)) (fun _ h9 => h9) rfl d_Ta_hasAllKeys_1 ?_
  refine lv_if_le (tgt := 22) hx hb d_Ta_hasAllKeys_4 (by decide) (fun c_1 => ?_) (fun c_1 => ?_)
  · -- taken
    have hbad : ¬ (0 < tn ∧ kc = tn) := fun h => nI_nle h.1 (by omega) c_1
    refine lv_iconst (v := 0) hx hb d_Ta_hasAllKeys_22 (by decide) ?_
    exact W.zret (v := 0) hx hb hr (by decide) (fun t ht hW => ⟨⟨_, (), rfl, (bz_0 hbad), ht⟩, hS.F ht⟩) hS.2.2 d_Ta_hasAllKeys_23
  · -- not taken
    have h0 : 0 < tn := Nat.pos_of_ne_zero (fun h => by rw [h] at c_1; exact c_1 (by decide))
    refine lv_aload_n hx hb d_Ta_hasAllKeys_7 rfl (lv_at hl 0 rfl) ?_
    refine va_get (D := (dC, dI)) (ci := 4) (v := .int (nI kc)) (C := "BallotBoard$Tally") (T := F_Ta) (N := 14) hx hb hts (fun w9 h9 => List.mem_cons_of_mem _ (i_Ta w9 h9)) hown hK hP 0 rfl rfl 6 (by decide) (hts _ (List.mem_cons_of_mem _ gk_98)) (fun _ h9 => h9) rfl d_Ta_hasAllKeys_8 ?_
    refine lv_aload_n hx hb d_Ta_hasAllKeys_11 rfl (lv_at hl 0 rfl) ?_
    refine va_get (D := (dC, dI)) (ci := 4) (v := .int (nI tn)) (C := "BallotBoard$Tally") (T := F_Ta) (N := 14) hx hb hts (fun w9 h9 => List.mem_cons_of_mem _ (i_Ta w9 h9)) hown hK hP 0 rfl rfl 5 (by decide) (hts _ (List.mem_cons_of_mem _ gk_97)) (fun _ h9 => h9) rfl d_Ta_hasAllKeys_12 ?_
    refine lv_icmp_ne (tgt := 22) hx hb d_Ta_hasAllKeys_15 (by decide) (fun c_2 => ?_) (fun c_2 => ?_)
    · -- taken
      have hbad : ¬ (0 < tn ∧ kc = tn) := fun h => c_2 (by rw [h.2])
      refine lv_iconst (v := 0) hx hb d_Ta_hasAllKeys_22 (by decide) ?_
      exact W.zret (v := 0) hx hb hr (by decide) (fun t ht hW => ⟨⟨_, (), rfl, (bz_0 hbad), ht⟩, hS.F ht⟩) hS.2.2 d_Ta_hasAllKeys_23
    · -- not taken
      have hgood : (0 < tn ∧ kc = tn) := ⟨h0, nI_inj (by omega) (by omega) c_2⟩
      refine lv_iconst (v := 1) hx hb d_Ta_hasAllKeys_18 (by decide) ?_
      refine lv_goto (tgt := 23) hx hb d_Ta_hasAllKeys_19 (by decide) ?_
      exact W.zret (v := 1) hx hb hr (by decide) (fun t ht hW => ⟨⟨_, (), rfl, (bz_1 hgood), ht⟩, hS.F ht⟩) hS.2.2 d_Ta_hasAllKeys_23
abbrev b_Ta_hasAllShares : ByteArray := prog_8_method_13_code
abbrev y_Ta_hasAllShares : MethodName := ⟨"BallotBoard$Tally", "hasAllShares", "()Z"⟩
abbrev w_Ta_hasAllShares : List Cond := .code y_Ta_hasAllShares b_Ta_hasAllShares 1 (some .boolean) :: gw
theorem d_Ta_hasAllShares_0 : decode b_Ta_hasAllShares 0 = .ok (.aload_n 0, 1) := by decide +kernel
theorem d_Ta_hasAllShares_1 : decode b_Ta_hasAllShares 1 = .ok (.getfield 28, 3) := by decide +kernel
theorem d_Ta_hasAllShares_4 : decode b_Ta_hasAllShares 4 = .ok (.ifCond .le 18, 3) := by decide +kernel
theorem d_Ta_hasAllShares_7 : decode b_Ta_hasAllShares 7 = .ok (.aload_n 0, 1) := by decide +kernel
theorem d_Ta_hasAllShares_8 : decode b_Ta_hasAllShares 8 = .ok (.getfield 38, 3) := by decide +kernel
theorem d_Ta_hasAllShares_11 : decode b_Ta_hasAllShares 11 = .ok (.aload_n 0, 1) := by decide +kernel
theorem d_Ta_hasAllShares_12 : decode b_Ta_hasAllShares 12 = .ok (.getfield 28, 3) := by decide +kernel
theorem d_Ta_hasAllShares_15 : decode b_Ta_hasAllShares 15 = .ok (.if_icmp .ne 7, 3) := by decide +kernel
theorem d_Ta_hasAllShares_18 : decode b_Ta_hasAllShares 18 = .ok (.iconst 1, 1) := by decide +kernel
theorem d_Ta_hasAllShares_19 : decode b_Ta_hasAllShares 19 = .ok (.goto 4, 3) := by decide +kernel
theorem d_Ta_hasAllShares_22 : decode b_Ta_hasAllShares 22 = .ok (.iconst 0, 1) := by decide +kernel
theorem d_Ta_hasAllShares_23 : decode b_Ta_hasAllShares 23 = .ok (.ireturn, 1) := by decide +kernel
set_option maxHeartbeats 8000000 in
set_option maxRecDepth 100000 in
theorem c_Ta_hasAllShares (l : Launch) (H0 : Heap) (dC : Nat → ClassId) (dI : Nat → Nat → Nat) (cJ cI : ClassId) (t0 ka aa ba sa : Nat) (gv : Value) (ko ao bo so : Nat → Nat) (tn kc bc shc kp shp pa pb : Nat) (sht : Int32) (hP : va_P (dC, dI) classes (tl_ws t0 ka aa ba sa gv cJ ko ao bo so tn kc bc shc kp shp pa pb sht) H0) (htn : tn ≤ 4) (hshc : shc ≤ 4) : Met l y_Ta_hasAllShares w_Ta_hasAllShares ({ frames := 0, cells := 0, slots := 0, locals := 0 }) (va_Pc [.ref t0] (fun U => U.heap = H0 ∧ va_K (dC, dI) classes [(cJ, .long), (cI, .int)] U)) (va_Qi (fun (r : Int32) (_ : Unit) => bz r (0 < tn ∧ shc = tn)) (fun _ t => t.heap = H0) (fun _ => False)) 0 0 (fun _ => False) := by
  refine Met.ofW (cc := b_Ta_hasAllShares) (maxL := 1) (ret := (some .boolean)) (by decide) rfl ?_
  intro p e s m args below meth c s₁ Bd hml hv
  obtain ⟨rfl, hH, hK⟩ := hv
  subst hH
  have hx := Bd.exec
  have hb := Bd.bytes
  have hr := Bd.returns
  have hts := atoms_spec (ws := w_Ta_hasAllShares) Bd.pre
  have hown : s.vm.findClass "BallotBoard$Tally" = some m.cls := findClass_of_methodNamed Bd.named
  have hlocks := Bd.notSynchronized
  have hS : va_S (fun _ => False) s.heap s.heap [] := va_S.rf
  have hl := lv_entry ([.ref t0]) (n := 1) (Nat.le_of_ble_eq_true rfl)
  rw [lg_entry_eq]
  generalize (lg_sl ([.ref t0]) ++ List.replicate (1 - (lg_sl ([.ref t0])).length) Slot.unset).toArray = ls at hl ⊢
  have hl : lv_has ls 1 [(0, .ref t0)] := hl
  refine lv_aload_n hx hb d_Ta_hasAllShares_0 rfl (lv_at hl 0 rfl) ?_
  refine va_get (D := (dC, dI)) (ci := 4) (v := .int (nI tn)) (C := "BallotBoard$Tally") (T := F_Ta) (N := 14) hx hb hts (fun w9 h9 => List.mem_cons_of_mem _ (i_Ta w9 h9)) hown hK hP 0 rfl rfl 5 (by decide) (hts _ (List.mem_cons_of_mem _ gk_97)) (fun _ h9 => h9) rfl d_Ta_hasAllShares_1 ?_
  refine lv_if_le (tgt := 22) hx hb d_Ta_hasAllShares_4 (by decide) (fun c_1 => ?_) (fun c_1 => ?_)
  · -- taken
    have hbad : ¬ (0 < tn ∧ shc = tn) := fun h => nI_nle h.1 (by omega) c_1
    refine lv_iconst (v := 0) hx hb d_Ta_hasAllShares_22 (by decide) ?_
    exact W.zret (v := 0) hx hb hr (by decide) (fun t ht hW => ⟨⟨_, (), rfl, (bz_0 hbad), ht⟩, hS.F ht⟩) hS.2.2 d_Ta_hasAllShares_23
  · -- not taken
    have h0 : 0 < tn := Nat.pos_of_ne_zero (fun h => by rw [h] at c_1; exact c_1 (by decide))
    refine lv_aload_n hx hb d_Ta_hasAllShares_7 rfl (lv_at hl 0 rfl) ?_
    refine va_get (D := (dC, dI)) (ci := 4) (v := .int (nI shc)) (C := "BallotBoard$Tally") (T := F_Ta) (N := 14) hx hb hts (fun w9 h9 => List.mem_cons_of_mem _ (i_Ta w9 h9)) hown hK hP 0 rfl rfl 8 (by decide) (hts _ (List.mem_cons_of_mem _ gk_100)) (fun _ h9 => h9) rfl d_Ta_hasAllShares_8 ?_
    refine lv_aload_n hx hb d_Ta_hasAllShares_11 rfl (lv_at hl 0 rfl) ?_
    refine va_get (D := (dC, dI)) (ci := 4) (v := .int (nI tn)) (C := "BallotBoard$Tally") (T := F_Ta) (N := 14) hx hb hts (fun w9 h9 => List.mem_cons_of_mem _ (i_Ta w9 h9)) hown hK hP 0 rfl rfl 5 (by decide) (hts _ (List.mem_cons_of_mem _ gk_97)) (fun _ h9 => h9) rfl d_Ta_hasAllShares_12 ?_
    refine lv_icmp_ne (tgt := 22) hx hb d_Ta_hasAllShares_15 (by decide) (fun c_2 => ?_) (fun c_2 => ?_)
    · -- taken
      have hbad : ¬ (0 < tn ∧ shc = tn) := fun h => c_2 (by rw [h.2])
      refine lv_iconst (v := 0) hx hb d_Ta_hasAllShares_22 (by decide) ?_
      exact W.zret (v := 0) hx hb hr (by decide) (fun t ht hW => ⟨⟨_, (), rfl, (bz_0 hbad), ht⟩, hS.F ht⟩) hS.2.2 d_Ta_hasAllShares_23
    · -- not taken
      have hgood : (0 < tn ∧ shc = tn) := ⟨h0, nI_inj (by omega) (by omega) c_2⟩
      refine lv_iconst (v := 1) hx hb d_Ta_hasAllShares_18 (by decide) ?_
      refine lv_goto (tgt := 23) hx hb d_Ta_hasAllShares_19 (by decide) ?_
      exact W.zret (v := 1) hx hb hr (by decide) (fun t ht hW => ⟨⟨_, (), rfl, (bz_1 hgood), ht⟩, hS.F ht⟩) hS.2.2 d_Ta_hasAllShares_23
abbrev b_Ta_keyOf : ByteArray := prog_8_method_14_code
abbrev y_Ta_keyOf : MethodName := ⟨"BallotBoard$Tally", "keyOf", "(I)J"⟩
abbrev w_Ta_keyOf : List Cond := .code y_Ta_keyOf b_Ta_keyOf 2 (some .long) :: gw
theorem d_Ta_keyOf_0 : decode b_Ta_keyOf 0 = .ok (.aload_n 0, 1) := by decide +kernel
theorem d_Ta_keyOf_1 : decode b_Ta_keyOf 1 = .ok (.iload_n 1, 1) := by decide +kernel
theorem d_Ta_keyOf_2 : decode b_Ta_keyOf 2 = .ok (.invokevirtual 58, 3) := by decide +kernel
theorem d_Ta_keyOf_5 : decode b_Ta_keyOf 5 = .ok (.ifCond .eq 12, 3) := by decide +kernel
theorem d_Ta_keyOf_8 : decode b_Ta_keyOf 8 = .ok (.aload_n 0, 1) := by decide +kernel
theorem d_Ta_keyOf_9 : decode b_Ta_keyOf 9 = .ok (.getfield 9, 3) := by decide +kernel
theorem d_Ta_keyOf_12 : decode b_Ta_keyOf 12 = .ok (.iload_n 1, 1) := by decide +kernel
theorem d_Ta_keyOf_13 : decode b_Ta_keyOf 13 = .ok (.laload, 1) := by decide +kernel
theorem d_Ta_keyOf_14 : decode b_Ta_keyOf 14 = .ok (.goto 4, 3) := by decide +kernel
theorem d_Ta_keyOf_17 : decode b_Ta_keyOf 17 = .ok (.lconst 0, 1) := by decide +kernel
theorem d_Ta_keyOf_18 : decode b_Ta_keyOf 18 = .ok (.lreturn, 1) := by decide +kernel
set_option maxHeartbeats 8000000 in
set_option maxRecDepth 100000 in
theorem c_Ta_keyOf (l : Launch) (H0 : Heap) (dC : Nat → ClassId) (dI : Nat → Nat → Nat) (cJ cI : ClassId) (t0 ka aa ba sa : Nat) (gv : Value) (ko ao bo so : Nat → Nat) (tn kc bc shc kp shp pa pb : Nat) (sht : Int32) (I : Nat) (hP : va_P (dC, dI) classes (tl_ws t0 ka aa ba sa gv cJ ko ao bo so tn kc bc shc kp shp pa pb sht) H0) (htn : tn ≤ 4) (hI : I < tn) : Met l y_Ta_keyOf w_Ta_keyOf ({ frames := 1, cells := 0, slots := 0, locals := 21 }) (va_Pc [.ref t0, .int (nI I)] (fun U => U.heap = H0 ∧ va_K (dC, dI) classes [(cJ, .long), (cI, .int)] U)) (va_Ql (fun (r : Int64) (_ : Unit) => r = lN (ko I)) (fun _ t => t.heap = H0) (fun _ => False)) 0 0 (fun _ => False) := by
  refine Met.ofW (cc := b_Ta_keyOf) (maxL := 2) (ret := (some .long)) (by decide) rfl ?_
  intro p e s m args below meth c s₁ Bd hml hv
  obtain ⟨rfl, hH, hK⟩ := hv
  subst hH
  have hx := Bd.exec
  have hb := Bd.bytes
  have hr := Bd.returns
  have hts := atoms_spec (ws := w_Ta_keyOf) Bd.pre
  have hown : s.vm.findClass "BallotBoard$Tally" = some m.cls := findClass_of_methodNamed Bd.named
  have hlocks := Bd.notSynchronized
  have hS : va_S (fun _ => False) s.heap s.heap [] := va_S.rf
  have hl := lv_entry ([.ref t0, .int (nI I)]) (n := 2) (Nat.le_of_ble_eq_true rfl)
  rw [lg_entry_eq]
  generalize (lg_sl ([.ref t0, .int (nI I)]) ++ List.replicate (2 - (lg_sl ([.ref t0, .int (nI I)])).length) Slot.unset).toArray = ls at hl ⊢
  have hl : lv_has ls 2 [(0, .ref t0), (1, .int (nI I))] := hl
  refine lv_aload_n hx hb d_Ta_keyOf_0 rfl (lv_at hl 0 rfl) ?_
  refine lv_iload_n hx hb d_Ta_keyOf_1 rfl (lv_at hl 1 rfl) ?_
  have hPc := hP.sub (ws' := (tl_ws t0 ka aa ba sa gv cJ ko ao bo so tn kc bc shc kp shp pa pb sht)) [0, 1, 2, 3, 4] rfl
  have hKc := hK.sub (tys' := [(cJ, .long), (cI, .int)]) [0, 1] rfl
  refine va_calli (va_runV (As := [.int (nI I)]) (rest := []) ⟨hx, hb, hml, hown, hts⟩ (c_Ta_hasTrustee l s.heap dC dI cJ cI t0 ka aa ba sa gv ko ao bo so tn kc bc shc kp shp pa pb sht (nI I) hPc (by omega)) (cwV 1 hts (gw_V gk_412 gk_413 gk_414 gk_5 gk_415) rfl rfl rfl (by decide +kernel) ⟨Nat.le_of_ble_eq_true rfl, Nat.le_of_ble_eq_true rfl⟩) ⟨fun a U g mk q => ⟨q.1, q.2.1, va_K.moved (u := U) (U := U.calling g mk a) (Vm.Alike.refl U.vm) q.2.2⟩, va_recv hK hP (ci := 4) (q0 := 0) rfl rfl, fun U hU hW => ⟨rfl, hU, va_K.moved hW.alike hKc⟩⟩ rfl rfl hl.1 rfl (lv_room (Nat.le_of_ble_eq_true rfl)) d_Ta_keyOf_2 ⟨Nat.le_of_ble_eq_true rfl, Nat.le_of_ble_eq_true rfl⟩) hS (fun q _ h => h.elim) (fun q h => h.elim) (fun r2 u9 t9 H1 locs ht hvm hw hB hz1 hk1 hS => ?_)
  obtain rfl : s.heap = H1 := hB.symm.trans ht
  have h2 := hw
  refine lv_if_eq (tgt := 17) hx hb d_Ta_keyOf_5 (by decide) (fun c_1 => ?_) (fun c_1 => ?_)
  · -- taken
    exact absurd ⟨I, rfl, hI⟩ (bz_f h2 c_1)
  · -- not taken
    have b2 := bz_t h2 c_1
    refine lv_aload_n hx hb d_Ta_keyOf_8 rfl (lv_at hl 0 rfl) ?_
    refine va_get (D := (dC, dI)) (ci := 4) (v := .ref ka) (C := "BallotBoard$Tally") (T := F_Ta) (N := 14) hx hb hts (fun w9 h9 => List.mem_cons_of_mem _ (i_Ta w9 h9)) hown hK hP 0 rfl rfl 0 (by decide) (hts _ (List.mem_cons_of_mem _ gk_92)) (fun _ h9 => h9) rfl d_Ta_keyOf_9 ?_
    refine lv_iload_n hx hb d_Ta_keyOf_12 rfl (lv_at hl 1 rfl) ?_
    refine va_lald hx hb hK hP 1 0 rfl rfl (vp_in_nI (by omega) (by omega)) d_Ta_keyOf_13 ?_
    rw [show (lF ko (nI I : Int32).toNatClampNeg : Int64) = lN (ko I) from by rw [nI_clamp (by omega)]; rfl]
    refine lv_goto (tgt := 18) hx hb d_Ta_keyOf_14 (by decide) ?_
    exact W.lret (v := (lN (ko I))) hx hb hr (fun t ht hW => ⟨⟨_, (), rfl, rfl, ht⟩, hS.F ht⟩) hS.2.2 d_Ta_keyOf_18
abbrev b_Ta_commonKey : ByteArray := prog_8_method_15_code
abbrev y_Ta_commonKey : MethodName := ⟨"BallotBoard$Tally", "commonKey", "()J"⟩
abbrev w_Ta_commonKey : List Cond := .code y_Ta_commonKey b_Ta_commonKey 1 (some .long) :: gw
theorem d_Ta_commonKey_0 : decode b_Ta_commonKey 0 = .ok (.aload_n 0, 1) := by decide +kernel
theorem d_Ta_commonKey_1 : decode b_Ta_commonKey 1 = .ok (.invokevirtual 62, 3) := by decide +kernel
theorem d_Ta_commonKey_4 : decode b_Ta_commonKey 4 = .ok (.ifCond .eq 10, 3) := by decide +kernel
theorem d_Ta_commonKey_7 : decode b_Ta_commonKey 7 = .ok (.aload_n 0, 1) := by decide +kernel
theorem d_Ta_commonKey_8 : decode b_Ta_commonKey 8 = .ok (.getfield 41, 3) := by decide +kernel
theorem d_Ta_commonKey_11 : decode b_Ta_commonKey 11 = .ok (.goto 4, 3) := by decide +kernel
theorem d_Ta_commonKey_14 : decode b_Ta_commonKey 14 = .ok (.lconst 0, 1) := by decide +kernel
theorem d_Ta_commonKey_15 : decode b_Ta_commonKey 15 = .ok (.lreturn, 1) := by decide +kernel
set_option maxHeartbeats 8000000 in
set_option maxRecDepth 100000 in
theorem c_Ta_commonKey (l : Launch) (H0 : Heap) (dC : Nat → ClassId) (dI : Nat → Nat → Nat) (cJ cI : ClassId) (t0 ka aa ba sa : Nat) (gv : Value) (ko ao bo so : Nat → Nat) (tn kc bc shc kp shp pa pb : Nat) (sht : Int32) (hP : va_P (dC, dI) classes (tl_ws t0 ka aa ba sa gv cJ ko ao bo so tn kc bc shc kp shp pa pb sht) H0) (htn : tn ≤ 4) (hkc : kc ≤ 4) : Met l y_Ta_commonKey w_Ta_commonKey ({ frames := 1, cells := 0, slots := 0, locals := 20 }) (va_Pc [.ref t0] (fun U => U.heap = H0 ∧ va_K (dC, dI) classes [(cJ, .long), (cI, .int)] U)) (va_Ql (fun (r : Int64) (_ : Unit) => r = lN (ckey tn kc kp)) (fun _ t => t.heap = H0) (fun _ => False)) 0 0 (fun _ => False) := by
  refine Met.ofW (cc := b_Ta_commonKey) (maxL := 1) (ret := (some .long)) (by decide) rfl ?_
  intro p e s m args below meth c s₁ Bd hml hv
  obtain ⟨rfl, hH, hK⟩ := hv
  subst hH
  have hx := Bd.exec
  have hb := Bd.bytes
  have hr := Bd.returns
  have hts := atoms_spec (ws := w_Ta_commonKey) Bd.pre
  have hown : s.vm.findClass "BallotBoard$Tally" = some m.cls := findClass_of_methodNamed Bd.named
  have hlocks := Bd.notSynchronized
  have hS : va_S (fun _ => False) s.heap s.heap [] := va_S.rf
  have hl := lv_entry ([.ref t0]) (n := 1) (Nat.le_of_ble_eq_true rfl)
  rw [lg_entry_eq]
  generalize (lg_sl ([.ref t0]) ++ List.replicate (1 - (lg_sl ([.ref t0])).length) Slot.unset).toArray = ls at hl ⊢
  have hl : lv_has ls 1 [(0, .ref t0)] := hl
  refine lv_aload_n hx hb d_Ta_commonKey_0 rfl (lv_at hl 0 rfl) ?_
  have hPc := hP.sub (ws' := (tl_ws t0 ka aa ba sa gv cJ ko ao bo so tn kc bc shc kp shp pa pb sht)) [0, 1, 2, 3, 4] rfl
  have hKc := hK.sub (tys' := [(cJ, .long), (cI, .int)]) [0, 1] rfl
  refine va_calli (va_runV (As := []) (rest := []) ⟨hx, hb, hml, hown, hts⟩ (c_Ta_hasAllKeys l s.heap dC dI cJ cI t0 ka aa ba sa gv ko ao bo so tn kc bc shc kp shp pa pb sht  hPc (by omega) (by omega)) (cwV 0 hts (gw_V gk_473 gk_474 gk_475 gk_5 gk_476) rfl rfl rfl (by decide +kernel) ⟨Nat.le_of_ble_eq_true rfl, Nat.le_of_ble_eq_true rfl⟩) ⟨fun a U g mk q => ⟨q.1, q.2.1, va_K.moved (u := U) (U := U.calling g mk a) (Vm.Alike.refl U.vm) q.2.2⟩, va_recv hK hP (ci := 4) (q0 := 0) rfl rfl, fun U hU hW => ⟨rfl, hU, va_K.moved hW.alike hKc⟩⟩ rfl rfl hl.1 rfl (lv_room (Nat.le_of_ble_eq_true rfl)) d_Ta_commonKey_1 ⟨Nat.le_of_ble_eq_true rfl, Nat.le_of_ble_eq_true rfl⟩) hS (fun q _ h => h.elim) (fun q h => h.elim) (fun r1 u9 t9 H1 locs ht hvm hw hB hz1 hk1 hS => ?_)
  obtain rfl : s.heap = H1 := hB.symm.trans ht
  have h1 := hw
  refine lv_if_eq (tgt := 14) hx hb d_Ta_commonKey_4 (by decide) (fun c_1 => ?_) (fun c_1 => ?_)
  · -- taken
    have b1 := bz_f h1 c_1
    refine lv_lconst (v := 0) hx hb d_Ta_commonKey_14 (by decide) ?_
    exact W.lret (v := 0) hx hb hr (fun t ht hW => ⟨⟨_, (), rfl, (by unfold ckey; rw [if_neg b1]; rfl), ht⟩, hS.F ht⟩) hS.2.2 d_Ta_commonKey_15
  · -- not taken
    have b1 := bz_t h1 c_1
    refine lv_aload_n hx hb d_Ta_commonKey_7 rfl (lv_at hl 0 rfl) ?_
    refine va_get (D := (dC, dI)) (ci := 4) (v := .long (lN kp)) (C := "BallotBoard$Tally") (T := F_Ta) (N := 14) hx hb hts (fun w9 h9 => List.mem_cons_of_mem _ (i_Ta w9 h9)) hown hK hP 0 rfl rfl 9 (by decide) (hts _ (List.mem_cons_of_mem _ gk_101)) (fun _ h9 => h9) rfl d_Ta_commonKey_8 ?_
    refine lv_goto (tgt := 15) hx hb d_Ta_commonKey_11 (by decide) ?_
    exact W.lret (v := (lN kp)) hx hb hr (fun t ht hW => ⟨⟨_, (), rfl, (by unfold ckey; rw [if_pos b1]), ht⟩, hS.F ht⟩) hS.2.2 d_Ta_commonKey_15
