/-! what a throw of this program wants -/
abbrev eS : String := "java/lang/IllegalStateException"
abbrev eA : String := "java/lang/IllegalArgumentException"
abbrev eB : String := "java/lang/IndexOutOfBoundsException"
abbrev xn : List String := ["java/lang/RuntimeException", "java/lang/Exception"]
def xB : List Cond := [.castable eS eS, .castable eA eA, .castable eB eB, .declares ⟨"java/lang/RuntimeException", "<init>", "(Ljava/lang/String;)V"⟩, .declares ⟨"java/lang/Exception", "<init>", "(Ljava/lang/String;)V"⟩, .declares ⟨"java/lang/Throwable", "<init>", "(Ljava/lang/String;)V"⟩]
def xS : List (Nat × String) := [(60, "p or g makes no group"), (65, "the trustees are not 1 to 4"), (206, "there is no group"), (208, "it is closed"), (217, "the key is there"), (236, "there is no such trustee"), (250, "the proof does not hold"), (244, "no exponent"), (222, "not all keys are there"), (224, "the board has no room for a ballot"), (238, "there is no such voter"), (226, "it is not closed"), (231, "the share is there"), (141, "not all shares are there"), (153, "there is no such number"), (160, "there is no such word"), (165, "there is no such number to spoil"), (204, "there is no such count")]
def xz (A : Nat → Prop) (U : State) (H : Heap) : Prop := vx_Zq Bundle.tN "UNASSIGNED_STACK" Bundle.steD A U H ∧ vx_Zq Bundle.tN "SUPPRESSED_SENTINEL" Bundle.listD A U H ∧ (∀ w ∈ xB, w.before #[] U = true) ∧ (∀ q ∈ xS, ∃ sa, vk_R "BallotBoard" q.1 q.2 sa U)
theorem xB_cast {w : Cond} (h : w ∈ xB) : (∃ C, w = .castable C C) ∨ ∃ x, w = .declares x := by
  unfold xB at h
  rcases List.mem_cons.mp h with e | h
  · exact Or.inl ⟨_, e⟩
  rcases List.mem_cons.mp h with e | h
  · exact Or.inl ⟨_, e⟩
  rcases List.mem_cons.mp h with e | h
  · exact Or.inl ⟨_, e⟩
  rcases List.mem_cons.mp h with e | h
  · exact Or.inr ⟨_, e⟩
  rcases List.mem_cons.mp h with e | h
  · exact Or.inr ⟨_, e⟩
  rcases List.mem_cons.mp h with e | h
  · exact Or.inr ⟨_, e⟩
  · exact absurd h List.not_mem_nil
theorem xB_tab {w : Cond} (h : w ∈ xB) : w.onTables = true := by
  rcases xB_cast h with ⟨C, rfl⟩ | ⟨x, rfl⟩ <;> rfl
theorem xz.warm {A : Nat → Prop} {u U : State} {H : Heap} (hW : u.WarmedH U.vm) (h : xz A u H) : xz A U H := by
  obtain ⟨h1, h2, h3, h4⟩ := h
  refine ⟨vx_Zq.moved hW.alike h1, vx_Zq.moved hW.alike h2, fun w hw => ?_, fun q hq => ?_⟩
  · rcases xB_cast hw with ⟨C, rfl⟩ | ⟨x, rfl⟩
    · exact va_Nw.warmC hW (h3 _ hw)
    · exact va_tabs rfl (rfl : (u.setVm U.vm).vm = U.vm) (by rw [Cond.declares_setVm hW.alike]; exact h3 _ hw)
  · obtain ⟨sa, h9⟩ := h4 q hq
    exact ⟨sa, vk_R.warm hW h9⟩
theorem xz.same {A : Nat → Prop} {u U : State} {H : Heap} (hv : u.vm = U.vm) (h : xz A u H) : xz A U H := by
  obtain ⟨h1, h2, h3, h4⟩ := h
  have ha : u.vm.Alike U.vm := by rw [hv]; exact Vm.Alike.refl U.vm
  refine ⟨vx_Zq.moved ha h1, vx_Zq.moved ha h2, fun w hw => ?_, fun q hq => ?_⟩
  · exact va_tabs (xB_tab hw) hv (h3 _ hw)
  · obtain ⟨sa, h9⟩ := h4 q hq
    exact ⟨sa, vk_R.same hv.symm h9⟩
theorem xz.kept {A : Nat → Prop} {U : State} {H H1 : Heap} (h : xz A U H) (hq : ∀ a : Nat, a < H.size → ¬ A a → H1[a]? = H[a]?) : xz A U H1 := ⟨vx_Zq.kept h.1 hq, vx_Zq.kept h.2.1 hq, h.2.2⟩
theorem xz.narrow {A B : Nat → Prop} {U : State} {H : Heap} (h : xz A U H) (hAB : ∀ q, B q → A q) : xz B U H := ⟨vx_Zq.narrow h.1 hAB, vx_Zq.narrow h.2.1 hAB, h.2.2⟩
theorem xa_S1 : ∀ w ∈ (vx_atS "BallotBoard" 143 eS xn).filter goodWord, w ∈ gw := by decide +kernel
theorem xa_A1 : ∀ w ∈ (vx_atS "BallotBoard" 62 eA xn).filter goodWord, w ∈ gw := by decide +kernel
theorem xa_B1 : ∀ w ∈ (vx_atS "BallotBoard" 155 eB xn).filter goodWord, w ∈ gw := by decide +kernel
theorem xa_S2 : ∀ w ∈ (vx_atS "BallotBoard" 143 eS xn).filter (fun w => !goodWord w), w ∈ xB := by decide +kernel
theorem xa_A2 : ∀ w ∈ (vx_atS "BallotBoard" 62 eA xn).filter (fun w => !goodWord w), w ∈ xB := by decide +kernel
theorem xa_B2 : ∀ w ∈ (vx_atS "BallotBoard" 155 eB xn).filter (fun w => !goodWord w), w ∈ xB := by decide +kernel
theorem xa_S3 : ∀ w ∈ Cond.classLink "BallotBoard" 139 eS :: Cond.initialized eS :: vx_atS "BallotBoard" 143 eS xn, vx_ot w = true := by decide +kernel
theorem xa_A3 : ∀ w ∈ Cond.classLink "BallotBoard" 58 eA :: Cond.initialized eA :: vx_atS "BallotBoard" 62 eA xn, vx_ot w = true := by decide +kernel
theorem xa_B3 : ∀ w ∈ Cond.classLink "BallotBoard" 151 eB :: Cond.initialized eB :: vx_atS "BallotBoard" 155 eB xn, vx_ot w = true := by decide +kernel
section THR
variable {p : Program} {l : Launch} {e : Env} {R : Room} {s : State} {m : MethodId} {args : Array Value} {below : List Frame} {meth : Method} {c : Code} {H : Heap} {locs : List Loc} {cells slots : Nat}
variable {free : Addr → Prop} {ls : Array Slot} {rest : List Value} {Qc : Array Value → State → Outcome → State → Prop} {XC : String → State → State → Prop}
theorem va_S.Fx {A : Nat → Prop} {s t : State} {H : Heap} {locs : List Loc} (h : va_S A s.heap H locs) (h1 : H.size ≤ t.heap.size) (h2 : ∀ q : Nat, q < H.size → t.heap[q]? = H[q]?) : va_F A s t := ⟨Nat.le_trans h.1 h1, fun q hq hA => (h2 q (Nat.lt_of_lt_of_le hq h.1)).trans (h.2.1 q hq hA)⟩
theorem thr {cc : ByteArray} {pc : Nat} (hexec : p.tables.exec = Jvm.exec) (hb : c.code = cc) (hnt : l.stackTraces = false) {cls : String} (is : Nat) (text : String) {ik ic mc ms : Nat} {A : Nat → Prop} {c0 : Cond} (hts : ∀ w ∈ c0 :: gw, w.before args s = true)
    (hown : s.vm.findClass "BallotBoard" = some m.cls) (hcls : Bundle.fit cls = true) (hk : Cond.classLink "BallotBoard" ik cls ∈ gw) (hi : Cond.initialized cls ∈ gw)
    (h1 : ∀ w ∈ (vx_atS "BallotBoard" ic cls xn).filter goodWord, w ∈ gw) (h2 : ∀ w ∈ (vx_atS "BallotBoard" ic cls xn).filter (fun w => !goodWord w), w ∈ xB) (h3 : ∀ w ∈ Cond.classLink "BallotBoard" ik cls :: Cond.initialized cls :: vx_atS "BallotBoard" ic cls xn, vx_ot w = true)
    (hZ : xz A s s.heap) (hstr : (is, text) ∈ xS) (hS : va_S A s.heap H locs) (hsize : ls.size = c.maxLocals)
    (d0 : decode cc pc = .ok (.new ik, 3)) (d3 : decode cc (pc + 3) = .ok (.dup, 1)) (d4 : decode cc (pc + 4) = .ok (.ldc is, 2)) (d6 : decode cc (pc + 6) = .ok (.invokespecial ic, 3)) (d9 : decode cc (pc + 9) = .ok (.athrow, 1))
    (htab : ∀ x ∈ c.exceptionTable.toList, False)
    (hRframes : 5 < R.frames) (hRlocals : (rest.map fun v => v.category).sum + 82 ≤ R.locals) (hRcells : cells + 1 ≤ R.cells) (hRslots : slots + 6 ≤ R.slots) (hlocks : meth.locks = false)
    (hx : ∀ t : State, s.vm.Alike t.vm → H.size ≤ t.heap.size → (∀ q : Nat, q < H.size → t.heap[q]? = H[q]?) → XC cls s t)
    (hf : ∀ z ∈ locs, free z.base) (hc : cells + 1 ≤ mc) (hs : slots + 6 ≤ ms) :
    W p l e R s m args below meth c H locs cells slots (vx_MQ below Qc XC args s mc ms free) (F0 m pc ls rest) := by
  obtain ⟨sa, hsa⟩ := hZ.2.2.2 _ hstr
  refine vx_throwS (names := xn) hexec hb hnt hown hcls (by decide) (hts _ (List.mem_cons_of_mem _ hk)) (hts _ (List.mem_cons_of_mem _ hi)) hsa ?_ h3 hZ.1 hZ.2.1 hS hsize d0 d3 d4 d6 d9 (fun x hx => (htab x hx).elim) hRframes hRlocals hRcells hRslots hlocks hx hf hc hs
  refine vx_hat (B := xB) (fun w hw => hts w (List.mem_cons_of_mem _ (h1 w hw))) h2 (fun w hw => ?_)
  exact va_tabs (xB_tab hw) rfl (hZ.2.2.1 _ hw)
end THR
theorem gw_Sv {c c' : Cond} {own : String} {idx : Nat} {y : MethodName} (h1 : Cond.methodLink own idx y ∈ gw) (h2 : Cond.static y ∈ gw) (h4 : Cond.initialized y.cls ∈ gw) (h : c' ∈ gw) : GoodIn (c :: gw) (va_wsS own idx y (c' :: gw)) := by
  refine gw_app ?_ h
  intro w hw
  rcases List.mem_cons.mp hw with e | hw
  · rw [e]; exact h1
  rcases List.mem_cons.mp hw with e | hw
  · rw [e]; exact h2
  rcases List.mem_cons.mp hw with e | hw
  · rw [e]; exact h4
  · exact absurd hw List.not_mem_nil
