/-! the class's START, copied into its state -/
section SHC
variable {p : Program} {l : Launch} {e : Env} {R : Room} {s : State} {m : MethodId} {args : Array Value} {below : List Frame} {meth : Method} {c : Code} {H : Heap} {locs : List Loc} {cells slots : Nat} {Q : State → Prop}
variable {cc : ByteArray} {pc : Nat} {ls : Array Slot} {rest : List Value} {D : va_G} {cl : List vw_C} {A : Nat → Prop} {a : Nat} {tys : List (ClassId × FieldType)} {ws : va_W}
theorem sh_copy (hexec : p.tables.exec = Jvm.exec) (hb : c.code = cc) (hml : c.maxLocals = ls.size) {own : String} {index : Nat} (hown : s.vm.findClass own = some m.cls) (hlink : (Cond.methodLink own index arraycopyName).before args s = true) (hnat : (Cond.native arraycopyName).before args s = true) (hstat : (Cond.static arraycopyName).before args s = true) (hini : (Cond.initialized "java/lang/System").before args s = true)
    (hK : va_K D cl tys s) (hP : va_P D cl ws H) (hD : va_D A ws) (hS : va_S A s.heap H locs) {b0 N : Nat} {f : Nat → Int32} (hX : va_T .int b0 N (fun j => .int (f j)) A s s.heap) (q1 t1 : Nat) {c1 : ClassId} {g : Nat → Int32} (ha1 : ws[q1]? = some (a, .inl (c1, N, .inl g))) (ht1 : tys[t1]? = some (c1, .int)) {n : Int32} (hN : n.toNatClampNeg = N) (hn : ¬ n < 0)
    (hframes : 1 ≤ R.frames) (hlocals : (rest.map fun v => v.category).sum + (nativeFrameWords "java/lang/System" "arraycopy" 5 + 11) ≤ R.locals) (hdg : decode cc pc = .ok (.invokestatic index, 3))
    (kk : ∀ (H1 : Heap) (locs1 : List Loc), va_P D cl (ws.set q1 (a, .inl (c1, N, .inl (va_cpy f g 0 0 N)))) H1 → va_D A (ws.set q1 (a, .inl (c1, N, .inl (va_cpy f g 0 0 N)))) → va_S A s.heap H1 locs1 → W p l e R s m args below meth c H1 locs1 cells slots Q (F0 m (pc + 3) ls rest)) : W p l e R s m args below meth c H locs cells slots Q (F0 m pc ls (.int n :: .int 0 :: .ref a :: .int 0 :: .ref b0 :: rest)) := by
  have hz : (0 : Int32).toNatClampNeg = 0 := rfl
  have hnI : n.toInt = (N : Int) := by
    have h0 : (0 : Int) ≤ n.toInt := by simpa using Int32.le_iff_toInt_le.mp (Int32.not_lt.mp hn)
    have h1 : n.toInt.toNat = N := hN
    omega
  intro T hT X
  obtain ⟨scr, hs1, ⟨hs6, k0, hk0, cm0, hkk0⟩, hs3, hs4, -, hs5, hs7⟩ := hX
  have hc0 : H[b0]? = some scr := by rw [hS.2.1 b0 (Array.getElem?_eq_some_iff.mp hs1).1 hs7]; exact hs1
  have hc1 : H[a]? = some (vp_cell c1 (N, .inl g)) := hP q1 _ ha1
  obtain ⟨-, k1, hk1, cm1, hkk1⟩ := (hK.2 t1 _ ht1).1 N (fun j => .int (g j))
  have z0 : (0 : Int32).toInt = 0 := rfl
  obtain ⟨vm', X', step⟩ := X.arraycopy hexec hown hlink hnat hstat hini (src := b0) (dst := a) (cs := scr) (cd := vp_cell c1 (N, .inl g)) (srcPos := 0) (destPos := 0) (n := n) (by rw [hT]; exact hc0) (by rw [hT]; exact hc1)
    hs6 (fun _ h => by cases h) hs3 (fun h => by cases h) hk0 hk1 hkk0 hkk1 (by simp [refKind]) (by decide) (by decide) hn
    (by rw [z0, hnI]; omega)
    (by rw [z0, hnI]; show ¬ _ > ((arrV c1 N (fun j => .int (g j))).slots.size : Int); rw [arrV_size]; omega)
    (fun vm₁ _ i hi => by
      rw [hN] at hi
      have e : scr.slots.getD ((0 : Int32).toNatClampNeg + i) .null = .int (f i) := by
        rw [hz, Nat.zero_add, Array.getD_eq_getD_getElem?, hs5 _ hi]
        rfl
      rw [e]
      exact ⟨rfl, trivial⟩)
    (g := F0 m pc ls (.int n :: .int 0 :: .ref a :: .int 0 :: .ref b0 :: rest)) rfl (by rw [hml]) (rest := rest) rfl (by rw [hb]; exact hdg) hframes (by show 2 * 0 + _ + _ ≤ _; omega)
  have e1 : copied scr (vp_cell c1 (N, .inl g)) 0 0 n = vp_cell c1 (N, .inl (va_cpy f g 0 0 N)) := by
    have := va_copiedX (fun z => .int z) scr c1 (n1 := N) (sp := 0) (dp := 0) (n := n.toNatClampNeg) f g (n0 := N) hs5 (by rw [hN]; omega)
    rw [hN] at this
    unfold copied
    rw [hN]
    exact this
  rw [e1] at X' step
  have hl : a < H.size := (Array.getElem?_eq_some_iff.mp hc1).1
  have hheap : ((T.setVm vm').setCell a (vp_cell c1 (N, .inl (va_cpy f g 0 0 N)))).heap = H.setIfInBounds a (vp_cell c1 (N, .inl (va_cpy f g 0 0 N))) := by rw [← hT]; rfl
  have oq : ∀ q : Nat, q ≠ a → (H.setIfInBounds a (vp_cell c1 (N, .inl (va_cpy f g 0 0 N))))[q]? = H[q]? := fun q hq => by simp [Array.getElem?_setIfInBounds, Ne.symm hq]
  obtain ⟨t, a1, b1⟩ := kk _ _ (hP.set hD ha1 (show (H.setIfInBounds a _)[a]? = some _ by simp [Array.getElem?_setIfInBounds, hl]) oq) (hD.set ha1) ⟨by simp; exact hS.1, fun q g1 g2 => by
      rw [oq q (fun e => g2 (by rw [e]; exact hD.2 q1 _ ha1))]
      exact hS.2.1 q g1 g2, fun q hq => by
      rcases List.mem_append.mp hq with h | h
      · exact hS.2.2 q h
      · obtain ⟨z, -, hz⟩ := List.mem_map.mp h
        rw [← hz]
        exact hD.2 q1 _ ha1⟩ _ hheap X'
  exact ⟨t, step t a1, b1⟩
end SHC
def pdl (L : Nat) : Nat := if L + 2 ≤ 8 then 8 else 16
/-- the message's end mark, and the zeros behind it -/
def pz (w : Nat → Int64) (L : Nat) : Nat → Nat → Int64
  | 0 => vp_updL w L (-9223372036854775808)
  | n + 1 => vp_updL (pz w L n) (L + 1 + n) 0
def pw (w : Nat → Int64) (L : Nat) : Nat → Int64 := vp_updL (pz w L (pdl L - 2 - L)) (pdl L - 1) ((nI L).toInt64 * 64)
/-- so many blocks hashed: the schedule and the state -/
def hbk (w : Nat → Int64) (sc st : Nat → Int32) : Nat → (Nat → Int32) × (Nat → Int32)
  | 0 => (sc, st)
  | b + 1 => (swn (sp1 (hbk w sc st b).1 w (8 * b) 8) 48, mxa (swn (sp1 (hbk w sc st b).1 w (8 * b) 8) 48) (hbk w sc st b).2 8)
theorem pdl_cases (L : Nat) : (L + 2 ≤ 8 ∧ pdl L = 8) ∨ (8 < L + 2 ∧ pdl L = 16) := by
  unfold pdl
  by_cases h : L + 2 ≤ 8
  · rw [if_pos h]; omega
  · rw [if_neg h]; omega
theorem nI_8 (n : Nat) : nI n + 8 = nI (n + 8) := nI_add n 8
