/-! arrays of arrays; rows that agree; worlds in another order -/
section ALA
variable {p : Program} {l : Launch} {e : Env} {R : Room} {s : State} {m : MethodId} {args : Array Value} {below : List Frame} {meth : Method} {c : Code} {H : Heap} {locs : List Loc} {cells slots : Nat} {Q : State → Prop}
variable {cc : ByteArray} {pc : Nat} {ls : Array Slot} {rest : List Value} {D : va_G} {cl : List vw_C} {A : Nat → Prop} {a : Nat} {tys : List (ClassId × FieldType)} {ws : va_W}
theorem va_aldA (hexec : p.tables.exec = Jvm.exec) (hb : c.code = cc) (hK : va_K D cl tys s) (hP : va_P D cl ws H) (q0 t0 : Nat) {cA : ClassId} {ty : FieldType} {n : Nat} {f : Nat → Option Nat} (ha : ws[q0]? = some (a, .inl (cA, n, .inr (.inr (.inr (.inr f)))))) (ht : tys[t0]? = some (cA, .array ty)) {i : Int32} (hin : vp_in i n) (hdg : decode cc pc = .ok (.aaload, 1)) {b : Nat} (hf : f i.toNatClampNeg = some b)
    (kk : W p l e R s m args below meth c H locs cells slots Q (F0 m (pc + 1) ls (.ref b :: rest))) : W p l e R s m args below meth c H locs cells slots Q (F0 m pc ls (.int i :: .ref a :: rest)) := by
  have hlt : i.toNatClampNeg < n := Nat.not_le.mp fun q => hin (Or.inr q)
  exact W.aald (v := .ref b) (ty := .array ty) hexec hb (hP q0 _ ha) ((hK.2 t0 _ ht).1 n (fun j => va_rf (f j))) rfl (fun q => by cases q) (by show ¬ (i < 0 ∨ (arrV _ _ _).slots.size ≤ _); rw [arrV_size]; exact hin) (by show (arrV _ _ _).slots[_]? = _; rw [arrV_read _ _ hlt, hf]; rfl) rfl rfl hdg kk
end ALA
theorem arrV_ext {cA : ClassId} {n : Nat} {F G : Nat → Value} (h : ∀ j, j < n → F j = G j) : arrV cA n F = arrV cA n G := by
  have e : (fun j : Fin n => F j.val) = (fun j : Fin n => G j.val) := funext fun j => h j.1 j.2
  unfold arrV
  rw [e]
theorem va_P.row {D : va_G} {cl : List vw_C} {ws : va_W} {H : Heap} {a n : Nat} {cA : ClassId} {f g : Nat → Int64} (hP : va_P D cl ws H) (q0 : Nat) (ha : ws[q0]? = some (a, .inl (cA, n, .inr (.inl f)))) (hfg : ∀ j, j < n → f j = g j) : va_P D cl (ws.set q0 (a, .inl (cA, n, .inr (.inl g)))) H := by
  intro k q hk
  by_cases hkq : k = q0
  · subst hkq
    rw [List.getElem?_set_self (List.getElem?_eq_some_iff.mp ha).1] at hk
    cases hk
    have h := hP k _ ha
    show H[a]? = some (vp_cell cA (n, .inr (.inl g)))
    have h2 : H[a]? = some (vp_cell cA (n, .inr (.inl f))) := h
    rw [h2]
    congr 1
    rw [vp_cell_l, vp_cell_l]
    exact arrV_ext (fun j hj => by rw [hfg j hj])
  · rw [List.getElem?_set_ne (Ne.symm hkq)] at hk
    exact hP k q hk
theorem va_P.perm {D : va_G} {cl : List vw_C} {ws ws' : va_W} {H : Heap} (hP : va_P D cl ws H) (h : ws.Perm ws') : va_P D cl ws' H := by
  intro k q hk
  obtain ⟨i, hi⟩ := List.getElem?_of_mem (h.mem_iff.mpr (List.mem_of_getElem? hk))
  exact hP i q hi
theorem va_D.perm {A : Nat → Prop} {ws ws' : va_W} (hD : va_D A ws) (h : ws.Perm ws') : va_D A ws' := by
  have hn : (ws.map (·.1)).Nodup := by
    rw [List.nodup_iff_pairwise_ne, List.pairwise_iff_getElem]
    intro i j hi hj hij he
    rw [List.length_map] at hi hj
    rw [List.getElem_map, List.getElem_map] at he
    have := hD.1 i j _ _ (List.getElem?_eq_getElem hi) (List.getElem?_eq_getElem hj) he
    omega
  have hn2 : (ws'.map (·.1)).Nodup := (h.map _).nodup_iff.mp hn
  rw [List.nodup_iff_pairwise_ne, List.pairwise_iff_getElem] at hn2
  refine ⟨fun i j x y hx hy hxy => ?_, fun k q hk => ?_⟩
  · have key : ∀ (i j : Nat) (x y : Nat × va_E), ws'[i]? = some x → ws'[j]? = some y → x.1 = y.1 → ¬ i < j := by
      intro i j x y hx hy hxy hlt
      obtain ⟨hi, ei⟩ := List.getElem?_eq_some_iff.mp hx
      obtain ⟨hj, ej⟩ := List.getElem?_eq_some_iff.mp hy
      refine hn2 i j (by rw [List.length_map]; exact hi) (by rw [List.length_map]; exact hj) hlt ?_
      rw [List.getElem_map, List.getElem_map, ei, ej]
      exact hxy
    have h1 := key i j x y hx hy hxy
    have h2 := key j i y x hy hx hxy.symm
    omega
  · obtain ⟨i, hi⟩ := List.getElem?_of_mem (h.mem_iff.mpr (List.mem_of_getElem? hk))
    exact hD.2 i q hi
/-- the four words of a digest -/
def lkw (msg : List Int64) : Nat → Int64 := fun i => wd (dg (ml msg) msg.length (2 * i)) (dg (ml msg) msg.length (2 * i + 1))
def dgo (st : Nat → Int32) (msg : List Int64) : Prop := ∀ j, j < 8 → st j = dg (ml msg) msg.length j
theorem lkw_0 {st : Nat → Int32} {msg : List Int64} (h : dgo st msg) : wd (st 0) (st 1) = lkw msg 0 := by
  unfold lkw
  rw [h 0 (by omega), h 1 (by omega)]
theorem lkw_1 {st : Nat → Int32} {msg : List Int64} (h : dgo st msg) : wd (st 2) (st 3) = lkw msg 1 := by
  unfold lkw
  rw [h 2 (by omega), h 3 (by omega)]
theorem lkw_2 {st : Nat → Int32} {msg : List Int64} (h : dgo st msg) : wd (st 4) (st 5) = lkw msg 2 := by
  unfold lkw
  rw [h 4 (by omega), h 5 (by omega)]
theorem lkw_3 {st : Nat → Int32} {msg : List Int64} (h : dgo st msg) : wd (st 6) (st 7) = lkw msg 3 := by
  unfold lkw
  rw [h 6 (by omega), h 7 (by omega)]
theorem lk_4 {lv : Nat → Int64} {msg : List Int64} : ∀ j, j < 4 → vp_updL (vp_updL (vp_updL (vp_updL lv 0 (lkw msg 0)) 1 (lkw msg 1)) 2 (lkw msg 2)) 3 (lkw msg 3) j = lkw msg j := by
  intro j hj
  match j, hj with
  | 0, _ => rfl
  | 1, _ => rfl
  | 2, _ => rfl
  | 3, _ => rfl
  | j + 4, hj => exact absurd hj (by omega)
theorem cpy8 {f g : Nat → Int64} : ∀ j, j < 8 → va_cpy f g 0 0 8 j = f j := by
  intro j hj
  unfold va_cpy
  rw [if_pos (by omega)]
  congr 1
  omega
/-- how many numbers an entry has -/
def wdt (K : Nat) : Nat := if K = 2 then 8 else 5
abbrev bo_ws (bd0 h0 ro lo n : Nat) : va_W := [(bd0, .inr (3, [.ref h0, .ref ro, .ref lo, .int (nI n)]))]
abbrev bd_ws (bd0 h0 ro lo n : Nat) (cR : ClassId) (rr lr : Nat → Option Nat) : va_W := [(bd0, .inr (3, [.ref h0, .ref ro, .ref lo, .int (nI n)])), (ro, .inl (cR, 154, .inr (.inr (.inr (.inr rr))))), (lo, .inl (cR, 154, .inr (.inr (.inr (.inr lr)))))]
abbrev lk_ws (lk : Nat) (cJ : ClassId) (lw : Nat → Int64) : va_W := [(lk, .inl (cJ, 4, .inr (.inl lw)))]
def lnk4 (lw : Nat → Int64) (msg : List Int64) : Prop := lw 0 = lkw msg 0 ∧ lw 1 = lkw msg 1 ∧ lw 2 = lkw msg 2 ∧ lw 3 = lkw msg 3
def hasN (x : Int32) (K : Nat) : Prop := ∃ J, x = nI J ∧ J < wdt K
