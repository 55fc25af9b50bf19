/-! calls over a deeper stack: up to 24 words below -/
section WIDE
variable {p : Program} {l : Launch} {e : Env} {R : Room} {s : State} {m : MethodId} {args : Array Value} {below : List Frame} {meth : Method} {c : Code} {H : Heap} {locs : List Loc} {cells slots : Nat} {Q : State → Prop}
variable {y : MethodName} {bytes cc : ByteArray} {maxL nL mc ms n index : Nat} {ret : Option FieldType} {ws : List Cond} {rm : Room} {Pc : Array Value → State → Prop} {Qc : Array Value → State → Outcome → State → Prop} {free : Addr → Prop} {Ts : List Cond} {own C : String} {b : Addr} {As rest : List Value} {g : JFrame} {pc : Nat} {ls : Array Slot}
theorem vw_room {st : List Value} (h : (st.map fun v => v.category).sum ≤ 24) : 2 * (F0 m pc ls rest).monitorRoom + (st.map fun v => v.category).sum ≤ 24 := by
  have h0 : (F0 m pc ls rest).monitorRoom = 0 := rfl
  omega
theorem vw_back (cb : CallB R s args own index y bytes maxL ret ws rm mc ms n) (hlo : 24 + (maxL + 11) + rm.locals ≤ R.locals) (hM : Met l y ws rm Pc Qc mc ms free) (hbl : FrameBlind Pc) : Back l R p e below s args y 3 24 (PreOf R mc ms Pc) (PostOf Qc mc ms free) :=
  back_of (bytes := bytes) (maxL := maxL) (ret := ret) hM hbl cb.1 cb.2.1 cb.2.2.1 hlo cb.2.2.2.2.1 cb.2.2.2.2.2.1 (fun a' U hW => word_at hW (Or.inl (by first | rfl | simp [Cond.onTables, Cond.keeps, Cond.steady])) cb.2.2.2.2.2.2.2.1)
theorem vw_runV (S : CallFix p m c cc nL s args Ts own) (hM : Met l y ws rm Pc Qc mc ms free) (cw : CallW R s args own C index y bytes maxL ret ws rm mc ms n) (hlo : 24 + (maxL + 11) + rm.locals ≤ R.locals) (hp : PreV s H C b Pc As)
    (hg : g.method = m) (hn : As.length = n) (hsize : g.locals.size = nL) (hstack : g.stack = As.reverse ++ .ref b :: rest) (hW : 2 * g.monitorRoom + (rest.map fun v => v.category).sum ≤ 24) (hdg : decode cc g.pc = .ok (.invokevirtual index, 3)) (hf : cells + mc ≤ R.cells ∧ slots + ms ≤ R.slots) :
    va_Run p l e R s m args below meth c H locs cells slots mc ms g rest (Qc (Value.ref b :: As).toArray) free := by
  intro T hT X
  obtain ⟨cB, h1, h2, h3⟩ := hp.2.1
  have hB := vw_back (p := p) (e := e) (below := below) cw.1 hlo hM hp.1
  obtain ⟨v, vm1, ⟨U, l2, c2, s2⟩, hW1, X1, ⟨g1, mk, t, L, q1, q2, q3, q4, q5, q6, q7⟩, st⟩ := callV X S.1 (C := C) (bytes := bytes) (maxL := maxL) (ret := ret) S.2.2.2.1 cw.1.2.2.2.2.2.2.2.2.2.2 cw.2.1 cw.2.2 cw.1.2.2.2.2.2.2.1 cw.1.2.2.2.2.2.2.2.2.1 hB (by rw [hT]; exact h1) h2 h3 hg (hsize.trans S.2.2.1.symm) (argsL := As) (rest := rest) (fun sig h => hn.trans (cw.1.2.2.2.2.2.2.2.2.2.1 sig h)) hstack hW (by rw [S.2.1]; exact hdg)
    (fun vm h => ⟨hf.1, hf.2, hp.2.2 (T.setVm vm) hT h⟩)
  dsimp only [Pt.U, Pt.locs, Pt.cells, Pt.slots] at X1 q1 q2 q4 q6 q7 st
  subst q4
  subst q6
  subst q7
  exact ⟨v, (T.setVm vm1).calling g1 mk (Value.ref b :: As).toArray, t, U, L, hT, X1, q5, q1, q2, q3, st⟩
theorem vw_runS (S : CallFix p m c cc nL s args Ts own) (hM : Met l y ws rm Pc Qc mc ms free) (cw : CallB R s args own index y bytes maxL ret ws rm mc ms n ∧ (Cond.static y).before args s = true) (hlo : 24 + (maxL + 11) + rm.locals ≤ R.locals) (hp : PreS s H Pc As)
    (hg : g.method = m) (hn : As.length = n) (hsize : g.locals.size = nL) (hstack : g.stack = As.reverse ++ rest) (hW : 2 * g.monitorRoom + (rest.map fun v => v.category).sum ≤ 24) (hdg : decode cc g.pc = .ok (.invokestatic index, 3)) (hf : cells + mc ≤ R.cells ∧ slots + ms ≤ R.slots) :
    va_Run p l e R s m args below meth c H locs cells slots mc ms g rest (Qc As.toArray) free := by
  intro T hT X
  have hB := vw_back (p := p) (e := e) (below := below) cw.1 hlo hM hp.1
  obtain ⟨v, vm1, ⟨U, l2, c2, s2⟩, hW1, X1, ⟨g1, mk, t, L, q1, q2, q3, q4, q5, q6, q7⟩, st⟩ := callS X S.1 (bytes := bytes) (maxL := maxL) (ret := ret) S.2.2.2.1 cw.1.2.2.2.2.2.2.2.2.2.2 cw.2 cw.1.2.2.2.2.2.2.2.1 cw.1.2.2.2.2.2.2.1 cw.1.2.2.2.2.2.2.2.2.1 hB hg (hsize.trans S.2.2.1.symm) (argsL := As) (rest := rest) (fun sig h => hn.trans (cw.1.2.2.2.2.2.2.2.2.2.1 sig h)) hstack hW (by rw [S.2.1]; exact hdg)
    (fun vm h => ⟨hf.1, hf.2, hp.2 (T.setVm vm) hT h⟩)
  dsimp only [Pt.U, Pt.locs, Pt.cells, Pt.slots] at X1 q1 q2 q4 q6 q7 st
  subst q4
  subst q6
  subst q7
  exact ⟨v, (T.setVm vm1).calling g1 mk As.toArray, t, U, L, hT, X1, q5, q1, q2, q3, st⟩
end WIDE
