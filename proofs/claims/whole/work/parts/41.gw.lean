/-! the words of the tables that hold on, for every method alike -/
def gw : List Cond := lw_tbl.filter goodWord
theorem gw_tbl {w : Cond} (h : w ∈ tables_1) (hg : goodWord w = true) : w ∈ gw := List.mem_filter.mpr ⟨List.mem_append_right _ h, hg⟩
theorem gw_sel {w : Cond} (h : w ∈ k2_sels lw_privs) (hg : goodWord w = true) : w ∈ gw := List.mem_filter.mpr ⟨List.mem_append_left _ h, hg⟩
theorem gw_t1 {w : Cond} (i : Nat) (h : tables_1_1[i]? = some w) (hg : goodWord w = true) : w ∈ gw := gw_tbl (List.mem_append_left _ (List.mem_of_getElem? h)) hg
theorem gw_t2 {w : Cond} (i : Nat) (h : tables_1_2[i]? = some w) (hg : goodWord w = true) : w ∈ gw := gw_tbl (List.mem_append_right _ (List.mem_append_left _ (List.mem_of_getElem? h))) hg
theorem gw_t3 {w : Cond} (i : Nat) (h : tables_1_3[i]? = some w) (hg : goodWord w = true) : w ∈ gw := gw_tbl (List.mem_append_right _ (List.mem_append_right _ (List.mem_append_left _ (List.mem_of_getElem? h)))) hg
theorem gw_t4 {w : Cond} (i : Nat) (h : tables_1_4[i]? = some w) (hg : goodWord w = true) : w ∈ gw := gw_tbl (List.mem_append_right _ (List.mem_append_right _ (List.mem_append_right _ (List.mem_append_left _ (List.mem_of_getElem? h))))) hg
theorem gw_t5 {w : Cond} (i : Nat) (h : tables_1_5[i]? = some w) (hg : goodWord w = true) : w ∈ gw := gw_tbl (List.mem_append_right _ (List.mem_append_right _ (List.mem_append_right _ (List.mem_append_right _ (List.mem_append_left _ (List.mem_of_getElem? h)))))) hg
theorem gw_t6 {w : Cond} (i : Nat) (h : tables_1_6[i]? = some w) (hg : goodWord w = true) : w ∈ gw := gw_tbl (List.mem_append_right _ (List.mem_append_right _ (List.mem_append_right _ (List.mem_append_right _ (List.mem_append_right _ (List.mem_of_getElem? h)))))) hg
theorem gw_ok {w : Cond} (h : w ∈ gw) : (w.onTables && w.keeps) = true ∨ ∃ ty, w = .arrayClass ty := good_of_word (List.mem_filter.mp h).2
theorem gw_good {c c' : Cond} (h : c' ∈ gw) : GoodIn (c :: gw) (c' :: gw) := by
  intro w hw
  have hm : w ∈ gw := by
    rcases List.mem_cons.mp hw with e | e
    · rw [e]
      exact h
    · exact e
  exact ⟨List.mem_cons_of_mem _ hm, gw_ok hm⟩
theorem gw_app {c c' : Cond} {l : List Cond} (hl : ∀ w, w ∈ l → w ∈ gw) (h : c' ∈ gw) : GoodIn (c :: gw) (l ++ (c' :: gw)) := by
  intro w hw
  rcases List.mem_append.mp hw with e | e
  · exact ⟨List.mem_cons_of_mem _ (hl w e), gw_ok (hl w e)⟩
  · exact gw_good h w e
theorem gw_V {c c' : Cond} {own C : String} {idx : Nat} {y : MethodName} (h1 : Cond.methodLink own idx y ∈ gw) (h2 : Cond.instanceMethod y ∈ gw) (h3 : Cond.selects C y y ∈ gw) (h4 : Cond.initialized C ∈ gw) (h : c' ∈ gw) : GoodIn (c :: gw) (wsV own idx C y (c' :: gw)) := by
  refine gw_app ?_ h
  intro w hw
  rcases List.mem_cons.mp hw with e | hw
  · rw [e]; exact h1
  rcases List.mem_cons.mp hw with e | hw
  · rw [e]; exact h2
  rcases List.mem_cons.mp hw with e | hw
  · rw [e]; exact h3
  rcases List.mem_cons.mp hw with e | hw
  · rw [e]; exact h4
  · exact absurd hw List.not_mem_nil
theorem gw_S {c c' : Cond} {own : String} {idx : Nat} {y : MethodName} (h1 : Cond.methodLink own idx y ∈ gw) (h2 : Cond.static y ∈ gw) (h4 : Cond.initialized own ∈ gw) (h : c' ∈ gw) : GoodIn (c :: gw) (wsS own idx y (c' :: gw)) := by
  refine gw_app ?_ h
  intro w hw
  rcases List.mem_cons.mp hw with e | hw
  · rw [e]; exact h1
  rcases List.mem_cons.mp hw with e | hw
  · rw [e]; exact h2
  rcases List.mem_cons.mp hw with e | hw
  · rw [e]; exact h4
  · exact absurd hw List.not_mem_nil
