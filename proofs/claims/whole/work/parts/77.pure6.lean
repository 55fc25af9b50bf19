/-! the tally as a value; what the auditor finds -/
def vN (x : Int64) : Nat := x.toUInt64.toNat
theorem vN_lN (x : Int64) : lN (vN x) = x := (l_toU x).symm
theorem vN_of {x : Int64} {Y : Nat} (h : x = lN Y) (hY : Y < 2 ^ 64) : vN x = Y := lN_inj x.toUInt64.toNat_lt hY ((vN_lN x).trans h)
abbrev TS : Type := (Nat → Nat) × (Nat → Nat) × (Nat → Nat) × (Nat → Nat) × Nat × Nat × Nat × Nat × Nat × Nat × Nat × Nat × Int32
def t_ko (T : TS) : Nat → Nat := T.1
def t_ao (T : TS) : Nat → Nat := T.2.1
def t_bo (T : TS) : Nat → Nat := T.2.2.1
def t_so (T : TS) : Nat → Nat := T.2.2.2.1
def t_tn (T : TS) : Nat := T.2.2.2.2.1
def t_kc (T : TS) : Nat := T.2.2.2.2.2.1
def t_bc (T : TS) : Nat := T.2.2.2.2.2.2.1
def t_shc (T : TS) : Nat := T.2.2.2.2.2.2.2.1
def t_kp (T : TS) : Nat := T.2.2.2.2.2.2.2.2.1
def t_shp (T : TS) : Nat := T.2.2.2.2.2.2.2.2.2.1
def t_pa (T : TS) : Nat := T.2.2.2.2.2.2.2.2.2.2.1
def t_pb (T : TS) : Nat := T.2.2.2.2.2.2.2.2.2.2.2.1
def t_sht (T : TS) : Int32 := T.2.2.2.2.2.2.2.2.2.2.2.2
abbrev tt_ws (t0 ka aa ba sa : Nat) (gv : Value) (cJ : ClassId) (T : TS) : va_W := tl_ws t0 ka aa ba sa gv cJ (t_ko T) (t_ao T) (t_bo T) (t_so T) (t_tn T) (t_kc T) (t_bc T) (t_shc T) (t_kp T) (t_shp T) (t_pa T) (t_pb T) (t_sht T)
def tStart (N : Nat) (T : TS) : TS := (zf (t_ko T) 4, zf (t_ao T) 64, zf (t_bo T) 64, zf (t_so T) 4, N, 0, 0, 0, 1, 1, 0, 0, 0)
def tKey (P I Y : Nat) (T : TS) : TS := (updN (t_ko T) I Y, t_ao T, t_bo T, t_so T, t_tn T, t_kc T + 1, t_bc T, t_shc T, t_kp T * Y % P, t_shp T, t_pa T, t_pb T, t_sht T)
def tBal (I A B : Nat) (T : TS) : TS := (t_ko T, updN (t_ao T) I A, updN (t_bo T) I B, t_so T, t_tn T, t_kc T, if t_ao T I = 0 then t_bc T + 1 else t_bc T, t_shc T, t_kp T, t_shp T, t_pa T, t_pb T, t_sht T)
def tSha (P I Y : Nat) (T : TS) : TS := (t_ko T, t_ao T, t_bo T, updN (t_so T) I Y, t_tn T, t_kc T, t_bc T, t_shc T + 1, t_kp T, t_shp T * Y % P, t_pa T, t_pb T, t_sht T)
def tShut (P : Nat) (T : TS) : TS := (t_ko T, t_ao T, t_bo T, t_so T, t_tn T, t_kc T, t_bc T, t_shc T, t_kp T, t_shp T, prd P (t_ao T) (t_ao T) 64, prd P (t_ao T) (t_bo T) 64, 1)
def tOpn (P : Nat) (T : TS) : TS := if t_sht T = 1 then T else tShut P T
def tOk (P N : Nat) (T : TS) : Prop := t_tn T = N ∧ (∀ j, t_ko T j < P) ∧ (∀ j, t_ao T j < P) ∧ (∀ j, t_bo T j < P) ∧ (∀ j, t_so T j < P) ∧ t_kp T < P ∧ t_shp T < P ∧ t_pa T < P ∧ t_pb T < P ∧ (t_sht T = 0 ∨ t_sht T = 1)
theorem tOk_start {P N : Nat} {T : TS} (hP : 1 < P) (h : (∀ j, 4 ≤ j → t_ko T j < P) ∧ (∀ j, 64 ≤ j → t_ao T j < P) ∧ (∀ j, 64 ≤ j → t_bo T j < P) ∧ (∀ j, 4 ≤ j → t_so T j < P)) : tOk P N (tStart N T) := by
  have hz : ∀ (f : Nat → Nat) (k : Nat), (∀ j, k ≤ j → f j < P) → ∀ j, zf f k j < P := by
    intro f k hf j
    unfold zf
    by_cases hj : j < k
    · rw [if_pos hj]; omega
    · rw [if_neg hj]; exact hf j (by omega)
  exact ⟨rfl, hz _ _ h.1, hz _ _ h.2.1, hz _ _ h.2.2.1, hz _ _ h.2.2.2, hP, hP, by show 0 < P; omega, by show 0 < P; omega, Or.inl rfl⟩
theorem tOk_key {P N I Y : Nat} {T : TS} (hP : 1 < P) (hY : Y < P) (h : tOk P N T) : tOk P N (tKey P I Y T) := by
  obtain ⟨h1, h2, h3, h4, h5, h6, h7, h8, h9, h10⟩ := h
  exact ⟨h1, updN_lt h2 hY, h3, h4, h5, Nat.mod_lt _ (by omega), h7, h8, h9, h10⟩
theorem tOk_bal {P N I A B : Nat} {T : TS} (hA : A < P) (hB : B < P) (h : tOk P N T) : tOk P N (tBal I A B T) := by
  obtain ⟨h1, h2, h3, h4, h5, h6, h7, h8, h9, h10⟩ := h
  exact ⟨h1, h2, updN_lt h3 hA, updN_lt h4 hB, h5, h6, h7, h8, h9, h10⟩
theorem tOk_sha {P N I Y : Nat} {T : TS} (hP : 1 < P) (hY : Y < P) (h : tOk P N T) : tOk P N (tSha P I Y T) := by
  obtain ⟨h1, h2, h3, h4, h5, h6, h7, h8, h9, h10⟩ := h
  exact ⟨h1, h2, h3, h4, updN_lt h5 hY, h6, Nat.mod_lt _ (by omega), h8, h9, h10⟩
theorem tOk_shut {P N : Nat} {T : TS} (hP : 1 < P) (h : tOk P N T) : tOk P N (tShut P T) := by
  obtain ⟨h1, h2, h3, h4, h5, h6, h7, h8, h9, h10⟩ := h
  exact ⟨h1, h2, h3, h4, h5, h6, h7, prd_lt hP _ _ _, prd_lt hP _ _ _, Or.inr rfl⟩
theorem tOk_opn {P N : Nat} {T : TS} (hP : 1 < P) (h : tOk P N T) : tOk P N (tOpn P T) := by
  unfold tOpn
  split
  · exact h
  · exact tOk_shut hP h
theorem tOpn_kc (P : Nat) (T : TS) : t_kc (tOpn P T) = t_kc T := by
  unfold tOpn
  split <;> rfl
/-- an entry of kind K taken -/
def tTake (P K I : Nat) (r : Nat → Int64) (T : TS) : TS := if K = 1 then tKey P I (vN (r 2)) T else if K = 2 then tBal I (vN (r 2)) (vN (r 3)) T else tSha P I (vN (r 2)) (tOpn P T)
/-- the auditor's tally before entry k -/
def aud (P N : Nat) (T0 : TS) (kd wh : Nat → Nat) (R : Nat → Nat → Int64) : Nat → TS
  | 0 => tStart N T0
  | k + 1 => tTake P (kd k) (wh k) (R k) (aud P N T0 kd wh R k)
def rowL (K : Nat) (r : Nat → Int64) : List Int64 := if K = 2 then [r 0, r 1, r 2, r 3, r 4, r 5, r 6, r 7] else [r 0, r 1, r 2, r 3, r 4]
def prvL (k : Nat) (Lk : Nat → Nat → Int64) : List Int64 := if k = 0 then [0, 0, 0, 0] else [Lk (k - 1) 0, Lk (k - 1) 1, Lk (k - 1) 2, Lk (k - 1) 3]
def msgL (K k : Nat) (r : Nat → Int64) (Lk : Nat → Nat → Int64) : List Int64 := prvL k Lk ++ rowL K r
/-- the proof of an entry of kind K, held against a tally -/
def prf (P Q G K I : Nat) (r : Nat → Int64) (T : TS) : Prop := if K = 1 then keyHd P Q G I (r 2) (r 3) (r 4) else if K = 2 then balHd P Q G (ckey (t_tn T) (t_kc T) (t_kp T)) I (r 2) (r 3) (r 4) (r 5) (r 6) (r 7) else shaHd P Q G (t_ko T I) (t_pa (tOpn P T)) I (r 2) (r 3) (r 4)
def hds (P Q G N : Nat) (T0 : TS) (kd wh : Nat → Nat) (R Lk : Nat → Nat → Int64) (k : Nat) : Prop := lnk4 (Lk k) (msgL (kd k) k (R k) Lk) ∧ prf P Q G (kd k) (wh k) (R k) (aud P N T0 kd wh R k)
theorem keyHd_lt {P Q G I : Nat} {y c z : Int64} (hP : P < 2 ^ 62) (h : keyHd P Q G I y c z) : vN y < P := by
  obtain ⟨Y, C, Z, e, _, _, _, _, _, h9, _⟩ := h
  rw [vN_of e (by omega)]
  exact h9
theorem shaHd_lt {P Q G Yi A I : Nat} {y c z : Int64} (hP : P < 2 ^ 62) (h : shaHd P Q G Yi A I y c z) : vN y < P := by
  obtain ⟨Y, C, Z, e, _, _, _, _, _, h9, _⟩ := h
  rw [vN_of e (by omega)]
  exact h9
theorem balHd_lt {P Q G K I : Nat} {a b c z d y : Int64} (hP : P < 2 ^ 62) (h : balHd P Q G K I a b c z d y) : vN a < P ∧ vN b < P := by
  obtain ⟨A, B, C, Z, D, Y, ea, eb, _, _, _, _, _, _, _, _, hA, hB, _⟩ := h
  rw [vN_of ea (by omega), vN_of eb (by omega)]
  exact ⟨hA.2.1, hB.2.1⟩
theorem tOk_take {P Q G N K I : Nat} {r : Nat → Int64} {T : TS} (hP1 : 1 < P) (hP : P < 2 ^ 62) (h : tOk P N T) (hp : prf P Q G K I r T) : tOk P N (tTake P K I r T) := by
  unfold prf at hp
  unfold tTake
  by_cases h1 : K = 1
  · rw [if_pos h1] at hp ⊢
    exact tOk_key hP1 (keyHd_lt hP hp) h
  · rw [if_neg h1] at hp ⊢
    by_cases h2 : K = 2
    · rw [if_pos h2] at hp ⊢
      have := balHd_lt hP hp
      exact tOk_bal this.1 this.2 h
    · rw [if_neg h2] at hp ⊢
      exact tOk_sha hP1 (shaHd_lt hP hp) (tOk_opn hP1 h)
/-- the entries as an auditor meets them -/
def wfE (n N : Nat) (kd wh : Nat → Nat) (R : Nat → Nat → Int64) : Prop := n ≤ 154 ∧ (∀ i, i < n → (kd i = 1 ∨ kd i = 2 ∨ kd i = 3) ∧ R i 0 = lN (kd i) ∧ R i 1 = lN (wh i) ∧ (kd i = 2 → wh i < 64) ∧ (kd i ≠ 2 → wh i < N)) ∧ (0 < n → kd 0 = 1)
theorem aud_ok {P Q G N n : Nat} {T0 : TS} {kd wh : Nat → Nat} {R Lk : Nat → Nat → Int64} (hP1 : 1 < P) (hP : P < 2 ^ 62) (h0 : tOk P N (tStart N T0)) : ∀ k, (∀ i, i < k → hds P Q G N T0 kd wh R Lk i) → tOk P N (aud P N T0 kd wh R k)
  | 0, _ => h0
  | k + 1, h => tOk_take hP1 hP (aud_ok (n := n) hP1 hP h0 k (fun i hi => h i (by omega))) (h k (by omega)).2
theorem mmax_nI {a b : Nat} (ha : a < 2 ^ 31) (hb : b < 2 ^ 31) : (if nI a < nI b then nI b else nI a) = nI (max a b) := by
  by_cases h : a < b
  · rw [if_pos (nI_lt h hb), Nat.max_eq_right (by omega)]
  · rw [if_neg (nI_nlt (by omega) ha), Nat.max_eq_left (by omega)]
theorem mmin_nI {a b : Nat} (ha : a < 2 ^ 31) (hb : b < 2 ^ 31) : (if nI b < nI a then nI b else nI a) = nI (min a b) := by
  by_cases h : b < a
  · rw [if_pos (nI_lt h ha), Nat.min_eq_right (by omega)]
  · rw [if_neg (nI_nlt (by omega) hb), Nat.min_eq_left (by omega)]
/-! the rows and links of the board: 154 of each -/
def rws (rb : Nat) (cJ : ClassId) (w : Nat) (R : Nat → Nat → Int64) (is : List Nat) : va_W := is.map fun i => (rb + i, .inl (cJ, w, .inr (.inl (R i))))
abbrev bpool (rb lb : Nat) (cJ : ClassId) (R Lk : Nat → Nat → Int64) : va_W := rws rb cJ 8 R (List.range 154) ++ rws lb cJ 4 Lk (List.range 154)
def updF {α : Type} (f : Nat → α) (k : Nat) (x : α) : Nat → α := fun j => if j = k then x else f j
theorem updF_self {α : Type} (f : Nat → α) (k : Nat) (x : α) : updF f k x k = x := if_pos rfl
theorem updF_ne {α : Type} (f : Nat → α) {k j : Nat} (x : α) (h : j ≠ k) : updF f k x j = f j := if_neg h
theorem updF_id {α : Type} (f : Nat → α) (k : Nat) : updF f k (f k) = f := by
  funext j
  by_cases h : j = k
  · rw [h, updF_self]
  · rw [updF_ne f _ h]
theorem rws_focus (rb : Nat) (cJ : ClassId) (w : Nat) (R : Nat → Nat → Int64) {k : Nat} (hk : k < 154) : (rws rb cJ w R (List.range 154)).Perm ((rb + k, .inl (cJ, w, .inr (.inl (R k)))) :: rws rb cJ w R ((List.range 154).erase k)) := by
  have h : (List.range 154).Perm (k :: (List.range 154).erase k) := List.perm_cons_erase (List.mem_range.mpr hk)
  exact h.map _
theorem rws_upd (rb : Nat) (cJ : ClassId) (w : Nat) (R : Nat → Nat → Int64) (k : Nat) (r : Nat → Int64) {is : List Nat} (h : k ∉ is) : rws rb cJ w (updF R k r) is = rws rb cJ w R is := by
  unfold rws
  apply List.map_congr_left
  intro i hi
  have hne : i ≠ k := fun e => h (by rw [← e]; exact hi)
  rw [updF_ne R r hne]
theorem era1 (k : Nat) : k ∉ (List.range 154).erase k := List.nodup_range.not_mem_erase
theorem rws_back (rb : Nat) (cJ : ClassId) (w : Nat) (R : Nat → Nat → Int64) {k : Nat} (r : Nat → Int64) (hk : k < 154) : ((rb + k, .inl (cJ, w, .inr (.inl r))) :: rws rb cJ w R ((List.range 154).erase k)).Perm (rws rb cJ w (updF R k r) (List.range 154)) := by
  have h := (rws_focus rb cJ w (updF R k r) hk).symm
  rw [rws_upd rb cJ w R k r (era1 k), updF_self] at h
  exact h
/-- one row and one link ahead of the rest -/
theorem pool_1 (X : va_W) (rb lb : Nat) (cJ : ClassId) (R Lk : Nat → Nat → Int64) {k : Nat} (hk : k < 154) : (X ++ bpool rb lb cJ R Lk).Perm ((X ++ (rw_ws (rb + k) cJ (R k) ++ lk_ws (lb + k) cJ (Lk k))) ++ (rws rb cJ 8 R ((List.range 154).erase k) ++ rws lb cJ 4 Lk ((List.range 154).erase k))) := by
  rw [List.append_assoc]
  apply List.Perm.append_left
  refine ((rws_focus rb cJ 8 R hk).append (rws_focus lb cJ 4 Lk hk)).trans ?_
  show ((rb + k, _) :: (rws rb cJ 8 R _ ++ ((lb + k, _) :: rws lb cJ 4 Lk _))).Perm ((rb + k, _) :: (lb + k, _) :: (rws rb cJ 8 R _ ++ rws lb cJ 4 Lk _))
  exact List.Perm.cons _ List.perm_middle
theorem pool_1b (X : va_W) (rb lb : Nat) (cJ : ClassId) (R Lk : Nat → Nat → Int64) {k : Nat} (r lw : Nat → Int64) (hk : k < 154) : ((X ++ (rw_ws (rb + k) cJ r ++ lk_ws (lb + k) cJ lw)) ++ (rws rb cJ 8 R ((List.range 154).erase k) ++ rws lb cJ 4 Lk ((List.range 154).erase k))).Perm (X ++ bpool rb lb cJ (updF R k r) (updF Lk k lw)) := by
  have h := (pool_1 X rb lb cJ (updF R k r) (updF Lk k lw) hk).symm
  rw [rws_upd rb cJ 8 R k r (era1 k), rws_upd lb cJ 4 Lk k lw (era1 k), updF_self, updF_self] at h
  exact h
/-- and the link before it -/
theorem pool_2 (X : va_W) (rb lb : Nat) (cJ : ClassId) (R Lk : Nat → Nat → Int64) {k : Nat} (hk : k < 154) (h0 : 0 < k) : (X ++ bpool rb lb cJ R Lk).Perm ((X ++ (rw_ws (rb + k) cJ (R k) ++ (lk_ws (lb + (k - 1)) cJ (Lk (k - 1)) ++ lk_ws (lb + k) cJ (Lk k)))) ++ (rws rb cJ 8 R ((List.range 154).erase k) ++ rws lb cJ 4 Lk (((List.range 154).erase k).erase (k - 1)))) := by
  have hm : k - 1 ∈ (List.range 154).erase k := (List.Nodup.mem_erase_iff List.nodup_range).mpr ⟨by omega, List.mem_range.mpr (by omega)⟩
  refine (pool_1 X rb lb cJ R Lk hk).trans ?_
  have h2 : (rws lb cJ 4 Lk ((List.range 154).erase k)).Perm ((lb + (k - 1), .inl (cJ, 4, .inr (.inl (Lk (k - 1))))) :: rws lb cJ 4 Lk (((List.range 154).erase k).erase (k - 1))) := (List.perm_cons_erase hm).map _
  rw [List.append_assoc X (rw_ws (rb + k) cJ (R k) ++ lk_ws (lb + k) cJ (Lk k)), List.append_assoc X (rw_ws (rb + k) cJ (R k) ++ (lk_ws (lb + (k - 1)) cJ (Lk (k - 1)) ++ lk_ws (lb + k) cJ (Lk k)))]
  apply List.Perm.append_left
  show ((rb + k, _) :: (lb + k, _) :: (rws rb cJ 8 R _ ++ rws lb cJ 4 Lk _)).Perm ((rb + k, _) :: (lb + (k - 1), _) :: (lb + k, _) :: (rws rb cJ 8 R _ ++ rws lb cJ 4 Lk _))
  refine List.Perm.cons _ ?_
  refine (List.Perm.cons _ ((List.Perm.append_left _ h2).trans List.perm_middle)).trans ?_
  exact List.Perm.swap _ _ _
theorem pool_2b (X : va_W) (rb lb : Nat) (cJ : ClassId) (R Lk : Nat → Nat → Int64) {k : Nat} (r lw : Nat → Int64) (hk : k < 154) (h0 : 0 < k) : ((X ++ (rw_ws (rb + k) cJ r ++ (lk_ws (lb + (k - 1)) cJ (Lk (k - 1)) ++ lk_ws (lb + k) cJ lw))) ++ (rws rb cJ 8 R ((List.range 154).erase k) ++ rws lb cJ 4 Lk (((List.range 154).erase k).erase (k - 1)))).Perm (X ++ bpool rb lb cJ (updF R k r) (updF Lk k lw)) := by
  have h := (pool_2 X rb lb cJ (updF R k r) (updF Lk k lw) hk h0).symm
  rw [rws_upd rb cJ 8 R k r (era1 k), rws_upd lb cJ 4 Lk k lw (fun e => era1 k (List.mem_of_mem_erase e)), updF_self, updF_self, updF_ne Lk lw (show k - 1 ≠ k by omega)] at h
  exact h
def rrf (rb : Nat) : Nat → Option Nat := fun i => some (rb + i)
/-- what firstWrong answers -/
def fwr (n : Nat) (hd : Nat → Prop) (r : Int32) : Prop := (∃ j, j < n ∧ r = nI j ∧ ¬ hd j ∧ ∀ i, i < j → hd i) ∨ (r = -1 ∧ ∀ i, i < n → hd i)
theorem pool_1x (X : va_W) (rb lb : Nat) (cJ : ClassId) (R Lk : Nat → Nat → Int64) {k : Nat} (hk : k < 154) : ∃ (rk lk : Nat) (rst : va_W), rrf rb k = some rk ∧ rrf lb k = some lk ∧ (X ++ bpool rb lb cJ R Lk).Perm ((X ++ (rw_ws rk cJ (R k) ++ lk_ws lk cJ (Lk k))) ++ rst) ∧ ∀ (Y : va_W) (r lw : Nat → Int64), ((Y ++ (rw_ws rk cJ r ++ lk_ws lk cJ lw)) ++ rst).Perm (Y ++ bpool rb lb cJ (updF R k r) (updF Lk k lw)) :=
  ⟨rb + k, lb + k, _, rfl, rfl, pool_1 X rb lb cJ R Lk hk, fun Y r lw => pool_1b Y rb lb cJ R Lk r lw hk⟩
theorem pool_2x (X : va_W) (rb lb : Nat) (cJ : ClassId) (R Lk : Nat → Nat → Int64) {k : Nat} (hk : k < 154) (h0 : 0 < k) : ∃ (rk lp lk : Nat) (rst : va_W), rrf rb k = some rk ∧ rrf lb (k - 1) = some lp ∧ rrf lb k = some lk ∧ (X ++ bpool rb lb cJ R Lk).Perm ((X ++ (rw_ws rk cJ (R k) ++ (lk_ws lp cJ (Lk (k - 1)) ++ lk_ws lk cJ (Lk k)))) ++ rst) ∧ ∀ (Y : va_W) (r lw : Nat → Int64), ((Y ++ (rw_ws rk cJ r ++ (lk_ws lp cJ (Lk (k - 1)) ++ lk_ws lk cJ lw))) ++ rst).Perm (Y ++ bpool rb lb cJ (updF R k r) (updF Lk k lw)) :=
  ⟨rb + k, lb + (k - 1), lb + k, _, rfl, rfl, rfl, pool_2 X rb lb cJ R Lk hk h0, fun Y r lw => pool_2b Y rb lb cJ R Lk r lw hk h0⟩
abbrev au_ws (au0 bd0 pr0 t0 sd : Nat) : va_W := [(au0, .inr (6, [.ref bd0, .ref pr0, .ref t0, .int (nI sd)]))]
