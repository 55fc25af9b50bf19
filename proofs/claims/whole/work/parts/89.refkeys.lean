/-! where the reference keeps what the tally keeps -/
def rK (M n : Nat) (f : Nat → Nat) (g : Nat → Int32) (v : Nat → Int64) : Prop := ∀ i, i < M → (f i = 0 ∧ g i = -1) ∨ (f i ≠ 0 ∧ (∃ e, e < n ∧ g i = nI e) ∧ v i = lN (f i))
theorem rK_neg {M n : Nat} {f : Nat → Nat} {g : Nat → Int32} {v : Nat → Int64} (h : rK M n f g v) (hn : n ≤ 154) {i : Nat} (hi : i < M) : g i < 0 ↔ f i = 0 := by
  rcases h i hi with ⟨h1, h2⟩ | ⟨h1, ⟨e, he, h2⟩, _⟩
  · rw [h2]
    exact ⟨fun _ => h1, fun _ => by decide⟩
  · rw [h2]
    exact ⟨fun h => absurd h (nI_pos (by omega)), fun h => absurd h h1⟩
theorem rK_val {M n : Nat} {f : Nat → Nat} {g : Nat → Int32} {v : Nat → Int64} (h : rK M n f g v) {i : Nat} (hi : i < M) (h0 : f i ≠ 0) : v i = lN (f i) := by
  rcases h i hi with ⟨h1, _⟩ | ⟨_, _, h2⟩
  · exact absurd h1 h0
  · exact h2
theorem rK_upd {M n I Y : Nat} {f : Nat → Nat} {g : Nat → Int32} {v : Nat → Int64} (h : rK M n f g v) (hY : Y ≠ 0) : rK M (n + 1) (updN f I Y) (upd g I (nI n)) (vp_updL v I (lN Y)) := by
  intro i hi
  unfold updN upd vp_updL
  by_cases e : i = I
  · rw [if_pos e, if_pos e, if_pos e]
    exact Or.inr ⟨hY, ⟨n, by omega, rfl⟩, rfl⟩
  · rw [if_neg e, if_neg e, if_neg e]
    rcases h i hi with h1 | ⟨h1, ⟨e1, he, h2⟩, h3⟩
    · exact Or.inl h1
    · exact Or.inr ⟨h1, ⟨e1, by omega, h2⟩, h3⟩
theorem in_iff {x1 : Int32} {N : Nat} (h0 : 0 < N) (hN : N < 2 ^ 31) : (0 ≤ x1 ∧ x1 ≤ nI (N - 1)) ↔ inN x1 N := by
  constructor
  · rintro ⟨h1, h2⟩
    obtain ⟨I, hI, rfl⟩ := i_nn (fun h => absurd h (Int32.not_lt.mpr h1))
    exact ⟨I, rfl, by have := (nI_leI hI (by omega)).mp h2; omega⟩
  · rintro ⟨I, rfl, hI⟩
    exact ⟨nI_pos' (by omega), (nI_leI (by omega) (by omega)).mpr (by omega)⟩
/-- how many of the first k are there -/
def cnt (f : Nat → Nat) : Nat → Nat
  | 0 => 0
  | k + 1 => if f k = 0 then cnt f k else cnt f k + 1
theorem cnt_le (f : Nat → Nat) : ∀ k, cnt f k ≤ k
  | 0 => Nat.le_refl _
  | k + 1 => by
    unfold cnt
    have := cnt_le f k
    split <;> omega
theorem cnt_all (f : Nat → Nat) : ∀ k, cnt f k = k ↔ ∀ i, i < k → f i ≠ 0
  | 0 => ⟨fun _ i hi => absurd hi (by omega), fun _ => rfl⟩
  | k + 1 => by
    have hl := cnt_le f k
    have ih := cnt_all f k
    unfold cnt
    by_cases h : f k = 0
    · rw [if_pos h]
      exact ⟨fun h2 => by omega, fun h2 => absurd h (h2 k (by omega))⟩
    · rw [if_neg h]
      refine ⟨fun h2 i hi => ?_, fun h2 => ?_⟩
      · by_cases e : i = k
        · rw [e]; exact h
        · exact (ih.mp (by omega)) i (by omega)
      · have := ih.mpr (fun i hi => h2 i (by omega))
        omega
theorem cnt_upd (f : Nat → Nat) {I Y : Nat} (h0 : f I = 0) (hY : Y ≠ 0) : ∀ k, cnt (updN f I Y) k = if I < k then cnt f k + 1 else cnt f k
  | 0 => by rw [if_neg (by omega)]; rfl
  | k + 1 => by
    have ih := cnt_upd f h0 hY k
    unfold cnt updN
    by_cases e : k = I
    · rw [if_pos e, if_neg hY, if_pos (by omega)]
      have e2 : f k = 0 := by rw [e]; exact h0
      rw [if_pos e2]
      show cnt (updN f I Y) k + 1 = _
      rw [ih, if_neg (by omega)]
    · rw [if_neg e]
      show (if f k = 0 then cnt (updN f I Y) k else cnt (updN f I Y) k + 1) = _
      rw [ih]
      by_cases h1 : I < k
      · have h9 : I < k + 1 := by omega
        rw [if_pos h1, if_pos h9]
        by_cases h2 : f k = 0
        · rw [if_pos h2, if_pos h2]
        · rw [if_neg h2, if_neg h2]
      · have h9 : ¬ I < k + 1 := by omega
        rw [if_neg h1, if_neg h9]
/-- the product of the first k, one behind another -/
def prk (P : Nat) (f : Nat → Nat) : Nat → Nat
  | 0 => 1
  | k + 1 => prk P f k * f k % P
theorem prk_lt {P : Nat} (hP : 1 < P) (f : Nat → Nat) : ∀ k, prk P f k < P
  | 0 => hP
  | k + 1 => Nat.mod_lt _ (by omega)
theorem prk_prd {P : Nat} {f : Nat → Nat} : ∀ k, (∀ i, i < k → f i ≠ 0) → prk P f k = prd P f f k
  | 0, _ => rfl
  | k + 1, h => by
    unfold prk prd
    rw [if_neg (h k (by omega)), prk_prd k (fun i hi => h i (by omega))]
theorem prd_upd {P : Nat} (hP : 1 < P) (f : Nat → Nat) {I Y : Nat} (h0 : f I = 0) (hY : Y ≠ 0) : ∀ k, prd P (updN f I Y) (updN f I Y) k = if I < k then prd P f f k * Y % P else prd P f f k
  | 0 => by rw [if_neg (by omega)]; rfl
  | k + 1 => by
    have ih := prd_upd hP f h0 hY k
    unfold prd updN
    by_cases e : k = I
    · rw [if_pos e, if_neg hY, if_pos (by omega)]
      have e2 : f k = 0 := by rw [e]; exact h0
      rw [if_pos e2]
      show prd P (updN f I Y) (updN f I Y) k * Y % P = _
      rw [ih, if_neg (by omega)]
    · rw [if_neg e]
      show (if f k = 0 then prd P (updN f I Y) (updN f I Y) k else prd P (updN f I Y) (updN f I Y) k * f k % P) = _
      rw [ih]
      by_cases h1 : I < k
      · have h9 : I < k + 1 := by omega
        rw [if_pos h1, if_pos h9]
        by_cases h2 : f k = 0
        · rw [if_pos h2, if_pos h2]
        · rw [if_neg h2, if_neg h2, Nat.mod_mul_mod, Nat.mod_mul_mod, Nat.mul_right_comm]
      · have h9 : ¬ I < k + 1 := by omega
        rw [if_neg h1, if_neg h9]
theorem bz_in {r x1 x3 : Int32} {N : Nat} (h0 : 0 < N) (hN : N < 2 ^ 31) (hx : x3 = nI (N - 1)) (h : r = if 0 ≤ x1 ∧ x1 ≤ x3 then 1 else 0) : bz r (inN x1 N) := by
  have e := in_iff (x1 := x1) h0 hN
  rw [hx] at h
  by_cases c : 0 ≤ x1 ∧ x1 ≤ nI (N - 1)
  · rw [if_pos c] at h
    rw [h]
    exact bz_1 (e.mp c)
  · rw [if_neg c] at h
    rw [h]
    exact bz_0 (fun q => c (e.mpr q))
def allN (N : Nat) (f : Nat → Nat) : Prop := 0 < N ∧ ∀ i, i < N → f i ≠ 0
/-- too early, too late, or there already -/
def kC1 (N : Nat) (cl : Int32) (f : Nat → Nat) (x : Int32) : Prop := N = 0 ∨ cl = 1 ∨ ∃ I, x = nI I ∧ I < N ∧ f I ≠ 0
/-- no trustee, or no proof -/
def kC2 (P Q G N : Nat) (x : Int32) (y c z : Int64) : Prop := ¬ ∃ I, x = nI I ∧ I < N ∧ keyHd P Q G I y c z
def gfx (P Q G : Nat) : Prop := P = 2 * Q + 1 ∧ P < 2 ^ 61 ∧ 3 ≤ Q ∧ 2 ≤ G ∧ G < P ∧ G ^ Q % P = 1
abbrev b_Bm_allKeys : ByteArray := prog_10_method_28_code
abbrev y_Bm_allKeys : MethodName := ⟨"BallotBoardModel", "allKeys", "()Z"⟩
abbrev w_Bm_allKeys : List Cond := .code y_Bm_allKeys b_Bm_allKeys 2 (some .boolean) :: gw
theorem d_Bm_allKeys_0 : decode b_Bm_allKeys 0 = .ok (.iconst 0, 1) := by decide +kernel
theorem d_Bm_allKeys_1 : decode b_Bm_allKeys 1 = .ok (.istore_n 1, 1) := by decide +kernel
theorem d_Bm_allKeys_2 : decode b_Bm_allKeys 2 = .ok (.iload_n 1, 1) := by decide +kernel
theorem d_Bm_allKeys_3 : decode b_Bm_allKeys 3 = .ok (.aload_n 0, 1) := by decide +kernel
theorem d_Bm_allKeys_4 : decode b_Bm_allKeys 4 = .ok (.getfield 211, 3) := by decide +kernel
theorem d_Bm_allKeys_7 : decode b_Bm_allKeys 7 = .ok (.if_icmp .ge 20, 3) := by decide +kernel
theorem d_Bm_allKeys_10 : decode b_Bm_allKeys 10 = .ok (.aload_n 0, 1) := by decide +kernel
theorem d_Bm_allKeys_11 : decode b_Bm_allKeys 11 = .ok (.getfield 22, 3) := by decide +kernel
theorem d_Bm_allKeys_14 : decode b_Bm_allKeys 14 = .ok (.iload_n 1, 1) := by decide +kernel
theorem d_Bm_allKeys_15 : decode b_Bm_allKeys 15 = .ok (.iaload, 1) := by decide +kernel
theorem d_Bm_allKeys_16 : decode b_Bm_allKeys 16 = .ok (.ifCond .ge 5, 3) := by decide +kernel
theorem d_Bm_allKeys_19 : decode b_Bm_allKeys 19 = .ok (.iconst 0, 1) := by decide +kernel
theorem d_Bm_allKeys_20 : decode b_Bm_allKeys 20 = .ok (.ireturn, 1) := by decide +kernel
theorem d_Bm_allKeys_21 : decode b_Bm_allKeys 21 = .ok (.iinc 1 1, 3) := by decide +kernel
theorem d_Bm_allKeys_24 : decode b_Bm_allKeys 24 = .ok (.goto (-22), 3) := by decide +kernel
theorem d_Bm_allKeys_27 : decode b_Bm_allKeys 27 = .ok (.aload_n 0, 1) := by decide +kernel
theorem d_Bm_allKeys_28 : decode b_Bm_allKeys 28 = .ok (.getfield 211, 3) := by decide +kernel
theorem d_Bm_allKeys_31 : decode b_Bm_allKeys 31 = .ok (.ifCond .le 7, 3) := by decide +kernel
theorem d_Bm_allKeys_34 : decode b_Bm_allKeys 34 = .ok (.iconst 1, 1) := by decide +kernel
theorem d_Bm_allKeys_35 : decode b_Bm_allKeys 35 = .ok (.goto 4, 3) := by decide +kernel
theorem d_Bm_allKeys_38 : decode b_Bm_allKeys 38 = .ok (.iconst 0, 1) := by decide +kernel
theorem d_Bm_allKeys_39 : decode b_Bm_allKeys 39 = .ok (.ireturn, 1) := by decide +kernel
set_option maxHeartbeats 8000000 in
set_option maxRecDepth 100000 in
theorem c_Bm_allKeys (l : Launch) (H0 : Heap) (dC : Nat → ClassId) (dI : Nat → Nat → Nat) (cJ cI : ClassId) (m0 : Nat) (z0 z2 z3 : Int32) (z4 z5 z6 z7 z8 z9 : Int64) (z10 : Int32) (a0 a1 a2 a3 a4 a5 a6 a7 a8 a9 b0 b1 oc b2 b3 b4 b5 : Nat) (N : Nat) (kf : Nat → Int32) (f : Nat → Nat) (v : Nat → Int64) (n : Nat) (hP : va_P (dC, dI) classes (mo_ws m0 z0 (nI N) z2 z3 z4 z5 z6 z7 z8 z9 z10 a0 a1 a2 a3 a4 a5 a6 a7 a8 a9 b0 b1 oc b2 b3 b4 b5 ++ (iw_ws a4 cI 4 kf)) H0) (hN : N ≤ 4) (hn : n ≤ 154) (hrk : rK 4 n f kf v)  : Met l y_Bm_allKeys w_Bm_allKeys ({ frames := 0, cells := 0, slots := 0, locals := 0 }) (va_Pc [.ref m0] (fun U => U.heap = H0 ∧ va_K (dC, dI) classes [(cJ, .long), (cI, .int)] U)) (va_Qi (fun (r : Int32) (_ : Unit) => bz r (allN N f)) (fun _ t => t.heap = H0) (fun _ => False)) 0 0 (fun _ => False) := by
  refine Met.ofW (cc := b_Bm_allKeys) (maxL := 2) (ret := (some .boolean)) (by decide) rfl ?_
  intro p e s m args below meth c s₁ Bd hml hv
  obtain ⟨rfl, hH, hK⟩ := hv
  subst hH
  have hx := Bd.exec
  have hb := Bd.bytes
  have hr := Bd.returns
  have hts := atoms_spec (ws := w_Bm_allKeys) Bd.pre
  have hown : s.vm.findClass "BallotBoardModel" = some m.cls := findClass_of_methodNamed Bd.named
  have hlocks := Bd.notSynchronized
  have hS : va_S (fun _ => False) s.heap s.heap [] := va_S.rf
  have hl := lv_entry ([.ref m0]) (n := 2) (Nat.le_of_ble_eq_true rfl)
  rw [lg_entry_eq]
  generalize (lg_sl ([.ref m0]) ++ List.replicate (2 - (lg_sl ([.ref m0])).length) Slot.unset).toArray = ls at hl ⊢
  have hl : lv_has ls 2 [(0, .ref m0)] := hl
  have loop : ∀ (j i : Nat), i + j = N → (∀ a, a < i → f a ≠ 0) → ∀ (locs : List Loc), va_S (fun _ => False) s.heap s.heap locs → ∀ (ls : Array Slot), lv_has ls 2 [(0, .ref m0), (1, .int (nI i))] → W p l e ({ frames := 0, cells := 0, slots := 0, locals := 0 } : Room) s m ([.ref m0] : List Value).toArray below meth c s.heap locs 0 0 (MQ below (va_Qi (fun (r : Int32) (_ : Unit) => bz r (allN N f)) (fun _ t => t.heap = s.heap) (fun _ => False)) ([.ref m0] : List Value).toArray s 0 0 (fun _ => False)) (F0 m 2 ls []) := by
    intro j
    induction j using Nat.strongRecOn with
    | ind j ih =>
      intro i hij hall locs hS ls hl
      refine lv_iload_n hx hb d_Bm_allKeys_2 rfl (lv_at hl 1 rfl) ?_
      refine lv_aload_n hx hb d_Bm_allKeys_3 rfl (lv_at hl 0 rfl) ?_
      refine va_get (D := (dC, dI)) (ci := 8) (v := .int (nI N)) (C := "BallotBoardModel") (T := F_Bm) (N := 28) hx hb hts (fun w9 h9 => List.mem_cons_of_mem _ (i_Bm w9 h9)) hown hK hP 0 rfl rfl 1 (by decide) (hts _ (List.mem_cons_of_mem _ gk_920)) (fun _ h9 => h9) rfl d_Bm_allKeys_4 ?_
      refine lv_icmp_ge (tgt := 27) hx hb d_Bm_allKeys_7 (by decide) (fun c_1 => ?_) (fun c_1 => ?_)
      · -- taken
        have hi9 : i = N := by
          have := (nI_leI (by omega) (by omega)).mp c_1
          omega
        refine lv_aload_n hx hb d_Bm_allKeys_27 rfl (lv_at hl 0 rfl) ?_
        refine va_get (D := (dC, dI)) (ci := 8) (v := .int (nI N)) (C := "BallotBoardModel") (T := F_Bm) (N := 28) hx hb hts (fun w9 h9 => List.mem_cons_of_mem _ (i_Bm w9 h9)) hown hK hP 0 rfl rfl 1 (by decide) (hts _ (List.mem_cons_of_mem _ gk_920)) (fun _ h9 => h9) rfl d_Bm_allKeys_28 ?_
        refine lv_if_le (tgt := 38) hx hb d_Bm_allKeys_31 (by decide) (fun c_2 => ?_) (fun c_2 => ?_)
        · -- taken
          have hbad : ¬ allN N f := fun h => nI_nle h.1 (by omega) c_2
          refine lv_iconst (v := 0) hx hb d_Bm_allKeys_38 (by decide) ?_
          exact W.zret (v := 0) hx hb hr (by decide) (fun t ht hW => ⟨⟨_, (), rfl, (bz_0 hbad), ht⟩, hS.F ht⟩) hS.2.2 d_Bm_allKeys_39
        · -- not taken
          have hgood : allN N f := ⟨Nat.pos_of_ne_zero (fun h => by rw [h] at c_2; exact c_2 (by decide)), fun a ha => hall a (by omega)⟩
          refine lv_iconst (v := 1) hx hb d_Bm_allKeys_34 (by decide) ?_
          refine lv_goto (tgt := 39) hx hb d_Bm_allKeys_35 (by decide) ?_
          exact W.zret (v := 1) hx hb hr (by decide) (fun t ht hW => ⟨⟨_, (), rfl, (bz_1 hgood), ht⟩, hS.F ht⟩) hS.2.2 d_Bm_allKeys_39
      · -- not taken
        have hi9 : i < N := Nat.lt_of_not_le (fun h => c_1 ((nI_leI (by omega) (by omega)).mpr h))
        refine lv_aload_n hx hb d_Bm_allKeys_10 rfl (lv_at hl 0 rfl) ?_
        refine va_get (D := (dC, dI)) (ci := 8) (v := .ref a4) (C := "BallotBoardModel") (T := F_Bm) (N := 28) hx hb hts (fun w9 h9 => List.mem_cons_of_mem _ (i_Bm w9 h9)) hown hK hP 0 rfl rfl 15 (by decide) (hts _ (List.mem_cons_of_mem _ gk_934)) (fun _ h9 => h9) rfl d_Bm_allKeys_11 ?_
        refine lv_iload_n hx hb d_Bm_allKeys_14 rfl (lv_at hl 1 rfl) ?_
        refine va_iald hx hb hK hP 1 1 rfl rfl (vp_in_nI (by omega) (by omega)) d_Bm_allKeys_15 ?_
        rw [show (kf (nI i : Int32).toNatClampNeg : Int32) = kf i from by rw [nI_clamp (by omega)]]
        refine lv_if_ge (tgt := 21) hx hb d_Bm_allKeys_16 (by decide) (fun c_3 => ?_) (fun c_3 => ?_)
        · -- taken
          have hf9 : f i ≠ 0 := fun h => absurd ((rK_neg hrk hn (show i < 4 by omega)).mpr h) (Int32.not_lt.mpr c_3)
          obtain ⟨i_4, ei_4⟩ : ∃ y : Int32, y = (nI i) + 1 := ⟨_, rfl⟩
          refine lv_iinc (v := i_4) (lv' := [(1, .int i_4), (0, .ref m0)]) hx hb d_Bm_allKeys_21 hl (k := 1) rfl (by rw [ei_4]; rfl) (by decide) rfl (fun ls hl => ?_)
          obtain rfl : i_4 = nI (i + 1) := by rw [ei_4]; exact nI_1 i
          refine lv_goto (tgt := 2) hx hb d_Bm_allKeys_24 (by decide) ?_
          exact ih (j - 1) (by omega) (i + 1) (by omega) (fun a ha => by
            by_cases e9 : a = i
            · rw [e9]; exact hf9
            · exact hall a (by omega)) locs hS ls (lv_sub hl [1, 0] rfl)
        · -- not taken
          have hf9 : f i = 0 := (rK_neg hrk hn (show i < 4 by omega)).mp (Int32.not_le.mp c_3)
          have hbad : ¬ allN N f := fun h => h.2 i hi9 hf9
          refine lv_iconst (v := 0) hx hb d_Bm_allKeys_19 (by decide) ?_
          exact W.zret (v := 0) hx hb hr (by decide) (fun t ht hW => ⟨⟨_, (), rfl, (bz_0 hbad), ht⟩, hS.F ht⟩) hS.2.2 d_Bm_allKeys_20
  refine lv_iconst (v := 0) hx hb d_Bm_allKeys_0 (by decide) ?_
  refine lv_istore_n (lv' := [(1, .int 0), (0, .ref m0)]) hx hb d_Bm_allKeys_1 rfl hl (by decide) rfl (fun ls hl => ?_)
  exact loop N 0 (by omega) (fun a ha => absurd ha (by omega)) [] hS ls (lv_sub hl [1, 0] rfl)
