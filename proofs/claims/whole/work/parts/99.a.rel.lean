/-! class and reference, held against each other -/
def trT (T : TS) : Prop := (∀ j, 4 ≤ j → t_ko T j = 0 ∧ t_so T j = 0) ∧ (∀ j, 64 ≤ j → t_ao T j = 0 ∧ t_bo T j = 0)
def nfR (n : Nat) (kd : Nat → Nat) (R : Nat → Nat → Int64) (nf : Nat → Int64) : Prop := ∀ e, e < n → ∀ j, j < wdt (kd e) → nf (8 * e + j) = R e j
def cfR (n : Nat) (Lk : Nat → Nat → Int64) (cf : Nat → Int64) : Prop := ∀ e, e < n → ∀ j, j < 4 → cf (4 * e + j) = Lk e j
def mdR (ao bo : Nat → Nat) (md : Nat → Int64) : Prop := ∀ i, i < 64 → ao i ≠ 0 → md (2 * i) = lN (ao i) ∧ md (2 * i + 1) = lN (bo i)
/-- the group and the tally -/
def RG (P Q G f1 k1 f2 k2 N : Nat) (T : TS) : Prop := gp_ok P f1 k1 Q f2 k2 G ∧ 0 < N ∧ N ≤ 4 ∧ tOk P N T ∧ trT T
def RT (P Q N : Nat) (T : TS) : Prop :=
  t_kc T = cnt (t_ko T) N ∧ t_kp T = prd P (t_ko T) (t_ko T) N ∧ t_shc T = cnt (t_so T) N ∧ t_shp T = prd P (t_so T) (t_so T) N ∧ t_bc T = cnt (t_ao T) 64 ∧
  (t_sht T = 1 → (t_pa T = prd P (t_ao T) (t_ao T) 64 ∧ t_pb T = prd P (t_ao T) (t_bo T) 64) ∧ ∀ i, i < N → t_ko T i ≠ 0) ∧ (¬ t_sht T = 1 → t_pa T = 0 ∧ t_pb T = 0) ∧
  (∀ j, t_ko T j ≠ 0 → t_ko T j ^ Q % P = 1) ∧ (∀ j, t_so T j ≠ 0 → t_so T j ^ Q % P = 1) ∧ (∀ j, t_ao T j ≠ 0 → t_ao T j ^ Q % P = 1 ∧ t_bo T j ^ Q % P = 1) ∧
  (∀ j, N ≤ j → t_ko T j = 0 ∧ t_so T j = 0)
/-- the entries -/
def RE (n N : Nat) (kd wh : Nat → Nat) (R : Nat → Nat → Int64) (T : TS) : Prop :=
  wfE n N kd wh R ∧ EI n N kd wh ∧ (∀ j, j < N → (t_ko T j ≠ 0 ↔ ∃ e, e < n ∧ kd e = 1 ∧ wh e = j)) ∧ (∀ e, e < n → kd e = 3 → t_sht T = 1) ∧ (¬ t_sht T = 1 → n ≤ 150) ∧ n ≤ 150 + t_shc T
/-- the reference's own -/
def RM (n N bc al pa pb : Nat) (cl : Int32) (kd wh : Nat → Nat) (R Lk : Nat → Nat → Int64) (T : TS) (nf cf : Nat → Int64) (kf sf vf : Nat → Int32) (ky md sh : Nat → Int64) : Prop :=
  bc = t_bc T ∧ al = ckey N (t_kc T) (t_kp T) ∧ pa = t_pa T ∧ pb = t_pb T ∧ cl = t_sht T ∧ nfR n kd R nf ∧ cfR n Lk cf ∧ (∀ e, e < n → kd e = 1 → kf (wh e) = nI e) ∧
  rK 4 n (t_ko T) kf ky ∧ rK 4 n (t_so T) sf sh ∧ rK 64 n (t_ao T) vf (fun i => lN (t_ao T i)) ∧ mdR (t_ao T) (t_bo T) md
/-- the auditor's -/
def RA (P Q G N n sd : Nat) (T0 : TS) (kd wh : Nat → Nat) (R Lk : Nat → Nat → Int64) : Prop := trT T0 ∧ sd ≤ n ∧ ∀ i, i < sd → hds P Q G N T0 kd wh R Lk i
theorem aud_congr {P N : Nat} {T0 : TS} {kd wh kd' wh' : Nat → Nat} {R R' : Nat → Nat → Int64} : ∀ k, (∀ e, e < k → kd e = kd' e ∧ wh e = wh' e ∧ R e = R' e) → aud P N T0 kd wh R k = aud P N T0 kd' wh' R' k
  | 0, _ => rfl
  | k + 1, h => by
    show tTake P (kd k) (wh k) (R k) (aud P N T0 kd wh R k) = tTake P (kd' k) (wh' k) (R' k) (aud P N T0 kd' wh' R' k)
    obtain ⟨h1, h2, h3⟩ := h k (by omega)
    rw [aud_congr k (fun e he => h e (by omega)), h1, h2, h3]
theorem msgL_congr {K k : Nat} {r : Nat → Int64} {Lk Lk' : Nat → Nat → Int64} (h : 0 < k → Lk (k - 1) = Lk' (k - 1)) : msgL K k r Lk = msgL K k r Lk' := by
  unfold msgL prvL
  by_cases h0 : k = 0
  · rw [if_pos h0, if_pos h0]
  · rw [if_neg h0, if_neg h0, h (by omega)]
theorem hds_congr {P Q G N : Nat} {T0 : TS} {kd wh kd' wh' : Nat → Nat} {R R' Lk Lk' : Nat → Nat → Int64} {k : Nat} (h : ∀ e, e ≤ k → kd e = kd' e ∧ wh e = wh' e ∧ R e = R' e ∧ Lk e = Lk' e) (hh : hds P Q G N T0 kd wh R Lk k) : hds P Q G N T0 kd' wh' R' Lk' k := by
  unfold hds at hh ⊢
  obtain ⟨h1, h2, h3, h4⟩ := h k (Nat.le_refl k)
  rw [← aud_congr k (fun e he => ⟨(h e (by omega)).1, (h e (by omega)).2.1, (h e (by omega)).2.2.1⟩), ← h1, ← h2, ← h3, ← h4, ← msgL_congr (Lk := Lk) (fun hk => (h (k - 1) (by omega)).2.2.2)]
  exact hh
theorem updF_lt {α : Type} (f : Nat → α) {n e : Nat} (x : α) (h : e < n) : updF f n x e = f e := updF_ne f x (by omega)
theorem RA_app {P Q G N n sd K I : Nat} {T0 : TS} {kd wh : Nat → Nat} {R Lk : Nat → Nat → Int64} {row g : Nat → Int64} (h : RA P Q G N n sd T0 kd wh R Lk) : RA P Q G N (n + 1) sd T0 (updF kd n K) (updF wh n I) (updF R n row) (updF Lk n g) := by
  obtain ⟨h0, h1, h2⟩ := h
  exact ⟨h0, by omega, fun i hi => hds_congr (fun e he => ⟨(updF_lt kd K (by omega)).symm, (updF_lt wh I (by omega)).symm, (updF_lt R row (by omega)).symm, (updF_lt Lk g (by omega)).symm⟩) (h2 i hi)⟩
theorem nf_post {n K : Nat} {kd : Nat → Nat} {R : Nat → Nat → Int64} {nf row : Nat → Int64} {x0 x1 x2 x3 x4 x5 x6 x7 : Int64} (h : nfR n kd R nf) (hr : ∀ j, j < wdt K → r8 x0 x1 x2 x3 x4 x5 x6 x7 j = row j) : nfR (n + 1) (updF kd n K) (updF R n row) (w8 nf (8 * n) x0 x1 x2 x3 x4 x5 x6 x7) := by
  intro e he j hj
  by_cases hen : e = n
  · subst hen
    rw [updF_self] at hj ⊢
    have := wdt_le2 K
    rw [w8_in _ _ _ _ _ _ _ _ _ _ j (by omega)]
    exact hr j hj
  · rw [updF_ne kd K hen] at hj
    rw [updF_ne R row hen, ← h e (by omega) j hj]
    have := wdt_le2 (kd e)
    exact w8_out _ _ _ _ _ _ _ _ _ _ _ (by omega)
theorem cf_post {n : Nat} {Lk : Nat → Nat → Int64} {cf g : Nat → Int64} (h : cfR n Lk cf) : cfR (n + 1) (updF Lk n g) (c4 cf (4 * n) g) := by
  intro e he j hj
  by_cases hen : e = n
  · subst hen
    rw [updF_self]
    exact c4_in _ _ _ j hj
  · rw [updF_ne Lk g hen, ← h e (by omega) j hj]
    exact c4_out _ _ _ _ (by omega)
theorem rK_more {M n : Nat} {f : Nat → Nat} {g : Nat → Int32} {v : Nat → Int64} (h : rK M n f g v) : rK M (n + 1) f g v := fun i hi => by
  rcases h i hi with h1 | ⟨h1, ⟨e, he, h2⟩, h3⟩
  · exact Or.inl h1
  · exact Or.inr ⟨h1, ⟨e, by omega, h2⟩, h3⟩
theorem wf_app {n N K I : Nat} {kd wh : Nat → Nat} {R : Nat → Nat → Int64} {row : Nat → Int64} (h : wfE n N kd wh R) (hn : n < 154) (hK : K = 1 ∨ K = 2 ∨ K = 3) (h0 : row 0 = lN K) (h1 : row 1 = lN I) (hI2 : K = 2 → I < 64) (hIN : K ≠ 2 → I < N) (hK1 : n = 0 → K = 1) : wfE (n + 1) N (updF kd n K) (updF wh n I) (updF R n row) := by
  refine ⟨by omega, fun e he => ?_, fun _ => ?_⟩
  · by_cases hen : e = n
    · subst hen
      rw [updF_self, updF_self, updF_self]
      exact ⟨hK, h0, h1, hI2, hIN⟩
    · rw [updF_ne kd K hen, updF_ne wh I hen, updF_ne R row hen]
      exact h.2.1 e (by omega)
  · by_cases hn0 : n = 0
    · rw [hn0, updF_self]
      exact hK1 hn0
    · rw [updF_ne kd K (by omega)]
      exact h.2.2 (by omega)
/-- one key more -/
theorem EI_key {n N I : Nat} {kd wh : Nat → Nat} (h : EI n N kd wh) (hI : I < N) (hall : ∀ e, e < n → kd e = 1) (hno : ∀ e, e < n → kd e = 1 → wh e ≠ I) : EI (n + 1) N (updF kd n 1) (updF wh n I) := by
  have hk : ∀ e, e < n + 1 → updF kd n 1 e = 1 := fun e he => by
    by_cases hen : e = n
    · rw [hen, updF_self]
    · rw [updF_ne kd 1 hen]; exact hall e (by omega)
  refine ⟨fun i j hij hj => ?_, fun i j hij hj _ _ => ?_, fun k hk9 hne => absurd (hk k hk9) hne⟩
  · rw [hk i (by omega), hk j hj]; exact Nat.le_refl _
  · by_cases hjn : j = n
    · rw [hjn, updF_self, updF_ne wh I (by omega)]
      exact hno i (by omega) (hall i (by omega))
    · rw [updF_ne wh I hjn, updF_ne wh I (by omega)]
      exact h.2.1 i j hij (by omega) (hall i (by omega)) (hall j (by omega))
/-- one ballot or share more -/
theorem EI_more {n N K I : Nat} {kd wh : Nat → Nat} (h : EI n N kd wh) (hK : K ≠ 1) (hmax : ∀ e, e < n → kd e ≤ K) (hall : ∀ j, j < N → ∃ e, e < n ∧ kd e = 1 ∧ wh e = j) : EI (n + 1) N (updF kd n K) (updF wh n I) := by
  refine ⟨fun i j hij hj => ?_, fun i j hij hj hi1 hj1 => ?_, fun k hk hne j hj => ?_⟩
  · by_cases hjn : j = n
    · rw [hjn, updF_self, updF_ne kd K (by omega)]
      exact hmax i (by omega)
    · rw [updF_ne kd K hjn, updF_ne kd K (by omega)]
      exact h.1 i j hij (by omega)
  · have hjn : j ≠ n := fun e => by
      rw [e, updF_self] at hj1
      exact hK hj1
    have hin : i ≠ n := by omega
    rw [updF_ne kd K hjn] at hj1
    rw [updF_ne kd K hin] at hi1
    rw [updF_ne wh I hjn, updF_ne wh I hin]
    exact h.2.1 i j hij (by omega) hi1 hj1
  · by_cases hkn : k = n
    · obtain ⟨e, he, h1, h2⟩ := hall j hj
      exact ⟨e, by omega, by rw [updF_ne kd K (by omega)]; exact h1, by rw [updF_ne wh I (by omega)]; exact h2⟩
    · rw [updF_ne kd K hkn] at hne
      obtain ⟨e, he, h1, h2⟩ := h.2.2 k (by omega) hne j hj
      exact ⟨e, he, by rw [updF_ne kd K (by omega)]; exact h1, by rw [updF_ne wh I (by omega)]; exact h2⟩
theorem kd3 {n N : Nat} {kd wh : Nat → Nat} {R : Nat → Nat → Int64} (h : wfE n N kd wh R) {e : Nat} (he : e < n) : kd e = 1 ∨ kd e = 2 ∨ kd e = 3 := (h.2.1 e he).1
theorem updN_nz {f : Nat → Nat} {I x j : Nat} (h : updN f I x j ≠ 0) : j = I ∨ (j ≠ I ∧ f j ≠ 0) := by
  by_cases e : j = I
  · exact Or.inl e
  · rw [updN_ne f x e] at h
    exact Or.inr ⟨e, h⟩
theorem rt_key {P Q N I Y : Nat} {T : TS} (hP1 : 1 < P) (h : RT P Q N T) (hI : I < N) (h0 : t_ko T I = 0) (hY : Y ≠ 0) (hYQ : Y ^ Q % P = 1) (hs : ¬ t_sht T = 1) : RT P Q N (tKey P I Y T) := by
  obtain ⟨a1, a2, a3, a4, a5, a6, a7, a8, a9, a10, a11⟩ := h
  refine ⟨?_, ?_, a3, a4, a5, fun h => absurd h hs, a7, fun j hj => ?_, a9, a10, fun j hj => ⟨?_, (a11 j hj).2⟩⟩
  · show t_kc T + 1 = cnt (updN (t_ko T) I Y) N
    rw [cnt_upd _ h0 hY N, if_pos hI, a1]
  · show t_kp T * Y % P = prd P (updN (t_ko T) I Y) (updN (t_ko T) I Y) N
    rw [prd_upd hP1 _ h0 hY N, if_pos hI, a2]
  · have hj : updN (t_ko T) I Y j ≠ 0 := hj
    show updN (t_ko T) I Y j ^ Q % P = 1
    rcases updN_nz hj with e | ⟨e, h9⟩
    · rw [e, updN_self]; exact hYQ
    · rw [updN_ne _ _ e]; exact a8 j h9
  · show updN (t_ko T) I Y j = 0
    rw [updN_ne _ _ (by omega)]; exact (a11 j hj).1
theorem cnt_same {f : Nat → Nat} {I Y : Nat} (h0 : f I ≠ 0) (hY : Y ≠ 0) : ∀ k, cnt (updN f I Y) k = cnt f k
  | 0 => rfl
  | k + 1 => by
    have ih := cnt_same h0 hY k
    unfold cnt
    rw [ih]
    by_cases e : k = I
    · rw [e, updN_self, if_neg hY, if_neg h0]
    · rw [updN_ne f Y e]
theorem rt_bal {P Q N I A B : Nat} {T : TS} (h : RT P Q N T) (hI : I < 64) (hA : A ≠ 0) (hAQ : A ^ Q % P = 1) (hBQ : B ^ Q % P = 1) (hs : ¬ t_sht T = 1) : RT P Q N (tBal I A B T) := by
  obtain ⟨a1, a2, a3, a4, a5, a6, a7, a8, a9, a10, a11⟩ := h
  refine ⟨a1, a2, a3, a4, ?_, fun h => absurd h hs, a7, a8, a9, fun j hj => ?_, a11⟩
  · show (if t_ao T I = 0 then t_bc T + 1 else t_bc T) = cnt (updN (t_ao T) I A) 64
    by_cases h0 : t_ao T I = 0
    · rw [if_pos h0, cnt_upd _ h0 hA 64, if_pos hI, a5]
    · rw [if_neg h0, a5]
      exact (cnt_same h0 hA 64).symm
  · have hj : updN (t_ao T) I A j ≠ 0 := hj
    show updN (t_ao T) I A j ^ Q % P = 1 ∧ updN (t_bo T) I B j ^ Q % P = 1
    rcases updN_nz hj with e | ⟨e, h9⟩
    · rw [e, updN_self, updN_self]; exact ⟨hAQ, hBQ⟩
    · rw [updN_ne _ _ e, updN_ne _ _ e]; exact a10 j h9
theorem rt_sha {P Q N I Y : Nat} {T : TS} (hP1 : 1 < P) (h : RT P Q N T) (hI : I < N) (h0 : t_so T I = 0) (hY : Y ≠ 0) (hYQ : Y ^ Q % P = 1) : RT P Q N (tSha P I Y T) := by
  obtain ⟨a1, a2, a3, a4, a5, a6, a7, a8, a9, a10, a11⟩ := h
  refine ⟨a1, a2, ?_, ?_, a5, a6, a7, a8, fun j hj => ?_, a10, fun j hj => ⟨(a11 j hj).1, ?_⟩⟩
  · show t_shc T + 1 = cnt (updN (t_so T) I Y) N
    rw [cnt_upd _ h0 hY N, if_pos hI, a3]
  · show t_shp T * Y % P = prd P (updN (t_so T) I Y) (updN (t_so T) I Y) N
    rw [prd_upd hP1 _ h0 hY N, if_pos hI, a4]
  · have hj : updN (t_so T) I Y j ≠ 0 := hj
    show updN (t_so T) I Y j ^ Q % P = 1
    rcases updN_nz hj with e | ⟨e, h9⟩
    · rw [e, updN_self]; exact hYQ
    · rw [updN_ne _ _ e]; exact a9 j h9
  · show updN (t_so T) I Y j = 0
    rw [updN_ne _ _ (by omega)]; exact (a11 j hj).2
theorem tr_key {P I Y : Nat} {T : TS} (h : trT T) (hI : I < 4) : trT (tKey P I Y T) := ⟨fun j hj => ⟨by show updN (t_ko T) I Y j = 0; rw [updN_ne _ _ (by omega)]; exact (h.1 j hj).1, (h.1 j hj).2⟩, h.2⟩
theorem tr_sha {P I Y : Nat} {T : TS} (h : trT T) (hI : I < 4) : trT (tSha P I Y T) := ⟨fun j hj => ⟨(h.1 j hj).1, by show updN (t_so T) I Y j = 0; rw [updN_ne _ _ (by omega)]; exact (h.1 j hj).2⟩, h.2⟩
theorem tr_bal {I A B : Nat} {T : TS} (h : trT T) (hI : I < 64) : trT (tBal I A B T) := ⟨h.1, fun j hj => ⟨by show updN (t_ao T) I A j = 0; rw [updN_ne _ _ (by omega)]; exact (h.2 j hj).1, by show updN (t_bo T) I B j = 0; rw [updN_ne _ _ (by omega)]; exact (h.2 j hj).2⟩⟩
theorem cnt_lt {f : Nat → Nat} {N I : Nat} (hI : I < N) (h0 : f I = 0) : cnt f N < N := by
  have h1 := cnt_le f N
  rcases Nat.lt_or_ge (cnt f N) N with h | h
  · exact h
  · exact absurd h0 ((cnt_all f N).mp (by omega) I hI)
/-- all of it -/
def RelG (P Q G f1 k1 f2 k2 N n sd bc al pa pb : Nat) (cl : Int32) (T T0 : TS) (kd wh : Nat → Nat) (R Lk : Nat → Nat → Int64) (nf cf : Nat → Int64) (kf sf vf : Nat → Int32) (ky md sh : Nat → Int64) : Prop :=
  RG P Q G f1 k1 f2 k2 N T ∧ RT P Q N T ∧ (RE n N kd wh R T ∧ ((∀ e, e < n → kd e = 1) → n = t_kc T)) ∧ RM n N bc al pa pb cl kd wh R Lk T nf cf kf sf vf ky md sh ∧ RA P Q G N n sd T0 kd wh R Lk
theorem msg5_0 {K n : Nat} {x0 x1 x2 x3 x4 x5 x6 x7 : Int64} {Lk : Nat → Nat → Int64} (hn : n = 0) (hK : ¬ K = 2) : [0, 0, 0, 0, x0, x1, x2, x3, x4] = msgL K n (r8 x0 x1 x2 x3 x4 x5 x6 x7) Lk := by
  unfold msgL prvL rowL
  rw [if_pos hn, if_neg hK]
  rfl
theorem msg5 {K n : Nat} {x0 x1 x2 x3 x4 x5 x6 x7 : Int64} {Lk : Nat → Nat → Int64} {cf : Nat → Int64} (hn : 0 < n) (hK : ¬ K = 2) (h : cfR n Lk cf) : [cf (4 * (n - 1) + 0), cf (4 * (n - 1) + 1), cf (4 * (n - 1) + 2), cf (4 * (n - 1) + 3), x0, x1, x2, x3, x4] = msgL K n (r8 x0 x1 x2 x3 x4 x5 x6 x7) Lk := by
  unfold msgL prvL rowL
  rw [if_neg (show ¬ n = 0 by omega), if_neg hK, h (n - 1) (by omega) 0 (by omega), h (n - 1) (by omega) 1 (by omega), h (n - 1) (by omega) 2 (by omega), h (n - 1) (by omega) 3 (by omega)]
  rfl
theorem msg8 {n : Nat} {x0 x1 x2 x3 x4 x5 x6 x7 : Int64} {Lk : Nat → Nat → Int64} {cf : Nat → Int64} (hn : 0 < n) (h : cfR n Lk cf) : [cf (4 * (n - 1) + 0), cf (4 * (n - 1) + 1), cf (4 * (n - 1) + 2), cf (4 * (n - 1) + 3), x0, x1, x2, x3, x4, x5, x6, x7] = msgL 2 n (r8 x0 x1 x2 x3 x4 x5 x6 x7) Lk := by
  unfold msgL prvL rowL
  rw [if_neg (show ¬ n = 0 by omega), if_pos rfl, h (n - 1) (by omega) 0 (by omega), h (n - 1) (by omega) 1 (by omega), h (n - 1) (by omega) 2 (by omega), h (n - 1) (by omega) 3 (by omega)]
  rfl
theorem r8_5lt (x0 x1 x2 x3 x4 a5 a6 a7 b5 b6 b7 : Int64) {K : Nat} (hK : ¬ K = 2) : ∀ j, j < wdt K → r8 x0 x1 x2 x3 x4 a5 a6 a7 j = r8 x0 x1 x2 x3 x4 b5 b6 b7 j := by
  intro j hj
  unfold wdt at hj
  rw [if_neg hK] at hj
  match j, hj with
  | 0, _ => rfl
  | 1, _ => rfl
  | 2, _ => rfl
  | 3, _ => rfl
  | 4, _ => rfl
  | j + 5, hj => exact absurd hj (by omega)
section
variable {P Q G f1 k1 f2 k2 N n sd bc al pa pb : Nat} {cl : Int32} {T T0 : TS} {kd wh : Nat → Nat} {R Lk : Nat → Nat → Int64} {nf cf : Nat → Int64} {kf sf vf : Nat → Int32} {ky md sh : Nat → Int64}
theorem rel_P (h : RG P Q G f1 k1 f2 k2 N T) : 1 < P ∧ P < 2 ^ 61 ∧ P = 2 * Q + 1 ∧ 3 ≤ Q ∧ 2 ≤ G ∧ G < P ∧ G ^ Q % P = 1 := by
  obtain ⟨⟨m1, m2, h3, h4, h5, h6⟩, _⟩ := h
  have a1 := m1.2.1
  have a2 := m1.2.2.1
  have a3 := m2.2.1
  exact ⟨by omega, a2, h3, a3, h4, h5, h6⟩
theorem keys_only (hE : RE n N kd wh R T) {I : Nat} (hI : I < N) (h0 : t_ko T I = 0) : ∀ e, e < n → kd e = 1 := by
  intro e he
  apply Classical.byContradiction
  intro hne
  obtain ⟨e', he', h1, h2⟩ := hE.2.1.2.2 e he hne I hI
  exact (hE.2.2.1 I hI).mpr ⟨e', by omega, h1, h2⟩ h0
theorem rel_key (h : RelG P Q G f1 k1 f2 k2 N n sd bc al pa pb cl T T0 kd wh R Lk nf cf kf sf vf ky md sh) {I al2 : Nat} (hI : I < N) (h0 : t_ko T I = 0) (hs : ¬ t_sht T = 1) {x2 x3 x4 : Int64} (hh : keyHd P Q G I x2 x3 x4)
    (hal : (allN N (updN (t_ko T) I (vN x2)) ∧ al2 = prk P (updN (t_ko T) I (vN x2)) N) ∨ (¬ allN N (updN (t_ko T) I (vN x2)) ∧ al2 = al)) (d5 d6 d7 : Int64) {g g' : Nat → Int64} (hg : g' = g) :
    RelG P Q G f1 k1 f2 k2 N (n + 1) sd bc al2 pa pb cl (tKey P I (vN x2) T) T0 (updF kd n 1) (updF wh n I) (updF R n (r8 (lN 1) (lN I) x2 x3 x4 d5 d6 d7)) (updF Lk n g) (w8 nf (8 * n) (lN 1) (lN I) x2 x3 x4 0 0 0) (c4 cf (4 * n) g') (upd kf I (nI n)) sf vf (vp_updL ky I x2) md sh := by
  obtain ⟨hG, hT, ⟨hE, hkn⟩, hM, hA⟩ := h
  obtain ⟨p1, p61, pq, q3, g2, gp, gq9⟩ := rel_P hG
  obtain ⟨y1, y2, y3⟩ := keyHd_in (by omega) hh
  have hY0 : vN x2 ≠ 0 := by omega
  have hone := keys_only hE hI h0
  have hn4 : n ≤ 4 := by
    rw [hkn hone, hT.1]
    have := cnt_le (t_ko T) N
    have := hG.2.2.1
    omega
  have hno : ∀ e, e < n → kd e = 1 → wh e ≠ I := fun e he h1 h2 => (hE.2.2.1 I hI).mpr ⟨e, he, h1, h2⟩ h0
  have hk1 : ∀ e, e < n + 1 → updF kd n 1 e = 1 := fun e he => by
    by_cases hen : e = n
    · rw [hen, updF_self]
    · rw [updF_ne kd 1 hen]; exact hone e (by omega)
  obtain ⟨m1, m2, m3, m4, m5, m6, m7, m8, m9, m10, m11, m12⟩ := hM
  subst hg
  refine ⟨⟨hG.1, hG.2.1, hG.2.2.1, tOk_key p1 y2 hG.2.2.2.1, tr_key hG.2.2.2.2 (by have := hG.2.2.1; omega)⟩, rt_key p1 hT hI h0 hY0 y3 hs, ⟨⟨?_, ?_, fun j hj => ?_, fun e he h3 => ?_, fun _ => by omega, by omega⟩, fun _ => ?_⟩, ⟨m1, ?_, m3, m4, m5, nf_post m6 (r8_5lt _ _ _ _ _ _ _ _ _ _ _ (by omega)), cf_post m7, fun e he h1 => ?_, ?_, rK_more m10, rK_more m11, m12⟩, RA_app hA⟩
  · exact wf_app hE.1 (by omega) (Or.inl rfl) rfl rfl (fun h => absurd h (by omega)) (fun _ => hI) (fun _ => rfl)
  · exact EI_key hE.2.1 hI hone hno
  · show updN (t_ko T) I (vN x2) j ≠ 0 ↔ _
    constructor
    · intro h9
      rcases updN_nz h9 with e | ⟨e, h8⟩
      · exact ⟨n, by omega, updF_self _ _ _, by rw [updF_self, e]⟩
      · obtain ⟨e9, a, b, c⟩ := (hE.2.2.1 j hj).mp h8
        exact ⟨e9, by omega, hk1 e9 (by omega), by rw [updF_ne wh I (by omega)]; exact c⟩
    · rintro ⟨e9, a, b, c⟩
      by_cases en : e9 = n
      · rw [en, updF_self] at c
        rw [← c, updN_self]
        exact hY0
      · rw [updF_ne wh I en] at c
        have hne : j ≠ I := fun q => hno e9 (by omega) (hone e9 (by omega)) (by rw [c, q])
        rw [updN_ne _ _ hne]
        exact (hE.2.2.1 j hj).mpr ⟨e9, by omega, hone e9 (by omega), c⟩
  · rw [hk1 e he] at h3
    omega
  · show n + 1 = t_kc T + 1
    rw [hkn hone]
  · show al2 = ckey N (t_kc T + 1) (t_kp T * vN x2 % P)
    have hkc : t_kc T + 1 = cnt (updN (t_ko T) I (vN x2)) N := (rt_key p1 hT hI h0 hY0 y3 hs).1
    have hkp : t_kp T * vN x2 % P = prd P (updN (t_ko T) I (vN x2)) (updN (t_ko T) I (vN x2)) N := (rt_key p1 hT hI h0 hY0 y3 hs).2.1
    unfold ckey
    rcases hal with ⟨ha, hb⟩ | ⟨ha, hb⟩
    · rw [if_pos ⟨ha.1, by rw [hkc]; exact (cnt_all _ N).mpr ha.2⟩, hkp, hb, prk_prd N ha.2]
    · rw [if_neg (fun q => ha ⟨q.1, (cnt_all _ N).mp (by rw [← hkc]; exact q.2)⟩), hb, m2]
      unfold ckey
      rw [if_neg (fun q => by
        have := cnt_lt hI h0
        rw [← hT.1] at this
        omega)]
  · by_cases en : e = n
    · rw [en, updF_self]
      exact if_pos rfl
    · rw [updF_ne wh I en]
      have h9 : kd e = 1 := hone e (by omega)
      have e8 : upd kf I (nI n) (wh e) = kf (wh e) := if_neg (hno e (by omega) h9)
      rw [e8]
      exact m8 e (by omega) h9
  · have h9 := rK_upd (I := I) m9 hY0
    rw [vN_lN] at h9
    exact h9
theorem all_keys (hT : RT P Q N T) (hE : RE n N kd wh R T) (hk : t_kc T = N) : ∀ j, j < N → ∃ e, e < n ∧ kd e = 1 ∧ wh e = j := fun j hj => (hE.2.2.1 j hj).mp ((cnt_all _ N).mp (by rw [← hT.1]; exact hk) j hj)
theorem iff_more {K I : Nat} (hK : K ≠ 1) (h : ∀ j, j < N → (t_ko T j ≠ 0 ↔ ∃ e, e < n ∧ kd e = 1 ∧ wh e = j)) : ∀ j, j < N → (t_ko T j ≠ 0 ↔ ∃ e, e < n + 1 ∧ updF kd n K e = 1 ∧ updF wh n I e = j) := by
  intro j hj
  constructor
  · intro h9
    obtain ⟨e, a, b, c⟩ := (h j hj).mp h9
    exact ⟨e, by omega, by rw [updF_ne kd K (by omega)]; exact b, by rw [updF_ne wh I (by omega)]; exact c⟩
  · rintro ⟨e, a, b, c⟩
    have en : e ≠ n := fun q => by
      rw [q, updF_self] at b
      exact hK b
    rw [updF_ne kd K en] at b
    rw [updF_ne wh I en] at c
    exact (h j hj).mpr ⟨e, by omega, b, c⟩
theorem kf_more {K I : Nat} (hK : K ≠ 1) (h : ∀ e, e < n → kd e = 1 → kf (wh e) = nI e) : ∀ e, e < n + 1 → updF kd n K e = 1 → kf (updF wh n I e) = nI e := by
  intro e he h1
  have en : e ≠ n := fun q => by
    rw [q, updF_self] at h1
    exact hK h1
  rw [updF_ne kd K en] at h1
  rw [updF_ne wh I en]
  exact h e (by omega) h1
theorem md_upd {ao bo : Nat → Nat} {I A B : Nat} (h : mdR ao bo md) : mdR (updN ao I A) (updN bo I B) (vp_updL (vp_updL md (2 * I) (lN A)) (2 * I + 1) (lN B)) := by
  intro i hi hne
  unfold vp_updL
  by_cases e : i = I
  · subst e
    rw [updN_self, updN_self, if_neg (by omega), if_pos rfl, if_pos rfl]
    exact ⟨rfl, rfl⟩
  · rw [updN_ne ao A e] at hne ⊢
    rw [updN_ne bo B e, if_neg (by omega), if_neg (by omega), if_neg (by omega), if_neg (by omega)]
    exact h i hi hne
theorem rel_bal (h : RelG P Q G f1 k1 f2 k2 N n sd bc al pa pb cl T T0 kd wh R Lk nf cf kf sf vf ky md sh) {I : Nat} (hI : I < 64) (hs : ¬ t_sht T = 1) (hk : t_kc T = N) (hn : n < 150) {Ky : Nat} {a b c z d y : Int64} (hh : balHd P Q G Ky I a b c z d y) {bc2 : Nat} (hbc2 : bc2 = if t_ao T I = 0 then bc + 1 else bc) {g g' : Nat → Int64} (hg : g' = g) :
    RelG P Q G f1 k1 f2 k2 N (n + 1) sd bc2 al pa pb cl (tBal I (vN a) (vN b) T) T0 (updF kd n 2) (updF wh n I) (updF R n (r8 (lN 2) (lN I) a b c z d y)) (updF Lk n g) (w8 nf (8 * n) (lN 2) (lN I) a b c z d y) (c4 cf (4 * n) g') kf sf (upd vf I (nI n)) ky (vp_updL (vp_updL md (2 * I) a) (2 * I + 1) b) sh := by
  obtain ⟨hG, hT, ⟨hE, hkn⟩, hM, hA⟩ := h
  obtain ⟨p1, p61, pq, q3, g2, gp, gq9⟩ := rel_P hG
  obtain ⟨⟨y1, y2, y3⟩, ⟨z1, z2, z3⟩⟩ := balHd_in (by omega) hh
  obtain ⟨m1, m2, m3, m4, m5, m6, m7, m8, m9, m10, m11, m12⟩ := hM
  have hall := all_keys hT hE hk
  have hn0 : n ≠ 0 := fun q => by
    obtain ⟨e, he, _⟩ := hall 0 hG.2.1
    omega
  subst hg
  refine ⟨⟨hG.1, hG.2.1, hG.2.2.1, tOk_bal y2 z2 hG.2.2.2.1, tr_bal hG.2.2.2.2 hI⟩, rt_bal hT hI (by omega) y3 z3 hs, ⟨⟨?_, ?_, iff_more (by omega) hE.2.2.1, fun e he h3 => ?_, fun _ => by omega, ?_⟩, fun q => ?_⟩, ⟨?_, m2, m3, m4, m5, nf_post m6 (fun _ _ => rfl), cf_post m7, kf_more (by omega) m8, rK_more m9, rK_more m10, ?_, ?_⟩, RA_app hA⟩
  · exact wf_app hE.1 (by omega) (Or.inr (Or.inl rfl)) rfl rfl (fun _ => hI) (fun q => absurd rfl q) (fun q => absurd q hn0)
  · refine EI_more hE.2.1 (by omega) (fun e he => ?_) hall
    rcases kd3 hE.1 he with q | q | q
    · omega
    · omega
    · exact absurd (hE.2.2.2.1 e he q) hs
  · by_cases en : e = n
    · rw [en, updF_self] at h3
      omega
    · rw [updF_ne kd 2 en] at h3
      exact absurd (hE.2.2.2.1 e (by omega) h3) hs
  · show n + 1 ≤ 150 + t_shc T
    omega
  · have := q n (by omega)
    rw [updF_self] at this
    omega
  · show bc2 = if t_ao T I = 0 then t_bc T + 1 else t_bc T
    rw [hbc2, m1]
  · have h9 := rK_upd (I := I) m11 (show vN a ≠ 0 by omega)
    intro i hi
    rcases h9 i hi with q | ⟨q1, q2, _⟩
    · exact Or.inl q
    · exact Or.inr ⟨q1, q2, rfl⟩
  · have h9 := md_upd (I := I) (A := vN a) (B := vN b) m12
    rw [vN_lN, vN_lN] at h9
    exact h9
theorem rel_sha (h : RelG P Q G f1 k1 f2 k2 N n sd bc al pa pb cl T T0 kd wh R Lk nf cf kf sf vf ky md sh) {I : Nat} (hI : I < N) (hs : t_sht T = 1) (h0 : t_so T I = 0) {Yi Ai : Nat} {x2 x3 x4 : Int64} (hh : shaHd P Q G Yi Ai I x2 x3 x4) (d5 d6 d7 : Int64) {g g' : Nat → Int64} (hg : g' = g) :
    RelG P Q G f1 k1 f2 k2 N (n + 1) sd bc al pa pb cl (tSha P I (vN x2) T) T0 (updF kd n 3) (updF wh n I) (updF R n (r8 (lN 3) (lN I) x2 x3 x4 d5 d6 d7)) (updF Lk n g) (w8 nf (8 * n) (lN 3) (lN I) x2 x3 x4 0 0 0) (c4 cf (4 * n) g') kf (upd sf I (nI n)) vf ky md (vp_updL sh I x2) := by
  obtain ⟨hG, hT, ⟨hE, hkn⟩, hM, hA⟩ := h
  obtain ⟨p1, p61, pq, q3, g2, gp, gq9⟩ := rel_P hG
  obtain ⟨y1, y2, y3⟩ := shaHd_in (by omega) hh
  obtain ⟨m1, m2, m3, m4, m5, m6, m7, m8, m9, m10, m11, m12⟩ := hM
  have hall : ∀ j, j < N → ∃ e, e < n ∧ kd e = 1 ∧ wh e = j := fun j hj => (hE.2.2.1 j hj).mp ((hT.2.2.2.2.2.1 hs).2 j hj)
  have hn0 : n ≠ 0 := fun q => by
    obtain ⟨e, he, _⟩ := hall 0 hG.2.1
    omega
  have hsc : t_shc T < N := by rw [hT.2.2.1]; exact cnt_lt hI h0
  have hN4 := hG.2.2.1
  have hnb := hE.2.2.2.2.2
  subst hg
  refine ⟨⟨hG.1, hG.2.1, hG.2.2.1, tOk_sha p1 y2 hG.2.2.2.1, tr_sha hG.2.2.2.2 (by omega)⟩, rt_sha p1 hT hI h0 (by omega) y3, ⟨⟨?_, ?_, iff_more (by omega) hE.2.2.1, fun _ _ _ => hs, fun q => absurd hs q, ?_⟩, fun q => ?_⟩, ⟨m1, m2, m3, m4, m5, nf_post m6 (r8_5lt _ _ _ _ _ _ _ _ _ _ _ (by omega)), cf_post m7, kf_more (by omega) m8, rK_more m9, ?_, rK_more m11, m12⟩, RA_app hA⟩
  · exact wf_app hE.1 (by omega) (Or.inr (Or.inr rfl)) rfl rfl (fun q => absurd q (by omega)) (fun _ => hI) (fun q => absurd q hn0)
  · refine EI_more hE.2.1 (by omega) (fun e he => ?_) hall
    rcases kd3 hE.1 he with q | q | q <;> omega
  · show n + 1 ≤ 150 + (t_shc T + 1)
    omega
  · have := q n (by omega)
    rw [updF_self] at this
    omega
  · have h9 := rK_upd (I := I) m10 (show vN x2 ≠ 0 by omega)
    rw [vN_lN] at h9
    exact h9
end
