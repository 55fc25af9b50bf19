/-! the entries, and what an auditor's tally knows of them -/
def EI (n N : Nat) (kd wh : Nat → Nat) : Prop := (∀ i j, i < j → j < n → kd i ≤ kd j) ∧ (∀ i j, i < j → j < n → kd i = 1 → kd j = 1 → wh i ≠ wh j) ∧ (∀ k, k < n → kd k ≠ 1 → ∀ j, j < N → ∃ e, e < k ∧ kd e = 1 ∧ wh e = j)
def AI (P Q N : Nat) (kd wh : Nat → Nat) (R : Nat → Nat → Int64) (k : Nat) (T : TS) : Prop :=
  t_tn T = N ∧ (∀ j, j < N → t_ko T j ≠ 0 → ∃ e, e < k ∧ kd e = 1 ∧ wh e = j) ∧
  (∀ e, e < k → kd e = 1 → R e 2 = lN (t_ko T (wh e)) ∧ 1 ≤ t_ko T (wh e) ∧ t_ko T (wh e) < P ∧ t_ko T (wh e) ^ Q % P = 1) ∧
  t_kc T = cnt (t_ko T) N ∧ t_kp T = prd P (t_ko T) (t_ko T) N ∧ (t_sht T = 1 → t_pa T = prd P (t_ao T) (t_ao T) 64 ∧ ∃ e, e < k ∧ kd e = 3)
theorem cnt_zero {f : Nat → Nat} : ∀ k, (∀ i, i < k → f i = 0) → cnt f k = 0
  | 0, _ => rfl
  | k + 1, h => by
    unfold cnt
    rw [if_pos (h k (by omega))]
    exact cnt_zero k (fun i hi => h i (by omega))
theorem prd_zero {P : Nat} {f g : Nat → Nat} : ∀ k, (∀ i, i < k → f i = 0) → prd P f g k = 1
  | 0, _ => rfl
  | k + 1, h => by
    unfold prd
    rw [if_pos (h k (by omega))]
    exact prd_zero k (fun i hi => h i (by omega))
theorem zf_in {f : Nat → Nat} {k j : Nat} (h : j < k) : zf f k j = 0 := if_pos h
theorem AI_start {P Q N : Nat} {kd wh : Nat → Nat} {R : Nat → Nat → Int64} {T0 : TS} (hN : N ≤ 4) : AI P Q N kd wh R 0 (tStart N T0) := by
  have hz : ∀ i, i < N → t_ko (tStart N T0) i = 0 := fun i hi => zf_in (show i < 4 by omega)
  refine ⟨rfl, fun j hj h => absurd (hz j hj) h, fun e he => absurd he (by omega), ?_, ?_, fun h => absurd (show (0 : Int32) = 1 from h) (by decide)⟩
  · rw [cnt_zero N hz]; rfl
  · rw [prd_zero N hz]; rfl
theorem keyHd_in {P Q G I : Nat} {y c z : Int64} (hP : P < 2 ^ 62) (h : keyHd P Q G I y c z) : 1 ≤ vN y ∧ vN y < P ∧ vN y ^ Q % P = 1 := by
  obtain ⟨Y, C, Z, e, _, _, _, _, h7, h8, h9, _⟩ := h
  rw [vN_of e (by omega)]
  exact ⟨h7, h8, h9⟩
theorem shaHd_in {P Q G Yi A I : Nat} {y c z : Int64} (hP : P < 2 ^ 62) (h : shaHd P Q G Yi A I y c z) : 1 ≤ vN y ∧ vN y < P ∧ vN y ^ Q % P = 1 := by
  obtain ⟨Y, C, Z, e, _, _, _, _, h7, h8, h9, _⟩ := h
  rw [vN_of e (by omega)]
  exact ⟨h7, h8, h9⟩
theorem balHd_in {P Q G K I : Nat} {a b c z d y : Int64} (hP : P < 2 ^ 62) (h : balHd P Q G K I a b c z d y) : (1 ≤ vN a ∧ vN a < P ∧ vN a ^ Q % P = 1) ∧ (1 ≤ vN b ∧ vN b < P ∧ vN b ^ Q % P = 1) := by
  obtain ⟨A, B, C, Z, D, Y, ea, eb, _, _, _, _, _, _, _, _, hA, hB, _⟩ := h
  rw [vN_of ea (by omega), vN_of eb (by omega)]
  exact ⟨hA, hB⟩
theorem tOpn_ko (P : Nat) (T : TS) : t_ko (tOpn P T) = t_ko T := by unfold tOpn; split <;> rfl
theorem tOpn_ao (P : Nat) (T : TS) : t_ao (tOpn P T) = t_ao T := by unfold tOpn; split <;> rfl
theorem tOpn_tn (P : Nat) (T : TS) : t_tn (tOpn P T) = t_tn T := by unfold tOpn; split <;> rfl
theorem tOpn_kp (P : Nat) (T : TS) : t_kp (tOpn P T) = t_kp T := by unfold tOpn; split <;> rfl
theorem tOpn_pa {P : Nat} {T : TS} (h : t_sht T = 1 → t_pa T = prd P (t_ao T) (t_ao T) 64) : t_pa (tOpn P T) = prd P (t_ao T) (t_ao T) 64 := by
  unfold tOpn
  by_cases h1 : t_sht T = 1
  · rw [if_pos h1]; exact h h1
  · rw [if_neg h1]; rfl
theorem updN_self (f : Nat → Nat) (I x : Nat) : updN f I x I = x := if_pos rfl
theorem updN_ne (f : Nat → Nat) {I j : Nat} (x : Nat) (h : j ≠ I) : updN f I x j = f j := if_neg h
/-- one entry more -/
theorem AI_step {P Q G N n k : Nat} {kd wh : Nat → Nat} {R : Nat → Nat → Int64} {T : TS} (hP1 : 1 < P) (hP : P < 2 ^ 62) (hw : wfE n N kd wh R) (hE : EI n N kd wh) (hk : k < n) (hA : AI P Q N kd wh R k T) (hp : prf P Q G (kd k) (wh k) (R k) T) : AI P Q N kd wh R (k + 1) (tTake P (kd k) (wh k) (R k) T) := by
  obtain ⟨hkd, hr0, hr1, hb64, hN⟩ := hw.2.1 k hk
  obtain ⟨a1, a2, a3, a4, a5, a6⟩ := hA
  have noS : kd k ≠ 3 → ¬ t_sht T = 1 := fun h3 hs => by
    obtain ⟨-, e, he, hke⟩ := a6 hs
    have := hE.1 e k he hk
    rcases hkd with h | h | h <;> omega
  have hek : ∀ e, e < k + 1 → kd e = 1 → kd k ≠ 1 → e < k := fun e he hke hne => by
    rcases Nat.lt_or_ge e k with h9 | h9
    · exact h9
    · exfalso
      have e9 : e = k := by omega
      rw [e9] at hke
      exact hne hke
  unfold tTake
  unfold prf at hp
  rcases hkd with h1 | h1 | h1
  · rw [if_pos h1] at hp ⊢
    have hI : wh k < N := hN (by omega)
    obtain ⟨y1, y2, y3⟩ := keyHd_in hP hp
    have hz : t_ko T (wh k) = 0 := by
      apply Classical.byContradiction
      intro hc
      obtain ⟨e, he, hke, hwe⟩ := a2 _ hI hc
      exact hE.2.1 e k he hk hke h1 hwe
    refine ⟨a1, fun j hj h => ?_, fun e he hke => ?_, ?_, ?_, fun h => absurd h (noS (by omega))⟩
    · by_cases ej : j = wh k
      · exact ⟨k, by omega, h1, ej.symm⟩
      · have h9 : t_ko T j ≠ 0 := by
          have e9 : t_ko (tKey P (wh k) (vN (R k 2)) T) j = t_ko T j := updN_ne _ _ ej
          rw [e9] at h
          exact h
        obtain ⟨e, he, r⟩ := a2 j hj h9
        exact ⟨e, by omega, r⟩
    · by_cases ek : e = k
      · subst ek
        have e9 : t_ko (tKey P (wh e) (vN (R e 2)) T) (wh e) = vN (R e 2) := updN_self _ _ _
        rw [e9]
        exact ⟨(vN_lN _).symm, y1, y2, y3⟩
      · have e9 : t_ko (tKey P (wh k) (vN (R k 2)) T) (wh e) = t_ko T (wh e) := updN_ne _ _ (hE.2.1 e k (by omega) hk hke h1)
        rw [e9]
        exact a3 e (by omega) hke
    · show t_kc T + 1 = cnt (updN (t_ko T) (wh k) (vN (R k 2))) N
      rw [cnt_upd _ hz (by omega) N, if_pos hI, a4]
    · show t_kp T * vN (R k 2) % P = prd P (updN (t_ko T) (wh k) (vN (R k 2))) (updN (t_ko T) (wh k) (vN (R k 2))) N
      rw [prd_upd hP1 _ hz (by omega) N, if_pos hI, a5]
  · rw [if_neg (by omega), if_pos h1]
    refine ⟨a1, fun j hj h => ?_, fun e he hke => ?_, a4, a5, fun h => absurd h (noS (by omega))⟩
    · obtain ⟨e, he, r⟩ := a2 j hj h
      exact ⟨e, by omega, r⟩
    · exact a3 e (hek e he hke (by omega)) hke
  · rw [if_neg (by omega), if_neg (by omega)]
    refine ⟨?_, fun j hj h => ?_, fun e he hke => ?_, ?_, ?_, fun h => ⟨?_, k, by omega, h1⟩⟩
    · show t_tn (tOpn P T) = N
      rw [tOpn_tn]; exact a1
    · have h9 : t_ko T j ≠ 0 := by
        have e9 : t_ko (tSha P (wh k) (vN (R k 2)) (tOpn P T)) j = t_ko T j := by show t_ko (tOpn P T) j = _; rw [tOpn_ko]
        rw [e9] at h
        exact h
      obtain ⟨e, he, r⟩ := a2 j hj h9
      exact ⟨e, by omega, r⟩
    · show R e 2 = lN (t_ko (tOpn P T) (wh e)) ∧ 1 ≤ t_ko (tOpn P T) (wh e) ∧ t_ko (tOpn P T) (wh e) < P ∧ t_ko (tOpn P T) (wh e) ^ Q % P = 1
      rw [tOpn_ko]
      exact a3 e (hek e he hke (by omega)) hke
    · show t_kc (tOpn P T) = cnt (t_ko (tOpn P T)) N
      rw [tOpn_ko, tOpn_kc]; exact a4
    · show t_kp (tOpn P T) = prd P (t_ko (tOpn P T)) (t_ko (tOpn P T)) N
      rw [tOpn_ko, tOpn_kp]; exact a5
    · show t_pa (tOpn P T) = prd P (t_ao (tOpn P T)) (t_ao (tOpn P T)) 64
      rw [tOpn_ao]
      exact tOpn_pa (fun h => (a6 h).1)
theorem AI_aud {P Q G N n : Nat} {T0 : TS} {kd wh : Nat → Nat} {R Lk : Nat → Nat → Int64} (hN : N ≤ 4) (hP1 : 1 < P) (hP : P < 2 ^ 62) (hw : wfE n N kd wh R) (hE : EI n N kd wh) : ∀ k, k ≤ n → (∀ i, i < k → hds P Q G N T0 kd wh R Lk i) → AI P Q N kd wh R k (aud P N T0 kd wh R k)
  | 0, _, _ => AI_start hN
  | k + 1, hk, h => AI_step hP1 hP hw hE (by omega) (AI_aud hN hP1 hP hw hE k (by omega) (fun i hi => h i (by omega))) (h k (by omega)).2
/-- how many keys there are below k -/
def kin (kd wh : Nat → Nat) : Nat → Nat → Nat
  | 0 => fun _ => 0
  | k + 1 => if kd k = 1 then updN (kin kd wh k) (wh k) 1 else kin kd wh k
theorem kin_of {kd wh : Nat → Nat} : ∀ k j, kin kd wh k j ≠ 0 → ∃ e, e < k ∧ kd e = 1 ∧ wh e = j
  | 0, j, h => absurd rfl h
  | k + 1, j, h => by
    unfold kin at h
    by_cases h1 : kd k = 1
    · rw [if_pos h1] at h
      by_cases e : j = wh k
      · exact ⟨k, by omega, h1, e.symm⟩
      · rw [updN_ne _ _ e] at h
        obtain ⟨e9, h9, r⟩ := kin_of k j h
        exact ⟨e9, by omega, r⟩
    · rw [if_neg h1] at h
      obtain ⟨e9, h9, r⟩ := kin_of k j h
      exact ⟨e9, by omega, r⟩
theorem kc_take {P K I : Nat} {r : Nat → Int64} {T : TS} : t_kc (tTake P K I r T) = if K = 1 then t_kc T + 1 else t_kc T := by
  unfold tTake
  by_cases h : K = 1
  · rw [if_pos h, if_pos h]; rfl
  · rw [if_neg h, if_neg h]
    by_cases h2 : K = 2
    · rw [if_pos h2]; rfl
    · rw [if_neg h2]
      exact tOpn_kc P T
theorem kc_aud {P N n : Nat} {T0 : TS} {kd wh : Nat → Nat} {R : Nat → Nat → Int64} (hw : wfE n N kd wh R) (hE : EI n N kd wh) : ∀ k, k ≤ n → t_kc (aud P N T0 kd wh R k) = cnt (kin kd wh k) N
  | 0, _ => by
    show (0 : Nat) = cnt (kin kd wh 0) N
    exact (cnt_zero N (fun _ _ => rfl)).symm
  | k + 1, hk => by
    obtain ⟨hkd, hr0, hr1, hb64, hN⟩ := hw.2.1 k (by omega)
    show t_kc (tTake P (kd k) (wh k) (R k) (aud P N T0 kd wh R k)) = _
    have e9 : kin kd wh (k + 1) = if kd k = 1 then updN (kin kd wh k) (wh k) 1 else kin kd wh k := rfl
    rw [kc_take, kc_aud hw hE k (by omega), e9]
    by_cases h1 : kd k = 1
    · rw [if_pos h1, if_pos h1]
      have hz : kin kd wh k (wh k) = 0 := by
        apply Classical.byContradiction
        intro hc
        obtain ⟨e, he, hke, hwe⟩ := kin_of k _ hc
        exact hE.2.1 e k he (by omega) hke h1 hwe
      rw [cnt_upd _ hz (by omega) N, if_pos (hN (by omega))]
    · rw [if_neg h1, if_neg h1]
theorem kc_aud4 {P N n : Nat} {T0 : TS} {kd wh : Nat → Nat} {R : Nat → Nat → Int64} (hN : N ≤ 4) (hw : wfE n N kd wh R) (hE : EI n N kd wh) (k : Nat) (hk : k ≤ n) : t_kc (aud P N T0 kd wh R k) ≤ 4 := by
  rw [kc_aud hw hE k hk]
  have := cnt_le (kin kd wh k) N
  omega
/-- what the reference counts of the ballots -/
def CR (k : Nat) (T : TS) (R : Nat → Nat → Int64) (ct : Nat → Int32) : Prop := ∀ j, j < 64 → (t_ao T j = 0 ∧ ct j = -1) ∨ (t_ao T j ≠ 0 ∧ ∃ e, e < k ∧ ct j = nI e ∧ R e 2 = lN (t_ao T j))
theorem CR_start {N : Nat} {T0 : TS} {R : Nat → Nat → Int64} {ct : Nat → Int32} (h : ∀ j, j < 64 → ct j = -1) : CR 0 (tStart N T0) R ct := fun j hj => Or.inl ⟨zf_in hj, h j hj⟩
theorem CR_step {P Q G N n k : Nat} {kd wh : Nat → Nat} {R : Nat → Nat → Int64} {T : TS} {ct : Nat → Int32} (hP : P < 2 ^ 62) (hw : wfE n N kd wh R) (hk : k < n) (hC : CR k T R ct) (hp : prf P Q G (kd k) (wh k) (R k) T) : CR (k + 1) (tTake P (kd k) (wh k) (R k) T) R (if kd k = 2 then upd ct (wh k) (nI k) else ct) := by
  obtain ⟨hkd, hr0, hr1, hb64, hN⟩ := hw.2.1 k hk
  have up : ∀ (T' : TS), t_ao T' = t_ao T → CR (k + 1) T' R ct := fun T' hT j hj => by
    rw [hT]
    rcases hC j hj with h | ⟨h, e, he, r⟩
    · exact Or.inl h
    · exact Or.inr ⟨h, e, by omega, r⟩
  unfold tTake
  unfold prf at hp
  rcases hkd with h1 | h1 | h1
  · rw [if_pos h1, if_neg (by omega)]
    exact up _ rfl
  · rw [if_neg (by omega), if_pos h1] at hp
    rw [if_neg (by omega), if_pos h1, if_pos h1]
    obtain ⟨⟨y1, y2, y3⟩, -⟩ := balHd_in hP hp
    intro j hj
    by_cases e : j = wh k
    · subst e
      have e9 : t_ao (tBal (wh k) (vN (R k 2)) (vN (R k 3)) T) (wh k) = vN (R k 2) := updN_self _ _ _
      rw [e9]
      exact Or.inr ⟨by omega, k, by omega, if_pos rfl, (vN_lN _).symm⟩
    · have e9 : t_ao (tBal (wh k) (vN (R k 2)) (vN (R k 3)) T) j = t_ao T j := updN_ne _ _ e
      have e8 : upd ct (wh k) (nI k) j = ct j := if_neg e
      rw [e9, e8]
      rcases hC j hj with h | ⟨h, e, he, r⟩
      · exact Or.inl h
      · exact Or.inr ⟨h, e, by omega, r⟩
  · rw [if_neg (by omega), if_neg (by omega), if_neg (by omega)]
    exact up _ (tOpn_ao P T)
theorem fwr_uniq {n : Nat} {hd : Nat → Prop} {r r' : Int32} (h : fwr n hd r) (h' : fwr n hd r') : r = r' := by
  rcases h with ⟨j, hj, rfl, hb, ha⟩ | ⟨rfl, ha⟩ <;> rcases h' with ⟨j', hj', rfl, hb', ha'⟩ | ⟨rfl, ha'⟩
  · rcases Nat.lt_trichotomy j j' with h | h | h
    · exact absurd (ha' j h) hb
    · rw [h]
    · exact absurd (ha j' h) hb'
  · exact absurd (ha' j hj) hb
  · exact absurd (ha j' hj') hb'
  · rfl
theorem ck_prk {P Q N k : Nat} {kd wh : Nat → Nat} {R : Nat → Nat → Int64} {T : TS} (hA : AI P Q N kd wh R k T) (h0 : 0 < N) (hall : ∀ j, j < N → t_ko T j ≠ 0) : ckey (t_tn T) (t_kc T) (t_kp T) = prk P (t_ko T) N := by
  obtain ⟨a1, a2, a3, a4, a5, a6⟩ := hA
  unfold ckey
  have hc : cnt (t_ko T) N = N := (cnt_all _ N).mpr hall
  rw [if_pos ⟨by rw [a1]; exact h0, by rw [a4, a1]; exact hc⟩, a5, prk_prd N hall]
