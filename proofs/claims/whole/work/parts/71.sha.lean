/-! SHA-256 as a function: what it depends on -/
theorem sp1_congr {sc sc' : Nat → Int32} {w w' : Nat → Int64} {fr : Nat} : ∀ k, (∀ i, i < k → w (fr + i) = w' (fr + i)) → ∀ j, j < 2 * k → sp1 sc w fr k j = sp1 sc' w' fr k j
  | 0, _, j, hj => absurd hj (by omega)
  | k + 1, hw, j, hj => by
    unfold sp1 upd
    rw [hw k (by omega)]
    by_cases h1 : j = 2 * k + 1
    · rw [if_pos h1, if_pos h1]
    · rw [if_neg h1, if_neg h1]
      by_cases h2 : j = 2 * k
      · rw [if_pos h2, if_pos h2]
      · rw [if_neg h2, if_neg h2]
        exact sp1_congr k (fun i hi => hw i (by omega)) j (by omega)
theorem swn_congr {f f' : Nat → Int32} (hf : ∀ j, j < 16 → f j = f' j) : ∀ n j, j < 16 + n → swn f n j = swn f' n j
  | 0, j, hj => hf j (by omega)
  | n + 1, j, hj => by
    have ih := swn_congr hf n
    unfold swn upd
    rw [ih n (by omega), ih (n + 1) (by omega), ih (n + 9) (by omega), ih (n + 14) (by omega)]
    by_cases h : j = 16 + n
    · rw [if_pos h, if_pos h]
    · rw [if_neg h, if_neg h]
      exact ih j (by omega)
theorem rN_congr {kk ww : Int32} {x x' : Nat → Int32} (h : ∀ j, j < 8 → x j = x' j) : ∀ j, j < 8 → rN kk ww x j = rN kk ww x' j := by
  have e0 := h 0 (by omega)
  have e1 := h 1 (by omega)
  have e2 := h 2 (by omega)
  have e3 := h 3 (by omega)
  have e4 := h 4 (by omega)
  have e5 := h 5 (by omega)
  have e6 := h 6 (by omega)
  have e7 := h 7 (by omega)
  have eF : rF kk ww x = rF kk ww x' := by unfold rF; rw [e4, e5, e6, e7]
  have eS : rS x = rS x' := by unfold rS; rw [e0, e1, e2]
  intro j hj
  match j, hj with
  | 0, _ => show rF kk ww x + rS x = rF kk ww x' + rS x'; rw [eF, eS]
  | 1, _ => exact e0
  | 2, _ => exact e1
  | 3, _ => exact e2
  | 4, _ => show x 3 + rF kk ww x = x' 3 + rF kk ww x'; rw [eF, e3]
  | 5, _ => exact e4
  | 6, _ => exact e5
  | 7, _ => exact e6
  | j + 8, hj => exact absurd hj (by omega)
theorem mx_congr {sc sc' st st' : Nat → Int32} (hc : ∀ i, i < 64 → sc i = sc' i) (ht : ∀ j, j < 8 → st j = st' j) : ∀ i, i ≤ 64 → ∀ j, j < 8 → mx sc st i j = mx sc' st' i j
  | 0, _, j, hj => ht j hj
  | i + 1, hi, j, hj => by
    show rN (kR i) (sc i) (mx sc st i) j = rN (kR i) (sc' i) (mx sc' st' i) j
    rw [hc i (by omega)]
    exact rN_congr (mx_congr hc ht i (by omega)) j hj
theorem mxa_congr {sc sc' st st' : Nat → Int32} (hc : ∀ i, i < 64 → sc i = sc' i) (ht : ∀ j, j < 8 → st j = st' j) : ∀ i, i ≤ 8 → ∀ j, j < 8 → mxa sc st i j = mxa sc' st' i j
  | 0, _, j, hj => ht j hj
  | i + 1, hi, j, hj => by
    unfold mxa upd
    rw [ht i (by omega), mx_congr hc ht 64 (by omega) i (by omega)]
    by_cases h : j = i
    · rw [if_pos h, if_pos h]
    · rw [if_neg h, if_neg h]
      exact mxa_congr hc ht i (by omega) j hj
theorem hbk_congr {w w' : Nat → Int64} {sc sc' st st' : Nat → Int32} (ht : ∀ j, j < 8 → st j = st' j) : ∀ b, (∀ j, j < 8 * b → w j = w' j) → ∀ j, j < 8 → (hbk w sc st b).2 j = (hbk w' sc' st' b).2 j
  | 0, _, j, hj => ht j hj
  | b + 1, hw, j, hj => by
    show mxa (swn (sp1 (hbk w sc st b).1 w (8 * b) 8) 48) (hbk w sc st b).2 8 j = mxa (swn (sp1 (hbk w' sc' st' b).1 w' (8 * b) 8) 48) (hbk w' sc' st' b).2 8 j
    exact mxa_congr (fun i hi => swn_congr (fun j hj => sp1_congr 8 (fun i hi => hw _ (by omega)) j (by omega)) 48 i (by omega)) (hbk_congr ht b (fun j hj => hw j (by omega))) 8 (by omega) j hj
theorem pz_congr {w w' : Nat → Int64} {L : Nat} (hw : ∀ j, j < L → w j = w' j) : ∀ n j, j < L + 1 + n → pz w L n j = pz w' L n j
  | 0, j, hj => by
    unfold pz vp_updL
    by_cases h : j = L
    · rw [if_pos h, if_pos h]
    · rw [if_neg h, if_neg h]
      exact hw j (by omega)
  | n + 1, j, hj => by
    unfold pz vp_updL
    by_cases h : j = L + 1 + n
    · rw [if_pos h, if_pos h]
    · rw [if_neg h, if_neg h]
      exact pz_congr hw n j (by omega)
theorem pw_congr {w w' : Nat → Int64} {L : Nat} (hL : L ≤ 14) (hw : ∀ j, j < L → w j = w' j) : ∀ j, j < pdl L → pw w L j = pw w' L j := by
  intro j hj
  have h := pdl_cases L
  unfold pw vp_updL
  by_cases h1 : j = pdl L - 1
  · rw [if_pos h1, if_pos h1]
  · rw [if_neg h1, if_neg h1]
    exact pz_congr hw _ j (by omega)
/-- the digest of L numbers of 64 bits: eight words of 32 -/
def dg (w : Nat → Int64) (L : Nat) : Nat → Int32 := (hbk (pw w L) (fun _ => 0) kS (pdl L / 8)).2
theorem dg_eq {w w' : Nat → Int64} {sc st : Nat → Int32} {L : Nat} (hL : L ≤ 14) (hw : ∀ j, j < L → w j = w' j) (hs : ∀ j, j < 8 → st j = kS j) : ∀ j, j < 8 → (hbk (pw w L) sc st (pdl L / 8)).2 j = dg w' L j := by
  intro j hj
  have h := pdl_cases L
  exact hbk_congr hs _ (fun j hj => pw_congr hL hw j (by omega)) j hj
theorem dg_cpy (st : Nat → Int32) : ∀ j, j < 8 → va_cpy kS st 0 0 8 j = kS j := by
  intro j hj
  unfold va_cpy
  rw [if_pos (by omega)]
  congr 1
  omega
def ml (m : List Int64) : Nat → Int64 := fun j => (m[j]?).getD 0
/-- H of a list of numbers: 64 bits without sign, divided by q -/
def hN (m : List Int64) : Nat := (wd (dg (ml m) m.length 0) (dg (ml m) m.length 1)).toUInt64.toNat
def hsh (Q : Nat) (m : List Int64) : Nat := hN m % Q
theorem hN_lt (m : List Int64) : hN m < 2 ^ 64 := (wd (dg (ml m) m.length 0) (dg (ml m) m.length 1)).toUInt64.toNat_lt
theorem l_toU (x : Int64) : x = lN x.toUInt64.toNat := by
  have : lN x.toUInt64.toNat = (UInt64.ofNat x.toUInt64.toNat).toInt64 := rfl
  rw [this, UInt64.ofNat_toNat]
  rfl
/-- a row of eight -/
def r8 (x0 x1 x2 x3 x4 x5 x6 x7 : Int64) : Nat → Int64
  | 0 => x0
  | 1 => x1
  | 2 => x2
  | 3 => x3
  | 4 => x4
  | 5 => x5
  | 6 => x6
  | 7 => x7
  | _ => 0
theorem r8_0 (x0 x1 x2 x3 x4 x5 x6 x7 v : Int64) : vp_updL (r8 x0 x1 x2 x3 x4 x5 x6 x7) 0 v = r8 v x1 x2 x3 x4 x5 x6 x7 := by
  funext j
  match j with
  | 0 => rfl
  | 1 => rfl
  | 2 => rfl
  | 3 => rfl
  | 4 => rfl
  | 5 => rfl
  | 6 => rfl
  | 7 => rfl
  | j + 8 => unfold vp_updL; rw [if_neg (by omega)]; rfl
theorem r8_1 (x0 x1 x2 x3 x4 x5 x6 x7 v : Int64) : vp_updL (r8 x0 x1 x2 x3 x4 x5 x6 x7) 1 v = r8 x0 v x2 x3 x4 x5 x6 x7 := by
  funext j
  match j with
  | 0 => rfl
  | 1 => rfl
  | 2 => rfl
  | 3 => rfl
  | 4 => rfl
  | 5 => rfl
  | 6 => rfl
  | 7 => rfl
  | j + 8 => unfold vp_updL; rw [if_neg (by omega)]; rfl
theorem r8_2 (x0 x1 x2 x3 x4 x5 x6 x7 v : Int64) : vp_updL (r8 x0 x1 x2 x3 x4 x5 x6 x7) 2 v = r8 x0 x1 v x3 x4 x5 x6 x7 := by
  funext j
  match j with
  | 0 => rfl
  | 1 => rfl
  | 2 => rfl
  | 3 => rfl
  | 4 => rfl
  | 5 => rfl
  | 6 => rfl
  | 7 => rfl
  | j + 8 => unfold vp_updL; rw [if_neg (by omega)]; rfl
theorem r8_3 (x0 x1 x2 x3 x4 x5 x6 x7 v : Int64) : vp_updL (r8 x0 x1 x2 x3 x4 x5 x6 x7) 3 v = r8 x0 x1 x2 v x4 x5 x6 x7 := by
  funext j
  match j with
  | 0 => rfl
  | 1 => rfl
  | 2 => rfl
  | 3 => rfl
  | 4 => rfl
  | 5 => rfl
  | 6 => rfl
  | 7 => rfl
  | j + 8 => unfold vp_updL; rw [if_neg (by omega)]; rfl
theorem r8_4 (x0 x1 x2 x3 x4 x5 x6 x7 v : Int64) : vp_updL (r8 x0 x1 x2 x3 x4 x5 x6 x7) 4 v = r8 x0 x1 x2 x3 v x5 x6 x7 := by
  funext j
  match j with
  | 0 => rfl
  | 1 => rfl
  | 2 => rfl
  | 3 => rfl
  | 4 => rfl
  | 5 => rfl
  | 6 => rfl
  | 7 => rfl
  | j + 8 => unfold vp_updL; rw [if_neg (by omega)]; rfl
theorem r8_5 (x0 x1 x2 x3 x4 x5 x6 x7 v : Int64) : vp_updL (r8 x0 x1 x2 x3 x4 x5 x6 x7) 5 v = r8 x0 x1 x2 x3 x4 v x6 x7 := by
  funext j
  match j with
  | 0 => rfl
  | 1 => rfl
  | 2 => rfl
  | 3 => rfl
  | 4 => rfl
  | 5 => rfl
  | 6 => rfl
  | 7 => rfl
  | j + 8 => unfold vp_updL; rw [if_neg (by omega)]; rfl
theorem r8_6 (x0 x1 x2 x3 x4 x5 x6 x7 v : Int64) : vp_updL (r8 x0 x1 x2 x3 x4 x5 x6 x7) 6 v = r8 x0 x1 x2 x3 x4 x5 v x7 := by
  funext j
  match j with
  | 0 => rfl
  | 1 => rfl
  | 2 => rfl
  | 3 => rfl
  | 4 => rfl
  | 5 => rfl
  | 6 => rfl
  | 7 => rfl
  | j + 8 => unfold vp_updL; rw [if_neg (by omega)]; rfl
theorem r8_7 (x0 x1 x2 x3 x4 x5 x6 x7 v : Int64) : vp_updL (r8 x0 x1 x2 x3 x4 x5 x6 x7) 7 v = r8 x0 x1 x2 x3 x4 x5 x6 v := by
  funext j
  match j with
  | 0 => rfl
  | 1 => rfl
  | 2 => rfl
  | 3 => rfl
  | 4 => rfl
  | 5 => rfl
  | 6 => rfl
  | 7 => rfl
  | j + 8 => unfold vp_updL; rw [if_neg (by omega)]; rfl
def keyHd (P Q G I : Nat) (y c z : Int64) : Prop := ∃ Y C Z, y = lN Y ∧ c = lN C ∧ z = lN Z ∧ C < Q ∧ Z < Q ∧ 1 ≤ Y ∧ Y < P ∧ Y ^ Q % P = 1 ∧ C = hsh Q [lN P, lN G, lN 1, lN I, lN Y, lN (G ^ Z * Y ^ ((Q - C) % Q) % P)]
def shaHd (P Q G Yi A I : Nat) (y c z : Int64) : Prop := ∃ Y C Z, y = lN Y ∧ c = lN C ∧ z = lN Z ∧ C < Q ∧ Z < Q ∧ 1 ≤ Y ∧ Y < P ∧ Y ^ Q % P = 1 ∧ C = hsh Q [lN P, lN G, lN 3, lN I, lN A, lN Y, lN (G ^ Z * Yi ^ ((Q - C) % Q) % P), lN (A ^ Z * Y ^ ((Q - C) % Q) % P)]
def balMsg (P Q G K I A B C Z D Y : Nat) : List Int64 := [lN P, lN G, lN 2, lN I, lN A, lN B, lN (G ^ Z * A ^ ((Q - C) % Q) % P), lN (K ^ Z * B ^ ((Q - C) % Q) % P), lN (G ^ Y * A ^ ((Q - D) % Q) % P), lN (K ^ Y * (B * (G ^ (Q - 1) % P) % P) ^ ((Q - D) % Q) % P)]
def balHd (P Q G K I : Nat) (a b c z d y : Int64) : Prop := ∃ A B C Z D Y, a = lN A ∧ b = lN B ∧ c = lN C ∧ z = lN Z ∧ d = lN D ∧ y = lN Y ∧ C < Q ∧ Z < Q ∧ D < Q ∧ Y < Q ∧ (1 ≤ A ∧ A < P ∧ A ^ Q % P = 1) ∧ (1 ≤ B ∧ B < P ∧ B ^ Q % P = 1) ∧ (C + D) % Q = hsh Q (balMsg P Q G K I A B C Z D Y)
/-- a message's numbers lie at the front of w -/
def wok (w : Nat → Int64) (L : Nat) (m : List Int64) : Prop := m.length = L ∧ ∀ j, j < L → w j = ml m j
theorem wok_0 (w : Nat → Int64) : wok w 0 [] := ⟨rfl, fun j hj => absurd hj (by omega)⟩
theorem wok_add {w w' : Nat → Int64} {L : Nat} {m : List Int64} (x : Int64) (h : wok w L m) (e : w' = vp_updL w L x) : wok w' (L + 1) (m ++ [x]) := by
  obtain ⟨h1, h2⟩ := h
  refine ⟨by rw [List.length_append, h1]; rfl, ?_⟩
  intro j hj
  rw [e]
  unfold vp_updL ml
  by_cases h3 : j = L
  · rw [if_pos h3, List.getElem?_append_right (by omega), show j - m.length = 0 by omega]
    rfl
  · rw [if_neg h3, h2 j (by omega), List.getElem?_append_left (by omega)]
    rfl
theorem hN_of {w : Nat → Int64} {sc st st1 : Nat → Int32} {L : Nat} {m : List Int64} (h : wok w L m) (hL : L ≤ 14) (e : st1 = (hbk (pw w L) sc (va_cpy kS st 0 0 8) (pdl L / 8)).2) : wd (st1 0) (st1 1) = lN (hN m) := by
  obtain ⟨h1, h2⟩ := h
  rw [e, dg_eq hL h2 (dg_cpy st) 0 (by omega), dg_eq hL h2 (dg_cpy st) 1 (by omega)]
  unfold hN
  rw [h1]
  exact l_toU _
theorem dg_of {w : Nat → Int64} {sc st st1 : Nat → Int32} {L : Nat} {m : List Int64} (h : wok w L m) (hL : L ≤ 14) (e : st1 = (hbk (pw w L) sc (va_cpy kS st 0 0 8) (pdl L / 8)).2) : ∀ j, j < 8 → st1 j = dg (ml m) m.length j := by
  obtain ⟨h1, h2⟩ := h
  intro j hj
  rw [e, dg_eq hL h2 (dg_cpy st) j hj, h1]
theorem hsh_eq (Q : Nat) (m : List Int64) : hN m % Q = hsh Q m := rfl
theorem lN_inj {a b : Nat} (ha : a < 2 ^ 64) (hb : b < 2 ^ 64) (h : lN a = lN b) : a = b := by
  have h1 : (lN a).toUInt64.toNat = (lN b).toUInt64.toNat := by rw [h]
  have e1 : (lN a).toUInt64.toNat = a := by
    show (UInt64.ofNat a).toNat = a
    rw [UInt64.toNat_ofNat']
    exact Nat.mod_eq_of_lt ha
  have e2 : (lN b).toUInt64.toNat = b := by
    show (UInt64.ofNat b).toNat = b
    rw [UInt64.toNat_ofNat']
    exact Nat.mod_eq_of_lt hb
  rw [e1, e2] at h1
  exact h1
theorem hsh_lt {Q : Nat} (hQ : 0 < Q) (m : List Int64) : hsh Q m < Q := Nat.mod_lt _ hQ
abbrev pr_ws (pr0 h0 cm : Nat) (cJ : ClassId) (cf : Nat → Nat) : va_W := [(pr0, .inr (5, [.ref h0, .ref cm])), (cm, .inl (cJ, 4, .inr (.inl (lF cf))))]
abbrev rw_ws (ra : Nat) (cJ : ClassId) (rw : Nat → Int64) : va_W := [(ra, .inl (cJ, 8, .inr (.inl rw)))]
abbrev HU : Type := (Nat → Int64) × (Nat → Int32) × (Nat → Int32) × Nat
abbrev hu_ws (h0 aw ax ay : Nat) (cJ cI : ClassId) (u : HU) : va_W := ha_ws h0 aw ax ay cJ cI u.1 u.2.1 u.2.2.1 u.2.2.2
def hdSd (P Q : Nat) (y c z : Int64) : Prop := in_ex Q c ∧ in_ex Q z ∧ in_gp P Q y
def baSd (P Q : Nat) (a b c z d y : Int64) : Prop := in_ex Q c ∧ in_ex Q z ∧ in_ex Q d ∧ in_ex Q y ∧ in_gp P Q a ∧ in_gp P Q b
