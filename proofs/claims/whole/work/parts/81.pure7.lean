/-! the reference's SHA-256: octets -/
abbrev mo_ws (m0 : Nat) (z0 z1 z2 z3 : Int32) (z4 z5 z6 z7 z8 z9 : Int64) (z10 : Int32) (a0 a1 a2 a3 a4 a5 a6 a7 a8 a9 b0 b1 oc b2 b3 b4 b5 : Nat) : va_W := [(m0, .inr (8, [.int z0, .int z1, .int z2, .int z3, .long z4, .long z5, .long z6, .long z7, .long z8, .long z9, .int z10, .ref a0, .ref a1, .ref a2, .ref a3, .ref a4, .ref a5, .ref a6, .ref a7, .ref a8, .ref a9, .ref b0, .ref b1, .int (nI oc), .ref b2, .ref b3, .ref b4, .ref b5]))]
abbrev iw_ws (a : Nat) (cI : ClassId) (n : Nat) (f : Nat → Int32) : va_W := [(a, .inl (cI, n, .inl f))]
abbrev jw_ws (a : Nat) (cJ : ClassId) (n : Nat) (f : Nat → Int64) : va_W := [(a, .inl (cJ, n, .inr (.inl f)))]
/-- octet i of v, the highest first -/
def ob (v : Int64) (i : Nat) : Int32 := ((v >>> ((nI (56 - 8 * i)).toInt64 &&& 63)) : Int64).toInt32 &&& 255
def o8 (f : Nat → Int32) (o : Nat) (v : Int64) : Nat → Int32 := upd (upd (upd (upd (upd (upd (upd (upd f o (ob v 0)) (o + 1) (ob v 1)) (o + 2) (ob v 2)) (o + 3) (ob v 3)) (o + 4) (ob v 4)) (o + 5) (ob v 5)) (o + 6) (ob v 6)) (o + 7) (ob v 7)
theorem o8_in (f : Nat → Int32) (o : Nat) (v : Int64) (i : Nat) (hi : i < 8) : o8 f o v (o + i) = ob v i := by
  unfold o8 upd
  match i, hi with
  | 0, _ => rw [if_neg (by omega), if_neg (by omega), if_neg (by omega), if_neg (by omega), if_neg (by omega), if_neg (by omega), if_neg (by omega), if_pos (by omega)]
  | 1, _ => rw [if_neg (by omega), if_neg (by omega), if_neg (by omega), if_neg (by omega), if_neg (by omega), if_neg (by omega), if_pos (by omega)]
  | 2, _ => rw [if_neg (by omega), if_neg (by omega), if_neg (by omega), if_neg (by omega), if_neg (by omega), if_pos (by omega)]
  | 3, _ => rw [if_neg (by omega), if_neg (by omega), if_neg (by omega), if_neg (by omega), if_pos (by omega)]
  | 4, _ => rw [if_neg (by omega), if_neg (by omega), if_neg (by omega), if_pos (by omega)]
  | 5, _ => rw [if_neg (by omega), if_neg (by omega), if_pos (by omega)]
  | 6, _ => rw [if_neg (by omega), if_pos (by omega)]
  | 7, _ => rw [if_pos (by omega)]
  | i + 8, hi => exact absurd hi (by omega)
theorem o8_out (f : Nat → Int32) (o : Nat) (v : Int64) (j : Nat) (hj : j < o ∨ o + 8 ≤ j) : o8 f o v j = f j := by
  unfold o8 upd
  rw [if_neg (by omega), if_neg (by omega), if_neg (by omega), if_neg (by omega), if_neg (by omega), if_neg (by omega), if_neg (by omega), if_neg (by omega)]
/-- a message's octets lie at the front of f -/
def bok (f : Nat → Int32) (L : Nat) (m : List Int64) : Prop := m.length = L ∧ ∀ j i, j < L → i < 8 → f (8 * j + i) = ob (ml m j) i
theorem bok_0 (f : Nat → Int32) : bok f 0 [] := ⟨rfl, fun j i hj => absurd hj (by omega)⟩
theorem bok_add {f f' : Nat → Int32} {L o : Nat} {m : List Int64} (x : Int64) (h : bok f L m) (ho : o = 8 * L) (e : f' = o8 f o x) : bok f' (L + 1) (m ++ [x]) := by
  obtain ⟨h1, h2⟩ := h
  refine ⟨by rw [List.length_append, h1]; rfl, ?_⟩
  intro j i hj hi
  rw [e, ho]
  unfold ml
  by_cases h3 : j = L
  · rw [h3, o8_in f (8 * L) x i hi, List.getElem?_append_right (by omega), show L - m.length = 0 by omega]
    rfl
  · rw [o8_out f (8 * L) x _ (by omega), h2 j i (by omega) hi, List.getElem?_append_left (by omega)]
    rfl
/-- zeros behind the end mark -/
def zz (f : Nat → Int32) (o : Nat) : Nat → Nat → Int32
  | 0 => f
  | n + 1 => upd (zz f o n) (o + n) 0
theorem zz_out (f : Nat → Int32) (o : Nat) : ∀ n j, j < o → zz f o n j = f j
  | 0, _, _ => rfl
  | n + 1, j, hj => by
    unfold zz upd
    rw [if_neg (by omega)]
    exact zz_out f o n j hj
theorem zz_in (f : Nat → Int32) (o : Nat) : ∀ n j, o ≤ j → j < o + n → zz f o n j = 0
  | 0, j, h1, h2 => absurd h2 (by omega)
  | n + 1, j, h1, h2 => by
    unfold zz upd
    by_cases h : j = o + n
    · rw [if_pos h]
    · rw [if_neg h]
      exact zz_in f o n j h1 (by omega)
/-- the padded message in octets -/
def bpw (f : Nat → Int32) (L : Nat) : Nat → Int32 := o8 (zz (upd f (8 * L) 128) (8 * L + 1) (8 * pdl L - 9 - 8 * L)) (8 * pdl L - 8) (nI (8 * (8 * L))).toInt64
theorem ob_mark0 : ob (-9223372036854775808) 0 = 128 := by decide
theorem ob_mark : ∀ i, i < 8 → 0 < i → ob (-9223372036854775808) i = 0 := by decide
theorem ob_zero : ∀ i, i < 8 → ob 0 i = 0 := by decide
theorem rem64 : ∀ x, x < 256 → nI x - nI x / 64 * 64 = nI (x % 64) := by decide +kernel
theorem bits64 : ∀ L, L < 15 → (nI L).toInt64 * 64 = (nI (8 * (8 * L))).toInt64 := by decide +kernel
theorem pz_at {w : Nat → Int64} {L : Nat} : ∀ n j, j < L + 1 + n → pz w L n j = if j < L then w j else if j = L then -9223372036854775808 else 0
  | 0, j, hj => by
    unfold pz vp_updL
    by_cases h : j = L
    · rw [if_pos h, if_neg (by omega), if_pos h]
    · rw [if_neg h, if_pos (by omega)]
  | n + 1, j, hj => by
    unfold pz vp_updL
    by_cases h : j = L + 1 + n
    · rw [if_pos h, if_neg (by omega), if_neg (by omega)]
    · rw [if_neg h]
      exact pz_at n j (by omega)
theorem bpw_pw {f : Nat → Int32} {w : Nat → Int64} {L : Nat} {m : List Int64} (hL : L ≤ 14) (hb : bok f L m) (hw : wok w L m) : ∀ j i, j < pdl L → i < 8 → bpw f L (8 * j + i) = ob (pw w L j) i := by
  intro j i hj hi
  have hp := pdl_cases L
  unfold bpw pw vp_updL
  by_cases h1 : j = pdl L - 1
  · rw [if_pos h1, bits64 L (by omega), show 8 * j + i = 8 * pdl L - 8 + i by omega]
    exact o8_in _ _ _ i hi
  · rw [if_neg h1, o8_out _ _ _ _ (by omega), pz_at _ j (by omega)]
    by_cases h2 : j < L
    · rw [if_pos h2, zz_out _ _ _ _ (by omega)]
      unfold upd
      rw [if_neg (by omega), hb.2 j i h2 hi, hw.2 j h2]
    · rw [if_neg h2]
      by_cases h3 : j = L
      · rw [if_pos h3]
        by_cases h4 : i = 0
        · rw [zz_out _ _ _ _ (by omega), h4, ob_mark0]
          unfold upd
          rw [if_pos (by omega)]
        · rw [zz_in _ _ _ _ (by omega) (by omega), ob_mark i hi (by omega)]
      · rw [if_neg h3, zz_in _ _ _ _ (by omega) (by omega), ob_zero i hi]
/-- four octets as a word -/
def rq (b : Nat → Int32) (o : Nat) : Int32 := ((b o <<< ((24 : Int32) &&& 31) ||| b (o + 1) <<< ((16 : Int32) &&& 31)) ||| b (o + 2) <<< ((8 : Int32) &&& 31)) ||| b (o + 3)
def sq1 (sc b : Nat → Int32) (fr : Nat) : Nat → Nat → Int32
  | 0 => sc
  | k + 1 => upd (sq1 sc b fr k) k (rq b (fr + 4 * k))
def hbq (b sc st : Nat → Int32) : Nat → (Nat → Int32) × (Nat → Int32)
  | 0 => (sc, st)
  | k + 1 => (swn (sq1 (hbq b sc st k).1 b (64 * k) 16) 48, mxa (swn (sq1 (hbq b sc st k).1 b (64 * k) 16) 48) (hbq b sc st k).2 8)
def hc8 (f : Nat → Int32) : Nat → Int32 := upd (upd (upd (upd (upd (upd (upd (upd f 0 (kS 0)) 1 (kS 1)) 2 (kS 2)) 3 (kS 3)) 4 (kS 4)) 5 (kS 5)) 6 (kS 6)) 7 (kS 7)
theorem hc8_ok (f : Nat → Int32) : ∀ j, j < 8 → hc8 f j = kS j := by
  intro j hj
  match j, hj with
  | 0, _ => rfl
  | 1, _ => rfl
  | 2, _ => rfl
  | 3, _ => rfl
  | 4, _ => rfl
  | 5, _ => rfl
  | 6, _ => rfl
  | 7, _ => rfl
  | j + 8, hj => exact absurd hj (by omega)
abbrev DU : Type := (Nat → Int32) × (Nat → Int32) × (Nat → Int32) × (Nat → Int64) × Nat
theorem told4 {tf : Nat → Int64} {st : Nat → Int32} {msg : List Int64} (h : dgo st msg) : ∀ j, j < 4 → vp_updL (vp_updL (vp_updL (vp_updL tf 0 (wd (st 0) (st 1))) 1 (wd (st 2) (st 3))) 2 (wd (st 4) (st 5))) 3 (wd (st 6) (st 7)) j = lkw msg j := by
  rw [lkw_0 h, lkw_1 h, lkw_2 h, lkw_3 h]
  exact lk_4
theorem sq1_at (sc b : Nat → Int32) (fr : Nat) : ∀ k j, j < k → sq1 sc b fr k j = rq b (fr + 4 * j)
  | 0, j, hj => absurd hj (by omega)
  | k + 1, j, hj => by
    unfold sq1 upd
    by_cases h : j = k
    · rw [if_pos h, h]
    · rw [if_neg h]
      exact sq1_at sc b fr k j (by omega)
theorem sp1_at (sc : Nat → Int32) (w : Nat → Int64) (fr : Nat) : ∀ k i, i < k → sp1 sc w fr k (2 * i) = w_hi (w (fr + i)) ∧ sp1 sc w fr k (2 * i + 1) = (w (fr + i)).toInt32
  | 0, i, hi => absurd hi (by omega)
  | k + 1, i, hi => by
    unfold sp1 upd
    by_cases h : i = k
    · subst h
      rw [if_neg (by omega), if_pos rfl, if_pos rfl]
      exact ⟨rfl, rfl⟩
    · rw [if_neg (by omega), if_neg (by omega), if_neg (by omega), if_neg (by omega)]
      exact sp1_at sc w fr k i (by omega)
theorem ob_bit (v : Int64) (k s : Nat) (hs : ((nI (56 - 8 * k)).toInt64 &&& 63).toBitVec.smod 64 = BitVec.ofNat 64 s) (hs56 : s ≤ 56) (i : Nat) : (ob v k).toBitVec.getLsbD i = (decide (i < 8) && v.toBitVec.getLsbD (s + i)) := by
  have e : (ob v k).toBitVec = ((v.toBitVec.sshiftRight' (((nI (56 - 8 * k)).toInt64 &&& 63).toBitVec.smod 64)).signExtend 32) &&& BitVec.ofNat 32 (2 ^ 8 - 1) := rfl
  rw [e, hs, BitVec.getLsbD_and, BitVec.getLsbD_ofNat, Nat.testBit_two_pow_sub_one, BitVec.getLsbD_signExtend, BitVec.getLsbD_sshiftRight']
  by_cases h : i < 8
  · have h1 : i < 32 := by omega
    have h2 : i < 64 := by omega
    have h3 : s + i < 64 := by omega
    have h4 : (BitVec.ofNat 64 s).toNat = s := by rw [BitVec.toNat_ofNat]; exact Nat.mod_eq_of_lt (by omega)
    rw [h4]
    simp [h, h1, h2, h3]
  · simp [h]
theorem asm_at {x0 x1 x2 x3 : Int32} {v : Int64} {s : Nat} (hs : s ≤ 32) (h0 : ∀ i, x0.toBitVec.getLsbD i = (decide (i < 8) && v.toBitVec.getLsbD (s + 24 + i))) (h1 : ∀ i, x1.toBitVec.getLsbD i = (decide (i < 8) && v.toBitVec.getLsbD (s + 16 + i))) (h2 : ∀ i, x2.toBitVec.getLsbD i = (decide (i < 8) && v.toBitVec.getLsbD (s + 8 + i))) (h3 : ∀ i, x3.toBitVec.getLsbD i = (decide (i < 8) && v.toBitVec.getLsbD (s + i))) (i : Nat) (hi : i < 32) : (((x0 <<< ((24 : Int32) &&& 31) ||| x1 <<< ((16 : Int32) &&& 31)) ||| x2 <<< ((8 : Int32) &&& 31)) ||| x3).toBitVec.getLsbD i = v.toBitVec.getLsbD (s + i) := by
  have e : (((x0 <<< ((24 : Int32) &&& 31) ||| x1 <<< ((16 : Int32) &&& 31)) ||| x2 <<< ((8 : Int32) &&& 31)) ||| x3).toBitVec = ((x0.toBitVec <<< 24 ||| x1.toBitVec <<< 16) ||| x2.toBitVec <<< 8) ||| x3.toBitVec := rfl
  rw [e, BitVec.getLsbD_or, BitVec.getLsbD_or, BitVec.getLsbD_or, BitVec.getLsbD_shiftLeft, BitVec.getLsbD_shiftLeft, BitVec.getLsbD_shiftLeft, h0, h1, h2, h3]
  rcases Nat.lt_or_ge i 8 with g1 | g1
  · simp [g1, show i < 16 by omega, show i < 24 by omega]
  · rcases Nat.lt_or_ge i 16 with g2 | g2
    · have a1 : ¬ i < 8 := by omega
      have a2 : i - 8 < 8 := by omega
      have a3 : s + 8 + (i - 8) = s + i := by omega
      simp [a1, a2, g2, hi, show i < 24 by omega, a3]
    · rcases Nat.lt_or_ge i 24 with g3 | g3
      · have a1 : ¬ i < 8 := by omega
        have a2 : ¬ i < 16 := by omega
        have a4 : ¬ i - 8 < 8 := by omega
        have a5 : i - 16 < 8 := by omega
        have a3 : s + 16 + (i - 16) = s + i := by omega
        simp [a1, a2, a4, a5, g3, hi, a3]
      · have a1 : ¬ i < 8 := by omega
        have a2 : ¬ i < 16 := by omega
        have a6 : ¬ i < 24 := by omega
        have a4 : ¬ i - 8 < 8 := by omega
        have a5 : ¬ i - 16 < 8 := by omega
        have a7 : i - 24 < 8 := by omega
        have a3 : s + 24 + (i - 24) = s + i := by omega
        simp [a1, a2, a6, a4, a5, a7, hi, a3]
theorem asm_hi (v : Int64) : ((ob v 0 <<< ((24 : Int32) &&& 31) ||| ob v 1 <<< ((16 : Int32) &&& 31)) ||| ob v 2 <<< ((8 : Int32) &&& 31)) ||| ob v 3 = w_hi v := by
  apply Int32.toBitVec_inj.mp
  apply BitVec.eq_of_getLsbD_eq
  intro i hi
  rw [asm_at (s := 32) (by omega) (ob_bit v 0 56 (by decide) (by omega)) (ob_bit v 1 48 (by decide) (by omega)) (ob_bit v 2 40 (by decide) (by omega)) (ob_bit v 3 32 (by decide) (by omega)) i hi]
  have e : (w_hi v).toBitVec = (v.toBitVec >>> 32).signExtend 32 := rfl
  rw [e, BitVec.getLsbD_signExtend, BitVec.getLsbD_ushiftRight]
  simp [hi, show i < 64 by omega]
theorem asm_lo (v : Int64) : ((ob v 4 <<< ((24 : Int32) &&& 31) ||| ob v 5 <<< ((16 : Int32) &&& 31)) ||| ob v 6 <<< ((8 : Int32) &&& 31)) ||| ob v 7 = v.toInt32 := by
  apply Int32.toBitVec_inj.mp
  apply BitVec.eq_of_getLsbD_eq
  intro i hi
  rw [asm_at (s := 0) (by omega) (ob_bit v 4 24 (by decide) (by omega)) (ob_bit v 5 16 (by decide) (by omega)) (ob_bit v 6 8 (by decide) (by omega)) (ob_bit v 7 0 (by decide) (by omega)) i hi]
  have e : v.toInt32.toBitVec = v.toBitVec.signExtend 32 := rfl
  rw [e, BitVec.getLsbD_signExtend]
  simp [hi, show i < 64 by omega]
theorem hbq_hbk {B sc sc' st st' : Nat → Int32} {W : Nat → Int64} (hs : ∀ j, j < 8 → st j = st' j) : ∀ b, (∀ j i, j < 8 * b → i < 8 → B (8 * j + i) = ob (W j) i) → ∀ j, j < 8 → (hbq B sc st b).2 j = (hbk W sc' st' b).2 j
  | 0, _, j, hj => hs j hj
  | b + 1, h, j, hj => by
    show mxa (swn (sq1 (hbq B sc st b).1 B (64 * b) 16) 48) (hbq B sc st b).2 8 j = mxa (swn (sp1 (hbk W sc' st' b).1 W (8 * b) 8) 48) (hbk W sc' st' b).2 8 j
    refine mxa_congr (fun i hi => swn_congr (fun j hj => ?_) 48 i (by omega)) (hbq_hbk hs b (fun j i hj hi => h j i (by omega) hi)) 8 (by omega) j hj
    rw [sq1_at _ _ _ 16 j hj]
    have e : ∀ i q, i < 8 → q < 8 → B (64 * b + 8 * i + q) = ob (W (8 * b + i)) q := fun i q hi hq => by
      have := h (8 * b + i) q (by omega) hq
      rw [← this]
      congr 1
      omega
    obtain ⟨i, hi, hj2⟩ : ∃ i, i < 8 ∧ (j = 2 * i ∨ j = 2 * i + 1) := ⟨j / 2, by omega, by omega⟩
    have hsp := sp1_at (hbk W sc' st' b).1 W (8 * b) 8 i hi
    rcases hj2 with rfl | rfl
    · rw [hsp.1, ← asm_hi]
      unfold rq
      rw [show 64 * b + 4 * (2 * i) = 64 * b + 8 * i + 0 by omega, e i 0 hi (by omega), show 64 * b + 8 * i + 0 + 1 = 64 * b + 8 * i + 1 by omega, e i 1 hi (by omega), show 64 * b + 8 * i + 0 + 2 = 64 * b + 8 * i + 2 by omega, e i 2 hi (by omega), show 64 * b + 8 * i + 0 + 3 = 64 * b + 8 * i + 3 by omega, e i 3 hi (by omega)]
    · rw [hsp.2, ← asm_lo]
      unfold rq
      rw [show 64 * b + 4 * (2 * i + 1) = 64 * b + 8 * i + 4 by omega, e i 4 hi (by omega), show 64 * b + 8 * i + 4 + 1 = 64 * b + 8 * i + 5 by omega, e i 5 hi (by omega), show 64 * b + 8 * i + 4 + 2 = 64 * b + 8 * i + 6 by omega, e i 6 hi (by omega), show 64 * b + 8 * i + 4 + 3 = 64 * b + 8 * i + 7 by omega, e i 7 hi (by omega)]
theorem hbq_dg {bf : Nat → Int32} {L : Nat} {msg : List Int64} (hL : L ≤ 14) (hbo : bok bf L msg) (sc st : Nat → Int32) (hst : ∀ j, j < 8 → st j = kS j) : dgo (hbq (bpw bf L) sc st (pdl L / 8)).2 msg := by
  intro j hj
  have hp := pdl_cases L
  have hw : wok (ml msg) L msg := ⟨hbo.1, fun _ _ => rfl⟩
  have h := hbq_hbk (sc := sc) (sc' := fun _ => 0) (W := pw (ml msg) L) hst (pdl L / 8) (fun j i hj hi => bpw_pw hL hbo hw j i (by omega) hi) j hj
  rw [h]
  unfold dg
  rw [hbo.1]
theorem lkw_hN (msg : List Int64) : lkw msg 0 = lN (hN msg) := l_toU _
/-! a remainder without sign -/
theorem not_lN {n : Nat} (h : n < 2 ^ 64) : lN n ^^^ (-1) = lN (2 ^ 64 - 1 - n) := by
  apply wb_inj
  have e : (lN n ^^^ (-1)).toBitVec = (lN n).toBitVec ^^^ BitVec.allOnes 64 := rfl
  rw [e, BitVec.xor_allOnes, wb_tb, wb_tb]
  apply BitVec.eq_of_toNat_eq
  rw [BitVec.toNat_not, BitVec.toNat_ofNat, BitVec.toNat_ofNat, Nat.mod_eq_of_lt h, Nat.mod_eq_of_lt (by omega)]
theorem sar63 {n : Nat} (h1 : 2 ^ 63 ≤ n) (h2 : n < 2 ^ 64) : lN n >>> ((63 : Int32).toInt64 &&& 63) = -1 := by
  apply wb_inj
  have e : (lN n >>> ((63 : Int32).toInt64 &&& 63)).toBitVec = (lN n).toBitVec.sshiftRight' (BitVec.ofNat 64 63) := rfl
  have e1 : ((-1 : Int64)).toBitVec = BitVec.allOnes 64 := rfl
  have hm : (lN n).toBitVec.msb = true := by
    rw [BitVec.msb_eq_decide, wb_tn h2]
    exact decide_eq_true h1
  rw [e, e1]
  apply BitVec.eq_of_getLsbD_eq
  intro i hi
  have h63 : (BitVec.ofNat 64 63).toNat = 63 := rfl
  rw [BitVec.getLsbD_sshiftRight', BitVec.getLsbD_allOnes, h63]
  by_cases h0 : i = 0
  · subst h0
    have h9 : (lN n).toBitVec.getLsbD (63 + 0) = true := by
      rw [BitVec.msb_eq_getLsbD_last] at hm
      exact hm
    rw [if_pos (by omega), h9]
    rfl
  · rw [if_neg (by omega), hm]
    simp [hi]
theorem ru_half {U : Nat} (hU : U < 2 ^ 64) : ((lN U).toUInt64 >>> ((1 : Int32).toInt64.toUInt64 &&& Int64.toUInt64 63)).toInt64 = lN (U / 2) := sh1 hU
theorem ru_dbl (x : Nat) : lN x <<< ((1 : Int32).toInt64 &&& 63) = lN (2 * x) := by
  have h := wb_shl x (k := 1) (by omega)
  rw [Nat.mul_comm 2 x]
  exact h
theorem ru_le (U Q : Nat) : 2 * (U / 2 / Q) * Q ≤ U := by
  have h1 := Nat.div_mul_le_self (U / 2) Q
  have h2 : 2 * (U / 2 / Q) * Q = 2 * (U / 2 / Q * Q) := Nat.mul_assoc ..
  omega
theorem ru_r {U Q : Nat} (hQ : 0 < Q) : U - 2 * (U / 2 / Q) * Q = 2 * (U / 2 % Q) + U % 2 := by
  have h1 := Nat.div_add_mod (U / 2) Q
  have h2 : 2 * (U / 2 / Q) * Q = 2 * (Q * (U / 2 / Q)) := by rw [Nat.mul_assoc, Nat.mul_comm (U / 2 / Q) Q]
  omega
theorem ru_lt (U : Nat) {Q : Nat} (hQ : 0 < Q) : U - 2 * (U / 2 / Q) * Q < 2 * Q := by
  rw [ru_r hQ]
  have := Nat.mod_lt (U / 2) hQ
  omega
theorem ru_mask {r Q : Nat} (hr : r < 2 * Q) (hQ : Q < 2 ^ 61) : ((((lN r - lN Q) ^^^ (-1)) >>> ((63 : Int32).toInt64 &&& 63)) &&& lN Q) = lN (if Q ≤ r then Q else 0) := by
  by_cases h : Q ≤ r
  · rw [if_pos h, lN_sub h, not_lN (by omega), sar63 (by omega) (by omega)]
    apply wb_inj
    have e : ((-1 : Int64) &&& lN Q).toBitVec = BitVec.allOnes 64 &&& (lN Q).toBitVec := rfl
    rw [e, BitVec.allOnes_and]
  · rw [if_neg h, lw_sub, Nat.mod_eq_of_lt (show Q < 2 ^ 64 by omega), not_lN (by omega), pf_shr (d := 63) (by decide) (by omega), Nat.div_eq_of_lt (by omega)]
    exact Int64.zero_and
theorem ru_end (U : Nat) {Q : Nat} (hQ : 0 < Q) : lN (U - 2 * (U / 2 / Q) * Q) - lN (if Q ≤ U - 2 * (U / 2 / Q) * Q then Q else 0) = lN (U % Q) := by
  have h1 := ru_le U Q
  have h2 := ru_lt U hQ
  have h3 : U % Q = (U - 2 * (U / 2 / Q) * Q) % Q := by
    have e : U = U - 2 * (U / 2 / Q) * Q + 2 * (U / 2 / Q) * Q := by omega
    rw [e, Nat.add_mul_mod_self_right, ← e]
  rw [h3]
  by_cases h : Q ≤ U - 2 * (U / 2 / Q) * Q
  · rw [if_pos h, lN_sub h, Nat.mod_eq_sub_mod h, Nat.mod_eq_of_lt (by omega)]
  · rw [if_neg h, lN_sub (Nat.zero_le _), Nat.mod_eq_of_lt (by omega), Nat.sub_zero]
