/-! numbers of the class and the reference: lN n, small -/
theorem ln_zero : lN 0 = 0 := rfl
theorem ln_one : lN 1 = 1 := rfl
theorem ln_le0 {k : Nat} (h : k < 2 ^ 63) : lg_cmp (lN k) 0 ≤ 0 ↔ k = 0 := by
  rw [lg_cmp_le]
  have e : (lN k ≤ 0) ↔ (lN k ≤ lN 0) := Iff.rfl
  rw [e, pk_lLE h (by omega)]
  omega
theorem ln_cmp_lt {a b : Nat} (ha : a < 2 ^ 63) (hb : b < 2 ^ 63) : lg_cmp (lN a) (lN b) < 0 ↔ a < b := by
  rw [lg_cmp_lt, pk_lLT ha hb]
theorem ln_cmp_le {a b : Nat} (ha : a < 2 ^ 63) (hb : b < 2 ^ 63) : lg_cmp (lN a) (lN b) ≤ 0 ↔ a ≤ b := by
  rw [lg_cmp_le, pk_lLE ha hb]
theorem ln_cmp_eq {a b : Nat} (ha : a < 2 ^ 63) (hb : b < 2 ^ 63) : lg_cmp (lN a) (lN b) = 0 ↔ a = b := by
  rw [lg_cmp_eq, pk_lEQ ha hb]
theorem ln_even {k : Nat} (h : k < 2 ^ 63) : lg_cmp (lN (k % 2)) 0 = 0 ↔ k % 2 = 0 := by
  have e : (0 : Int64) = lN 0 := rfl
  rw [e, ln_cmp_eq (by omega) (by omega)]
theorem ln_half {k : Nat} (h : k < 2 ^ 62) : lN k >>> ((1 : Int32).toInt64 &&& 63) = lN (k / 2) := pf_shr (d := 1) (by decide) h
theorem md_half (S D K N : Nat) : (S + D * K) % N = ((if K % 2 = 0 then S else (S + D) % N) + ((D + D) % N) * (K / 2)) % N := by
  have hK := Nat.div_add_mod K 2
  rcases Nat.mod_two_eq_zero_or_one K with h | h
  · rw [if_pos h]
    have e : S + D * K = S + (D + D) * (K / 2) := by
      have : D * K = (D + D) * (K / 2) := by
        conv => lhs; rw [← hK, h]
        grind
      omega
    rw [e, Nat.add_mod S ((D + D) % N * (K / 2)), Nat.mod_mul_mod, ← Nat.add_mod]
  · rw [if_neg (by omega)]
    have e : S + D * K = (S + D) + (D + D) * (K / 2) := by
      have : D * K = D + (D + D) * (K / 2) := by
        conv => lhs; rw [← hK, h]
        grind
      omega
    rw [e, Nat.mod_add_mod, Nat.add_mod (S + D) ((D + D) % N * (K / 2)), Nat.mod_mul_mod, ← Nat.add_mod]
theorem md_sq (S D K N : Nat) : (S * D ^ K) % N = ((if K % 2 = 0 then S else (S * D) % N) * ((D * D) % N) ^ (K / 2)) % N := by
  have hK := Nat.div_add_mod K 2
  have hp : (D * D) ^ (K / 2) = D ^ (2 * (K / 2)) := by rw [Nat.pow_mul, Nat.pow_two]
  rcases Nat.mod_two_eq_zero_or_one K with h | h
  · rw [if_pos h]
    have e : D ^ K = (D * D) ^ (K / 2) := by
      rw [hp]
      congr 1
      omega
    rw [e, Nat.mul_mod S ((D * D % N) ^ (K / 2)), ← Nat.pow_mod, ← Nat.mul_mod]
  · rw [if_neg (by omega)]
    have e : S * D ^ K = (S * D) * (D * D) ^ (K / 2) := by
      rw [hp]
      have e2 : D ^ K = D * D ^ (2 * (K / 2)) := by
        rw [Nat.mul_comm, ← Nat.pow_succ]
        congr 1
        omega
      rw [e2]
      grind
    rw [e, Nat.mod_mul_mod, Nat.mul_mod (S * D) ((D * D % N) ^ (K / 2)), ← Nat.pow_mod, ← Nat.mul_mod]
theorem ln_rem1 {b : Nat} (h0 : 0 < b) (hb : b < 2 ^ 63) : (1 : Int64) - 1 / lN b * lN b = lN (1 % b) := pk_lRem (a := 1) (b := b) (by omega) h0 hb
theorem ln_ne0 {b : Nat} (h0 : 0 < b) (hb : b < 2 ^ 63) : ¬ lN b = 0 := by
  intro h
  have e : lN b = lN 0 := h
  have := (pk_lEQ hb (by omega)).mp e
  omega
