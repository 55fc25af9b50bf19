/-! what the two primality tests compute -/
theorem sp_uniq {a b x y : Nat} (h : 2 ^ a * x = 2 ^ b * y) (hx : x % 2 = 1) (hy : y % 2 = 1) : a = b ∧ x = y := by
  have key : ∀ a b x y : Nat, 2 ^ a * x = 2 ^ b * y → x % 2 = 1 → y % 2 = 1 → a ≤ b := by
    intro a b x y h hx hy
    apply Classical.byContradiction
    intro hlt
    have e : 2 ^ a = 2 ^ b * (2 * 2 ^ (a - b - 1)) := by
      rw [← Nat.pow_succ', ← Nat.pow_add]
      congr 1
      omega
    rw [e, Nat.mul_assoc] at h
    have := Nat.eq_of_mul_eq_mul_left (Nat.two_pow_pos b) h
    rw [Nat.mul_assoc] at this
    omega
  have e : a = b := Nat.le_antisymm (key a b x y h hx hy) (key b a y x h.symm hy hx)
  subst e
  exact ⟨rfl, Nat.eq_of_mul_eq_mul_left (Nat.two_pow_pos a) h⟩
theorem sp_no {b n t d : Nat} (h : n - 1 = 2 ^ t * d) (hd : d % 2 = 1) (h1 : b ^ d % n ≠ 1) (h2 : ∀ i, i < t → b ^ (2 ^ i * d) % n ≠ n - 1) : ¬ nt_sp b n := by
  rintro ⟨o, f, e, ho, hh⟩
  rw [e] at h
  obtain ⟨rfl, rfl⟩ := sp_uniq h ho hd
  rcases hh with hh | ⟨i, hi, hh⟩
  · exact h1 hh
  · exact h2 i hi hh
theorem Rf_no {n b : Nat} (hn : 2 ≤ n) (hb2 : 2 ≤ b) (hb : b < 38) (hd : b ∣ n) (hne : n ≠ b) : ¬ nt_Rf n := by
  rintro ⟨_, h | h⟩
  · have := Nat.le_of_dvd (by omega) hd
    exact h.2 b hb2 (by omega) hd
  · exact h.1 b hb2 hb hd
theorem Rf_no2 {n b : Nat} (h38 : 38 ≤ n) (hb2 : 2 ≤ b) (hb : b < 38) (hs : ¬ nt_sp b n) : ¬ nt_Rf n := by
  rintro ⟨_, h | h⟩
  · omega
  · exact hs (h.2 b hb2 hb)
theorem sq_step {b n k d : Nat} : (b ^ (2 ^ k * d) % n * (b ^ (2 ^ k * d) % n)) % n = b ^ (2 ^ (k + 1) * d) % n := by
  rw [← Nat.mul_mod, ← Nat.pow_add]
  congr 2
  rw [Nat.pow_succ]
  grind
theorem cmp2 {k : Nat} (h : k < 2 ^ 63) (c : Nat) (hc : c < 2 ^ 63) {x : Int64} (hx : x = lN c) : lg_cmp (lN k) x < 0 ↔ k < c := by
  rw [hx, ln_cmp_lt h hc]
theorem cmpe {k : Nat} (h : k < 2 ^ 63) (c : Nat) (hc : c < 2 ^ 63) {x : Int64} (hx : x = lN c) : lg_cmp (lN k) x = 0 ↔ k = c := by
  rw [hx, ln_cmp_eq h hc]
theorem cmpg {k : Nat} (h : k < 2 ^ 63) (c : Nat) (hc : c < 2 ^ 63) {x : Int64} (hx : x = lN c) : 0 ≤ lg_cmp (lN k) x ↔ c ≤ k := by
  rw [hx, lg_cmp_ge, pk_lLE hc h]
theorem ige {a : Nat} (b : Nat) (ha : a < 2 ^ 31) (hb : b < 2 ^ 31) {x : Int32} (hx : x = nI b) : x ≤ nI a ↔ b ≤ a := by
  rw [hx, nI_leI hb ha]
theorem lsub1 {n : Nat} (h : 1 ≤ n) : lN n - 1 = lN (n - 1) := lN_sub h
/-! numbers modulo 2 ** 64 -/
theorem lw_sub (a b : Nat) : lN a - lN b = lN (2 ^ 64 - b % 2 ^ 64 + a) := by
  apply wb_inj
  rw [Int64.toBitVec_sub, wb_tb, wb_tb, wb_tb, BitVec.ofNat_sub_ofNat]
theorem lw_neg (b : Nat) : -lN b = lN (2 ^ 64 - b % 2 ^ 64) := by
  have e : -lN b = lN 0 - lN b := by
    rw [ln_zero, Int64.zero_sub]
  rw [e, lw_sub, Nat.add_zero]
theorem lw_mask (n : Nat) : lN n &&& 2147483647 = lN (n % 2 ^ 31) := by
  have e : (2147483647 : Int64) = lN (2 ^ 31 - 1) := by decide
  rw [wb_mod n, e, wb_mask (Nat.mod_lt _ (by decide)) (by decide), Nat.mod_mod_of_dvd _ (by decide)]
/-- a step of Newton's -/
theorem ni_step0 {N X k B : Nat} (hB : 0 < B) (hk : 2 ^ (2 * k) ∣ B) (h : ((2 ^ k : Nat) : Int) ∣ ((N * X : Nat) : Int) - 1) : ((2 ^ (2 * k) : Nat) : Int) ∣ ((N * (X * (B - (N * X) % B + 2)) : Nat) : Int) - 1 := by
  have hm := Nat.div_add_mod (N * X) B
  have hlt := Nat.mod_lt (N * X) hB
  have e1 : N * (X * (B - (N * X) % B + 2)) = N * X * (B - (N * X) % B + 2) := by rw [Nat.mul_assoc]
  rw [e1]
  generalize N * X = y at *
  generalize y / B = q at *
  generalize y % B = r at *
  obtain ⟨t, ht⟩ := h
  have e0 : ((B - r : Nat) : Int) = (B : Int) - (r : Int) := by omega
  have e2 : ((y * (B - r + 2) : Nat) : Int) = (y : Int) * ((B : Int) - (r : Int) + 2) := by
    rw [Int.natCast_mul, Int.natCast_add, e0]
    rfl
  have e3 : (r : Int) = (y : Int) - (B : Int) * (q : Int) := by
    have h1 : ((B * q + r : Nat) : Int) = (y : Int) := by rw [hm]
    rw [Int.natCast_add, Int.natCast_mul] at h1
    omega
  have e4 : (y : Int) * ((B : Int) - (r : Int) + 2) - 1 = (B : Int) * ((y : Int) * (1 + (q : Int))) - ((y : Int) - 1) * ((y : Int) - 1) := by
    rw [e3]
    grind
  rw [e2, e4]
  refine Int.dvd_sub ?_ ?_
  · exact Int.dvd_trans (Int.ofNat_dvd.mpr hk) ⟨_, rfl⟩
  · rw [ht]
    refine ⟨t * t, ?_⟩
    have e6 : ((2 ^ (2 * k) : Nat) : Int) = ((2 ^ k : Nat) : Int) * ((2 ^ k : Nat) : Int) := by
      rw [← Int.natCast_mul, ← Nat.pow_add]
      congr 2
      omega
    rw [e6]
    grind
theorem ni_step {N X k : Nat} (hk : 2 * k ≤ 64) (h : ((2 ^ k : Nat) : Int) ∣ ((N * X : Nat) : Int) - 1) : ((2 ^ (2 * k) : Nat) : Int) ∣ ((N * (X * (2 ^ 64 - (N * X) % 2 ^ 64 + 2)) : Nat) : Int) - 1 := ni_step0 (Nat.two_pow_pos 64) (Nat.pow_dvd_pow 2 hk) h
theorem ni_start {N : Nat} (h : N % 2 = 1) : ((2 ^ 3 : Nat) : Int) ∣ ((N * N : Nat) : Int) - 1 := by
  have h8 : (N * N) % 8 = 1 := by
    have : N % 8 = 1 ∨ N % 8 = 3 ∨ N % 8 = 5 ∨ N % 8 = 7 := by omega
    rcases this with e | e | e | e <;> rw [Nat.mul_mod, e]
  refine ⟨((N * N / 8 : Nat) : Int), ?_⟩
  have := Nat.div_add_mod (N * N) 8
  have e : ((2 ^ 3 : Nat) : Int) = 8 := rfl
  rw [e]
  omega
theorem ni_end0 {N X B C : Nat} (hB : 0 < B) (hC : C ∣ B) (h : (C : Int) ∣ ((N * X : Nat) : Int) - 1) : ((B - X % B) % C * N + 1) % C = 0 := by
  have hm := Nat.div_add_mod X B
  have hlt := Nat.mod_lt X hB
  have hd : C ∣ (B - X % B) * N + 1 := by
    apply Int.ofNat_dvd.mp
    have e3 : ((B - X % B : Nat) : Int) = (B : Int) - ((X % B : Nat) : Int) := by omega
    have e4 : (X : Int) = (B : Int) * ((X / B : Nat) : Int) + ((X % B : Nat) : Int) := by
      have h1 : ((B * (X / B) + X % B : Nat) : Int) = (X : Int) := by rw [hm]
      rw [Int.natCast_add, Int.natCast_mul] at h1
      omega
    have e2 : (((B - X % B) * N + 1 : Nat) : Int) = ((B : Int) * ((1 + ((X / B : Nat) : Int)) * (N : Int))) - (((N * X : Nat) : Int) - 1) := by
      rw [Int.natCast_add, Int.natCast_mul, Int.natCast_mul, e3]
      generalize ((X % B : Nat) : Int) = r at *
      generalize ((X / B : Nat) : Int) = q at *
      have e5 : r = (X : Int) - (B : Int) * q := by omega
      rw [e5]
      have e6 : ((1 : Nat) : Int) = 1 := rfl
      rw [e6]
      grind
    rw [e2]
    refine Int.dvd_sub ?_ h
    exact Int.dvd_trans (Int.ofNat_dvd.mpr hC) ⟨_, rfl⟩
  rw [Nat.add_mod, Nat.mod_mul_mod, ← Nat.add_mod]
  exact Nat.mod_eq_zero_of_dvd hd
theorem ni_end {N X : Nat} (h : ((2 ^ 48 : Nat) : Int) ∣ ((N * X : Nat) : Int) - 1) : ((2 ^ 64 - X % 2 ^ 64) % 2 ^ 31 * N + 1) % 2 ^ 31 = 0 :=
  ni_end0 (Nat.two_pow_pos 64) (Nat.pow_dvd_pow 2 (by omega)) (Int.dvd_trans (Int.ofNat_dvd.mpr (Nat.pow_dvd_pow 2 (by omega))) h)
theorem ld2 (a : Nat) : (2 : Int64) * lN a = lN (2 * a) := lN_mul 2 a
theorem dbl_step (X i N : Nat) : (2 * (X * 2 ^ i % N)) % N = X * 2 ^ (i + 1) % N := by
  rw [Nat.mul_mod_mod]
  congr 1
  rw [Nat.pow_succ]
  grind
theorem dbl_ge {X i N : Nat} (hlt : X * 2 ^ i % N < N) (hc : N ≤ 2 * (X * 2 ^ i % N)) : lN (2 * (X * 2 ^ i % N)) - lN N = lN (X * 2 ^ (i + 1) % N) := by
  rw [lN_sub hc, ← dbl_step]
  generalize X * 2 ^ i % N = y at *
  rw [Nat.mod_eq_sub_mod hc, Nat.mod_eq_of_lt (by omega)]
theorem dbl_lt {X i N : Nat} (hc : 2 * (X * 2 ^ i % N) < N) : (2 : Int64) * lN (X * 2 ^ i % N) = lN (X * 2 ^ (i + 1) % N) := by
  rw [ld2, ← dbl_step]
  generalize X * 2 ^ i % N = y at *
  rw [Nat.mod_eq_of_lt hc]
/-! Montgomery's product -/
theorem sh31 {n : Nat} (h : n < 2 ^ 64) : ((lN n).toUInt64 >>> ((31 : Int32).toInt64.toUInt64 &&& Int64.toUInt64 63)).toInt64 = lN (n / 2 ^ 31) := wb_shr (k := 31) h (by decide)
def md_ok (N f k : Nat) : Prop := N % 2 = 1 ∧ 3 ≤ N ∧ N < 2 ^ 61 ∧ f < 2 ^ 31 ∧ (f * N + 1) % 2 ^ 31 = 0 ∧ k ≤ 61 ∧ N < 2 ^ k
abbrev md_fs (N f k : Nat) : List Value := [.long (lN N), .long (lN (N % 2 ^ 31)), .long (lN (N / 2 ^ 31)), .long (lN f), .long (lN (2 ^ 62 % N)), .long (lN (2 ^ 124 % N)), .int (nI k)]
theorem mg_zero {b f N C : Nat} (h : (f * N + 1) % C = 0) : (b + (b * f) % C * (N % C)) % C = 0 := by
  have e1 : (b + (b * f) % C * (N % C)) % C = (b + b * f * N) % C := by
    rw [Nat.add_mod, ← Nat.mul_mod, ← Nat.add_mod]
  have e2 : b + b * f * N = b * (f * N + 1) := by grind
  rw [e1, e2, Nat.mul_mod, h, Nat.mul_zero, Nat.zero_mod]
theorem mg_step {C A N al ah nl nh d b q x y : Nat} (hA : A = C * ah + al) (hN : N = C * nh + nl) (hx : b + q * nl = C * x) (hb : b = y + al * d) : C * (ah * d + q * nh + x) = y + A * d + q * N := by
  have e0 : C * (ah * d + q * nh + x) = C * ah * d + q * (C * nh) + C * x := by grind
  have e1 : (C * ah + al) * d = C * ah * d + al * d := by grind
  have e2 : q * (C * nh + nl) = q * (C * nh) + q * nl := by grind
  rw [e0, ← hx, hA, hN, e1, e2]
  omega
theorem mg_main {C A B N f s0 s1 : Nat} (hC : 0 < C) (hf : (f * N + 1) % C = 0) (hA : A < N) (hB : B < N) (hN : 2 * N ≤ C * C)
    (h0 : s0 = A / C * (B % C) + (A % C * (B % C) * f) % C * (N / C) + (A % C * (B % C) + (A % C * (B % C) * f) % C * (N % C)) / C)
    (h1 : s1 = s0 / C + A / C * (B / C) + ((s0 % C + A % C * (B / C)) * f) % C * (N / C) + (s0 % C + A % C * (B / C) + ((s0 % C + A % C * (B / C)) * f) % C * (N % C)) / C) :
    s1 < 2 * N ∧ (s1 * (C * C)) % N = (A * B) % N := by
  have hAd : A = C * (A / C) + A % C := (Nat.div_add_mod A C).symm
  have hBd : B = C * (B / C) + B % C := (Nat.div_add_mod B C).symm
  have hNd : N = C * (N / C) + N % C := (Nat.div_add_mod N C).symm
  have hs0d : s0 = C * (s0 / C) + s0 % C := (Nat.div_add_mod s0 C).symm
  have z0 := mg_zero (b := A % C * (B % C)) hf
  have z1 := mg_zero (b := s0 % C + A % C * (B / C)) hf
  have q0 : (A % C * (B % C) * f) % C < C := Nat.mod_lt _ hC
  have q1 : ((s0 % C + A % C * (B / C)) * f) % C < C := Nat.mod_lt _ hC
  generalize hq0 : (A % C * (B % C) * f) % C = u0 at *
  generalize hq1 : ((s0 % C + A % C * (B / C)) * f) % C = u1 at *
  have x0 : A % C * (B % C) + u0 * (N % C) = C * ((A % C * (B % C) + u0 * (N % C)) / C) := by
    have := Nat.div_add_mod (A % C * (B % C) + u0 * (N % C)) C
    omega
  have x1 : s0 % C + A % C * (B / C) + u1 * (N % C) = C * ((s0 % C + A % C * (B / C) + u1 * (N % C)) / C) := by
    have := Nat.div_add_mod (s0 % C + A % C * (B / C) + u1 * (N % C)) C
    omega
  have k0 : C * s0 = A * (B % C) + u0 * N := by
    rw [h0, mg_step hAd hNd x0 (y := 0) (by omega)]
    omega
  have k1 : C * s1 = s0 + A * (B / C) + u1 * N := by
    have e := mg_step hAd hNd x1 (y := s0 % C) rfl
    have e3 : C * s1 = C * (s0 / C) + C * (A / C * (B / C) + u1 * (N / C) + (s0 % C + A % C * (B / C) + u1 * (N % C)) / C) := by
      rw [h1]
      grind
    rw [e3, e]
    omega
  have k2 : s1 * (C * C) = A * B + N * (u0 + C * u1) := by
    have e4 : s1 * (C * C) = C * (C * s1) := by grind
    rw [e4, k1]
    have e5 : C * (s0 + A * (B / C) + u1 * N) = C * s0 + A * (C * (B / C)) + C * u1 * N := by grind
    rw [e5, k0]
    have e6 : A * B = A * (C * (B / C)) + A * (B % C) := by
      rw [← Nat.mul_add, ← hBd]
    rw [e6]
    grind
  refine ⟨?_, ?_⟩
  · apply Classical.byContradiction
    intro hge
    have b1 : 2 * N * (C * C) ≤ s1 * (C * C) := Nat.mul_le_mul_right _ (by omega)
    have b2 : A * B ≤ N * N := Nat.mul_le_mul (by omega) (by omega)
    have b3 : u0 + C * u1 < C * C := by
      have : C * u1 ≤ C * (C - 1) := Nat.mul_le_mul_left C (by omega)
      have e7 : C * (C - 1) = C * C - C := by rw [Nat.mul_sub, Nat.mul_one]
      have : C * 1 ≤ C * C := Nat.mul_le_mul_left C hC
      omega
    have b4 : N * (u0 + C * u1 + 1) ≤ N * (C * C) := Nat.mul_le_mul_left N b3
    have b5 : N * (2 * N) ≤ N * (C * C) := Nat.mul_le_mul_left N hN
    have e8 : 2 * N * (C * C) = N * (C * C) + N * (C * C) := by grind
    have e9 : N * (2 * N) = N * N + N * N := by grind
    have e10 : N * (u0 + C * u1 + 1) = N * (u0 + C * u1) + N := by grind
    have : 0 < N * N := Nat.mul_pos (by omega) (by omega)
    omega
  · rw [k2, Nat.add_mul_mod_self_left]
theorem mg_less {s N C : Nat} (h : N ≤ s) : ((s - N) * C) % N = (s * C) % N := by
  have e : s * C = (s - N) * C + N * C := by
    rw [← Nat.add_mul, Nat.sub_add_cancel h]
  rw [e, Nat.add_mul_mod_self_left]
theorem cop2 {N : Nat} (h : N % 2 = 1) (j : Nat) : Nat.Coprime N (2 ^ j) := by
  apply Nat.Coprime.pow_right
  have h1 : Nat.gcd N 2 ∣ 2 := Nat.gcd_dvd_right _ _
  have h2 : Nat.gcd N 2 ∣ N := Nat.gcd_dvd_left _ _
  have h3 := Nat.le_of_dvd (by omega) h1
  have h4 : Nat.gcd N 2 ≠ 0 := by
    intro e
    rw [e] at h1
    have := Nat.eq_zero_of_zero_dvd h1
    omega
  have : Nat.gcd N 2 = 1 ∨ Nat.gcd N 2 = 2 := by omega
  rcases this with e | e
  · exact e
  · rw [e] at h2
    omega
theorem mf_inj {N R Z : Nat} (ho : N % 2 = 1) (hR : R < N) (h : (R * 2 ^ 62) % N = (Z * 2 ^ 62) % N) : R = Z % N := by
  have hc : Nat.Coprime N (2 ^ 62) := cop2 ho 62
  generalize 2 ^ 62 = c at *
  have h1 : nt_cg (N : Int) ((R * c : Nat) : Int) ((Z * c : Nat) : Int) := nt_cg_nat h
  have h2 : (N : Int) ∣ ((R : Int) - (Z : Int)) * (c : Int) := by
    unfold nt_cg at h1
    rw [Int.natCast_mul, Int.natCast_mul, ← Int.sub_mul] at h1
    exact h1
  have h3 : N ∣ ((R : Int) - (Z : Int)).natAbs * c := by
    have := Int.natAbs_dvd_natAbs.mpr h2
    rw [Int.natAbs_mul] at this
    simpa using this
  have h4 : N ∣ ((R : Int) - (Z : Int)).natAbs := hc.dvd_of_dvd_mul_right h3
  have h5 : nt_cg (N : Int) (R : Int) (Z : Int) := Int.dvd_natAbs.mp (Int.ofNat_dvd.mpr h4)
  have h6 := nt_cg_toNat h5
  rw [← h6, Nat.mod_eq_of_lt hR]
/-- what is left of a product -/
theorem red_sq {N R A : Nat} (ho : N % 2 = 1) (hR : R < N) (h : (R * 2 ^ 62) % N = (A * (2 ^ 124 % N)) % N) : R = A * 2 ^ 62 % N := by
  refine mf_inj ho hR ?_
  rw [h, Nat.mul_mod_mod, show (124 : Nat) = 62 + 62 from rfl, Nat.pow_add, Nat.mul_assoc]
theorem red_mul {N R u v : Nat} (ho : N % 2 = 1) (hR : R < N) (h : (R * 2 ^ 62) % N = (u * 2 ^ 62 % N * (v * 2 ^ 62 % N)) % N) : R = u * v * 2 ^ 62 % N := by
  refine mf_inj ho hR ?_
  rw [h, ← Nat.mul_mod]
  have e : u * 2 ^ 62 * (v * 2 ^ 62) = u * v * 2 ^ 62 * 2 ^ 62 := by
    generalize 2 ^ 62 = c
    grind
  rw [e]
theorem red_one {N R u : Nat} (ho : N % 2 = 1) (hR : R < N) (h : (R * 2 ^ 62) % N = (u * 2 ^ 62 % N * 1) % N) : R = u % N := by
  refine mf_inj ho hR ?_
  rw [h, Nat.mul_one, Nat.mod_mod]
theorem red_two {N R S A B : Nat} (ho : N % 2 = 1) (hR : R < N) (hS : (S * 2 ^ 62) % N = (A * B) % N) (h : (R * 2 ^ 62) % N = (S * (2 ^ 124 % N)) % N) : R = A * B % N := by
  have e := red_sq ho hR h
  rw [e, hS]
theorem pw_even (x q : Nat) : x ^ q * x ^ q = x ^ (2 * q) := by
  rw [← Nat.pow_add]
  congr 1
  omega
theorem bit_div (E j : Nat) : E / 2 ^ j = 2 * (E / 2 ^ (j + 1)) + E / 2 ^ j % 2 := by
  have e : E / 2 ^ (j + 1) = E / 2 ^ j / 2 := by rw [Nat.pow_succ, Nat.div_div_eq_div_mul]
  rw [e]
  omega
theorem shN {n k : Nat} (h : n < 2 ^ 64) (hk : k < 64) : ((lN n).toUInt64 >>> ((nI k).toInt64.toUInt64 &&& Int64.toUInt64 63)).toInt64 = lN (n / 2 ^ k) := wb_shr h hk
theorem nI_m1 {j : Nat} (h : 0 < j) : nI j - 1 = nI (j - 1) := by
  obtain ⟨i, rfl⟩ : ∃ i, j = i + 1 := ⟨j - 1, by omega⟩
  exact nI_pred i
theorem nI_neg {j : Nat} (hj : j < 2 ^ 31) : nI j - 1 < 0 ↔ j = 0 := by
  constructor
  · intro h
    apply Classical.byContradiction
    intro hne
    rw [nI_m1 (by omega)] at h
    exact absurd h (nI_pos (by omega))
  · intro h
    subst h
    decide
theorem i_add_neg (x : Int32) : x + (-1) = x - 1 := by
  rw [Int32.sub_eq_add_neg]
theorem l_back {A B N : Nat} (h : B ≤ N) : lN A - lN B + lN N = lN (A + (N - B)) := by
  have e : lN N = lN (N - B) + lN B := by
    rw [lN_add]
    congr 1
    omega
  rw [e, ← lN_add, ← Int64.add_assoc, Int64.add_comm (lN A - lN B), Int64.add_assoc, Int64.sub_add_cancel, Int64.add_comm]
theorem left_mod {U N : Nat} : (2 * (U / 2 % N) + U % 2) % N = U % N := by
  rw [Nat.add_mod, Nat.mul_mod_mod, ← Nat.add_mod]
  congr 1
  omega
theorem sh1 {n : Nat} (h : n < 2 ^ 64) : ((lN n).toUInt64 >>> ((1 : Int32).toInt64.toUInt64 &&& Int64.toUInt64 63)).toInt64 = lN (n / 2) := by
  have := wb_shr (k := 1) h (by decide)
  rw [Nat.pow_one] at this
  exact this
theorem pw_both (x y a b : Nat) : (x ^ a * y ^ b) * (x ^ a * y ^ b) = x ^ (2 * a) * y ^ (2 * b) := by
  rw [← pw_even, ← pw_even]
  grind
theorem sq_one {X N k : Nat} : (X ^ 2 ^ k % N * (X ^ 2 ^ k % N)) % N = X ^ 2 ^ (k + 1) % N := by
  rw [← Nat.mul_mod, ← Nat.pow_add]
  congr 2
  rw [Nat.pow_succ]
  omega
def witN (j : Nat) : Nat := [2, 3, 5, 7, 11, 13, 17, 19, 23].getD j 0
def wit (j : Nat) : Int32 := nI (witN j)
theorem witN_lt (j : Nat) : witN j < 24 := by
  have h : ∀ j, j < 9 → witN j < 24 := by decide
  by_cases hj : j < 9
  · exact h j hj
  · unfold witN
    rw [List.getD_eq_getElem?_getD, List.getElem?_eq_none (by simp; omega)]
    decide
theorem wit_A {j : Nat} (h : j < 9) : witN j ∈ nt_A := by
  have key : ∀ j, j < 9 → witN j ∈ nt_A := by decide
  exact key j h
theorem Cl_of {N : Nat} (h : ∀ j, j < 9 → witN j % N = 0 ∨ nt_sp (witN j) N) : nt_Cl N := by
  intro a ha
  have key : ∀ a, a ∈ nt_A → ∃ j, j < 9 ∧ witN j = a := by decide
  obtain ⟨j, hj, rfl⟩ := key a ha
  exact h j hj
theorem sp_iff {w N t d : Nat} (h : N - 1 = 2 ^ t * d) (hd : d % 2 = 1) : ((w % N) ^ d % N = 1 ∨ ∃ i, i < t ∧ ((w % N) ^ d % N) ^ 2 ^ i % N = N - 1) ↔ nt_sp w N := by
  have e1 : (w % N) ^ d % N = w ^ d % N := (Nat.pow_mod w d N).symm
  have e2 : ∀ i, ((w % N) ^ d % N) ^ 2 ^ i % N = w ^ (2 ^ i * d) % N := by
    intro i
    rw [e1, ← Nat.pow_mod, ← Nat.pow_mul, Nat.mul_comm]
  constructor
  · intro hh
    refine ⟨d, t, h, hd, ?_⟩
    rcases hh with hh | ⟨i, hi, hh⟩
    · exact Or.inl (by rw [← e1]; exact hh)
    · exact Or.inr ⟨i, hi, by rw [← e2]; exact hh⟩
  · rintro ⟨o, f, e, ho, hh⟩
    rw [e] at h
    obtain ⟨rfl, rfl⟩ := sp_uniq h ho hd
    rcases hh with hh | ⟨i, hi, hh⟩
    · exact Or.inl (by rw [e1]; exact hh)
    · exact Or.inr ⟨i, hi, by rw [e2]; exact hh⟩
theorem dbl_124 {N : Nat} : 2 ^ 62 % N * 2 ^ 62 % N = 2 ^ 124 % N := by
  rw [Nat.mod_mul_mod, ← Nat.pow_add]
/-! a group -/
abbrev gp_ws (h0 mF mE P f1 k1 Q f2 k2 G : Nat) : va_W := [(h0, .inr (1, [.ref mF, .ref mE, .long (lN G), .long (lN (G ^ (Q - 1) % P))])), (mF, .inr (0, md_fs P f1 k1)), (mE, .inr (0, md_fs Q f2 k2))]
def gp_ok (P f1 k1 Q f2 k2 G : Nat) : Prop := md_ok P f1 k1 ∧ md_ok Q f2 k2 ∧ P = 2 * Q + 1 ∧ 2 ≤ G ∧ G < P ∧ G ^ Q % P = 1
/-- in the group -/
def in_gp (P Q : Nat) (x : Int64) : Prop := ∃ Y, x = lN Y ∧ 1 ≤ Y ∧ Y < P ∧ Y ^ Q % P = 1
def in_ex (Q : Nat) (x : Int64) : Prop := ∃ Y, x = lN Y ∧ Y < Q
theorem l_pos {x : Int64} (h : ¬ lg_cmp x 1 < 0) : ∃ Y, Y < 2 ^ 63 ∧ 1 ≤ Y ∧ x = lN Y := by
  have h1 : ¬ x < 1 := fun hh => h ((lg_cmp_lt _ _).mpr hh)
  have h0 : ¬ x < 0 := by
    intro hh
    apply h1
    have a1 := Int64.lt_iff_toInt_lt.mp hh
    apply Int64.lt_iff_toInt_lt.mpr
    have e0 : (0 : Int64).toInt = 0 := by decide
    have e1 : (1 : Int64).toInt = 1 := by decide
    omega
  obtain ⟨Y, hY, e⟩ := pk_lOf h0
  refine ⟨Y, hY, ?_, e⟩
  apply Classical.byContradiction
  intro hn
  have : Y = 0 := by omega
  subst this
  rw [e] at h1
  exact h1 (by decide)
theorem l_nn {x : Int64} (h : ¬ lg_cmp x 0 < 0) : ∃ Y, Y < 2 ^ 63 ∧ x = lN Y := pk_lOf (fun hh => h ((lg_cmp_lt _ _).mpr hh))
theorem ln_neg {Y : Nat} (h : Y < 2 ^ 63) : ¬ lg_cmp (lN Y) 0 < 0 := by
  intro hh
  have h1 := (lg_cmp_lt _ _).mp hh
  have e : lN Y < lN 0 := h1
  have := (pk_lLT h (by omega)).mp e
  omega
theorem ln_lt1 {Y : Nat} (h : Y < 2 ^ 63) : lg_cmp (lN Y) 1 < 0 ↔ Y = 0 := by
  have e : (1 : Int64) = lN 1 := rfl
  rw [e, ln_cmp_lt h (by omega)]
  omega
theorem ln_inj {a b : Nat} (ha : a < 2 ^ 63) (hb : b < 2 ^ 63) (h : lN a = lN b) : a = b := (pk_lEQ ha hb).mp h
theorem cmpge {k : Nat} (h : k < 2 ^ 63) (c : Nat) (hc : c < 2 ^ 63) : 0 ≤ lg_cmp (lN k) (lN c) ↔ c ≤ k := cmpg h c hc rfl
def gp_ok0 (P f1 k1 Q f2 k2 G : Nat) : Prop := md_ok P f1 k1 ∧ md_ok Q f2 k2 ∧ P = 2 * Q + 1 ∧ 2 ≤ G ∧ G < P
/-- what Group.of asks -/
def of_cond (x1 x2 : Int64) : Prop := ∃ P G, x1 = lN P ∧ x2 = lN G ∧ 7 ≤ P ∧ P ≤ 2 ^ 61 ∧ P % 4 = 3 ∧ nt_Cl (P / 2) ∧ nt_Cl P ∧ 2 ≤ G ∧ G < P ∧ G ^ (P / 2) % P = 1
abbrev GT : Type := Nat × Nat × Nat × Nat × Nat × Nat × Nat × Nat × Nat × Nat
def of_post (x1 x2 : Int64) (r : Option Nat) (u : Option GT) : Prop := match u with
  | none => r = none ∧ ¬ of_cond x1 x2
  | some (a, _, _, P, f1, k1, Q, f2, k2, G) => r = some a ∧ x1 = lN P ∧ x2 = lN G ∧ gp_ok P f1 k1 Q f2 k2 G ∧ of_cond x1 x2
def of_B (dC : Nat → ClassId) (dI : Nat → Nat → Nat) (cl : List vw_C) (sz : Nat) (u : Option GT) (t : State) : Prop := match u with
  | none => True
  | some (a, mF, mE, P, f1, k1, Q, f2, k2, G) => va_P (dC, dI) cl (gp_ws a mF mE P f1 k1 Q f2 k2 G) t.heap ∧ va_D (fun q => sz ≤ q) (gp_ws a mF mE P f1 k1 Q f2 k2 G)
theorem l_ge {x y : Int64} (c : Nat) (hc : c < 2 ^ 62) (hy : y = lN c) (h : ¬ lg_cmp x y < 0) : ∃ Y, Y < 2 ^ 63 ∧ c ≤ Y ∧ x = lN Y := by
  have h1 : ¬ x < y := fun hh => h ((lg_cmp_lt _ _).mpr hh)
  have hyi : y.toInt = (c : Int) := by rw [hy]; exact pk_lT (by omega)
  have h0 : ¬ x < 0 := by
    intro hh
    apply h1
    have a1 := Int64.lt_iff_toInt_lt.mp hh
    apply Int64.lt_iff_toInt_lt.mpr
    have e0 : (0 : Int64).toInt = 0 := by decide
    omega
  obtain ⟨Y, hY, e⟩ := pk_lOf h0
  refine ⟨Y, hY, ?_, e⟩
  apply Classical.byContradiction
  intro hn
  apply h1
  rw [e, hy]
  exact (pk_lLT hY (by omega)).mpr (by omega)
theorem cmp_gt {k : Nat} (h : k < 2 ^ 63) (c : Nat) (hc : c < 2 ^ 63) {x : Int64} (hx : x = lN c) : 0 < lg_cmp (lN k) x ↔ c < k := by
  rw [hx, lg_cmp_gt, pk_lLT hc h]
theorem m_and3 {n : Nat} (h : n < 2 ^ 64) : lN n &&& 3 = lN (n % 4) := wb_mask (k := 2) h (by decide)
theorem of_lt {x1 x2 : Int64} {c : Nat} {y : Int64} (hy : y = lN c) (hc : c ≤ 7) (h : lg_cmp x1 y < 0) (h7 : 7 ≤ c) : ¬ of_cond x1 x2 := by
  rintro ⟨P, G, rfl, -, h1, h2, -⟩
  rw [hy] at h
  have := (ln_cmp_lt (by omega) (by omega)).mp h
  omega
theorem va_two {D : va_G} {cl : List vw_C} {a b : Nat × va_E} {H : Heap} (h1 : va_P D cl [a] H) (h2 : va_P D cl [b] H) : va_P D cl [a, b] H := va_P.app h1 h2
theorem va_keptS {D : va_G} {cl : List vw_C} {ws : va_W} {A : Nat → Prop} {H0 H : Heap} {locs : List Loc} (hS : va_S A H0 H locs) (hP : va_P D cl ws H0) (hn : ∀ (k : Nat) (q : Nat × va_E), ws[k]? = some q → q.1 < H0.size ∧ ¬ A q.1) : va_P D cl ws H := hP.kept (fun k q hk => hS.2.1 q.1 (hn k q hk).1 (hn k q hk).2)
theorem c61 : (2305843009213693952 : Int64) = lN 2305843009213693952 := by decide
/-! SHA-256 -/
def tn (x y : Int32) : Int32 := (x.toUInt32 >>> (y.toUInt32 &&& Int32.toUInt32 31)).toInt32 ||| (x <<< ((32 - y) &&& 31))
def s0f (x : Int32) : Int32 := (tn x 7 ^^^ tn x 18) ^^^ (x.toUInt32 >>> ((3 : Int32).toUInt32 &&& Int32.toUInt32 31)).toInt32
def s1f (x : Int32) : Int32 := (tn x 17 ^^^ tn x 19) ^^^ (x.toUInt32 >>> ((10 : Int32).toUInt32 &&& Int32.toUInt32 31)).toInt32
def w_hi (x : Int64) : Int32 := ((x.toUInt64 >>> ((32 : Int32).toInt64.toUInt64 &&& Int64.toUInt64 63)).toInt64).toInt32
/-- the first sixteen words of a block -/
def sp1 (sc : Nat → Int32) (w : Nat → Int64) (fr : Nat) : Nat → Nat → Int32
  | 0 => sc
  | k + 1 => upd (upd (sp1 sc w fr k) (2 * k) (w_hi (w (fr + k)))) (2 * k + 1) ((w (fr + k)).toInt32)
/-- and the others -/
def swn (f : Nat → Int32) : Nat → Nat → Int32
  | 0 => f
  | n + 1 => upd (swn f n) (16 + n) (swn f n n + s0f (swn f n (n + 1)) + swn f n (n + 9) + s1f (swn f n (n + 14)))
theorem nI_subI {a b : Nat} (h : b ≤ a) {x : Int32} (hx : x = nI b) : nI a - x = nI (a - b) := by rw [hx, pk_sub h]
theorem vp_lit {i : Int32} {n : Nat} (h : decide (¬ (i < 0 ∨ n ≤ i.toNatClampNeg)) = true) : vp_in i n := by
  unfold vp_in
  exact of_decide_eq_true h
def kR (j : Nat) : Int32 := ([1116352408, 1899447441, (-1245643825), (-373957723), 961987163, 1508970993, (-1841331548), (-1424204075), (-670586216), 310598401, 607225278, 1426881987, 1925078388, (-2132889090), (-1680079193), (-1046744716), (-459576895), (-272742522), 264347078, 604807628, 770255983, 1249150122, 1555081692, 1996064986, (-1740746414), (-1473132947), (-1341970488), (-1084653625), (-958395405), (-710438585), 113926993, 338241895, 666307205, 773529912, 1294757372, 1396182291, 1695183700, 1986661051, (-2117940946), (-1838011259), (-1564481375), (-1474664885), (-1035236496), (-949202525), (-778901479), (-694614492), (-200395387), 275423344, 430227734, 506948616, 659060556, 883997877, 958139571, 1322822218, 1537002063, 1747873779, 1955562222, 2024104815, (-2067236844), (-1933114872), (-1866530822), (-1538233109), (-1090935817), (-965641998)] : List Int32).getD j 0
def kS (j : Nat) : Int32 := ([1779033703, (-1150833019), 1013904242, (-1521486534), 1359893119, (-1694144372), 528734635, 1541459225] : List Int32).getD j 0
/-- one round of SHA-256 -/
def rF (kk ww : Int32) (x : Nat → Int32) : Int32 := (((x 7 + ((tn (x 4) 6 ^^^ tn (x 4) 11) ^^^ tn (x 4) 25)) + ((x 4 &&& x 5) ^^^ ((x 4 ^^^ (-1)) &&& x 6))) + kk) + ww
def rS (x : Nat → Int32) : Int32 := ((tn (x 0) 2 ^^^ tn (x 0) 13) ^^^ tn (x 0) 22) + (((x 0 &&& x 1) ^^^ (x 0 &&& x 2)) ^^^ (x 1 &&& x 2))
def rN (kk ww : Int32) (x : Nat → Int32) : Nat → Int32
  | 0 => rF kk ww x + rS x
  | 1 => x 0
  | 2 => x 1
  | 3 => x 2
  | 4 => x 3 + rF kk ww x
  | 5 => x 4
  | 6 => x 5
  | _ => x 6
def mx (sc st : Nat → Int32) : Nat → Nat → Int32
  | 0 => st
  | i + 1 => rN (kR i) (sc i) (mx sc st i)
/-- a block's end: what the rounds gave, added -/
def mxa (sc st : Nat → Int32) : Nat → Nat → Int32
  | 0 => st
  | i + 1 => upd (mxa sc st i) i (st i + mx sc st 64 i)
/-- the two static tables of the class's hash -/
def ha_Z (rA sA : Nat) (A : Nat → Prop) (U : State) (H : Heap) : Prop := va_Z "BallotBoard$Hash" "ROUNDS" "[I" (.ref rA) A U H ∧ va_T .int rA 64 (fun j => .int (kR j)) A U H ∧ va_Z "BallotBoard$Hash" "START" "[I" (.ref sA) A U H ∧ va_T .int sA 8 (fun j => .int (kS j)) A U H
theorem ha_Z.moved {rA sA : Nat} {A : Nat → Prop} {u U : State} {H : Heap} (hvm : u.vm.Alike U.vm) (h : ha_Z rA sA A u H) : ha_Z rA sA A U H := ⟨h.1.moved hvm, h.2.1.moved hvm, h.2.2.1.moved hvm, h.2.2.2.moved hvm⟩
theorem ha_Z.kept {rA sA : Nat} {A : Nat → Prop} {U : State} {H H1 : Heap} (h : ha_Z rA sA A U H) (hq : ∀ a : Nat, a < H.size → ¬ A a → H1[a]? = H[a]?) : ha_Z rA sA A U H1 := ⟨h.1.kept hq, h.2.1.kept hq, h.2.2.1.kept hq, h.2.2.2.kept hq⟩
theorem ha_Z.narrow {rA sA : Nat} {A B : Nat → Prop} {U : State} {H : Heap} (h : ha_Z rA sA A U H) (hAB : ∀ q, B q → A q) : ha_Z rA sA B U H := ⟨h.1.narrow hAB, h.2.1.narrow hAB, h.2.2.1.narrow hAB, h.2.2.2.narrow hAB⟩
