/-! strong pseudoprimes, and what they say of a prime factor -/
def nt_sp (a n : Nat) : Prop := ∃ o f, n - 1 = 2 ^ f * o ∧ o % 2 = 1 ∧ (a ^ o % n = 1 ∨ ∃ i, i < f ∧ a ^ (2 ^ i * o) % n = n - 1)

theorem nt_odd_part : ∀ y : Nat, 0 < y → ∃ e x, y = 2 ^ e * x ∧ x % 2 = 1 := by
  intro y
  induction y using Nat.strongRecOn with
  | ind y ih =>
    intro hy
    by_cases h : y % 2 = 1
    · exact ⟨0, y, by simp, h⟩
    · obtain ⟨e, x, h1, h2⟩ := ih (y / 2) (by omega) (by omega)
      refine ⟨e + 1, x, ?_, h2⟩
      have : y = 2 * (y / 2) := by omega
      rw [this, h1, Nat.pow_succ]
      grind

theorem nt_cg_dvd {s n a b : Int} (h : s ∣ n) (k : nt_cg n a b) : nt_cg s a b := Int.dvd_trans h k

theorem nt_cg_of_mod {s n x y : Nat} (hd : s ∣ n) (h : x % n = y % n) : nt_cg (s : Int) x y := nt_cg_dvd (Int.ofNat_dvd.mpr hd) (nt_cg_nat h)

theorem nt_pow_gcd {s : Int} {a : Int} : ∀ x y : Nat, nt_cg s (a ^ x) 1 → nt_cg s (a ^ y) 1 → nt_cg s (a ^ (Nat.gcd x y)) 1 := by
  intro x
  induction x using Nat.strongRecOn with
  | ind x ih =>
    intro y hx hy
    by_cases h0 : x = 0
    · subst h0
      rw [Nat.gcd_zero_left]
      exact hy
    · rw [Nat.gcd_rec]
      refine ih (y % x) (Nat.mod_lt _ (by omega)) x ?_ hx
      have hd := Nat.div_add_mod y x
      have h1 : a ^ y = (a ^ x) ^ (y / x) * a ^ (y % x) := by
        rw [← Int.pow_mul, ← Int.pow_add, hd]
      rw [h1] at hy
      have h2 := nt_cg_mul (nt_cg_pow hx (y / x)) (nt_cg_refl s (a ^ (y % x)))
      rw [Int.one_pow, Int.one_mul] at h2
      exact nt_cg_trans (nt_cg_symm h2) hy

theorem nt_neg1_pow (x : Nat) : ((-1 : Int)) ^ x = nt_sgn x := by
  induction x with
  | zero => rfl
  | succ x ih =>
    rw [Int.pow_succ, ih, nt_sgn_add]
    rfl

theorem nt_sgn_pow_odd (m o : Nat) (h : o % 2 = 1) : (nt_sgn m) ^ o = nt_sgn m := by
  have : nt_sgn m = 1 ∨ nt_sgn m = -1 := by
    unfold nt_sgn
    split
    · exact Or.inl rfl
    · exact Or.inr rfl
  rcases this with e | e
  · rw [e, Int.one_pow]
  · rw [e, nt_neg1_pow]
    unfold nt_sgn
    rw [if_neg (by omega)]

theorem nt_one_ne {s : Nat} (hs : 3 ≤ s) : ¬ nt_cg (s : Int) 1 (-1) := by
  unfold nt_cg
  intro h
  have h1 : (s : Int) ∣ ((2 : Nat) : Int) := by simpa using h
  have := Nat.le_of_dvd (by omega) (Int.ofNat_dvd.mp h1)
  omega

theorem nt_sgn_cg {s : Nat} (hs : 3 ≤ s) {m k : Nat} (h : nt_cg (s : Int) (nt_sgn m) (nt_sgn k)) : nt_sgn m = nt_sgn k := by
  unfold nt_sgn at *
  split at h <;> split at h <;> rename_i h1 h2 <;> simp only [h1, h2, if_pos, if_neg, ite_true, ite_false]
  · exact absurd h (nt_one_ne hs)
  · exact absurd (nt_cg_symm h) (nt_one_ne hs)

/-- the exponent j at which the powers of a come to -1 (0 if they begin at 1) is one for all prime factors -/
theorem nt_sp_chi {a n : Nat} (ha0 : 0 < a) (hn : 2 < n) (h : nt_sp a n) : ∃ j, ∀ r, nt_prime r → r % 2 = 1 → r ∣ n → ¬ r ∣ a → ∀ e x, r - 1 = 2 ^ e * x → x % 2 = 1 → j ≤ e ∧ nt_chi a r = (if j = e then -1 else 1) := by
  obtain ⟨o, f, hof, ho, hc⟩ := h
  rcases hc with h1 | ⟨i, hi, h1⟩
  · refine ⟨0, ?_⟩
    intro r hr hr2 hd hra e x he hx
    have hr3 := hr.1
    have he0 : e ≠ 0 := by
      intro h0
      subst h0
      rw [Nat.pow_zero, Nat.one_mul] at he
      omega
    refine ⟨Nat.zero_le _, ?_⟩
    rw [if_neg (by omega)]
    have hE := nt_euler hr hr2 ha0 hra
    have h2 : nt_cg (r : Int) ((a : Int) ^ o) 1 := by
      have := nt_cg_of_mod (s := r) (n := n) (x := a ^ o) (y := 1) hd (by rw [h1, Nat.mod_eq_of_lt (by omega)])
      push_cast at this
      exact this
    have h3 := nt_cg_pow hE o
    have h4 := nt_cg_pow h2 (r / 2)
    rw [← Int.pow_mul, Nat.mul_comm, Int.pow_mul] at h3
    rw [Int.one_pow] at h4
    have h5 := nt_cg_trans (nt_cg_symm h4) h3
    unfold nt_chi at h5 ⊢
    rw [nt_sgn_pow_odd _ _ ho] at h5
    have h6 : (1 : Int) = nt_sgn 0 := rfl
    rw [h6] at h5 ⊢
    exact (nt_sgn_cg (by omega) h5).symm
  · refine ⟨i + 1, ?_⟩
    intro r hr hr2 hd hra e x he hx
    have hr3 := hr.1
    have he0 : e ≠ 0 := by
      intro h0
      subst h0
      rw [Nat.pow_zero, Nat.one_mul] at he
      omega
    obtain ⟨e', rfl⟩ : ∃ e', e = e' + 1 := ⟨e - 1, by omega⟩
    have hhalf : r / 2 = 2 ^ e' * x := by
      rw [Nat.pow_succ] at he
      have : 2 ^ e' * 2 * x = 2 * (2 ^ e' * x) := by grind
      omega
    have hE := nt_euler hr hr2 ha0 hra
    rw [hhalf] at hE
    have h2 : nt_cg (r : Int) ((a : Int) ^ (2 ^ i * o)) (-1) := by
      have h7 := nt_cg_of_mod (s := r) (n := n) (x := a ^ (2 ^ i * o)) (y := n - 1) hd (by rw [h1, Nat.mod_eq_of_lt (by omega)])
      push_cast at h7
      refine nt_cg_trans h7 ?_
      unfold nt_cg
      have h8 : ((n - 1 : Nat) : Int) - -1 = (n : Int) := by omega
      rw [h8]
      exact Int.ofNat_dvd.mpr hd
    have hsx : ((-1 : Int)) ^ x = -1 := by
      rw [nt_neg1_pow]
      unfold nt_sgn
      rw [if_neg (by omega)]
    by_cases hlt : e' < i
    · exfalso
      obtain ⟨w, rfl⟩ : ∃ w, i = e' + (w + 1) := ⟨i - e' - 1, by omega⟩
      have h3 := nt_cg_pow h2 x
      have h4 := nt_cg_pow hE (2 ^ (w + 1) * o)
      rw [hsx, ← Int.pow_mul] at h3
      rw [← Int.pow_mul] at h4
      have h5 : 2 ^ (e' + (w + 1)) * o * x = 2 ^ e' * x * (2 ^ (w + 1) * o) := by
        rw [Nat.pow_add]
        grind
      rw [h5] at h3
      have h6 := nt_cg_trans (nt_cg_symm h4) h3
      have h7 : (nt_chi a r) ^ (2 ^ (w + 1) * o) = 1 := by
        rw [Nat.pow_succ, show 2 ^ w * 2 * o = 2 * (2 ^ w * o) by grind, Int.pow_mul]
        have : (nt_chi a r) ^ 2 = 1 := by
          unfold nt_chi nt_sgn
          split <;> rfl
        rw [this, Int.one_pow]
      rw [h7] at h6
      exact nt_one_ne (by omega) h6
    · refine ⟨by omega, ?_⟩
      have h4 := nt_cg_pow hE o
      have h8 : (nt_chi a r) ^ o = nt_chi a r := nt_sgn_pow_odd _ _ ho
      rw [h8, ← Int.pow_mul] at h4
      obtain ⟨w, rfl⟩ : ∃ w, e' = i + w := ⟨e' - i, by omega⟩
      have h5 : 2 ^ (i + w) * x * o = 2 ^ i * o * (2 ^ w * x) := by
        rw [Nat.pow_add]
        grind
      rw [h5, Int.pow_mul] at h4
      have h3 := nt_cg_pow h2 (2 ^ w * x)
      have h6 := nt_cg_trans (nt_cg_symm h3) h4
      rw [nt_neg1_pow] at h6
      have h9 := nt_sgn_cg (by omega) h6
      show nt_chi a r = _
      unfold nt_chi
      rw [← h9]
      by_cases hw : w = 0
      · subst hw
        have e1 : nt_sgn (2 ^ 0 * x) = -1 := by
          unfold nt_sgn
          rw [Nat.pow_zero, Nat.one_mul, if_neg (by omega)]
        rw [e1, if_pos (by omega)]
      · obtain ⟨v, rfl⟩ : ∃ v, w = v + 1 := ⟨w - 1, by omega⟩
        have e1 : nt_sgn (2 ^ (v + 1) * x) = 1 := by
          unfold nt_sgn
          rw [Nat.pow_succ, show 2 ^ v * 2 * x = 2 * (2 ^ v * x) by grind, if_pos (by omega)]
        rw [e1, if_neg (by omega)]

theorem nt_sp_fermat {a n s : Nat} (hn : 2 < n) (h : nt_sp a n) (hd : s ∣ n) : nt_cg (s : Int) ((a : Int) ^ (n - 1)) 1 := by
  obtain ⟨o, f, hof, ho, hc⟩ := h
  rcases hc with h1 | ⟨i, hi, h1⟩
  · have h2 := nt_cg_of_mod (s := s) (n := n) (x := a ^ o) (y := 1) hd (by rw [h1, Nat.mod_eq_of_lt (by omega)])
    push_cast at h2
    have h3 := nt_cg_pow h2 (2 ^ f)
    rw [Int.one_pow, ← Int.pow_mul, Nat.mul_comm, ← hof] at h3
    exact h3
  · have h2 : nt_cg (s : Int) ((a : Int) ^ (2 ^ i * o)) (-1) := by
      have h7 := nt_cg_of_mod (s := s) (n := n) (x := a ^ (2 ^ i * o)) (y := n - 1) hd (by rw [h1, Nat.mod_eq_of_lt (by omega)])
      push_cast at h7
      refine nt_cg_trans h7 ?_
      unfold nt_cg
      have h8 : ((n - 1 : Nat) : Int) - -1 = (n : Int) := by omega
      rw [h8]
      exact Int.ofNat_dvd.mpr hd
    obtain ⟨w, rfl⟩ : ∃ w, f = i + (w + 1) := ⟨f - i - 1, by omega⟩
    have h3 := nt_cg_pow h2 (2 ^ (w + 1))
    rw [← Int.pow_mul, nt_neg1_pow] at h3
    have h4 : 2 ^ i * o * 2 ^ (w + 1) = n - 1 := by
      rw [hof, Nat.pow_add]
      grind
    have h5 : nt_sgn (2 ^ (w + 1)) = 1 := by
      unfold nt_sgn
      rw [Nat.pow_succ, if_pos (by omega)]
    rw [h4, h5] at h3
    exact h3

theorem nt_sp_gcd {a n s : Nat} (hn : 2 < n) (h : nt_sp a n) (hs : nt_prime s) (hs2 : s % 2 = 1) (hd : s ∣ n) (ha : ¬ s ∣ a) : nt_cg (s : Int) ((a : Int) ^ (Nat.gcd (s - 1) (n - 1))) 1 :=
  nt_pow_gcd _ _ (nt_fermat hs hs2 ha) (nt_sp_fermat hn h hd)
