/-! the class's test and the reference's say the same of p and q -/
theorem nt_sp_nd {a n : Nat} (ha : 2 ≤ a) (hn : 2 < n) (h : nt_sp a n) : ¬ a ∣ n := by
  intro hd
  obtain ⟨o, f, h1, ho, h2⟩ := h
  have key : ∀ e, 0 < e → a ∣ a ^ e % n := by
    intro e he
    refine (Nat.dvd_mod_iff hd).mpr ?_
    obtain ⟨k, rfl⟩ : ∃ k, e = k + 1 := ⟨e - 1, by omega⟩
    exact ⟨a ^ k, by rw [Nat.pow_succ, Nat.mul_comm]⟩
  rcases h2 with h2 | ⟨i, hi, h2⟩
  · have := key o (by omega)
    rw [h2] at this
    have := Nat.dvd_one.mp this
    omega
  · have h3 := key (2 ^ i * o) (Nat.mul_pos (Nat.two_pow_pos i) (by omega))
    rw [h2] at h3
    have h4 : a ∣ 1 := by
      have e : n = (n - 1) + 1 := by omega
      rw [e] at hd
      exact (Nat.dvd_add_right h3).mp hd
    have := Nat.dvd_one.mp h4
    omega
theorem nt_prime_sp {n b : Nat} (hn : nt_prime n) (h2 : n % 2 = 1) (hb : ¬ n ∣ b) : nt_sp b n := by
  have hn2 := hn.1
  obtain ⟨f, o, h1, ho⟩ := nt_odd_part (n - 1) (by omega)
  refine ⟨o, f, h1, ho, ?_⟩
  have hF := nt_fermat hn h2 hb
  have key : ∀ j, nt_cg (n : Int) ((b : Int) ^ (2 ^ j * o)) 1 → nt_cg (n : Int) ((b : Int) ^ o) 1 ∨ ∃ i, i < j ∧ nt_cg (n : Int) ((b : Int) ^ (2 ^ i * o)) (-1) := by
    intro j
    induction j with
    | zero =>
      intro h
      left
      rw [Nat.pow_zero, Nat.one_mul] at h
      exact h
    | succ j ih =>
      intro h
      have e : (b : Int) ^ (2 ^ (j + 1) * o) = (b : Int) ^ (2 ^ j * o) * (b : Int) ^ (2 ^ j * o) := by
        rw [← Int.pow_add]
        congr 1
        rw [Nat.pow_succ]
        grind
      rw [e] at h
      unfold nt_cg at h
      have hd : (n : Int) ∣ ((b : Int) ^ (2 ^ j * o) - 1) * ((b : Int) ^ (2 ^ j * o) + 1) := by
        have e2 : ((b : Int) ^ (2 ^ j * o) - 1) * ((b : Int) ^ (2 ^ j * o) + 1) = (b : Int) ^ (2 ^ j * o) * (b : Int) ^ (2 ^ j * o) - 1 := by grind
        rw [e2]
        exact h
      rcases nt_dvd_mulZ hn hd with h1 | h1
      · rcases ih h1 with a | ⟨i, hi, a⟩
        · exact Or.inl a
        · exact Or.inr ⟨i, by omega, a⟩
      · refine Or.inr ⟨j, by omega, ?_⟩
        unfold nt_cg
        rw [Int.sub_neg]
        exact h1
  rw [h1] at hF
  rcases key f hF with a | ⟨i, hi, a⟩
  · left
    have a1 : b ^ o % n = 1 % n := by
      apply nt_cg_toNat
      push_cast
      exact a
    rw [a1, Nat.mod_eq_of_lt (by omega)]
  · refine Or.inr ⟨i, hi, ?_⟩
    unfold nt_cg at a
    rw [Int.sub_neg] at a
    have a1 : ((n : Nat) : Int) ∣ ((b ^ (2 ^ i * o) + 1 : Nat) : Int) := by
      push_cast
      exact a
    have a2 : n ∣ b ^ (2 ^ i * o) + 1 := Int.ofNat_dvd.mp a1
    generalize b ^ (2 ^ i * o) = y at *
    have a3 := Nat.div_add_mod y n
    have a4 : n ∣ y % n + 1 := by
      have e : y + 1 = n * (y / n) + (y % n + 1) := by omega
      rw [e] at a2
      exact (Nat.dvd_add_right ⟨y / n, rfl⟩).mp a2
    have a5 := Nat.le_of_dvd (by omega) a4
    have a6 := Nat.mod_lt y (by omega : 0 < n)
    omega
theorem nt_pock {q p : Nat} (hq : nt_prime q) (hqo : q % 2 = 1) (hp : p = 2 * q + 1) (h2 : nt_sp 2 p) (h3 : ¬ 3 ∣ p) : nt_prime p := by
  have hq2 := hq.1
  obtain ⟨s, hs, hsd⟩ := nt_factor p (by omega)
  have hs2 := hs.1
  have hso : s % 2 = 1 := by
    rcases Nat.mod_two_eq_zero_or_one s with e | e
    · exfalso
      obtain ⟨k, hk⟩ := hsd
      have : p % 2 = 0 := by rw [hk, Nat.mul_mod, e]; simp
      omega
    · exact e
  have hs3 : s ≠ 3 := by
    intro e
    rw [e] at hsd
    exact h3 hsd
  have hns : ¬ s ∣ 2 := by
    intro hd
    have := Nat.le_of_dvd (by omega) hd
    omega
  have hg := nt_sp_gcd (a := 2) (n := p) (by omega) h2 hs hso hsd hns
  have hg1 : Nat.gcd (s - 1) (p - 1) ∣ s - 1 := Nat.gcd_dvd_left _ _
  have hg2 : Nat.gcd (s - 1) (p - 1) ∣ p - 1 := Nat.gcd_dvd_right _ _
  generalize Nat.gcd (s - 1) (p - 1) = t at *
  have hqt : q ∣ t := by
    apply Classical.byContradiction
    intro hn
    have hc := nt_cop hq hn
    have e : p - 1 = 2 * q := by omega
    rw [e] at hg2
    have ht2 : t ∣ 2 := hc.symm.dvd_of_dvd_mul_right hg2
    have h4 := nt_pow_of_dvd hg ht2
    have h5 : nt_cg (s : Int) ((4 : Nat) : Int) ((1 : Nat) : Int) := h4
    have h6 : (s : Int) ∣ ((3 : Nat) : Int) := h5
    have h7 : s ∣ 3 := Int.ofNat_dvd.mp h6
    have h8 := Nat.le_of_dvd (by omega) h7
    have : s = 2 ∨ s = 3 := by omega
    rcases this with e | e
    · omega
    · exact hs3 e
  obtain ⟨k, hk⟩ := Nat.dvd_trans hqt hg1
  have hk0 : k ≠ 0 := by
    intro e
    rw [e, Nat.mul_zero] at hk
    omega
  have hk1 : k ≠ 1 := by
    intro e
    rw [e, Nat.mul_one] at hk
    omega
  have hk2 : q * 2 ≤ q * k := Nat.mul_le_mul_left q (by omega)
  have hle := Nat.le_of_dvd (by omega) hsd
  have : s = p := by omega
  rw [← this]
  exact hs
/-- the class's test -/
def nt_Cl (n : Nat) : Prop := ∀ a, a ∈ nt_A → a % n = 0 ∨ nt_sp a n
/-- the reference's test -/
def nt_Rf (n : Nat) : Prop := 2 ≤ n ∧ ((n < 38 ∧ ∀ c, 2 ≤ c → c < n → ¬ c ∣ n) ∨ ((∀ b, 2 ≤ b → b < 38 → ¬ b ∣ n) ∧ ∀ b, 2 ≤ b → b < 38 → nt_sp b n))
theorem nt_q_prime {q : Nat} (hqo : q % 2 = 1) (h3 : 3 ≤ q) (h60 : q < 2 ^ 60) (hq : nt_Cl q) (hp : nt_Cl (2 * q + 1)) : nt_prime q := by
  have hA2 : ∀ a, a ∈ nt_A → 2 ≤ a ∧ a ≤ 23 := by decide
  have hsmall : ∀ a, a ∈ nt_A → a < q → nt_sp a q ∧ ¬ a ∣ q := by
    intro a ha hlt
    have := hA2 a ha
    rcases hq a ha with h | h
    · rw [Nat.mod_eq_of_lt hlt] at h
      omega
    · exact ⟨h, nt_sp_nd (by omega) (by omega) h⟩
  by_cases h23 : q ≤ 23
  · obtain ⟨s, hs, hsd⟩ := nt_factor q (by omega)
    have hle := Nat.le_of_dvd (by omega) hsd
    by_cases he : s = q
    · rw [← he]
      exact hs
    · exfalso
      have hx : ∀ x, x < 24 → 2 ≤ x → ∃ a, a ∈ nt_A ∧ a ∣ x := by decide
      obtain ⟨a, ha, has⟩ := hx s (by omega) hs.1
      have hal := Nat.le_of_dvd (by have := hs.1; omega) has
      exact (hsmall a ha (by omega)).2 (Nat.dvd_trans has hsd)
  · have hpp : ∀ a, a ∈ nt_A → ¬ a ∣ 2 * q + 1 := by
      intro a ha
      have := hA2 a ha
      rcases hp a ha with h | h
      · rw [Nat.mod_eq_of_lt (by omega)] at h
        omega
      · exact nt_sp_nd (by omega) (by omega) h
    have hqq : ∀ a, a ∈ nt_A → nt_sp a q ∧ ¬ a ∣ q := fun a ha => hsmall a ha (by have := hA2 a ha; omega)
    have hq3 : ¬ 3 ∣ q := (hqq 3 (by decide)).2
    have hp3 : ¬ 3 ∣ 2 * q + 1 := hpp 3 (by decide)
    exact nt_F ⟨hqo, by omega, h60, by omega, hqq, hpp⟩
theorem nt_prime_Rf {n : Nat} (hn : nt_prime n) (h2 : n % 2 = 1) : nt_Rf n := by
  refine ⟨hn.1, ?_⟩
  by_cases h : n < 38
  · left
    refine ⟨h, ?_⟩
    intro c hc hlt hd
    rcases hn.2 c hd with e | e <;> omega
  · right
    have key : ∀ b, 2 ≤ b → b < 38 → ¬ b ∣ n := by
      intro b hb hb2 hd
      rcases hn.2 b hd with e | e <;> omega
    refine ⟨key, ?_⟩
    intro b hb hb2
    refine nt_prime_sp hn h2 ?_
    intro hd
    have := Nat.le_of_dvd (by omega) hd
    omega
theorem nt_Rf_Cl {n : Nat} (h : nt_Rf n) (h2 : n % 2 = 1) : nt_Cl n := by
  intro a ha
  have hA2 : ∀ a, a ∈ nt_A → 2 ≤ a ∧ a ≤ 23 := by decide
  have := hA2 a ha
  obtain ⟨hn, h | h⟩ := h
  · have hp : nt_prime n := nt_small_prime n hn (by
      intro d hd hdn
      apply Classical.byContradiction
      intro hd1
      have hd0 : d ≠ 0 := by
        intro e
        rw [e] at hdn
        have := Nat.eq_zero_of_zero_dvd hdn
        omega
      exact h.2 d (by omega) hd hdn)
    by_cases hd : n ∣ a
    · left
      exact Nat.mod_eq_zero_of_dvd hd
    · right
      exact nt_prime_sp hp h2 hd
  · right
    exact h.2 a (by omega) (by omega)
/-- what begin asks of p, on both sides -/
theorem nt_agree {p : Nat} (h7 : 7 ≤ p) (h61 : p ≤ 2 ^ 61) : (p % 4 = 3 ∧ nt_Cl (p / 2) ∧ nt_Cl p) ↔ (nt_Rf p ∧ nt_Rf ((p - 1) / 2)) := by
  constructor
  · rintro ⟨h4, hq, hp⟩
    have e : 2 * (p / 2) + 1 = p := by omega
    have hqp : nt_prime (p / 2) := nt_q_prime (by omega) (by omega) (by omega) hq (by rw [e]; exact hp)
    have h2 : nt_sp 2 p := by
      rcases hp 2 (by decide) with h | h
      · rw [Nat.mod_eq_of_lt (by omega)] at h
        omega
      · exact h
    have h3 : ¬ 3 ∣ p := by
      rcases hp 3 (by decide) with h | h
      · rw [Nat.mod_eq_of_lt (by omega)] at h
        omega
      · exact nt_sp_nd (by omega) (by omega) h
    have hpp : nt_prime p := nt_pock hqp (by omega) e.symm h2 h3
    have e2 : (p - 1) / 2 = p / 2 := by omega
    rw [e2]
    exact ⟨nt_prime_Rf hpp (by omega), nt_prime_Rf hqp (by omega)⟩
  · rintro ⟨hp, hq⟩
    have odd : ∀ n, 3 ≤ n → nt_Rf n → n % 2 = 1 := by
      intro n hn h
      obtain ⟨_, h | h⟩ := h
      · have := h.2 2 (by omega) (by omega)
        omega
      · have := h.1 2 (by omega) (by omega)
        omega
    have o1 := odd p (by omega) hp
    have o2 := odd ((p - 1) / 2) (by omega) hq
    have e2 : p / 2 = (p - 1) / 2 := by omega
    rw [e2]
    exact ⟨by omega, nt_Rf_Cl hq o2, nt_Rf_Cl hp o1⟩
