/-! what is known of n, and of its prime factors -/
def nt_hyp (n : Nat) : Prop := n % 2 = 1 ∧ 23 < n ∧ n < 2 ^ 60 ∧ n % 3 = 2 ∧ (∀ a, a ∈ nt_A → nt_sp a n ∧ ¬ a ∣ n) ∧ ∀ a, a ∈ nt_A → ¬ a ∣ 2 * n + 1

theorem nt_h_odd {n s : Nat} (h : nt_hyp n) (hd : s ∣ n) : s % 2 = 1 := by
  obtain ⟨c, rfl⟩ := hd
  have h1 := h.1
  rw [Nat.mul_mod] at h1
  rcases Nat.mod_two_eq_zero_or_one s with e | e
  · rw [e] at h1
    simp at h1
  · exact e
theorem nt_h_nd {n s a : Nat} (h : nt_hyp n) (hs : nt_prime s) (hd : s ∣ n) (ha : a ∈ nt_A) : ¬ s ∣ a := by
  intro hsa
  rcases (nt_A_prime a ha).2 s hsa with e | e
  · have := hs.1
    omega
  · exact (h.2.2.2.2.1 a ha).2 (e ▸ hd)
theorem nt_h_gt {n s : Nat} (h : nt_hyp n) (hs : nt_prime s) (hd : s ∣ n) : 29 ≤ s := by
  apply Classical.byContradiction
  intro hlt
  have hx : ∀ x, x < 29 → 2 ≤ x → (∃ a, a ∈ nt_A ∧ a ∣ x) := by decide
  obtain ⟨a, ha, hax⟩ := hx s (by omega) hs.1
  rcases hs.2 a hax with e | e
  · have := (nt_A_prime a ha).1
    omega
  · exact nt_h_nd h hs hd ha (e ▸ Nat.dvd_refl a)
theorem nt_h_pow {n s a : Nat} (h : nt_hyp n) (hs : nt_prime s) (hd : s ∣ n) (ha : a ∈ nt_A) : nt_cg (s : Int) ((a : Int) ^ (Nat.gcd (s - 1) (n - 1))) 1 :=
  nt_sp_gcd (by have := h.2.1; omega) (h.2.2.2.2.1 a ha).1 hs (nt_h_odd h hd) hd (nt_h_nd h hs hd ha)
theorem nt_pow_of_dvd {s : Int} {a : Int} {t x : Nat} (h : nt_cg s (a ^ t) 1) (hd : t ∣ x) : nt_cg s (a ^ x) 1 := by
  obtain ⟨c, rfl⟩ := hd
  rw [Int.pow_mul]
  have := nt_cg_pow h c
  rw [Int.one_pow] at this
  exact this
theorem nt_h_lat {n s X : Nat} (h : nt_hyp n) (hs : nt_prime s) (hd : s ∣ n) (hX : 1 ≤ X) (h2X : 2 * (X * X) < s) : 2 * nt_cnt nt_A X X ≤ Nat.gcd (s - 1) (n - 1) := by
  have hs2 := nt_h_odd h hd
  have hs29 := nt_h_gt h hs hd
  have hn := h.1
  have hn2 := h.2.1
  have hg : 2 ∣ Nat.gcd (s - 1) (n - 1) := Nat.dvd_gcd (by omega) (by omega)
  have hpos : 0 < Nat.gcd (s - 1) (n - 1) := Nat.gcd_pos_of_pos_left _ (by omega)
  exact nt_lattice hs hpos (by omega) hX h2X (fun a ha => nt_h_pow h hs hd ha)
theorem nt_h_not3 {n s : Nat} (h : nt_hyp n) : ¬ 3 ∣ Nat.gcd (s - 1) (n - 1) := by
  intro hd
  have h1 := Nat.dvd_trans hd (Nat.gcd_dvd_right _ _)
  have := h.2.2.2.1
  have := h.2.1
  omega
/-- the exponents of 2 and the nine symbols of two prime factors -/
theorem nt_h_chi {n : Nat} (h : nt_hyp n) {a : Nat} (ha : a ∈ nt_A) : ∃ j, ∀ r, nt_prime r → r ∣ n → ∀ e x, r - 1 = 2 ^ e * x → x % 2 = 1 → j ≤ e ∧ nt_chi a r = (if j = e then -1 else 1) := by
  obtain ⟨j, hj⟩ := nt_sp_chi (a := a) (by have := (nt_A_prime a ha).1; omega) (by have := h.2.1; omega) (h.2.2.2.2.1 a ha).1
  exact ⟨j, fun r hr hd e x he hx => hj r hr (nt_h_odd h hd) hd (nt_h_nd h hr hd ha) e x he hx⟩
theorem nt_h_same {n r s e x y : Nat} (h : nt_hyp n) (hr : nt_prime r) (hrd : r ∣ n) (hs : nt_prime s) (hsd : s ∣ n) (h1 : r - 1 = 2 ^ e * x) (hx : x % 2 = 1) (h2 : s - 1 = 2 ^ e * y) (hy : y % 2 = 1) {a : Nat} (ha : a ∈ nt_A) : nt_chi a r = nt_chi a s := by
  obtain ⟨j, hj⟩ := nt_h_chi h ha
  rw [(hj r hr hrd e x h1 hx).2, (hj s hs hsd e y h2 hy).2]
theorem nt_h_less {n r s e f x y : Nat} (h : nt_hyp n) (hr : nt_prime r) (hrd : r ∣ n) (hs : nt_prime s) (hsd : s ∣ n) (h1 : r - 1 = 2 ^ e * x) (hx : x % 2 = 1) (h2 : s - 1 = 2 ^ f * y) (hy : y % 2 = 1) (hlt : e < f) {a : Nat} (ha : a ∈ nt_A) : nt_chi a s = 1 := by
  obtain ⟨j, hj⟩ := nt_h_chi h ha
  have := (hj r hr hrd e x h1 hx).1
  rw [(hj s hs hsd f y h2 hy).2, if_neg (by omega)]
theorem nt_chi3 : ∀ s, s % 2 = 1 → s % 3 ≠ 0 → nt_chi 3 s = (if s % 12 = 1 ∨ s % 12 = 11 then 1 else -1) := by
  have key : ∀ r, r < 12 → r % 2 = 1 → r % 3 ≠ 0 → nt_sgn (nt_ch 3 r) = (if r = 1 ∨ r = 11 then 1 else -1) := by decide
  intro s h2 h3
  unfold nt_chi
  exact key (s % (4 * 3)) (by omega) (by omega) (by omega)
theorem nt_e_one {s e x : Nat} (h : s - 1 = 2 ^ e * x) (hx : x % 2 = 1) (hs : 2 < s) (h4 : s % 4 = 3) : e = 1 := by
  match e with
  | 0 =>
    rw [Nat.pow_zero, Nat.one_mul] at h
    omega
  | 1 => rfl
  | e + 2 =>
    rw [Nat.pow_add] at h
    have : 2 ^ e * 2 ^ 2 * x = 4 * (2 ^ e * x) := by grind
    omega
theorem nt_e_pos {s e x : Nat} (h : s - 1 = 2 ^ e * x) (hx : x % 2 = 1) (hs : 2 < s) (h2 : s % 2 = 1) : 1 ≤ e := by
  rcases Nat.eq_zero_or_pos e with h0 | h0
  · subst h0
    rw [Nat.pow_zero, Nat.one_mul] at h
    omega
  · exact h0
/-- two prime factors that leave 2 divided by 3 have one exponent of 2 -/
theorem nt_h_e2 {n r s e f x y : Nat} (h : nt_hyp n) (hr : nt_prime r) (hrd : r ∣ n) (hs : nt_prime s) (hsd : s ∣ n) (h1 : r - 1 = 2 ^ e * x) (hx : x % 2 = 1) (h2 : s - 1 = 2 ^ f * y) (hy : y % 2 = 1) (hs3 : s % 3 = 2) : f ≤ e := by
  apply Classical.byContradiction
  intro hlt
  have hc := nt_h_less h hr hrd hs hsd h1 hx h2 hy (by omega) (a := 3) (by decide)
  have hodd := nt_h_odd h hsd
  have hgt := nt_h_gt h hs hsd
  rw [nt_chi3 s hodd (by omega)] at hc
  have h12 : s % 12 = 1 ∨ s % 12 = 11 := by
    apply Classical.byContradiction
    intro hn
    rw [if_neg hn] at hc
    exact absurd hc (by decide)
  have h4 : s % 4 = 3 := by omega
  have hf := nt_e_one h2 hy (by omega) h4
  have := nt_e_pos h1 hx (by have := nt_h_gt h hr hrd; omega) (nt_h_odd h hrd)
  omega
/-- a prime factor that leaves 1 divided by 3 beside one that leaves 2: all nine bases are squares, and cubes -/
theorem nt_h_mix {n r s e f x y : Nat} (h : nt_hyp n) (hr : nt_prime r) (hrd : r ∣ n) (hs : nt_prime s) (hsd : s ∣ n) (h1 : r - 1 = 2 ^ e * x) (hx : x % 2 = 1) (h2 : s - 1 = 2 ^ f * y) (hy : y % 2 = 1) (hr3 : r % 3 = 2) (hs3 : s % 3 = 1) : e < f ∧ ∀ a, a ∈ nt_A → nt_chi a s = 1 := by
  have hodd := nt_h_odd h hsd
  have hrodd := nt_h_odd h hrd
  have hsgt := nt_h_gt h hs hsd
  have hrgt := nt_h_gt h hr hrd
  have hfe := nt_h_e2 h hs hsd hr hrd h2 hy h1 hx hr3
  have hne : e ≠ f := by
    intro he
    subst he
    have hc := nt_h_same h hr hrd hs hsd h1 hx h2 hy (a := 3) (by decide)
    rw [nt_chi3 s hodd (by omega), nt_chi3 r hrodd (by omega)] at hc
    have key : (r % 4 = 3 ↔ s % 4 = 3) := by
      constructor
      · intro h4
        have := nt_e_one h1 hx (by omega) h4
        subst this
        rw [Nat.pow_one] at h2
        omega
      · intro h4
        have := nt_e_one h2 hy (by omega) h4
        subst this
        rw [Nat.pow_one] at h1
        omega
    split at hc <;> split at hc <;> first | omega | exact absurd hc (by decide)
  have hlt : e < f := by omega
  exact ⟨hlt, fun a ha => nt_h_less h hr hrd hs hsd h1 hx h2 hy hlt ha⟩
theorem nt_h_cube {n s : Nat} (h : nt_hyp n) (hs : nt_prime s) (hd : s ∣ n) (hs3 : s % 3 = 1) {a : Nat} (ha : a ∈ nt_A) : nt_cg (s : Int) ((a : Int) ^ ((s - 1) / 3)) 1 := by
  refine nt_pow_of_dvd (nt_h_pow h hs hd ha) ?_
  have h1 : Nat.gcd (s - 1) (n - 1) ∣ 3 * ((s - 1) / 3) := by
    have : 3 * ((s - 1) / 3) = s - 1 := by omega
    rw [this]
    exact Nat.gcd_dvd_left _ _
  have h3 : nt_prime 3 := nt_A_prime 3 (by decide)
  exact ((nt_cop h3 (nt_h_not3 (s := s) h)).symm).dvd_of_dvd_mul_left h1
