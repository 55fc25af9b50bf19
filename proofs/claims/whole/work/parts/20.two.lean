/-! two factors that leave 2 divided by 3 -/
theorem nt_two {n r s : Nat} (h : nt_hyp n) (hr : nt_prime r) (hrd : r ∣ n) (hs : nt_prime s) (hsd : s ∣ n) (hr3 : r % 3 = 2) (hs3 : s % 3 = 2) : ∃ e x y, r - 1 = 2 ^ e * x ∧ x % 2 = 1 ∧ s - 1 = 2 ^ e * y ∧ y % 2 = 1 ∧ r % 2 ^ (e + 1) = s % 2 ^ (e + 1) ∧ r % 8 = s % 8 ∧ ∀ l, l ∈ nt_L → nt_q l r = nt_q l s := by
  have hrg := nt_h_gt h hr hrd
  have hsg := nt_h_gt h hs hsd
  obtain ⟨e, x, h1, hx⟩ := nt_odd_part (r - 1) (by omega)
  obtain ⟨f, y, h2, hy⟩ := nt_odd_part (s - 1) (by omega)
  have a1 := nt_h_e2 h hr hrd hs hsd h1 hx h2 hy hs3
  have a2 := nt_h_e2 h hs hsd hr hrd h2 hy h1 hx hr3
  have he : e = f := by omega
  subst he
  obtain ⟨b1, b2⟩ := nt_h_mod h hr hrd hs hsd h1 hx h2 hy
  exact ⟨e, x, y, h1, hx, h2, hy, b1, b2, fun l hl => nt_h_q h hr hrd hs hsd h1 hx h2 hy (by omega) hl⟩
theorem nt_cof {n r s m H : Nat} (hn : n = r * s * m) (hs : 0 < s) (hrm : 0 < r * m) (h1 : H ∣ s - 1) (h2 : H ∣ n - 1) : H ∣ r * m - 1 := by
  have e : n - 1 = r * m * (s - 1) + (r * m - 1) := by
    obtain ⟨s', rfl⟩ : ∃ s', s = s' + 1 := ⟨s - 1, by omega⟩
    have : n = r * m * s' + r * m := by rw [hn]; grind
    rw [Nat.add_sub_cancel]
    omega
  rw [e] at h2
  exact (Nat.dvd_add_right (Nat.dvd_trans h1 ⟨r * m, Nat.mul_comm _ _⟩)).mp h2
/-- a square of a small prime is no factor -/
theorem nt_sq {n r : Nat} (h : nt_hyp n) (hr : nt_prime r) (hd : r * r ∣ n) {a : Nat} (ha : a ∈ nt_A) : nt_cg ((r * r : Nat) : Int) ((a : Int) ^ (n - 1)) 1 :=
  nt_sp_fermat (by have := h.2.1; omega) (h.2.2.2.2.1 a ha).1 hd
