/-! n is prime -/
theorem nt_least {n : Nat} (h : 2 ≤ n) : ∃ r, nt_prime r ∧ r ∣ n ∧ ∀ x, nt_prime x → x ∣ n → r ≤ x := by
  obtain ⟨s, hs, hd⟩ := nt_factor n h
  have key : ∀ k s, nt_prime s → s ∣ n → s ≤ k → ∃ r, nt_prime r ∧ r ∣ n ∧ ∀ x, nt_prime x → x ∣ n → r ≤ x := by
    intro k
    induction k with
    | zero =>
      intro s hs _ hle
      have := hs.1
      omega
    | succ k ih =>
      intro s hs hd hle
      by_cases hc : ∃ x, nt_prime x ∧ x ∣ n ∧ x < s
      · obtain ⟨x, hx, hxd, hlt⟩ := hc
        exact ih x hx hxd (by omega)
      · exact ⟨s, hs, hd, fun x hx hxd => Classical.byContradiction (fun hn => hc ⟨x, hx, hxd, by omega⟩)⟩
  exact key s s hs hd (Nat.le_refl s)
theorem nt_F {n : Nat} (h : nt_hyp n) : nt_prime n := by
  have hn23 := h.2.1
  have hn3 := h.2.2.2.1
  have hn60 := h.2.2.1
  have all2 := nt_all2 h
  obtain ⟨r, hr, hrd, hrmin⟩ := nt_least (n := n) (by omega)
  obtain ⟨n1, hn1⟩ := hrd
  have hrd : r ∣ n := ⟨n1, hn1⟩
  by_cases h1 : n1 = 1
  · rw [h1, Nat.mul_one] at hn1
    rw [hn1]
    exact hr
  · exfalso
    have hn10 : n1 ≠ 0 := by
      intro e
      rw [e, Nat.mul_zero] at hn1
      omega
    obtain ⟨s, hs, hsd, hsmin⟩ := nt_least (n := n1) (by omega)
    have hn1d : n1 ∣ n := ⟨r, by rw [hn1, Nat.mul_comm]⟩
    have hrs := hrmin s hs (Nat.dvd_trans hsd hn1d)
    obtain ⟨m, hm⟩ := hsd
    have hsd : s ∣ n1 := ⟨m, hm⟩
    have he : n = r * s * m := by rw [hn1, hm, Nat.mul_assoc]
    have r3 := all2 r hr hrd
    have s3 := all2 s hs (Nat.dvd_trans hsd hn1d)
    have hm0 : m ≠ 0 := by
      intro e
      rw [e, Nat.mul_zero] at hm
      omega
    have hm1 : m ≠ 1 := by
      intro e
      rw [he, e, Nat.mul_one, Nat.mul_mod, r3, s3] at hn3
      omega
    obtain ⟨z, hz, hzm⟩ := nt_factor m (by omega)
    have hzs := hsmin z hz (Nat.dvd_trans hzm ⟨s, by rw [hm, Nat.mul_comm]⟩)
    have hzm' := Nat.le_of_dvd (by omega) hzm
    have hsm : s ≤ m := by omega
    by_cases heq : r = s
    · subst heq
      refine nt_nosq h hr ⟨m, he⟩ r3 ?_
      apply Classical.byContradiction
      intro hge
      have a1 : 1048576 * 1048576 ≤ r * r := Nat.mul_le_mul (by omega) (by omega)
      have a2 : 1048576 * 1048576 * 1048576 ≤ r * r * m := Nat.mul_le_mul a1 (by omega)
      rw [← he] at a2
      omega
    · exact nt_tri h he hr hs (by omega) hsm all2
