theorem nt_tks_1_4 : nt_tks 1 4 nt_kt_1_4 = true := by decide +kernel
theorem nt_tkl_1_4 : ∀ q, q ∈ nt_kt_1_4 → q.1 ∈ nt_L ∨ (23 < q.1 ∧ q.1 ≤ 97) := by
  have h : ∀ l, l ∈ nt_kt_1_4.map (fun q => q.1) → l ∈ nt_L ∨ (23 < l ∧ l ≤ 97) := by decide
  intro q hq
  exact h q.1 (List.mem_map_of_mem hq)
theorem nt_tks_1_10 : nt_tks 1 10 nt_kt_1_10 = true := by decide +kernel
theorem nt_tkl_1_10 : ∀ q, q ∈ nt_kt_1_10 → q.1 ∈ nt_L ∨ (23 < q.1 ∧ q.1 ≤ 97) := by
  have h : ∀ l, l ∈ nt_kt_1_10.map (fun q => q.1) → l ∈ nt_L ∨ (23 < l ∧ l ≤ 97) := by decide
  intro q hq
  exact h q.1 (List.mem_map_of_mem hq)
theorem nt_tks_7_4 : nt_tks 7 4 nt_kt_7_4 = true := by decide +kernel
theorem nt_tkl_7_4 : ∀ q, q ∈ nt_kt_7_4 → q.1 ∈ nt_L ∨ (23 < q.1 ∧ q.1 ≤ 97) := by
  have h : ∀ l, l ∈ nt_kt_7_4.map (fun q => q.1) → l ∈ nt_L ∨ (23 < l ∧ l ≤ 97) := by decide
  intro q hq
  exact h q.1 (List.mem_map_of_mem hq)
theorem nt_tks_7_10 : nt_tks 7 10 nt_kt_7_10 = true := by decide +kernel
theorem nt_tkl_7_10 : ∀ q, q ∈ nt_kt_7_10 → q.1 ∈ nt_L ∨ (23 < q.1 ∧ q.1 ≤ 97) := by
  have h : ∀ l, l ∈ nt_kt_7_10.map (fun q => q.1) → l ∈ nt_L ∨ (23 < l ∧ l ≤ 97) := by decide
  intro q hq
  exact h q.1 (List.mem_map_of_mem hq)
theorem nt_tks_5_8 : nt_tks 5 8 nt_kt_5_8 = true := by decide +kernel
theorem nt_tkl_5_8 : ∀ q, q ∈ nt_kt_5_8 → q.1 ∈ nt_L ∨ (23 < q.1 ∧ q.1 ≤ 97) := by
  have h : ∀ l, l ∈ nt_kt_5_8.map (fun q => q.1) → l ∈ nt_L ∨ (23 < l ∧ l ≤ 97) := by decide
  intro q hq
  exact h q.1 (List.mem_map_of_mem hq)
theorem nt_tks_5_2 : nt_tks 5 2 nt_kt_5_2 = true := by decide +kernel
theorem nt_tkl_5_2 : ∀ q, q ∈ nt_kt_5_2 → q.1 ∈ nt_L ∨ (23 < q.1 ∧ q.1 ≤ 97) := by
  have h : ∀ l, l ∈ nt_kt_5_2.map (fun q => q.1) → l ∈ nt_L ∨ (23 < l ∧ l ≤ 97) := by decide
  intro q hq
  exact h q.1 (List.mem_map_of_mem hq)
theorem nt_kblk_0 {n r c T u d : Nat} (h : nt_hyp n) (hn : n = r * c) (hr : nt_cf n r) (hc : nt_prime c) (hr3 : r % 3 = 2) (hT : T = Nat.gcd (c - 1) (n - 1)) (hu : r - 1 = u * T) (hd : c - 1 = d * T) (hT2 : T % 2 = 0) (hT3 : T % 3 ≠ 0) (hd6 : d % 6 = 0) (hu2 : u % 2 = 1) (hu3 : u % 3 ≠ 0) (hc24 : c % 24 = 1) (hpow : ∀ a, a ∈ nt_A → nt_cg (c : Int) ((a : Int) ^ T) 1) (hchi : ∀ a, a ∈ nt_A → nt_chi a c = 1) (h1 : 30000000000 ≤ c) (h2 : c < 50000000000) : False := by
  have hcd : c ∣ n := ⟨r, by rw [hn, Nat.mul_comm]⟩
  have hN : 4699786 ≤ T := by
    rw [hT]
    exact nt_low300 n c h hc hcd h1
  have hlt := h.2.2.1
  have hu0 : 0 < u := by omega
  have hre : u * T + 1 = r := by
    have := hr.1
    omega
  have huB : u * 4699786 * 30000000000 < 1152921504606846976 := by
    have a1 : u * 4699786 ≤ u * T := Nat.mul_le_mul_left u hN
    have a2 : u * 4699786 * 30000000000 ≤ r * c := Nat.mul_le_mul (by omega) h1
    rw [← hn] at a2
    exact Nat.lt_of_le_of_lt a2 hlt
  have hd0 : 0 < d := by
    rcases Nat.eq_zero_or_pos d with e | e
    · subst e
      omega
    · exact e
  have hdB : d * 4699786 < 50000000000 := by
    have a1 : d * 4699786 ≤ d * T := Nat.mul_le_mul_left d hN
    rw [← hd] at a1
    exact Nat.lt_of_le_of_lt a1 (Nat.lt_of_le_of_lt (Nat.sub_le c 1) h2)
  have huT : T ≤ u * T := Nat.le_mul_of_pos_left T hu0
  have hd4 : (d / 6) % 2 = 0 ∨ T % 4 = 0 := by
    have e1 : d * T = 24 * (c / 24) := by omega
    have e2 : d * T = 6 * (d / 6 * T) := by
      conv => lhs; rw [show d = 6 * (d / 6) by omega]
      grind
    have e3 : d / 6 * T = 4 * (c / 24) := by omega
    by_cases hev : (d / 6) % 2 = 0
    · exact Or.inl hev
    · right
      have hcop : Nat.Coprime 4 (d / 6) := by
        have : Nat.Coprime (2 ^ 2) (d / 6) := Nat.Coprime.pow_left 2 (nt_cop (nt_A_prime 2 (by decide)) (by omega))
        exact this
      have : 4 ∣ T := hcop.dvd_of_dvd_mul_left ⟨c / 24, e3⟩
      omega
  have hu8 : u = 1 ∨ u = 5 ∨ u = 7 := by omega
  rcases hu8 with e | e | e
  · subst e
    have hm3 : T % 3 = 1 := by omega
    by_cases h4 : T % 4 = 0
    · refine nt_kuse (w := T / 12) (c0 := 4) h hn hr hc hu hd (by omega) hd0 (by omega : 0 < 30000000000) (by omega) (by omega) h1 (by omega : c ≤ 50000000000) hN hc24 hpow hchi (by omega) (by omega) nt_tkl_1_4 nt_tks_1_4 ?_
      have hk := nt_ka_0_1_4 (d / 6) (by omega) (by omega)
      rw [show 6 * (d / 6) = d by omega] at hk
      exact hk
    · refine nt_kuse (w := T / 12) (c0 := 10) h hn hr hc hu hd (by omega) hd0 (by omega : 0 < 30000000000) (by omega) (by omega) h1 (by omega : c ≤ 50000000000) hN hc24 hpow hchi (by omega) (by omega) nt_tkl_1_10 nt_tks_1_10 ?_
      have hk := nt_ka_0_1_10 (d / 12) (by omega) (by omega)
      rw [show 12 * (d / 12) = d by omega] at hk
      exact hk
  · subst e
    have hm3 : T % 3 = 2 := by omega
    by_cases h4 : T % 4 = 0
    · refine nt_kuse (w := T / 12) (c0 := 8) h hn hr hc hu hd (by omega) hd0 (by omega : 0 < 30000000000) (by omega) (by omega) h1 (by omega : c ≤ 50000000000) hN hc24 hpow hchi (by omega) (by omega) nt_tkl_5_8 nt_tks_5_8 ?_
      have hk := nt_ka_0_5_8 (d / 6) (by omega) (by omega)
      rw [show 6 * (d / 6) = d by omega] at hk
      exact hk
    · refine nt_kuse (w := T / 12) (c0 := 2) h hn hr hc hu hd (by omega) hd0 (by omega : 0 < 30000000000) (by omega) (by omega) h1 (by omega : c ≤ 50000000000) hN hc24 hpow hchi (by omega) (by omega) nt_tkl_5_2 nt_tks_5_2 ?_
      have hk := nt_ka_0_5_2 (d / 12) (by omega) (by omega)
      rw [show 12 * (d / 12) = d by omega] at hk
      exact hk
  · subst e
    have hm3 : T % 3 = 1 := by omega
    by_cases h4 : T % 4 = 0
    · refine nt_kuse (w := T / 12) (c0 := 4) h hn hr hc hu hd (by omega) hd0 (by omega : 0 < 30000000000) (by omega) (by omega) h1 (by omega : c ≤ 50000000000) hN hc24 hpow hchi (by omega) (by omega) nt_tkl_7_4 nt_tks_7_4 ?_
      have hk := nt_ka_0_7_4 (d / 6) (by omega) (by omega)
      rw [show 6 * (d / 6) = d by omega] at hk
      exact hk
    · refine nt_kuse (w := T / 12) (c0 := 10) h hn hr hc hu hd (by omega) hd0 (by omega : 0 < 30000000000) (by omega) (by omega) h1 (by omega : c ≤ 50000000000) hN hc24 hpow hchi (by omega) (by omega) nt_tkl_7_10 nt_tks_7_10 ?_
      have hk := nt_ka_0_7_10 (d / 12) (by omega) (by omega)
      rw [show 12 * (d / 12) = d by omega] at hk
      exact hk
theorem nt_kblk_1 {n r c T u d : Nat} (h : nt_hyp n) (hn : n = r * c) (hr : nt_cf n r) (hc : nt_prime c) (hr3 : r % 3 = 2) (hT : T = Nat.gcd (c - 1) (n - 1)) (hu : r - 1 = u * T) (hd : c - 1 = d * T) (hT2 : T % 2 = 0) (hT3 : T % 3 ≠ 0) (hd6 : d % 6 = 0) (hu2 : u % 2 = 1) (hu3 : u % 3 ≠ 0) (hc24 : c % 24 = 1) (hpow : ∀ a, a ∈ nt_A → nt_cg (c : Int) ((a : Int) ^ T) 1) (hchi : ∀ a, a ∈ nt_A → nt_chi a c = 1) (h1 : 50000000000 ≤ c) (h2 : c < 80000000000) : False := by
  have hcd : c ∣ n := ⟨r, by rw [hn, Nat.mul_comm]⟩
  have hN : 5616826 ≤ T := by
    rw [hT]
    exact nt_low500 n c h hc hcd h1
  have hlt := h.2.2.1
  have hu0 : 0 < u := by omega
  have hre : u * T + 1 = r := by
    have := hr.1
    omega
  have huB : u * 5616826 * 50000000000 < 1152921504606846976 := by
    have a1 : u * 5616826 ≤ u * T := Nat.mul_le_mul_left u hN
    have a2 : u * 5616826 * 50000000000 ≤ r * c := Nat.mul_le_mul (by omega) h1
    rw [← hn] at a2
    exact Nat.lt_of_le_of_lt a2 hlt
  have hd0 : 0 < d := by
    rcases Nat.eq_zero_or_pos d with e | e
    · subst e
      omega
    · exact e
  have hdB : d * 5616826 < 80000000000 := by
    have a1 : d * 5616826 ≤ d * T := Nat.mul_le_mul_left d hN
    rw [← hd] at a1
    exact Nat.lt_of_le_of_lt a1 (Nat.lt_of_le_of_lt (Nat.sub_le c 1) h2)
  have huT : T ≤ u * T := Nat.le_mul_of_pos_left T hu0
  have hd4 : (d / 6) % 2 = 0 ∨ T % 4 = 0 := by
    have e1 : d * T = 24 * (c / 24) := by omega
    have e2 : d * T = 6 * (d / 6 * T) := by
      conv => lhs; rw [show d = 6 * (d / 6) by omega]
      grind
    have e3 : d / 6 * T = 4 * (c / 24) := by omega
    by_cases hev : (d / 6) % 2 = 0
    · exact Or.inl hev
    · right
      have hcop : Nat.Coprime 4 (d / 6) := by
        have : Nat.Coprime (2 ^ 2) (d / 6) := Nat.Coprime.pow_left 2 (nt_cop (nt_A_prime 2 (by decide)) (by omega))
        exact this
      have : 4 ∣ T := hcop.dvd_of_dvd_mul_left ⟨c / 24, e3⟩
      omega
  have hu8 : u = 1 := by omega
  rcases (Or.inl hu8 : u = 1 ∨ False) with e | e
  · subst e
    have hm3 : T % 3 = 1 := by omega
    by_cases h4 : T % 4 = 0
    · refine nt_kuse (w := T / 12) (c0 := 4) h hn hr hc hu hd (by omega) hd0 (by omega : 0 < 50000000000) (by omega) (by omega) h1 (by omega : c ≤ 80000000000) hN hc24 hpow hchi (by omega) (by omega) nt_tkl_1_4 nt_tks_1_4 ?_
      have hk := nt_ka_1_1_4 (d / 6) (by omega) (by omega)
      rw [show 6 * (d / 6) = d by omega] at hk
      exact hk
    · refine nt_kuse (w := T / 12) (c0 := 10) h hn hr hc hu hd (by omega) hd0 (by omega : 0 < 50000000000) (by omega) (by omega) h1 (by omega : c ≤ 80000000000) hN hc24 hpow hchi (by omega) (by omega) nt_tkl_1_10 nt_tks_1_10 ?_
      have hk := nt_ka_1_1_10 (d / 12) (by omega) (by omega)
      rw [show 12 * (d / 12) = d by omega] at hk
      exact hk
  · exact e
theorem nt_kblk_2 {n r c T u d : Nat} (h : nt_hyp n) (hn : n = r * c) (hr : nt_cf n r) (hc : nt_prime c) (hr3 : r % 3 = 2) (hT : T = Nat.gcd (c - 1) (n - 1)) (hu : r - 1 = u * T) (hd : c - 1 = d * T) (hT2 : T % 2 = 0) (hT3 : T % 3 ≠ 0) (hd6 : d % 6 = 0) (hu2 : u % 2 = 1) (hu3 : u % 3 ≠ 0) (hc24 : c % 24 = 1) (hpow : ∀ a, a ∈ nt_A → nt_cg (c : Int) ((a : Int) ^ T) 1) (hchi : ∀ a, a ∈ nt_A → nt_chi a c = 1) (h1 : 80000000000 ≤ c) (h2 : c < 120000000000) : False := by
  have hcd : c ∣ n := ⟨r, by rw [hn, Nat.mul_comm]⟩
  have hN : 6568378 ≤ T := by
    rw [hT]
    exact nt_low800 n c h hc hcd h1
  have hlt := h.2.2.1
  have hu0 : 0 < u := by omega
  have hre : u * T + 1 = r := by
    have := hr.1
    omega
  have huB : u * 6568378 * 80000000000 < 1152921504606846976 := by
    have a1 : u * 6568378 ≤ u * T := Nat.mul_le_mul_left u hN
    have a2 : u * 6568378 * 80000000000 ≤ r * c := Nat.mul_le_mul (by omega) h1
    rw [← hn] at a2
    exact Nat.lt_of_le_of_lt a2 hlt
  have hd0 : 0 < d := by
    rcases Nat.eq_zero_or_pos d with e | e
    · subst e
      omega
    · exact e
  have hdB : d * 6568378 < 120000000000 := by
    have a1 : d * 6568378 ≤ d * T := Nat.mul_le_mul_left d hN
    rw [← hd] at a1
    exact Nat.lt_of_le_of_lt a1 (Nat.lt_of_le_of_lt (Nat.sub_le c 1) h2)
  have huT : T ≤ u * T := Nat.le_mul_of_pos_left T hu0
  have hd4 : (d / 6) % 2 = 0 ∨ T % 4 = 0 := by
    have e1 : d * T = 24 * (c / 24) := by omega
    have e2 : d * T = 6 * (d / 6 * T) := by
      conv => lhs; rw [show d = 6 * (d / 6) by omega]
      grind
    have e3 : d / 6 * T = 4 * (c / 24) := by omega
    by_cases hev : (d / 6) % 2 = 0
    · exact Or.inl hev
    · right
      have hcop : Nat.Coprime 4 (d / 6) := by
        have : Nat.Coprime (2 ^ 2) (d / 6) := Nat.Coprime.pow_left 2 (nt_cop (nt_A_prime 2 (by decide)) (by omega))
        exact this
      have : 4 ∣ T := hcop.dvd_of_dvd_mul_left ⟨c / 24, e3⟩
      omega
  have hu8 : u = 1 := by omega
  rcases (Or.inl hu8 : u = 1 ∨ False) with e | e
  · subst e
    have hm3 : T % 3 = 1 := by omega
    by_cases h4 : T % 4 = 0
    · refine nt_kuse (w := T / 12) (c0 := 4) h hn hr hc hu hd (by omega) hd0 (by omega : 0 < 80000000000) (by omega) (by omega) h1 (by omega : c ≤ 120000000000) hN hc24 hpow hchi (by omega) (by omega) nt_tkl_1_4 nt_tks_1_4 ?_
      have hk := nt_ka_2_1_4 (d / 6) (by omega) (by omega)
      rw [show 6 * (d / 6) = d by omega] at hk
      exact hk
    · refine nt_kuse (w := T / 12) (c0 := 10) h hn hr hc hu hd (by omega) hd0 (by omega : 0 < 80000000000) (by omega) (by omega) h1 (by omega : c ≤ 120000000000) hN hc24 hpow hchi (by omega) (by omega) nt_tkl_1_10 nt_tks_1_10 ?_
      have hk := nt_ka_2_1_10 (d / 12) (by omega) (by omega)
      rw [show 12 * (d / 12) = d by omega] at hk
      exact hk
  · exact e
theorem nt_kblk_3 {n r c T u d : Nat} (h : nt_hyp n) (hn : n = r * c) (hr : nt_cf n r) (hc : nt_prime c) (hr3 : r % 3 = 2) (hT : T = Nat.gcd (c - 1) (n - 1)) (hu : r - 1 = u * T) (hd : c - 1 = d * T) (hT2 : T % 2 = 0) (hT3 : T % 3 ≠ 0) (hd6 : d % 6 = 0) (hu2 : u % 2 = 1) (hu3 : u % 3 ≠ 0) (hc24 : c % 24 = 1) (hpow : ∀ a, a ∈ nt_A → nt_cg (c : Int) ((a : Int) ^ T) 1) (hchi : ∀ a, a ∈ nt_A → nt_chi a c = 1) (h1 : 120000000000 ≤ c) (h2 : c < 160000000000) : False := by
  have hcd : c ∣ n := ⟨r, by rw [hn, Nat.mul_comm]⟩
  have hN : 7506186 ≤ T := by
    rw [hT]
    exact nt_low1200 n c h hc hcd h1
  have hlt := h.2.2.1
  have hu0 : 0 < u := by omega
  have hre : u * T + 1 = r := by
    have := hr.1
    omega
  have huB : u * 7506186 * 120000000000 < 1152921504606846976 := by
    have a1 : u * 7506186 ≤ u * T := Nat.mul_le_mul_left u hN
    have a2 : u * 7506186 * 120000000000 ≤ r * c := Nat.mul_le_mul (by omega) h1
    rw [← hn] at a2
    exact Nat.lt_of_le_of_lt a2 hlt
  have hd0 : 0 < d := by
    rcases Nat.eq_zero_or_pos d with e | e
    · subst e
      omega
    · exact e
  have hdB : d * 7506186 < 160000000000 := by
    have a1 : d * 7506186 ≤ d * T := Nat.mul_le_mul_left d hN
    rw [← hd] at a1
    exact Nat.lt_of_le_of_lt a1 (Nat.lt_of_le_of_lt (Nat.sub_le c 1) h2)
  have huT : T ≤ u * T := Nat.le_mul_of_pos_left T hu0
  have hd4 : (d / 6) % 2 = 0 ∨ T % 4 = 0 := by
    have e1 : d * T = 24 * (c / 24) := by omega
    have e2 : d * T = 6 * (d / 6 * T) := by
      conv => lhs; rw [show d = 6 * (d / 6) by omega]
      grind
    have e3 : d / 6 * T = 4 * (c / 24) := by omega
    by_cases hev : (d / 6) % 2 = 0
    · exact Or.inl hev
    · right
      have hcop : Nat.Coprime 4 (d / 6) := by
        have : Nat.Coprime (2 ^ 2) (d / 6) := Nat.Coprime.pow_left 2 (nt_cop (nt_A_prime 2 (by decide)) (by omega))
        exact this
      have : 4 ∣ T := hcop.dvd_of_dvd_mul_left ⟨c / 24, e3⟩
      omega
  have hu8 : u = 1 := by omega
  rcases (Or.inl hu8 : u = 1 ∨ False) with e | e
  · subst e
    have hm3 : T % 3 = 1 := by omega
    by_cases h4 : T % 4 = 0
    · refine nt_kuse (w := T / 12) (c0 := 4) h hn hr hc hu hd (by omega) hd0 (by omega : 0 < 120000000000) (by omega) (by omega) h1 (by omega : c ≤ 160000000000) hN hc24 hpow hchi (by omega) (by omega) nt_tkl_1_4 nt_tks_1_4 ?_
      have hk := nt_ka_3_1_4 (d / 6) (by omega) (by omega)
      rw [show 6 * (d / 6) = d by omega] at hk
      exact hk
    · refine nt_kuse (w := T / 12) (c0 := 10) h hn hr hc hu hd (by omega) hd0 (by omega : 0 < 120000000000) (by omega) (by omega) h1 (by omega : c ≤ 160000000000) hN hc24 hpow hchi (by omega) (by omega) nt_tkl_1_10 nt_tks_1_10 ?_
      have hk := nt_ka_3_1_10 (d / 12) (by omega) (by omega)
      rw [show 12 * (d / 12) = d by omega] at hk
      exact hk
  · exact e
theorem nt_k2 {n r c : Nat} (h : nt_hyp n) (hn : n = r * c) (hr : nt_cf n r) (hc : nt_prime c) (hr3 : r % 3 = 2) (hc3 : c % 3 = 1) : False := by
  have hrd : r ∣ n := ⟨c, hn⟩
  have hcd : c ∣ n := ⟨r, by rw [hn, Nat.mul_comm]⟩
  by_cases hlt : c < 30000000000
  · obtain ⟨r1, _, _, hr1, hr1d, hr13, _, _, _⟩ := hr.2.2
    exact nt_known h hn hr hc hr3 hc3 (nt_c_list h hr1 hr1d hr13 hc hcd hc3 hlt)
  · obtain ⟨T, u, d, hT, hu, hd, hT2, hT3, hd6, hu2, hu3, hc24, hpow, hchi⟩ := nt_split h hn hr hc hr3 hc3
    by_cases b0 : c < 50000000000
    · exact nt_kblk_0 h hn hr hc hr3 hT hu hd hT2 hT3 hd6 hu2 hu3 hc24 hpow hchi (by omega) b0
    · by_cases b1 : c < 80000000000
      · exact nt_kblk_1 h hn hr hc hr3 hT hu hd hT2 hT3 hd6 hu2 hu3 hc24 hpow hchi (by omega) b1
      · by_cases b2 : c < 120000000000
        · exact nt_kblk_2 h hn hr hc hr3 hT hu hd hT2 hT3 hd6 hu2 hu3 hc24 hpow hchi (by omega) b2
        · by_cases b3 : c < 160000000000
          · exact nt_kblk_3 h hn hr hc hr3 hT hu hd hT2 hT3 hd6 hu2 hu3 hc24 hpow hchi (by omega) b3
          · have hN : 8259042 ≤ T := by
              rw [hT]
              exact nt_low1600 n c h hc hcd (by omega)
            have hu0 : 0 < u := by omega
            have huT : T ≤ u * T := Nat.le_mul_of_pos_left T hu0
            have := hr.1
            have a2 : 8259042 * 160000000000 ≤ r * c := Nat.mul_le_mul (by omega) (by omega)
            have := h.2.2.1
            omega
