/-! n = r c: the common order T -/
/-- what is used of the cofactor of c -/
def nt_cf (n R : Nat) : Prop := 29 ≤ R ∧ (∀ q, 2 ≤ q → q ≤ 97 → ¬ q ∣ R) ∧ ∃ r e x, nt_prime r ∧ r ∣ n ∧ r % 3 = 2 ∧ r - 1 = 2 ^ e * x ∧ x % 2 = 1 ∧ ¬ 2 ^ (e + 1) ∣ R - 1
theorem nt_split {n r c : Nat} (h : nt_hyp n) (hn : n = r * c) (hr : nt_cf n r) (hc : nt_prime c) (hr3 : r % 3 = 2) (hc3 : c % 3 = 1) : ∃ T u d, T = Nat.gcd (c - 1) (n - 1) ∧ r - 1 = u * T ∧ c - 1 = d * T ∧ T % 2 = 0 ∧ T % 3 ≠ 0 ∧ d % 6 = 0 ∧ u % 2 = 1 ∧ u % 3 ≠ 0 ∧ c % 24 = 1 ∧ (∀ a, a ∈ nt_A → nt_cg (c : Int) ((a : Int) ^ T) 1) ∧ (∀ a, a ∈ nt_A → nt_chi a c = 1) := by
  have hrd : r ∣ n := ⟨c, hn⟩
  have hcd : c ∣ n := ⟨r, by rw [hn, Nat.mul_comm]⟩
  have hrg := hr.1
  have hcg := nt_h_gt h hc hcd
  have hro := nt_h_odd h hrd
  have hco := nt_h_odd h hcd
  have hno := h.1
  have hn23 := h.2.1
  obtain ⟨r1, e, x, hr1, hr1d, hr13, h1, hx, hR2⟩ := hr.2.2
  obtain ⟨f, y, h2, hy⟩ := nt_odd_part (c - 1) (by omega)
  obtain ⟨hef, hchi⟩ := nt_h_mix h hr1 hr1d hc hcd h1 hx h2 hy hr13 hc3
  have hpow : ∀ a, a ∈ nt_A → nt_cg (c : Int) ((a : Int) ^ (Nat.gcd (c - 1) (n - 1))) 1 := fun a ha => nt_h_pow h hc hcd ha
  have hT3 := nt_h_not3 (s := c) h
  have hTc : Nat.gcd (c - 1) (n - 1) ∣ c - 1 := Nat.gcd_dvd_left _ _
  have hTn : Nat.gcd (c - 1) (n - 1) ∣ n - 1 := Nat.gcd_dvd_right _ _
  have hT2 : 2 ∣ Nat.gcd (c - 1) (n - 1) := Nat.dvd_gcd (by omega) (by omega)
  have hnm : n - 1 = r * (c - 1) + (r - 1) := by
    rw [hn]
    obtain ⟨c', rfl⟩ : ∃ c', c = c' + 1 := ⟨c - 1, by omega⟩
    rw [Nat.add_sub_cancel, Nat.mul_succ]
    omega
  have hmax : ∀ g, g ∣ c - 1 → g ∣ r - 1 → g ∣ Nat.gcd (c - 1) (n - 1) := by
    intro g g1 g2
    refine Nat.dvd_gcd g1 ?_
    rw [hnm]
    exact Nat.dvd_add (Nat.dvd_trans g1 ⟨r, Nat.mul_comm _ _⟩) g2
  generalize hT : Nat.gcd (c - 1) (n - 1) = T at *
  have hTr : T ∣ r - 1 := by
    rw [hnm] at hTn
    exact (Nat.dvd_add_right (Nat.dvd_trans hTc ⟨r, Nat.mul_comm _ _⟩)).mp hTn
  obtain ⟨u, hu⟩ := hTr
  obtain ⟨d, hd⟩ := hTc
  have hT0 : 0 < T := by
    rcases Nat.eq_zero_or_pos T with e0 | e0
    · subst e0
      omega
    · exact e0
  have hd2 : d % 2 = 0 := by
    apply Classical.byContradiction
    intro hodd
    have hp2 : nt_prime 2 := nt_A_prime 2 (by decide)
    have h3 : 2 ^ (e + 1) ∣ d * T := by
      rw [Nat.mul_comm d T, ← hd, h2]
      exact Nat.dvd_trans (Nat.pow_dvd_pow 2 (by omega)) ⟨y, rfl⟩
    have hc2 : Nat.Coprime (2 ^ (e + 1)) d := Nat.Coprime.pow_left _ (nt_cop hp2 (by omega))
    have h4 : 2 ^ (e + 1) ∣ T := hc2.dvd_of_dvd_mul_left h3
    exact hR2 (by rw [hu]; exact Nat.dvd_trans h4 ⟨u, rfl⟩)
  have hd3 : d % 3 = 0 := by
    have hp3 : nt_prime 3 := nt_A_prime 3 (by decide)
    have h3 : 3 ∣ T * d := by
      rw [← hd]
      omega
    rcases nt_dvd_mul hp3 h3 with h4 | h4
    · exact absurd h4 hT3
    · omega
  have hu2 : u % 2 = 1 := by
    apply Classical.byContradiction
    intro hev
    have g1 : 2 * T ∣ c - 1 := ⟨d / 2, by rw [hd, show 2 * T * (d / 2) = T * (2 * (d / 2)) by grind, show 2 * (d / 2) = d by omega]⟩
    have g2 : 2 * T ∣ r - 1 := ⟨u / 2, by rw [hu, show 2 * T * (u / 2) = T * (2 * (u / 2)) by grind, show 2 * (u / 2) = u by omega]⟩
    have := Nat.le_of_dvd hT0 (hmax _ g1 g2)
    omega
  have hu3 : u % 3 ≠ 0 := by
    intro h0
    have g1 : 3 * T ∣ c - 1 := ⟨d / 3, by rw [hd, show 3 * T * (d / 3) = T * (3 * (d / 3)) by grind, show 3 * (d / 3) = d by omega]⟩
    have g2 : 3 * T ∣ r - 1 := ⟨u / 3, by rw [hu, show 3 * T * (u / 3) = T * (3 * (u / 3)) by grind, show 3 * (u / 3) = u by omega]⟩
    have := Nat.le_of_dvd hT0 (hmax _ g1 g2)
    omega
  have h3 := hchi 3 (by decide)
  have hh2 := hchi 2 (by decide)
  rw [nt_chi3 c hco (by omega)] at h3
  rw [nt_chi2 c hco] at hh2
  have h12 : c % 12 = 1 ∨ c % 12 = 11 := by
    apply Classical.byContradiction
    intro hnn
    rw [if_neg hnn] at h3
    exact absurd h3 (by decide)
  have h8 : c % 8 = 1 ∨ c % 8 = 7 := by
    apply Classical.byContradiction
    intro hnn
    rw [if_neg hnn] at hh2
    exact absurd hh2 (by decide)
  refine ⟨T, u, d, rfl, by rw [hu, Nat.mul_comm], by rw [hd, Nat.mul_comm], by omega, by omega, by omega, hu2, hu3, by omega, hpow, hchi⟩
/-- the known ones: their index is 6 -/
noncomputable def nt_xc (c : Nat) : Bool :=
  nt_all (fun k => nt_fc (Nat.mul 6 (Nat.succ k)) (fun i => nt_or (nt_nt (Nat.beq (Nat.mod (Nat.sub c 1) i) 0)) (nt_fc (Nat.div (Nat.sub c 1) i) (fun T => nt_or (Nat.beq i 6) (nt_or (Nat.beq (Nat.mod T 3) 0) (nt_or (nt_nt (Nat.beq (nt_p2 2 c T) 1)) (nt_or (nt_nt (Nat.beq (nt_p2 3 c T) 1)) (nt_or (nt_nt (Nat.beq (nt_p2 5 c T) 1)) (nt_nt (Nat.beq (nt_p2 7 c T) 1)))))))))) 1700
theorem nt_xc_all : ∀ c, c ∈ nt_cX → nt_xc c = true := by
  have h : (List.rec (motive := fun _ => Bool) true (fun c _ ih => nt_an (nt_xc c) ih) nt_cX : Bool) = true := by decide +kernel
  have key : ∀ l : List Nat, (List.rec (motive := fun _ => Bool) true (fun c _ ih => nt_an (nt_xc c) ih) l : Bool) = true → ∀ c, c ∈ l → nt_xc c = true := by
    intro l
    induction l with
    | nil => intro _ c hc; exact absurd hc List.not_mem_nil
    | cons x l ih =>
      intro hl c hc
      obtain ⟨h1, h2⟩ := nt_an_true (show nt_an (nt_xc x) (List.rec (motive := fun _ => Bool) true (fun c _ ih => nt_an (nt_xc c) ih) l) = true from hl)
      rcases List.mem_cons.mp hc with e | e
      · rw [e]
        exact h1
      · exact ih h2 c e
  exact key nt_cX h
theorem nt_low17 : nt_low 1700000000 1623258 := nt_low_of 29154 (by decide +kernel)
theorem nt_low100 : nt_low 10000000000 3169970 := nt_low_of 70710 (by decide +kernel)
theorem nt_low300 : nt_low 30000000000 4699786 := nt_low_of 122474 (by decide +kernel)
theorem nt_low500 : nt_low 50000000000 5616826 := nt_low_of 158113 (by decide +kernel)
theorem nt_low800 : nt_low 80000000000 6568378 := nt_low_of 199999 (by decide +kernel)
theorem nt_low1200 : nt_low 120000000000 7506186 := nt_low_of 244948 (by decide +kernel)
theorem nt_low1600 : nt_low 160000000000 8259042 := nt_low_of 282842 (by decide +kernel)
/-- none of the known ones is a factor -/
theorem nt_known {n r c : Nat} (h : nt_hyp n) (hn : n = r * c) (hr : nt_cf n r) (hc : nt_prime c) (hr3 : r % 3 = 2) (hc3 : c % 3 = 1) (hX : c ∈ nt_cX) : False := by
  obtain ⟨T, u, d, hT, hu, hd, hT2, hT3, hd6, hu2, hu3, hc24, hpow, hchi⟩ := nt_split h hn hr hc hr3 hc3
  have hcd : c ∣ n := ⟨r, by rw [hn, Nat.mul_comm]⟩
  have hmin : ∀ x, x ∈ nt_cX → 1700000000 ≤ x ∧ x < 30000000000 := by decide
  have hmin6 : ∀ x, x ∈ nt_cX → (x - 1) / 6 % 3 = 0 ∨ 1152921504606846976 ≤ ((x - 1) / 6 + 1) * x := by decide
  obtain ⟨m1, m2⟩ := hmin c hX
  have hd1700 : d < 10200 := by
    apply Classical.byContradiction
    intro hge
    by_cases h100 : 10000000000 ≤ c
    · have := nt_low100 n c h hc hcd h100
      rw [← hT] at this
      have := Nat.mul_le_mul (by omega : 10200 ≤ d) this
      omega
    · have := nt_low17 n c h hc hcd m1
      rw [← hT] at this
      have := Nat.mul_le_mul (by omega : 10200 ≤ d) this
      omega
  have hd0 : 0 < d := by
    rcases Nat.eq_zero_or_pos d with e | e
    · subst e
      omega
    · exact e
  have hx := nt_xc_all c hX
  unfold nt_xc at hx
  have h1 := nt_all_sound _ _ hx (d / 6 - 1) (by omega)
  simp only [nt_fc_eq] at h1
  have e1 : Nat.mul 6 (Nat.succ (d / 6 - 1)) = d := by
    show 6 * (d / 6 - 1 + 1) = d
    omega
  have e2 : Nat.div (Nat.sub c 1) d = T := by
    show (c - 1) / d = T
    rw [hd, Nat.mul_div_cancel_left _ hd0]
  have e3 : Nat.mod (Nat.sub c 1) d = 0 := by
    show (c - 1) % d = 0
    rw [hd, Nat.mul_mod_right]
  rw [e1, e2, e3] at h1
  have hno : ∀ a, a ∈ nt_A → nt_nt (Nat.beq (nt_p2 a c T) 1) = true → False := by
    intro a ha hf
    have := nt_nt_true hf
    rw [nt_p2_ne (by omega) (hpow a ha)] at this
    exact Bool.noConfusion this
  rcases nt_or_true h1 with h2 | h2
  · exact Bool.noConfusion (show false = true from h2)
  · rcases nt_or_true h2 with h2 | h2
    · have h6 := Nat.eq_of_beq_eq_true h2
      have hTe : (c - 1) / 6 = T := by rw [← h6]; exact e2
      rcases hmin6 c hX with h7 | h7
      · rw [hTe] at h7
        exact hT3 h7
      · rw [hTe] at h7
        have hu0 : 0 < u := by omega
        have : T ≤ u * T := Nat.le_mul_of_pos_left T hu0
        have hr1 : T + 1 ≤ r := by
          have := hr.1
          omega
        have := Nat.mul_le_mul_right c hr1
        have := h.2.2.1
        omega
    · rcases nt_or_true h2 with h2 | h2
      · exact hT3 (Nat.eq_of_beq_eq_true h2)
      · rcases nt_or_true h2 with h2 | h2
        · exact hno 2 (by decide) h2
        · rcases nt_or_true h2 with h2 | h2
          · exact hno 3 (by decide) h2
          · rcases nt_or_true h2 with h2 | h2
            · exact hno 5 (by decide) h2
            · exact hno 7 (by decide) h2
