/-! the class of a number: squares modulo 5 .. 23 -/
def nt_L : List Nat := [5, 7, 11, 13, 17, 19, 23]
def nt_qm (l : Nat) : Nat := if l = 5 then 18 else if l = 7 then 22 else if l = 11 then 570 else if l = 13 then 5658 else if l = 17 then 107286 else if l = 19 then 199410 else if l = 23 then 340830 else 0
def nt_q (l x : Nat) : Bool := (nt_qm l).testBit (x % l)
theorem nt_q_mul {l x y : Nat} (hl : l ∈ nt_L) (hx : x % l ≠ 0) (hy : y % l ≠ 0) : nt_q l (x * y) = (nt_q l x == nt_q l y) := by
  have hpos : 0 < l := by
    have : ∀ l, l ∈ nt_L → 0 < l := by decide
    exact this l hl
  have key : ∀ l, l ∈ nt_L → ∀ i, i < l → ∀ j, j < l → i ≠ 0 → j ≠ 0 → (nt_qm l).testBit (i * j % l) = ((nt_qm l).testBit i == (nt_qm l).testBit j) := by decide +kernel
  have h := key l hl (x % l) (Nat.mod_lt _ hpos) (y % l) (Nat.mod_lt _ hpos) hx hy
  unfold nt_q
  rw [Nat.mul_mod]
  exact h
theorem nt_q_chi {l x : Nat} (hl : l ∈ nt_L) (h2 : x % 2 = 1) (hx : x % l ≠ 0) : nt_chi l x = (if nt_q l x then 1 else -1) * (if l % 4 = 3 ∧ x % 4 = 3 then -1 else 1) := by
  have key : ∀ l, l ∈ nt_L → ∀ i, i < 4 * l → i % 2 = 1 → i % l ≠ 0 → nt_sgn (nt_ch l i) = (if (nt_qm l).testBit (i % l) then 1 else -1) * (if l % 4 = 3 ∧ i % 4 = 3 then -1 else 1) := by decide +kernel
  have hpos : 0 < l := by
    have : ∀ l, l ∈ nt_L → 0 < l := by decide
    exact this l hl
  have e1 : x % (4 * l) % 2 = x % 2 := Nat.mod_mod_of_dvd _ ⟨2 * l, by omega⟩
  have e2 : x % (4 * l) % l = x % l := Nat.mod_mod_of_dvd _ ⟨4, by omega⟩
  have e3 : x % (4 * l) % 4 = x % 4 := Nat.mod_mod_of_dvd _ ⟨l, rfl⟩
  have h := key l hl (x % (4 * l)) (Nat.mod_lt _ (by omega)) (by rw [e1]; exact h2) (by rw [e2]; exact hx)
  rw [e2, e3] at h
  exact h
theorem nt_L_A : ∀ l, l ∈ nt_L → l ∈ nt_A := by decide
/-- two factors of one exponent of 2 are squares modulo the same numbers -/
theorem nt_h_q {n r s e x y : Nat} (h : nt_hyp n) (hr : nt_prime r) (hrd : r ∣ n) (hs : nt_prime s) (hsd : s ∣ n) (h1 : r - 1 = 2 ^ e * x) (hx : x % 2 = 1) (h2 : s - 1 = 2 ^ e * y) (hy : y % 2 = 1) (h4 : r % 4 = s % 4) {l : Nat} (hl : l ∈ nt_L) : nt_q l r = nt_q l s := by
  have hc := nt_h_same h hr hrd hs hsd h1 hx h2 hy (nt_L_A l hl)
  have hz : ∀ d, d ∣ n → d % l ≠ 0 := by
    intro d hd h0
    exact (h.2.2.2.2.1 l (nt_L_A l hl)).2 (Nat.dvd_trans (Nat.dvd_of_mod_eq_zero h0) hd)
  rw [nt_q_chi hl (nt_h_odd h hrd) (hz r hrd), nt_q_chi hl (nt_h_odd h hsd) (hz s hsd), h4] at hc
  generalize hk : (if l % 4 = 3 ∧ s % 4 = 3 then (-1 : Int) else 1) = k at hc
  have hk1 : k = 1 ∨ k = -1 := by
    rw [← hk]
    split
    · exact Or.inr rfl
    · exact Or.inl rfl
  cases hq : nt_q l r <;> cases hq' : nt_q l s <;> rw [hq, hq'] at hc <;> rcases hk1 with hk1 | hk1 <;> rw [hk1] at hc <;> first | rfl | exact absurd hc (by decide)
/-- the residues modulo 8 and 2 ** (e + 1) -/
theorem nt_e_mod {s e x : Nat} (h : s - 1 = 2 ^ e * x) (hx : x % 2 = 1) (hs : 2 < s) : s % 2 ^ (e + 1) = 2 ^ e % 2 ^ (e + 1) + 1 % 2 ^ (e + 1) ∨ s % 2 ^ (e + 1) = (2 ^ e + 1) % 2 ^ (e + 1) := by
  right
  have e1 : s = (2 ^ e + 1) + 2 ^ (e + 1) * (x / 2) := by
    have : 2 ^ e * x = 2 ^ e + 2 ^ (e + 1) * (x / 2) := by
      conv => lhs; rw [show x = 1 + 2 * (x / 2) by omega]
      rw [Nat.pow_succ]
      grind
    omega
  rw [e1, Nat.add_mul_mod_self_left]
theorem nt_h_mod {n r s e x y : Nat} (h : nt_hyp n) (hr : nt_prime r) (hrd : r ∣ n) (hs : nt_prime s) (hsd : s ∣ n) (h1 : r - 1 = 2 ^ e * x) (hx : x % 2 = 1) (h2 : s - 1 = 2 ^ e * y) (hy : y % 2 = 1) : r % 2 ^ (e + 1) = s % 2 ^ (e + 1) ∧ r % 8 = s % 8 := by
  have hrg := nt_h_gt h hr hrd
  have hsg := nt_h_gt h hs hsd
  have hro := nt_h_odd h hrd
  have hso := nt_h_odd h hsd
  have he : r % 2 ^ (e + 1) = s % 2 ^ (e + 1) := by
    have ee : ∀ z w, z - 1 = 2 ^ e * w → w % 2 = 1 → 2 < z → z % 2 ^ (e + 1) = (2 ^ e + 1) % 2 ^ (e + 1) := by
      intro z w hz hw hz2
      have e1 : z = (2 ^ e + 1) + 2 ^ (e + 1) * (w / 2) := by
        have : 2 ^ e * w = 2 ^ e + 2 ^ (e + 1) * (w / 2) := by
          conv => lhs; rw [show w = 1 + 2 * (w / 2) by omega]
          rw [Nat.pow_succ]
          grind
        omega
      rw [e1, Nat.add_mul_mod_self_left]
    rw [ee r x h1 hx (by omega), ee s y h2 hy (by omega)]
  refine ⟨he, ?_⟩
  match e with
  | 0 =>
    rw [Nat.pow_zero, Nat.one_mul] at h1
    omega
  | 1 =>
    have hc := nt_h_same h hr hrd hs hsd h1 hx h2 hy (a := 2) (by decide)
    rw [nt_chi2 r hro, nt_chi2 s hso] at hc
    have h4 : r % 4 = s % 4 := he
    have h43 : r % 4 = 3 := by
      rw [Nat.pow_one] at h1
      omega
    split at hc <;> split at hc <;> first | omega | exact absurd hc (by decide)
  | e + 2 =>
    have hd : 8 ∣ 2 ^ (e + 2 + 1) := ⟨2 ^ e, by rw [show e + 2 + 1 = 3 + e by omega, Nat.pow_add]⟩
    have e1 := Nat.mod_mod_of_dvd r hd
    have e2 := Nat.mod_mod_of_dvd s hd
    rw [← e1, ← e2, he]
/-- every divisor of n lies in the class or in its square -/
theorem nt_div_class {n W p : Nat} {v : Nat → Bool} (h : nt_hyp n) (hall : ∀ s, nt_prime s → s ∣ n → s % 3 = 2 ∧ s % W = p % W ∧ ∀ l, l ∈ nt_L → nt_q l s = v l) (hW : (p * p) % W = 1 % W) : ∀ d, d ∣ n → 0 < d → (d % 3 = 2 ∧ d % W = p % W ∧ ∀ l, l ∈ nt_L → nt_q l d = v l) ∨ (d % 3 = 1 ∧ d % W = 1 % W ∧ ∀ l, l ∈ nt_L → nt_q l d = true) := by
  intro d
  induction d using Nat.strongRecOn with
  | ind d ih =>
    intro hd hpos
    by_cases h1 : d = 1
    · subst h1
      refine Or.inr ⟨rfl, rfl, ?_⟩
      have : ∀ l, l ∈ nt_L → nt_q l 1 = true := by decide
      exact this
    · obtain ⟨s, hs, c, hc⟩ := nt_factor d (by omega)
      have hsn : s ∣ n := Nat.dvd_trans ⟨c, hc⟩ hd
      have hcn : c ∣ n := Nat.dvd_trans ⟨s, by rw [hc, Nat.mul_comm]⟩ hd
      have hc0 : 0 < c := by
        rcases Nat.eq_zero_or_pos c with e | e
        · subst e
          omega
        · exact e
      have hclt : c < d := by
        have := hs.1
        have := Nat.mul_le_mul_right c this
        omega
      obtain ⟨s3, sW, sq⟩ := hall s hs hsn
      have hz : ∀ x, x ∣ n → ∀ l, l ∈ nt_L → x % l ≠ 0 := by
        intro x hx l hl h0
        exact (h.2.2.2.2.1 l (nt_L_A l hl)).2 (Nat.dvd_trans (Nat.dvd_of_mod_eq_zero h0) hx)
      rcases ih c hclt hcn hc0 with ⟨c3, cW, cq⟩ | ⟨c3, cW, cq⟩
      · refine Or.inr ⟨?_, ?_, ?_⟩
        · rw [hc, Nat.mul_mod, s3, c3]
        · rw [hc, Nat.mul_mod, sW, cW, ← Nat.mul_mod, hW]
        · intro l hl
          rw [hc, nt_q_mul hl (hz s hsn l hl) (hz c hcn l hl), sq l hl, cq l hl]
          cases v l <;> rfl
      · refine Or.inl ⟨?_, ?_, ?_⟩
        · rw [hc, Nat.mul_mod, s3, c3]
        · rw [hc, Nat.mul_mod, sW, cW, ← Nat.mul_mod, Nat.mul_one]
        · intro l hl
          rw [hc, nt_q_mul hl (hz s hsn l hl) (hz c hcn l hl), sq l hl, cq l hl]
          cases v l <;> rfl
