/-! no square of a small prime divides n -/
theorem nt_pow_lin {R y : Int} (hy : R ∣ y - 1) : ∀ j : Nat, R * R ∣ y ^ j - 1 - (j : Int) * (y - 1) := by
  intro j
  induction j with
  | zero => exact ⟨0, by simp⟩
  | succ j ih =>
    obtain ⟨c, hc⟩ := ih
    obtain ⟨k, hk⟩ := hy
    refine ⟨c * y + (j : Int) * k * k, ?_⟩
    have e : y ^ (j + 1) - 1 - ((j + 1 : Nat) : Int) * (y - 1) = y * (y ^ j - 1 - (j : Int) * (y - 1)) + (j : Int) * ((y - 1) * (y - 1)) := by
      rw [Int.pow_succ]
      push_cast
      grind
    rw [e, hc, hk]
    grind
theorem nt_sq_one {n r : Nat} (h : nt_hyp n) (hr : nt_prime r) (hd : r * r ∣ n) : nt_cg ((r * r : Nat) : Int) ((2 : Int) ^ (r - 1)) 1 := by
  have hrd : r ∣ n := Nat.dvd_trans ⟨r, rfl⟩ hd
  have hn := h.2.1
  have hF : (r : Int) ∣ (2 : Int) ^ (r - 1) - 1 := nt_fermat (a := 2) hr (nt_h_odd h hrd) (nt_h_nd h hr hrd (by decide))
  have hS : ((r * r : Nat) : Int) ∣ (2 : Int) ^ (n - 1) - 1 := nt_sq h hr hd (a := 2) (by decide)
  have h1 : ((r * r : Nat) : Int) ∣ ((2 : Int) ^ (r - 1)) ^ (n - 1) - 1 := by
    have := nt_cg_pow (s := ((r * r : Nat) : Int)) (a := (2 : Int) ^ (n - 1)) (b := 1) hS (r - 1)
    rw [Int.one_pow, ← Int.pow_mul, Nat.mul_comm (n - 1) (r - 1), Int.pow_mul] at this
    exact this
  have h2 := nt_pow_lin hF (n - 1)
  have e0 : ((r * r : Nat) : Int) = (r : Int) * r := by push_cast; rfl
  rw [e0] at h1
  generalize (2 : Int) ^ (r - 1) = y at *
  have h3 := Int.dvd_sub h1 h2
  have e1 : y ^ (n - 1) - 1 - (y ^ (n - 1) - 1 - ((n - 1 : Nat) : Int) * (y - 1)) = ((n - 1 : Nat) : Int) * (y - 1) := by grind
  rw [e1] at h3
  have e2 : ((n - 1 : Nat) : Int) = (n : Int) - 1 := by omega
  rw [e2] at h3
  have h4 : (r : Int) * r ∣ (n : Int) * (y - 1) := by
    have : ((r * r : Nat) : Int) ∣ (n : Int) := Int.ofNat_dvd.mpr hd
    rw [e0] at this
    exact Int.dvd_trans this ⟨y - 1, rfl⟩
  have h5 := Int.dvd_sub h4 h3
  have e3 : (n : Int) * (y - 1) - ((n : Int) - 1) * (y - 1) = y - 1 := by grind
  rw [e3] at h5
  unfold nt_cg
  rw [e0]
  exact h5
noncomputable def nt_sqK (a : Nat) : Bool :=
  nt_all (fun b => nt_fc (Nat.add (Nat.mul 6 (Nat.add (Nat.mul 512 a) b)) 5) (fun r => nt_or (nt_nt (Nat.beq (Nat.gcd r 37182145) 1)) (nt_fc (Nat.mul r r) (fun r2 => nt_nt (Nat.beq (nt_p3 2 r2 (Nat.sub r 1)) 1))))) 512
theorem nt_sqA : nt_all nt_sqK 342 = true := by decide +kernel
theorem nt_cop29 {r : Nat} (hr : nt_prime r) (h : 29 ≤ r) : Nat.gcd r 37182145 = 1 := by
  have key : ∀ l, 0 < l → l < 29 → Nat.Coprime r l := by
    intro l h0 hl
    refine nt_cop hr ?_
    intro hd
    have := Nat.le_of_dvd h0 hd
    omega
  have e : (37182145 : Nat) = 5 * 7 * 11 * 13 * 17 * 19 * 23 := rfl
  rw [e]
  exact Nat.Coprime.mul_right (Nat.Coprime.mul_right (Nat.Coprime.mul_right (Nat.Coprime.mul_right (Nat.Coprime.mul_right (Nat.Coprime.mul_right (key 5 (by omega) (by omega)) (key 7 (by omega) (by omega))) (key 11 (by omega) (by omega))) (key 13 (by omega) (by omega))) (key 17 (by omega) (by omega))) (key 19 (by omega) (by omega))) (key 23 (by omega) (by omega))
theorem nt_nosq {n r : Nat} (h : nt_hyp n) (hr : nt_prime r) (hd : r * r ∣ n) (hr3 : r % 3 = 2) (hlt : r < 1048576) : False := by
  have hrd : r ∣ n := Nat.dvd_trans ⟨r, rfl⟩ hd
  have hg := nt_h_gt h hr hrd
  have ho := nt_h_odd h hrd
  have h1 := nt_all_sound _ _ nt_sqA (r / 6 / 512) (by omega)
  unfold nt_sqK at h1
  have h2 := nt_all_sound _ _ h1 (r / 6 % 512) (by omega)
  rw [nt_fc_eq] at h2
  have e : Nat.add (Nat.mul 6 (Nat.add (Nat.mul 512 (r / 6 / 512)) (r / 6 % 512))) 5 = r := by
    show 6 * (512 * (r / 6 / 512) + r / 6 % 512) + 5 = r
    omega
  rw [e] at h2
  rcases nt_or_true h2 with h3 | h3
  · have h3 := nt_nt_true h3
    rw [nt_cop29 hr hg] at h3
    exact Bool.noConfusion h3
  · rw [nt_fc_eq] at h3
    have h3 := nt_nt_true h3
    have h4 : Nat.beq (nt_p3 2 (r * r) (r - 1)) 1 = true := nt_p3_one (by
      have := Nat.mul_le_mul hg hg
      omega) (nt_sq_one h hr hd)
    have h3 : Nat.beq (nt_p3 2 (r * r) (r - 1)) 1 = false := h3
    rw [h4] at h3
    exact Bool.noConfusion h3
