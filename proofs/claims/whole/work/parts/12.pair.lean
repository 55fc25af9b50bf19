/-! two prime factors r, s known: what is left is one residue -/
noncomputable def nt_pg (D T a m k : Nat) : Nat → Nat :=
  Nat.rec (motive := fun _ => Nat → Nat) (fun e => Nat.mod (Nat.pow a e) m)
    (fun _ ih e => Bool.rec (nt_fc (ih (Nat.div e D)) (fun x => Nat.mod (Nat.mul (Nat.pow x D) (Nat.pow a (Nat.mod e D))) m)) (Nat.mod (Nat.pow a e) m) (Nat.ble e T)) k
theorem nt_pg_eq (D T a m : Nat) : ∀ k e, nt_pg D T a m k e = a ^ e % m := by
  intro k
  induction k with
  | zero => intro e; rfl
  | succ k ih =>
    intro e
    have h : nt_pg D T a m (k + 1) e = Bool.rec (nt_fc (nt_pg D T a m k (e / D)) (fun x => (x ^ D * a ^ (e % D)) % m)) (a ^ e % m) (Nat.ble e T) := rfl
    rw [h]
    cases Nat.ble e T with
    | true => rfl
    | false =>
      show nt_fc (nt_pg D T a m k (e / D)) (fun x => (x ^ D * a ^ (e % D)) % m) = _
      rw [nt_fc_eq, ih, Nat.mul_mod, ← Nat.pow_mod, ← Nat.mul_mod, ← Nat.pow_mul, ← Nat.pow_add]
      congr 2
      rw [Nat.mul_comm]
      exact Nat.div_add_mod e D
/-- a strong pseudoprime has 1 or -1 in the middle -/
theorem nt_sp_half {a n : Nat} (hn : 2 < n) (hno : n % 2 = 1) (h : nt_sp a n) : a ^ ((n - 1) / 2) % n = 1 ∨ a ^ ((n - 1) / 2) % n = n - 1 := by
  obtain ⟨o, f, h1, ho, h2⟩ := h
  cases f with
  | zero =>
    clear h2
    rw [Nat.pow_zero, Nat.one_mul] at h1
    omega
  | succ g =>
    have e : (n - 1) / 2 = 2 ^ g * o := by
      have : 2 ^ (g + 1) * o = 2 * (2 ^ g * o) := by rw [Nat.pow_succ]; grind
      omega
    rw [e]
    rcases h2 with h2 | ⟨i, hi, h2⟩
    · left
      rw [Nat.mul_comm, Nat.pow_mul, Nat.pow_mod, h2, Nat.one_pow, Nat.mod_eq_of_lt (by omega)]
    · by_cases hig : i = g
      · right
        rw [← hig]
        exact h2
      · left
        have e2 : 2 ^ g * o = 2 ^ i * o * 2 * 2 ^ (g - i - 1) := by
          have : 2 ^ g = 2 ^ i * 2 * 2 ^ (g - i - 1) := by
            rw [← Nat.pow_succ, ← Nat.pow_add]
            congr 1
            omega
          rw [this]
          grind
        have e3 : (n - 1) ^ 2 % n = 1 := by
          obtain ⟨k, rfl⟩ : ∃ k, n = k + 2 := ⟨n - 2, by omega⟩
          have : (k + 2 - 1) ^ 2 = (k + 2) * k + 1 := by
            rw [show k + 2 - 1 = k + 1 by omega]
            grind
          rw [this, Nat.mul_add_mod, Nat.mod_eq_of_lt (by omega)]
        rw [e2, Nat.pow_mul, Nat.pow_mul, Nat.pow_mod, Nat.pow_mod (a ^ (2 ^ i * o)) 2, h2, e3, Nat.one_pow, Nat.mod_eq_of_lt (by omega)]
/-- a power in seven steps, no recursion -/
noncomputable def nt_pz (a n e : Nat) : Nat := Nat.mod (Nat.mul (Nat.pow (Nat.mod (Nat.mul (Nat.pow (Nat.mod (Nat.mul (Nat.pow (Nat.mod (Nat.mul (Nat.pow (Nat.mod (Nat.mul (Nat.pow (Nat.mod (Nat.mul (Nat.pow (Nat.mod (Nat.pow a (Nat.div e 281474976710656)) n) 256) (Nat.pow a (Nat.mod (Nat.div e 1099511627776) 256))) n) 256) (Nat.pow a (Nat.mod (Nat.div e 4294967296) 256))) n) 256) (Nat.pow a (Nat.mod (Nat.div e 16777216) 256))) n) 256) (Nat.pow a (Nat.mod (Nat.div e 65536) 256))) n) 256) (Nat.pow a (Nat.mod (Nat.div e 256) 256))) n) 256) (Nat.pow a (Nat.mod e 256))) n
theorem nt_pz_eq (a n e : Nat) : nt_pz a n e = a ^ e % n := by
  have h : nt_pz a n e = ((((((a ^ (e / 281474976710656) % n) ^ 256 * a ^ (e / 1099511627776 % 256) % n) ^ 256 * a ^ (e / 4294967296 % 256) % n) ^ 256 * a ^ (e / 16777216 % 256) % n) ^ 256 * a ^ (e / 65536 % 256) % n) ^ 256 * a ^ (e / 256 % 256) % n) ^ 256 * a ^ (e % 256) % n := rfl
  have step : ∀ x y : Nat, ((a ^ x % n) ^ 256 * a ^ y) % n = a ^ (x * 256 + y) % n := by
    intro x y
    rw [Nat.mul_mod, ← Nat.pow_mod, ← Nat.mul_mod, ← Nat.pow_mul, ← Nat.pow_add]
  rw [h, step, step, step, step, step, step]
  congr 2
  omega
noncomputable def nt_kl3 (n e : Nat) : Bool := nt_fc (nt_pz 11 n (Nat.div e 2)) (fun x => nt_an (nt_nt (Nat.beq x 1)) (nt_nt (Nat.beq x e)))
noncomputable def nt_kl2 (n e : Nat) : Bool := nt_or (nt_nt (Nat.beq (nt_pz 3 n e) 1)) (nt_kl3 n e)
noncomputable def nt_kl1 (n e : Nat) : Bool := nt_or (nt_nt (Nat.beq (nt_pz 2 n e) 1)) (nt_kl2 n e)
/-- n is no pseudoprime to the base 2, or to the base 3, or 11 has neither 1 nor -1 in the middle -/
noncomputable def nt_kl (n : Nat) : Bool := nt_fc n (fun n => nt_fc (Nat.sub n 1) (fun e => nt_kl1 n e))
theorem nt_kl_sound {n : Nat} (h : nt_hyp n) : nt_kl n = false := by
  have hn := h.2.1
  have key : ∀ a, a ∈ nt_A → nt_nt (Nat.beq (nt_pz a n (Nat.sub n 1)) 1) = false := by
    intro a ha
    have h1 := nt_sp_fermat (s := n) (by omega) (h.2.2.2.2.1 a ha).1 (Nat.dvd_refl n)
    rw [nt_pz_eq]
    have h2 : a ^ (n - 1) % n = 1 % n := by
      apply nt_cg_toNat
      push_cast
      exact h1
    have e : Nat.sub n 1 = n - 1 := rfl
    rw [e, h2, Nat.mod_eq_of_lt (by omega)]
    rfl
  unfold nt_kl
  rw [nt_fc_eq, nt_fc_eq]
  unfold nt_kl1 nt_kl2 nt_kl3
  rw [key 2 (by decide), key 3 (by decide), nt_fc_eq, nt_pz_eq]
  have e : 11 ^ (Nat.div (Nat.sub n 1) 2) % n = 11 ^ ((n - 1) / 2) % n := rfl
  rw [e]
  rcases nt_sp_half (by omega) h.1 (h.2.2.2.2.1 11 (by decide)).1 with h1 | h1
  · rw [h1]
    rfl
  · rw [h1]
    have e2 : Nat.beq (n - 1) (Nat.sub n 1) = true := Nat.beq_refl _
    rw [e2]
    cases nt_nt (Nat.beq (n - 1) 1) with
    | true => rfl
    | false => rfl
noncomputable def nt_iv (z r : Nat) : Nat :=
  nt_fc z (fun z => nt_fc (Nat.sub r 2) (fun e => Nat.mod (Nat.mul (Nat.pow (Nat.mod (Nat.mul (Nat.pow (Nat.mod (Nat.pow z (Nat.div e 16384)) r) 128) (Nat.pow z (Nat.mod (Nat.div e 128) 128))) r) 128) (Nat.pow z (Nat.mod e 128))) r))
theorem nt_brec {a b : Bool} (h : (Bool.rec false b a : Bool) = true) : a = true ∧ b = true := nt_an_true h
theorem nt_brec2 {a b : Bool} (h : (Bool.rec b true a : Bool) = true) : a = true ∨ b = true := nt_or_true h
theorem nt_iv_eq (z r : Nat) : nt_iv z r = z ^ (r - 2) % r := by
  have h : nt_iv z r = ((((z ^ ((r - 2) / 16384) % r) ^ 128 * z ^ ((r - 2) / 128 % 128)) % r) ^ 128 * z ^ ((r - 2) % 128)) % r := rfl
  have step : ∀ x y : Nat, ((z ^ x % r) ^ 128 * z ^ y) % r = z ^ (x * 128 + y) % r := by
    intro x y
    rw [Nat.mul_mod, ← Nat.pow_mod, ← Nat.mul_mod, ← Nat.pow_mul, ← Nat.pow_add]
  rw [h, step, step]
  congr 2
  omega
/-- r prime: what is left of l, if z l + 1 is divided by r -/
theorem nt_iv_use {r z l : Nat} (hr : nt_prime r) (h2 : r % 2 = 1) (hl : r ∣ z * l + 1) : l % r = r - nt_iv (z % r) r := by
  have hr2 := hr.1
  have hz : ¬ r ∣ z := by
    intro hd
    have h1 : r ∣ 1 := (Nat.dvd_add_right (Nat.dvd_trans hd ⟨l, rfl⟩)).mp hl
    have := Nat.dvd_one.mp h1
    omega
  have e0 : nt_iv (z % r) r = z ^ (r - 2) % r := by rw [nt_iv_eq, ← Nat.pow_mod]
  rw [e0]
  have hF : z ^ (r - 1) % r = 1 % r := by
    apply nt_cg_toNat
    push_cast
    exact nt_fermat hr h2 hz
  have hF2 : (z * z ^ (r - 2)) % r = 1 := by
    have e : z * z ^ (r - 2) = z ^ (r - 1) := by
      rw [Nat.mul_comm, ← Nat.pow_succ]
      congr 1
      omega
    rw [e, hF, Nat.mod_eq_of_lt (by omega)]
  generalize z ^ (r - 2) = v at *
  have hv : v % r < r := Nat.mod_lt _ (by omega)
  have hv0 : v % r ≠ 0 := by
    intro e
    rw [Nat.mul_mod, e, Nat.mul_zero, Nat.zero_mod] at hF2
    omega
  have hd : (r : Int) ∣ (z : Int) * ((l : Int) + (v : Int)) := by
    have a1 : (r : Int) ∣ ((z * l + 1 : Nat) : Int) := Int.ofNat_dvd.mpr hl
    have a2 : nt_cg (r : Int) ((z * v : Nat) : Int) ((1 : Nat) : Int) := nt_cg_nat (by rw [hF2, Nat.mod_eq_of_lt (by omega)])
    have a3 : (r : Int) ∣ ((z * l + 1 : Nat) : Int) + (((z * v : Nat) : Int) - ((1 : Nat) : Int)) := Int.dvd_add a1 a2
    have e : ((z * l + 1 : Nat) : Int) + (((z * v : Nat) : Int) - ((1 : Nat) : Int)) = (z : Int) * ((l : Int) + (v : Int)) := by
      push_cast
      grind
    rw [e] at a3
    exact a3
  have hd2 : r ∣ l + v := by
    rcases nt_dvd_mulZ hr hd with h | h
    · exact absurd (Int.ofNat_dvd.mp h) hz
    · have e : (l : Int) + (v : Int) = ((l + v : Nat) : Int) := by push_cast; rfl
      rw [e] at h
      exact Int.ofNat_dvd.mp h
  have h3 : (l % r + v % r) % r = 0 := by
    rw [← Nat.add_mod]
    exact Nat.mod_eq_zero_of_dvd hd2
  have hlr : l % r < r := Nat.mod_lt _ (by omega)
  by_cases hs : l % r + v % r < r
  · rw [Nat.mod_eq_of_lt hs] at h3
    omega
  · rw [Nat.mod_eq_sub_mod (by omega), Nat.mod_eq_of_lt (by omega)] at h3
    omega
