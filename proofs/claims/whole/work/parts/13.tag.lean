/-! a scan whose numbers carry a tag in their low 32 bits -/
noncomputable def nt_sc (f : Nat → Bool) (k : Nat) : Nat → Bool :=
  Nat.rec (motive := fun _ => Nat → Bool) (fun _ => false)
    (fun _ ih Z => Bool.rec (nt_fc (Nat.land Z (Nat.sub Z 4294967296)) (fun Y => nt_fc (Nat.mod (Nat.shiftRight nt_TB (Nat.mul 12 (Nat.mod (Nat.shiftRight (Nat.xor Z Y) 32) 4099))) 4096) (fun i =>
      Bool.rec false (Bool.rec false (ih Y) (f i)) (Nat.beq (Nat.xor Z Y) (Nat.pow 2 (Nat.add i 32)))))) true (Nat.ble Z 4294967295)) k
theorem nt_sc_sound (f : Nat → Bool) : ∀ k Z, nt_sc f k Z = true → ∀ i, Z.testBit (i + 32) = true → f i = true := by
  intro k
  induction k with
  | zero => intro Z h; exact Bool.noConfusion (show false = true from h)
  | succ k ih =>
    intro Z h i hi
    have h' : Bool.rec (nt_fc (Nat.land Z (Nat.sub Z 4294967296)) (fun Y => nt_fc (Nat.mod (Nat.shiftRight nt_TB (Nat.mul 12 (Nat.mod (Nat.shiftRight (Nat.xor Z Y) 32) 4099))) 4096) (fun i =>
      Bool.rec false (Bool.rec false (nt_sc f k Y) (f i)) (Nat.beq (Nat.xor Z Y) (Nat.pow 2 (Nat.add i 32)))))) true (Nat.ble Z 4294967295) = true := h
    rcases nt_brec2 h' with h1 | h1
    · exfalso
      have h1 := Nat.le_of_ble_eq_true h1
      have h2 : 2 ^ (i + 32) ≤ Z := Nat.ge_two_pow_of_testBit hi
      have h3 : 2 ^ 32 ≤ 2 ^ (i + 32) := Nat.pow_le_pow_right (by omega) (by omega)
      omega
    · rw [nt_fc_eq, nt_fc_eq] at h1
      generalize Nat.land Z (Nat.sub Z 4294967296) = Y at *
      generalize Nat.mod (Nat.shiftRight nt_TB (Nat.mul 12 (Nat.mod (Nat.shiftRight (Nat.xor Z Y) 32) 4099))) 4096 = j at *
      obtain ⟨h2, h3⟩ := nt_brec h1
      obtain ⟨h3, h4⟩ := nt_brec h3
      have h2 : Z ^^^ Y = 2 ^ (j + 32) := Nat.eq_of_beq_eq_true h2
      by_cases he : i = j
      · rw [he]
        exact h3
      · refine ih Y h4 i ?_
        have e := congrArg (fun x => Nat.testBit x (i + 32)) h2
        simp only [Nat.testBit_xor, Nat.testBit_two_pow] at e
        rw [hi] at e
        have hd : decide (j + 32 = i + 32) = false := by
          rw [decide_eq_false_iff_not]
          omega
        rw [hd] at e
        cases hY : Y.testBit (i + 32) with
        | true => rfl
        | false => rw [hY] at e; exact Bool.noConfusion e
/-- chunks of 4096 bits: b is the index of the first bit; N stays as it is, so that few large numbers are made -/
noncomputable def nt_scT (f : Nat → Bool) (c b N : Nat) : Bool :=
  nt_an (Nat.beq (Nat.shiftRight N (Nat.mul 4096 c)) 0) (nt_all (fun j => nt_fc (Nat.mul 4096 j) (fun o => nt_fc (Nat.add b o) (fun bo =>
    nt_sc (fun i => nt_fc (Nat.add bo i) f) 4097 (Nat.add (Nat.mul (Nat.pow 2 32) (Nat.mod (Nat.shiftRight N o) (Nat.pow 2 4096))) (Nat.mod bo (Nat.pow 2 32)))))) c)
theorem nt_scT_sound (f : Nat → Bool) : ∀ c b N, nt_scT f c b N = true → ∀ i, N.testBit i = true → f (b + i) = true := by
  intro c b N h i hi
  unfold nt_scT at h
  obtain ⟨h1, h2⟩ := nt_an_true h
  have h1 : N >>> (4096 * c) = 0 := Nat.eq_of_beq_eq_true h1
  have hic : i < 4096 * c := by
    apply Classical.byContradiction
    intro hge
    have e : (N >>> (4096 * c)).testBit (i - 4096 * c) = true := by
      rw [Nat.testBit_shiftRight, show 4096 * c + (i - 4096 * c) = i by omega]
      exact hi
    rw [h1] at e
    simp at e
  have h3 := nt_all_sound _ _ h2 (i / 4096) (by omega)
  rw [nt_fc_eq, nt_fc_eq] at h3
  have e1 : Nat.mul 4096 (i / 4096) = 4096 * (i / 4096) := rfl
  rw [e1] at h3
  have e2 : Nat.add b (4096 * (i / 4096)) = b + 4096 * (i / 4096) := rfl
  rw [e2] at h3
  have h4 := nt_sc_sound _ _ _ h3 (i % 4096) (by
    show (2 ^ 32 * ((N >>> (4096 * (i / 4096))) % 2 ^ 4096) + (b + 4096 * (i / 4096)) % 2 ^ 32).testBit (i % 4096 + 32) = true
    rw [Nat.testBit_two_pow_mul_add _ (Nat.mod_lt _ (Nat.two_pow_pos 32)), if_neg (by omega), Nat.add_sub_cancel, Nat.testBit_mod_two_pow, Nat.testBit_shiftRight, show 4096 * (i / 4096) + i % 4096 = i by omega, hi]
    have : i % 4096 < 4096 := Nat.mod_lt _ (by omega)
    simp [this])
  rw [nt_fc_eq] at h4
  have e3 : Nat.add (b + 4096 * (i / 4096)) (i % 4096) = b + i := by
    show b + 4096 * (i / 4096) + i % 4096 = b + i
    omega
  rw [e3] at h4
  exact h4
