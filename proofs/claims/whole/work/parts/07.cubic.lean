/-! prime factors that leave 1 divided by 3 -/
noncomputable def nt_pm (a m k : Nat) : Nat → Nat :=
  Nat.rec (motive := fun _ => Nat → Nat) (fun e => Nat.mod (Nat.pow a e) m)
    (fun _ ih e => Bool.rec (nt_fc (ih (Nat.div e 512)) (fun x => Nat.mod (Nat.mul (Nat.pow x 512) (Nat.pow a (Nat.mod e 512))) m)) (Nat.mod (Nat.pow a e) m) (Nat.ble e 65535)) k
theorem nt_pm_eq (a m : Nat) : ∀ k e, nt_pm a m k e = a ^ e % m := by
  intro k
  induction k with
  | zero => intro e; rfl
  | succ k ih =>
    intro e
    have h : nt_pm a m (k + 1) e = Bool.rec (nt_fc (nt_pm a m k (e / 512)) (fun x => (x ^ 512 * a ^ (e % 512)) % m)) (a ^ e % m) (Nat.ble e 65535) := rfl
    rw [h]
    cases Nat.ble e 65535 with
    | true => rfl
    | false =>
      show nt_fc (nt_pm a m k (e / 512)) (fun x => (x ^ 512 * a ^ (e % 512)) % m) = _
      rw [nt_fc_eq, ih, Nat.mul_mod, ← Nat.pow_mod, ← Nat.mul_mod, ← Nat.pow_mul, ← Nat.pow_add]
      congr 2
      omega
noncomputable def nt_all (g : Nat → Bool) (k : Nat) : Bool :=
  Nat.rec (motive := fun _ => Bool) true (fun j ih => nt_an (g j) ih) k
theorem nt_all_sound (g : Nat → Bool) : ∀ k, nt_all g k = true → ∀ j, j < k → g j = true := by
  intro k
  induction k with
  | zero => intro _ j hj; omega
  | succ k ih =>
    intro h j hj
    have h' : nt_an (g k) (nt_all g k) = true := h
    obtain ⟨h1, h2⟩ := nt_an_true h'
    by_cases he : j = k
    · rw [he]
      exact h1
    · exact ih h2 j (by omega)
noncomputable def nt_bit (M i : Nat) : Bool := Nat.beq (Nat.mod (Nat.shiftRight M i) 2) 1
theorem nt_bit_eq (M i : Nat) : nt_bit M i = M.testBit i := by
  have e : nt_bit M i = Nat.beq ((M >>> i) % 2) 1 := rfl
  rw [e, Nat.testBit_eq_decide_div_mod_eq, Nat.shiftRight_eq_div_pow]
  rcases Nat.mod_two_eq_zero_or_one (M / 2 ^ i) with h | h <;> rw [h] <;> rfl
noncomputable def nt_nt (a : Bool) : Bool := Bool.rec true false a
theorem nt_nt_true {a : Bool} (h : nt_nt a = true) : a = false := by
  cases a with
  | false => rfl
  | true => exact Bool.noConfusion (show false = true from h)
/-- all w whose residues stand in the masks: digit by digit -/
noncomputable def nt_dig (Ls : List (Nat × Nat)) (g : Nat → Bool) : Nat → Nat → Bool :=
  List.rec (motive := fun _ => Nat → Nat → Bool) (fun x _ => g x)
    (fun q _ ih x m => nt_all (fun k => nt_fc (Nat.add x (Nat.mul m k)) (fun y => nt_or (nt_nt (nt_bit q.2 (Nat.mod y q.1))) (nt_fc (Nat.mul m q.1) (fun m' => ih y m')))) q.1) Ls
def nt_prod (Ls : List (Nat × Nat)) (m : Nat) : Nat := Ls.foldl (fun m q => m * q.1) m
theorem nt_dig_sound (g : Nat → Bool) : ∀ (Ls : List (Nat × Nat)) (x m : Nat), 0 < m → nt_dig Ls g x m = true → ∀ w, w % m = x → (∀ q, q ∈ Ls → 0 < q.1 ∧ q.2.testBit (w % q.1) = true) → g (w % nt_prod Ls m) = true := by
  intro Ls
  induction Ls with
  | nil =>
    intro x m _ h w hw _
    have h' : g x = true := h
    rw [← hw] at h'
    exact h'
  | cons q Ls ih =>
    intro x m hm h w hw hq
    have h' : nt_all (fun k => nt_fc (x + m * k) (fun y => nt_or (nt_nt (nt_bit q.2 (y % q.1))) (nt_fc (m * q.1) (fun m' => nt_dig Ls g y m')))) q.1 = true := h
    obtain ⟨q0, qb⟩ := hq q List.mem_cons_self
    have h1 := nt_all_sound _ _ h' (w / m % q.1) (Nat.mod_lt _ q0)
    rw [nt_fc_eq, nt_fc_eq] at h1
    have e : x + m * (w / m % q.1) = w % (m * q.1) := by
      rw [Nat.mod_mul, hw]
    rw [e] at h1
    have e2 : w % (m * q.1) % q.1 = w % q.1 := Nat.mod_mul_left_mod _ _ _
    rw [e2] at h1
    rcases nt_or_true h1 with h2 | h2
    · have := nt_nt_true h2
      rw [nt_bit_eq, qb] at this
      exact Bool.noConfusion this
    · exact ih _ _ (Nat.mul_pos hm q0) h2 w rfl (fun q' hq' => hq q' (List.mem_cons_of_mem _ hq'))
def nt_cM : List (Nat × Nat) := [(13, 4647), (17, 33511), (19, 77999), (23, 170415)]
def nt_cM0 : List (Nat × Nat) := [(5, 5), (7, 35), (11, 151)]
def nt_cP : Nat := 0x33ad39b0f0bb32e072112c8bc304f2a2a2e4d6e8c9b5cb10a0d97165994a297dea87fa9ecbed6e46ca2cc169282eefc0113d6f2d3da040ca3e0cc32aa931c46cf1be6b0870442e5e40145a79bd71b800c3771039a6adc02af35045c97f883aaa8ed38eb29469637c93345ffd57f4bc67ec94a577c0415cb8be7e10deef19babe1612acc564527d737d4e6e412738a791ea4b90e7dbc3a8177b6c86fbe1a5df6a7360d11842e9f99e747cf70c6ca792fc6bb462c7a1cb7654c9b84ef487f2caa10404f2f721f68f57ae6c7501719c0be2dbc453e36aafbc733c0b9d42d3c314a47efd5fed3ceb5181ad674dfeed266ade59c8e01a0faf66e3a2f6c8555a270740d33bb1257
noncomputable def nt_in (x : Nat) (l : List Nat) : Bool := List.rec (motive := fun _ => Bool) false (fun y _ ih => nt_or (Nat.beq x y) ih) l
theorem nt_in_true {x : Nat} : ∀ l, nt_in x l = true → x ∈ l := by
  intro l
  induction l with
  | nil => intro h; exact Bool.noConfusion (show false = true from h)
  | cons y l ih =>
    intro h
    rcases nt_or_true (show nt_or (Nat.beq x y) (nt_in x l) = true from h) with h1 | h1
    · rw [Nat.eq_of_beq_eq_true h1]
      exact List.mem_cons_self
    · exact List.mem_cons_of_mem _ (ih h1)
def nt_cX : List Nat := [1785200041, 3983162569, 6315597649, 8465841409, 9140400361, 10332510049, 11016013009, 13258453849, 14847168961, 15299149321, 15709144441, 17228020489, 21612700561, 23699832601, 23726022961, 25467295681, 29120287849]
/-- composite, but made of the small primes alone -/
def nt_cY : List Nat := [14469841, 790020001, 1576826161]
/-- a power in four steps -/
noncomputable def nt_p2 (a c e : Nat) : Nat :=
  Nat.mod (Nat.mul (Nat.pow (Nat.mod (Nat.mul (Nat.pow (Nat.mod (Nat.mul (Nat.pow (Nat.mod (Nat.pow a (Nat.div e 2097152)) c) 128) (Nat.pow a (Nat.mod (Nat.div e 16384) 128))) c) 128) (Nat.pow a (Nat.mod (Nat.div e 128) 128))) c) 128) (Nat.pow a (Nat.mod e 128))) c
theorem nt_p2_eq (a c e : Nat) : nt_p2 a c e = a ^ e % c := by
  have h : nt_p2 a c e = ((((((a ^ (e / 2097152) % c) ^ 128 * a ^ (e / 16384 % 128)) % c) ^ 128 * a ^ (e / 128 % 128)) % c) ^ 128 * a ^ (e % 128)) % c := rfl
  have step : ∀ x y : Nat, ((a ^ x % c) ^ 128 * a ^ y) % c = a ^ (x * 128 + y) % c := by
    intro x y
    rw [Nat.mul_mod, ← Nat.pow_mod, ← Nat.mul_mod, ← Nat.pow_mul, ← Nat.pow_add]
  rw [h, step, step, step]
  congr 2
  omega
theorem nt_p2_ne {c a e : Nat} (hc : 1 < c) (h : nt_cg (c : Int) ((a : Int) ^ e) 1) : Nat.beq (nt_p2 a c e) 1 = true := by
  rw [nt_p2_eq]
  have h1 : a ^ e % c = 1 % c := by
    apply nt_cg_toNat
    push_cast
    exact h
  rw [h1, Nat.mod_eq_of_lt hc]
  rfl
/-- c has a factor, or a base is no cube, or it is one of the known -/
noncomputable def nt_cF (w : Nat) : Bool :=
  nt_fc (Nat.add (Nat.mul 24 w) 1) (fun c => nt_or (nt_fc (Nat.gcd (Nat.mod nt_cP c) c) (fun g => nt_an (Nat.ble 2 g) (Nat.ble (Nat.succ g) c)))
    (nt_fc (Nat.mul 8 w) (fun e => nt_or (nt_nt (Nat.beq (nt_p2 2 c e) 1)) (nt_or (nt_nt (Nat.beq (nt_p2 3 c e) 1)) (nt_or (nt_nt (Nat.beq (nt_p2 5 c e) 1))
      (nt_or (nt_nt (Nat.beq (nt_p2 7 c e) 1)) (nt_or (nt_nt (Nat.beq (nt_p2 11 c e) 1)) (nt_or (nt_nt (Nat.beq (nt_p2 13 c e) 1)) (nt_or (nt_nt (Nat.beq (nt_p2 17 c e) 1)) (nt_or (nt_nt (Nat.beq (nt_p2 19 c e) 1)) (nt_or (nt_nt (Nat.beq (nt_p2 23 c e) 1)) (nt_or (nt_in c nt_cY) (nt_in c nt_cX)))))))))))))
noncomputable def nt_cG (w : Nat) : Bool := nt_all (fun k => nt_fc (Nat.add w (Nat.mul 37182145 k)) nt_cF) 34
