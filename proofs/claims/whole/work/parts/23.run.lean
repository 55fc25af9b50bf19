/-! one class: its primes below 2 ** 20, all pairs of them, and the pairs with a larger one -/
theorem nt_bc {a b c : Bool} (h : (Bool.rec a b c : Bool) = true) : (c = true ∧ b = true) ∨ (c = false ∧ a = true) := by
  cases c with
  | true => exact Or.inl ⟨rfl, h⟩
  | false => exact Or.inr ⟨rfl, h⟩
/-- what a prime passes -/
noncomputable def nt_pr (s : Nat) : Bool := nt_an (Nat.beq (nt_p3 2 s (Nat.sub s 1)) 1) (nt_an (Nat.beq (nt_p3 3 s (Nat.sub s 1)) 1) (Nat.beq (nt_p3 7 s (Nat.sub s 1)) 1))
noncomputable def nt_cs (M p bo k : Nat) : Nat → List Nat → (List Nat → Bool) → Bool :=
  Nat.rec (motive := fun _ => Nat → List Nat → (List Nat → Bool) → Bool) (fun _ _ _ => false)
    (fun _ ih Z acc K => Bool.rec (nt_fc (Nat.land Z (Nat.sub Z 4294967296)) (fun Y => nt_fc (Nat.mod (Nat.shiftRight nt_TB (Nat.mul 12 (Nat.mod (Nat.shiftRight (Nat.xor Z Y) 32) 4099))) 4096) (fun i =>
      Bool.rec false (nt_fc (Nat.add p (Nat.mul M (Nat.add bo i))) (fun s => Bool.rec (ih Y acc K) (ih Y (List.cons s acc) K) (nt_pr s))) (Nat.beq (Nat.xor Z Y) (Nat.pow 2 (Nat.add i 32)))))) (K acc) (Nat.ble Z 4294967295)) k
theorem nt_cs_sound {M p bo : Nat} {K : List Nat → Bool} : ∀ k Z acc, nt_cs M p bo k Z acc K = true → ∃ R, K R = true ∧ (∀ x, x ∈ acc → x ∈ R) ∧ ∀ i, Z.testBit (i + 32) = true → nt_pr (p + M * (bo + i)) = true → p + M * (bo + i) ∈ R := by
  intro k
  induction k with
  | zero => intro Z acc h; exact Bool.noConfusion (show false = true from h)
  | succ k ih =>
    intro Z acc h
    have h' : (Bool.rec (nt_fc (Nat.land Z (Nat.sub Z 4294967296)) (fun Y => nt_fc (Nat.mod (Nat.shiftRight nt_TB (Nat.mul 12 (Nat.mod (Nat.shiftRight (Nat.xor Z Y) 32) 4099))) 4096) (fun i =>
      (Bool.rec false (nt_fc (Nat.add p (Nat.mul M (Nat.add bo i))) (fun s => (Bool.rec (nt_cs M p bo k Y acc K) (nt_cs M p bo k Y (List.cons s acc) K) (nt_pr s) : Bool))) (Nat.beq (Nat.xor Z Y) (Nat.pow 2 (Nat.add i 32))) : Bool)))) (K acc) (Nat.ble Z 4294967295) : Bool) = true := h
    rcases nt_bc h' with ⟨hb, h1⟩ | ⟨hb, h1⟩
    · refine ⟨acc, h1, fun x hx => hx, ?_⟩
      intro i hi
      exfalso
      have hb := Nat.le_of_ble_eq_true hb
      have h2 : 2 ^ (i + 32) ≤ Z := Nat.ge_two_pow_of_testBit hi
      have h3 : 2 ^ 32 ≤ 2 ^ (i + 32) := Nat.pow_le_pow_right (by omega) (by omega)
      omega
    · rw [nt_fc_eq, nt_fc_eq] at h1
      generalize Nat.land Z (Nat.sub Z 4294967296) = Y at *
      generalize Nat.mod (Nat.shiftRight nt_TB (Nat.mul 12 (Nat.mod (Nat.shiftRight (Nat.xor Z Y) 32) 4099))) 4096 = j at *
      obtain ⟨h2, h3⟩ := nt_brec h1
      rw [nt_fc_eq] at h3
      have h2 : Z ^^^ Y = 2 ^ (j + 32) := Nat.eq_of_beq_eq_true h2
      have hY : ∀ i, i ≠ j → Z.testBit (i + 32) = true → Y.testBit (i + 32) = true := by
        intro i he hi
        have e := congrArg (fun x => Nat.testBit x (i + 32)) h2
        simp only [Nat.testBit_xor, Nat.testBit_two_pow] at e
        rw [hi] at e
        have hd : decide (j + 32 = i + 32) = false := by
          rw [decide_eq_false_iff_not]
          omega
        rw [hd] at e
        cases hY : Y.testBit (i + 32) with
        | true => rfl
        | false => rw [hY] at e; exact Bool.noConfusion e
      have es : Nat.add p (Nat.mul M (Nat.add bo j)) = p + M * (bo + j) := rfl
      rw [es] at h3
      rcases nt_bc h3 with ⟨h4, h5⟩ | ⟨h4, h5⟩
      · obtain ⟨R, hK, hacc, hR⟩ := ih Y _ h5
        refine ⟨R, hK, fun x hx => hacc x (List.mem_cons_of_mem _ hx), ?_⟩
        intro i hi hf
        by_cases he : i = j
        · subst he
          exact hacc _ List.mem_cons_self
        · exact hR i (hY i he hi) hf
      · obtain ⟨R, hK, hacc, hR⟩ := ih Y _ h5
        refine ⟨R, hK, hacc, ?_⟩
        intro i hi hf
        by_cases he : i = j
        · subst he
          rw [h4] at hf
          exact Bool.noConfusion hf
        · exact hR i (hY i he hi) hf
noncomputable def nt_cc (M p N c : Nat) : Nat → List Nat → (List Nat → Bool) → Bool :=
  Nat.rec (motive := fun _ => Nat → List Nat → (List Nat → Bool) → Bool) (fun _ acc K => K acc)
    (fun _ ih o acc K => nt_fc (Nat.add (Nat.mul (Nat.pow 2 32) (Nat.mod (Nat.shiftRight N o) (Nat.pow 2 4096))) (Nat.mod o (Nat.pow 2 32))) (fun Z => nt_cs M p o 4097 Z acc (fun acc' => nt_fc (Nat.add o 4096) (fun o' => ih o' acc' K)))) c
theorem nt_cc_sound {M p N : Nat} {K : List Nat → Bool} : ∀ c o acc, nt_cc M p N c o acc K = true → ∃ R, K R = true ∧ (∀ x, x ∈ acc → x ∈ R) ∧ ∀ i, N.testBit i = true → o ≤ i → i < o + 4096 * c → nt_pr (p + M * i) = true → p + M * i ∈ R := by
  intro c
  induction c with
  | zero =>
    intro o acc h
    exact ⟨acc, h, fun x hx => hx, fun i _ h1 h2 => by omega⟩
  | succ c ih =>
    intro o acc h
    have h' : nt_fc (Nat.add (Nat.mul (Nat.pow 2 32) (Nat.mod (Nat.shiftRight N o) (Nat.pow 2 4096))) (Nat.mod o (Nat.pow 2 32))) (fun Z => nt_cs M p o 4097 Z acc (fun acc' => nt_fc (Nat.add o 4096) (fun o' => nt_cc M p N c o' acc' K))) = true := h
    rw [nt_fc_eq] at h'
    obtain ⟨R1, h1, h2, h3⟩ := nt_cs_sound _ _ _ h'
    rw [nt_fc_eq] at h1
    have h1 : nt_cc M p N c (o + 4096) R1 K = true := h1
    obtain ⟨R, hK, hR1, hR⟩ := ih _ _ h1
    refine ⟨R, hK, fun x hx => hR1 x (h2 x hx), ?_⟩
    intro i hi a b hf
    by_cases hlt : i < o + 4096
    · apply hR1
      have h4 := h3 (i - o) (by
        show (2 ^ 32 * ((N >>> o) % 2 ^ 4096) + o % 2 ^ 32).testBit (i - o + 32) = true
        rw [Nat.testBit_two_pow_mul_add _ (Nat.mod_lt _ (Nat.two_pow_pos 32)), if_neg (by omega), Nat.add_sub_cancel, Nat.testBit_mod_two_pow, Nat.testBit_shiftRight, show o + (i - o) = i by omega, hi]
        have : i - o < 4096 := by omega
        simp [this])
      rw [show o + (i - o) = i by omega] at h4
      exact h4 hf
    · exact hR i hi (by omega) (by omega) hf
/-- n = s + SPH l, for l = l0, l0 + r, .. up to Lm -/
noncomputable def nt_lq (SPH s1 r q Lm k : Nat) : Nat → Bool :=
  Nat.rec (motive := fun _ => Nat → Bool) (fun _ => false)
    (fun _ ih l => Bool.rec true (nt_an (nt_fc (Nat.add (Nat.mul SPH l) s1) (fun n1 => nt_or (nt_nt (Nat.beq (Nat.mod n1 q) 0)) (nt_kl (Nat.succ n1)))) (nt_fc (Nat.add l r) ih)) (Nat.ble l Lm)) k
theorem nt_lq_sound {SPH s1 r q Lm : Nat} : ∀ k l, nt_lq SPH s1 r q Lm k l = true → ∀ t, l + r * t ≤ Lm → q ∣ SPH * (l + r * t) + s1 → nt_kl (SPH * (l + r * t) + s1 + 1) = true := by
  intro k
  induction k with
  | zero => intro l h; exact Bool.noConfusion (show false = true from h)
  | succ k ih =>
    intro l h t hX hq
    have h' : (Bool.rec true (nt_an (nt_fc (SPH * l + s1) (fun n1 => nt_or (nt_nt (Nat.beq (n1 % q) 0)) (nt_kl (n1 + 1)))) (nt_fc (l + r) (nt_lq SPH s1 r q Lm k))) (Nat.ble l Lm) : Bool) = true := h
    have hl : l ≤ Lm := by
      have := Nat.le_add_right l (r * t)
      omega
    rw [Nat.ble_eq_true_of_le hl] at h'
    obtain ⟨h1, h2⟩ := nt_an_true h'
    rw [nt_fc_eq] at h1 h2
    cases t with
    | zero =>
      rw [Nat.mul_zero, Nat.add_zero] at *
      rcases nt_or_true h1 with h3 | h3
      · have := nt_nt_true h3
        rw [Nat.mod_eq_zero_of_dvd hq] at this
        exact Bool.noConfusion this
      · exact h3
    | succ t =>
      have e : l + r * (t + 1) = (l + r) + r * t := by
        rw [Nat.mul_succ]
        omega
      rw [e] at hX hq ⊢
      exact ih (l + r) h2 t hX hq
/-- the check of one pair: P H l + 1 is divided by r -/
noncomputable def nt_pq (h : Nat) (L : List (Nat × Nat)) (s s1 PH SPH Lm r : Nat) : Bool :=
  nt_fc (Nat.sub r (nt_iv (Nat.mod PH r) r)) (fun l => Bool.rec (Bool.rec (nt_lq SPH s1 r (Nat.div (Nat.sub r 1) h) Lm 64 l) (nt_or (nt_px h L s r) (Nat.beq (Nat.mod PH r) 0)) (Nat.ble (Nat.mul 48 r) Lm)) true (Nat.ble (Nat.succ Lm) l))
/-- what is the same for all r -/
noncomputable def nt_su (h P s : Nat) (K : Nat → Nat → Nat → Nat → Bool) : Bool :=
  nt_fc (Nat.sub s 1) (fun s1 => nt_fc (Nat.div s1 h) (fun H => nt_fc (Nat.mul P H) (fun PH => nt_fc (Nat.mul s PH) (fun SPH => nt_fc (Nat.div (Nat.sub (Nat.div 1152921504606846975 s) 1) PH) (fun Lm => K s1 PH SPH Lm)))))
theorem nt_su_eq (h P s : Nat) (K : Nat → Nat → Nat → Nat → Bool) : nt_su h P s K = K (s - 1) (P * ((s - 1) / h)) (s * (P * ((s - 1) / h))) ((1152921504606846975 / s - 1) / (P * ((s - 1) / h))) := rfl
/-- a pair that passes -/
def nt_pw (h P : Nat) (L : List (Nat × Nat)) (s r : Nat) : Prop := nt_pq h L s (s - 1) (P * ((s - 1) / h)) (s * (P * ((s - 1) / h))) ((1152921504606846975 / s - 1) / (P * ((s - 1) / h))) r = true
theorem nt_pw_sound {h P : Nat} {L : List (Nat × Nat)} {s r m : Nat} (hp : nt_pw h P L s r) (hr : nt_prime r) (hr2 : r % 2 = 1) (hP : 0 < P) (hs : 1 < s) (hH : 0 < (s - 1) / h) (hlt : r * s * m < 2 ^ 60) (hm : 0 < m) {k : Nat} (hk : r * m = k * ((s - 1) / h) + 1) (hkP : k % P = 0) (h1 : (r - 1) / h ∣ r * s * m - 1) (h2 : (s - 1) / h ∣ r * s * m - 1) (hL : ∀ q, q ∈ L → 0 < q.1 ∧ ∃ A, nt_tbK q.1 A q.2 = true ∧ A.testBit (m % q.1) = true) : nt_kl (r * s * m) = true := by
  have hr1 := hr.1
  unfold nt_pw nt_pq at hp
  rw [nt_fc_eq] at hp
  obtain ⟨l, hl⟩ : ∃ l, k = P * l := ⟨k / P, by have := Nat.div_add_mod k P; omega⟩
  have hPH : r * m = P * ((s - 1) / h) * l + 1 := by rw [hk, hl]; grind
  have hdl : r ∣ P * ((s - 1) / h) * l + 1 := ⟨m, hPH.symm⟩
  have hlr := nt_iv_use hr hr2 hdl
  have ePz : Nat.mod (P * ((s - 1) / h)) r = P * ((s - 1) / h) % r := rfl
  rw [ePz] at hp
  have esub : Nat.sub r (nt_iv (P * ((s - 1) / h) % r) r) = l % r := hlr.symm
  rw [esub] at hp
  have hn : r * s * m = s * (P * ((s - 1) / h)) * l + (s - 1) + 1 := by
    have : r * s * m = s * (r * m) := by grind
    rw [this, hPH, Nat.mul_add, Nat.mul_one]
    have : s * (P * ((s - 1) / h) * l) = s * (P * ((s - 1) / h)) * l := by grind
    omega
  have hPH0 : 0 < P * ((s - 1) / h) := Nat.mul_pos hP hH
  have hlm : l ≤ (1152921504606846975 / s - 1) / (P * ((s - 1) / h)) := by
    rw [Nat.le_div_iff_mul_le hPH0]
    have a1 : r * m ≤ 1152921504606846975 / s := by
      rw [Nat.le_div_iff_mul_le (by omega)]
      have : r * m * s = r * s * m := by grind
      omega
    have : l * (P * ((s - 1) / h)) = P * ((s - 1) / h) * l := Nat.mul_comm _ _
    omega
  generalize (1152921504606846975 / s - 1) / (P * ((s - 1) / h)) = Lm at *
  have hdm := Nat.mod_add_div l r
  rcases nt_bc hp with ⟨b1, _⟩ | ⟨_, b2⟩
  · exfalso
    have b1 : Lm + 1 ≤ l % r := Nat.le_of_ble_eq_true b1
    have := Nat.mod_le l r
    omega
  · rcases nt_bc b2 with ⟨_, c1⟩ | ⟨_, c1⟩
    · rcases nt_or_true c1 with c2 | c2
      · refine nt_px_sound c2 ?_ hlt hm h1 h2 hL
        have := Nat.mul_le_mul hr1 hs
        omega
      · exfalso
        have c2 : P * ((s - 1) / h) % r = 0 := Nat.eq_of_beq_eq_true c2
        have d1 : r ∣ P * ((s - 1) / h) * l := Nat.dvd_trans (Nat.dvd_of_mod_eq_zero c2) ⟨l, rfl⟩
        have d2 : r ∣ 1 := (Nat.dvd_add_right d1).mp hdl
        have := Nat.dvd_one.mp d2
        omega
    · have c1 : nt_lq (s * (P * ((s - 1) / h))) (s - 1) r ((r - 1) / h) Lm 64 (l % r) = true := c1
      have c2 := nt_lq_sound _ _ c1 (l / r) (by omega) (by
        rw [hdm]
        have : r * s * m - 1 = s * (P * ((s - 1) / h)) * l + (s - 1) := by omega
        rw [← this]
        exact h1)
      rw [hdm, ← hn] at c2
      exact c2
/-- f of every element that is at most s; larger ones are not let through -/
noncomputable def nt_tl (s : Nat) (f : Nat → Bool) (tl : List Nat) : Bool :=
  List.rec (motive := fun _ => Bool) true (fun r _ ih => nt_an (Bool.rec false (f r) (Nat.ble r s)) ih) tl
theorem nt_tl_sound {s : Nat} {f : Nat → Bool} : ∀ tl, nt_tl s f tl = true → ∀ r, r ∈ tl → r ≤ s ∧ f r = true := by
  intro tl
  induction tl with
  | nil => intro _ r hr; exact absurd hr List.not_mem_nil
  | cons y tl ih =>
    intro h r hr
    obtain ⟨h1, h2⟩ := nt_an_true (show nt_an (Bool.rec false (f y) (Nat.ble y s)) (nt_tl s f tl) = true from h)
    rcases List.mem_cons.mp hr with e | e
    · obtain ⟨a1, a2⟩ := nt_brec h1
      rw [e]
      exact ⟨Nat.le_of_ble_eq_true a1, a2⟩
    · exact ih h2 r e
/-- all pairs of the list, the larger one first -/
noncomputable def nt_prs (h P : Nat) (L : List (Nat × Nat)) (R : List Nat) : Bool :=
  List.rec (motive := fun _ => Bool) true (fun s tl ih => nt_an (nt_id s) (nt_an (nt_su h P s (fun s1 PH SPH Lm => nt_tl s (nt_pq h L s s1 PH SPH Lm) tl)) ih)) R
theorem nt_prs_sound {h P : Nat} {L : List (Nat × Nat)} : ∀ R, nt_prs h P L R = true → (∀ x, x ∈ R → nt_id x = true) ∧ ∀ x, x ∈ R → ∀ y, y ∈ R → x < y → nt_pw h P L y x := by
  intro R
  induction R with
  | nil => intro _; exact ⟨fun x hx => absurd hx List.not_mem_nil, fun x hx => absurd hx List.not_mem_nil⟩
  | cons s tl ih =>
    intro h0
    obtain ⟨h1, h2⟩ := nt_an_true (show nt_an (nt_id s) (nt_an (nt_su h P s (fun s1 PH SPH Lm => nt_tl s (nt_pq h L s s1 PH SPH Lm) tl)) (nt_prs h P L tl)) = true from h0)
    obtain ⟨h2, h3⟩ := nt_an_true h2
    rw [nt_su_eq] at h2
    have h2 := nt_tl_sound tl h2
    obtain ⟨i1, i2⟩ := ih h3
    refine ⟨?_, ?_⟩
    · intro x hx
      rcases List.mem_cons.mp hx with e | e
      · rw [e]
        exact h1
      · exact i1 x e
    · intro x hx y hy hlt
      rcases List.mem_cons.mp hx with e | e
      · rcases List.mem_cons.mp hy with e' | e'
        · omega
        · have := (h2 y e').1
          omega
      · rcases List.mem_cons.mp hy with e' | e'
        · rw [e']
          exact (h2 x e).2
        · exact i2 x e y e' hlt
noncomputable def nt_rv (R : List Nat) : List Nat → (List Nat → Bool) → Bool :=
  List.rec (motive := fun _ => List Nat → (List Nat → Bool) → Bool) (fun acc K => K acc) (fun a _ ih acc K => ih (List.cons a acc) K) R
theorem nt_rv_sound {K : List Nat → Bool} : ∀ R acc, nt_rv R acc K = true → ∃ R', K R' = true ∧ (∀ x, x ∈ acc → x ∈ R') ∧ ∀ x, x ∈ R → x ∈ R' := by
  intro R
  induction R with
  | nil => intro acc h; exact ⟨acc, h, fun x hx => hx, fun x hx => absurd hx List.not_mem_nil⟩
  | cons a R ih =>
    intro acc h
    obtain ⟨R', h1, h2, h3⟩ := ih (a :: acc) h
    refine ⟨R', h1, fun x hx => h2 x (List.mem_cons_of_mem _ hx), ?_⟩
    intro x hx
    rcases List.mem_cons.mp hx with e | e
    · rw [e]
      exact h2 a List.mem_cons_self
    · exact h3 x e
noncomputable def nt_asc (R : List Nat) : Nat → Bool :=
  List.rec (motive := fun _ => Nat → Bool) (fun _ => true) (fun a _ ih lo => nt_an (Nat.ble lo a) (ih a)) R
theorem nt_asc_ge : ∀ R lo, nt_asc R lo = true → ∀ x, x ∈ R → lo ≤ x := by
  intro R
  induction R with
  | nil => intro _ _ x hx; exact absurd hx List.not_mem_nil
  | cons a R ih =>
    intro lo h x hx
    obtain ⟨h1, h2⟩ := nt_an_true (show nt_an (Nat.ble lo a) (nt_asc R a) = true from h)
    have h1 := Nat.le_of_ble_eq_true h1
    rcases List.mem_cons.mp hx with e | e
    · omega
    · have := ih a h2 x e
      omega
/-- a larger s against the list, up to the bound B -/
noncomputable def nt_lr (B : Nat) (f : Nat → Bool) (R : List Nat) : Bool :=
  List.rec (motive := fun _ => Bool) true (fun r _ ih => Bool.rec true (nt_an (f r) ih) (Nat.ble r B)) R
theorem nt_lr_sound {B : Nat} {f : Nat → Bool} : ∀ R lo, nt_asc R lo = true → nt_lr B f R = true → ∀ r, r ∈ R → r ≤ B → f r = true := by
  intro R
  induction R with
  | nil => intro _ _ _ r hr; exact absurd hr List.not_mem_nil
  | cons a R ih =>
    intro lo ha h r hr hlt
    obtain ⟨a1, a2⟩ := nt_an_true (show nt_an (Nat.ble lo a) (nt_asc R a) = true from ha)
    have h' : (Bool.rec true (nt_an (f a) (nt_lr B f R)) (Nat.ble a B) : Bool) = true := h
    have hle : a ≤ r := by
      rcases List.mem_cons.mp hr with e | e
      · omega
      · exact nt_asc_ge R a a2 r e
    rw [Nat.ble_eq_true_of_le (by omega)] at h'
    obtain ⟨c1, c2⟩ := nt_an_true h'
    rcases List.mem_cons.mp hr with e | e
    · rw [e]
      exact c1
    · exact ih a a2 c2 r e hlt
/-- the larger ones: blocks of 65536 -/
noncomputable def nt_sf (h M p P r0 : Nat) (L : List (Nat × Nat)) (R : List Nat) (w : Nat) : Bool :=
  nt_fc (Nat.add p (Nat.mul M w)) (fun s => nt_fc (Nat.div 1152921504606846975 (Nat.mul s s)) (fun B => Bool.rec true (Bool.rec true (nt_or (nt_an (nt_id s) (nt_su h P s (fun s1 PH SPH Lm => nt_lr B (nt_pq h L s s1 PH SPH Lm) R))) (nt_nt (nt_pr s))) (Nat.beq (nt_p3 2 s (Nat.sub s 1)) 1)) (Nat.ble r0 B)))
noncomputable def nt_bl (M p r0 : Nat) (LV EX : List (Nat × Nat)) (f : Nat → Bool) (K2 : Nat) : Nat → Bool :=
  Nat.rec (motive := fun _ => Nat → Bool) (fun _ => false)
    (fun _ ih w0 => nt_fc (Nat.add p (Nat.mul M w0)) (fun s0 => Bool.rec (nt_an (nt_fc (Nat.land (nt_pats LV w0 65536) (nt_pats EX w0 65536)) (fun N => nt_scT f 16 w0 N)) (nt_fc (Nat.add w0 65536) ih)) true (Nat.ble 1152921504606846976 (Nat.mul r0 (Nat.mul s0 s0))))) K2
theorem nt_bl_sound {M p r0 : Nat} {LV EX : List (Nat × Nat)} {f : Nat → Bool} : ∀ K2 w0, nt_bl M p r0 LV EX f K2 w0 = true → ∀ w, w0 ≤ w → r0 * ((p + M * w) * (p + M * w)) < 2 ^ 60 → (∀ q, q ∈ LV → 0 < q.1 ∧ q.2 < 2 ^ q.1 ∧ q.2.testBit (w % q.1) = true) → (∀ q, q ∈ EX → 0 < q.1 ∧ q.2 < 2 ^ q.1 ∧ q.2.testBit (w % q.1) = true) → f w = true := by
  intro K2
  induction K2 with
  | zero => intro w0 h; exact Bool.noConfusion (show false = true from h)
  | succ K2 ih =>
    intro w0 h w hw hlt hV hE
    have h' : nt_fc (Nat.add p (Nat.mul M w0)) (fun s0 => (Bool.rec (nt_an (nt_fc (Nat.land (nt_pats LV w0 65536) (nt_pats EX w0 65536)) (fun N => nt_scT f 16 w0 N)) (nt_fc (Nat.add w0 65536) (nt_bl M p r0 LV EX f K2))) true (Nat.ble 1152921504606846976 (Nat.mul r0 (Nat.mul s0 s0))) : Bool)) = true := h
    rw [nt_fc_eq] at h'
    rcases nt_bc h' with ⟨b1, b2⟩ | ⟨b1, b2⟩
    · exfalso
      have b1 : 1152921504606846976 ≤ r0 * ((p + M * w0) * (p + M * w0)) := Nat.le_of_ble_eq_true b1
      have a1 : p + M * w0 ≤ p + M * w := Nat.add_le_add_left (Nat.mul_le_mul_left M hw) p
      have a2 := Nat.mul_le_mul_left r0 (Nat.mul_le_mul a1 a1)
      omega
    · obtain ⟨c1, c2⟩ := nt_an_true b2
      rw [nt_fc_eq] at c1 c2
      by_cases hb : w < w0 + 65536
      · have h3 := nt_scT_sound _ _ _ _ c1 (w - w0) (by
          show (nt_pats LV w0 65536 &&& nt_pats EX w0 65536).testBit (w - w0) = true
          have ew : w0 + (w - w0) = w := by omega
          rw [Nat.testBit_and, nt_pats_bit (by omega) LV (by rw [ew]; exact hV), nt_pats_bit (by omega) EX (by rw [ew]; exact hE)]
          rfl)
        rw [show w0 + (w - w0) = w by omega] at h3
        exact h3
      · exact ih (w0 + 65536) c2 w (by omega) hlt hV hE
noncomputable def nt_ph (h M p P K2 W1 : Nat) (L LV EX : List (Nat × Nat)) (R : List Nat) : Bool :=
  nt_an (nt_asc R 0) (List.rec (motive := fun _ => Bool) true (fun r0 _ _ => nt_bl M p r0 LV EX (nt_sf h M p P r0 L R) K2 W1) R)
noncomputable def nt_run (h M p P W1 c1 K2 : Nat) (TV TT : List (Nat × Nat × Nat)) (q24 : Nat × Nat) (EX : List (Nat × Nat)) (v : Nat) : Bool :=
  nt_fc (nt_pats (nt_sel TV v) 0 W1) (fun N => nt_cc M p N c1 0 List.nil (fun R =>
    nt_an (nt_prs h P (List.cons q24 (nt_sel TT v)) R) (nt_rv R List.nil (fun R' => nt_ph h M p P K2 W1 (List.cons q24 (nt_sel TT v)) (nt_sel TV v) EX R'))))
/-- what a run says -/
theorem nt_run_sound {h M p P W1 c1 K2 : Nat} {TV TT : List (Nat × Nat × Nat)} {q24 : Nat × Nat} {EX : List (Nat × Nat)} {v : Nat} (hrun : nt_run h M p P W1 c1 K2 TV TT q24 EX v = true) (hW : W1 ≤ 4096 * c1) {i j : Nat} (hi : i < W1) (hij : i < j)
    (hM : 0 < M) (hp0 : 0 < p) (fi : nt_pr (p + M * i) = true) (fj : nt_pr (p + M * j) = true)
    (vi : ∀ q, q ∈ nt_sel TV v → 0 < q.1 ∧ q.2 < 2 ^ q.1 ∧ q.2.testBit (i % q.1) = true) (vj : ∀ q, q ∈ nt_sel TV v → 0 < q.1 ∧ q.2 < 2 ^ q.1 ∧ q.2.testBit (j % q.1) = true)
    (ej : W1 ≤ j → ∀ q, q ∈ EX → 0 < q.1 ∧ q.2 < 2 ^ q.1 ∧ q.2.testBit (j % q.1) = true) (hlt : (p + M * i) * ((p + M * j) * (p + M * j)) < 2 ^ 60) :
    nt_id (p + M * i) = true ∧ nt_id (p + M * j) = true ∧ nt_pw h P (List.cons q24 (nt_sel TT v)) (p + M * j) (p + M * i) := by
  unfold nt_run at hrun
  rw [nt_fc_eq] at hrun
  obtain ⟨R, hK, _, hR⟩ := nt_cc_sound _ _ _ hrun
  obtain ⟨k1, k2⟩ := nt_an_true hK
  obtain ⟨p1, p2⟩ := nt_prs_sound R k1
  have mem : ∀ w, w < W1 → nt_pr (p + M * w) = true → (∀ q, q ∈ nt_sel TV v → 0 < q.1 ∧ q.2 < 2 ^ q.1 ∧ q.2.testBit (w % q.1) = true) → p + M * w ∈ R := by
    intro w hw hf hv
    refine hR w ?_ (by omega) (by omega) hf
    exact nt_pats_bit hw _ (by rw [Nat.zero_add]; exact hv)
  have mi := mem i hi fi vi
  have lt : p + M * i < p + M * j := Nat.add_lt_add_left (Nat.mul_lt_mul_of_pos_left hij hM) p
  refine ⟨p1 _ mi, ?_⟩
  by_cases hj : j < W1
  · have mj := mem j hj fj vj
    exact ⟨p1 _ mj, p2 _ mi _ mj lt⟩
  · obtain ⟨R', hK', _, hR'⟩ := nt_rv_sound R _ k2
    have mi' := hR' _ mi
    unfold nt_ph at hK'
    obtain ⟨q1, q2⟩ := nt_an_true hK'
    match R', mi', q1, q2 with
    | [], mi', _, _ => exact absurd mi' List.not_mem_nil
    | r0 :: R'', mi', q1, q2 =>
      have q2 : nt_bl M p r0 (nt_sel TV v) EX (nt_sf h M p P r0 (List.cons q24 (nt_sel TT v)) (r0 :: R'')) K2 W1 = true := q2
      have hr0 : r0 ≤ p + M * i := by
        rcases List.mem_cons.mp mi' with e | e
        · omega
        · obtain ⟨_, a2⟩ := nt_an_true (show nt_an (Nat.ble 0 r0) (nt_asc R'' r0) = true from q1)
          exact nt_asc_ge R'' r0 a2 _ e
      have hr0lt : r0 * ((p + M * j) * (p + M * j)) < 2 ^ 60 := Nat.lt_of_le_of_lt (Nat.mul_le_mul_right _ hr0) hlt
      have h3 := nt_bl_sound K2 W1 q2 j (by omega) hr0lt vj (ej (by omega))
      unfold nt_sf at h3
      rw [nt_fc_eq, nt_fc_eq] at h3
      have es : Nat.add p (Nat.mul M j) = p + M * j := rfl
      rw [es] at h3
      have hss : 0 < (p + M * j) * (p + M * j) := Nat.mul_pos (by omega) (by omega)
      have hiB : p + M * i ≤ Nat.div 1152921504606846975 (Nat.mul (p + M * j) (p + M * j)) := by
        show p + M * i ≤ 1152921504606846975 / ((p + M * j) * (p + M * j))
        rw [Nat.le_div_iff_mul_le hss]
        omega
      rcases nt_bc h3 with ⟨_, b2⟩ | ⟨b1, _⟩
      · rcases nt_bc b2 with ⟨_, c2⟩ | ⟨c1', _⟩
        · rcases nt_or_true c2 with c2 | c2
          case inr =>
            have c2 := nt_nt_true c2
            rw [c2] at fj
            exact Bool.noConfusion fj
          obtain ⟨d1, d2⟩ := nt_an_true c2
          rw [nt_su_eq] at d2
          exact ⟨d1, nt_lr_sound _ 0 q1 d2 _ mi' hiB⟩
        · have c1' : Nat.beq (nt_p3 2 (p + M * j) (p + M * j - 1)) 1 = false := c1'
          have fj := (nt_an_true (show nt_an (Nat.beq (nt_p3 2 (p + M * j) (p + M * j - 1)) 1) _ = true from fj)).1
          rw [c1'] at fj
          exact Bool.noConfusion fj
      · exfalso
        rw [Nat.ble_eq_true_of_le (Nat.le_trans hr0 hiB)] at b1
        exact Bool.noConfusion b1
