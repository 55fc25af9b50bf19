/-! the order is all of s - 1, or half of it -/
theorem nt_h_index {n s N I : Nat} (h : nt_hyp n) (hs : nt_prime s) (hd : s ∣ n) (hs3 : s % 3 = 2) (hN : N ≤ Nat.gcd (s - 1) (n - 1)) (hI : s - 1 < N * (I + 1)) (ht : ∀ l, nt_prime l → 5 ≤ l → l ≤ I → l ∣ s - 1 → ∃ a, a ∈ nt_A ∧ ¬ nt_cg (s : Int) ((a : Int) ^ ((s - 1) / l)) 1) : (s - 1) ∣ n - 1 ∨ ((s - 1) / 2 ∣ n - 1 ∧ ∀ a, a ∈ nt_A → nt_chi a s = 1) := by
  have hsg := nt_h_gt h hs hd
  have hso := nt_h_odd h hd
  have hpow : ∀ a, a ∈ nt_A → nt_cg (s : Int) ((a : Int) ^ (Nat.gcd (s - 1) (n - 1))) 1 := fun a ha => nt_h_pow h hs hd ha
  have hTd : Nat.gcd (s - 1) (n - 1) ∣ s - 1 := Nat.gcd_dvd_left _ _
  have hTn : Nat.gcd (s - 1) (n - 1) ∣ n - 1 := Nat.gcd_dvd_right _ _
  generalize Nat.gcd (s - 1) (n - 1) = T at *
  obtain ⟨i, hi⟩ := hTd
  have hi0 : 0 < i := by
    rcases Nat.eq_zero_or_pos i with e | e
    · subst e
      omega
    · exact e
  have hiI : i ≤ I := by
    apply Classical.byContradiction
    intro hc
    have h1 : T * (I + 1) ≤ T * i := Nat.mul_le_mul_left T (by omega)
    have h2 : N * (I + 1) ≤ T * (I + 1) := Nat.mul_le_mul_right _ hN
    omega
  have hl : ∀ l, nt_prime l → l ∣ i → l = 2 ∧ ∀ a, a ∈ nt_A → nt_cg (s : Int) ((a : Int) ^ ((s - 1) / 2)) 1 := by
    intro l hlp hli
    have hle := Nat.le_of_dvd hi0 hli
    have hl2 := hlp.1
    obtain ⟨c, hc⟩ := hli
    have hdiv : (s - 1) / l = T * c := by
      rw [hi, hc, show T * (l * c) = l * (T * c) by grind, Nat.mul_div_cancel_left _ (by omega)]
    have hone : ∀ a, a ∈ nt_A → nt_cg (s : Int) ((a : Int) ^ ((s - 1) / l)) 1 := by
      intro a ha
      rw [hdiv]
      exact nt_pow_of_dvd (hpow a ha) ⟨c, rfl⟩
    have hld : l ∣ s - 1 := ⟨T * c, by rw [hi, hc]; grind⟩
    by_cases h5 : 5 ≤ l
    · obtain ⟨a, ha, hna⟩ := ht l hlp h5 (by omega) hld
      exact absurd (hone a ha) hna
    · have : l = 2 ∨ l = 3 ∨ l = 4 := by omega
      rcases this with e | e | e
      · subst e
        exact ⟨rfl, hone⟩
      · subst e
        omega
      · subst e
        rcases hlp.2 2 ⟨2, rfl⟩ with e | e <;> omega
  by_cases h1 : i = 1
  · left
    rw [h1, Nat.mul_one] at hi
    rw [hi]
    exact hTn
  · right
    obtain ⟨l, hlp, hli⟩ := nt_factor i (by omega)
    obtain ⟨he, hall⟩ := hl l hlp hli
    have hchi : ∀ a, a ∈ nt_A → nt_chi a s = 1 := by
      intro a ha
      have ha0 : 0 < a := by have := (nt_A_prime a ha).1; omega
      have hE := nt_euler hs hso ha0 (nt_h_nd h hs hd ha)
      have e2 : s / 2 = (s - 1) / 2 := by omega
      rw [e2] at hE
      have h3 := nt_cg_trans (nt_cg_symm hE) (hall a ha)
      unfold nt_chi at h3 ⊢
      exact nt_sgn_cg (k := 0) (by omega) h3
    refine ⟨?_, hchi⟩
    have h3 := hchi 3 (by decide)
    rw [nt_chi3 s hso (by omega)] at h3
    have h12 : s % 12 = 1 ∨ s % 12 = 11 := by
      apply Classical.byContradiction
      intro hn
      rw [if_neg hn] at h3
      exact absurd h3 (by decide)
    have h4 : s % 4 = 3 := by omega
    have hi2 : i = 2 := by
      subst he
      obtain ⟨c, hc⟩ := hli
      by_cases hc1 : c = 1
      · rw [hc, hc1]
      · exfalso
        have hc0 : c ≠ 0 := by
          intro e
          rw [e] at hc
          omega
        obtain ⟨l', hl', hlc⟩ := nt_factor c (by omega)
        have := (hl l' hl' (by rw [hc]; exact Nat.dvd_trans hlc ⟨2, Nat.mul_comm _ _⟩)).1
        subst this
        obtain ⟨c', hc'⟩ := hlc
        have : s - 1 = 4 * (T * c') := by rw [hi, hc, hc']; grind
        omega
    have : (s - 1) / 2 = T := by
      rw [hi, hi2]
      omega
    rw [this]
    exact hTn
/-- the kernel's test of the primes l of a list -/
noncomputable def nt_it (s : Nat) (ls : List Nat) : Bool :=
  List.rec (motive := fun _ => Bool) true (fun l _ ih => nt_an (nt_or (nt_nt (Nat.beq (Nat.mod (Nat.sub s 1) l) 0))
    (nt_fc (Nat.div (Nat.sub s 1) l) (fun e => nt_or (nt_nt (Nat.beq (nt_pm 2 s 5 e) 1)) (nt_or (nt_nt (Nat.beq (nt_pm 3 s 5 e) 1)) (nt_or (nt_nt (Nat.beq (nt_pm 5 s 5 e) 1)) (nt_or (nt_nt (Nat.beq (nt_pm 7 s 5 e) 1)) (nt_nt (Nat.beq (nt_pm 11 s 5 e) 1)))))))) ih) ls
theorem nt_it_sound {s : Nat} (hs : 1 < s) : ∀ ls, nt_it s ls = true → ∀ l, l ∈ ls → l ∣ s - 1 → ∃ a, a ∈ nt_A ∧ ¬ nt_cg (s : Int) ((a : Int) ^ ((s - 1) / l)) 1 := by
  intro ls
  induction ls with
  | nil => intro _ l hl; exact absurd hl List.not_mem_nil
  | cons l0 ls ih =>
    intro h l hl hd
    have h' : nt_an (nt_or (nt_nt (Nat.beq ((s - 1) % l0) 0))
      (nt_fc ((s - 1) / l0) (fun e => nt_or (nt_nt (Nat.beq (nt_pm 2 s 5 e) 1)) (nt_or (nt_nt (Nat.beq (nt_pm 3 s 5 e) 1)) (nt_or (nt_nt (Nat.beq (nt_pm 5 s 5 e) 1)) (nt_or (nt_nt (Nat.beq (nt_pm 7 s 5 e) 1)) (nt_nt (Nat.beq (nt_pm 11 s 5 e) 1)))))))) (nt_it s ls) = true := h
    obtain ⟨h1, h2⟩ := nt_an_true h'
    rcases List.mem_cons.mp hl with e | e
    · subst e
      have hno : ∀ a, nt_nt (Nat.beq (nt_pm a s 5 ((s - 1) / l)) 1) = true → ¬ nt_cg (s : Int) ((a : Int) ^ ((s - 1) / l)) 1 := by
        intro a ha hc
        have := nt_nt_true ha
        rw [nt_pm_ne hs hc] at this
        exact Bool.noConfusion this
      rcases nt_or_true h1 with h3 | h3
      · have := nt_nt_true h3
        rw [Nat.mod_eq_zero_of_dvd hd] at this
        exact Bool.noConfusion this
      · rw [nt_fc_eq] at h3
        rcases nt_or_true h3 with h3 | h3
        · exact ⟨2, by decide, hno 2 h3⟩
        · rcases nt_or_true h3 with h3 | h3
          · exact ⟨3, by decide, hno 3 h3⟩
          · rcases nt_or_true h3 with h3 | h3
            · exact ⟨5, by decide, hno 5 h3⟩
            · rcases nt_or_true h3 with h3 | h3
              · exact ⟨7, by decide, hno 7 h3⟩
              · exact ⟨11, by decide, hno 11 h3⟩
    · exact ih h2 l e hd
