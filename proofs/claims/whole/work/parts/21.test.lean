/-! tests of a prime factor s: a power in three steps, and the index -/
noncomputable def nt_p3 (a c e : Nat) : Nat :=
  Nat.mod (Nat.mul (Nat.pow (Nat.mod (Nat.mul (Nat.pow (Nat.mod (Nat.pow a (Nat.div e 16384)) c) 128) (Nat.pow a (Nat.mod (Nat.div e 128) 128))) c) 128) (Nat.pow a (Nat.mod e 128))) c
theorem nt_p3_eq (a c e : Nat) : nt_p3 a c e = a ^ e % c := by
  have h : nt_p3 a c e = ((((a ^ (e / 16384) % c) ^ 128 * a ^ (e / 128 % 128)) % c) ^ 128 * a ^ (e % 128)) % c := rfl
  have step : ∀ x y : Nat, ((a ^ x % c) ^ 128 * a ^ y) % c = a ^ (x * 128 + y) % c := by
    intro x y
    rw [Nat.mul_mod, ← Nat.pow_mod, ← Nat.mul_mod, ← Nat.pow_mul, ← Nat.pow_add]
  rw [h, step, step]
  congr 2
  omega
theorem nt_p3_one {c a e : Nat} (hc : 1 < c) (h : nt_cg (c : Int) ((a : Int) ^ e) 1) : Nat.beq (nt_p3 a c e) 1 = true := by
  rw [nt_p3_eq]
  have h1 : a ^ e % c = 1 % c := by
    apply nt_cg_toNat
    push_cast
    exact h
  rw [h1, Nat.mod_eq_of_lt hc]
  rfl
def nt_B : List Nat := [2, 3, 5, 7, 11, 13, 17, 19, 23]
theorem nt_B_A : ∀ a, a ∈ nt_B → a ∈ nt_A := by decide
/-- one of the bases of the list is not 1 to the power e -/
noncomputable def nt_bs (s e : Nat) (l : List Nat) : Bool :=
  List.rec (motive := fun _ => Bool) false (fun a _ ih => nt_or (nt_nt (Nat.beq (nt_p3 a s e) 1)) ih) l
theorem nt_bs_sound {s e : Nat} (hs : 1 < s) : ∀ l, nt_bs s e l = true → ∃ a, a ∈ l ∧ ¬ nt_cg (s : Int) ((a : Int) ^ e) 1 := by
  intro l
  induction l with
  | nil => intro h; exact Bool.noConfusion (show false = true from h)
  | cons a l ih =>
    intro h
    have h' : nt_or (nt_nt (Nat.beq (nt_p3 a s e) 1)) (nt_bs s e l) = true := h
    rcases nt_or_true h' with h1 | h1
    · refine ⟨a, List.mem_cons_self, ?_⟩
      intro hc
      have := nt_nt_true h1
      rw [nt_p3_one hs hc] at this
      exact Bool.noConfusion this
    · obtain ⟨b, hb, hn⟩ := ih h1
      exact ⟨b, List.mem_cons_of_mem _ hb, hn⟩
/-- the test of the primes of a list -/
noncomputable def nt_il (s : Nat) (ls : List Nat) : Bool :=
  List.rec (motive := fun _ => Bool) true (fun l _ ih => nt_an (nt_or (nt_nt (Nat.beq (Nat.mod (Nat.sub s 1) l) 0)) (nt_fc (Nat.div (Nat.sub s 1) l) (fun e => nt_bs s e nt_B))) ih) ls
theorem nt_il_sound {s : Nat} (hs : 1 < s) : ∀ ls, nt_il s ls = true → ∀ l, l ∈ ls → l ∣ s - 1 → ∃ a, a ∈ nt_A ∧ ¬ nt_cg (s : Int) ((a : Int) ^ ((s - 1) / l)) 1 := by
  intro ls
  induction ls with
  | nil => intro _ l hl; exact absurd hl List.not_mem_nil
  | cons l0 ls ih =>
    intro h l hl hd
    have h' : nt_an (nt_or (nt_nt (Nat.beq ((s - 1) % l0) 0)) (nt_fc ((s - 1) / l0) (fun e => nt_bs s e nt_B))) (nt_il s ls) = true := h
    obtain ⟨h1, h2⟩ := nt_an_true h'
    rcases List.mem_cons.mp hl with e | e
    · subst e
      rcases nt_or_true h1 with h3 | h3
      · have := nt_nt_true h3
        rw [Nat.mod_eq_zero_of_dvd hd] at this
        exact Bool.noConfusion this
      · rw [nt_fc_eq] at h3
        obtain ⟨a, ha, hn⟩ := nt_bs_sound hs _ h3
        exact ⟨a, nt_B_A a ha, hn⟩
    · exact ih h2 l e hd
/-- the test of groups of primes: (their product, the least of them, the group); a common divisor below the square of the least is one prime -/
noncomputable def nt_ig (s : Nat) (G : List (Nat × Nat × List Nat)) : Bool :=
  List.rec (motive := fun _ => Bool) true (fun q _ ih => nt_an (nt_fc (Nat.gcd (Nat.sub s 1) q.1) (fun g => nt_or (Nat.beq g 1) (Bool.rec (nt_il s q.2.2) (nt_fc (Nat.div (Nat.sub s 1) g) (fun e => nt_bs s e nt_B)) (Nat.ble (Nat.succ g) (Nat.mul q.2.1 q.2.1))))) ih) G
theorem nt_ig_sound {s : Nat} (hs : 1 < s) : ∀ G : List (Nat × Nat × List Nat), (∀ q, q ∈ G → (∀ k, k ∣ q.1 → 1 < k → q.2.1 ≤ k) ∧ ∀ l, l ∈ q.2.2 → 1 < l ∧ l ∣ q.1) → nt_ig s G = true → ∀ q, q ∈ G → ∀ l, l ∈ q.2.2 → l ∣ s - 1 → ∃ a, a ∈ nt_A ∧ ¬ nt_cg (s : Int) ((a : Int) ^ ((s - 1) / l)) 1 := by
  intro G
  induction G with
  | nil => intro _ _ q hq; exact absurd hq List.not_mem_nil
  | cons q0 G ih =>
    intro hG h q hq l hl hd
    have h' : nt_an (nt_fc (Nat.gcd (s - 1) q0.1) (fun g => nt_or (Nat.beq g 1) (Bool.rec (nt_il s q0.2.2) (nt_fc (Nat.div (s - 1) g) (fun e => nt_bs s e nt_B)) (Nat.ble (Nat.succ g) (Nat.mul q0.2.1 q0.2.1))))) (nt_ig s G) = true := h
    obtain ⟨h1, h2⟩ := nt_an_true h'
    rcases List.mem_cons.mp hq with e | e
    · subst e
      obtain ⟨g0, gl⟩ := hG q List.mem_cons_self
      obtain ⟨g1, g2⟩ := gl l hl
      rw [nt_fc_eq] at h1
      have hlg : l ∣ Nat.gcd (s - 1) q.1 := Nat.dvd_gcd hd g2
      have hgQ : Nat.gcd (s - 1) q.1 ∣ q.1 := Nat.gcd_dvd_right _ _
      have hgs : Nat.gcd (s - 1) q.1 ∣ s - 1 := Nat.gcd_dvd_left _ _
      have hg0 : 0 < Nat.gcd (s - 1) q.1 := Nat.gcd_pos_of_pos_left _ (by omega)
      generalize Nat.gcd (s - 1) q.1 = g at *
      rcases nt_or_true h1 with h3 | h3
      · exfalso
        have h3 := Nat.eq_of_beq_eq_true h3
        rw [h3] at hlg
        have := Nat.dvd_one.mp hlg
        omega
      · cases hb : Nat.ble (Nat.succ g) (Nat.mul q.2.1 q.2.1) with
        | false =>
          rw [hb] at h3
          exact nt_il_sound hs _ h3 l hl hd
        | true =>
          rw [hb] at h3
          have hb : g + 1 ≤ q.2.1 * q.2.1 := Nat.le_of_ble_eq_true hb
          obtain ⟨k, hk⟩ := hlg
          have hkQ : k ∣ q.1 := Nat.dvd_trans ⟨l, by rw [hk, Nat.mul_comm]⟩ hgQ
          have hk0 : k ≠ 0 := by
            intro e0
            rw [e0, Nat.mul_zero] at hk
            omega
          have hk1 : k = 1 := by
            apply Classical.byContradiction
            intro hne
            have b1 := g0 k hkQ (by omega)
            have b2 := g0 l g2 g1
            have b3 := Nat.mul_le_mul b2 b1
            omega
          rw [hk1, Nat.mul_one] at hk
          have h3 : nt_fc (Nat.div (s - 1) g) (fun e => nt_bs s e nt_B) = true := h3
          rw [nt_fc_eq, hk] at h3
          obtain ⟨a, ha, hn⟩ := nt_bs_sound hs _ h3
          exact ⟨a, nt_B_A a ha, hn⟩
    · exact ih (fun q' hq' => hG q' (List.mem_cons_of_mem _ hq')) h2 q e l hl hd
def nt_G1 : List (Nat × Nat × List Nat) := [(37182145, 5, [5, 7, 11, 13, 17, 19, 23])]
def nt_G2 : List (Nat × Nat × List Nat) := [(37182145, 5, [5, 7, 11, 13, 17, 19, 23]), (14422893781144475428099, 29, [29, 31, 37, 41, 43, 47, 53, 59, 61, 67, 71, 73, 79]), (671206659458313285251744161285091950805490892553980600623288144752129816256063678378208796066811925189783, 83, [83, 89, 97, 101, 103, 107, 109, 113, 127, 131, 137, 139, 149, 151, 157, 163, 167, 173, 179, 181, 191, 193, 197, 199, 211, 223, 227, 229, 233, 239, 241, 251, 257, 263, 269, 271, 277, 281, 283, 293, 307, 311, 313, 317, 331, 337])]
noncomputable def nt_gk (G : List (Nat × Nat × List Nat)) : Bool := List.rec (motive := fun _ => Bool) true (fun q _ ih => nt_an (nt_an (nt_all (fun d => nt_or (Nat.ble d 1) (Nat.beq (Nat.gcd q.1 d) 1)) q.2.1) (List.rec (motive := fun _ => Bool) true (fun l _ ih => nt_an (nt_an (Nat.ble 2 l) (Nat.beq (Nat.mod q.1 l) 0)) ih) q.2.2)) ih) G
theorem nt_gk_sound : ∀ G, nt_gk G = true → ∀ q, q ∈ G → (∀ k, k ∣ q.1 → 1 < k → q.2.1 ≤ k) ∧ ∀ l, l ∈ q.2.2 → 1 < l ∧ l ∣ q.1 := by
  intro G
  induction G with
  | nil => intro _ q hq; exact absurd hq List.not_mem_nil
  | cons q0 G ih =>
    intro h q hq
    obtain ⟨h1, h2⟩ := nt_an_true (show nt_an (nt_an (nt_all (fun d => nt_or (Nat.ble d 1) (Nat.beq (Nat.gcd q0.1 d) 1)) q0.2.1) (List.rec (motive := fun _ => Bool) true (fun l _ ih => nt_an (nt_an (Nat.ble 2 l) (Nat.beq (Nat.mod q0.1 l) 0)) ih) q0.2.2)) (nt_gk G) = true from h)
    rcases List.mem_cons.mp hq with e | e
    · subst e
      obtain ⟨h0, h1⟩ := nt_an_true h1
      refine ⟨?_, ?_⟩
      · intro k hk hk1
        apply Classical.byContradiction
        intro hlt
        have h3 := nt_all_sound _ _ h0 k (by omega)
        rcases nt_or_true h3 with h4 | h4
        · have := Nat.le_of_ble_eq_true h4
          omega
        · have h4 : Nat.gcd q.1 k = 1 := Nat.eq_of_beq_eq_true h4
          rw [Nat.gcd_eq_right hk] at h4
          omega
      · have key : ∀ m : List Nat, (List.rec (motive := fun _ => Bool) true (fun l _ ih => nt_an (nt_an (Nat.ble 2 l) (Nat.beq (Nat.mod q.1 l) 0)) ih) m : Bool) = true → ∀ l, l ∈ m → 1 < l ∧ l ∣ q.1 := by
          intro m
          induction m with
          | nil => intro _ l hl; exact absurd hl List.not_mem_nil
          | cons x m ihm =>
            intro hm l hl
            obtain ⟨k1, k2⟩ := nt_an_true (show nt_an (nt_an (Nat.ble 2 x) (Nat.beq (Nat.mod q.1 x) 0)) (List.rec (motive := fun _ => Bool) true (fun l _ ih => nt_an (nt_an (Nat.ble 2 l) (Nat.beq (Nat.mod q.1 l) 0)) ih) m) = true from hm)
            rcases List.mem_cons.mp hl with e | e
            · subst e
              obtain ⟨k3, k4⟩ := nt_an_true k1
              have k3 := Nat.le_of_ble_eq_true k3
              have k4 : q.1 % l = 0 := Nat.eq_of_beq_eq_true k4
              exact ⟨by omega, Nat.dvd_of_mod_eq_zero k4⟩
            · exact ihm k2 l e
        exact key q.2.2 h1
    · exact ih h2 q e
theorem nt_G1_ok : nt_gk nt_G1 = true := by decide +kernel
theorem nt_G2_ok : nt_gk nt_G2 = true := by decide +kernel
/-- the prime stands in a group -/
theorem nt_G_mem {G : List (Nat × Nat × List Nat)} {I l : Nat} (hk : nt_all (fun k => nt_or (nt_or (Nat.ble k 4) (List.rec (motive := fun _ => Bool) false (fun d _ ih => nt_or (nt_an (Nat.beq (Nat.mod k d) 0) (Nat.ble (d + 1) k)) ih) nt_B)) (List.rec (motive := fun _ => Bool) false (fun q _ ih => nt_or (nt_in k q.2.2) ih) G)) (I + 1) = true) (hl : nt_prime l) (h5 : 5 ≤ l) (hI : l ≤ I) : ∃ q, q ∈ G ∧ l ∈ q.2.2 := by
  have h1 := nt_all_sound _ _ hk l (by omega)
  rcases nt_or_true h1 with h2 | h2
  · exfalso
    rcases nt_or_true h2 with h3 | h3
    · have := Nat.le_of_ble_eq_true h3
      omega
    · have key : ∀ m : List Nat, (∀ d, d ∈ m → 1 < d) → (List.rec (motive := fun _ => Bool) false (fun d _ ih => nt_or (nt_an (Nat.beq (Nat.mod l d) 0) (Nat.ble (d + 1) l)) ih) m : Bool) = true → False := by
        intro m
        induction m with
        | nil => intro _ h; exact Bool.noConfusion (show false = true from h)
        | cons d m ihm =>
          intro hm h
          rcases nt_or_true (show nt_or (nt_an (Nat.beq (Nat.mod l d) 0) (Nat.ble (d + 1) l)) (List.rec (motive := fun _ => Bool) false (fun d _ ih => nt_or (nt_an (Nat.beq (Nat.mod l d) 0) (Nat.ble (d + 1) l)) ih) m) = true from h) with h4 | h4
          · obtain ⟨k1, k2⟩ := nt_an_true h4
            have k1 : l % d = 0 := Nat.eq_of_beq_eq_true k1
            have k2 := Nat.le_of_ble_eq_true k2
            have := hm d List.mem_cons_self
            rcases hl.2 d (Nat.dvd_of_mod_eq_zero k1) with e | e <;> omega
          · exact ihm (fun d' hd' => hm d' (List.mem_cons_of_mem _ hd')) h4
      exact key nt_B (by decide) h3
  · have key : ∀ m : List (Nat × Nat × List Nat), (List.rec (motive := fun _ => Bool) false (fun q _ ih => nt_or (nt_in l q.2.2) ih) m : Bool) = true → ∃ q, q ∈ m ∧ l ∈ q.2.2 := by
      intro m
      induction m with
      | nil => intro h; exact Bool.noConfusion (show false = true from h)
      | cons q m ihm =>
        intro h
        rcases nt_or_true (show nt_or (nt_in l q.2.2) (List.rec (motive := fun _ => Bool) false (fun q _ ih => nt_or (nt_in l q.2.2) ih) m) = true from h) with h4 | h4
        · exact ⟨q, List.mem_cons_self, nt_in_true _ h4⟩
        · obtain ⟨q', hq', hl'⟩ := ihm h4
          exact ⟨q', List.mem_cons_of_mem _ hq', hl'⟩
    exact key G h2
theorem nt_lw_29 : nt_low 29 14 := nt_low_of 3 (by decide +kernel)
theorem nt_lw_64 : nt_low 64 38 := nt_low_of 5 (by decide +kernel)
theorem nt_lw_128 : nt_low 128 70 := nt_low_of 7 (by decide +kernel)
theorem nt_lw_256 : nt_low 256 166 := nt_low_of 11 (by decide +kernel)
theorem nt_lw_512 : nt_low 512 286 := nt_low_of 15 (by decide +kernel)
theorem nt_lw_1024 : nt_low 1024 598 := nt_low_of 22 (by decide +kernel)
theorem nt_lw_2048 : nt_low 2048 994 := nt_low_of 31 (by decide +kernel)
theorem nt_lw_4096 : nt_low 4096 1670 := nt_low_of 45 (by decide +kernel)
theorem nt_lw_8192 : nt_low 8192 2646 := nt_low_of 63 (by decide +kernel)
theorem nt_lw_65536 : nt_low 65536 11202 := nt_low_of 181 (by decide +kernel)
theorem nt_lw_262144 : nt_low 262144 27086 := nt_low_of 362 (by decide +kernel)
theorem nt_lw_524288 : nt_low 524288 39394 := nt_low_of 511 (by decide +kernel)
theorem nt_lw_1048576 : nt_low 1048576 57174 := nt_low_of 724 (by decide +kernel)
theorem nt_lw_16777216 : nt_low 16777216 228886 := nt_low_of 2896 (by decide +kernel)
theorem nt_lw_67108864 : nt_low 67108864 430078 := nt_low_of 5792 (by decide +kernel)
theorem nt_lw_134217728 : nt_low 134217728 586778 := nt_low_of 8191 (by decide +kernel)
noncomputable def nt_id (s : Nat) : Bool := nt_or (Nat.ble s 8191) (Bool.rec (nt_ig s nt_G2) (nt_ig s nt_G1) (Nat.ble s 1048575))
/-- the order is all of s - 1, or half of it -/
theorem nt_id_sound {n s : Nat} (h : nt_hyp n) (hs : nt_prime s) (hd : s ∣ n) (hs3 : s % 3 = 2) (hlt : s < 200000000) (hid : nt_id s = true) : (s - 1) ∣ n - 1 ∨ ((s - 1) / 2 ∣ n - 1 ∧ ∀ a, a ∈ nt_A → nt_chi a s = 1) := by
  have hg := nt_h_gt h hs hd
  unfold nt_id at hid
  by_cases h1 : s < 8192
  · have no : ∀ l, nt_prime l → 5 ≤ l → l ≤ 4 → l ∣ s - 1 → ∃ a, a ∈ nt_A ∧ ¬ nt_cg (s : Int) ((a : Int) ^ ((s - 1) / l)) 1 := by
      intro l _ a b
      omega
    by_cases b0 : s < 64
    · exact nt_h_index h hs hd hs3 (nt_lw_29 n s h hs hd (by omega)) (I := 4) (by omega) no
    by_cases b1 : s < 128
    · exact nt_h_index h hs hd hs3 (nt_lw_64 n s h hs hd (by omega)) (I := 4) (by omega) no
    by_cases b2 : s < 256
    · exact nt_h_index h hs hd hs3 (nt_lw_128 n s h hs hd (by omega)) (I := 4) (by omega) no
    by_cases b3 : s < 512
    · exact nt_h_index h hs hd hs3 (nt_lw_256 n s h hs hd (by omega)) (I := 4) (by omega) no
    by_cases b4 : s < 1024
    · exact nt_h_index h hs hd hs3 (nt_lw_512 n s h hs hd (by omega)) (I := 4) (by omega) no
    by_cases b5 : s < 2048
    · exact nt_h_index h hs hd hs3 (nt_lw_1024 n s h hs hd (by omega)) (I := 4) (by omega) no
    by_cases b6 : s < 4096
    · exact nt_h_index h hs hd hs3 (nt_lw_2048 n s h hs hd (by omega)) (I := 4) (by omega) no
    exact nt_h_index h hs hd hs3 (nt_lw_4096 n s h hs hd (by omega)) (I := 4) (by omega) no
  · have e0 : Nat.ble s 8191 = false := by
      cases hb : Nat.ble s 8191 with
      | false => rfl
      | true => have := Nat.le_of_ble_eq_true hb; omega
    rw [e0] at hid
    by_cases h2 : s < 1048576
    · have e1 : Nat.ble s 1048575 = true := Nat.ble_eq_true_of_le (by omega)
      rw [e1] at hid
      have hid : nt_ig s nt_G1 = true := hid
      have no : ∀ l, nt_prime l → 5 ≤ l → l ≤ 26 → l ∣ s - 1 → ∃ a, a ∈ nt_A ∧ ¬ nt_cg (s : Int) ((a : Int) ^ ((s - 1) / l)) 1 := by
        intro l hl a b hdl
        obtain ⟨q, hq, hlq⟩ := nt_G_mem (G := nt_G1) (I := 26) (by decide +kernel) hl a b
        exact nt_ig_sound (by omega) nt_G1 (nt_gk_sound _ nt_G1_ok) hid q hq l hlq hdl
      by_cases b0 : s < 65536
      · exact nt_h_index h hs hd hs3 (nt_lw_8192 n s h hs hd (by omega)) (I := 26) (by omega) no
      by_cases b1 : s < 262144
      · exact nt_h_index h hs hd hs3 (nt_lw_65536 n s h hs hd (by omega)) (I := 26) (by omega) no
      by_cases b2 : s < 524288
      · exact nt_h_index h hs hd hs3 (nt_lw_262144 n s h hs hd (by omega)) (I := 26) (by omega) no
      exact nt_h_index h hs hd hs3 (nt_lw_524288 n s h hs hd (by omega)) (I := 26) (by omega) no
    · have e1 : Nat.ble s 1048575 = false := by
        cases hb : Nat.ble s 1048575 with
        | false => rfl
        | true => have := Nat.le_of_ble_eq_true hb; omega
      rw [e1] at hid
      have hid : nt_ig s nt_G2 = true := hid
      have no : ∀ l, nt_prime l → 5 ≤ l → l ≤ 346 → l ∣ s - 1 → ∃ a, a ∈ nt_A ∧ ¬ nt_cg (s : Int) ((a : Int) ^ ((s - 1) / l)) 1 := by
        intro l hl a b hdl
        obtain ⟨q, hq, hlq⟩ := nt_G_mem (G := nt_G2) (I := 346) (by decide +kernel) hl a b
        exact nt_ig_sound (by omega) nt_G2 (nt_gk_sound _ nt_G2_ok) hid q hq l hlq hdl
      by_cases b0 : s < 16777216
      · exact nt_h_index h hs hd hs3 (nt_lw_1048576 n s h hs hd (by omega)) (I := 346) (by omega) no
      by_cases b1 : s < 67108864
      · exact nt_h_index h hs hd hs3 (nt_lw_16777216 n s h hs hd (by omega)) (I := 346) (by omega) no
      by_cases b2 : s < 134217728
      · exact nt_h_index h hs hd hs3 (nt_lw_67108864 n s h hs hd (by omega)) (I := 346) (by omega) no
      exact nt_h_index h hs hd hs3 (nt_lw_134217728 n s h hs hd (by omega)) (I := 346) (by omega) no
