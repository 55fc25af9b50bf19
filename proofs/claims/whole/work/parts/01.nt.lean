def nt_prime (s : Nat) : Prop := 2 ≤ s ∧ ∀ d, d ∣ s → d = 1 ∨ d = s

theorem nt_cop {s a : Nat} (hs : nt_prime s) (h : ¬ s ∣ a) : Nat.Coprime s a := by
  have h1 : Nat.gcd s a ∣ s := Nat.gcd_dvd_left s a
  have h2 : Nat.gcd s a ∣ a := Nat.gcd_dvd_right s a
  rcases hs.2 _ h1 with h3 | h3
  · exact h3
  · rw [h3] at h2; exact absurd h2 h

theorem nt_dvd_mul {s a b : Nat} (hs : nt_prime s) (h : s ∣ a * b) : s ∣ a ∨ s ∣ b := by
  by_cases ha : s ∣ a
  · exact Or.inl ha
  · exact Or.inr ((nt_cop hs ha).dvd_of_dvd_mul_left h)

theorem nt_factor : ∀ n : Nat, 2 ≤ n → ∃ s, nt_prime s ∧ s ∣ n := by
  intro n
  induction n using Nat.strongRecOn with
  | ind n ih =>
    intro hn
    by_cases hp : nt_prime n
    · exact ⟨n, hp, Nat.dvd_refl n⟩
    · have : ∃ d, d ∣ n ∧ d ≠ 1 ∧ d ≠ n := by
        apply Classical.byContradiction
        intro hc
        apply hp
        refine ⟨hn, fun d hd => ?_⟩
        by_cases h1 : d = 1
        · exact Or.inl h1
        · by_cases h2 : d = n
          · exact Or.inr h2
          · exact absurd ⟨d, hd, h1, h2⟩ hc
      obtain ⟨d, hd, h1, h2⟩ := this
      have hle := Nat.le_of_dvd (by omega) hd
      have h0 : d ≠ 0 := by
        intro h
        subst h
        have := Nat.eq_zero_of_zero_dvd hd
        omega
      obtain ⟨s, hs, hsd⟩ := ih d (by omega) (by omega)
      exact ⟨s, hs, Nat.dvd_trans hsd hd⟩

/-! congruence over the integers -/
def nt_cg (s a b : Int) : Prop := s ∣ a - b

theorem nt_cg_refl (s a : Int) : nt_cg s a a := by
  unfold nt_cg
  rw [Int.sub_self]
  exact Int.dvd_zero s
theorem nt_cg_symm {s a b : Int} (h : nt_cg s a b) : nt_cg s b a := by
  unfold nt_cg at *
  have := Int.dvd_neg.mpr h
  rwa [Int.neg_sub] at this
theorem nt_cg_trans {s a b c : Int} (h : nt_cg s a b) (k : nt_cg s b c) : nt_cg s a c := by
  unfold nt_cg at *
  have := Int.dvd_add h k
  rwa [show a - b + (b - c) = a - c by omega] at this
theorem nt_cg_mul {s a b c d : Int} (h : nt_cg s a b) (k : nt_cg s c d) : nt_cg s (a * c) (b * d) := by
  unfold nt_cg at *
  have h1 : s ∣ (a - b) * c := Int.dvd_trans h (Int.dvd_mul_right _ _)
  have h2 : s ∣ b * (c - d) := Int.dvd_trans k (Int.dvd_mul_left _ _)
  have := Int.dvd_add h1 h2
  rwa [show (a - b) * c + b * (c - d) = a * c - b * d by grind] at this
theorem nt_cg_pow {s a b : Int} (h : nt_cg s a b) (n : Nat) : nt_cg s (a ^ n) (b ^ n) := by
  induction n with
  | zero => rw [Int.pow_zero, Int.pow_zero]; exact nt_cg_refl _ _
  | succ n ih => rw [Int.pow_succ, Int.pow_succ]; exact nt_cg_mul ih h
theorem nt_dvd_mulZ {s : Nat} {a b : Int} (hs : nt_prime s) (h : (s : Int) ∣ a * b) : (s : Int) ∣ a ∨ (s : Int) ∣ b := by
  have h1 : s ∣ a.natAbs * b.natAbs := by
    rw [← Int.natAbs_mul]
    exact Int.ofNat_dvd_left.mp h
  rcases nt_dvd_mul hs h1 with h2 | h2
  · exact Or.inl (Int.ofNat_dvd_left.mpr h2)
  · exact Or.inr (Int.ofNat_dvd_left.mpr h2)
theorem nt_cg_cancel {s : Nat} {a b c : Int} (hs : nt_prime s) (hc : ¬ (s : Int) ∣ c) (h : nt_cg s (a * c) (b * c)) : nt_cg s a b := by
  unfold nt_cg at *
  rw [← Int.sub_mul] at h
  rcases nt_dvd_mulZ hs h with h1 | h1
  · exact h1
  · exact absurd h1 hc
theorem nt_cg_nat {s a b : Nat} (h : a % s = b % s) : nt_cg (s : Int) a b := by
  unfold nt_cg
  have : ((a : Int) % s) = ((b : Int) % s) := by
    have := congrArg (fun x : Nat => (x : Int)) h
    simpa using this
  exact Int.dvd_of_emod_eq_zero ((Int.emod_eq_emod_iff_emod_sub_eq_zero).mp this)
theorem nt_cg_toNat {s a b : Nat} (h : nt_cg (s : Int) a b) : a % s = b % s := by
  unfold nt_cg at h
  have h1 := (Int.emod_eq_emod_iff_emod_sub_eq_zero).mpr (Int.emod_eq_zero_of_dvd h)
  have h2 : ((a % s : Nat) : Int) = ((b % s : Nat) : Int) := by simpa using h1
  exact Int.ofNat.inj h2

/-! products and permutations -/
def nt_pl : List Nat → Int
  | [] => 1
  | x :: l => (x : Int) * nt_pl l
theorem nt_pl_perm {l m : List Nat} (h : l.Perm m) : nt_pl l = nt_pl m := by
  induction h with
  | nil => rfl
  | cons x _ ih => simp only [nt_pl]; rw [ih]
  | swap x y l => simp only [nt_pl]; grind
  | trans _ _ h1 h2 => exact h1.trans h2
theorem nt_perm_of {l m : List Nat} (hl : l.Nodup) (hm : m.Nodup) (hs : ∀ x, x ∈ l → x ∈ m) (hn : l.length = m.length) : l.Perm m := by
  induction l generalizing m with
  | nil =>
    have : m = [] := List.length_eq_zero_iff.mp hn.symm
    rw [this]
  | cons x l ih =>
    have hx : x ∈ m := hs x (List.mem_cons_self)
    have h1 : m.Perm (x :: m.erase x) := List.perm_cons_erase hx
    have h2 : (m.erase x).Nodup := hm.erase x
    have hlx : x ∉ l := (List.nodup_cons.mp hl).1
    have h3 : ∀ y, y ∈ l → y ∈ m.erase x := by
      intro y hy
      have hne : y ≠ x := by
        intro h
        exact hlx (h ▸ hy)
      exact (List.mem_erase_of_ne hne).mpr (hs y (List.mem_cons_of_mem _ hy))
    have h4 : l.length = (m.erase x).length := by
      rw [List.length_erase_of_mem hx]
      simp only [List.length_cons] at hn
      omega
    exact (List.Perm.cons x (ih (List.nodup_cons.mp hl).2 h2 h3 h4)).trans h1.symm
theorem nt_nodup_map {f : Nat → Nat} {l : List Nat} (hl : l.Nodup) (hf : ∀ x, x ∈ l → ∀ y, y ∈ l → f x = f y → x = y) : (l.map f).Nodup := by
  induction l with
  | nil => exact List.nodup_nil
  | cons x l ih =>
    rw [List.map_cons, List.nodup_cons]
    refine ⟨?_, ih (List.nodup_cons.mp hl).2 (fun a ha b hb => hf a (List.mem_cons_of_mem _ ha) b (List.mem_cons_of_mem _ hb))⟩
    intro hm
    obtain ⟨y, hy, he⟩ := List.mem_map.mp hm
    have := hf y (List.mem_cons_of_mem _ hy) x List.mem_cons_self he
    exact (List.nodup_cons.mp hl).1 (this ▸ hy)

/-! Gauss -/
def nt_sgn (m : Nat) : Int := if m % 2 = 0 then 1 else -1
theorem nt_sgn_add (m n : Nat) : nt_sgn (m + n) = nt_sgn m * nt_sgn n := by
  unfold nt_sgn
  rcases Nat.mod_two_eq_zero_or_one m with h | h <;> rcases Nat.mod_two_eq_zero_or_one n with k | k <;>
    simp [Nat.add_mod, h, k]
theorem nt_sgn_mod {m n : Nat} (h : m % 2 = n % 2) : nt_sgn m = nt_sgn n := by
  unfold nt_sgn
  rw [h]
def nt_gf (a s k : Nat) : Nat := if 2 * (a * k % s) < s then a * k % s else s - a * k % s
def nt_gs (a s : Nat) : List Nat → Nat
  | [] => 0
  | k :: l => 2 * (a * k) / s + nt_gs a s l
theorem nt_gf_cg {a s k : Nat} (hs : 0 < s) : nt_cg (s : Int) ((a * k : Nat) : Int) (nt_sgn (2 * (a * k) / s) * (nt_gf a s k : Nat)) := by
  have hlt : a * k % s < s := Nat.mod_lt _ hs
  have hd := Nat.div_add_mod (a * k) s
  generalize hr : a * k % s = r at *
  generalize hq : a * k / s = q at *
  generalize hx : a * k = x at *
  unfold nt_gf
  rw [hx, hr]
  by_cases h : 2 * r < s
  · have h2 : 2 * x / s = 2 * q := by
      rw [Nat.div_eq_iff hs]
      constructor
      · rw [← hd, Nat.mul_comm (2 * q) s]
        have : s * (2 * q) = 2 * (s * q) := by grind
        omega
      · rw [← hd, Nat.mul_comm (2 * q) s]
        have : s * (2 * q) = 2 * (s * q) := by grind
        omega
    rw [if_pos h, h2]
    have : nt_sgn (2 * q) = 1 := by
      unfold nt_sgn
      rw [if_pos (by omega)]
    rw [this, Int.one_mul]
    unfold nt_cg
    refine ⟨(q : Int), ?_⟩
    rw [← hd]
    push_cast
    omega
  · have h2 : 2 * x / s = 2 * q + 1 := by
      rw [Nat.div_eq_iff hs]
      constructor
      · rw [← hd]
        have : (2 * q + 1) * s = 2 * (s * q) + s := by grind
        omega
      · rw [← hd]
        have : (2 * q + 1) * s = 2 * (s * q) + s := by grind
        omega
    rw [if_neg h, h2]
    have : nt_sgn (2 * q + 1) = -1 := by
      unfold nt_sgn
      rw [if_neg (by omega)]
    rw [this]
    unfold nt_cg
    refine ⟨(q : Int) + 1, ?_⟩
    rw [← hd]
    have h3 : ((s - r : Nat) : Int) = (s : Int) - r := by omega
    rw [h3]
    push_cast
    grind
theorem nt_gf_pos {a s k : Nat} (hs : nt_prime s) (h2 : s % 2 = 1) (ha : ¬ s ∣ a) (hk : 1 ≤ k) (hk2 : k ≤ s / 2) : 1 ≤ nt_gf a s k ∧ nt_gf a s k ≤ s / 2 := by
  have hs2 := hs.1
  have hlt : a * k % s < s := Nat.mod_lt _ (by omega)
  have hne : a * k % s ≠ 0 := by
    intro h
    rcases nt_dvd_mul hs (Nat.dvd_of_mod_eq_zero h) with h1 | h1
    · exact ha h1
    · have := Nat.le_of_dvd (by omega) h1
      omega
  unfold nt_gf
  split <;> omega
theorem nt_gf_inj {a s k j : Nat} (hs : nt_prime s) (h2 : s % 2 = 1) (ha : ¬ s ∣ a) (hk : 1 ≤ k) (hk2 : k ≤ s / 2) (hj : 1 ≤ j) (hj2 : j ≤ s / 2) (he : nt_gf a s k = nt_gf a s j) : k = j := by
  have hs2 := hs.1
  have haZ : ¬ (s : Int) ∣ (a : Int) := fun h => ha (Int.ofNat_dvd.mp h)
  have h1 := nt_gf_cg (a := a) (s := s) (k := k) (by omega)
  have h3 := nt_gf_cg (a := a) (s := s) (k := j) (by omega)
  rw [he] at h1
  have key : (s : Int) ∣ (a : Int) * ((k : Int) - j) ∨ (s : Int) ∣ (a : Int) * ((k : Int) + j) := by
    unfold nt_cg at h1 h3
    have hsg : ∀ m, nt_sgn m = 1 ∨ nt_sgn m = -1 := by
      intro m
      unfold nt_sgn
      split
      · exact Or.inl rfl
      · exact Or.inr rfl
    generalize (nt_gf a s j : Nat) = w at *
    push_cast at h1 h3
    rcases hsg (2 * (a * k) / s) with e1 | e1 <;> rcases hsg (2 * (a * j) / s) with e2 | e2 <;> rw [e1] at h1 <;> rw [e2] at h3
    · left
      have := Int.dvd_sub h1 h3
      rwa [show (a : Int) * k - 1 * w - (a * j - 1 * w) = a * (k - j) by grind] at this
    · right
      have := Int.dvd_add h1 h3
      rwa [show (a : Int) * k - 1 * w + (a * j - -1 * w) = a * (k + j) by grind] at this
    · right
      have := Int.dvd_add h1 h3
      rwa [show (a : Int) * k - -1 * w + (a * j - 1 * w) = a * (k + j) by grind] at this
    · left
      have := Int.dvd_sub h1 h3
      rwa [show (a : Int) * k - -1 * w - (a * j - -1 * w) = a * (k - j) by grind] at this
  rcases key with h | h
  · rcases nt_dvd_mulZ hs h with h4 | h4
    · exact absurd h4 haZ
    · obtain ⟨c, hc⟩ := h4
      have h5 : c = 0 := by
        rcases Int.lt_trichotomy c 0 with hh | hh | hh
        · have : (s : Int) * c ≤ (s : Int) * (-1) := Int.mul_le_mul_of_nonneg_left (by omega) (by omega)
          omega
        · exact hh
        · have : (s : Int) * 1 ≤ (s : Int) * c := Int.mul_le_mul_of_nonneg_left (by omega) (by omega)
          omega
      rw [h5] at hc
      omega
  · rcases nt_dvd_mulZ hs h with h4 | h4
    · exact absurd h4 haZ
    · have h5 : s ∣ k + j := by
        have : ((k + j : Nat) : Int) = (k : Int) + j := by push_cast; rfl
        rw [← this] at h4
        exact Int.ofNat_dvd.mp h4
      have := Nat.le_of_dvd (by omega) h5
      omega
theorem nt_gauss_list {a s : Nat} (hs : 0 < s) (l : List Nat) : nt_cg (s : Int) ((a : Int) ^ l.length * nt_pl l) (nt_sgn (nt_gs a s l) * nt_pl (l.map (nt_gf a s))) := by
  induction l with
  | nil =>
    have : nt_sgn (nt_gs a s []) = 1 := by
      unfold nt_gs nt_sgn
      rfl
    rw [this]
    simp only [List.length_nil, Int.pow_zero, List.map_nil]
    exact nt_cg_refl _ _
  | cons k l ih =>
    have h1 := nt_gf_cg (a := a) (s := s) (k := k) hs
    have h2 := nt_cg_mul h1 ih
    simp only [nt_gs, nt_pl, List.map_cons, List.length_cons, nt_sgn_add]
    rw [show (a : Int) ^ (l.length + 1) * ((k : Int) * nt_pl l) = ((a * k : Nat) : Int) * ((a : Int) ^ l.length * nt_pl l) by push_cast; grind]
    rw [show nt_sgn (2 * (a * k) / s) * nt_sgn (nt_gs a s l) * ((nt_gf a s k : Int) * nt_pl (List.map (nt_gf a s) l)) = nt_sgn (2 * (a * k) / s) * (nt_gf a s k : Int) * (nt_sgn (nt_gs a s l) * nt_pl (List.map (nt_gf a s) l)) by grind]
    exact h2
theorem nt_pl_nd {s : Nat} (hs : nt_prime s) (l : List Nat) (h : ∀ x, x ∈ l → 1 ≤ x ∧ x < s) : ¬ (s : Int) ∣ nt_pl l := by
  induction l with
  | nil =>
    intro hd
    have h1 : (s : Int) ∣ 1 := hd
    have h2 : s ∣ 1 := Int.ofNat_dvd.mp h1
    have := Nat.le_of_dvd (by omega) h2
    have := hs.1
    omega
  | cons x l ih =>
    intro hd
    rcases nt_dvd_mulZ hs hd with h1 | h1
    · have h2 : s ∣ x := Int.ofNat_dvd.mp h1
      have h3 := h x List.mem_cons_self
      have := Nat.le_of_dvd (by omega) h2
      omega
    · exact ih (fun y hy => h y (List.mem_cons_of_mem _ hy)) h1
theorem nt_gauss {a s : Nat} (hs : nt_prime s) (h2 : s % 2 = 1) (ha : ¬ s ∣ a) : nt_cg (s : Int) ((a : Int) ^ (s / 2)) (nt_sgn (nt_gs a s (List.range' 1 (s / 2)))) := by
  have hs2 := hs.1
  have h3 := nt_gauss_list (a := a) (s := s) (by omega) (List.range' 1 (s / 2))
  have hmem : ∀ x, x ∈ List.range' 1 (s / 2) → 1 ≤ x ∧ x ≤ s / 2 := by
    intro x hx
    rw [List.mem_range'_1] at hx
    omega
  have hp : (List.map (nt_gf a s) (List.range' 1 (s / 2))).Perm (List.range' 1 (s / 2)) := by
    apply nt_perm_of
    · apply nt_nodup_map
      · exact List.nodup_range'
      · intro x hx y hy he
        exact nt_gf_inj hs h2 ha (hmem x hx).1 (hmem x hx).2 (hmem y hy).1 (hmem y hy).2 he
    · exact List.nodup_range'
    · intro x hx
      obtain ⟨y, hy, he⟩ := List.mem_map.mp hx
      have := nt_gf_pos hs h2 ha (hmem y hy).1 (hmem y hy).2
      rw [List.mem_range'_1]
      omega
    · rw [List.length_map]
  rw [nt_pl_perm hp, List.length_range'] at h3
  refine nt_cg_cancel hs (nt_pl_nd hs _ ?_) h3
  intro x hx
  have := hmem x hx
  omega

/-! sums, and the change of their order -/
def nt_sm (f : Nat → Nat) : Nat → Nat
  | 0 => 0
  | n + 1 => nt_sm f n + f n
theorem nt_sm_congr {f g : Nat → Nat} {n : Nat} (h : ∀ i, i < n → f i = g i) : nt_sm f n = nt_sm g n := by
  induction n with
  | zero => rfl
  | succ n ih =>
    simp only [nt_sm]
    rw [ih (fun i hi => h i (by omega)), h n (by omega)]
theorem nt_sm_add (f g : Nat → Nat) (n : Nat) : nt_sm (fun i => f i + g i) n = nt_sm f n + nt_sm g n := by
  induction n with
  | zero => rfl
  | succ n ih =>
    simp only [nt_sm]
    rw [ih]
    omega
theorem nt_sm_zero (n : Nat) : nt_sm (fun _ => 0) n = 0 := by
  induction n with
  | zero => rfl
  | succ n ih => simp only [nt_sm]; rw [ih]
theorem nt_sm_swap (f : Nat → Nat → Nat) (m n : Nat) : nt_sm (fun i => nt_sm (fun j => f i j) n) m = nt_sm (fun j => nt_sm (fun i => f i j) m) n := by
  induction m with
  | zero => simp only [nt_sm]; rw [nt_sm_zero]
  | succ m ih =>
    simp only [nt_sm]
    rw [ih, nt_sm_add]
theorem nt_gs_sm (a s n : Nat) : nt_gs a s (List.range' 1 n) = nt_sm (fun i => 2 * (a * (i + 1)) / s) n := by
  induction n with
  | zero => rfl
  | succ n ih =>
    rw [List.range'_concat]
    have happ : ∀ (l m : List Nat), nt_gs a s (l ++ m) = nt_gs a s l + nt_gs a s m := by
      intro l m
      induction l with
      | nil => simp [nt_gs]
      | cons x l ihl => simp only [List.cons_append, nt_gs]; rw [ihl]; omega
    rw [happ, ih]
    simp only [nt_gs, nt_sm, Nat.add_zero, Nat.one_mul]
    rw [Nat.add_comm 1 n]
theorem nt_cnt_min (x s m : Nat) (hs : 0 < s) : nt_sm (fun j => if (j + 1) * s ≤ x then 1 else 0) m = min m (x / s) := by
  induction m with
  | zero => simp [nt_sm]
  | succ m ih =>
    simp only [nt_sm]
    rw [ih]
    have h : (m + 1) * s ≤ x ↔ m + 1 ≤ x / s := (Nat.le_div_iff_mul_le hs).symm
    by_cases hc : (m + 1) * s ≤ x
    · rw [if_pos hc]
      have := h.mp hc
      omega
    · rw [if_neg hc]
      have : ¬ m + 1 ≤ x / s := fun hh => hc (h.mpr hh)
      omega
theorem nt_cnt_ge (c h : Nat) : nt_sm (fun i => if c ≤ i then 1 else 0) h = h - c := by
  induction h with
  | zero => simp [nt_sm]
  | succ h ih =>
    simp only [nt_sm]
    rw [ih]
    by_cases hc : c ≤ h
    · rw [if_pos hc]; omega
    · rw [if_neg hc]; omega
def nt_ch (a r : Nat) : Nat := (a - 1) * (r / 2) + nt_sm (fun j => (j + 1) * r / (2 * a)) (a - 1)
theorem nt_gs_ch {a s : Nat} (hs : nt_prime s) (h2 : s % 2 = 1) (ha0 : 0 < a) (ha : ¬ s ∣ a) : nt_gs a s (List.range' 1 (s / 2)) % 2 = nt_ch a s % 2 := by
  have hs2 := hs.1
  rw [nt_gs_sm]
  have e1 : nt_sm (fun i => 2 * (a * (i + 1)) / s) (s / 2) = nt_sm (fun i => nt_sm (fun j => if (j + 1) * s ≤ 2 * (a * (i + 1)) then 1 else 0) (a - 1)) (s / 2) := by
    apply nt_sm_congr
    intro i hi
    rw [nt_cnt_min _ _ _ (by omega)]
    have : 2 * (a * (i + 1)) / s ≤ a - 1 := by
      have hlt : 2 * (a * (i + 1)) < a * s := by
        have h5 : 2 * (i + 1) < s := by omega
        have := Nat.mul_lt_mul_of_pos_left h5 ha0
        rw [show 2 * (a * (i + 1)) = a * (2 * (i + 1)) by grind]
        exact this
      have := (Nat.div_lt_iff_lt_mul (by omega : 0 < s)).mpr hlt
      omega
    omega
  rw [e1, nt_sm_swap]
  have e2 : nt_sm (fun j => nt_sm (fun i => if (j + 1) * s ≤ 2 * (a * (i + 1)) then 1 else 0) (s / 2)) (a - 1) + nt_sm (fun j => (j + 1) * s / (2 * a)) (a - 1) = nt_sm (fun _ => s / 2) (a - 1) := by
    rw [← nt_sm_add]
    apply nt_sm_congr
    intro j hj
    have hnd : ¬ (2 * a) ∣ (j + 1) * s := by
      intro hd
      have hc : Nat.Coprime (2 * a) s := by
        have h6 : ¬ s ∣ 2 * a := by
          intro h7
          rcases nt_dvd_mul hs h7 with h8 | h8
          · have := Nat.le_of_dvd (by omega) h8
            have : s = 2 := by omega
            omega
          · exact ha h8
        exact (nt_cop hs h6).symm
      have := hc.dvd_of_dvd_mul_right hd
      have := Nat.le_of_dvd (by omega) this
      omega
    have e3 : nt_sm (fun i => if (j + 1) * s ≤ 2 * (a * (i + 1)) then 1 else 0) (s / 2) = nt_sm (fun i => if (j + 1) * s / (2 * a) ≤ i then 1 else 0) (s / 2) := by
      apply nt_sm_congr
      intro i _
      have hiff : (j + 1) * s ≤ 2 * (a * (i + 1)) ↔ (j + 1) * s / (2 * a) ≤ i := by
        have e4 : 2 * (a * (i + 1)) = (i + 1) * (2 * a) := by grind
        rw [e4]
        constructor
        · intro hle
          have hne : (j + 1) * s ≠ (i + 1) * (2 * a) := by
            intro h9
            exact hnd ⟨i + 1, by rw [h9, Nat.mul_comm]⟩
          have := (Nat.div_lt_iff_lt_mul (by omega : 0 < 2 * a)).mpr (by omega : (j + 1) * s < (i + 1) * (2 * a))
          omega
        · intro hle
          have := (Nat.div_lt_iff_lt_mul (by omega : 0 < 2 * a)).mp (by omega : (j + 1) * s / (2 * a) < i + 1)
          omega
      by_cases hc : (j + 1) * s ≤ 2 * (a * (i + 1))
      · rw [if_pos hc, if_pos (hiff.mp hc)]
      · rw [if_neg hc, if_neg (fun h => hc (hiff.mpr h))]
    rw [e3, nt_cnt_ge]
    have : (j + 1) * s / (2 * a) ≤ s / 2 := by
      have h5 : (j + 1) * s ≤ a * s := Nat.mul_le_mul_right s (by omega)
      have h6 : (j + 1) * s / (2 * a) ≤ a * s / (2 * a) := Nat.div_le_div_right h5
      have h7 : a * s / (2 * a) = s / 2 := by
        rw [Nat.mul_comm 2 a, Nat.mul_div_mul_left _ _ ha0]
      omega
    omega
  have e5 : ∀ n c, nt_sm (fun _ => c) n = n * c := by
    intro n c
    induction n with
    | zero => simp [nt_sm]
    | succ n ih => simp only [nt_sm]; rw [ih]; grind
  rw [e5] at e2
  unfold nt_ch
  omega
theorem nt_ch_mod {a s : Nat} (ha0 : 0 < a) : nt_ch a s % 2 = nt_ch a (s % (4 * a)) % 2 := by
  have hd := Nat.div_add_mod s (4 * a)
  generalize s / (4 * a) = w at hd
  generalize s % (4 * a) = r at hd
  have e1 : ∀ n, nt_sm (fun j => (j + 1) * s / (2 * a)) n % 2 = nt_sm (fun j => (j + 1) * r / (2 * a)) n % 2 := by
    intro n
    induction n with
    | zero => rfl
    | succ n ih =>
      simp only [nt_sm]
      have : (n + 1) * s / (2 * a) = 2 * ((n + 1) * w) + (n + 1) * r / (2 * a) := by
        rw [← hd, show (n + 1) * (4 * a * w + r) = (n + 1) * r + 2 * a * (2 * ((n + 1) * w)) by grind, Nat.add_mul_div_left _ _ (by omega)]
        omega
      rw [this]
      omega
  have e2 : s / 2 = 2 * (a * w) + r / 2 := by
    rw [← hd, show 4 * a * w + r = r + 2 * (2 * (a * w)) by grind, Nat.add_mul_div_left _ _ (by omega)]
    omega
  unfold nt_ch
  have e3 := e1 (a - 1)
  rw [e2]
  have e4 : (a - 1) * (2 * (a * w) + r / 2) = 2 * ((a - 1) * (a * w)) + (a - 1) * (r / 2) := by grind
  rw [e4]
  omega
def nt_chi (a s : Nat) : Int := nt_sgn (nt_ch a (s % (4 * a)))
theorem nt_euler {a s : Nat} (hs : nt_prime s) (h2 : s % 2 = 1) (ha0 : 0 < a) (ha : ¬ s ∣ a) : nt_cg (s : Int) ((a : Int) ^ (s / 2)) (nt_chi a s) := by
  have h := nt_gauss hs h2 ha
  unfold nt_chi
  rw [nt_sgn_mod (nt_ch_mod ha0).symm, nt_sgn_mod (nt_gs_ch hs h2 ha0 ha).symm]
  exact h
theorem nt_fermat {a s : Nat} (hs : nt_prime s) (h2 : s % 2 = 1) (ha : ¬ s ∣ a) : nt_cg (s : Int) ((a : Int) ^ (s - 1)) 1 := by
  have ha0 : 0 < a := by
    rcases Nat.eq_zero_or_pos a with h | h
    · subst h
      exact absurd (Nat.dvd_zero s) ha
    · exact h
  have h := nt_gauss hs h2 ha
  have h3 := nt_cg_mul h h
  have e : s - 1 = s / 2 + s / 2 := by omega
  rw [e, Int.pow_add]
  have h4 : ∀ m, nt_sgn m * nt_sgn m = 1 := by
    intro m
    unfold nt_sgn
    split <;> rfl
  rw [h4] at h3
  exact h3
