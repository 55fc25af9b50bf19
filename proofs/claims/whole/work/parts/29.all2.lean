/-! every prime factor leaves 2 divided by 3 -/
theorem nt_div_class2 {D W p : Nat} (hall : ∀ s, nt_prime s → s ∣ D → s % 3 = 2 ∧ s % W = p % W) (hW : (p * p) % W = 1 % W) : ∀ d, d ∣ D → 0 < d → (d % 3 = 2 ∧ d % W = p % W) ∨ (d % 3 = 1 ∧ d % W = 1 % W) := by
  intro d
  induction d using Nat.strongRecOn with
  | ind d ih =>
    intro hd hpos
    by_cases h1 : d = 1
    · subst h1
      exact Or.inr ⟨rfl, rfl⟩
    · obtain ⟨s, hs, c, hc⟩ := nt_factor d (by omega)
      have hsn : s ∣ D := Nat.dvd_trans ⟨c, hc⟩ hd
      have hcn : c ∣ D := Nat.dvd_trans ⟨s, by rw [hc, Nat.mul_comm]⟩ hd
      have hc0 : 0 < c := by
        rcases Nat.eq_zero_or_pos c with e | e
        · subst e
          omega
        · exact e
      have hclt : c < d := by
        have := hs.1
        have := Nat.mul_le_mul_right c this
        omega
      obtain ⟨s3, sW⟩ := hall s hs hsn
      rcases ih c hclt hcn hc0 with ⟨c3, cW⟩ | ⟨c3, cW⟩
      · refine Or.inr ⟨?_, ?_⟩
        · rw [hc, Nat.mul_mod, s3, c3]
        · rw [hc, Nat.mul_mod, sW, cW, ← Nat.mul_mod, hW]
      · refine Or.inl ⟨?_, ?_⟩
        · rw [hc, Nat.mul_mod, s3, c3]
        · rw [hc, Nat.mul_mod, sW, cW, ← Nat.mul_mod, Nat.mul_one]
theorem nt_ex2 : ∀ d : Nat, d % 3 = 2 → (∀ s, nt_prime s → s ∣ d → s % 3 ≠ 0) → ∃ s, nt_prime s ∧ s ∣ d ∧ s % 3 = 2 := by
  intro d
  induction d using Nat.strongRecOn with
  | ind d ih =>
    intro h2 h0
    obtain ⟨s, hs, c, hc⟩ := nt_factor d (by omega)
    by_cases h : s % 3 = 2
    · exact ⟨s, hs, ⟨c, hc⟩, h⟩
    · have hs0 := h0 s hs ⟨c, hc⟩
      have hs1 : s % 3 = 1 := by omega
      have hc2 : c % 3 = 2 := by
        rw [hc, Nat.mul_mod, hs1] at h2
        omega
      have hlt : c < d := by
        have := hs.1
        have := Nat.mul_le_mul_right c this
        omega
      have hcd : c ∣ d := ⟨s, by rw [hc, Nat.mul_comm]⟩
      obtain ⟨x, hx, hxc, hx2⟩ := ih c hlt hc2 (fun z hz hzc => h0 z hz (Nat.dvd_trans hzc hcd))
      exact ⟨x, hx, Nat.dvd_trans hxc hcd, hx2⟩
theorem nt_c_min {n r c : Nat} (h : nt_hyp n) (hr : nt_prime r) (hrd : r ∣ n) (hr3 : r % 3 = 2) (hc : nt_prime c) (hcd : c ∣ n) (hc3 : c % 3 = 1) : 1785200041 ≤ c := by
  by_cases hlt : c < 30000000000
  · have hm : ∀ x, x ∈ nt_cX → 1785200041 ≤ x := by decide
    exact hm c (nt_c_list h hr hrd hr3 hc hcd hc3 hlt)
  · omega
noncomputable def nt_smK (y w : Nat) : Bool :=
  nt_or (Nat.beq w y) (nt_or (nt_nt (Nat.beq (Nat.mod w 24) (Nat.mod y 24))) (nt_or (nt_nt (Nat.beq (nt_vx nt_L w) (nt_vx nt_L y))) (List.rec (motive := fun _ => Bool) false (fun d _ ih => nt_or (nt_an (Nat.beq (Nat.mod w d) 0) (Nat.ble (Nat.succ d) w)) ih) [5, 7, 11, 13, 17, 19, 23, 29, 31, 37, 41, 43, 47, 53, 59, 61, 67])))
theorem nt_smA : nt_lall (fun y => nt_all (fun w => nt_or (Nat.ble w 28) (nt_smK y w)) 4800) [29, 41, 47, 53, 59, 71, 83, 89] = true := by decide +kernel
theorem nt_sm_sound {y w : Nat} (h : nt_smK y w = true) (hw : nt_prime w) (h24 : w % 24 = y % 24) (hq : ∀ l, l ∈ nt_L → nt_q l w = nt_q l y) : w = y := by
  unfold nt_smK at h
  rcases nt_or_true h with h | h
  · exact Nat.eq_of_beq_eq_true h
  · exfalso
    rcases nt_or_true h with h | h
    · have h := nt_nt_true h
      have e : Nat.beq (w % 24) (y % 24) = true := by
        rw [h24]
        exact Nat.beq_refl _
      have h : Nat.beq (w % 24) (y % 24) = false := h
      rw [e] at h
      exact Bool.noConfusion h
    · rcases nt_or_true h with h | h
      · have h := nt_nt_true h
        rw [nt_vx_congr nt_L hq, Nat.beq_refl] at h
        exact Bool.noConfusion h
      · have key : ∀ m : List Nat, (∀ d, d ∈ m → 1 < d) → (List.rec (motive := fun _ => Bool) false (fun d _ ih => nt_or (nt_an (Nat.beq (Nat.mod w d) 0) (Nat.ble (Nat.succ d) w)) ih) m : Bool) = true → False := by
          intro m
          induction m with
          | nil => intro _ h; exact Bool.noConfusion (show false = true from h)
          | cons d m ihm =>
            intro hm h
            rcases nt_or_true (show nt_or (nt_an (Nat.beq (Nat.mod w d) 0) (Nat.ble (Nat.succ d) w)) (List.rec (motive := fun _ => Bool) false (fun d _ ih => nt_or (nt_an (Nat.beq (Nat.mod w d) 0) (Nat.ble (Nat.succ d) w)) ih) m) = true from h) with h4 | h4
            · obtain ⟨k1, k2⟩ := nt_an_true h4
              have k1 : w % d = 0 := Nat.eq_of_beq_eq_true k1
              have k2 : d + 1 ≤ w := Nat.le_of_ble_eq_true k2
              have := hm d List.mem_cons_self
              rcases hw.2 d (Nat.dvd_of_mod_eq_zero k1) with e | e <;> omega
            · exact ihm (fun d' hd' => hm d' (List.mem_cons_of_mem _ hd')) h4
        exact key [5, 7, 11, 13, 17, 19, 23, 29, 31, 37, 41, 43, 47, 53, 59, 61, 67] (by decide) h
theorem nt_k3 {n c : Nat} (h : nt_hyp n) (hc : nt_prime c) (hcd : c ∣ n) (hc3 : c % 3 = 1) : False := by
  obtain ⟨R, hR⟩ := hcd
  have hcd : c ∣ n := ⟨R, hR⟩
  have hn : n = R * c := by rw [hR, Nat.mul_comm]
  have hn60 := h.2.2.1
  have hn3 := h.2.2.2.1
  have hn23 := h.2.1
  have hRd : R ∣ n := ⟨c, hn⟩
  have hR3 : R % 3 = 2 := by
    rw [hn, Nat.mul_mod, hc3] at hn3
    omega
  have hp0 : ∀ s, nt_prime s → s ∣ n → s % 3 ≠ 0 := by
    intro s hs hsd h0
    obtain ⟨k, hk⟩ := hsd
    rw [hk, Nat.mul_mod, h0] at hn3
    omega
  obtain ⟨r1, hr1, hr1R, hr13⟩ := nt_ex2 R hR3 (fun s hs hsR => hp0 s hs (Nat.dvd_trans hsR hRd))
  have hr1d : r1 ∣ n := Nat.dvd_trans hr1R hRd
  have hr1g := nt_h_gt h hr1 hr1d
  have cmin := nt_c_min h hr1 hr1d hr13 hc hcd hc3
  have allR : ∀ y, nt_prime y → y ∣ R → y % 3 = 2 := by
    intro y hy hyR
    have y0 := hp0 y hy (Nat.dvd_trans hyR hRd)
    apply Classical.byContradiction
    intro hne
    have ymin := nt_c_min h hr1 hr1d hr13 hy (Nat.dvd_trans hyR hRd) (by omega)
    have hyle : y ≤ R := Nat.le_of_dvd (by omega) hyR
    have a1 : 1785200041 * 1785200041 ≤ R * c := Nat.mul_le_mul (by omega) cmin
    rw [← hn] at a1
    omega
  have hRT : 1623258 ≤ R - 1 := by
    have a1 := nt_low17 n c h hc hcd (by omega)
    have a2 : Nat.gcd (c - 1) (n - 1) ∣ R - 1 := by
      have e : n - 1 = R * (c - 1) + (R - 1) := by
        obtain ⟨c', rfl⟩ : ∃ c', c = c' + 1 := ⟨c - 1, by omega⟩
        rw [Nat.add_sub_cancel]
        have : n = R * c' + R := by rw [hn]; grind
        omega
      have g1 : Nat.gcd (c - 1) (n - 1) ∣ n - 1 := Nat.gcd_dvd_right _ _
      have g2 : Nat.gcd (c - 1) (n - 1) ∣ R * (c - 1) := Nat.dvd_trans (Nat.gcd_dvd_left _ _) ⟨R, Nat.mul_comm _ _⟩
      generalize Nat.gcd (c - 1) (n - 1) = g at *
      rw [e] at g1
      exact (Nat.dvd_add_right g2).mp g1
    exact Nat.le_trans a1 (Nat.le_of_dvd (by omega) a2)
  obtain ⟨e, x, h1, hx⟩ := nt_odd_part (r1 - 1) (by omega)
  have he1 := nt_e_pos h1 hx (by omega) (nt_h_odd h hr1d)
  have no2 : ¬ 2 ^ (e + 1) ∣ r1 - 1 := by
    intro h5
    rw [h1, Nat.pow_succ] at h5
    obtain ⟨k, hk⟩ := h5
    have h6 : 2 ^ e * x = 2 ^ e * (2 * k) := by rw [hk]; grind
    have := Nat.eq_of_mul_eq_mul_left (Nat.two_pow_pos e) h6
    omega
  have hR2 : ¬ 2 ^ (e + 1) ∣ R - 1 := by
    intro h5
    have hall : ∀ s, nt_prime s → s ∣ R → s % 3 = 2 ∧ s % 2 ^ (e + 1) = r1 % 2 ^ (e + 1) := by
      intro s hs hsR
      have hsd := Nat.dvd_trans hsR hRd
      have s3 := allR s hs hsR
      have hsg := nt_h_gt h hs hsd
      obtain ⟨f, y, h2, hy⟩ := nt_odd_part (s - 1) (by omega)
      have a1 := nt_h_e2 h hr1 hr1d hs hsd h1 hx h2 hy s3
      have a2 := nt_h_e2 h hs hsd hr1 hr1d h2 hy h1 hx hr13
      have hef : e = f := by omega
      subst hef
      exact ⟨s3, (nt_h_mod h hr1 hr1d hs hsd h1 hx h2 hy).1.symm⟩
    have hW : (r1 * r1) % 2 ^ (e + 1) = 1 % 2 ^ (e + 1) := by
      have ro := nt_h_odd h hr1d
      have d1 : 2 ^ (e + 1) ∣ (r1 - 1) * (r1 + 1) := by
        refine ⟨x * ((r1 + 1) / 2), ?_⟩
        have e3 : r1 + 1 = 2 * ((r1 + 1) / 2) := by omega
        rw [h1, Nat.pow_succ]
        conv => lhs; rw [e3]
        grind
      obtain ⟨k, hk⟩ := d1
      have e4 : r1 * r1 = 2 ^ (e + 1) * k + 1 := by
        rw [← hk]
        obtain ⟨z, rfl⟩ : ∃ z, r1 = z + 1 := ⟨r1 - 1, by omega⟩
        rw [Nat.add_sub_cancel]
        grind
      rw [e4, Nat.mul_add_mod]
    rcases nt_div_class2 hall hW R (Nat.dvd_refl R) (by omega) with ⟨_, a⟩ | ⟨a, _⟩
    · apply no2
      have b1 : R % 2 ^ (e + 1) = 1 % 2 ^ (e + 1) := by
        obtain ⟨k, hk⟩ := h5
        have : R = 2 ^ (e + 1) * k + 1 := by omega
        rw [this, Nat.mul_add_mod]
      rw [b1] at a
      have b2 : nt_cg ((2 ^ (e + 1) : Nat) : Int) (r1 : Int) ((1 : Nat) : Int) := nt_cg_nat a.symm
      have b3 : ((2 ^ (e + 1) : Nat) : Int) ∣ ((r1 - 1 : Nat) : Int) := by
        have e5 : ((r1 - 1 : Nat) : Int) = (r1 : Int) - ((1 : Nat) : Int) := by omega
        rw [e5]
        exact b2
      exact Int.ofNat_dvd.mp b3
    · omega
  have q97 : ∀ q, 2 ≤ q → q ≤ 97 → ¬ q ∣ R := by
    intro q hq1 hq2 hqR
    obtain ⟨y, hy, hyq⟩ := nt_factor q hq1
    have hyR : y ∣ R := Nat.dvd_trans hyq hqR
    have hyd := Nat.dvd_trans hyR hRd
    have hy97 : y ≤ q := Nat.le_of_dvd (by omega) hyq
    have y3 := allR y hy hyR
    have yg := nt_h_gt h hy hyd
    obtain ⟨k, hk⟩ := hyR
    have hk3 : k % 3 = 1 := by
      rw [hk, Nat.mul_mod, y3] at hR3
      omega
    have hk1 : k ≠ 1 := by
      intro e0
      rw [e0, Nat.mul_one] at hk
      omega
    have hkR : k ∣ R := ⟨y, by rw [hk, Nat.mul_comm]⟩
    obtain ⟨z, hz, hzk⟩ := nt_factor k (by omega)
    have z3 := allR z hz (Nat.dvd_trans hzk hkR)
    obtain ⟨k2, hk2⟩ := hzk
    have hk23 : k2 % 3 = 2 := by
      rw [hk2, Nat.mul_mod, z3] at hk3
      omega
    obtain ⟨z2, hz2, hz2k⟩ := nt_factor k2 (by omega)
    have hz2le : z2 ≤ k2 := Nat.le_of_dvd (by omega) hz2k
    have hkk : k2 ∣ k := ⟨z, by rw [hk2, Nat.mul_comm]⟩
    have hklt : k < 22500000 := by
      apply Classical.byContradiction
      intro hge
      have a1 : 29 * 22500000 ≤ R := by
        rw [hk]
        exact Nat.mul_le_mul yg (by omega)
      have a2 : 29 * 22500000 * 1785200041 ≤ R * c := Nat.mul_le_mul a1 cmin
      rw [← hn] at a2
      omega
    have hw : ∃ w, nt_prime w ∧ w ∣ k ∧ w < 4800 := by
      apply Classical.byContradiction
      intro hno
      have b1 : 4800 ≤ z := Classical.byContradiction (fun hh => hno ⟨z, hz, ⟨k2, hk2⟩, by omega⟩)
      have b2 : 4800 ≤ z2 := Classical.byContradiction (fun hh => hno ⟨z2, hz2, Nat.dvd_trans hz2k hkk, by omega⟩)
      have b3 : 4800 * 4800 ≤ z * k2 := Nat.mul_le_mul b1 (by omega)
      rw [← hk2] at b3
      omega
    obtain ⟨w, hwp, hwk, hwlt⟩ := hw
    have hwR := Nat.dvd_trans hwk hkR
    have hwd := Nat.dvd_trans hwR hRd
    have w3 := allR w hwp hwR
    have wg := nt_h_gt h hwp hwd
    obtain ⟨_, _, _, _, _, _, _, _, h8, hqq⟩ := nt_two h hwp hwd hy hyd w3 y3
    have hyin : ∀ y : Nat, y < 98 → (29 ≤ y ∧ y % 3 = 2 ∧ y % 2 = 1 ∧ ¬ y % 5 = 0 ∧ ¬ y % 7 = 0) → y ∈ [29, 41, 47, 53, 59, 71, 83, 89] := by decide
    have hz57 : ∀ l, l ∈ nt_L → y % l ≠ 0 := by
      intro l hl h0
      exact (h.2.2.2.2.1 l (nt_L_A l hl)).2 (Nat.dvd_trans (Nat.dvd_of_mod_eq_zero h0) hyd)
    have hmem := hyin y (by omega) ⟨yg, y3, nt_h_odd h hyd, hz57 5 (by decide), hz57 7 (by decide)⟩
    have hK := nt_all_sound _ _ (nt_lall_sound _ nt_smA y hmem) w hwlt
    rcases nt_or_true hK with hK | hK
    · have := Nat.le_of_ble_eq_true hK
      omega
    · have hwy := nt_sm_sound hK hwp (by omega) hqq
      subst hwy
      refine nt_nosq h hwp (Nat.dvd_trans ?_ hRd) w3 (by omega)
      rw [hk]
      exact Nat.mul_dvd_mul (Nat.dvd_refl _) hwk
  exact nt_k2 h hn ⟨by omega, q97, r1, e, x, hr1, hr1d, hr13, h1, hx, hR2⟩ hc hR3 hc3
theorem nt_all2 {n : Nat} (h : nt_hyp n) : ∀ x, nt_prime x → x ∣ n → x % 3 = 2 := by
  intro x hx hxd
  have hn3 := h.2.2.2.1
  have h0 : x % 3 ≠ 0 := by
    intro h0
    obtain ⟨k, hk⟩ := hxd
    rw [hk, Nat.mul_mod, h0] at hn3
    omega
  apply Classical.byContradiction
  intro hne
  exact nt_k3 h hx hxd (by omega)
