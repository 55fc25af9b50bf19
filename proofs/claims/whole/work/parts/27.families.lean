/-! the families: n = r s m with all factors in one class -/
theorem nt_fam {n r x k : Nat} (h : nt_hyp n) (hr : nt_prime r) (hrd : r ∣ n) (hx : nt_prime x) (hxd : x ∣ n) (hr3 : r % 3 = 2) (hx3 : x % 3 = 2) (hk : r % 2 ^ k = 1) : x % 2 ^ (k + 1) = r % 2 ^ (k + 1) := by
  obtain ⟨e, y, z, h1, hy, h2, hz, h3, _, _⟩ := nt_two h hr hrd hx hxd hr3 hx3
  have hrg := nt_h_gt h hr hrd
  have hke : k ≤ e := by
    apply Classical.byContradiction
    intro hlt
    have a1 : 2 ^ (e + 1) ∣ r - 1 := by
      have a2 : 2 ^ k ∣ r - 1 := by
        have a3 := Nat.div_add_mod r (2 ^ k)
        rw [hk] at a3
        exact ⟨r / 2 ^ k, by omega⟩
      exact Nat.dvd_trans (Nat.pow_dvd_pow 2 (by omega)) a2
    rw [h1, Nat.pow_succ] at a1
    obtain ⟨c, hc⟩ := a1
    have h6 : 2 ^ e * y = 2 ^ e * (2 * c) := by rw [hc]; grind
    have := Nat.eq_of_mul_eq_mul_left (Nat.two_pow_pos e) h6
    omega
  have hd : 2 ^ (k + 1) ∣ 2 ^ (e + 1) := Nat.pow_dvd_pow 2 (by omega)
  rw [← Nat.mod_mod_of_dvd x hd, ← Nat.mod_mod_of_dvd r hd, h3]
theorem nt_allone {n x : Nat} (h : nt_hyp n) (hxd : x ∣ n) (hx3 : x % 3 = 2) (hchi : ∀ a, a ∈ nt_A → nt_chi a x = 1) : x % 24 = 23 ∧ nt_vx nt_L x = 25 := by
  have hxo := nt_h_odd h hxd
  have h3 := hchi 3 (by decide)
  have h2 := hchi 2 (by decide)
  rw [nt_chi3 x hxo (by omega)] at h3
  rw [nt_chi2 x hxo] at h2
  have h12 : x % 12 = 1 ∨ x % 12 = 11 := by
    apply Classical.byContradiction
    intro hn
    rw [if_neg hn] at h3
    exact absurd h3 (by decide)
  have h8 : x % 8 = 1 ∨ x % 8 = 7 := by
    apply Classical.byContradiction
    intro hn
    rw [if_neg hn] at h2
    exact absurd h2 (by decide)
  refine ⟨by omega, ?_⟩
  have hz : ∀ l, l ∈ nt_L → x % l ≠ 0 := by
    intro l hl h0
    exact (h.2.2.2.2.1 l (nt_L_A l hl)).2 (Nat.dvd_trans (Nat.dvd_of_mod_eq_zero h0) hxd)
  have hl4 : ∀ l, l ∈ nt_L → l % 4 = 1 ∨ l % 4 = 3 := by decide
  have hq1 : ∀ l, l ∈ nt_L → l % 4 = 1 → nt_q l x = true := by
    intro l hl e
    have hc := hchi l (nt_L_A l hl)
    rw [nt_q_chi hl hxo (hz l hl), if_neg (by omega : ¬ (l % 4 = 3 ∧ x % 4 = 3)), Int.mul_one] at hc
    cases hb : nt_q l x with
    | true => rfl
    | false => rw [hb] at hc; exact absurd hc (by decide)
  have hq3 : ∀ l, l ∈ nt_L → l % 4 = 3 → nt_q l x = false := by
    intro l hl e
    have hc := hchi l (nt_L_A l hl)
    rw [nt_q_chi hl hxo (hz l hl), if_pos (by omega : l % 4 = 3 ∧ x % 4 = 3)] at hc
    cases hb : nt_q l x with
    | false => rfl
    | true => rw [hb] at hc; exact absurd hc (by decide)
  have e : nt_vx nt_L x = (if nt_q 5 x then 1 else 0) + 2 * ((if nt_q 7 x then 1 else 0) + 2 * ((if nt_q 11 x then 1 else 0) + 2 * ((if nt_q 13 x then 1 else 0) + 2 * ((if nt_q 17 x then 1 else 0) + 2 * ((if nt_q 19 x then 1 else 0) + 2 * ((if nt_q 23 x then 1 else 0) + 2 * 0)))))) := rfl
  rw [e, hq1 5 (by decide) (by decide), hq3 7 (by decide) (by decide), hq3 11 (by decide) (by decide), hq1 13 (by decide) (by decide), hq1 17 (by decide) (by decide), hq3 19 (by decide) (by decide), hq3 23 (by decide) (by decide)]
  rfl
theorem nt_fcls {n r s m M p : Nat} (h : nt_hyp n) (he : n = r * s * m) (hr : nt_prime r) (hs : nt_prime s) (all2 : ∀ x, nt_prime x → x ∣ n → x % 3 = 2) (hM : ∀ x, nt_prime x → x ∣ n → x % M = p % M) (hpp : p * p % M = 1 % M) : m % M = p % M ∧ (∀ l, l ∈ nt_L → nt_q l r = nt_q l m) ∧ ∀ l, l ∈ nt_L → nt_q l s = nt_q l m := by
  have hrd : r ∣ n := ⟨s * m, by rw [he, Nat.mul_assoc]⟩
  have hsd : s ∣ n := ⟨r * m, by rw [he, Nat.mul_comm r s, Nat.mul_assoc]⟩
  have hmd : m ∣ n := ⟨r * s, by rw [he, Nat.mul_comm]⟩
  have hm0 : 0 < m := by
    rcases Nat.eq_zero_or_pos m with e | e
    · rw [e, Nat.mul_zero] at he
      have := h.2.1
      omega
    · exact e
  have hall : ∀ x, nt_prime x → x ∣ n → x % 3 = 2 ∧ x % M = p % M ∧ ∀ l, l ∈ nt_L → nt_q l x = (fun l => nt_q l r) l := by
    intro x hx hxd
    refine ⟨all2 x hx hxd, hM x hx hxd, ?_⟩
    intro l hl
    obtain ⟨_, _, _, _, _, _, _, _, _, hq⟩ := nt_two h hx hxd hr hrd (all2 x hx hxd) (all2 r hr hrd)
    exact hq l hl
  have hm3 : m % 3 = 2 := by
    have h3 := h.2.2.2.1
    rw [he, Nat.mul_mod, Nat.mul_mod r s, all2 r hr hrd, all2 s hs hsd] at h3
    omega
  rcases nt_div_class h hall hpp m hmd hm0 with ⟨_, a, b⟩ | ⟨a, _⟩
  · refine ⟨a, fun l hl => (b l hl).symm, ?_⟩
    intro l hl
    rw [b l hl]
    exact (hall s hs hsd).2.2 l hl
  · omega
theorem nt_fm_0 {n r s m : Nat} (h : nt_hyp n) (he : n = r * s * m) (hr : nt_prime r) (hs : nt_prime s) (hrs : r < s) (hsm : s ≤ m) (all2 : ∀ x, nt_prime x → x ∣ n → x % 3 = 2) (hfam : r % 24 = 11) : False := by
  have hrd : r ∣ n := ⟨s * m, by rw [he, Nat.mul_assoc]⟩
  have hsd : s ∣ n := ⟨r * m, by rw [he, Nat.mul_comm r s, Nat.mul_assoc]⟩
  have hM : ∀ x, nt_prime x → x ∣ n → x % 24 = 11 := by
    intro x hx hxd
    have x3 := all2 x hx hxd
    have r3 := all2 r hr hrd
    obtain ⟨_, _, _, _, _, _, _, _, h8, _⟩ := nt_two h hr hrd hx hxd r3 x3
    omega
  obtain ⟨m1, m2, m3⟩ := nt_fcls (M := 24) (p := 11) h he hr hs all2 hM (by decide)
  have m1 : m % 24 = 11 := m1
  have hrun : nt_run 1 24 11 12 43691 11 130 nt_TV0 nt_TT (24, nt_z11) nt_EX0 (nt_vx nt_L m) = true := nt_ra_0 _ (nt_vx_lt m)
  refine nt_use (Mc := 24) (Hc := 10) (pc := 11) h he hr hs hrs hsm hrun (by omega) (by omega) hfam (hM s hs hsd) (by omega) (by omega) (by decide) (by omega) m2 m3 (by omega) (by omega) (by omega) (by omega) ⟨2, rfl⟩ nt_TV0_ok rfl nt_TT_ok nt_TT_L rfl nt_z11_ok nt_EX0_ok nt_kp0_ok ?_ ?_
  · intro x hx hx29
    rw [Nat.div_one]
    exact ⟨by omega, by omega, Nat.dvd_refl _⟩
  · intro x hx hxd hxr hlt hid
    rw [Nat.div_one]
    rcases nt_id_sound h hx hxd (all2 x hx hxd) hlt hid with a | ⟨_, a⟩
    · exact a
    · exfalso
      obtain ⟨b1, b2⟩ := nt_allone h hxd (all2 x hx hxd) a
      have := hM x hx hxd
      omega
theorem nt_fm_1 {n r s m : Nat} (h : nt_hyp n) (he : n = r * s * m) (hr : nt_prime r) (hs : nt_prime s) (hrs : r < s) (hsm : s ≤ m) (all2 : ∀ x, nt_prime x → x ∣ n → x % 3 = 2) (hfam : r % 24 = 23) : False := by
  have hrd : r ∣ n := ⟨s * m, by rw [he, Nat.mul_assoc]⟩
  have hsd : s ∣ n := ⟨r * m, by rw [he, Nat.mul_comm r s, Nat.mul_assoc]⟩
  have hM : ∀ x, nt_prime x → x ∣ n → x % 24 = 23 := by
    intro x hx hxd
    have x3 := all2 x hx hxd
    have r3 := all2 r hr hrd
    obtain ⟨_, _, _, _, _, _, _, _, h8, _⟩ := nt_two h hr hrd hx hxd r3 x3
    omega
  obtain ⟨m1, m2, m3⟩ := nt_fcls (M := 24) (p := 23) h he hr hs all2 hM (by decide)
  have m1 : m % 24 = 23 := m1
  by_cases hv : nt_vx nt_L m = 25
  · have hrun : nt_run 2 24 23 12 43690 11 130 nt_TV1 nt_TT (24, nt_z23) nt_EX1 (nt_vx nt_L m) = true := nt_ra_x _ hv
    refine nt_use (Mc := 12) (Hc := 11) (pc := 11) h he hr hs hrs hsm hrun (by omega) (by omega) hfam (hM s hs hsd) (by omega) (by omega) (by decide) (by omega) m2 m3 (by omega) (by omega) (by omega) (by omega) ⟨1, rfl⟩ nt_TV1_ok rfl nt_TT_ok nt_TT_L rfl nt_z23_ok nt_EX1_ok nt_kpx_ok ?_ ?_
    · intro x hx hx29
      exact ⟨by omega, by omega, ⟨2, by omega⟩⟩
    · intro x hx hxd hxr hlt hid
      rcases nt_id_sound h hx hxd (all2 x hx hxd) hlt hid with a | ⟨a, _⟩
      · have := hM x hx hxd
        exact Nat.dvd_trans ⟨2, by omega⟩ a
      · exact a
  · have hrun : nt_run 1 24 23 12 43690 11 130 nt_TV1 nt_TT (24, nt_z23) nt_EX1 (nt_vx nt_L m) = true := nt_ra_1 _ (nt_vx_lt m) hv
    refine nt_use (Mc := 24) (Hc := 22) (pc := 23) h he hr hs hrs hsm hrun (by omega) (by omega) hfam (hM s hs hsd) (by omega) (by omega) (by decide) (by omega) m2 m3 (by omega) (by omega) (by omega) (by omega) ⟨2, rfl⟩ nt_TV1_ok rfl nt_TT_ok nt_TT_L rfl nt_z23_ok nt_EX1_ok nt_kp1_ok ?_ ?_
    · intro x hx hx29
      rw [Nat.div_one]
      exact ⟨by omega, by omega, Nat.dvd_refl _⟩
    · intro x hx hxd hxr hlt hid
      rw [Nat.div_one]
      rcases nt_id_sound h hx hxd (all2 x hx hxd) hlt hid with a | ⟨_, a⟩
      · exact a
      · exfalso
        obtain ⟨b1, b2⟩ := nt_allone h hxd (all2 x hx hxd) a
        apply hv
        rw [← b2]
        rcases hxr with e | e
        · rw [e]
          exact (nt_vx_congr nt_L m2).symm
        · rw [e]
          exact (nt_vx_congr nt_L m3).symm
theorem nt_fm_2 {n r s m : Nat} (h : nt_hyp n) (he : n = r * s * m) (hr : nt_prime r) (hs : nt_prime s) (hrs : r < s) (hsm : s ≤ m) (all2 : ∀ x, nt_prime x → x ∣ n → x % 3 = 2) (hfam : r % 24 = 5) : False := by
  have hrd : r ∣ n := ⟨s * m, by rw [he, Nat.mul_assoc]⟩
  have hsd : s ∣ n := ⟨r * m, by rw [he, Nat.mul_comm r s, Nat.mul_assoc]⟩
  have hM : ∀ x, nt_prime x → x ∣ n → x % 24 = 5 := by
    intro x hx hxd
    have x3 := all2 x hx hxd
    have r3 := all2 r hr hrd
    obtain ⟨_, _, _, _, _, _, _, _, h8, _⟩ := nt_two h hr hrd hx hxd r3 x3
    omega
  obtain ⟨m1, m2, m3⟩ := nt_fcls (M := 24) (p := 5) h he hr hs all2 hM (by decide)
  have m1 : m % 24 = 5 := m1
  have hrun : nt_run 1 24 5 6 43691 11 130 nt_TV2 nt_TT (24, nt_z5) nt_EX2 (nt_vx nt_L m) = true := nt_ra_2 _ (nt_vx_lt m)
  refine nt_use (Mc := 24) (Hc := 4) (pc := 5) h he hr hs hrs hsm hrun (by omega) (by omega) hfam (hM s hs hsd) (by omega) (by omega) (by decide) (by omega) m2 m3 (by omega) (by omega) (by omega) (by omega) ⟨4, rfl⟩ nt_TV2_ok rfl nt_TT_ok nt_TT_L rfl nt_z5_ok nt_EX2_ok nt_kp2_ok ?_ ?_
  · intro x hx hx29
    rw [Nat.div_one]
    exact ⟨by omega, by omega, Nat.dvd_refl _⟩
  · intro x hx hxd hxr hlt hid
    rw [Nat.div_one]
    rcases nt_id_sound h hx hxd (all2 x hx hxd) hlt hid with a | ⟨_, a⟩
    · exact a
    · exfalso
      obtain ⟨b1, b2⟩ := nt_allone h hxd (all2 x hx hxd) a
      have := hM x hx hxd
      omega
theorem nt_fm_3 {n r s m : Nat} (h : nt_hyp n) (he : n = r * s * m) (hr : nt_prime r) (hs : nt_prime s) (hrs : r < s) (hsm : s ≤ m) (all2 : ∀ x, nt_prime x → x ∣ n → x % 3 = 2) (hfam : r % 48 = 41) : False := by
  have hrd : r ∣ n := ⟨s * m, by rw [he, Nat.mul_assoc]⟩
  have hsd : s ∣ n := ⟨r * m, by rw [he, Nat.mul_comm r s, Nat.mul_assoc]⟩
  have hM : ∀ x, nt_prime x → x ∣ n → x % 48 = 41 := by
    intro x hx hxd
    have x3 := all2 x hx hxd
    have r3 := all2 r hr hrd
    have a := nt_fam h hr hrd hx hxd r3 x3 (k := 3) (by
      show r % 8 = 1
      omega)
    have a : x % 16 = r % 16 := a
    omega
  obtain ⟨m1, m2, m3⟩ := nt_fcls (M := 48) (p := 41) h he hr hs all2 hM (by decide)
  have m1 : m % 48 = 41 := m1
  have hrun : nt_run 1 48 41 3 21845 6 66 nt_TV3 nt_TT (24, nt_z17) nt_EX3 (nt_vx nt_L m) = true := nt_ra_3 _ (nt_vx_lt m)
  refine nt_use (Mc := 24) (Hc := 16) (pc := 17) h he hr hs hrs hsm hrun (by omega) (by omega) hfam (hM s hs hsd) (by omega) (by omega) (by decide) (by omega) m2 m3 (by omega) (by omega) (by omega) (by omega) ⟨8, rfl⟩ nt_TV3_ok rfl nt_TT_ok nt_TT_L rfl nt_z17_ok nt_EX3_ok nt_kp3_ok ?_ ?_
  · intro x hx hx29
    rw [Nat.div_one]
    exact ⟨by omega, by omega, Nat.dvd_refl _⟩
  · intro x hx hxd hxr hlt hid
    rw [Nat.div_one]
    rcases nt_id_sound h hx hxd (all2 x hx hxd) hlt hid with a | ⟨_, a⟩
    · exact a
    · exfalso
      obtain ⟨b1, b2⟩ := nt_allone h hxd (all2 x hx hxd) a
      have := hM x hx hxd
      omega
theorem nt_fm_4 {n r s m : Nat} (h : nt_hyp n) (he : n = r * s * m) (hr : nt_prime r) (hs : nt_prime s) (hrs : r < s) (hsm : s ≤ m) (all2 : ∀ x, nt_prime x → x ∣ n → x % 3 = 2) (hfam : r % 96 = 17) : False := by
  have hrd : r ∣ n := ⟨s * m, by rw [he, Nat.mul_assoc]⟩
  have hsd : s ∣ n := ⟨r * m, by rw [he, Nat.mul_comm r s, Nat.mul_assoc]⟩
  have hM : ∀ x, nt_prime x → x ∣ n → x % 96 = 17 := by
    intro x hx hxd
    have x3 := all2 x hx hxd
    have r3 := all2 r hr hrd
    have a := nt_fam h hr hrd hx hxd r3 x3 (k := 4) (by
      show r % 16 = 1
      omega)
    have a : x % 32 = r % 32 := a
    omega
  obtain ⟨m1, m2, m3⟩ := nt_fcls (M := 96) (p := 17) h he hr hs all2 hM (by decide)
  have m1 : m % 96 = 17 := m1
  have hrun : nt_run 1 96 17 3 10923 3 34 nt_TV4 nt_TT (24, nt_z17) nt_EX4 (nt_vx nt_L m) = true := nt_ra_4 _ (nt_vx_lt m)
  refine nt_use (Mc := 24) (Hc := 16) (pc := 17) h he hr hs hrs hsm hrun (by omega) (by omega) hfam (hM s hs hsd) (by omega) (by omega) (by decide) (by omega) m2 m3 (by omega) (by omega) (by omega) (by omega) ⟨8, rfl⟩ nt_TV4_ok rfl nt_TT_ok nt_TT_L rfl nt_z17_ok nt_EX4_ok nt_kp3_ok ?_ ?_
  · intro x hx hx29
    rw [Nat.div_one]
    exact ⟨by omega, by omega, Nat.dvd_refl _⟩
  · intro x hx hxd hxr hlt hid
    rw [Nat.div_one]
    rcases nt_id_sound h hx hxd (all2 x hx hxd) hlt hid with a | ⟨_, a⟩
    · exact a
    · exfalso
      obtain ⟨b1, b2⟩ := nt_allone h hxd (all2 x hx hxd) a
      have := hM x hx hxd
      omega
theorem nt_fm_5 {n r s m : Nat} (h : nt_hyp n) (he : n = r * s * m) (hr : nt_prime r) (hs : nt_prime s) (hrs : r < s) (hsm : s ≤ m) (all2 : ∀ x, nt_prime x → x ∣ n → x % 3 = 2) (hfam : r % 192 = 161) : False := by
  have hrd : r ∣ n := ⟨s * m, by rw [he, Nat.mul_assoc]⟩
  have hsd : s ∣ n := ⟨r * m, by rw [he, Nat.mul_comm r s, Nat.mul_assoc]⟩
  have hM : ∀ x, nt_prime x → x ∣ n → x % 192 = 161 := by
    intro x hx hxd
    have x3 := all2 x hx hxd
    have r3 := all2 r hr hrd
    have a := nt_fam h hr hrd hx hxd r3 x3 (k := 5) (by
      show r % 32 = 1
      omega)
    have a : x % 64 = r % 64 := a
    omega
  obtain ⟨m1, m2, m3⟩ := nt_fcls (M := 192) (p := 161) h he hr hs all2 hM (by decide)
  have m1 : m % 192 = 161 := m1
  have hrun : nt_run 1 192 161 3 5461 2 18 nt_TV5 nt_TT (24, nt_z17) nt_EX5 (nt_vx nt_L m) = true := nt_ra_5 _ (nt_vx_lt m)
  refine nt_use (Mc := 24) (Hc := 16) (pc := 17) h he hr hs hrs hsm hrun (by omega) (by omega) hfam (hM s hs hsd) (by omega) (by omega) (by decide) (by omega) m2 m3 (by omega) (by omega) (by omega) (by omega) ⟨8, rfl⟩ nt_TV5_ok rfl nt_TT_ok nt_TT_L rfl nt_z17_ok nt_EX5_ok nt_kp3_ok ?_ ?_
  · intro x hx hx29
    rw [Nat.div_one]
    exact ⟨by omega, by omega, Nat.dvd_refl _⟩
  · intro x hx hxd hxr hlt hid
    rw [Nat.div_one]
    rcases nt_id_sound h hx hxd (all2 x hx hxd) hlt hid with a | ⟨_, a⟩
    · exact a
    · exfalso
      obtain ⟨b1, b2⟩ := nt_allone h hxd (all2 x hx hxd) a
      have := hM x hx hxd
      omega
theorem nt_fm_6 {n r s m : Nat} (h : nt_hyp n) (he : n = r * s * m) (hr : nt_prime r) (hs : nt_prime s) (hrs : r < s) (hsm : s ≤ m) (all2 : ∀ x, nt_prime x → x ∣ n → x % 3 = 2) (hfam : r % 384 = 65) : False := by
  have hrd : r ∣ n := ⟨s * m, by rw [he, Nat.mul_assoc]⟩
  have hsd : s ∣ n := ⟨r * m, by rw [he, Nat.mul_comm r s, Nat.mul_assoc]⟩
  have hM : ∀ x, nt_prime x → x ∣ n → x % 384 = 65 := by
    intro x hx hxd
    have x3 := all2 x hx hxd
    have r3 := all2 r hr hrd
    have a := nt_fam h hr hrd hx hxd r3 x3 (k := 6) (by
      show r % 64 = 1
      omega)
    have a : x % 128 = r % 128 := a
    omega
  obtain ⟨m1, m2, m3⟩ := nt_fcls (M := 384) (p := 65) h he hr hs all2 hM (by decide)
  have m1 : m % 384 = 65 := m1
  have hrun : nt_run 1 384 65 3 2731 1 10 nt_TV6 nt_TT (24, nt_z17) nt_EX6 (nt_vx nt_L m) = true := nt_ra_6 _ (nt_vx_lt m)
  refine nt_use (Mc := 24) (Hc := 16) (pc := 17) h he hr hs hrs hsm hrun (by omega) (by omega) hfam (hM s hs hsd) (by omega) (by omega) (by decide) (by omega) m2 m3 (by omega) (by omega) (by omega) (by omega) ⟨8, rfl⟩ nt_TV6_ok rfl nt_TT_ok nt_TT_L rfl nt_z17_ok nt_EX6_ok nt_kp3_ok ?_ ?_
  · intro x hx hx29
    rw [Nat.div_one]
    exact ⟨by omega, by omega, Nat.dvd_refl _⟩
  · intro x hx hxd hxr hlt hid
    rw [Nat.div_one]
    rcases nt_id_sound h hx hxd (all2 x hx hxd) hlt hid with a | ⟨_, a⟩
    · exact a
    · exfalso
      obtain ⟨b1, b2⟩ := nt_allone h hxd (all2 x hx hxd) a
      have := hM x hx hxd
      omega
theorem nt_fm_7 {n r s m : Nat} (h : nt_hyp n) (he : n = r * s * m) (hr : nt_prime r) (hs : nt_prime s) (hrs : r < s) (hsm : s ≤ m) (all2 : ∀ x, nt_prime x → x ∣ n → x % 3 = 2) (hfam : r % 768 = 641) : False := by
  have hrd : r ∣ n := ⟨s * m, by rw [he, Nat.mul_assoc]⟩
  have hsd : s ∣ n := ⟨r * m, by rw [he, Nat.mul_comm r s, Nat.mul_assoc]⟩
  have hM : ∀ x, nt_prime x → x ∣ n → x % 768 = 641 := by
    intro x hx hxd
    have x3 := all2 x hx hxd
    have r3 := all2 r hr hrd
    have a := nt_fam h hr hrd hx hxd r3 x3 (k := 7) (by
      show r % 128 = 1
      omega)
    have a : x % 256 = r % 256 := a
    omega
  obtain ⟨m1, m2, m3⟩ := nt_fcls (M := 768) (p := 641) h he hr hs all2 hM (by decide)
  have m1 : m % 768 = 641 := m1
  have hrun : nt_run 1 768 641 3 1365 1 6 nt_TV7 nt_TT (24, nt_z17) nt_EX7 (nt_vx nt_L m) = true := nt_ra_7 _ (nt_vx_lt m)
  refine nt_use (Mc := 24) (Hc := 16) (pc := 17) h he hr hs hrs hsm hrun (by omega) (by omega) hfam (hM s hs hsd) (by omega) (by omega) (by decide) (by omega) m2 m3 (by omega) (by omega) (by omega) (by omega) ⟨8, rfl⟩ nt_TV7_ok rfl nt_TT_ok nt_TT_L rfl nt_z17_ok nt_EX7_ok nt_kp3_ok ?_ ?_
  · intro x hx hx29
    rw [Nat.div_one]
    exact ⟨by omega, by omega, Nat.dvd_refl _⟩
  · intro x hx hxd hxr hlt hid
    rw [Nat.div_one]
    rcases nt_id_sound h hx hxd (all2 x hx hxd) hlt hid with a | ⟨_, a⟩
    · exact a
    · exfalso
      obtain ⟨b1, b2⟩ := nt_allone h hxd (all2 x hx hxd) a
      have := hM x hx hxd
      omega
theorem nt_fm_8 {n r s m : Nat} (h : nt_hyp n) (he : n = r * s * m) (hr : nt_prime r) (hs : nt_prime s) (hrs : r < s) (hsm : s ≤ m) (all2 : ∀ x, nt_prime x → x ∣ n → x % 3 = 2) (hfam : r % 768 = 257) : False := by
  have hrd : r ∣ n := ⟨s * m, by rw [he, Nat.mul_assoc]⟩
  have hsd : s ∣ n := ⟨r * m, by rw [he, Nat.mul_comm r s, Nat.mul_assoc]⟩
  have hM : ∀ x, nt_prime x → x ∣ n → x % 768 = 257 := by
    intro x hx hxd
    have x3 := all2 x hx hxd
    have r3 := all2 r hr hrd
    have a := nt_fam h hr hrd hx hxd r3 x3 (k := 7) (by
      show r % 128 = 1
      omega)
    have a : x % 256 = r % 256 := a
    omega
  obtain ⟨m1, m2, m3⟩ := nt_fcls (M := 768) (p := 257) h he hr hs all2 hM (by decide)
  have m1 : m % 768 = 257 := m1
  have hrun : nt_run 1 768 257 3 1365 1 6 nt_TV8 nt_TT (24, nt_z17) nt_EX8 (nt_vx nt_L m) = true := nt_ra_8 _ (nt_vx_lt m)
  refine nt_use (Mc := 24) (Hc := 16) (pc := 17) h he hr hs hrs hsm hrun (by omega) (by omega) hfam (hM s hs hsd) (by omega) (by omega) (by decide) (by omega) m2 m3 (by omega) (by omega) (by omega) (by omega) ⟨8, rfl⟩ nt_TV8_ok rfl nt_TT_ok nt_TT_L rfl nt_z17_ok nt_EX8_ok nt_kp3_ok ?_ ?_
  · intro x hx hx29
    rw [Nat.div_one]
    exact ⟨by omega, by omega, Nat.dvd_refl _⟩
  · intro x hx hxd hxr hlt hid
    rw [Nat.div_one]
    rcases nt_id_sound h hx hxd (all2 x hx hxd) hlt hid with a | ⟨_, a⟩
    · exact a
    · exfalso
      obtain ⟨b1, b2⟩ := nt_allone h hxd (all2 x hx hxd) a
      have := hM x hx hxd
      omega
theorem nt_tri {n r s m : Nat} (h : nt_hyp n) (he : n = r * s * m) (hr : nt_prime r) (hs : nt_prime s) (hrs : r < s) (hsm : s ≤ m) (all2 : ∀ x, nt_prime x → x ∣ n → x % 3 = 2) : False := by
  have hrd : r ∣ n := ⟨s * m, by rw [he, Nat.mul_assoc]⟩
  have r3 := all2 r hr hrd
  have ro := nt_h_odd h hrd
  by_cases c0 : r % 24 = 11
  · exact nt_fm_0 h he hr hs hrs hsm all2 c0
  by_cases c1 : r % 24 = 23
  · exact nt_fm_1 h he hr hs hrs hsm all2 c1
  by_cases c2 : r % 24 = 5
  · exact nt_fm_2 h he hr hs hrs hsm all2 c2
  have d2 : r % 24 = 17 := by omega
  by_cases c3 : r % 48 = 41
  · exact nt_fm_3 h he hr hs hrs hsm all2 c3
  have d3 : r % 48 = 17 := by omega
  by_cases c4 : r % 96 = 17
  · exact nt_fm_4 h he hr hs hrs hsm all2 c4
  have d4 : r % 96 = 65 := by omega
  by_cases c5 : r % 192 = 161
  · exact nt_fm_5 h he hr hs hrs hsm all2 c5
  have d5 : r % 192 = 65 := by omega
  by_cases c6 : r % 384 = 65
  · exact nt_fm_6 h he hr hs hrs hsm all2 c6
  have d6 : r % 384 = 257 := by omega
  by_cases c7 : r % 768 = 641
  · exact nt_fm_7 h he hr hs hrs hsm all2 c7
  exact nt_fm_8 h he hr hs hrs hsm all2 (by omega)
