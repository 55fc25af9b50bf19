theorem nt_chi2 : ∀ s, s % 2 = 1 → nt_chi 2 s = (if s % 8 = 1 ∨ s % 8 = 7 then 1 else -1) := by
  have key : ∀ r, r < 8 → r % 2 = 1 → nt_sgn (nt_ch 2 r) = (if r = 1 ∨ r = 7 then 1 else -1) := by decide
  intro s h2
  unfold nt_chi
  exact key (s % (4 * 2)) (by omega) (by omega)
theorem nt_cm_5 (w : Nat) (h0 : (24 * w + 1) % 5 ≠ 0) (h : nt_chi 5 (24 * w + 1) = 1) : (5 : Nat).testBit (w % 5) = true := by
  have key : ∀ x, x < 5 → (24 * x + 1) % 5 ≠ 0 → nt_sgn (nt_ch 5 ((24 * x + 1) % 20)) = 1 → (5 : Nat).testBit x = true := by decide
  refine key (w % 5) (Nat.mod_lt _ (by omega)) (by omega) ?_
  have e : (24 * (w % 5) + 1) % 20 = (24 * w + 1) % (4 * 5) := by omega
  rw [e]
  exact h
theorem nt_cm_7 (w : Nat) (h0 : (24 * w + 1) % 7 ≠ 0) (h : nt_chi 7 (24 * w + 1) = 1) : (35 : Nat).testBit (w % 7) = true := by
  have key : ∀ x, x < 7 → (24 * x + 1) % 7 ≠ 0 → nt_sgn (nt_ch 7 ((24 * x + 1) % 28)) = 1 → (35 : Nat).testBit x = true := by decide
  refine key (w % 7) (Nat.mod_lt _ (by omega)) (by omega) ?_
  have e : (24 * (w % 7) + 1) % 28 = (24 * w + 1) % (4 * 7) := by omega
  rw [e]
  exact h
theorem nt_cm_11 (w : Nat) (h0 : (24 * w + 1) % 11 ≠ 0) (h : nt_chi 11 (24 * w + 1) = 1) : (151 : Nat).testBit (w % 11) = true := by
  have key : ∀ x, x < 11 → (24 * x + 1) % 11 ≠ 0 → nt_sgn (nt_ch 11 ((24 * x + 1) % 44)) = 1 → (151 : Nat).testBit x = true := by decide
  refine key (w % 11) (Nat.mod_lt _ (by omega)) (by omega) ?_
  have e : (24 * (w % 11) + 1) % 44 = (24 * w + 1) % (4 * 11) := by omega
  rw [e]
  exact h
theorem nt_cm_13 (w : Nat) (h0 : (24 * w + 1) % 13 ≠ 0) (h : nt_chi 13 (24 * w + 1) = 1) : (4647 : Nat).testBit (w % 13) = true := by
  have key : ∀ x, x < 13 → (24 * x + 1) % 13 ≠ 0 → nt_sgn (nt_ch 13 ((24 * x + 1) % 52)) = 1 → (4647 : Nat).testBit x = true := by decide
  refine key (w % 13) (Nat.mod_lt _ (by omega)) (by omega) ?_
  have e : (24 * (w % 13) + 1) % 52 = (24 * w + 1) % (4 * 13) := by omega
  rw [e]
  exact h
theorem nt_cm_17 (w : Nat) (h0 : (24 * w + 1) % 17 ≠ 0) (h : nt_chi 17 (24 * w + 1) = 1) : (33511 : Nat).testBit (w % 17) = true := by
  have key : ∀ x, x < 17 → (24 * x + 1) % 17 ≠ 0 → nt_sgn (nt_ch 17 ((24 * x + 1) % 68)) = 1 → (33511 : Nat).testBit x = true := by decide
  refine key (w % 17) (Nat.mod_lt _ (by omega)) (by omega) ?_
  have e : (24 * (w % 17) + 1) % 68 = (24 * w + 1) % (4 * 17) := by omega
  rw [e]
  exact h
theorem nt_cm_19 (w : Nat) (h0 : (24 * w + 1) % 19 ≠ 0) (h : nt_chi 19 (24 * w + 1) = 1) : (77999 : Nat).testBit (w % 19) = true := by
  have key : ∀ x, x < 19 → (24 * x + 1) % 19 ≠ 0 → nt_sgn (nt_ch 19 ((24 * x + 1) % 76)) = 1 → (77999 : Nat).testBit x = true := by decide
  refine key (w % 19) (Nat.mod_lt _ (by omega)) (by omega) ?_
  have e : (24 * (w % 19) + 1) % 76 = (24 * w + 1) % (4 * 19) := by omega
  rw [e]
  exact h
theorem nt_cm_23 (w : Nat) (h0 : (24 * w + 1) % 23 ≠ 0) (h : nt_chi 23 (24 * w + 1) = 1) : (170415 : Nat).testBit (w % 23) = true := by
  have key : ∀ x, x < 23 → (24 * x + 1) % 23 ≠ 0 → nt_sgn (nt_ch 23 ((24 * x + 1) % 92)) = 1 → (170415 : Nat).testBit x = true := by decide
  refine key (w % 23) (Nat.mod_lt _ (by omega)) (by omega) ?_
  have e : (24 * (w % 23) + 1) % 92 = (24 * w + 1) % (4 * 23) := by omega
  rw [e]
  exact h
theorem nt_c_all (w : Nat) (hw : w < 37182145 * 34) (h5 : (5 : Nat).testBit (w % 5) = true) (h7 : (35 : Nat).testBit (w % 7) = true) (h11 : (151 : Nat).testBit (w % 11) = true) (hr : ∀ q, q ∈ nt_cM → 0 < q.1 ∧ q.2.testBit (w % q.1) = true) : nt_cF w = true := by
  have hacc : w % 385 ∈ ([0, 7, 12, 15, 22, 35, 40, 57, 70, 77, 92, 110, 112, 117, 145, 147, 155, 180, 187, 210, 222, 232, 257, 260, 287, 315, 320, 330, 337, 365] : List Nat) := by
    have key : ∀ x, x < 385 → ((5 : Nat).testBit (x % 5) && ((35 : Nat).testBit (x % 7) && (151 : Nat).testBit (x % 11))) = true → List.elem x [0, 7, 12, 15, 22, 35, 40, 57, 70, 77, 92, 110, 112, 117, 145, 147, 155, 180, 187, 210, 222, 232, 257, 260, 287, 315, 320, 330, 337, 365] = true := by decide +kernel
    refine List.mem_of_elem_eq_true (key (w % 385) (Nat.mod_lt _ (by omega)) ?_)
    rw [show w % 385 % 5 = w % 5 by omega, show w % 385 % 7 = w % 7 by omega, show w % 385 % 11 = w % 11 by omega, h5, h7, h11]
    rfl
  have hd : nt_dig nt_cM nt_cG (w % 385) 385 = true := by
    generalize w % 385 = x at hacc
    simp only [List.mem_cons, List.not_mem_nil, or_false] at hacc
    rcases hacc with h | h | h | h | h | h | h | h | h | h | h | h | h | h | h | h | h | h | h | h | h | h | h | h | h | h | h | h | h | h
    · rw [h]; exact nt_c2_0
    · rw [h]; exact nt_c2_7
    · rw [h]; exact nt_c2_12
    · rw [h]; exact nt_c2_15
    · rw [h]; exact nt_c2_22
    · rw [h]; exact nt_c2_35
    · rw [h]; exact nt_c2_40
    · rw [h]; exact nt_c2_57
    · rw [h]; exact nt_c2_70
    · rw [h]; exact nt_c2_77
    · rw [h]; exact nt_c2_92
    · rw [h]; exact nt_c2_110
    · rw [h]; exact nt_c2_112
    · rw [h]; exact nt_c2_117
    · rw [h]; exact nt_c2_145
    · rw [h]; exact nt_c2_147
    · rw [h]; exact nt_c2_155
    · rw [h]; exact nt_c2_180
    · rw [h]; exact nt_c2_187
    · rw [h]; exact nt_c2_210
    · rw [h]; exact nt_c2_222
    · rw [h]; exact nt_c2_232
    · rw [h]; exact nt_c2_257
    · rw [h]; exact nt_c2_260
    · rw [h]; exact nt_c2_287
    · rw [h]; exact nt_c2_315
    · rw [h]; exact nt_c2_320
    · rw [h]; exact nt_c2_330
    · rw [h]; exact nt_c2_337
    · rw [h]; exact nt_c2_365
  have h1 := nt_dig_sound nt_cG nt_cM (w % 385) 385 (by omega) hd w rfl hr
  have e : nt_prod nt_cM 385 = 37182145 := by decide
  rw [e] at h1
  unfold nt_cG at h1
  have h2 := nt_all_sound _ _ h1 (w / 37182145) (by omega)
  rw [nt_fc_eq] at h2
  have e2 : Nat.add (w % 37182145) (Nat.mul 37182145 (w / 37182145)) = w := by
    show w % 37182145 + 37182145 * (w / 37182145) = w
    omega
  rw [e2] at h2
  exact h2
theorem nt_pm_ne {c a e k : Nat} (hc : 1 < c) (h : nt_cg (c : Int) ((a : Int) ^ e) 1) : Nat.beq (nt_pm a c k e) 1 = true := by
  rw [nt_pm_eq]
  have h1 : a ^ e % c = 1 % c := by
    apply nt_cg_toNat
    push_cast
    exact h
  rw [h1, Nat.mod_eq_of_lt hc]
  rfl
/-- a factor that leaves 1 divided by 3, beside one that leaves 2, is large or one of the known -/
theorem nt_c_list {n r c : Nat} (h : nt_hyp n) (hr : nt_prime r) (hrd : r ∣ n) (hr3 : r % 3 = 2) (hc : nt_prime c) (hcd : c ∣ n) (hc3 : c % 3 = 1) (hlt : c < 30000000000) : c ∈ nt_cX := by
  obtain ⟨e, x, h1, hx⟩ := nt_odd_part (r - 1) (by have := hr.1; omega)
  obtain ⟨f, y, h2, hy⟩ := nt_odd_part (c - 1) (by have := hc.1; omega)
  have hmix := (nt_h_mix h hr hrd hc hcd h1 hx h2 hy hr3 hc3).2
  have hodd := nt_h_odd h hcd
  have hgt := nt_h_gt h hc hcd
  have h3 := hmix 3 (by decide)
  have hh2 := hmix 2 (by decide)
  rw [nt_chi3 c hodd (by omega)] at h3
  rw [nt_chi2 c hodd] at hh2
  have h12 : c % 12 = 1 ∨ c % 12 = 11 := by
    apply Classical.byContradiction
    intro hn
    rw [if_neg hn] at h3
    exact absurd h3 (by decide)
  have h8 : c % 8 = 1 ∨ c % 8 = 7 := by
    apply Classical.byContradiction
    intro hn
    rw [if_neg hn] at hh2
    exact absurd hh2 (by decide)
  obtain ⟨w, hw⟩ : ∃ w, c = 24 * w + 1 := ⟨c / 24, by omega⟩
  have hcube : ∀ a, a ∈ nt_A → nt_cg (c : Int) ((a : Int) ^ (8 * w)) 1 := by
    intro a ha
    have := nt_h_cube h hc hcd hc3 ha
    rw [show (c - 1) / 3 = 8 * w by omega] at this
    exact this
  have hb : ∀ a, a ∈ nt_A → nt_chi a (24 * w + 1) = 1 := by
    intro a ha
    rw [← hw]
    exact hmix a ha
  have hz : ∀ a, a ∈ nt_A → (24 * w + 1) % a ≠ 0 := by
    intro a ha h0
    rw [← hw] at h0
    exact (h.2.2.2.2.1 a ha).2 (Nat.dvd_trans (Nat.dvd_of_mod_eq_zero h0) hcd)
  have hF := nt_c_all w (by omega) (nt_cm_5 w (hz 5 (by decide)) (hb 5 (by decide))) (nt_cm_7 w (hz 7 (by decide)) (hb 7 (by decide))) (nt_cm_11 w (hz 11 (by decide)) (hb 11 (by decide))) (by
    intro q hq
    simp only [nt_cM, List.mem_cons, List.not_mem_nil, or_false] at hq
    rcases hq with hq | hq | hq | hq <;> subst hq
    · exact ⟨by decide, nt_cm_13 w (hz 13 (by decide)) (hb 13 (by decide))⟩
    · exact ⟨by decide, nt_cm_17 w (hz 17 (by decide)) (hb 17 (by decide))⟩
    · exact ⟨by decide, nt_cm_19 w (hz 19 (by decide)) (hb 19 (by decide))⟩
    · exact ⟨by decide, nt_cm_23 w (hz 23 (by decide)) (hb 23 (by decide))⟩)
  unfold nt_cF at hF
  rw [nt_fc_eq] at hF
  have e1 : Nat.add (Nat.mul 24 w) 1 = c := hw.symm
  rw [e1] at hF
  rcases nt_or_true hF with hF | hF
  · exfalso
    rw [nt_fc_eq] at hF
    obtain ⟨g1, g2⟩ := nt_an_true hF
    have g1 := Nat.le_of_ble_eq_true g1
    have g2 := Nat.le_of_ble_eq_true g2
    rcases hc.2 _ (Nat.gcd_dvd_right (Nat.mod nt_cP c) c) with hg | hg
    · omega
    · omega
  · rw [nt_fc_eq] at hF
    have e2 : Nat.mul 8 w = 8 * w := rfl
    rw [e2] at hF
    rcases nt_or_true hF with hF | hF
    · have := nt_nt_true hF
      rw [nt_p2_ne (by omega) (hcube 2 (by decide))] at this
      exact Bool.noConfusion this
    rcases nt_or_true hF with hF | hF
    · have := nt_nt_true hF
      rw [nt_p2_ne (by omega) (hcube 3 (by decide))] at this
      exact Bool.noConfusion this
    rcases nt_or_true hF with hF | hF
    · have := nt_nt_true hF
      rw [nt_p2_ne (by omega) (hcube 5 (by decide))] at this
      exact Bool.noConfusion this
    rcases nt_or_true hF with hF | hF
    · have := nt_nt_true hF
      rw [nt_p2_ne (by omega) (hcube 7 (by decide))] at this
      exact Bool.noConfusion this
    rcases nt_or_true hF with hF | hF
    · have := nt_nt_true hF
      rw [nt_p2_ne (by omega) (hcube 11 (by decide))] at this
      exact Bool.noConfusion this
    rcases nt_or_true hF with hF | hF
    · have := nt_nt_true hF
      rw [nt_p2_ne (by omega) (hcube 13 (by decide))] at this
      exact Bool.noConfusion this
    rcases nt_or_true hF with hF | hF
    · have := nt_nt_true hF
      rw [nt_p2_ne (by omega) (hcube 17 (by decide))] at this
      exact Bool.noConfusion this
    rcases nt_or_true hF with hF | hF
    · have := nt_nt_true hF
      rw [nt_p2_ne (by omega) (hcube 19 (by decide))] at this
      exact Bool.noConfusion this
    rcases nt_or_true hF with hF | hF
    · have := nt_nt_true hF
      rw [nt_p2_ne (by omega) (hcube 23 (by decide))] at this
      exact Bool.noConfusion this
    rcases nt_or_true hF with hF | hF
    · exfalso
      have hm := nt_in_true _ hF
      simp only [nt_cY, List.mem_cons, List.not_mem_nil, or_false] at hm
      rcases hm with hm | hm | hm
      · rcases hc.2 73 (by rw [hm]; decide) with q | q <;> omega
      · rcases hc.2 29 (by rw [hm]; decide) with q | q <;> omega
      · rcases hc.2 53 (by rw [hm]; decide) with q | q <;> omega
    exact nt_in_true _ hF
