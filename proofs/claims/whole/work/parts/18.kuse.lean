/-! the tables say what they should -/
noncomputable def nt_tk (u c0 : Nat) (q : Nat × Nat) : Bool :=
  nt_all (fun d => nt_all (fun w => nt_fc (Nat.add (Nat.mul 12 w) c0) (fun T => nt_fc (Nat.add (Nat.mul d T) 1) (fun c => nt_fc (Nat.add (Nat.mul u T) 1) (fun r =>
    nt_or (Nat.beq (Nat.mod c q.1) 0) (nt_or (Nat.beq (Nat.mod r q.1) 0) (nt_or (nt_an (Nat.ble q.1 23) (nt_or (nt_nt (nt_bit (nt_qm q.1) (Nat.mod c q.1))) (Nat.beq (Nat.mod (Nat.add (Nat.mul 2 (Nat.mul r c)) 1) q.1) 0)))
      (nt_bit (Nat.mod (Nat.shiftRight q.2 (Nat.mul q.1 d)) (Nat.pow 2 q.1)) w))))))) q.1) q.1
noncomputable def nt_tks (u c0 : Nat) (TL : List (Nat × Nat)) : Bool := List.rec (motive := fun _ => Bool) true (fun q _ ih => nt_an (nt_tk u c0 q) ih) TL
theorem nt_tks_sound {u c0 : Nat} : ∀ TL, nt_tks u c0 TL = true → ∀ q, q ∈ TL → nt_tk u c0 q = true := by
  intro TL
  induction TL with
  | nil => intro _ q hq; exact absurd hq List.not_mem_nil
  | cons x TL ih =>
    intro h q hq
    obtain ⟨h1, h2⟩ := nt_an_true (show nt_an (nt_tk u c0 x) (nt_tks u c0 TL) = true from h)
    rcases List.mem_cons.mp hq with e | e
    · rw [e]
      exact h1
    · exact ih h2 q e
theorem nt_tk_sound {u c0 : Nat} {q : Nat × Nat} (h : nt_tk u c0 q = true) (hq : 0 < q.1) {d w : Nat} (hc : (d * (12 * w + c0) + 1) % q.1 ≠ 0) (hr : (u * (12 * w + c0) + 1) % q.1 ≠ 0) (h23 : q.1 ≤ 23 → nt_q q.1 (d * (12 * w + c0) + 1) = true ∧ (2 * ((u * (12 * w + c0) + 1) * (d * (12 * w + c0) + 1)) + 1) % q.1 ≠ 0) : ((q.2 >>> (q.1 * (d % q.1))) % 2 ^ q.1).testBit (w % q.1) = true := by
  unfold nt_tk at h
  have h1 := nt_all_sound _ _ (nt_all_sound _ _ h (d % q.1) (Nat.mod_lt _ hq)) (w % q.1) (Nat.mod_lt _ hq)
  simp only [nt_fc_eq] at h1
  have eT : (12 * (w % q.1) + c0) % q.1 = (12 * w + c0) % q.1 := by
    rw [Nat.add_mod, Nat.mul_mod, Nat.mod_mod, ← Nat.mul_mod, ← Nat.add_mod]
  have ec : Nat.mod (Nat.add (Nat.mul (d % q.1) (Nat.add (Nat.mul 12 (w % q.1)) c0)) 1) q.1 = (d * (12 * w + c0) + 1) % q.1 := by
    show (d % q.1 * (12 * (w % q.1) + c0) + 1) % q.1 = _
    rw [Nat.add_mod, Nat.mul_mod, Nat.mod_mod, eT, ← Nat.mul_mod, ← Nat.add_mod]
  have er : Nat.mod (Nat.add (Nat.mul u (Nat.add (Nat.mul 12 (w % q.1)) c0)) 1) q.1 = (u * (12 * w + c0) + 1) % q.1 := by
    show (u * (12 * (w % q.1) + c0) + 1) % q.1 = _
    rw [Nat.add_mod, Nat.mul_mod, eT, ← Nat.mul_mod, ← Nat.add_mod]
  have ep : ∀ a b a' b' : Nat, a % q.1 = a' % q.1 → b % q.1 = b' % q.1 → (2 * (a * b) + 1) % q.1 = (2 * (a' * b') + 1) % q.1 := by
    intro a b a' b' ha hb
    rw [Nat.add_mod, Nat.mul_mod, Nat.mul_mod a b, ha, hb, ← Nat.mul_mod a' b', ← Nat.mul_mod, ← Nat.add_mod]
  rcases nt_or_true h1 with h2 | h2
  · have := Nat.eq_of_beq_eq_true h2
    rw [ec] at this
    exact absurd this hc
  · rcases nt_or_true h2 with h2 | h2
    · have := Nat.eq_of_beq_eq_true h2
      rw [er] at this
      exact absurd this hr
    · rcases nt_or_true h2 with h2 | h2
      · exfalso
        obtain ⟨h3, h4⟩ := nt_an_true h2
        obtain ⟨a1, a2⟩ := h23 (Nat.le_of_ble_eq_true h3)
        rcases nt_or_true h4 with h5 | h5
        · have := nt_nt_true h5
          rw [nt_bit_eq, ec] at this
          unfold nt_q at a1
          rw [a1] at this
          exact Bool.noConfusion this
        · have h6 := Nat.eq_of_beq_eq_true h5
          apply a2
          rw [← h6]
          exact ep _ _ _ _ er.symm ec.symm
      · rw [nt_bit_eq] at h2
        exact h2
/-- no c of a run is a factor -/
theorem nt_kuse {n r c T u d c0 S S' N w : Nat} {TL : List (Nat × Nat)} (h : nt_hyp n) (hn : n = r * c) (hr : nt_cf n r) (hc : nt_prime c) (hu : r - 1 = u * T) (hd : c - 1 = d * T) (hu0 : 0 < u) (hd0 : 0 < d) (hS : 0 < S) (hc0 : c0 < 12) (hT : T = 12 * w + c0) (h1 : S ≤ c) (h2 : c ≤ S') (hN : N ≤ T) (hc24 : c % 24 = 1) (hpow : ∀ a, a ∈ nt_A → nt_cg (c : Int) ((a : Int) ^ T) 1) (hchi : ∀ a, a ∈ nt_A → nt_chi a c = 1) (hr97 : 97 < r) (hc97 : 97 < c) (hTL : ∀ q, q ∈ TL → q.1 ∈ nt_L ∨ (23 < q.1 ∧ q.1 ≤ 97)) (htk : nt_tks u c0 TL = true) (hD : nt_kbD u c0 TL S S' N d = true) : False := by
  have hrd : r ∣ n := ⟨c, hn⟩
  have hcd : c ∣ n := ⟨r, by rw [hn, Nat.mul_comm]⟩
  have hce : d * T + 1 = c := by omega
  have hre : u * T + 1 = r := by omega
  have hLpos : ∀ l, l ∈ nt_L → 0 < l ∧ l ≤ 23 := by decide
  have hB : u * T * S ≤ 1152921504606846976 := by
    have a1 : u * T * S ≤ r * c := Nat.mul_le_mul (by omega) h1
    have := h.2.2.1
    omega
  have hF := nt_kbD_sound hD hu0 hd0 hS hc0 hT (by omega) (by omega) hN hB (by
    intro q hq
    have hq0 : 0 < q.1 := by
      rcases hTL q hq with e | e
      · exact (hLpos _ e).1
      · omega
    refine ⟨hq0, ?_⟩
    have hnz : ∀ x, nt_prime x → x ∣ n → 97 < x → x % q.1 ≠ 0 := by
      intro x hx hxd hx97 h0
      have hdv := Nat.dvd_of_mod_eq_zero h0
      have hq97 : q.1 ≤ 97 := by
        rcases hTL q hq with e | e
        · have := (hLpos _ e).2
          omega
        · omega
      have hq1 : q.1 ≠ 1 := by
        rcases hTL q hq with e | e
        · have : ∀ l, l ∈ nt_L → l ≠ 1 := by decide
          exact this _ e
        · omega
      rcases hx.2 _ hdv with e | e <;> omega
    refine nt_tk_sound (nt_tks_sound TL htk q hq) hq0 ?_ ?_ ?_
    · rw [← hT, hce]
      exact hnz c hc hcd hc97
    · rw [← hT, hre]
      intro h0
      refine hr.2.1 q.1 ?_ ?_ (Nat.dvd_of_mod_eq_zero h0)
      · rcases hTL q hq with e | e
        · have : ∀ l, l ∈ nt_L → 2 ≤ l := by decide
          exact this _ e
        · omega
      · rcases hTL q hq with e | e
        · have := (hLpos _ e).2
          omega
        · omega
    · intro h23
      have hqL : q.1 ∈ nt_L := by
        rcases hTL q hq with e | e
        · exact e
        · omega
      rw [← hT, hce, hre]
      have hcz := hnz c hc hcd hc97
      refine ⟨?_, ?_⟩
      · have hch := hchi q.1 (nt_L_A _ hqL)
        rw [nt_q_chi hqL (by omega) hcz, if_neg (by omega : ¬ (q.1 % 4 = 3 ∧ c % 4 = 3)), Int.mul_one] at hch
        cases hqq : nt_q q.1 c with
        | true => rfl
        | false => rw [hqq] at hch; exact absurd hch (by decide)
      · rw [← hn]
        intro h0
        exact h.2.2.2.2.2 q.1 (nt_L_A _ hqL) (Nat.dvd_of_mod_eq_zero h0))
  unfold nt_kbF at hF
  rw [nt_fc_eq, nt_fc_eq] at hF
  have eT : Nat.add (Nat.mul 12 w) c0 = T := hT.symm
  rw [eT] at hF
  have eC : Nat.add (Nat.mul d T) 1 = c := hce
  rw [eC] at hF
  have hno : ∀ a, a ∈ nt_A → nt_nt (Nat.beq (nt_p2 a c T) 1) = true → False := by
    intro a ha hf
    have := nt_nt_true hf
    rw [nt_p2_ne (by omega) (hpow a ha)] at this
    exact Bool.noConfusion this
  rcases nt_or_true hF with h2 | h2
  · exact hno 2 (by decide) h2
  · rcases nt_or_true h2 with h2 | h2
    · exact hno 3 (by decide) h2
    · rcases nt_or_true h2 with h2 | h2
      · exact hno 5 (by decide) h2
      · rcases nt_or_true h2 with h2 | h2
        · exact hno 7 (by decide) h2
        · rcases nt_or_true h2 with h2 | h2
          · exact hno 11 (by decide) h2
          · exact hno 13 (by decide) h2
