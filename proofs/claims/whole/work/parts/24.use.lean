/-! the tables of a family, and what a run says of n = r s m -/
noncomputable def nt_lall {α : Type} (f : α → Bool) (l : List α) : Bool := List.rec (motive := fun _ => Bool) true (fun x _ ih => nt_an (f x) ih) l
theorem nt_lall_sound {α : Type} {f : α → Bool} : ∀ l : List α, nt_lall f l = true → ∀ x, x ∈ l → f x = true := by
  intro l
  induction l with
  | nil => intro _ x hx; exact absurd hx List.not_mem_nil
  | cons y l ih =>
    intro h x hx
    obtain ⟨h1, h2⟩ := nt_an_true (show nt_an (f y) (nt_lall f l) = true from h)
    rcases List.mem_cons.mp hx with e | e
    · rw [e]
      exact h1
    · exact ih h2 x e
noncomputable def nt_tvK (M p : Nat) (t : Nat × Nat × Nat) : Bool :=
  nt_an (nt_an (Nat.ble 1 t.1) (nt_an (Nat.ble (Nat.succ t.2.1) (Nat.pow 2 t.1)) (Nat.ble (Nat.succ t.2.2) (Nat.pow 2 t.1))))
    (nt_all (fun w => nt_fc (Nat.mod (Nat.add p (Nat.mul M w)) t.1) (fun x => nt_or (Nat.beq x 0) (Bool.rec (nt_bit t.2.1 w) (nt_bit t.2.2 w) (nt_bit (nt_qm t.1) x)))) t.1)
theorem nt_tvK_sound {M p : Nat} {t : Nat × Nat × Nat} (h : nt_tvK M p t = true) {w : Nat} (h0 : (p + M * w) % t.1 ≠ 0) : 0 < t.1 ∧ (if nt_q t.1 (p + M * w) then t.2.2 else t.2.1) < 2 ^ t.1 ∧ (if nt_q t.1 (p + M * w) then t.2.2 else t.2.1).testBit (w % t.1) = true := by
  unfold nt_tvK at h
  obtain ⟨h1, h2⟩ := nt_an_true h
  obtain ⟨a1, h1⟩ := nt_an_true h1
  obtain ⟨a2, a3⟩ := nt_an_true h1
  have a1 := Nat.le_of_ble_eq_true a1
  have a2 : t.2.1 + 1 ≤ 2 ^ t.1 := Nat.le_of_ble_eq_true a2
  have a3 : t.2.2 + 1 ≤ 2 ^ t.1 := Nat.le_of_ble_eq_true a3
  have h3 := nt_all_sound _ _ h2 (w % t.1) (Nat.mod_lt _ (by omega))
  rw [nt_fc_eq] at h3
  have e : Nat.mod (Nat.add p (Nat.mul M (w % t.1))) t.1 = (p + M * w) % t.1 := by
    show (p + M * (w % t.1)) % t.1 = (p + M * w) % t.1
    rw [Nat.add_mod, Nat.mul_mod, Nat.mod_mod, ← Nat.mul_mod, ← Nat.add_mod]
  rw [e] at h3
  refine ⟨by omega, ?_⟩
  rcases nt_or_true h3 with h4 | h4
  · exact absurd (Nat.eq_of_beq_eq_true h4) h0
  · unfold nt_q
    rw [nt_bit_eq, nt_bit_eq, nt_bit_eq] at h4
    rcases nt_bc h4 with ⟨b1, b2⟩ | ⟨b1, b2⟩
    · rw [b1, if_pos rfl]
      exact ⟨by omega, b2⟩
    · rw [b1, if_neg (by decide)]
      exact ⟨by omega, b2⟩
noncomputable def nt_exK (M p : Nat) (q : Nat × Nat) : Bool :=
  nt_an (nt_an (nt_an (Nat.ble 2 q.1) (Nat.ble q.1 1000)) (Nat.ble (Nat.succ q.2) (Nat.pow 2 q.1))) (nt_all (fun w => nt_or (Nat.beq (Nat.mod (Nat.add p (Nat.mul M w)) q.1) 0) (nt_bit q.2 w)) q.1)
theorem nt_exK_sound {M p : Nat} {q : Nat × Nat} (h : nt_exK M p q = true) {w : Nat} (hs : nt_prime (p + M * w)) (hbig : 1000 < p + M * w) : 0 < q.1 ∧ q.2 < 2 ^ q.1 ∧ q.2.testBit (w % q.1) = true := by
  unfold nt_exK at h
  obtain ⟨h1, h2⟩ := nt_an_true h
  obtain ⟨h1, a3⟩ := nt_an_true h1
  obtain ⟨a1, a2⟩ := nt_an_true h1
  have a1 := Nat.le_of_ble_eq_true a1
  have a2 := Nat.le_of_ble_eq_true a2
  have a3 : q.2 + 1 ≤ 2 ^ q.1 := Nat.le_of_ble_eq_true a3
  have h3 := nt_all_sound _ _ h2 (w % q.1) (Nat.mod_lt _ (by omega))
  have e : Nat.mod (Nat.add p (Nat.mul M (w % q.1))) q.1 = (p + M * w) % q.1 := by
    show (p + M * (w % q.1)) % q.1 = (p + M * w) % q.1
    rw [Nat.add_mod, Nat.mul_mod, Nat.mod_mod, ← Nat.mul_mod, ← Nat.add_mod]
  rw [e, nt_bit_eq] at h3
  refine ⟨by omega, by omega, ?_⟩
  rcases nt_or_true h3 with h4 | h4
  · exfalso
    have h4 := Nat.eq_of_beq_eq_true h4
    rcases hs.2 q.1 (Nat.dvd_of_mod_eq_zero h4) with e | e <;> omega
  · exact h4
def nt_na (l : Nat) : Nat := 2 ^ l - 2 - nt_qm l
theorem nt_na_bit {l x : Nat} (hl : l ∈ nt_L) (h0 : x % l ≠ 0) (hq : nt_q l x = false) : (nt_na l).testBit (x % l) = true := by
  have key : ∀ l, l ∈ nt_L → ∀ y, y < l → y ≠ 0 → (nt_qm l).testBit y = false → (nt_na l).testBit y = true := by decide +kernel
  have hpos : ∀ l, l ∈ nt_L → 0 < l := by decide
  exact key l hl (x % l) (Nat.mod_lt _ (hpos l hl)) h0 hq
noncomputable def nt_ttK (t : Nat × Nat × Nat) : Bool := nt_an (nt_tbK t.1 (nt_na t.1) t.2.1) (nt_tbK t.1 (nt_qm t.1) t.2.2)
theorem nt_tt_use {TT : List (Nat × Nat × Nat)} (hT : nt_lall nt_ttK TT = true) (hL : TT.map (fun t => t.1) = nt_L) {m : Nat} (h0 : ∀ l, l ∈ nt_L → m % l ≠ 0) : ∀ q, q ∈ nt_sel TT (nt_vx nt_L m) → 0 < q.1 ∧ ∃ A, nt_tbK q.1 A q.2 = true ∧ A.testBit (m % q.1) = true := by
  intro q hq
  rw [← hL] at hq
  obtain ⟨t, ht, e1, e2⟩ := nt_sel_mem m TT q hq
  have htL : t.1 ∈ nt_L := by
    rw [← hL]
    exact List.mem_map.mpr ⟨t, ht, rfl⟩
  have hpos : ∀ l, l ∈ nt_L → 0 < l := by decide
  obtain ⟨k1, k2⟩ := nt_an_true (nt_lall_sound TT hT t ht)
  rw [e1, e2]
  refine ⟨hpos _ htL, ?_⟩
  cases hb : nt_q t.1 m with
  | true => exact ⟨_, by rw [if_pos rfl]; exact k2, hb⟩
  | false => exact ⟨_, by rw [if_neg (by decide)]; exact k1, nt_na_bit htL (h0 _ htL) hb⟩
noncomputable def nt_kpK (Mc Hc P : Nat) : Bool := nt_all (fun k => nt_or (nt_nt (Nat.beq (Nat.mod (Nat.mul k Hc) Mc) 0)) (Nat.beq (Nat.mod k P) 0)) Mc
theorem nt_kpK_sound {Mc Hc P : Nat} (h : nt_kpK Mc Hc P = true) (hM : 0 < Mc) (hPM : P ∣ Mc) {k H : Nat} (hH : H % Mc = Hc) (hk : (k * H) % Mc = 0) : k % P = 0 := by
  have h1 := nt_all_sound _ _ h (k % Mc) (Nat.mod_lt _ hM)
  rcases nt_or_true h1 with h2 | h2
  · have h2 := nt_nt_true h2
    have e : Nat.mod (Nat.mul (k % Mc) Hc) Mc = 0 := by
      show (k % Mc * Hc) % Mc = 0
      rw [← hH, ← Nat.mul_mod]
      exact hk
    rw [e] at h2
    exact Bool.noConfusion h2
  · have h2 : k % Mc % P = 0 := Nat.eq_of_beq_eq_true h2
    rw [Nat.mod_mod_of_dvd _ hPM] at h2
    exact h2
theorem nt_split_mod {x M p : Nat} (h : x % M = p) : x = p + M * (x / M) := by
  have := Nat.div_add_mod x M
  omega
theorem nt_fer2 {s : Nat} (hs : nt_prime s) (h29 : 29 ≤ s) (h2 : s % 2 = 1) : nt_pr s = true := by
  have key : ∀ a, 0 < a → a < 29 → Nat.beq (nt_p3 a s (s - 1)) 1 = true := by
    intro a h0 ha
    refine nt_p3_one (by omega) ?_
    exact nt_fermat (a := a) hs h2 (by
      intro hd
      have := Nat.le_of_dvd h0 hd
      omega)
  unfold nt_pr
  have e : Nat.sub s 1 = s - 1 := rfl
  rw [e, key 2 (by omega) (by omega), key 3 (by omega) (by omega), key 7 (by omega) (by omega)]
  rfl
/-- no n = r s m in a class that ran -/
theorem nt_use {h Mc Hc pc M p P W1 c1 K2 : Nat} {TV TT : List (Nat × Nat × Nat)} {q24 : Nat × Nat} {EX : List (Nat × Nat)} {n r s m : Nat}
    (hn : nt_hyp n) (he : n = r * s * m) (hr : nt_prime r) (hs : nt_prime s) (hrs : r < s) (hsm : s ≤ m)
    (hrun : nt_run h M p P W1 c1 K2 TV TT q24 EX (nt_vx nt_L m) = true)
    (hM : 0 < M) (hp0 : 0 < p) (hrM : r % M = p) (hsM : s % M = p) (hmc : m % Mc = pc) (hrc : r % Mc = pc) (hpc : pc * pc % Mc = 1 % Mc) (hm24 : m % 24 = p % 24)
    (hrq : ∀ l, l ∈ nt_L → nt_q l r = nt_q l m) (hsq : ∀ l, l ∈ nt_L → nt_q l s = nt_q l m)
    (hW : W1 ≤ 4096 * c1) (hW2 : 1048576 ≤ p + M * W1) (hMc : 0 < Mc) (hP : 0 < P) (hPM : P ∣ Mc)
    (hTV : nt_lall (nt_tvK M p) TV = true) (hTVL : TV.map (fun t => t.1) = nt_L) (hTT : nt_lall nt_ttK TT = true) (hTTL : TT.map (fun t => t.1) = nt_L)
    (hq1 : q24.1 = 24) (hq2 : nt_tbK 24 (2 ^ (p % 24)) q24.2 = true) (hEX : nt_lall (nt_exK M p) EX = true) (hTJ : nt_kpK Mc Hc P = true)
    (hHc : ∀ x, x % M = p → 29 ≤ x → ((x - 1) / h) % Mc = Hc ∧ 1 < (x - 1) / h ∧ (x - 1) / h ∣ x - 1) (hh : ∀ x, nt_prime x → x ∣ n → x = r ∨ x = s → x < 200000000 → nt_id x = true → (x - 1) / h ∣ n - 1) : False := by
  have hrd : r ∣ n := ⟨s * m, by rw [he, Nat.mul_assoc]⟩
  have hsd : s ∣ n := ⟨r * m, by rw [he, Nat.mul_comm r s, Nat.mul_assoc]⟩
  have hmd : m ∣ n := ⟨r * s, by rw [he, Nat.mul_comm]⟩
  have hr29 := nt_h_gt hn hr hrd
  have hs29 := nt_h_gt hn hs hsd
  have hro := nt_h_odd hn hrd
  have hso := nt_h_odd hn hsd
  have hlt60 : r * s * m < 2 ^ 60 := he ▸ hn.2.2.1
  have hlt : r * (s * s) < 2 ^ 60 := by
    have a1 : r * s * s ≤ r * s * m := Nat.mul_le_mul_left _ hsm
    rw [Nat.mul_assoc] at a1
    omega
  have hslt : s < 200000000 := by
    apply Classical.byContradiction
    intro hge
    have a1 : 200000000 * 200000000 ≤ s * s := Nat.mul_le_mul (by omega) (by omega)
    have a2 : 29 * (200000000 * 200000000) ≤ r * (s * s) := Nat.mul_le_mul hr29 a1
    omega
  have hrlt : r < 1048576 := by
    apply Classical.byContradiction
    intro hge
    have a1 : 1048576 * 1048576 ≤ s * s := Nat.mul_le_mul (by omega) (by omega)
    have a2 : 1048576 * (1048576 * 1048576) ≤ r * (s * s) := Nat.mul_le_mul (by omega) a1
    omega
  have er := nt_split_mod hrM
  have es := nt_split_mod hsM
  have hz : ∀ x, x ∣ n → ∀ l, l ∈ nt_L → x % l ≠ 0 := by
    intro x hx l hl h0
    exact (hn.2.2.2.2.1 l (nt_L_A l hl)).2 (Nat.dvd_trans (Nat.dvd_of_mod_eq_zero h0) hx)
  have vq : ∀ x, x ∣ n → x = p + M * (x / M) → (∀ l, l ∈ nt_L → nt_q l x = nt_q l m) → ∀ q, q ∈ nt_sel TV (nt_vx nt_L m) → 0 < q.1 ∧ q.2 < 2 ^ q.1 ∧ q.2.testBit (x / M % q.1) = true := by
    intro x hx ex hxq q hq
    rw [← nt_vx_congr nt_L hxq, ← hTVL] at hq
    obtain ⟨t, ht, e1, e2⟩ := nt_sel_mem x TV q hq
    have htL : t.1 ∈ nt_L := by
      rw [← hTVL]
      exact List.mem_map.mpr ⟨t, ht, rfl⟩
    have k := nt_tvK_sound (nt_lall_sound TV hTV t ht) (w := x / M) (by rw [← ex]; exact hz x hx _ htL)
    rw [← ex] at k
    rw [e1, e2]
    exact k
  have hiW : r / M < W1 := by
    apply Classical.byContradiction
    intro hge
    have : M * W1 ≤ M * (r / M) := Nat.mul_le_mul_left M (by omega)
    omega
  have hij : r / M < s / M := by
    apply Classical.byContradiction
    intro hge
    have : M * (s / M) ≤ M * (r / M) := Nat.mul_le_mul_left M (by omega)
    omega
  have run := nt_run_sound hrun hW hiW hij hM hp0 (by rw [← er]; exact nt_fer2 hr hr29 hro) (by rw [← es]; exact nt_fer2 hs hs29 hso) (vq r hrd er hrq) (vq s hsd es hsq) (by
    intro hge q hq
    have hbig : 1000 < p + M * (s / M) := by
      have : M * W1 ≤ M * (s / M) := Nat.mul_le_mul_left M hge
      omega
    exact nt_exK_sound (nt_lall_sound EX hEX q hq) (by rw [← es]; exact hs) hbig) (by rw [← er, ← es]; exact hlt)
  rw [← er, ← es] at run
  obtain ⟨idr, ids, hpw⟩ := run
  have ir := hh r hr hrd (Or.inl rfl) (by omega) idr
  have is := hh s hs hsd (Or.inr rfl) hslt ids
  obtain ⟨_, _, hrH⟩ := hHc r hrM hr29
  obtain ⟨hH1, hH2, hH3⟩ := hHc s hsM hs29
  have hm0 : 0 < m := by omega
  have hrm0 : 0 < r * m := Nat.mul_pos (by omega) hm0
  have hcof : (s - 1) / h ∣ r * m - 1 := nt_cof he (by omega) hrm0 hH3 is
  obtain ⟨k, hk⟩ := hcof
  have hk' : r * m = k * ((s - 1) / h) + 1 := by
    have := Nat.mul_comm k ((s - 1) / h)
    omega
  have hkM : (k * ((s - 1) / h)) % Mc = 0 := by
    have e1 : (r * m) % Mc = 1 % Mc := by rw [Nat.mul_mod, hrc, hmc, hpc]
    rw [hk'] at e1
    have e2 : nt_cg (Mc : Int) ((k * ((s - 1) / h) + 1 : Nat) : Int) ((1 : Nat) : Int) := nt_cg_nat e1
    have e3 : (Mc : Int) ∣ ((k * ((s - 1) / h) : Nat) : Int) := by
      have e4 : ((k * ((s - 1) / h) + 1 : Nat) : Int) - ((1 : Nat) : Int) = ((k * ((s - 1) / h) : Nat) : Int) := by
        push_cast
        omega
      rw [← e4]
      exact e2
    exact Nat.mod_eq_zero_of_dvd (Int.ofNat_dvd.mp e3)
  have hkP := nt_kpK_sound hTJ hMc hPM hH1 hkM
  have hkl : nt_kl (r * s * m) = true := by
    refine nt_pw_sound hpw hr hro hP (by omega) (by omega) hlt60 hm0 hk' hkP (by rw [← he]; exact ir) (by rw [← he]; exact is) ?_
    intro q hq
    rcases List.mem_cons.mp hq with e | e
    · rw [e, hq1]
      refine ⟨by omega, _, hq2, ?_⟩
      rw [hm24, Nat.testBit_two_pow]
      simp
    · exact nt_tt_use hTT hTTL (hz m hmd) q e
  rw [← he, nt_kl_sound hn] at hkl
  exact Bool.noConfusion hkl
