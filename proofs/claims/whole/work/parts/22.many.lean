/-! the code of a class, and a pair r, s with many cofactors -/
noncomputable def nt_sel (TT : List (Nat × Nat × Nat)) : Nat → List (Nat × Nat) :=
  List.rec (motive := fun _ => Nat → List (Nat × Nat)) (fun _ => List.nil) (fun q _ ih v => List.cons (Prod.mk q.1 (Bool.rec q.2.1 q.2.2 (Nat.beq (Nat.mod v 2) 1))) (ih (Nat.div v 2))) TT
def nt_vx : List Nat → Nat → Nat
  | [], _ => 0
  | l :: ls, x => (if nt_q l x then 1 else 0) + 2 * nt_vx ls x
theorem nt_sel_mem (x : Nat) : ∀ TT : List (Nat × Nat × Nat), ∀ q, q ∈ nt_sel TT (nt_vx (TT.map (fun t => t.1)) x) → ∃ t, t ∈ TT ∧ q.1 = t.1 ∧ q.2 = (if nt_q t.1 x then t.2.2 else t.2.1) := by
  intro TT
  induction TT with
  | nil =>
    intro q hq
    have hq : q ∈ ([] : List (Nat × Nat)) := hq
    exact absurd hq List.not_mem_nil
  | cons t TT ih =>
    intro q hq
    have e0 : nt_vx ((t :: TT).map (fun t => t.1)) x = (if nt_q t.1 x then 1 else 0) + 2 * nt_vx (TT.map (fun t => t.1)) x := rfl
    rw [e0] at hq
    have e : ∀ v, nt_sel (t :: TT) v = (t.1, (Bool.rec t.2.1 t.2.2 (Nat.beq (v % 2) 1) : Nat)) :: nt_sel TT (v / 2) := fun v => rfl
    rw [e] at hq
    generalize hV : nt_vx (TT.map (fun t => t.1)) x = V at *
    cases hb : nt_q t.1 x with
    | true =>
      rw [hb] at hq
      have a1 : ((if true = true then 1 else 0) + 2 * V) % 2 = 1 := by
        rw [if_pos rfl]
        omega
      have a2 : ((if true = true then 1 else 0) + 2 * V) / 2 = V := by
        rw [if_pos rfl]
        omega
      rw [a1, a2] at hq
      rcases List.mem_cons.mp hq with h | h
      · refine ⟨t, List.mem_cons_self, ?_, ?_⟩
        · rw [h]
        · rw [h, hb, if_pos rfl]
          try rfl
      · obtain ⟨t', ht', h1, h2⟩ := ih q h
        exact ⟨t', List.mem_cons_of_mem _ ht', h1, h2⟩
    | false =>
      rw [hb] at hq
      have a1 : ((if false = true then 1 else 0) + 2 * V) % 2 = 0 := by
        rw [if_neg (by decide)]
        omega
      have a2 : ((if false = true then 1 else 0) + 2 * V) / 2 = V := by
        rw [if_neg (by decide)]
        omega
      rw [a1, a2] at hq
      rcases List.mem_cons.mp hq with h | h
      · refine ⟨t, List.mem_cons_self, ?_, ?_⟩
        · rw [h]
        · rw [h, hb, if_neg (by decide)]
          try rfl
      · obtain ⟨t', ht', h1, h2⟩ := ih q h
        exact ⟨t', List.mem_cons_of_mem _ ht', h1, h2⟩
theorem nt_vx_congr {x y : Nat} : ∀ ls : List Nat, (∀ l, l ∈ ls → nt_q l x = nt_q l y) → nt_vx ls x = nt_vx ls y := by
  intro ls
  induction ls with
  | nil => intro _; rfl
  | cons l ls ih =>
    intro h
    have e : ∀ z, nt_vx (l :: ls) z = (if nt_q l z then 1 else 0) + 2 * nt_vx ls z := fun z => rfl
    rw [e, e, h l List.mem_cons_self, ih (fun l' hl' => h l' (List.mem_cons_of_mem _ hl'))]
theorem nt_vx_lt (x : Nat) : nt_vx nt_L x < 128 := by
  have key : ∀ ls : List Nat, nt_vx ls x < 2 ^ ls.length := by
    intro ls
    induction ls with
    | nil => exact (by decide : (0 : Nat) < 1)
    | cons l ls ih =>
      have e : nt_vx (l :: ls) x = (if nt_q l x then 1 else 0) + 2 * nt_vx ls x := rfl
      rw [e, List.length_cons, Nat.pow_succ]
      split <;> omega
  exact key nt_L
/-- the table of the masks of m0 + y i -/
noncomputable def nt_tbK (l A T : Nat) : Bool :=
  nt_all (fun x => nt_all (fun y => nt_all (fun i => nt_or (nt_nt (nt_bit A (Nat.mod (Nat.add x (Nat.mul y i)) l))) (nt_bit T (Nat.add (Nat.mul l (Nat.add (Nat.mul l x) y)) i))) l) l) l
theorem nt_tbK_sound {l A T : Nat} (h : nt_tbK l A T = true) (hl : 0 < l) {x y i : Nat} (hA : A.testBit ((x + y * i) % l) = true) : ((T >>> (l * (l * (x % l) + y % l))) % 2 ^ l).testBit (i % l) = true := by
  have hx : x % l < l := Nat.mod_lt _ hl
  have hy : y % l < l := Nat.mod_lt _ hl
  have hi : i % l < l := Nat.mod_lt _ hl
  unfold nt_tbK at h
  have h1 := nt_all_sound _ _ (nt_all_sound _ _ (nt_all_sound _ _ h _ hx) _ hy) _ hi
  have h2 : nt_or (nt_nt (nt_bit A ((x % l + y % l * (i % l)) % l))) (nt_bit T (l * (l * (x % l) + y % l) + i % l)) = true := h1
  have e : (x % l + y % l * (i % l)) % l = (x + y * i) % l := by
    rw [Nat.add_mod x, Nat.mul_mod y, Nat.add_mod (x % l), Nat.mod_mod]
  rw [e, nt_bit_eq, hA, nt_bit_eq] at h2
  rw [Nat.testBit_mod_two_pow, Nat.testBit_shiftRight]
  have h3 : T.testBit (l * (l * (x % l) + y % l) + i % l) = true := h2
  rw [h3]
  simp [hi]
noncomputable def nt_tp (L : List (Nat × Nat)) (x y len : Nat) : Nat :=
  List.rec (motive := fun _ => Nat) (Nat.sub (Nat.pow 2 len) 1) (fun q _ ih => Nat.land (nt_pat q.1 (Nat.mod (Nat.shiftRight q.2 (Nat.mul q.1 (Nat.add (Nat.mul q.1 (Nat.mod x q.1)) (Nat.mod y q.1)))) (Nat.pow 2 q.1)) 0 len) ih) L
theorem nt_tp_bit {x y len i : Nat} (hi : i < len) : ∀ L : List (Nat × Nat), (∀ q, q ∈ L → 0 < q.1 ∧ ((q.2 >>> (q.1 * (q.1 * (x % q.1) + y % q.1))) % 2 ^ q.1).testBit (i % q.1) = true) → (nt_tp L x y len).testBit i = true := by
  intro L
  induction L with
  | nil =>
    intro _
    have e : nt_tp [] x y len = 2 ^ len - 1 := rfl
    rw [e, Nat.testBit_two_pow_sub_one]
    simp [hi]
  | cons q L ih =>
    intro h
    have e : nt_tp (q :: L) x y len = nt_pat q.1 ((q.2 >>> (q.1 * (q.1 * (x % q.1) + y % q.1))) % 2 ^ q.1) 0 len &&& nt_tp L x y len := rfl
    have hq := h q List.mem_cons_self
    rw [e, Nat.testBit_and, nt_pat_bit hq.1 (Nat.mod_lt _ (Nat.two_pow_pos _)) hi, Nat.zero_add, hq.2, ih (fun q' hq' => h q' (List.mem_cons_of_mem _ hq'))]
    rfl
/-- the cofactors m0 + Lm j with 65536 b <= j, at most 65536 of them, below J -/
noncomputable def nt_pxB (L : List (Nat × Nat)) (rs m0 Lm J b : Nat) : Bool :=
  nt_fc (Nat.mul 65536 b) (fun o => nt_fc (nt_mn 65536 (Nat.sub J o)) (fun len => nt_fc (nt_tp L (Nat.add m0 (Nat.mul Lm o)) Lm len) (fun N => nt_fc (Nat.succ (Nat.div len 4096)) (fun c =>
    nt_scT (fun i => nt_kl (Nat.mul rs (Nat.add m0 (Nat.mul Lm i)))) c o N))))
theorem nt_pxB_sound {L : List (Nat × Nat)} {rs m0 Lm J b j : Nat} (h : nt_pxB L rs m0 Lm J b = true) (hb : j / 65536 = b) (hj : j < J) (hL : ∀ q, q ∈ L → 0 < q.1 ∧ ∃ A, nt_tbK q.1 A q.2 = true ∧ A.testBit ((m0 + Lm * j) % q.1) = true) : nt_kl (rs * (m0 + Lm * j)) = true := by
  unfold nt_pxB at h
  simp only [nt_fc_eq] at h
  have eo : Nat.mul 65536 b = 65536 * b := rfl
  rw [eo] at h
  have hlen : j - 65536 * b + 1 ≤ nt_mn 65536 (Nat.sub J (65536 * b)) := by
    apply nt_mn_le
    · omega
    · show j - 65536 * b + 1 ≤ J - 65536 * b
      omega
  generalize nt_mn 65536 (Nat.sub J (65536 * b)) = len at *
  have h1 := nt_scT_sound _ _ _ _ h (j - 65536 * b) (by
    apply nt_tp_bit (by omega)
    intro q hq
    obtain ⟨h0, A, hA, hb⟩ := hL q hq
    refine ⟨h0, ?_⟩
    refine nt_tbK_sound (x := Nat.add m0 (Nat.mul Lm (65536 * b))) (y := Lm) (i := j - 65536 * b) hA h0 ?_
    have e : Nat.add m0 (Nat.mul Lm (65536 * b)) + Lm * (j - 65536 * b) = m0 + Lm * j := by
      show m0 + Lm * (65536 * b) + Lm * (j - 65536 * b) = m0 + Lm * j
      rw [Nat.add_assoc, ← Nat.mul_add, show 65536 * b + (j - 65536 * b) = j by omega]
    rw [e]
    exact hb)
  have e2 : 65536 * b + (j - 65536 * b) = j := by omega
  rw [e2] at h1
  exact h1
noncomputable def nt_px (h : Nat) (L : List (Nat × Nat)) (s r : Nat) : Bool :=
  nt_fc (Nat.div (Nat.sub r 1) h) (fun a => nt_fc (Nat.div (Nat.sub s 1) h) (fun b => nt_fc (Nat.mul a (Nat.div b (Nat.gcd a b))) (fun Lm =>
    nt_fc (Nat.mul r s) (fun rs => nt_fc (Nat.sub r (nt_iv (Nat.mod Lm r) r)) (fun kr => nt_fc (Nat.sub s (nt_iv (Nat.mod Lm s) s)) (fun ks =>
    nt_fc (Nat.add kr (Nat.mul r (Nat.mod (Nat.mul (Nat.sub (Nat.add ks s) kr) (nt_iv r s)) s))) (fun k0 => nt_fc (Nat.add (Nat.mul Lm k0) 1) (fun n0 =>
    nt_an (Nat.beq (Nat.mod n0 rs) 0) (nt_fc (Nat.mod (Nat.div n0 rs) Lm) (fun m0 => nt_fc (Nat.succ (Nat.div (Nat.div 1152921504606846975 rs) Lm)) (fun J => nt_all (fun b => nt_pxB L rs m0 Lm J b) (Nat.succ (Nat.div J 65536)))))))))))))
theorem nt_px_sound {h : Nat} {L : List (Nat × Nat)} {s r m : Nat} (hpx : nt_px h L s r = true) (hrs : 1 < r * s) (hlt : r * s * m < 2 ^ 60) (hm : 0 < m) (h1 : (r - 1) / h ∣ r * s * m - 1) (h2 : (s - 1) / h ∣ r * s * m - 1) (hL : ∀ q, q ∈ L → 0 < q.1 ∧ ∃ A, nt_tbK q.1 A q.2 = true ∧ A.testBit (m % q.1) = true) : nt_kl (r * s * m) = true := by
  unfold nt_px at hpx
  simp only [nt_fc_eq] at hpx
  have hLm : Nat.mul (Nat.div (Nat.sub r 1) h) (Nat.div (Nat.div (Nat.sub s 1) h) (Nat.gcd (Nat.div (Nat.sub r 1) h) (Nat.div (Nat.sub s 1) h))) ∣ r * s * m - 1 := by
    have e : Nat.mul (Nat.div (Nat.sub r 1) h) (Nat.div (Nat.div (Nat.sub s 1) h) (Nat.gcd (Nat.div (Nat.sub r 1) h) (Nat.div (Nat.sub s 1) h))) = Nat.lcm ((r - 1) / h) ((s - 1) / h) := by
      show (r - 1) / h * ((s - 1) / h / Nat.gcd ((r - 1) / h) ((s - 1) / h)) = Nat.lcm ((r - 1) / h) ((s - 1) / h)
      unfold Nat.lcm
      rw [Nat.mul_div_assoc _ (Nat.gcd_dvd_right _ _)]
    rw [e]
    exact Nat.lcm_dvd h1 h2
  generalize Nat.mul (Nat.div (Nat.sub r 1) h) (Nat.div (Nat.div (Nat.sub s 1) h) (Nat.gcd (Nat.div (Nat.sub r 1) h) (Nat.div (Nat.sub s 1) h))) = Lm at *
  generalize Nat.add (Nat.sub r (nt_iv (Nat.mod Lm r) r)) (Nat.mul r (Nat.mod (Nat.mul (Nat.sub (Nat.add (Nat.sub s (nt_iv (Nat.mod Lm s) s)) s) (Nat.sub r (nt_iv (Nat.mod Lm r) r))) (nt_iv r s)) s)) = k0 at *
  have er : Nat.mul r s = r * s := rfl
  rw [er] at hpx
  generalize r * s = R at *
  obtain ⟨c1, hpx⟩ := nt_an_true hpx
  have c1 : (Lm * k0 + 1) % R = 0 := Nat.eq_of_beq_eq_true c1
  have ed : Nat.div (Nat.add (Nat.mul Lm k0) 1) R = (Lm * k0 + 1) / R := rfl
  rw [ed] at hpx
  have c2 : R * ((Lm * k0 + 1) / R) = Lm * k0 + 1 := by
    have := Nat.div_add_mod (Lm * k0 + 1) R
    omega
  generalize (Lm * k0 + 1) / R = y at *
  have hRm : 0 < R * m := Nat.mul_pos (by omega) hm
  have hcop : Nat.Coprime Lm R := by
    have hg1 : Nat.gcd Lm R ∣ R * y := Nat.dvd_trans (Nat.gcd_dvd_right Lm R) ⟨y, rfl⟩
    have hg2 : Nat.gcd Lm R ∣ Lm * k0 := Nat.dvd_trans (Nat.gcd_dvd_left Lm R) ⟨k0, rfl⟩
    rw [c2] at hg1
    exact Nat.dvd_one.mp ((Nat.dvd_add_right hg2).mp hg1)
  have hmod : m % Lm = y % Lm := by
    have hI : (Lm : Int) ∣ (R : Int) * ((m : Int) - y) := by
      have a1 : (Lm : Int) ∣ ((R * m - 1 : Nat) : Int) := Int.ofNat_dvd.mpr hLm
      have a2 : (Lm : Int) ∣ ((Lm * k0 : Nat) : Int) := Int.ofNat_dvd.mpr ⟨k0, rfl⟩
      have a3 := Int.dvd_sub a1 a2
      have e1 : ((R * m - 1 : Nat) : Int) = (R : Int) * m - 1 := by
        have : ((R * m : Nat) : Int) = (R : Int) * m := by push_cast; rfl
        omega
      have e2 : ((Lm * k0 : Nat) : Int) = (R : Int) * y - 1 := by
        have : ((R * y : Nat) : Int) = (R : Int) * y := by push_cast; rfl
        omega
      rw [e1, e2] at a3
      rwa [show (R : Int) * m - 1 - (R * y - 1) = R * (m - y) by grind] at a3
    have hI2 : Lm ∣ ((m : Int) - y).natAbs := by
      have : Lm ∣ R * ((m : Int) - y).natAbs := by
        have a4 := Int.natAbs_dvd_natAbs.mpr hI
        rw [Int.natAbs_mul] at a4
        simpa using a4
      exact hcop.dvd_of_dvd_mul_left this
    have hI3 : nt_cg (Lm : Int) m y := Int.dvd_natAbs.mp (Int.ofNat_dvd.mpr hI2)
    exact nt_cg_toNat hI3
  have em : Nat.mod y Lm = m % Lm := hmod.symm
  rw [em] at hpx
  have hdm := Nat.mod_add_div m Lm
  have hj : m / Lm < Nat.succ (Nat.div (Nat.div 1152921504606846975 R) Lm) := by
    show m / Lm < 1152921504606846975 / R / Lm + 1
    have a1 : m ≤ 1152921504606846975 / R := by
      rw [Nat.le_div_iff_mul_le (by omega)]
      have : m * R = R * m := Nat.mul_comm _ _
      omega
    have := Nat.div_le_div_right (c := Lm) a1
    omega
  generalize Nat.succ (Nat.div (Nat.div 1152921504606846975 R) Lm) = J at *
  have h3 := nt_all_sound _ _ hpx (m / Lm / 65536) (by
    show m / Lm / 65536 < J / 65536 + 1
    have := Nat.div_le_div_right (c := 65536) (Nat.le_of_lt hj)
    omega)
  have h4 := nt_pxB_sound h3 rfl hj (by
    rw [hdm]
    exact hL)
  rw [hdm] at h4
  exact h4
