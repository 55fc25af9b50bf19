/-! the count of smooth fractions, in a form that the kernel computes -/
noncomputable def nt_cxK (p : Nat) (C : Nat → Nat → Nat) (f : Nat) : Nat → Nat → Nat :=
  Nat.rec (motive := fun _ => Nat → Nat → Nat) (fun _ _ => 0)
    (fun _ ih X Y => Bool.rec 0 (nt_fc (Nat.div X p) (fun X' => Nat.add (C X' Y) (ih X' Y))) (Nat.ble p X)) f
noncomputable def nt_cyK (p : Nat) (C : Nat → Nat → Nat) (f : Nat) : Nat → Nat → Nat :=
  Nat.rec (motive := fun _ => Nat → Nat → Nat) (fun _ _ => 0)
    (fun _ ih X Y => Bool.rec 0 (nt_fc (Nat.div Y p) (fun Y' => Nat.add (C X Y') (ih X Y'))) (Nat.ble p Y)) f
theorem nt_cxK_eq (p : Nat) (C : Nat → Nat → Nat) : ∀ f X Y, nt_cxK p C f X Y = nt_cx p C f X Y := by
  intro f
  induction f with
  | zero => intro X Y; rfl
  | succ f ih =>
    intro X Y
    have e : nt_cxK p C (f + 1) X Y = Bool.rec 0 (nt_fc (Nat.div X p) (fun X' => Nat.add (C X' Y) (nt_cxK p C f X' Y))) (Nat.ble p X) := rfl
    rw [e]
    simp only [nt_cx]
    by_cases h : p ≤ X
    · rw [if_pos h, Nat.ble_eq_true_of_le h]
      show nt_fc (Nat.div X p) (fun X' => Nat.add (C X' Y) (nt_cxK p C f X' Y)) = _
      rw [nt_fc_eq, ih]
      rfl
    · rw [if_neg h]
      have : Nat.ble p X = false := by
        cases hb : Nat.ble p X with
        | false => rfl
        | true => exact absurd (Nat.le_of_ble_eq_true hb) h
      rw [this]
theorem nt_cyK_eq (p : Nat) (C : Nat → Nat → Nat) : ∀ f X Y, nt_cyK p C f X Y = nt_cy p C f X Y := by
  intro f
  induction f with
  | zero => intro X Y; rfl
  | succ f ih =>
    intro X Y
    have e : nt_cyK p C (f + 1) X Y = Bool.rec 0 (nt_fc (Nat.div Y p) (fun Y' => Nat.add (C X Y') (nt_cyK p C f X Y'))) (Nat.ble p Y) := rfl
    rw [e]
    simp only [nt_cy]
    by_cases h : p ≤ Y
    · rw [if_pos h, Nat.ble_eq_true_of_le h]
      show nt_fc (Nat.div Y p) (fun Y' => Nat.add (C X Y') (nt_cyK p C f X Y')) = _
      rw [nt_fc_eq, ih]
      rfl
    · rw [if_neg h]
      have : Nat.ble p Y = false := by
        cases hb : Nat.ble p Y with
        | false => rfl
        | true => exact absurd (Nat.le_of_ble_eq_true hb) h
      rw [this]
noncomputable def nt_cntK (ps : List Nat) : Nat → Nat → Nat :=
  List.rec (motive := fun _ => Nat → Nat → Nat) (fun X Y => Nat.add 1 (Nat.add (Nat.log2 X) (Nat.log2 Y)))
    (fun p _ C X Y => Nat.add (C X Y) (Nat.add (nt_cxK p C 64 X Y) (nt_cyK p C 64 X Y))) ps
theorem nt_cx2 : ∀ f X Y, 1 ≤ X → X < 2 ^ (f + 1) → nt_cx 2 (fun _ _ => 1) f X Y = Nat.log2 X := by
  intro f
  induction f with
  | zero =>
    intro X Y h1 h2
    have : X = 1 := by
      have : (2 : Nat) ^ (0 + 1) = 2 := rfl
      omega
    subst this
    rfl
  | succ f ih =>
    intro X Y h1 h2
    simp only [nt_cx]
    by_cases h : 2 ≤ X
    · rw [if_pos h, ih (X / 2) Y (by omega) (by rw [Nat.pow_succ] at h2; omega)]
      conv => rhs; rw [Nat.log2_def, if_pos h]
      omega
    · rw [if_neg h]
      have : X = 1 := by omega
      subst this
      rfl
theorem nt_cy2 : ∀ f X Y, 1 ≤ Y → Y < 2 ^ (f + 1) → nt_cy 2 (fun _ _ => 1) f X Y = Nat.log2 Y := by
  intro f
  induction f with
  | zero =>
    intro X Y h1 h2
    have : Y = 1 := by
      have : (2 : Nat) ^ (0 + 1) = 2 := rfl
      omega
    subst this
    rfl
  | succ f ih =>
    intro X Y h1 h2
    simp only [nt_cy]
    by_cases h : 2 ≤ Y
    · rw [if_pos h, ih X (Y / 2) (by omega) (by rw [Nat.pow_succ] at h2; omega)]
      conv => rhs; rw [Nat.log2_def, if_pos h]
      omega
    · rw [if_neg h]
      have : Y = 1 := by omega
      subst this
      rfl
theorem nt_cx_congr {p : Nat} {C D : Nat → Nat → Nat} {m : Nat} (hp : 0 < p) (h : ∀ X Y, 1 ≤ X → X < m → 1 ≤ Y → Y < m → C X Y = D X Y) : ∀ f X Y, 1 ≤ X → X < m → 1 ≤ Y → Y < m → nt_cx p C f X Y = nt_cx p D f X Y := by
  intro f
  induction f with
  | zero => intro X Y _ _ _ _; rfl
  | succ f ih =>
    intro X Y h1 h2 h3 h4
    simp only [nt_cx]
    split
    · rename_i hle
      have a1 : 1 ≤ X / p := (Nat.le_div_iff_mul_le hp).mpr (by omega)
      have a2 : X / p ≤ X := Nat.div_le_self _ _
      rw [h _ _ a1 (by omega) h3 h4, ih _ _ a1 (by omega) h3 h4]
    · rfl
theorem nt_cy_congr {p : Nat} {C D : Nat → Nat → Nat} {m : Nat} (hp : 0 < p) (h : ∀ X Y, 1 ≤ X → X < m → 1 ≤ Y → Y < m → C X Y = D X Y) : ∀ f X Y, 1 ≤ X → X < m → 1 ≤ Y → Y < m → nt_cy p C f X Y = nt_cy p D f X Y := by
  intro f
  induction f with
  | zero => intro X Y _ _ _ _; rfl
  | succ f ih =>
    intro X Y h1 h2 h3 h4
    simp only [nt_cy]
    split
    · rename_i hle
      have a1 : 1 ≤ Y / p := (Nat.le_div_iff_mul_le hp).mpr (by omega)
      have a2 : Y / p ≤ Y := Nat.div_le_self _ _
      rw [h _ _ h1 h2 a1 (by omega), ih _ _ h1 h2 a1 (by omega)]
    · rfl
theorem nt_cntK_eq : ∀ ps : List Nat, (∀ p, p ∈ ps → 0 < p) → ∀ X Y, 1 ≤ X → X < 2 ^ 64 → 1 ≤ Y → Y < 2 ^ 64 → nt_cntK ps X Y = nt_cnt (ps ++ [2]) X Y := by
  intro ps
  induction ps with
  | nil =>
    intro _ X Y h1 h2 h3 h4
    have e : nt_cntK [] X Y = 1 + (Nat.log2 X + Nat.log2 Y) := rfl
    have e2 : nt_cnt ([] ++ [2]) X Y = 1 + (nt_cx 2 (fun _ _ => 1) 64 X Y + nt_cy 2 (fun _ _ => 1) 64 X Y) := rfl
    rw [e, e2, nt_cx2 64 X Y h1 (Nat.lt_trans h2 (Nat.pow_lt_pow_right (by omega) (by omega))), nt_cy2 64 X Y h3 (Nat.lt_trans h4 (Nat.pow_lt_pow_right (by omega) (by omega)))]
  | cons p ps ih =>
    intro hp X Y h1 h2 h3 h4
    have ih' := ih (fun q hq => hp q (List.mem_cons_of_mem _ hq))
    have e : nt_cntK (p :: ps) X Y = nt_cntK ps X Y + (nt_cxK p (nt_cntK ps) 64 X Y + nt_cyK p (nt_cntK ps) 64 X Y) := rfl
    have e2 : nt_cnt (p :: ps ++ [2]) X Y = nt_cnt (ps ++ [2]) X Y + (nt_cx p (nt_cnt (ps ++ [2])) 64 X Y + nt_cy p (nt_cnt (ps ++ [2])) 64 X Y) := rfl
    rw [e, e2, nt_cxK_eq, nt_cyK_eq, ih' X Y h1 h2 h3 h4, nt_cx_congr (hp p List.mem_cons_self) ih' _ _ _ h1 h2 h3 h4, nt_cy_congr (hp p List.mem_cons_self) ih' _ _ _ h1 h2 h3 h4]
/-- from S on the order is at least N -/
def nt_low (S N : Nat) : Prop := ∀ n s, nt_hyp n → nt_prime s → s ∣ n → S ≤ s → N ≤ Nat.gcd (s - 1) (n - 1)
noncomputable def nt_lowK (S N X : Nat) : Bool := nt_an (Nat.ble (Nat.add (Nat.mul 2 (Nat.mul X X)) 1) S) (nt_an (Nat.ble X 4294967296) (nt_an (Nat.ble 1 X) (Nat.ble N (Nat.mul 2 (nt_cntK [23, 19, 17, 13, 11, 7, 5, 3] X X)))))
theorem nt_low_of {S N : Nat} (X : Nat) (h : nt_lowK S N X = true) : nt_low S N := by
  unfold nt_lowK at h
  obtain ⟨h1, h⟩ := nt_an_true h
  obtain ⟨h2, h⟩ := nt_an_true h
  obtain ⟨h3, h4⟩ := nt_an_true h
  have a1 : 2 * (X * X) + 1 ≤ S := Nat.le_of_ble_eq_true h1
  have a2 := Nat.le_of_ble_eq_true h2
  have a3 := Nat.le_of_ble_eq_true h3
  have a4 : N ≤ 2 * nt_cntK [23, 19, 17, 13, 11, 7, 5, 3] X X := Nat.le_of_ble_eq_true h4
  have e := nt_cntK_eq [23, 19, 17, 13, 11, 7, 5, 3] (by decide) X X a3 (by omega) a3 (by omega)
  rw [e] at a4
  intro n s hn hs hd hS
  exact Nat.le_trans a4 (nt_h_lat hn hs hd a3 (by omega))
