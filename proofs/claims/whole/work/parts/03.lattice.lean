/-! a polynomial has no more roots modulo a prime than its degree -/
def nt_ev : List Int → Int → Int
  | [], _ => 0
  | c :: cs, z => c + z * nt_ev cs z
def nt_dv (r : Int) : List Int → List Int
  | [] => []
  | [_] => []
  | _ :: c :: cs => nt_ev (c :: cs) r :: nt_dv r (c :: cs)
def nt_last : List Int → Int
  | [] => 0
  | [c] => c
  | _ :: c :: cs => nt_last (c :: cs)
theorem nt_dv_ev (r z : Int) : ∀ c : List Int, nt_ev c z - nt_ev c r = (z - r) * nt_ev (nt_dv r c) z
  | [] => by simp [nt_ev, nt_dv]
  | [c] => by simp [nt_ev, nt_dv]
  | c0 :: c :: cs => by
    have ih := nt_dv_ev r z (c :: cs)
    have e1 : nt_ev (c0 :: c :: cs) z = c0 + z * nt_ev (c :: cs) z := rfl
    have e2 : nt_ev (c0 :: c :: cs) r = c0 + r * nt_ev (c :: cs) r := rfl
    have e3 : nt_ev (nt_dv r (c0 :: c :: cs)) z = nt_ev (c :: cs) r + z * nt_ev (nt_dv r (c :: cs)) z := rfl
    rw [e1, e2, e3]
    generalize nt_ev (c :: cs) z = A at *
    generalize nt_ev (c :: cs) r = B at *
    generalize nt_ev (nt_dv r (c :: cs)) z = D at *
    have : A = B + (z - r) * D := by omega
    rw [this]
    grind
theorem nt_dv_len (r : Int) : ∀ c : List Int, (nt_dv r c).length = c.length - 1
  | [] => rfl
  | [_] => rfl
  | _ :: c :: cs => by
    have ih := nt_dv_len r (c :: cs)
    simp only [nt_dv, List.length_cons] at *
    omega
theorem nt_dv_last (r : Int) : ∀ c : List Int, 2 ≤ c.length → nt_last (nt_dv r c) = nt_last c
  | [], h => by simp at h
  | [_], h => by simp at h
  | [a, c], _ => by simp [nt_dv, nt_last, nt_ev]
  | a :: b :: c :: cs, _ => by
    have ih := nt_dv_last r (b :: c :: cs) (by simp)
    have e1 : nt_dv r (a :: b :: c :: cs) = nt_ev (b :: c :: cs) r :: nt_dv r (b :: c :: cs) := rfl
    have e2 : nt_dv r (b :: c :: cs) = nt_ev (c :: cs) r :: nt_dv r (c :: cs) := rfl
    rw [e1]
    have e3 : nt_last (nt_ev (b :: c :: cs) r :: nt_dv r (b :: c :: cs)) = nt_last (nt_dv r (b :: c :: cs)) := by
      rw [e2]
      rfl
    rw [e3, ih]
    rfl
theorem nt_lagrange {s : Nat} (hs : nt_prime s) : ∀ (d : Nat) (c : List Int), c.length = d + 1 → ¬ (s : Int) ∣ nt_last c → ∀ l : List Int, l.Pairwise (fun x y => ¬ nt_cg (s : Int) x y) → (∀ z, z ∈ l → (s : Int) ∣ nt_ev c z) → l.length ≤ d := by
  intro d
  induction d with
  | zero =>
    intro c hc hl l _ hr
    match c, hc with
    | [c0], _ =>
      match l with
      | [] => simp
      | z :: l =>
        exfalso
        apply hl
        have := hr z List.mem_cons_self
        simpa [nt_ev, nt_last] using this
  | succ d ih =>
    intro c hc hl l hp hr
    match l with
    | [] => simp
    | r :: l =>
      rw [List.pairwise_cons] at hp
      have h1 : (nt_dv r c).length = d + 1 := by rw [nt_dv_len]; omega
      have h2 : ¬ (s : Int) ∣ nt_last (nt_dv r c) := by rw [nt_dv_last r c (by omega)]; exact hl
      have := ih (nt_dv r c) h1 h2 l hp.2 (by
        intro z hz
        have h3 := hr z (List.mem_cons_of_mem _ hz)
        have h4 := hr r List.mem_cons_self
        have h5 := Int.dvd_sub h3 h4
        rw [nt_dv_ev] at h5
        rcases nt_dvd_mulZ hs h5 with h6 | h6
        · exact absurd (nt_cg_symm h6) (hp.1 z hz)
        · exact h6)
      simp only [List.length_cons]
      omega
def nt_mono : Nat → List Int
  | 0 => [1]
  | d + 1 => 0 :: nt_mono d
theorem nt_mono_ev (d : Nat) (z : Int) : nt_ev (nt_mono d) z = z ^ d := by
  induction d with
  | zero => simp [nt_mono, nt_ev]
  | succ d ih =>
    simp only [nt_mono, nt_ev]
    rw [ih, Int.pow_succ]
    grind
theorem nt_mono_len (d : Nat) : (nt_mono d).length = d + 1 := by
  induction d with
  | zero => rfl
  | succ d ih => simp only [nt_mono, List.length_cons]; omega
theorem nt_mono_last (d : Nat) : nt_last (nt_mono d) = 1 := by
  induction d with
  | zero => rfl
  | succ d ih =>
    cases d with
    | zero => rfl
    | succ d => simp only [nt_mono, nt_last] at *; exact ih
theorem nt_roots {s : Nat} (hs : nt_prime s) {t : Nat} (ht : 0 < t) (l : List Int) (hp : l.Pairwise (fun x y => ¬ nt_cg (s : Int) x y)) (hr : ∀ z, z ∈ l → nt_cg (s : Int) (z ^ t) 1) : l.length ≤ t := by
  obtain ⟨d, rfl⟩ : ∃ d, t = d + 1 := ⟨t - 1, by omega⟩
  refine nt_lagrange hs (d + 1) (-1 :: nt_mono d) ?_ ?_ l hp ?_
  · simp only [List.length_cons]
    rw [nt_mono_len]
  · have : nt_last (-1 :: nt_mono d) = 1 := by
      have h := nt_mono_last (d + 1)
      cases d with
      | zero => rfl
      | succ d => simp only [nt_mono, nt_last] at *; exact h
    rw [this]
    intro h
    have h1 : s ∣ 1 := Int.ofNat_dvd.mp (by simpa using h)
    have := Nat.le_of_dvd (by omega) h1
    have := hs.1
    omega
  · intro z hz
    have h := hr z hz
    unfold nt_cg at h
    have e : nt_ev (-1 :: nt_mono d) z = z ^ (d + 1) - 1 := by
      simp only [nt_ev]
      rw [nt_mono_ev, Int.pow_succ]
      grind
    rw [e]
    exact h

/-! coprime pairs of smooth numbers -/
def nt_upx (p : Nat) (G : Nat → Nat → List (Nat × Nat)) : Nat → Nat → Nat → List (Nat × Nat)
  | 0, _, _ => []
  | f + 1, X, Y => if p ≤ X then (G (X / p) Y ++ nt_upx p G f (X / p) Y).map (fun q => (p * q.1, q.2)) else []
def nt_upy (p : Nat) (G : Nat → Nat → List (Nat × Nat)) : Nat → Nat → Nat → List (Nat × Nat)
  | 0, _, _ => []
  | f + 1, X, Y => if p ≤ Y then (G X (Y / p) ++ nt_upy p G f X (Y / p)).map (fun q => (q.1, p * q.2)) else []
def nt_gen : List Nat → Nat → Nat → List (Nat × Nat)
  | [], _, _ => [(1, 1)]
  | p :: ps, X, Y => nt_gen ps X Y ++ (nt_upx p (nt_gen ps) 64 X Y ++ nt_upy p (nt_gen ps) 64 X Y)
def nt_cx (p : Nat) (C : Nat → Nat → Nat) : Nat → Nat → Nat → Nat
  | 0, _, _ => 0
  | f + 1, X, Y => if p ≤ X then C (X / p) Y + nt_cx p C f (X / p) Y else 0
def nt_cy (p : Nat) (C : Nat → Nat → Nat) : Nat → Nat → Nat → Nat
  | 0, _, _ => 0
  | f + 1, X, Y => if p ≤ Y then C X (Y / p) + nt_cy p C f X (Y / p) else 0
def nt_cnt : List Nat → Nat → Nat → Nat
  | [], _, _ => 1
  | p :: ps, X, Y => nt_cnt ps X Y + (nt_cx p (nt_cnt ps) 64 X Y + nt_cy p (nt_cnt ps) 64 X Y)
theorem nt_upx_len {p : Nat} {G : Nat → Nat → List (Nat × Nat)} {C : Nat → Nat → Nat} (h : ∀ X Y, (G X Y).length = C X Y) : ∀ f X Y, (nt_upx p G f X Y).length = nt_cx p C f X Y := by
  intro f
  induction f with
  | zero => intro X Y; rfl
  | succ f ih =>
    intro X Y
    simp only [nt_upx, nt_cx]
    split
    · rw [List.length_map, List.length_append, h, ih]
    · rfl
theorem nt_upy_len {p : Nat} {G : Nat → Nat → List (Nat × Nat)} {C : Nat → Nat → Nat} (h : ∀ X Y, (G X Y).length = C X Y) : ∀ f X Y, (nt_upy p G f X Y).length = nt_cy p C f X Y := by
  intro f
  induction f with
  | zero => intro X Y; rfl
  | succ f ih =>
    intro X Y
    simp only [nt_upy, nt_cy]
    split
    · rw [List.length_map, List.length_append, h, ih]
    · rfl
theorem nt_gen_len : ∀ ps X Y, (nt_gen ps X Y).length = nt_cnt ps X Y := by
  intro ps
  induction ps with
  | nil => intro X Y; rfl
  | cons p ps ih =>
    intro X Y
    simp only [nt_gen, nt_cnt]
    rw [List.length_append, List.length_append, ih, nt_upx_len ih, nt_upy_len ih]
theorem nt_upx_Q {p : Nat} {G : Nat → Nat → List (Nat × Nat)} {Q : Nat → Prop} (hq : ∀ x, Q x → Q (p * x)) (h : ∀ X Y q, q ∈ G X Y → Q q.1 ∧ Q q.2) : ∀ f X Y q, q ∈ nt_upx p G f X Y → Q q.1 ∧ Q q.2 := by
  intro f
  induction f with
  | zero => intro X Y q hm; simp [nt_upx] at hm
  | succ f ih =>
    intro X Y q hm
    simp only [nt_upx] at hm
    split at hm
    · obtain ⟨w, hw, rfl⟩ := List.mem_map.mp hm
      rcases List.mem_append.mp hw with h1 | h1
      · exact ⟨hq _ (h _ _ _ h1).1, (h _ _ _ h1).2⟩
      · exact ⟨hq _ (ih _ _ _ h1).1, (ih _ _ _ h1).2⟩
    · simp at hm
theorem nt_upy_Q {p : Nat} {G : Nat → Nat → List (Nat × Nat)} {Q : Nat → Prop} (hq : ∀ x, Q x → Q (p * x)) (h : ∀ X Y q, q ∈ G X Y → Q q.1 ∧ Q q.2) : ∀ f X Y q, q ∈ nt_upy p G f X Y → Q q.1 ∧ Q q.2 := by
  intro f
  induction f with
  | zero => intro X Y q hm; simp [nt_upy] at hm
  | succ f ih =>
    intro X Y q hm
    simp only [nt_upy] at hm
    split at hm
    · obtain ⟨w, hw, rfl⟩ := List.mem_map.mp hm
      rcases List.mem_append.mp hw with h1 | h1
      · exact ⟨(h _ _ _ h1).1, hq _ (h _ _ _ h1).2⟩
      · exact ⟨(ih _ _ _ h1).1, hq _ (ih _ _ _ h1).2⟩
    · simp at hm
theorem nt_gen_Q {Q : Nat → Prop} (h1 : Q 1) : ∀ ps, (∀ p, p ∈ ps → ∀ x, Q x → Q (p * x)) → ∀ X Y q, q ∈ nt_gen ps X Y → Q q.1 ∧ Q q.2 := by
  intro ps
  induction ps with
  | nil =>
    intro _ X Y q hm
    simp only [nt_gen, List.mem_singleton] at hm
    subst hm
    exact ⟨h1, h1⟩
  | cons p ps ih =>
    intro hq X Y q hm
    have ih' := ih (fun p' hp' => hq p' (List.mem_cons_of_mem _ hp'))
    simp only [nt_gen] at hm
    rcases List.mem_append.mp hm with h | h
    · exact ih' X Y q h
    · rcases List.mem_append.mp h with h | h
      · exact nt_upx_Q (hq p List.mem_cons_self) ih' _ _ _ _ h
      · exact nt_upy_Q (hq p List.mem_cons_self) ih' _ _ _ _ h
theorem nt_upx_le {p : Nat} (hp : 0 < p) {G : Nat → Nat → List (Nat × Nat)} (h : ∀ X Y, 1 ≤ X → 1 ≤ Y → ∀ q, q ∈ G X Y → q.1 ≤ X ∧ q.2 ≤ Y) : ∀ f X Y, 1 ≤ X → 1 ≤ Y → ∀ q, q ∈ nt_upx p G f X Y → q.1 ≤ X ∧ q.2 ≤ Y := by
  intro f
  induction f with
  | zero => intro X Y _ _ q hm; simp [nt_upx] at hm
  | succ f ih =>
    intro X Y hX hY q hm
    simp only [nt_upx] at hm
    split at hm
    · rename_i hle
      have hX' : 1 ≤ X / p := (Nat.le_div_iff_mul_le hp).mpr (by omega)
      obtain ⟨w, hw, rfl⟩ := List.mem_map.mp hm
      have key : w.1 ≤ X / p ∧ w.2 ≤ Y := by
        rcases List.mem_append.mp hw with h1 | h1
        · exact h _ _ hX' hY _ h1
        · exact ih _ _ hX' hY _ h1
      refine ⟨?_, key.2⟩
      have := (Nat.le_div_iff_mul_le hp).mp key.1
      show p * w.1 ≤ X
      rw [Nat.mul_comm]
      exact this
    · simp at hm
theorem nt_upy_le {p : Nat} (hp : 0 < p) {G : Nat → Nat → List (Nat × Nat)} (h : ∀ X Y, 1 ≤ X → 1 ≤ Y → ∀ q, q ∈ G X Y → q.1 ≤ X ∧ q.2 ≤ Y) : ∀ f X Y, 1 ≤ X → 1 ≤ Y → ∀ q, q ∈ nt_upy p G f X Y → q.1 ≤ X ∧ q.2 ≤ Y := by
  intro f
  induction f with
  | zero => intro X Y _ _ q hm; simp [nt_upy] at hm
  | succ f ih =>
    intro X Y hX hY q hm
    simp only [nt_upy] at hm
    split at hm
    · rename_i hle
      have hY' : 1 ≤ Y / p := (Nat.le_div_iff_mul_le hp).mpr (by omega)
      obtain ⟨w, hw, rfl⟩ := List.mem_map.mp hm
      have key : w.1 ≤ X ∧ w.2 ≤ Y / p := by
        rcases List.mem_append.mp hw with h1 | h1
        · exact h _ _ hX hY' _ h1
        · exact ih _ _ hX hY' _ h1
      refine ⟨key.1, ?_⟩
      have := (Nat.le_div_iff_mul_le hp).mp key.2
      show p * w.2 ≤ Y
      rw [Nat.mul_comm]
      exact this
    · simp at hm
theorem nt_gen_le : ∀ ps : List Nat, (∀ p, p ∈ ps → 0 < p) → ∀ X Y, 1 ≤ X → 1 ≤ Y → ∀ q, q ∈ nt_gen ps X Y → q.1 ≤ X ∧ q.2 ≤ Y := by
  intro ps
  induction ps with
  | nil =>
    intro _ X Y hX hY q hm
    simp only [nt_gen, List.mem_singleton] at hm
    subst hm
    exact ⟨hX, hY⟩
  | cons p ps ih =>
    intro hq X Y hX hY q hm
    have ih' := ih (fun p' hp' => hq p' (List.mem_cons_of_mem _ hp'))
    simp only [nt_gen] at hm
    rcases List.mem_append.mp hm with h | h
    · exact ih' X Y hX hY q h
    · rcases List.mem_append.mp h with h | h
      · exact nt_upx_le (hq p List.mem_cons_self) ih' _ _ _ hX hY _ h
      · exact nt_upy_le (hq p List.mem_cons_self) ih' _ _ _ hX hY _ h
theorem nt_upx_cop {p : Nat} (hp : nt_prime p) {G : Nat → Nat → List (Nat × Nat)} (h : ∀ X Y q, q ∈ G X Y → Nat.Coprime q.1 q.2 ∧ ¬ p ∣ q.1 ∧ ¬ p ∣ q.2) : ∀ f X Y q, q ∈ nt_upx p G f X Y → Nat.Coprime q.1 q.2 ∧ p ∣ q.1 ∧ ¬ p ∣ q.2 := by
  intro f
  induction f with
  | zero => intro X Y q hm; simp [nt_upx] at hm
  | succ f ih =>
    intro X Y q hm
    simp only [nt_upx] at hm
    split at hm
    · obtain ⟨w, hw, rfl⟩ := List.mem_map.mp hm
      have key : Nat.Coprime w.1 w.2 ∧ ¬ p ∣ w.2 := by
        rcases List.mem_append.mp hw with h1 | h1
        · exact ⟨(h _ _ _ h1).1, (h _ _ _ h1).2.2⟩
        · exact ⟨(ih _ _ _ h1).1, (ih _ _ _ h1).2.2⟩
      exact ⟨Nat.Coprime.mul_left (nt_cop hp key.2) key.1, Nat.dvd_mul_right _ _, key.2⟩
    · simp at hm
theorem nt_upy_cop {p : Nat} (hp : nt_prime p) {G : Nat → Nat → List (Nat × Nat)} (h : ∀ X Y q, q ∈ G X Y → Nat.Coprime q.1 q.2 ∧ ¬ p ∣ q.1 ∧ ¬ p ∣ q.2) : ∀ f X Y q, q ∈ nt_upy p G f X Y → Nat.Coprime q.1 q.2 ∧ ¬ p ∣ q.1 ∧ p ∣ q.2 := by
  intro f
  induction f with
  | zero => intro X Y q hm; simp [nt_upy] at hm
  | succ f ih =>
    intro X Y q hm
    simp only [nt_upy] at hm
    split at hm
    · obtain ⟨w, hw, rfl⟩ := List.mem_map.mp hm
      have key : Nat.Coprime w.1 w.2 ∧ ¬ p ∣ w.1 := by
        rcases List.mem_append.mp hw with h1 | h1
        · exact ⟨(h _ _ _ h1).1, (h _ _ _ h1).2.1⟩
        · exact ⟨(ih _ _ _ h1).1, (ih _ _ _ h1).2.1⟩
      exact ⟨Nat.Coprime.mul_right (nt_cop hp key.2).symm key.1, key.2, Nat.dvd_mul_right _ _⟩
    · simp at hm
theorem nt_nodup_mapP {f : Nat × Nat → Nat × Nat} (hf : ∀ x y, f x = f y → x = y) {l : List (Nat × Nat)} (hl : l.Nodup) : (l.map f).Nodup := by
  induction l with
  | nil => exact List.nodup_nil
  | cons x l ih =>
    rw [List.map_cons, List.nodup_cons]
    refine ⟨?_, ih (List.nodup_cons.mp hl).2⟩
    intro hm
    obtain ⟨y, hy, he⟩ := List.mem_map.mp hm
    exact (List.nodup_cons.mp hl).1 (hf _ _ he ▸ hy)
theorem nt_nodup_app {α : Type} {l m : List α} (hl : l.Nodup) (hm : m.Nodup) (hd : ∀ x, x ∈ l → x ∈ m → False) : (l ++ m).Nodup := by
  induction l with
  | nil => exact hm
  | cons x l ih =>
    rw [List.cons_append, List.nodup_cons]
    refine ⟨?_, ih (List.nodup_cons.mp hl).2 (fun y hy => hd y (List.mem_cons_of_mem _ hy))⟩
    intro h
    rcases List.mem_append.mp h with h | h
    · exact (List.nodup_cons.mp hl).1 h
    · exact hd x List.mem_cons_self h
theorem nt_upx_nodup {p : Nat} (hp : nt_prime p) {G : Nat → Nat → List (Nat × Nat)} (hn : ∀ X Y, (G X Y).Nodup) (h : ∀ X Y q, q ∈ G X Y → Nat.Coprime q.1 q.2 ∧ ¬ p ∣ q.1 ∧ ¬ p ∣ q.2) : ∀ f X Y, (nt_upx p G f X Y).Nodup := by
  intro f
  induction f with
  | zero => intro X Y; exact List.nodup_nil
  | succ f ih =>
    intro X Y
    simp only [nt_upx]
    split
    · apply nt_nodup_mapP
      · intro x y he
        have h1 := congrArg Prod.fst he
        have h2 := congrArg Prod.snd he
        have hp2 := hp.1
        exact Prod.ext (Nat.eq_of_mul_eq_mul_left (by omega) h1) h2
      · apply nt_nodup_app (hn _ _) (ih _ _)
        intro x h1 h2
        exact (h _ _ _ h1).2.1 (nt_upx_cop hp h _ _ _ _ h2).2.1
    · exact List.nodup_nil
theorem nt_upy_nodup {p : Nat} (hp : nt_prime p) {G : Nat → Nat → List (Nat × Nat)} (hn : ∀ X Y, (G X Y).Nodup) (h : ∀ X Y q, q ∈ G X Y → Nat.Coprime q.1 q.2 ∧ ¬ p ∣ q.1 ∧ ¬ p ∣ q.2) : ∀ f X Y, (nt_upy p G f X Y).Nodup := by
  intro f
  induction f with
  | zero => intro X Y; exact List.nodup_nil
  | succ f ih =>
    intro X Y
    simp only [nt_upy]
    split
    · apply nt_nodup_mapP
      · intro x y he
        have h1 := congrArg Prod.fst he
        have h2 := congrArg Prod.snd he
        have hp2 := hp.1
        exact Prod.ext h1 (Nat.eq_of_mul_eq_mul_left (by omega) h2)
      · apply nt_nodup_app (hn _ _) (ih _ _)
        intro x h1 h2
        exact (h _ _ _ h1).2.2 (nt_upy_cop hp h _ _ _ _ h2).2.2
    · exact List.nodup_nil
theorem nt_gen_good : ∀ ps : List Nat, ps.Nodup → (∀ p, p ∈ ps → nt_prime p) → (∀ X Y, (nt_gen ps X Y).Nodup) ∧ (∀ X Y q, q ∈ nt_gen ps X Y → Nat.Coprime q.1 q.2) := by
  intro ps
  induction ps with
  | nil =>
    intro _ _
    refine ⟨fun X Y => ?_, fun X Y q hm => ?_⟩
    · simp [nt_gen]
    · simp only [nt_gen, List.mem_singleton] at hm
      subst hm
      exact Nat.coprime_one_left 1
  | cons p ps ih =>
    intro hnd hpr
    have hpp := hpr p List.mem_cons_self
    obtain ⟨i1, i2⟩ := ih (List.nodup_cons.mp hnd).2 (fun p' hp' => hpr p' (List.mem_cons_of_mem _ hp'))
    have hnd' : ∀ X Y q, q ∈ nt_gen ps X Y → ¬ p ∣ q.1 ∧ ¬ p ∣ q.2 := by
      intro X Y q hm
      refine nt_gen_Q (Q := fun x => ¬ p ∣ x) ?_ ps ?_ X Y q hm
      · intro h
        have := Nat.le_of_dvd (by omega) h
        have := hpp.1
        omega
      · intro p' hp' x hx hd
        rcases nt_dvd_mul hpp hd with h | h
        · rcases (hpr p' (List.mem_cons_of_mem _ hp')).2 p h with h1 | h1
          · have := hpp.1
            omega
          · exact (List.nodup_cons.mp hnd).1 (h1 ▸ hp')
        · exact hx h
    have hall : ∀ X Y q, q ∈ nt_gen ps X Y → Nat.Coprime q.1 q.2 ∧ ¬ p ∣ q.1 ∧ ¬ p ∣ q.2 := fun X Y q hm => ⟨i2 X Y q hm, hnd' X Y q hm⟩
    refine ⟨fun X Y => ?_, fun X Y q hm => ?_⟩
    · simp only [nt_gen]
      apply nt_nodup_app (i1 _ _)
      · apply nt_nodup_app (nt_upx_nodup hpp i1 hall _ _ _) (nt_upy_nodup hpp i1 hall _ _ _)
        intro x h1 h2
        exact (nt_upx_cop hpp hall _ _ _ _ h1).2.2 (nt_upy_cop hpp hall _ _ _ _ h2).2.2
      · intro x h1 h2
        rcases List.mem_append.mp h2 with h3 | h3
        · exact (hnd' _ _ _ h1).1 (nt_upx_cop hpp hall _ _ _ _ h3).2.1
        · exact (hnd' _ _ _ h1).2 (nt_upy_cop hpp hall _ _ _ _ h3).2.2
    · simp only [nt_gen] at hm
      rcases List.mem_append.mp hm with h | h
      · exact i2 _ _ _ h
      · rcases List.mem_append.mp h with h | h
        · exact (nt_upx_cop hpp hall _ _ _ _ h).1
        · exact (nt_upy_cop hpp hall _ _ _ _ h).1
def nt_A : List Nat := [23, 19, 17, 13, 11, 7, 5, 3, 2]
theorem nt_small_prime (p : Nat) (h2 : 2 ≤ p) (h : ∀ d, d < p → d ∣ p → d = 1) : nt_prime p := by
  refine ⟨h2, fun d hd => ?_⟩
  have hle := Nat.le_of_dvd (by omega) hd
  by_cases he : d = p
  · exact Or.inr he
  · exact Or.inl (h d (by omega) hd)
theorem nt_A_prime : ∀ p, p ∈ nt_A → nt_prime p := by
  intro p hp
  have h : 2 ≤ p ∧ ∀ d, d < p → d ∣ p → d = 1 := by
    revert p
    decide
  exact nt_small_prime p h.1 h.2
theorem nt_pw_map {α : Type} {R : Int → Int → Prop} {f : α → Int} {l : List α} (hl : l.Nodup) (h : ∀ x, x ∈ l → ∀ y, y ∈ l → R (f x) (f y) → x = y) : (l.map f).Pairwise (fun x y => ¬ R x y) := by
  induction l with
  | nil => exact List.Pairwise.nil
  | cons x l ih =>
    rw [List.map_cons, List.pairwise_cons]
    refine ⟨?_, ih (List.nodup_cons.mp hl).2 (fun a ha b hb => h a (List.mem_cons_of_mem _ ha) b (List.mem_cons_of_mem _ hb))⟩
    intro z hz hr
    obtain ⟨y, hy, rfl⟩ := List.mem_map.mp hz
    have := h x List.mem_cons_self y (List.mem_cons_of_mem _ hy) hr
    exact (List.nodup_cons.mp hl).1 (this ▸ hy)
theorem nt_zero_of_small {s : Nat} {w : Int} (h : (s : Int) ∣ w) (h1 : w < s) (h2 : -(s : Int) < w) : w = 0 := by
  obtain ⟨c, hc⟩ := h
  rcases Int.lt_trichotomy c 0 with hh | hh | hh
  · have : (s : Int) * c ≤ (s : Int) * (-1) := Int.mul_le_mul_of_nonneg_left (by omega) (by omega)
    omega
  · rw [hh] at hc
    omega
  · have : (s : Int) * 1 ≤ (s : Int) * c := Int.mul_le_mul_of_nonneg_left (by omega) (by omega)
    omega
theorem nt_cross {s : Int} {t : Nat} (ht : 0 < t) {x y x' y' : Int} (hy : nt_cg s (y ^ t) 1) (hy' : nt_cg s (y' ^ t) 1) (h : nt_cg s (x * y ^ (t - 1)) (x' * y' ^ (t - 1))) : nt_cg s (x * y') (x' * y) := by
  have h1 := nt_cg_mul h (nt_cg_refl s (y * y'))
  have e1 : x * y ^ (t - 1) * (y * y') = x * y' * y ^ t := by
    obtain ⟨d, rfl⟩ : ∃ d, t = d + 1 := ⟨t - 1, by omega⟩
    rw [Nat.add_sub_cancel, Int.pow_succ]
    grind
  have e2 : x' * y' ^ (t - 1) * (y * y') = x' * y * y' ^ t := by
    obtain ⟨d, rfl⟩ : ∃ d, t = d + 1 := ⟨t - 1, by omega⟩
    rw [Nat.add_sub_cancel, Int.pow_succ]
    grind
  rw [e1, e2] at h1
  have h2 := nt_cg_mul (nt_cg_refl s (x * y')) hy
  have h3 := nt_cg_mul (nt_cg_refl s (x' * y)) hy'
  rw [Int.mul_one] at h2 h3
  exact nt_cg_trans (nt_cg_symm h2) (nt_cg_trans h1 h3)
theorem nt_lattice {s t X : Nat} (hs : nt_prime s) (ht : 0 < t) (hte : t % 2 = 0) (hX : 1 ≤ X) (h2X : 2 * (X * X) < s) (hA : ∀ a, a ∈ nt_A → nt_cg (s : Int) ((a : Int) ^ t) 1) : 2 * nt_cnt nt_A X X ≤ t := by
  have hgood := nt_gen_good nt_A (by decide) nt_A_prime
  have hnd := hgood.1 X X
  have hcop := hgood.2 X X
  have hle := nt_gen_le nt_A (fun p hp => by have := (nt_A_prime p hp).1; omega) X X hX hX
  have hpos : ∀ q, q ∈ nt_gen nt_A X X → 1 ≤ q.1 ∧ 1 ≤ q.2 := by
    intro q hq
    refine nt_gen_Q (Q := fun x => 1 ≤ x) (Nat.le_refl 1) nt_A ?_ X X q hq
    intro p hp x hx
    have := (nt_A_prime p hp).1
    have := Nat.mul_le_mul (by omega : 1 ≤ p) hx
    omega
  have hroot : ∀ q, q ∈ nt_gen nt_A X X → nt_cg (s : Int) ((q.1 : Int) ^ t) 1 ∧ nt_cg (s : Int) ((q.2 : Int) ^ t) 1 := by
    intro q hq
    refine nt_gen_Q (Q := fun x => nt_cg (s : Int) ((x : Int) ^ t) 1) ?_ nt_A ?_ X X q hq
    · simp only [Int.natCast_one, Int.one_pow]
      exact nt_cg_refl _ _
    · intro p hp x hx
      have := nt_cg_mul (hA p hp) hx
      rw [← Int.mul_pow, Int.mul_one] at this
      push_cast
      exact this
  have hbound : ∀ q, q ∈ nt_gen nt_A X X → ∀ q', q' ∈ nt_gen nt_A X X → q.1 * q'.2 ≤ X * X := by
    intro q hq q' hq'
    exact Nat.mul_le_mul (hle q hq).1 (hle q' hq').2
  rw [← nt_gen_len]
  generalize hL : nt_gen nt_A X X = L at *
  have hlen : (L.map (fun q => (q.1 : Int) * (q.2 : Int) ^ (t - 1)) ++ L.map (fun q => (-(q.1 : Int)) * (q.2 : Int) ^ (t - 1))).length = 2 * L.length := by
    rw [List.length_append, List.length_map, List.length_map]
    omega
  rw [← hlen]
  have heq : ∀ q, q ∈ L → ∀ q', q' ∈ L → ((q.1 : Int) * q'.2 = q'.1 * q.2) → q = q' := by
    intro q hq q' hq' he
    have he' : q.1 * q'.2 = q'.1 * q.2 := by
      have : ((q.1 * q'.2 : Nat) : Int) = ((q'.1 * q.2 : Nat) : Int) := by push_cast; exact he
      exact Int.ofNat.inj this
    have d1 : q.1 ∣ q'.1 := (hcop q hq).dvd_of_dvd_mul_right ⟨q'.2, he'.symm⟩
    have d2 : q'.1 ∣ q.1 := (hcop q' hq').dvd_of_dvd_mul_right ⟨q.2, he'⟩
    have e1 : q.1 = q'.1 := Nat.dvd_antisymm d1 d2
    have p1 := (hpos q hq).1
    rw [e1] at he'
    have e2 := Nat.eq_of_mul_eq_mul_left (by omega) he'
    exact Prod.ext e1 e2.symm
  refine nt_roots hs ht _ ?_ ?_
  · rw [List.pairwise_append]
    refine ⟨?_, ?_, ?_⟩
    · apply nt_pw_map hnd
      intro q hq q' hq' hc
      have h1 := nt_cross ht (hroot q hq).2 (hroot q' hq').2 hc
      unfold nt_cg at h1
      have b1 := hbound q hq q' hq'
      have b2 := hbound q' hq' q hq
      have c1 : ((q.1 * q'.2 : Nat) : Int) = (q.1 : Int) * q'.2 := by push_cast; rfl
      have c2 : ((q'.1 * q.2 : Nat) : Int) = (q'.1 : Int) * q.2 := by push_cast; rfl
      have h0 := nt_zero_of_small h1 (by omega) (by omega)
      exact heq q hq q' hq' (by omega)
    · apply nt_pw_map hnd
      intro q hq q' hq' hc
      have h1 := nt_cross ht (hroot q hq).2 (hroot q' hq').2 hc
      unfold nt_cg at h1
      have b1 := hbound q hq q' hq'
      have b2 := hbound q' hq' q hq
      have c1 : ((q.1 * q'.2 : Nat) : Int) = (q.1 : Int) * q'.2 := by push_cast; rfl
      have c2 : ((q'.1 * q.2 : Nat) : Int) = (q'.1 : Int) * q.2 := by push_cast; rfl
      rw [Int.neg_mul, Int.neg_mul] at h1
      have h0 := nt_zero_of_small h1 (by omega) (by omega)
      exact heq q hq q' hq' (by omega)
    · intro z hz z' hz' hc
      obtain ⟨q, hq, rfl⟩ := List.mem_map.mp hz
      obtain ⟨q', hq', rfl⟩ := List.mem_map.mp hz'
      have h1 := nt_cross ht (hroot q hq).2 (hroot q' hq').2 hc
      unfold nt_cg at h1
      have b1 := hbound q hq q' hq'
      have b2 := hbound q' hq' q hq
      have c1 : ((q.1 * q'.2 : Nat) : Int) = (q.1 : Int) * q'.2 := by push_cast; rfl
      have c2 : ((q'.1 * q.2 : Nat) : Int) = (q'.1 : Int) * q.2 := by push_cast; rfl
      rw [Int.neg_mul] at h1
      have h0 := nt_zero_of_small h1 (by omega) (by omega)
      have p1 := Nat.mul_le_mul (hpos q hq).1 (hpos q' hq').2
      omega
  · intro z hz
    have hpow : ∀ x y : Int, nt_cg (s : Int) (x ^ t) 1 → nt_cg (s : Int) (y ^ t) 1 → nt_cg (s : Int) ((x * y ^ (t - 1)) ^ t) 1 := by
      intro x y hx hy
      rw [Int.mul_pow]
      have h1 := nt_cg_pow hy (t - 1)
      rw [← Int.pow_mul, Nat.mul_comm, Int.pow_mul, Int.one_pow] at h1
      have := nt_cg_mul hx h1
      rw [Int.mul_one] at this
      exact this
    rcases List.mem_append.mp hz with h | h
    · obtain ⟨q, hq, rfl⟩ := List.mem_map.mp h
      exact hpow _ _ (hroot q hq).1 (hroot q hq).2
    · obtain ⟨q, hq, rfl⟩ := List.mem_map.mp h
      refine hpow _ _ ?_ (hroot q hq).2
      have e : (-(q.1 : Int)) ^ t = (q.1 : Int) ^ t := by
        obtain ⟨d, rfl⟩ : ∃ d, t = 2 * d := ⟨t / 2, by omega⟩
        rw [Int.pow_mul, Int.pow_mul]
        have : (-(q.1 : Int)) ^ 2 = (q.1 : Int) ^ 2 := by grind
        rw [this]
      rw [e]
      exact (hroot q hq).1
