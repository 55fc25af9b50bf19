/-! arrays of numbers, answers of yes and no -/
def lF (f : Nat → Nat) : Nat → Int64 := fun j => lN (f j)
def updN (f : Nat → Nat) (k x : Nat) : Nat → Nat := fun j => if j = k then x else f j
theorem lF_upd (f : Nat → Nat) (k x : Nat) : vp_updL (lF f) k (lN x) = lF (updN f k x) := by
  funext j
  unfold vp_updL lF updN
  by_cases h : j = k
  · rw [if_pos h, if_pos h]
  · rw [if_neg h, if_neg h]
theorem updN_lt {f : Nat → Nat} {k x P : Nat} (hf : ∀ j, f j < P) (hx : x < P) : ∀ j, updN f k x j < P := by
  intro j
  unfold updN
  by_cases h : j = k
  · rw [if_pos h]; exact hx
  · rw [if_neg h]; exact hf j
def bz (r : Int32) (C : Prop) : Prop := (r = 1 ∧ C) ∨ (r = 0 ∧ ¬ C)
theorem bz_t {r : Int32} {C : Prop} (h : bz r C) (hc : ¬ r = 0) : C := by
  rcases h with ⟨_, h⟩ | ⟨h, _⟩
  · exact h
  · exact absurd h hc
theorem bz_f {r : Int32} {C : Prop} (h : bz r C) (hc : r = 0) : ¬ C := by
  rcases h with ⟨h, _⟩ | ⟨_, h⟩
  · rw [hc] at h
    exact absurd h (by decide)
  · exact h
theorem bz_1 {C : Prop} (h : C) : bz 1 C := Or.inl ⟨rfl, h⟩
theorem bz_0 {C : Prop} (h : ¬ C) : bz 0 C := Or.inr ⟨rfl, h⟩
theorem bz_z {r : Int32} {C : Prop} (h : bz r C) : r = 0 ∨ r = 1 := by
  rcases h with ⟨h, _⟩ | ⟨h, _⟩
  · exact Or.inr h
  · exact Or.inl h
theorem bz_iff {r : Int32} {C C' : Prop} (h : bz r C) (e : C ↔ C') : bz r C' := by
  rcases h with ⟨h, h2⟩ | ⟨h, h2⟩
  · exact Or.inl ⟨h, e.mp h2⟩
  · exact Or.inr ⟨h, fun h3 => h2 (e.mpr h3)⟩
theorem i_nn {x : Int32} (h : ¬ x < 0) : ∃ I, I < 2 ^ 31 ∧ x = nI I := by
  have h0 : (0 : Int) ≤ x.toInt := by simpa using Int32.le_iff_toInt_le.mp (Int32.not_lt.mp h)
  have h1 : x.toInt < 2 ^ 31 := Int32.toInt_lt x
  refine ⟨x.toInt.toNat, by omega, ?_⟩
  apply Int32.toInt_inj.mp
  rw [nI_toInt (by omega)]
  omega
theorem nI_inj {a b : Nat} (ha : a < 2 ^ 31) (hb : b < 2 ^ 31) (h : nI a = nI b) : a = b := by
  have := congrArg Int32.toNatClampNeg h
  rw [nI_clamp ha, nI_clamp hb] at this
  exact this
/-- a number that counts one of n -/
def inN (x : Int32) (n : Nat) : Prop := ∃ I, x = nI I ∧ I < n
theorem inN_neg {x : Int32} {n : Nat} (hn : n < 2 ^ 31) (h : x < 0) : ¬ inN x n := by
  rintro ⟨I, rfl, hI⟩
  exact nI_pos (by omega) h
theorem inN_big {I n : Nat} (hI : I < 2 ^ 31) (hn : n < 2 ^ 31) (h : n ≤ I) : ¬ inN (nI I) n := by
  rintro ⟨J, e, hJ⟩
  have := nI_inj hI (by omega) e
  omega
theorem inN_iff {I n : Nat} (hI : I < 2 ^ 31) (hn : n < 2 ^ 31) : inN (nI I) n ↔ I < n := by
  constructor
  · rintro ⟨J, e, hJ⟩
    have := nI_inj hI (by omega) e
    omega
  · intro h
    exact ⟨I, rfl, h⟩
abbrev tl_ws (t0 ka aa ba sa : Nat) (gv : Value) (cJ : ClassId) (ko ao bo so : Nat → Nat) (tn kc bc shc kp shp pa pb : Nat) (sht : Int32) : va_W := [(t0, .inr (4, [.ref ka, .ref aa, .ref ba, .ref sa, gv, .int (nI tn), .int (nI kc), .int (nI bc), .int (nI shc), .long (lN kp), .long (lN shp), .long (lN pa), .long (lN pb), .int sht])), (ka, .inl (cJ, 4, .inr (.inl (lF ko)))), (aa, .inl (cJ, 64, .inr (.inl (lF ao)))), (ba, .inl (cJ, 64, .inr (.inl (lF bo)))), (sa, .inl (cJ, 4, .inr (.inl (lF so))))]
/-- K, 0 while a key is missing -/
def ckey (tn kc kp : Nat) : Nat := if 0 < tn ∧ kc = tn then kp else 0
theorem ckey_lt {tn kc kp P : Nat} (h : kp < P) : ckey tn kc kp < P := by
  unfold ckey
  split
  · exact h
  · omega
