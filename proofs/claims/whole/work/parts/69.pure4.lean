/-- the first k set to 0 -/
def zf (f : Nat → Nat) (k : Nat) : Nat → Nat := fun j => if j < k then 0 else f j
theorem zf_0 (f : Nat → Nat) : zf f 0 = f := by
  funext j
  unfold zf
  rw [if_neg (by omega)]
theorem lF_zf (f : Nat → Nat) (k : Nat) : vp_updL (lF (zf f k)) k 0 = lF (zf f (k + 1)) := by
  funext j
  unfold vp_updL lF zf
  by_cases h : j = k
  · rw [if_pos h, if_pos (by omega)]
    rfl
  · by_cases h2 : j < k
    · rw [if_neg h, if_pos h2, if_pos (by omega)]
    · rw [if_neg h, if_neg h2, if_neg (by omega)]
/-- the product of those of the first k that are not 0 -/
def prd (P : Nat) (sel val : Nat → Nat) : Nat → Nat
  | 0 => 1
  | k + 1 => if sel k = 0 then prd P sel val k else prd P sel val k * val k % P
theorem prd_lt {P : Nat} (hP : 1 < P) (sel val : Nat → Nat) : ∀ k, prd P sel val k < P
  | 0 => hP
  | k + 1 => by
    unfold prd
    split
    · exact prd_lt hP sel val k
    · exact Nat.mod_lt _ (by omega)
/-- x, x g, x g g, .. -/
def gst (P G : Nat) (x : Nat) : Nat → Nat
  | 0 => x
  | k + 1 => gst P G x k * G % P
theorem gst_lt {P G x : Nat} (hx : x < P) : ∀ k, gst P G x k < P
  | 0 => hx
  | k + 1 => Nat.mod_lt _ (by omega)
/-- what outcome answers: the first of 0 .. n where it is reached, or -1 -/
def oc_r (P G x b n : Nat) (r : Int32) : Prop := (∃ k, k ≤ n ∧ r = nI k ∧ gst P G x k = b ∧ ∀ j, j < k → gst P G x j ≠ b) ∨ (r = -1 ∧ ∀ j, j ≤ n → gst P G x j ≠ b)
theorem lN_toI {n : Nat} (h : n < 2 ^ 31) : (lN n).toInt32 = nI n := by
  apply Int32.toInt_inj.mp
  rw [nI_toInt h, Int64.toInt_toInt32, pk_lT (by omega)]
  exact Int.bmod_eq_of_le (by omega) (by omega)
