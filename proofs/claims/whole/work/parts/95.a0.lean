/-! what is made by the rules holds -/
theorem gq {G Q P : Nat} (h : G ^ Q % P = 1) (h1 : 1 < P) (a : Nat) : G ^ a % P = G ^ (a % Q) % P := by
  have e : G ^ a = (G ^ Q) ^ (a / Q) * G ^ (a % Q) := by rw [← Nat.pow_mul, ← Nat.pow_add, Nat.div_add_mod]
  rw [e, Nat.mul_mod, Nat.pow_mod, h, Nat.one_pow, Nat.mod_eq_of_lt h1, Nat.one_mul, Nat.mod_mod]
theorem gq2 {G Q P a b : Nat} (h : G ^ Q % P = 1) (h1 : 1 < P) (e : a % Q = b % Q) : G ^ a % P = G ^ b % P := by
  rw [gq h h1 a, e, ← gq h h1 b]
theorem exq {Q W c X : Nat} (hc : c < Q) : ((W + c * X % Q) % Q + X * ((Q - c) % Q)) % Q = W % Q := by
  have h1 : X * ((Q - c) % Q) % Q = X * (Q - c) % Q := by rw [Nat.mul_mod, Nat.mod_mod, ← Nat.mul_mod]
  have h2 : c * X + X * (Q - c) = X * Q := by rw [Nat.mul_comm c X, ← Nat.mul_add, Nat.add_sub_cancel' (Nat.le_of_lt hc)]
  have h3 : (W + (c * X % Q + X * (Q - c))) % Q = W % Q := by rw [Nat.add_mod W, Nat.mod_add_mod, Nat.mod_add_mod, h2, Nat.mul_mod_left, Nat.add_zero]
  rw [Nat.add_mod, h1, Nat.mod_mod, ← Nat.add_mod, Nat.add_assoc]
  exact h3
theorem opn1 {B Q P X W c : Nat} (h : B ^ Q % P = 1) (h1 : 1 < P) (hc : c < Q) : B ^ ((W + c * X % Q) % Q) * (B ^ X % P) ^ ((Q - c) % Q) % P = B ^ W % P := by
  rw [Nat.mul_mod, ← Nat.pow_mod, ← Nat.pow_mul, ← Nat.mul_mod, ← Nat.pow_add]
  exact gq2 h h1 (exq hc)
theorem one_le_of {Y Q P : Nat} (h : Y ^ Q % P = 1) (hQ : 0 < Q) : 1 ≤ Y := by
  rcases Nat.eq_zero_or_pos Y with h0 | h0
  · rw [h0, Nat.zero_pow hQ, Nat.zero_mod] at h
    omega
  · exact h0
theorem mk_key {P Q G : Nat} (hG : G ^ Q % P = 1) (h1 : 1 < P) (hQ : 0 < Q) (I X W c : Nat) (hc : c = hsh Q [lN P, lN G, lN 1, lN I, lN (G ^ X % P), lN (G ^ W % P)]) : keyHd P Q G I (lN (G ^ X % P)) (lN c) (lN ((W + c * X % Q) % Q)) := by
  have hcQ : c < Q := by rw [hc]; exact hsh_lt hQ _
  have hY := in_pow h1 hG X
  refine ⟨_, _, _, rfl, rfl, rfl, hcQ, Nat.mod_lt _ hQ, one_le_of hY hQ, Nat.mod_lt _ (by omega), hY, ?_⟩
  rw [opn1 hG h1 hcQ]
  exact hc
theorem sub_add_q {Q h e : Nat} (hh : h < Q) (he : e < Q) : ((h + (Q - e)) % Q + e) % Q = h := by
  rw [Nat.add_mod, Nat.mod_mod, ← Nat.add_mod, Nat.add_assoc, Nat.sub_add_cancel (Nat.le_of_lt he), Nat.add_mod_right, Nat.mod_eq_of_lt hh]
theorem mk_no {P Q G K : Nat} (hG : G ^ Q % P = 1) (hK : K ^ Q % P = 1) (h1 : 1 < P) (hQ : 0 < Q) (I R W E F h c : Nat) (hE : E < Q) (hF : F < Q)
    (hh : h = hsh Q [lN P, lN G, lN 2, lN I, lN (G ^ R % P), lN (K ^ R % P), lN (G ^ W % P), lN (K ^ W % P), lN (G ^ F * (G ^ R % P) ^ ((Q - E) % Q) % P), lN (K ^ F * ((K ^ R % P) * (G ^ (Q - 1) % P) % P) ^ ((Q - E) % Q) % P)]) (hc : c = (h + (Q - E)) % Q) :
    balHd P Q G K I (lN (G ^ R % P)) (lN (K ^ R % P)) (lN c) (lN ((W + c * R % Q) % Q)) (lN E) (lN F) := by
  have hhQ : h < Q := by rw [hh]; exact hsh_lt hQ _
  have hcQ : c < Q := by rw [hc]; exact Nat.mod_lt _ hQ
  have hA := in_pow h1 hG R
  have hB := in_pow h1 hK R
  refine ⟨_, _, _, _, _, _, rfl, rfl, rfl, rfl, rfl, rfl, hcQ, Nat.mod_lt _ hQ, hE, hF, ⟨one_le_of hA hQ, Nat.mod_lt _ (by omega), hA⟩, ⟨one_le_of hB hQ, Nat.mod_lt _ (by omega), hB⟩, ?_⟩
  unfold balMsg
  rw [opn1 hG h1 hcQ, opn1 hK h1 hcQ, hc, sub_add_q hhQ hE]
  exact hh
theorem over_g {P Q G X : Nat} (hG : G ^ Q % P = 1) (h1 : 1 < P) (hQ : 0 < Q) : ((X % P) * G % P) * (G ^ (Q - 1) % P) % P = X % P := by
  have e : G * G ^ (Q - 1) = G ^ Q := by rw [← Nat.pow_succ', Nat.succ_eq_add_one, Nat.sub_add_cancel hQ]
  rw [← Nat.mul_mod, Nat.mul_assoc, e, Nat.mul_mod, hG, Nat.mul_one, Nat.mod_mod, Nat.mod_mod]
theorem mk_yes {P Q G K : Nat} (hG : G ^ Q % P = 1) (hK : K ^ Q % P = 1) (h1 : 1 < P) (hQ : 0 < Q) (I R W E F h d : Nat) (hE : E < Q) (hF : F < Q)
    (hh : h = hsh Q [lN P, lN G, lN 2, lN I, lN (G ^ R % P), lN ((K ^ R % P) * G % P), lN (G ^ F * (G ^ R % P) ^ ((Q - E) % Q) % P), lN (K ^ F * ((K ^ R % P) * G % P) ^ ((Q - E) % Q) % P), lN (G ^ W % P), lN (K ^ W % P)]) (hd : d = (h + (Q - E)) % Q) :
    balHd P Q G K I (lN (G ^ R % P)) (lN ((K ^ R % P) * G % P)) (lN E) (lN F) (lN d) (lN ((W + d * R % Q) % Q)) := by
  have hhQ : h < Q := by rw [hh]; exact hsh_lt hQ _
  have hdQ : d < Q := by rw [hd]; exact Nat.mod_lt _ hQ
  have hA := in_pow h1 hG R
  have hB := in_mul h1 (in_pow h1 hK R) hG
  refine ⟨_, _, _, _, _, _, rfl, rfl, rfl, rfl, rfl, rfl, hE, hF, hdQ, Nat.mod_lt _ hQ, ⟨one_le_of hA hQ, Nat.mod_lt _ (by omega), hA⟩, ⟨one_le_of hB hQ, Nat.mod_lt _ (by omega), hB⟩, ?_⟩
  unfold balMsg
  rw [over_g hG h1 hQ, opn1 hG h1 hdQ, opn1 hK h1 hdQ, hd, Nat.add_comm E, sub_add_q hhQ hE]
  exact hh
