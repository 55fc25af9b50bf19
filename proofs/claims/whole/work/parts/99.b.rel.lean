section
variable {P Q G f1 k1 f2 k2 N n sd bc al pa pb : Nat} {cl : Int32} {T T0 : TS} {kd wh : Nat → Nat} {R Lk : Nat → Nat → Int64} {nf cf : Nat → Int64} {kf sf vf : Nat → Int32} {ky md sh : Nat → Int64}
theorem rel_close (h : RelG P Q G f1 k1 f2 k2 N n sd bc al pa pb cl T T0 kd wh R Lk nf cf kf sf vf ky md sh) (hk : t_kc T = N) :
    RelG P Q G f1 k1 f2 k2 N n sd bc al (prd P (t_ao T) (t_ao T) 64) (prd P (t_ao T) (t_bo T) 64) 1 (tShut P T) T0 kd wh R Lk nf cf kf sf vf ky md sh := by
  obtain ⟨hG, hT, ⟨hE, hkn⟩, hM, hA⟩ := h
  obtain ⟨p1, _⟩ := rel_P hG
  obtain ⟨m1, m2, m3, m4, m5, m6, m7, m8, m9, m10, m11, m12⟩ := hM
  obtain ⟨a1, a2, a3, a4, a5, a6, a7, a8, a9, a10, a11⟩ := hT
  exact ⟨⟨hG.1, hG.2.1, hG.2.2.1, tOk_shut p1 hG.2.2.2.1, hG.2.2.2.2⟩, ⟨a1, a2, a3, a4, a5, fun _ => ⟨⟨rfl, rfl⟩, (cnt_all _ N).mp (by show cnt (t_ko T) N = N; rw [← a1]; exact hk)⟩, fun q => absurd rfl q, a8, a9, a10, a11⟩, ⟨⟨hE.1, hE.2.1, hE.2.2.1, fun _ _ _ => rfl, fun q => absurd rfl q, hE.2.2.2.2.2⟩, hkn⟩, ⟨m1, m2, rfl, rfl, rfl, m6, m7, m8, m9, m10, m11, m12⟩, hA⟩
theorem rel_spoil (h : RelG P Q G f1 k1 f2 k2 N n sd bc al pa pb cl T T0 kd wh R Lk nf cf kf sf vf ky md sh) {k J : Nat} (hk : k < n) (hJ2 : 2 ≤ J) (hJ : J < wdt (kd k)) (v : Int64) :
    RelG P Q G f1 k1 f2 k2 N n (min sd k) bc al pa pb cl T T0 kd wh (updF R k (vp_updL (R k) J v)) Lk (vp_updL nf (8 * k + J) v) cf kf sf vf ky md sh := by
  obtain ⟨hG, hT, ⟨hE, hkn⟩, hM, hA⟩ := h
  obtain ⟨m1, m2, m3, m4, m5, m6, m7, m8, m9, m10, m11, m12⟩ := hM
  have hw := wdt_le2 (kd k)
  refine ⟨hG, hT, ⟨⟨⟨hE.1.1, fun e he => ?_, hE.1.2.2⟩, hE.2⟩, hkn⟩, ⟨m1, m2, m3, m4, m5, fun e he j hj => ?_, m7, m8, m9, m10, m11, m12⟩, hA.1, by have := hA.2.1; omega, fun i hi => ?_⟩
  · by_cases ek : e = k
    · subst ek
      rw [updF_self]
      have e0 : vp_updL (R e) J v 0 = R e 0 := if_neg (by omega)
      have e1 : vp_updL (R e) J v 1 = R e 1 := if_neg (by omega)
      rw [e0, e1]
      exact hE.1.2.1 e he
    · rw [updF_ne R _ ek]
      exact hE.1.2.1 e he
  · by_cases ek : e = k
    · subst ek
      rw [updF_self]
      unfold vp_updL
      by_cases ej : j = J
      · rw [if_pos (by omega), if_pos ej]
      · rw [if_neg (by omega), if_neg ej]
        exact m6 e he j hj
    · rw [updF_ne R _ ek]
      have hw2 := wdt_le2 (kd e)
      have e9 : vp_updL nf (8 * k + J) v (8 * e + j) = nf (8 * e + j) := if_neg (by omega)
      rw [e9]
      exact m6 e he j hj
  · have h1 : i < sd := by omega
    have h2 : i < k := by omega
    exact hds_congr (fun e he => ⟨rfl, rfl, (updF_ne R _ (by omega)).symm, rfl⟩) (hA.2.2 i h1)
theorem start_tr (h : trT T) : tStart N T = (fun _ => 0, fun _ => 0, fun _ => 0, fun _ => 0, N, 0, 0, 0, 1, 1, 0, 0, 0) := by
  have z4 : ∀ (f : Nat → Nat) (k : Nat), (∀ j, k ≤ j → f j = 0) → zf f k = fun _ => 0 := fun f k hf => by
    funext j
    unfold zf
    by_cases q : j < k
    · rw [if_pos q]
    · rw [if_neg q]; exact hf j (by omega)
  unfold tStart
  rw [z4 _ 4 (fun j hj => (h.1 j hj).1), z4 _ 64 (fun j hj => (h.2 j hj).1), z4 _ 64 (fun j hj => (h.2 j hj).2), z4 _ 4 (fun j hj => (h.1 j hj).2)]
theorem aud_tr {T1 : TS} (h : trT T) (h1 : trT T1) : ∀ k, aud P N T kd wh R k = aud P N T1 kd wh R k
  | 0 => by
    show tStart N T = tStart N T1
    rw [start_tr h, start_tr h1]
  | k + 1 => by
    show tTake P (kd k) (wh k) (R k) (aud P N T kd wh R k) = tTake P (kd k) (wh k) (R k) (aud P N T1 kd wh R k)
    rw [aud_tr h h1 k]
theorem hds_tr {T1 : TS} (h : trT T) (h1 : trT T1) {k : Nat} (hh : hds P Q G N T kd wh R Lk k) : hds P Q G N T1 kd wh R Lk k := by
  unfold hds at hh ⊢
  rw [← aud_tr h h1 k]
  exact hh
theorem rel_audit (h : RelG P Q G f1 k1 f2 k2 N n sd bc al pa pb cl T T0 kd wh R Lk nf cf kf sf vf ky md sh) {T1 : TS} {sd1 : Nat} (h1 : trT T1) (hs : sd1 ≤ n) (hh : ∀ i, i < sd1 → hds P Q G N T0 kd wh R Lk i) :
    RelG P Q G f1 k1 f2 k2 N n sd1 bc al pa pb cl T T1 kd wh R Lk nf cf kf sf vf ky md sh := by
  obtain ⟨hG, hT, hE, hM, hA⟩ := h
  exact ⟨hG, hT, hE, hM, h1, hs, fun i hi => hds_tr hA.1 h1 (hh i hi)⟩
/-- what lies beyond the arrays forgotten -/
def trn (T : TS) : TS := (fun j => if j < 4 then t_ko T j else 0, fun j => if j < 64 then t_ao T j else 0, fun j => if j < 64 then t_bo T j else 0, fun j => if j < 4 then t_so T j else 0, t_tn T, t_kc T, t_bc T, t_shc T, t_kp T, t_shp T, t_pa T, t_pb T, t_sht T)
theorem trn_tr (T : TS) : trT (trn T) := ⟨fun j hj => ⟨if_neg (by omega), if_neg (by omega)⟩, fun j hj => ⟨if_neg (by omega), if_neg (by omega)⟩⟩
theorem tok_start (hP : 1 < P) (h : trT T) : tOk P N (tStart N T) := tOk_start hP ⟨fun j hj => by rw [(h.1 j hj).1]; omega, fun j hj => by rw [(h.2 j hj).1]; omega, fun j hj => by rw [(h.2 j hj).2]; omega, fun j hj => by rw [(h.1 j hj).2]; omega⟩
theorem rel_begin (hok : gp_ok P f1 k1 Q f2 k2 G) (hN1 : 1 ≤ N) (hN4 : N ≤ 4) (hT : trT T) (hT0 : trT T0) : RelG P Q G f1 k1 f2 k2 N 0 (min sd 0) 0 0 0 0 0 (tStart N T) T0 kd wh R Lk nf cf (mf kf 4) (mf sf 4) (mf vf 64) ky md sh := by
  have hP1 : 1 < P := by
    have := hok.1.2.1
    omega
  have e := start_tr (N := N) hT
  have hz : ∀ i, t_ko (tStart N T) i = 0 ∧ t_so (tStart N T) i = 0 ∧ t_ao (tStart N T) i = 0 ∧ t_bo (tStart N T) i = 0 := fun i => by rw [e]; exact ⟨rfl, rfl, rfl, rfl⟩
  have hs0 : ¬ t_sht (tStart N T) = 1 := fun q => absurd (show (0 : Int32) = 1 from q) (by decide)
  refine ⟨⟨hok, by omega, hN4, tok_start hP1 hT, ⟨fun j _ => ⟨(hz j).1, (hz j).2.1⟩, fun j _ => ⟨(hz j).2.2.1, (hz j).2.2.2⟩⟩⟩, ⟨?_, ?_, ?_, ?_, ?_, fun q => absurd q hs0, fun _ => ⟨rfl, rfl⟩, fun j q => absurd (hz j).1 q, fun j q => absurd (hz j).2.1 q, fun j q => absurd (hz j).2.2.1 q, fun j _ => ⟨(hz j).1, (hz j).2.1⟩⟩, ⟨⟨⟨by omega, fun i q => absurd q (by omega), fun q => absurd q (by omega)⟩, ⟨fun i j _ q => absurd q (by omega), fun i j _ q => absurd q (by omega), fun k q => absurd q (by omega)⟩, fun j _ => ⟨fun q => absurd (hz j).1 q, fun ⟨e9, q, _⟩ => absurd q (by omega)⟩, fun e9 q => absurd q (by omega), fun _ => by omega, by omega⟩, fun _ => rfl⟩, ⟨rfl, ?_, rfl, rfl, rfl, fun e9 q => absurd q (by omega), fun e9 q => absurd q (by omega), fun e9 q => absurd q (by omega), fun i hi => Or.inl ⟨(hz i).1, if_pos hi⟩, fun i hi => Or.inl ⟨(hz i).2.1, if_pos hi⟩, fun i hi => Or.inl ⟨(hz i).2.2.1, if_pos hi⟩, fun i _ q => absurd (hz i).2.2.1 q⟩, hT0, by omega, fun i hi => absurd hi (by omega)⟩
  · rw [cnt_zero N (fun i _ => (hz i).1)]; rfl
  · rw [prd_zero N (fun i _ => (hz i).1)]; rfl
  · rw [cnt_zero N (fun i _ => (hz i).2.1)]; rfl
  · rw [prd_zero N (fun i _ => (hz i).2.1)]; rfl
  · rw [cnt_zero 64 (fun i _ => (hz i).2.2.1)]; rfl
  · show 0 = ckey N 0 1
    unfold ckey
    rw [if_neg (by omega)]
theorem bg_iff {x1 x2 : Int64} {x3 : Int32} : bgC x1 x2 x3 ↔ bgR x1 x2 x3 := by
  constructor
  · rintro ⟨⟨P, G, e1, e2, h7, h61, h4, hc1, hc2, hg2, hgp, hgq⟩, N, e3, h1, h2⟩
    obtain ⟨r1, r2⟩ := (nt_agree h7 h61).mp ⟨h4, hc1, hc2⟩
    exact ⟨P, G, N, e1, e2, e3, h7, h61, r1, r2, ⟨h1, h2⟩, hg2, hgp, by rw [show (P - 1) / 2 = P / 2 by omega]; exact hgq⟩
  · rintro ⟨P, G, N, e1, e2, e3, h7, h61, r1, r2, ⟨h1, h2⟩, hg2, hgp, hgq⟩
    obtain ⟨h4, hc1, hc2⟩ := (nt_agree h7 h61).mpr ⟨r1, r2⟩
    exact ⟨⟨P, G, e1, e2, h7, h61, h4, hc1, hc2, hg2, hgp, by rw [show P / 2 = (P - 1) / 2 by omega]; exact hgq⟩, N, e3, h1, h2⟩
theorem bC1_iff (hT : RT P Q (t_tn T) T) : bC1 T ↔ vC1 (t_tn T) (t_sht T) (t_ko T) := by
  have ha : (0 < t_tn T ∧ t_kc T = t_tn T) ↔ allN (t_tn T) (t_ko T) := by
    constructor
    · rintro ⟨a, b⟩
      exact ⟨a, (cnt_all _ _).mp (by rw [← hT.1]; exact b)⟩
    · rintro ⟨a, b⟩
      exact ⟨a, by rw [hT.1]; exact (cnt_all _ _).mpr b⟩
  unfold bC1 vC1
  rw [ha]
  constructor
  · rintro (h | h)
    · exact Or.inr (Or.inl h)
    · exact Or.inr (Or.inr h)
  · rintro (h | h | h)
    · exact Or.inr (fun q => by have := q.1; omega)
    · exact Or.inl h
    · exact Or.inr h
theorem prd_in {f : Nat → Nat} (hP : 1 < P) (h : ∀ j, f j ≠ 0 → f j ^ Q % P = 1) : ∀ k, prd P f f k ^ Q % P = 1
  | 0 => by
    show 1 ^ Q % P = 1
    rw [Nat.one_pow, Nat.mod_eq_of_lt hP]
  | k + 1 => by
    unfold prd
    by_cases e : f k = 0
    · rw [if_pos e]; exact prd_in hP h k
    · rw [if_neg e]
      exact in_mul hP (prd_in hP h k) (h k e)
theorem gst_gpw {x : Nat} (hx : x < P) (hP : 1 < P) : ∀ k, gst P G x k = x * gpw P G k % P
  | 0 => by
    show x = x * 1 % P
    rw [Nat.mul_one, Nat.mod_eq_of_lt hx]
  | k + 1 => by
    show gst P G x k * G % P = x * (gpw P G k * G % P) % P
    rw [gst_gpw hx hP k, Nat.mod_mul_mod, Nat.mul_mod_mod, Nat.mul_assoc]
theorem goal_iff {x b g : Nat} (hP : 1 < P) (hQ : 0 < Q) (hxQ : x ^ Q % P = 1) (hb : b < P) (hg : g < P) : x * g % P = b ↔ g = b * (x ^ (Q - 1) % P) % P := by
  have e : x * x ^ (Q - 1) = x ^ Q := by rw [← Nat.pow_succ', Nat.succ_eq_add_one, Nat.sub_add_cancel hQ]
  constructor
  · intro h
    rw [← h, Nat.mul_mod_mod, Nat.mod_mul_mod, Nat.mul_right_comm, e, Nat.mul_comm, Nat.mul_mod, hxQ, Nat.mul_one, Nat.mod_mod, Nat.mod_eq_of_lt hg]
  · intro h
    rw [h, Nat.mul_mod_mod, Nat.mul_comm b, ← Nat.mul_assoc, ← Nat.mod_mul_mod, Nat.mul_mod_mod, e, hxQ, Nat.one_mul, Nat.mod_eq_of_lt hb]
theorem oc_eq {x b goal m : Nat} {r r' : Int32} (hm : m ≤ 64) (h : oc_r P G x b m r) (h' : oc_m P G goal m r') (he : ∀ k, gst P G x k = b ↔ gpw P G k = goal) : r = r' := by
  rcases h with ⟨k, hk, rfl, h1, h2⟩ | ⟨rfl, h2⟩ <;> rcases h' with ⟨k', hk', rfl, h1', h2'⟩ | ⟨rfl, h2'⟩
  · rcases Nat.lt_trichotomy k k' with q | q | q
    · exact absurd ((he k).mp h1) (h2' k q)
    · rw [q]
    · exact absurd ((he k').mpr h1') (h2 k' q)
  · exact absurd ((he k).mp h1) (h2' k hk)
  · exact absurd ((he k').mpr h1') (h2 k' hk')
  · rfl
theorem res_eq (h : RelG P Q G f1 k1 f2 k2 N n sd bc al pa pb cl T T0 kd wh R Lk nf cf kf sf vf ky md sh) (hs : t_shc T = N) {r r' : Int32} (hr : oc_r P G (t_shp T) (t_pb T) (t_bc T) r) (hr' : oc_m P G (t_pb T * (prk P (t_so T) N ^ (Q - 1) % P) % P) (t_bc T) r') : r = r' := by
  obtain ⟨hG, hT, ⟨hE, hkn⟩, hM, hA⟩ := h
  obtain ⟨p1, p61, pq, q3, g2, gp, gq9⟩ := rel_P hG
  have hall := (cnt_all (t_so T) N).mp (by rw [← hT.2.2.1]; exact hs)
  have e : t_shp T = prk P (t_so T) N := by rw [hT.2.2.2.1, prk_prd N hall]
  have hxQ : t_shp T ^ Q % P = 1 := by rw [hT.2.2.2.1]; exact prd_in p1 hT.2.2.2.2.2.2.2.2.1 N
  rw [← e] at hr'
  have hbc : t_bc T ≤ 64 := by rw [hT.2.2.2.2.1]; exact cnt_le _ _
  exact oc_eq hbc hr hr' (fun k => by
    rw [gst_gpw hG.2.2.2.1.2.2.2.2.2.2.1 p1 k]
    exact goal_iff p1 (by omega) hxQ hG.2.2.2.1.2.2.2.2.2.2.2.2.1 (gpw_lt p1 k))
theorem cnt_eq (hT : RT P Q (t_tn T) T) (i : Nat) : cntC T P Q G n i = cntM P Q G (ckey (t_tn T) (t_kc T) (t_kp T)) (t_pa T) (t_pb T) n (t_bc T) (t_tn T) (t_ko T) (t_so T) (t_sht T) i := by
  unfold cntC cntM
  rw [← hT.1, ← hT.2.2.1]
end
