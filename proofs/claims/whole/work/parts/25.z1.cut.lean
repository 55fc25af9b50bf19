/-! a class's run, cut into several theorems -/
theorem nt_cs_cps {M p bo : Nat} : ∀ k Z acc, (∃ R, ∀ K, nt_cs M p bo k Z acc K = K R) ∨ (∀ K, nt_cs M p bo k Z acc K = false) := by
  intro k
  induction k with
  | zero => intro Z acc; exact Or.inr (fun K => rfl)
  | succ k ih =>
    intro Z acc
    have e : ∀ K, nt_cs M p bo (k + 1) Z acc K = (Bool.rec (nt_fc (Nat.land Z (Nat.sub Z 4294967296)) (fun Y => nt_fc (Nat.mod (Nat.shiftRight nt_TB (Nat.mul 12 (Nat.mod (Nat.shiftRight (Nat.xor Z Y) 32) 4099))) 4096) (fun i =>
      Bool.rec false (nt_fc (Nat.add p (Nat.mul M (Nat.add bo i))) (fun s => Bool.rec (nt_cs M p bo k Y acc K) (nt_cs M p bo k Y (List.cons s acc) K) (nt_pr s))) (Nat.beq (Nat.xor Z Y) (Nat.pow 2 (Nat.add i 32)))))) (K acc) (Nat.ble Z 4294967295) : Bool) := fun K => rfl
    cases h1 : Nat.ble Z 4294967295 with
    | true => exact Or.inl ⟨acc, fun K => by rw [e, h1]⟩
    | false =>
      have e2 : ∀ K, nt_cs M p bo (k + 1) Z acc K = nt_fc (Nat.land Z (Nat.sub Z 4294967296)) (fun Y => nt_fc (Nat.mod (Nat.shiftRight nt_TB (Nat.mul 12 (Nat.mod (Nat.shiftRight (Nat.xor Z Y) 32) 4099))) 4096) (fun i =>
        (Bool.rec false (nt_fc (Nat.add p (Nat.mul M (Nat.add bo i))) (fun s => Bool.rec (nt_cs M p bo k Y acc K) (nt_cs M p bo k Y (List.cons s acc) K) (nt_pr s))) (Nat.beq (Nat.xor Z Y) (Nat.pow 2 (Nat.add i 32))) : Bool))) := fun K => by rw [e, h1]
      simp only [nt_fc_eq] at e2
      generalize Nat.land Z (Nat.sub Z 4294967296) = Y at e2
      generalize Nat.mod (Nat.shiftRight nt_TB (Nat.mul 12 (Nat.mod (Nat.shiftRight (Nat.xor Z Y) 32) 4099))) 4096 = i at e2
      cases h2 : Nat.beq (Nat.xor Z Y) (Nat.pow 2 (Nat.add i 32)) with
      | false => exact Or.inr (fun K => by rw [e2, h2])
      | true =>
        cases h3 : nt_pr (Nat.add p (Nat.mul M (Nat.add bo i))) with
        | false =>
          rcases ih Y acc with ⟨R, hR⟩ | hR
          · exact Or.inl ⟨R, fun K => by rw [e2, h2, h3]; exact hR K⟩
          · exact Or.inr (fun K => by rw [e2, h2, h3]; exact hR K)
        | true =>
          rcases ih Y (List.cons (Nat.add p (Nat.mul M (Nat.add bo i))) acc) with ⟨R, hR⟩ | hR
          · exact Or.inl ⟨R, fun K => by rw [e2, h2, h3]; exact hR K⟩
          · exact Or.inr (fun K => by rw [e2, h2, h3]; exact hR K)
theorem nt_cc_cps {M p N : Nat} : ∀ c o acc, (∃ R, ∀ K, nt_cc M p N c o acc K = K R) ∨ (∀ K, nt_cc M p N c o acc K = false) := by
  intro c
  induction c with
  | zero => intro o acc; exact Or.inl ⟨acc, fun K => rfl⟩
  | succ c ih =>
    intro o acc
    have e : ∀ K, nt_cc M p N (c + 1) o acc K = nt_cs M p o 4097 (Nat.add (Nat.mul (Nat.pow 2 32) (Nat.mod (Nat.shiftRight N o) (Nat.pow 2 4096))) (Nat.mod o (Nat.pow 2 32))) acc (fun acc' => nt_cc M p N c (Nat.add o 4096) acc' K) := fun K => by
      have e0 : nt_cc M p N (c + 1) o acc K = nt_fc (Nat.add (Nat.mul (Nat.pow 2 32) (Nat.mod (Nat.shiftRight N o) (Nat.pow 2 4096))) (Nat.mod o (Nat.pow 2 32))) (fun Z => nt_cs M p o 4097 Z acc (fun acc' => nt_fc (Nat.add o 4096) (fun o' => nt_cc M p N c o' acc' K))) := rfl
      have e1 : (fun acc' => nt_fc (Nat.add o 4096) (fun o' => nt_cc M p N c o' acc' K)) = (fun acc' => nt_cc M p N c (Nat.add o 4096) acc' K) := funext (fun acc' => nt_fc_eq _ _)
      rw [e0, nt_fc_eq, e1]
    rcases nt_cs_cps (M := M) (p := p) (bo := o) 4097 (Nat.add (Nat.mul (Nat.pow 2 32) (Nat.mod (Nat.shiftRight N o) (Nat.pow 2 4096))) (Nat.mod o (Nat.pow 2 32))) acc with ⟨R, hR⟩ | hR
    · rcases ih (Nat.add o 4096) R with ⟨R', hR'⟩ | hR'
      · exact Or.inl ⟨R', fun K => by rw [e, hR]; exact hR' K⟩
      · exact Or.inr (fun K => by rw [e, hR]; exact hR' K)
    · exact Or.inr (fun K => by rw [e, hR])
noncomputable def nt_leq : List Nat → List Nat → Bool :=
  List.rec (motive := fun _ => List Nat → Bool) (fun l => List.rec (motive := fun _ => Bool) true (fun _ _ _ => false) l)
    (fun a _ ih l => List.rec (motive := fun _ => Bool) false (fun b t _ => nt_an (Nat.beq a b) (ih t)) l)
theorem nt_leq_eq : ∀ a b, nt_leq a b = true → a = b := by
  intro a
  induction a with
  | nil =>
    intro b h
    cases b with
    | nil => rfl
    | cons x t => exact Bool.noConfusion (show false = true from h)
  | cons y a ih =>
    intro b h
    cases b with
    | nil => exact Bool.noConfusion (show false = true from h)
    | cons x t =>
      obtain ⟨h1, h2⟩ := nt_an_true (show nt_an (Nat.beq y x) (nt_leq a t) = true from h)
      rw [Nat.eq_of_beq_eq_true h1, ih t h2]
theorem nt_cc_of {M p N c o : Nat} {acc R0 : List Nat} (h : nt_cc M p N c o acc (fun R => nt_leq R R0) = true) (K : List Nat → Bool) : nt_cc M p N c o acc K = K R0 := by
  rcases nt_cc_cps (M := M) (p := p) (N := N) c o acc with ⟨R, hR⟩ | hR
  · rw [hR] at h
    rw [hR, nt_leq_eq R R0 h]
  · rw [hR] at h
    exact Bool.noConfusion h
theorem nt_an_mk {a b : Bool} (h1 : a = true) (h2 : b = true) : nt_an a b = true := by
  rw [h1, h2]
  rfl
theorem nt_run_of {h M p P W1 c1 K2 : Nat} {TV TT : List (Nat × Nat × Nat)} {q24 : Nat × Nat} {EX : List (Nat × Nat)} {v : Nat} {R0 : List Nat}
    (h1 : nt_fc (nt_pats (nt_sel TV v) 0 W1) (fun N => nt_cc M p N c1 0 List.nil (fun R => nt_leq R R0)) = true) (h2 : nt_prs h P (List.cons q24 (nt_sel TT v)) R0 = true)
    (h3 : nt_rv R0 List.nil (fun R' => nt_ph h M p P K2 W1 (List.cons q24 (nt_sel TT v)) (nt_sel TV v) EX R') = true) : nt_run h M p P W1 c1 K2 TV TT q24 EX v = true := by
  unfold nt_run
  rw [nt_fc_eq] at h1 ⊢
  rw [nt_cc_of h1]
  exact nt_an_mk h2 h3
noncomputable def nt_app (A B : List Nat) : List Nat := List.rec (motive := fun _ => List Nat) B (fun a _ ih => List.cons a ih) A
/-- the walk of nt_prs over A, the tails running on into B -/
noncomputable def nt_prsA (h P : Nat) (L : List (Nat × Nat)) (B A : List Nat) : Bool :=
  List.rec (motive := fun _ => Bool) true (fun s tl ih => nt_an (nt_id s) (nt_an (nt_su h P s (fun s1 PH SPH Lm => nt_tl s (nt_pq h L s s1 PH SPH Lm) (nt_app tl B))) ih)) A
theorem nt_prs_app {h P : Nat} {L : List (Nat × Nat)} {B : List Nat} (hB : nt_prs h P L B = true) : ∀ A, nt_prsA h P L B A = true → nt_prs h P L (nt_app A B) = true := by
  intro A
  induction A with
  | nil => intro _; exact hB
  | cons s tl ih =>
    intro h0
    obtain ⟨h1, h2⟩ := nt_an_true (show nt_an (nt_id s) (nt_an (nt_su h P s (fun s1 PH SPH Lm => nt_tl s (nt_pq h L s s1 PH SPH Lm) (nt_app tl B))) (nt_prsA h P L B tl)) = true from h0)
    obtain ⟨h2, h3⟩ := nt_an_true h2
    exact nt_an_mk h1 (nt_an_mk h2 (ih h3))
theorem nt_all_app {f : Nat → Bool} {a : Nat} (ha : nt_all f a = true) : ∀ b, nt_all (fun j => f (Nat.add a j)) b = true → nt_all f (a + b) = true := by
  intro b
  induction b with
  | zero => intro _; exact ha
  | succ b ih =>
    intro h
    obtain ⟨h1, h2⟩ := nt_an_true (show nt_an (f (Nat.add a b)) (nt_all (fun j => f (Nat.add a j)) b) = true from h)
    exact nt_an_mk h1 (ih h2)
/-! a pair with many cofactors, cut by blocks -/
noncomputable def nt_pxK (h s r : Nat) (K : Nat → Nat → Nat → Nat → Bool) : Bool :=
  nt_fc (Nat.div (Nat.sub r 1) h) (fun a => nt_fc (Nat.div (Nat.sub s 1) h) (fun b => nt_fc (Nat.mul a (Nat.div b (Nat.gcd a b))) (fun Lm =>
    nt_fc (Nat.mul r s) (fun rs => nt_fc (Nat.sub r (nt_iv (Nat.mod Lm r) r)) (fun kr => nt_fc (Nat.sub s (nt_iv (Nat.mod Lm s) s)) (fun ks =>
    nt_fc (Nat.add kr (Nat.mul r (Nat.mod (Nat.mul (Nat.sub (Nat.add ks s) kr) (nt_iv r s)) s))) (fun k0 => nt_fc (Nat.add (Nat.mul Lm k0) 1) (fun n0 =>
    nt_an (Nat.beq (Nat.mod n0 rs) 0) (nt_fc (Nat.mod (Nat.div n0 rs) Lm) (fun m0 => nt_fc (Nat.succ (Nat.div (Nat.div 1152921504606846975 rs) Lm)) (fun J => K rs m0 Lm J)))))))))))
theorem nt_pxK_cps (h s r : Nat) : ∃ c a1 a2 a3 a4, ∀ K, nt_pxK h s r K = nt_an c (K a1 a2 a3 a4) := by
  unfold nt_pxK
  simp only [nt_fc_eq]
  exact ⟨_, _, _, _, _, fun K => rfl⟩
theorem nt_px_eq (h : Nat) (L : List (Nat × Nat)) (s r : Nat) : nt_px h L s r = nt_pxK h s r (fun rs m0 Lm J => nt_all (fun b => nt_pxB L rs m0 Lm J b) (Nat.succ (Nat.div J 65536))) := rfl
theorem nt_px_of {h : Nat} {L : List (Nat × Nat)} {s r rs m0 Lm J n : Nat} (hk : nt_pxK h s r (fun b1 b2 b3 b4 => nt_an (Nat.beq b1 rs) (nt_an (Nat.beq b2 m0) (nt_an (Nat.beq b3 Lm) (nt_an (Nat.beq b4 J) (Nat.beq (Nat.succ (Nat.div b4 65536)) n))))) = true)
    (hb : nt_all (fun b => nt_pxB L rs m0 Lm J b) n = true) : nt_px h L s r = true := by
  rw [nt_px_eq]
  obtain ⟨c, a1, a2, a3, a4, e⟩ := nt_pxK_cps h s r
  rw [e] at hk ⊢
  obtain ⟨hc, hk⟩ := nt_an_true hk
  obtain ⟨k1, hk⟩ := nt_an_true hk
  obtain ⟨k2, hk⟩ := nt_an_true hk
  obtain ⟨k3, hk⟩ := nt_an_true hk
  obtain ⟨k4, k5⟩ := nt_an_true hk
  have k1 := Nat.eq_of_beq_eq_true k1
  have k2 := Nat.eq_of_beq_eq_true k2
  have k3 := Nat.eq_of_beq_eq_true k3
  have k4 := Nat.eq_of_beq_eq_true k4
  have k5 := Nat.eq_of_beq_eq_true k5
  subst k1
  subst k2
  subst k3
  subst k4
  subst k5
  exact nt_an_mk hc hb
theorem nt_pq_px {h : Nat} {L : List (Nat × Nat)} {s s1 PH SPH Lm r : Nat} (hp : nt_px h L s r = true) (hb : Nat.ble (Nat.mul 48 r) Lm = true) : nt_pq h L s s1 PH SPH Lm r = true := by
  unfold nt_pq
  rw [nt_fc_eq, hb, hp]
  cases Nat.ble (Nat.succ Lm) (Nat.sub r (nt_iv (Nat.mod PH r) r)) <;> rfl
theorem nt_tl_cons {s : Nat} {f : Nat → Bool} {r : Nat} {tl : List Nat} (h1 : Nat.ble r s = true) (h2 : f r = true) (h3 : nt_tl s f tl = true) : nt_tl s f (List.cons r tl) = true := by
  have e : nt_tl s f (List.cons r tl) = nt_an (Bool.rec false (f r) (Nat.ble r s)) (nt_tl s f tl) := rfl
  rw [e, h1, h2, h3]
  rfl
theorem nt_prs_cons {h P : Nat} {L : List (Nat × Nat)} {s : Nat} {tl : List Nat} (h1 : nt_id s = true) (h2 : nt_tl s (nt_pq h L s (s - 1) (P * ((s - 1) / h)) (s * (P * ((s - 1) / h))) ((1152921504606846975 / s - 1) / (P * ((s - 1) / h)))) tl = true) (h3 : nt_prs h P L tl = true) : nt_prs h P L (List.cons s tl) = true :=
  nt_an_mk h1 (nt_an_mk h2 h3)
theorem nt_rg_one {f : Nat → Bool} {v : Nat} (h : f v = true) : nt_rg f v 1 = true := by
  have e : nt_rg f v 1 = nt_an (nt_fc (Nat.add v 0) f) true := rfl
  rw [e, nt_fc_eq]
  exact nt_an_mk h rfl
