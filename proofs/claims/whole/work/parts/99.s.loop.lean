theorem and15 (x : Int32) : ∃ v, v < 16 ∧ x &&& 15 = nI v := ⟨x.toBitVec.toNat % 16, Nat.mod_lt _ (by decide), Int32.toBitVec_inj.mp (BitVec.eq_of_toNat_eq (by
  show (x.toBitVec &&& 15#32).toNat = (BitVec.ofNat 32 (x.toBitVec.toNat % 16)).toNat
  rw [BitVec.toNat_and, show (15#32).toNat = 2 ^ 4 - 1 from by decide, Nat.and_two_pow_sub_one_eq_mod, BitVec.toNat_ofNat]
  omega))⟩
theorem go_neg : ∀ k, k < 14 → Int32.ofNat k - 14 < 0 := by decide +kernel
theorem go_in {i L : Nat} (hL : L ≤ 7168) (hi : i ≤ 8000) (h : ¬ Int32.ofNat L - 14 < nI i) : i + 14 ≤ L := by
  by_cases h14 : 14 ≤ L
  · rw [show (Int32.ofNat L - 14 : Int32) = nI (L - 14) from nI_subI h14 rfl] at h
    have h9 : ¬ L - 14 < i := fun q => h ((nI_ltI (by omega) (by omega)).mpr q)
    omega
  · have h8 : (0 : Int32) ≤ nI i := (nI_leI (a := 0) (by omega) (by omega)).mpr (Nat.zero_le i)
    exact absurd (Int32.lt_of_lt_of_le (go_neg L (by omega)) h8) h
theorem d_law_23 : decode code 23 = .ok (.iload 4, 2) := by decide +kernel
theorem d_law_25 : decode code 25 = .ok (.aload_n 0, 1) := by decide +kernel
theorem d_law_26 : decode code 26 = .ok (.arraylength, 1) := by decide +kernel
theorem d_law_27 : decode code 27 = .ok (.bipush 14, 2) := by decide +kernel
theorem d_law_29 : decode code 29 = .ok (.isub, 1) := by decide +kernel
theorem d_law_30 : decode code 30 = .ok (.if_icmp .gt 1941, 3) := by decide +kernel
theorem d_law_33 : decode code 33 = .ok (.aload_n 0, 1) := by decide +kernel
theorem d_law_34 : decode code 34 = .ok (.iload 4, 2) := by decide +kernel
theorem d_law_36 : decode code 36 = .ok (.iaload, 1) := by decide +kernel
theorem d_law_37 : decode code 37 = .ok (.bipush 15, 2) := by decide +kernel
theorem d_law_39 : decode code 39 = .ok (.iand, 1) := by decide +kernel
theorem d_law_40 : decode code 40 = .ok (.tableswitch 1925 0 13 #[72, 215, 407, 551, 887, 1157, 1201, 1393, 1537, 1581, 1648, 1715, 1826, 1870], 72) := by decide +kernel
theorem d_law_1965 : decode code 1965 = .ok (.iinc 4 14, 3) := by decide +kernel
theorem d_law_1968 : decode code 1968 = .ok (.goto (-1945), 3) := by decide +kernel
theorem d_law_1971 : decode code 1971 = .ok (.iconst 1, 1) := by decide +kernel
theorem d_law_1972 : decode code 1972 = .ok (.ireturn, 1) := by decide +kernel
set_option maxHeartbeats 16000000 in
set_option maxRecDepth 100000 in
theorem lw_step {p : Program} {l : Launch} {e : Env} {s : State} {m : MethodId} {below : List Frame} {meth : Method} {c : Code} {b L : Nat} {xs : Nat → Int32} {dC : Nat → ClassId} {dI : Nat → Nat → Nat} {cJ cI cR : ClassId} {A : Nat → Prop} {out b0 m0 : Nat} {rA sA wA : Nat} (C : LC p l s m meth c b L xs dC dI cJ cI cR A rA sA wA) {i cells slots : Nat} (hi : i + 14 ≤ L) (hcs : cells + 20 ≤ 601024 ∧ slots + 200 ≤ 7293034) (cont : LK p l e s m below meth c b dC dI cJ cI cR A out b0 m0 i (cells + 20) (slots + 200) 1965) : LK p l e s m below meth c b dC dI cJ cI cR A out b0 m0 i cells slots 33 := by
  have C0 := C
  obtain ⟨hnt, ⟨hx, hb, hr, hml, hown, hts0, hX, hbl, hlocks, hgv⟩, hK, hA, hbA, hZha, hZx, hZn, hZw, hL⟩ := C
  have hown : s.vm.findClass "BallotBoardLaw" = some m.cls := hown
  have hts := lw_hts hts0
  intro H locs ls hS hI hl
  refine lv_aload_n hx hb d_law_33 rfl (lv_at hl 4 rfl) ?_
  refine lv_iload hx hb d_law_34 (lv_at hl 0 rfl) ?_
  refine va_sld hx hb hX hbl hbA hS (vp_in_nI (by omega) (by omega)) d_law_36 ?_
  rw [show (xs (nI i).toNatClampNeg : Int32) = xs i from by rw [nI_clamp (by omega)]]
  refine lv_bipush (v := 15) hx hb d_law_37 (by decide) ?_
  refine lv_iand hx hb d_law_39 ?_
  obtain ⟨v9, hv9, ev9⟩ := and15 (xs i)
  rw [ev9]
  have hvs : v9 = 0 ∨ v9 = 1 ∨ v9 = 2 ∨ v9 = 3 ∨ v9 = 4 ∨ v9 = 5 ∨ v9 = 6 ∨ v9 = 7 ∨ v9 = 8 ∨ v9 = 9 ∨ v9 = 10 ∨ v9 = 11 ∨ v9 = 12 ∨ v9 = 13 ∨ v9 = 14 ∨ v9 = 15 := by omega
  rcases hvs with rfl | rfl | rfl | rfl | rfl | rfl | rfl | rfl | rfl | rfl | rfl | rfl | rfl | rfl | rfl | rfl
  · refine lv_tableIn (off := 72) (tgt := 112) hx hb d_law_40 (by decide) (by decide) (by decide) (by decide) ?_
    exact hI.elim (fun h => bk_begin_f C0 hi hcs cont hS h hl) (fun h => bk_begin_g C0 hi hcs cont hS h hl)
  · refine lv_tableIn (off := 215) (tgt := 255) hx hb d_law_40 (by decide) (by decide) (by decide) (by decide) ?_
    exact hI.elim (fun h => bk_key_f C0 hi hcs cont hS h hl) (fun h => bk_key_g C0 hi hcs cont hS h hl)
  · refine lv_tableIn (off := 407) (tgt := 447) hx hb d_law_40 (by decide) (by decide) (by decide) (by decide) ?_
    exact hI.elim (fun h => bk_makeKey_f C0 hi hcs cont hS h hl) (fun h => bk_makeKey_g C0 hi hcs cont hS h hl)
  · refine lv_tableIn (off := 551) (tgt := 591) hx hb d_law_40 (by decide) (by decide) (by decide) (by decide) ?_
    exact hI.elim (fun h => bk_ballot_f C0 hi hcs cont hS h hl) (fun h => bk_ballot_g C0 hi hcs cont hS h hl)
  · refine lv_tableIn (off := 887) (tgt := 927) hx hb d_law_40 (by decide) (by decide) (by decide) (by decide) ?_
    exact hI.elim (fun h => bk_makeBallot_f C0 hi hcs cont hS h hl) (fun h => if hx0 : xs (i + 2) = 0 then bk_makeBallot_g0 C0 hi hx0 hcs cont hS h hl else bk_makeBallot_g1 C0 hi hx0 hcs cont hS h hl)
  · refine lv_tableIn (off := 1157) (tgt := 1197) hx hb d_law_40 (by decide) (by decide) (by decide) (by decide) ?_
    exact hI.elim (fun h => bk_close_f C0 hi hcs cont hS h hl) (fun h => bk_close_g C0 hi hcs cont hS h hl)
  · refine lv_tableIn (off := 1201) (tgt := 1241) hx hb d_law_40 (by decide) (by decide) (by decide) (by decide) ?_
    exact hI.elim (fun h => bk_share_f C0 hi hcs cont hS h hl) (fun h => bk_share_g C0 hi hcs cont hS h hl)
  · refine lv_tableIn (off := 1393) (tgt := 1433) hx hb d_law_40 (by decide) (by decide) (by decide) (by decide) ?_
    exact hI.elim (fun h => bk_makeShare_f C0 hi hcs cont hS h hl) (fun h => bk_makeShare_g C0 hi hcs cont hS h hl)
  · refine lv_tableIn (off := 1537) (tgt := 1577) hx hb d_law_40 (by decide) (by decide) (by decide) (by decide) ?_
    exact hI.elim (fun h => bk_result_f C0 hi hcs cont hS h hl) (fun h => bk_result_g C0 hi hcs cont hS h hl)
  · refine lv_tableIn (off := 1581) (tgt := 1621) hx hb d_law_40 (by decide) (by decide) (by decide) (by decide) ?_
    exact hI.elim (fun h => bk_entry_f C0 hi hcs cont hS h hl) (fun h => bk_entry_g C0 hi hcs cont hS h hl)
  · refine lv_tableIn (off := 1648) (tgt := 1688) hx hb d_law_40 (by decide) (by decide) (by decide) (by decide) ?_
    exact hI.elim (fun h => bk_chain_f C0 hi hcs cont hS h hl) (fun h => bk_chain_g C0 hi hcs cont hS h hl)
  · refine lv_tableIn (off := 1715) (tgt := 1755) hx hb d_law_40 (by decide) (by decide) (by decide) (by decide) ?_
    exact hI.elim (fun h => bk_spoil_f C0 hi hcs cont hS h hl) (fun h => bk_spoil_g C0 hi hcs cont hS h hl)
  · refine lv_tableIn (off := 1826) (tgt := 1866) hx hb d_law_40 (by decide) (by decide) (by decide) (by decide) ?_
    exact hI.elim (fun h => bk_audit_f C0 hi hcs cont hS h hl) (fun h => bk_audit_g C0 hi hcs cont hS h hl)
  · refine lv_tableIn (off := 1870) (tgt := 1910) hx hb d_law_40 (by decide) (by decide) (by decide) (by decide) ?_
    exact hI.elim (fun h => bk_count_f C0 hi hcs cont hS h hl) (fun h => bk_count_g C0 hi hcs cont hS h hl)
  · refine lv_tableOut (tgt := 1965) hx hb d_law_40 (Or.inr (by decide)) (by decide) ?_
    refine W.widen (k := cells + 20) (n := slots + 200) (by omega) (by omega) ?_
    exact cont _ _ _ hS hI hl
  · refine lv_tableOut (tgt := 1965) hx hb d_law_40 (Or.inr (by decide)) (by decide) ?_
    refine W.widen (k := cells + 20) (n := slots + 200) (by omega) (by omega) ?_
    exact cont _ _ _ hS hI hl
set_option maxHeartbeats 16000000 in
set_option maxRecDepth 100000 in
theorem lw_loop {p : Program} {l : Launch} {e : Env} {s : State} {m : MethodId} {below : List Frame} {meth : Method} {c : Code} {b L : Nat} {xs : Nat → Int32} {dC : Nat → ClassId} {dI : Nat → Nat → Nat} {cJ cI cR : ClassId} {A : Nat → Prop} {out b0 m0 : Nat} {rA sA wA : Nat} (C : LC p l s m meth c b L xs dC dI cJ cI cR A rA sA wA) (hAo : ∀ q : Nat, A q → s.heap.size ≤ q) : ∀ k r : Nat, r + k = 514 → LK p l e s m below meth c b dC dI cJ cI cR A out b0 m0 (14 * r) (1000 + 20 * r) (10000 + 200 * r) 23 := by
  have C0 := C
  obtain ⟨hnt, ⟨hx, hb, hr, hml, hown, hts0, hX, hbl, hlocks, hgv⟩, hK, hA, hbA, hZha, hZx, hZn, hZw, hL⟩ := C
  have hown : s.vm.findClass "BallotBoardLaw" = some m.cls := hown
  have hts := lw_hts hts0
  intro k
  induction k using Nat.strongRecOn with
  | ind k ih =>
    intro r hr9 H locs ls hS hI hl
    have hnext : 14 * r + 14 ≤ L → LK p l e s m below meth c b dC dI cJ cI cR A out b0 m0 (14 * r) (1000 + 20 * r + 20) (10000 + 200 * r + 200) 1965 := by
      intro hle
      have ih9 := ih (k - 1) (by omega) (r + 1) (by omega)
      rw [show 14 * (r + 1) = 14 * r + 14 by omega, show 1000 + 20 * (r + 1) = 1000 + 20 * r + 20 by omega, show 10000 + 200 * (r + 1) = 10000 + 200 * r + 200 by omega] at ih9
      intro H locs ls hS hI hl
      obtain ⟨i_1, ei_1⟩ : ∃ y : Int32, y = (nI (14 * r)) + 14 := ⟨_, rfl⟩
      refine lv_iinc (v := i_1) (lv' := [(4, .int i_1), (3, .ref out), (2, .ref m0), (1, .ref b0), (0, .ref b)]) hx hb d_law_1965 hl (k := 0) rfl (by rw [ei_1]; rfl) (by decide) rfl (fun ls hl => ?_)
      obtain rfl : i_1 = nI (14 * r + 14) := by rw [ei_1]; exact nI_add _ 14
      refine lv_goto (tgt := 23) hx hb d_law_1968 (by decide) ?_
      exact ih9 H locs ls hS hI (lv_sub hl [0, 1, 2, 3, 4] rfl)
    refine lv_iload hx hb d_law_23 (lv_at hl 0 rfl) ?_
    refine lv_aload_n hx hb d_law_25 rfl (lv_at hl 4 rfl) ?_
    refine va_slen hx hb hX hbl hbA hS d_law_26 ?_
    refine lv_bipush (v := 14) hx hb d_law_27 (by decide) ?_
    refine lv_isub hx hb d_law_29 ?_
    refine lv_icmp_gt (tgt := 1971) hx hb d_law_30 (by decide) (fun c_1 => ?_) (fun c_1 => ?_)
    · -- taken
      refine lv_iconst (v := 1) hx hb d_law_1971 (by decide) ?_
      refine W.widen (k := 601024) (n := 7293034) (by omega) (by omega) ?_
      exact va_forget (fun q hq => hAo _ (hS.2.2 q hq)) (lw_ret hx hb hr hlocks d_law_1972)
    · -- not taken
      have hi := go_in hL (by omega) c_1
      exact lw_step C0 hi ⟨by omega, by omega⟩ (hnext hi) H locs ls hS hI (lv_sub hl [0, 1, 2, 3, 4] rfl)
