/-! a class cut into pieces (written by wip/whole/gen26cut.py) -/
def nt_L3_19 : List Nat := [1025081, 1007129, 992441, 980921, 974969, 906329, 860969, 857369, 821801, 795449, 718841, 695801, 684569, 673961, 660809, 566441, 562361, 493049, 489689, 447449, 445001, 413849, 401321, 383609, 355049, 352601, 296489, 190409, 177209, 171641, 138569, 132329, 99689, 67481, 23801, 10889, 281]
theorem nt_c1_3_19 : nt_fc (nt_pats (nt_sel nt_TV3 19) 0 21845) (fun N => nt_cc 48 41 N 6 0 List.nil (fun R => nt_leq R nt_L3_19)) = true := by decide +kernel
theorem nt_x3_19_23801_281_0 : nt_all (fun b => nt_pxB (List.cons (24, nt_z17) (nt_sel nt_TT 19)) 6688081 13721 23800 7243047 b) 8 = true := by decide +kernel
theorem nt_y3_19_23801_281_1 : nt_all (fun j => nt_pxB (List.cons (24, nt_z17) (nt_sel nt_TT 19)) 6688081 13721 23800 7243047 (Nat.add 8 j)) 8 = true := by decide +kernel
theorem nt_x3_19_23801_281_1 : nt_all (fun b => nt_pxB (List.cons (24, nt_z17) (nt_sel nt_TT 19)) 6688081 13721 23800 7243047 b) 16 = true := nt_all_app nt_x3_19_23801_281_0 8 nt_y3_19_23801_281_1
theorem nt_y3_19_23801_281_2 : nt_all (fun j => nt_pxB (List.cons (24, nt_z17) (nt_sel nt_TT 19)) 6688081 13721 23800 7243047 (Nat.add 16 j)) 8 = true := by decide +kernel
theorem nt_x3_19_23801_281_2 : nt_all (fun b => nt_pxB (List.cons (24, nt_z17) (nt_sel nt_TT 19)) 6688081 13721 23800 7243047 b) 24 = true := nt_all_app nt_x3_19_23801_281_1 8 nt_y3_19_23801_281_2
theorem nt_y3_19_23801_281_3 : nt_all (fun j => nt_pxB (List.cons (24, nt_z17) (nt_sel nt_TT 19)) 6688081 13721 23800 7243047 (Nat.add 24 j)) 8 = true := by decide +kernel
theorem nt_x3_19_23801_281_3 : nt_all (fun b => nt_pxB (List.cons (24, nt_z17) (nt_sel nt_TT 19)) 6688081 13721 23800 7243047 b) 32 = true := nt_all_app nt_x3_19_23801_281_2 8 nt_y3_19_23801_281_3
theorem nt_y3_19_23801_281_4 : nt_all (fun j => nt_pxB (List.cons (24, nt_z17) (nt_sel nt_TT 19)) 6688081 13721 23800 7243047 (Nat.add 32 j)) 8 = true := by decide +kernel
theorem nt_x3_19_23801_281_4 : nt_all (fun b => nt_pxB (List.cons (24, nt_z17) (nt_sel nt_TT 19)) 6688081 13721 23800 7243047 b) 40 = true := nt_all_app nt_x3_19_23801_281_3 8 nt_y3_19_23801_281_4
theorem nt_y3_19_23801_281_5 : nt_all (fun j => nt_pxB (List.cons (24, nt_z17) (nt_sel nt_TT 19)) 6688081 13721 23800 7243047 (Nat.add 40 j)) 8 = true := by decide +kernel
theorem nt_x3_19_23801_281_5 : nt_all (fun b => nt_pxB (List.cons (24, nt_z17) (nt_sel nt_TT 19)) 6688081 13721 23800 7243047 b) 48 = true := nt_all_app nt_x3_19_23801_281_4 8 nt_y3_19_23801_281_5
theorem nt_y3_19_23801_281_6 : nt_all (fun j => nt_pxB (List.cons (24, nt_z17) (nt_sel nt_TT 19)) 6688081 13721 23800 7243047 (Nat.add 48 j)) 8 = true := by decide +kernel
theorem nt_x3_19_23801_281_6 : nt_all (fun b => nt_pxB (List.cons (24, nt_z17) (nt_sel nt_TT 19)) 6688081 13721 23800 7243047 b) 56 = true := nt_all_app nt_x3_19_23801_281_5 8 nt_y3_19_23801_281_6
theorem nt_y3_19_23801_281_7 : nt_all (fun j => nt_pxB (List.cons (24, nt_z17) (nt_sel nt_TT 19)) 6688081 13721 23800 7243047 (Nat.add 56 j)) 8 = true := by decide +kernel
theorem nt_x3_19_23801_281_7 : nt_all (fun b => nt_pxB (List.cons (24, nt_z17) (nt_sel nt_TT 19)) 6688081 13721 23800 7243047 b) 64 = true := nt_all_app nt_x3_19_23801_281_6 8 nt_y3_19_23801_281_7
theorem nt_y3_19_23801_281_8 : nt_all (fun j => nt_pxB (List.cons (24, nt_z17) (nt_sel nt_TT 19)) 6688081 13721 23800 7243047 (Nat.add 64 j)) 8 = true := by decide +kernel
theorem nt_x3_19_23801_281_8 : nt_all (fun b => nt_pxB (List.cons (24, nt_z17) (nt_sel nt_TT 19)) 6688081 13721 23800 7243047 b) 72 = true := nt_all_app nt_x3_19_23801_281_7 8 nt_y3_19_23801_281_8
theorem nt_y3_19_23801_281_9 : nt_all (fun j => nt_pxB (List.cons (24, nt_z17) (nt_sel nt_TT 19)) 6688081 13721 23800 7243047 (Nat.add 72 j)) 8 = true := by decide +kernel
theorem nt_x3_19_23801_281_9 : nt_all (fun b => nt_pxB (List.cons (24, nt_z17) (nt_sel nt_TT 19)) 6688081 13721 23800 7243047 b) 80 = true := nt_all_app nt_x3_19_23801_281_8 8 nt_y3_19_23801_281_9
theorem nt_y3_19_23801_281_10 : nt_all (fun j => nt_pxB (List.cons (24, nt_z17) (nt_sel nt_TT 19)) 6688081 13721 23800 7243047 (Nat.add 80 j)) 8 = true := by decide +kernel
theorem nt_x3_19_23801_281_10 : nt_all (fun b => nt_pxB (List.cons (24, nt_z17) (nt_sel nt_TT 19)) 6688081 13721 23800 7243047 b) 88 = true := nt_all_app nt_x3_19_23801_281_9 8 nt_y3_19_23801_281_10
theorem nt_y3_19_23801_281_11 : nt_all (fun j => nt_pxB (List.cons (24, nt_z17) (nt_sel nt_TT 19)) 6688081 13721 23800 7243047 (Nat.add 88 j)) 8 = true := by decide +kernel
theorem nt_x3_19_23801_281_11 : nt_all (fun b => nt_pxB (List.cons (24, nt_z17) (nt_sel nt_TT 19)) 6688081 13721 23800 7243047 b) 96 = true := nt_all_app nt_x3_19_23801_281_10 8 nt_y3_19_23801_281_11
theorem nt_y3_19_23801_281_12 : nt_all (fun j => nt_pxB (List.cons (24, nt_z17) (nt_sel nt_TT 19)) 6688081 13721 23800 7243047 (Nat.add 96 j)) 8 = true := by decide +kernel
theorem nt_x3_19_23801_281_12 : nt_all (fun b => nt_pxB (List.cons (24, nt_z17) (nt_sel nt_TT 19)) 6688081 13721 23800 7243047 b) 104 = true := nt_all_app nt_x3_19_23801_281_11 8 nt_y3_19_23801_281_12
theorem nt_y3_19_23801_281_13 : nt_all (fun j => nt_pxB (List.cons (24, nt_z17) (nt_sel nt_TT 19)) 6688081 13721 23800 7243047 (Nat.add 104 j)) 7 = true := by decide +kernel
theorem nt_x3_19_23801_281_13 : nt_all (fun b => nt_pxB (List.cons (24, nt_z17) (nt_sel nt_TT 19)) 6688081 13721 23800 7243047 b) 111 = true := nt_all_app nt_x3_19_23801_281_12 7 nt_y3_19_23801_281_13
theorem nt_x3_19_23801_281 : nt_px 1 (List.cons (24, nt_z17) (nt_sel nt_TT 19)) 23801 281 = true := nt_px_of (rs := 6688081) (m0 := 13721) (Lm := 23800) (J := 7243047) (n := 111) (by decide +kernel) nt_x3_19_23801_281_13
theorem nt_x3_19_10889_281_0 : nt_all (fun b => nt_pxB (List.cons (24, nt_z17) (nt_sel nt_TT 19)) 3059809 14569 381080 988757 b) 8 = true := by decide +kernel
theorem nt_y3_19_10889_281_1 : nt_all (fun j => nt_pxB (List.cons (24, nt_z17) (nt_sel nt_TT 19)) 3059809 14569 381080 988757 (Nat.add 8 j)) 8 = true := by decide +kernel
theorem nt_x3_19_10889_281_1 : nt_all (fun b => nt_pxB (List.cons (24, nt_z17) (nt_sel nt_TT 19)) 3059809 14569 381080 988757 b) 16 = true := nt_all_app nt_x3_19_10889_281_0 8 nt_y3_19_10889_281_1
theorem nt_x3_19_10889_281 : nt_px 1 (List.cons (24, nt_z17) (nt_sel nt_TT 19)) 10889 281 = true := nt_px_of (rs := 3059809) (m0 := 14569) (Lm := 381080) (J := 988757) (n := 16) (by decide +kernel) nt_x3_19_10889_281_1
def nt_B3_19_0 : List Nat := [23801, 10889, 281]
theorem nt_b3_19_0 : nt_prs 1 3 (List.cons (24, nt_z17) (nt_sel nt_TT 19)) nt_B3_19_0 = true := (show nt_prs 1 3 (List.cons (24, nt_z17) (nt_sel nt_TT 19)) [23801, 10889, 281] = true from (nt_prs_cons (by decide +kernel) (nt_tl_cons (by decide +kernel) (by decide +kernel) (nt_tl_cons (by decide +kernel) (nt_pq_px nt_x3_19_23801_281 (by decide +kernel)) rfl)) (nt_prs_cons (by decide +kernel) (nt_tl_cons (by decide +kernel) (nt_pq_px nt_x3_19_10889_281 (by decide +kernel)) rfl) (nt_prs_cons (by decide +kernel) rfl rfl))))
noncomputable def nt_B3_19_1 : List Nat := nt_app [99689, 67481] nt_B3_19_0
theorem nt_b3_19_1 : nt_prs 1 3 (List.cons (24, nt_z17) (nt_sel nt_TT 19)) nt_B3_19_1 = true := nt_prs_app nt_b3_19_0 [99689, 67481] (by decide +kernel)
noncomputable def nt_B3_19_2 : List Nat := nt_app [138569, 132329] nt_B3_19_1
theorem nt_b3_19_2 : nt_prs 1 3 (List.cons (24, nt_z17) (nt_sel nt_TT 19)) nt_B3_19_2 = true := nt_prs_app nt_b3_19_1 [138569, 132329] (by decide +kernel)
noncomputable def nt_B3_19_3 : List Nat := nt_app [177209, 171641] nt_B3_19_2
theorem nt_b3_19_3 : nt_prs 1 3 (List.cons (24, nt_z17) (nt_sel nt_TT 19)) nt_B3_19_3 = true := nt_prs_app nt_b3_19_2 [177209, 171641] (by decide +kernel)
noncomputable def nt_B3_19_4 : List Nat := nt_app [296489, 190409] nt_B3_19_3
theorem nt_b3_19_4 : nt_prs 1 3 (List.cons (24, nt_z17) (nt_sel nt_TT 19)) nt_B3_19_4 = true := nt_prs_app nt_b3_19_3 [296489, 190409] (by decide +kernel)
noncomputable def nt_B3_19_5 : List Nat := nt_app [562361, 493049, 489689, 447449, 445001, 413849, 401321, 383609, 355049, 352601] nt_B3_19_4
theorem nt_b3_19_5 : nt_prs 1 3 (List.cons (24, nt_z17) (nt_sel nt_TT 19)) nt_B3_19_5 = true := nt_prs_app nt_b3_19_4 [562361, 493049, 489689, 447449, 445001, 413849, 401321, 383609, 355049, 352601] (by decide +kernel)
noncomputable def nt_B3_19_6 : List Nat := nt_app [860969, 857369, 821801, 795449, 718841, 695801, 684569, 673961, 660809, 566441] nt_B3_19_5
theorem nt_b3_19_6 : nt_prs 1 3 (List.cons (24, nt_z17) (nt_sel nt_TT 19)) nt_B3_19_6 = true := nt_prs_app nt_b3_19_5 [860969, 857369, 821801, 795449, 718841, 695801, 684569, 673961, 660809, 566441] (by decide +kernel)
noncomputable def nt_B3_19_7 : List Nat := nt_app [1025081, 1007129, 992441, 980921, 974969, 906329] nt_B3_19_6
theorem nt_b3_19_7 : nt_prs 1 3 (List.cons (24, nt_z17) (nt_sel nt_TT 19)) nt_B3_19_7 = true := nt_prs_app nt_b3_19_6 [1025081, 1007129, 992441, 980921, 974969, 906329] (by decide +kernel)
theorem nt_c3_3_19 : nt_rv nt_L3_19 List.nil (fun R' => nt_ph 1 48 41 3 66 21845 (List.cons (24, nt_z17) (nt_sel nt_TT 19)) (nt_sel nt_TV3 19) nt_EX3 R') = true := by decide +kernel
theorem nt_rr_3_19 : nt_R3 19 = true := nt_run_of nt_c1_3_19 (show nt_prs 1 3 (List.cons (24, nt_z17) (nt_sel nt_TT 19)) nt_L3_19 = true from nt_b3_19_7) nt_c3_3_19
