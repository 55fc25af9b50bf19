/-! a class cut into pieces (written by wip/whole/gen26cut.py) -/
def nt_L2_75 : List Nat := [1033061, 1023941, 1020821, 1011221, 992021, 988829, 980261, 976109, 961661, 930101, 912941, 904661, 886421, 883229, 877109, 872621, 872141, 866909, 856181, 852749, 836189, 822389, 803189, 786629, 748589, 740429, 701549, 691181, 678941, 671189, 665981, 654221, 633221, 615941, 610541, 609989, 596261, 581429, 576221, 571229, 551069, 542021, 539501, 504149, 495629, 494621, 477941, 472469, 459029, 448421, 446189, 433421, 427781, 423341, 422549, 410621, 392669, 374789, 373181, 352349, 344621, 315389, 287141, 286589, 282101, 247829, 247781, 227501, 201581, 195029, 193181, 162821, 151901, 130589, 127709, 104309, 47189, 46349, 42701, 23669, 29]
theorem nt_c1_2_75 : nt_fc (nt_pats (nt_sel nt_TV2 75) 0 43691) (fun N => nt_cc 24 5 N 11 0 List.nil (fun R => nt_leq R nt_L2_75)) = true := by decide +kernel
theorem nt_x2_75_42701_29_0 : nt_all (fun b => nt_pxB (List.cons (24, nt_z5) (nt_sel nt_TT 75)) 1238329 17669 42700 21803983 b) 40 = true := by decide +kernel
theorem nt_y2_75_42701_29_1 : nt_all (fun j => nt_pxB (List.cons (24, nt_z5) (nt_sel nt_TT 75)) 1238329 17669 42700 21803983 (Nat.add 40 j)) 40 = true := by decide +kernel
theorem nt_x2_75_42701_29_1 : nt_all (fun b => nt_pxB (List.cons (24, nt_z5) (nt_sel nt_TT 75)) 1238329 17669 42700 21803983 b) 80 = true := nt_all_app nt_x2_75_42701_29_0 40 nt_y2_75_42701_29_1
theorem nt_y2_75_42701_29_2 : nt_all (fun j => nt_pxB (List.cons (24, nt_z5) (nt_sel nt_TT 75)) 1238329 17669 42700 21803983 (Nat.add 80 j)) 40 = true := by decide +kernel
theorem nt_x2_75_42701_29_2 : nt_all (fun b => nt_pxB (List.cons (24, nt_z5) (nt_sel nt_TT 75)) 1238329 17669 42700 21803983 b) 120 = true := nt_all_app nt_x2_75_42701_29_1 40 nt_y2_75_42701_29_2
theorem nt_y2_75_42701_29_3 : nt_all (fun j => nt_pxB (List.cons (24, nt_z5) (nt_sel nt_TT 75)) 1238329 17669 42700 21803983 (Nat.add 120 j)) 40 = true := by decide +kernel
theorem nt_x2_75_42701_29_3 : nt_all (fun b => nt_pxB (List.cons (24, nt_z5) (nt_sel nt_TT 75)) 1238329 17669 42700 21803983 b) 160 = true := nt_all_app nt_x2_75_42701_29_2 40 nt_y2_75_42701_29_3
theorem nt_y2_75_42701_29_4 : nt_all (fun j => nt_pxB (List.cons (24, nt_z5) (nt_sel nt_TT 75)) 1238329 17669 42700 21803983 (Nat.add 160 j)) 40 = true := by decide +kernel
theorem nt_x2_75_42701_29_4 : nt_all (fun b => nt_pxB (List.cons (24, nt_z5) (nt_sel nt_TT 75)) 1238329 17669 42700 21803983 b) 200 = true := nt_all_app nt_x2_75_42701_29_3 40 nt_y2_75_42701_29_4
theorem nt_y2_75_42701_29_5 : nt_all (fun j => nt_pxB (List.cons (24, nt_z5) (nt_sel nt_TT 75)) 1238329 17669 42700 21803983 (Nat.add 200 j)) 40 = true := by decide +kernel
theorem nt_x2_75_42701_29_5 : nt_all (fun b => nt_pxB (List.cons (24, nt_z5) (nt_sel nt_TT 75)) 1238329 17669 42700 21803983 b) 240 = true := nt_all_app nt_x2_75_42701_29_4 40 nt_y2_75_42701_29_5
theorem nt_y2_75_42701_29_6 : nt_all (fun j => nt_pxB (List.cons (24, nt_z5) (nt_sel nt_TT 75)) 1238329 17669 42700 21803983 (Nat.add 240 j)) 40 = true := by decide +kernel
theorem nt_x2_75_42701_29_6 : nt_all (fun b => nt_pxB (List.cons (24, nt_z5) (nt_sel nt_TT 75)) 1238329 17669 42700 21803983 b) 280 = true := nt_all_app nt_x2_75_42701_29_5 40 nt_y2_75_42701_29_6
theorem nt_y2_75_42701_29_7 : nt_all (fun j => nt_pxB (List.cons (24, nt_z5) (nt_sel nt_TT 75)) 1238329 17669 42700 21803983 (Nat.add 280 j)) 40 = true := by decide +kernel
theorem nt_x2_75_42701_29_7 : nt_all (fun b => nt_pxB (List.cons (24, nt_z5) (nt_sel nt_TT 75)) 1238329 17669 42700 21803983 b) 320 = true := nt_all_app nt_x2_75_42701_29_6 40 nt_y2_75_42701_29_7
theorem nt_y2_75_42701_29_8 : nt_all (fun j => nt_pxB (List.cons (24, nt_z5) (nt_sel nt_TT 75)) 1238329 17669 42700 21803983 (Nat.add 320 j)) 13 = true := by decide +kernel
theorem nt_x2_75_42701_29_8 : nt_all (fun b => nt_pxB (List.cons (24, nt_z5) (nt_sel nt_TT 75)) 1238329 17669 42700 21803983 b) 333 = true := nt_all_app nt_x2_75_42701_29_7 13 nt_y2_75_42701_29_8
theorem nt_x2_75_42701_29 : nt_px 1 (List.cons (24, nt_z5) (nt_sel nt_TT 75)) 42701 29 = true := nt_px_of (rs := 1238329) (m0 := 17669) (Lm := 42700) (J := 21803983) (n := 333) (by decide +kernel) nt_x2_75_42701_29_8
theorem nt_x2_75_23669_29_0 : nt_all (fun b => nt_pxB (List.cons (24, nt_z5) (nt_sel nt_TT 75)) 686401 76717 165676 10138233 b) 40 = true := by decide +kernel
theorem nt_y2_75_23669_29_1 : nt_all (fun j => nt_pxB (List.cons (24, nt_z5) (nt_sel nt_TT 75)) 686401 76717 165676 10138233 (Nat.add 40 j)) 40 = true := by decide +kernel
theorem nt_x2_75_23669_29_1 : nt_all (fun b => nt_pxB (List.cons (24, nt_z5) (nt_sel nt_TT 75)) 686401 76717 165676 10138233 b) 80 = true := nt_all_app nt_x2_75_23669_29_0 40 nt_y2_75_23669_29_1
theorem nt_y2_75_23669_29_2 : nt_all (fun j => nt_pxB (List.cons (24, nt_z5) (nt_sel nt_TT 75)) 686401 76717 165676 10138233 (Nat.add 80 j)) 40 = true := by decide +kernel
theorem nt_x2_75_23669_29_2 : nt_all (fun b => nt_pxB (List.cons (24, nt_z5) (nt_sel nt_TT 75)) 686401 76717 165676 10138233 b) 120 = true := nt_all_app nt_x2_75_23669_29_1 40 nt_y2_75_23669_29_2
theorem nt_y2_75_23669_29_3 : nt_all (fun j => nt_pxB (List.cons (24, nt_z5) (nt_sel nt_TT 75)) 686401 76717 165676 10138233 (Nat.add 120 j)) 35 = true := by decide +kernel
theorem nt_x2_75_23669_29_3 : nt_all (fun b => nt_pxB (List.cons (24, nt_z5) (nt_sel nt_TT 75)) 686401 76717 165676 10138233 b) 155 = true := nt_all_app nt_x2_75_23669_29_2 35 nt_y2_75_23669_29_3
theorem nt_x2_75_23669_29 : nt_px 1 (List.cons (24, nt_z5) (nt_sel nt_TT 75)) 23669 29 = true := nt_px_of (rs := 686401) (m0 := 76717) (Lm := 165676) (J := 10138233) (n := 155) (by decide +kernel) nt_x2_75_23669_29_3
def nt_B2_75_0 : List Nat := [42701, 23669, 29]
theorem nt_b2_75_0 : nt_prs 1 6 (List.cons (24, nt_z5) (nt_sel nt_TT 75)) nt_B2_75_0 = true := (show nt_prs 1 6 (List.cons (24, nt_z5) (nt_sel nt_TT 75)) [42701, 23669, 29] = true from (nt_prs_cons (by decide +kernel) (nt_tl_cons (by decide +kernel) (by decide +kernel) (nt_tl_cons (by decide +kernel) (nt_pq_px nt_x2_75_42701_29 (by decide +kernel)) rfl)) (nt_prs_cons (by decide +kernel) (nt_tl_cons (by decide +kernel) (nt_pq_px nt_x2_75_23669_29 (by decide +kernel)) rfl) (nt_prs_cons (by decide +kernel) rfl rfl))))
noncomputable def nt_B2_75_1 : List Nat := nt_app [104309, 47189, 46349] nt_B2_75_0
theorem nt_b2_75_1 : nt_prs 1 6 (List.cons (24, nt_z5) (nt_sel nt_TT 75)) nt_B2_75_1 = true := nt_prs_app nt_b2_75_0 [104309, 47189, 46349] (by decide +kernel)
noncomputable def nt_B2_75_2 : List Nat := nt_app [151901, 130589, 127709] nt_B2_75_1
theorem nt_b2_75_2 : nt_prs 1 6 (List.cons (24, nt_z5) (nt_sel nt_TT 75)) nt_B2_75_2 = true := nt_prs_app nt_b2_75_1 [151901, 130589, 127709] (by decide +kernel)
noncomputable def nt_B2_75_3 : List Nat := nt_app [195029, 193181, 162821] nt_B2_75_2
theorem nt_b2_75_3 : nt_prs 1 6 (List.cons (24, nt_z5) (nt_sel nt_TT 75)) nt_B2_75_3 = true := nt_prs_app nt_b2_75_2 [195029, 193181, 162821] (by decide +kernel)
noncomputable def nt_B2_75_4 : List Nat := nt_app [247781, 227501, 201581] nt_B2_75_3
theorem nt_b2_75_4 : nt_prs 1 6 (List.cons (24, nt_z5) (nt_sel nt_TT 75)) nt_B2_75_4 = true := nt_prs_app nt_b2_75_3 [247781, 227501, 201581] (by decide +kernel)
noncomputable def nt_B2_75_5 : List Nat := nt_app [286589, 282101, 247829] nt_B2_75_4
theorem nt_b2_75_5 : nt_prs 1 6 (List.cons (24, nt_z5) (nt_sel nt_TT 75)) nt_B2_75_5 = true := nt_prs_app nt_b2_75_4 [286589, 282101, 247829] (by decide +kernel)
noncomputable def nt_B2_75_6 : List Nat := nt_app [344621, 315389, 287141] nt_B2_75_5
theorem nt_b2_75_6 : nt_prs 1 6 (List.cons (24, nt_z5) (nt_sel nt_TT 75)) nt_B2_75_6 = true := nt_prs_app nt_b2_75_5 [344621, 315389, 287141] (by decide +kernel)
noncomputable def nt_B2_75_7 : List Nat := nt_app [374789, 373181, 352349] nt_B2_75_6
theorem nt_b2_75_7 : nt_prs 1 6 (List.cons (24, nt_z5) (nt_sel nt_TT 75)) nt_B2_75_7 = true := nt_prs_app nt_b2_75_6 [374789, 373181, 352349] (by decide +kernel)
noncomputable def nt_B2_75_8 : List Nat := nt_app [422549, 410621, 392669] nt_B2_75_7
theorem nt_b2_75_8 : nt_prs 1 6 (List.cons (24, nt_z5) (nt_sel nt_TT 75)) nt_B2_75_8 = true := nt_prs_app nt_b2_75_7 [422549, 410621, 392669] (by decide +kernel)
noncomputable def nt_B2_75_9 : List Nat := nt_app [433421, 427781, 423341] nt_B2_75_8
theorem nt_b2_75_9 : nt_prs 1 6 (List.cons (24, nt_z5) (nt_sel nt_TT 75)) nt_B2_75_9 = true := nt_prs_app nt_b2_75_8 [433421, 427781, 423341] (by decide +kernel)
noncomputable def nt_B2_75_10 : List Nat := nt_app [459029, 448421, 446189] nt_B2_75_9
theorem nt_b2_75_10 : nt_prs 1 6 (List.cons (24, nt_z5) (nt_sel nt_TT 75)) nt_B2_75_10 = true := nt_prs_app nt_b2_75_9 [459029, 448421, 446189] (by decide +kernel)
noncomputable def nt_B2_75_11 : List Nat := nt_app [678941, 671189, 665981, 654221, 633221, 615941, 610541, 609989, 596261, 581429, 576221, 571229, 551069, 542021, 539501, 504149, 495629, 494621, 477941, 472469] nt_B2_75_10
theorem nt_b2_75_11 : nt_prs 1 6 (List.cons (24, nt_z5) (nt_sel nt_TT 75)) nt_B2_75_11 = true := nt_prs_app nt_b2_75_10 [678941, 671189, 665981, 654221, 633221, 615941, 610541, 609989, 596261, 581429, 576221, 571229, 551069, 542021, 539501, 504149, 495629, 494621, 477941, 472469] (by decide +kernel)
noncomputable def nt_B2_75_12 : List Nat := nt_app [961661, 930101, 912941, 904661, 886421, 883229, 877109, 872621, 872141, 866909, 856181, 852749, 836189, 822389, 803189, 786629, 748589, 740429, 701549, 691181] nt_B2_75_11
theorem nt_b2_75_12 : nt_prs 1 6 (List.cons (24, nt_z5) (nt_sel nt_TT 75)) nt_B2_75_12 = true := nt_prs_app nt_b2_75_11 [961661, 930101, 912941, 904661, 886421, 883229, 877109, 872621, 872141, 866909, 856181, 852749, 836189, 822389, 803189, 786629, 748589, 740429, 701549, 691181] (by decide +kernel)
noncomputable def nt_B2_75_13 : List Nat := nt_app [1033061, 1023941, 1020821, 1011221, 992021, 988829, 980261, 976109] nt_B2_75_12
theorem nt_b2_75_13 : nt_prs 1 6 (List.cons (24, nt_z5) (nt_sel nt_TT 75)) nt_B2_75_13 = true := nt_prs_app nt_b2_75_12 [1033061, 1023941, 1020821, 1011221, 992021, 988829, 980261, 976109] (by decide +kernel)
theorem nt_c3_2_75 : nt_rv nt_L2_75 List.nil (fun R' => nt_ph 1 24 5 6 130 43691 (List.cons (24, nt_z5) (nt_sel nt_TT 75)) (nt_sel nt_TV2 75) nt_EX2 R') = true := by decide +kernel
theorem nt_rr_2_75 : nt_R2 75 = true := nt_run_of nt_c1_2_75 (show nt_prs 1 6 (List.cons (24, nt_z5) (nt_sel nt_TT 75)) nt_L2_75 = true from nt_b2_75_13) nt_c3_2_75
