/-! a class cut into pieces (written by wip/whole/gen26cut.py) -/
def nt_L3_54 : List Nat := [998537, 981017, 961097, 924617, 919913, 889337, 880553, 788393, 784457, 779993, 775097, 766313, 726377, 724553, 715817, 670217, 632153, 629897, 583577, 573497, 556697, 549257, 546617, 526073, 520073, 504953, 460793, 455513, 450377, 437273, 430697, 368153, 349913, 284057, 249593, 191657, 161753, 102953, 59753, 58073, 2633, 137]
theorem nt_c1_3_54 : nt_fc (nt_pats (nt_sel nt_TV3 54) 0 21845) (fun N => nt_cc 48 41 N 6 0 List.nil (fun R => nt_leq R nt_L3_54)) = true := by decide +kernel
theorem nt_x3_54_2633_137_0 : nt_all (fun b => nt_pxB (List.cons (24, nt_z17) (nt_sel nt_TT 54)) 360721 25321 44744 71432115 b) 16 = true := by decide +kernel
theorem nt_y3_54_2633_137_1 : nt_all (fun j => nt_pxB (List.cons (24, nt_z17) (nt_sel nt_TT 54)) 360721 25321 44744 71432115 (Nat.add 16 j)) 16 = true := by decide +kernel
theorem nt_x3_54_2633_137_1 : nt_all (fun b => nt_pxB (List.cons (24, nt_z17) (nt_sel nt_TT 54)) 360721 25321 44744 71432115 b) 32 = true := nt_all_app nt_x3_54_2633_137_0 16 nt_y3_54_2633_137_1
theorem nt_y3_54_2633_137_2 : nt_all (fun j => nt_pxB (List.cons (24, nt_z17) (nt_sel nt_TT 54)) 360721 25321 44744 71432115 (Nat.add 32 j)) 16 = true := by decide +kernel
theorem nt_x3_54_2633_137_2 : nt_all (fun b => nt_pxB (List.cons (24, nt_z17) (nt_sel nt_TT 54)) 360721 25321 44744 71432115 b) 48 = true := nt_all_app nt_x3_54_2633_137_1 16 nt_y3_54_2633_137_2
theorem nt_y3_54_2633_137_3 : nt_all (fun j => nt_pxB (List.cons (24, nt_z17) (nt_sel nt_TT 54)) 360721 25321 44744 71432115 (Nat.add 48 j)) 16 = true := by decide +kernel
theorem nt_x3_54_2633_137_3 : nt_all (fun b => nt_pxB (List.cons (24, nt_z17) (nt_sel nt_TT 54)) 360721 25321 44744 71432115 b) 64 = true := nt_all_app nt_x3_54_2633_137_2 16 nt_y3_54_2633_137_3
theorem nt_y3_54_2633_137_4 : nt_all (fun j => nt_pxB (List.cons (24, nt_z17) (nt_sel nt_TT 54)) 360721 25321 44744 71432115 (Nat.add 64 j)) 16 = true := by decide +kernel
theorem nt_x3_54_2633_137_4 : nt_all (fun b => nt_pxB (List.cons (24, nt_z17) (nt_sel nt_TT 54)) 360721 25321 44744 71432115 b) 80 = true := nt_all_app nt_x3_54_2633_137_3 16 nt_y3_54_2633_137_4
theorem nt_y3_54_2633_137_5 : nt_all (fun j => nt_pxB (List.cons (24, nt_z17) (nt_sel nt_TT 54)) 360721 25321 44744 71432115 (Nat.add 80 j)) 16 = true := by decide +kernel
theorem nt_x3_54_2633_137_5 : nt_all (fun b => nt_pxB (List.cons (24, nt_z17) (nt_sel nt_TT 54)) 360721 25321 44744 71432115 b) 96 = true := nt_all_app nt_x3_54_2633_137_4 16 nt_y3_54_2633_137_5
theorem nt_y3_54_2633_137_6 : nt_all (fun j => nt_pxB (List.cons (24, nt_z17) (nt_sel nt_TT 54)) 360721 25321 44744 71432115 (Nat.add 96 j)) 16 = true := by decide +kernel
theorem nt_x3_54_2633_137_6 : nt_all (fun b => nt_pxB (List.cons (24, nt_z17) (nt_sel nt_TT 54)) 360721 25321 44744 71432115 b) 112 = true := nt_all_app nt_x3_54_2633_137_5 16 nt_y3_54_2633_137_6
theorem nt_y3_54_2633_137_7 : nt_all (fun j => nt_pxB (List.cons (24, nt_z17) (nt_sel nt_TT 54)) 360721 25321 44744 71432115 (Nat.add 112 j)) 16 = true := by decide +kernel
theorem nt_x3_54_2633_137_7 : nt_all (fun b => nt_pxB (List.cons (24, nt_z17) (nt_sel nt_TT 54)) 360721 25321 44744 71432115 b) 128 = true := nt_all_app nt_x3_54_2633_137_6 16 nt_y3_54_2633_137_7
theorem nt_y3_54_2633_137_8 : nt_all (fun j => nt_pxB (List.cons (24, nt_z17) (nt_sel nt_TT 54)) 360721 25321 44744 71432115 (Nat.add 128 j)) 16 = true := by decide +kernel
theorem nt_x3_54_2633_137_8 : nt_all (fun b => nt_pxB (List.cons (24, nt_z17) (nt_sel nt_TT 54)) 360721 25321 44744 71432115 b) 144 = true := nt_all_app nt_x3_54_2633_137_7 16 nt_y3_54_2633_137_8
theorem nt_y3_54_2633_137_9 : nt_all (fun j => nt_pxB (List.cons (24, nt_z17) (nt_sel nt_TT 54)) 360721 25321 44744 71432115 (Nat.add 144 j)) 16 = true := by decide +kernel
theorem nt_x3_54_2633_137_9 : nt_all (fun b => nt_pxB (List.cons (24, nt_z17) (nt_sel nt_TT 54)) 360721 25321 44744 71432115 b) 160 = true := nt_all_app nt_x3_54_2633_137_8 16 nt_y3_54_2633_137_9
theorem nt_y3_54_2633_137_10 : nt_all (fun j => nt_pxB (List.cons (24, nt_z17) (nt_sel nt_TT 54)) 360721 25321 44744 71432115 (Nat.add 160 j)) 16 = true := by decide +kernel
theorem nt_x3_54_2633_137_10 : nt_all (fun b => nt_pxB (List.cons (24, nt_z17) (nt_sel nt_TT 54)) 360721 25321 44744 71432115 b) 176 = true := nt_all_app nt_x3_54_2633_137_9 16 nt_y3_54_2633_137_10
theorem nt_y3_54_2633_137_11 : nt_all (fun j => nt_pxB (List.cons (24, nt_z17) (nt_sel nt_TT 54)) 360721 25321 44744 71432115 (Nat.add 176 j)) 16 = true := by decide +kernel
theorem nt_x3_54_2633_137_11 : nt_all (fun b => nt_pxB (List.cons (24, nt_z17) (nt_sel nt_TT 54)) 360721 25321 44744 71432115 b) 192 = true := nt_all_app nt_x3_54_2633_137_10 16 nt_y3_54_2633_137_11
theorem nt_y3_54_2633_137_12 : nt_all (fun j => nt_pxB (List.cons (24, nt_z17) (nt_sel nt_TT 54)) 360721 25321 44744 71432115 (Nat.add 192 j)) 16 = true := by decide +kernel
theorem nt_x3_54_2633_137_12 : nt_all (fun b => nt_pxB (List.cons (24, nt_z17) (nt_sel nt_TT 54)) 360721 25321 44744 71432115 b) 208 = true := nt_all_app nt_x3_54_2633_137_11 16 nt_y3_54_2633_137_12
theorem nt_y3_54_2633_137_13 : nt_all (fun j => nt_pxB (List.cons (24, nt_z17) (nt_sel nt_TT 54)) 360721 25321 44744 71432115 (Nat.add 208 j)) 16 = true := by decide +kernel
theorem nt_x3_54_2633_137_13 : nt_all (fun b => nt_pxB (List.cons (24, nt_z17) (nt_sel nt_TT 54)) 360721 25321 44744 71432115 b) 224 = true := nt_all_app nt_x3_54_2633_137_12 16 nt_y3_54_2633_137_13
theorem nt_y3_54_2633_137_14 : nt_all (fun j => nt_pxB (List.cons (24, nt_z17) (nt_sel nt_TT 54)) 360721 25321 44744 71432115 (Nat.add 224 j)) 16 = true := by decide +kernel
theorem nt_x3_54_2633_137_14 : nt_all (fun b => nt_pxB (List.cons (24, nt_z17) (nt_sel nt_TT 54)) 360721 25321 44744 71432115 b) 240 = true := nt_all_app nt_x3_54_2633_137_13 16 nt_y3_54_2633_137_14
theorem nt_y3_54_2633_137_15 : nt_all (fun j => nt_pxB (List.cons (24, nt_z17) (nt_sel nt_TT 54)) 360721 25321 44744 71432115 (Nat.add 240 j)) 16 = true := by decide +kernel
theorem nt_x3_54_2633_137_15 : nt_all (fun b => nt_pxB (List.cons (24, nt_z17) (nt_sel nt_TT 54)) 360721 25321 44744 71432115 b) 256 = true := nt_all_app nt_x3_54_2633_137_14 16 nt_y3_54_2633_137_15
theorem nt_y3_54_2633_137_16 : nt_all (fun j => nt_pxB (List.cons (24, nt_z17) (nt_sel nt_TT 54)) 360721 25321 44744 71432115 (Nat.add 256 j)) 16 = true := by decide +kernel
theorem nt_x3_54_2633_137_16 : nt_all (fun b => nt_pxB (List.cons (24, nt_z17) (nt_sel nt_TT 54)) 360721 25321 44744 71432115 b) 272 = true := nt_all_app nt_x3_54_2633_137_15 16 nt_y3_54_2633_137_16
theorem nt_y3_54_2633_137_17 : nt_all (fun j => nt_pxB (List.cons (24, nt_z17) (nt_sel nt_TT 54)) 360721 25321 44744 71432115 (Nat.add 272 j)) 16 = true := by decide +kernel
theorem nt_x3_54_2633_137_17 : nt_all (fun b => nt_pxB (List.cons (24, nt_z17) (nt_sel nt_TT 54)) 360721 25321 44744 71432115 b) 288 = true := nt_all_app nt_x3_54_2633_137_16 16 nt_y3_54_2633_137_17
theorem nt_y3_54_2633_137_18 : nt_all (fun j => nt_pxB (List.cons (24, nt_z17) (nt_sel nt_TT 54)) 360721 25321 44744 71432115 (Nat.add 288 j)) 16 = true := by decide +kernel
theorem nt_x3_54_2633_137_18 : nt_all (fun b => nt_pxB (List.cons (24, nt_z17) (nt_sel nt_TT 54)) 360721 25321 44744 71432115 b) 304 = true := nt_all_app nt_x3_54_2633_137_17 16 nt_y3_54_2633_137_18
theorem nt_y3_54_2633_137_19 : nt_all (fun j => nt_pxB (List.cons (24, nt_z17) (nt_sel nt_TT 54)) 360721 25321 44744 71432115 (Nat.add 304 j)) 16 = true := by decide +kernel
theorem nt_x3_54_2633_137_19 : nt_all (fun b => nt_pxB (List.cons (24, nt_z17) (nt_sel nt_TT 54)) 360721 25321 44744 71432115 b) 320 = true := nt_all_app nt_x3_54_2633_137_18 16 nt_y3_54_2633_137_19
theorem nt_y3_54_2633_137_20 : nt_all (fun j => nt_pxB (List.cons (24, nt_z17) (nt_sel nt_TT 54)) 360721 25321 44744 71432115 (Nat.add 320 j)) 16 = true := by decide +kernel
theorem nt_x3_54_2633_137_20 : nt_all (fun b => nt_pxB (List.cons (24, nt_z17) (nt_sel nt_TT 54)) 360721 25321 44744 71432115 b) 336 = true := nt_all_app nt_x3_54_2633_137_19 16 nt_y3_54_2633_137_20
theorem nt_y3_54_2633_137_21 : nt_all (fun j => nt_pxB (List.cons (24, nt_z17) (nt_sel nt_TT 54)) 360721 25321 44744 71432115 (Nat.add 336 j)) 16 = true := by decide +kernel
theorem nt_x3_54_2633_137_21 : nt_all (fun b => nt_pxB (List.cons (24, nt_z17) (nt_sel nt_TT 54)) 360721 25321 44744 71432115 b) 352 = true := nt_all_app nt_x3_54_2633_137_20 16 nt_y3_54_2633_137_21
theorem nt_y3_54_2633_137_22 : nt_all (fun j => nt_pxB (List.cons (24, nt_z17) (nt_sel nt_TT 54)) 360721 25321 44744 71432115 (Nat.add 352 j)) 16 = true := by decide +kernel
theorem nt_x3_54_2633_137_22 : nt_all (fun b => nt_pxB (List.cons (24, nt_z17) (nt_sel nt_TT 54)) 360721 25321 44744 71432115 b) 368 = true := nt_all_app nt_x3_54_2633_137_21 16 nt_y3_54_2633_137_22
theorem nt_y3_54_2633_137_23 : nt_all (fun j => nt_pxB (List.cons (24, nt_z17) (nt_sel nt_TT 54)) 360721 25321 44744 71432115 (Nat.add 368 j)) 16 = true := by decide +kernel
theorem nt_x3_54_2633_137_23 : nt_all (fun b => nt_pxB (List.cons (24, nt_z17) (nt_sel nt_TT 54)) 360721 25321 44744 71432115 b) 384 = true := nt_all_app nt_x3_54_2633_137_22 16 nt_y3_54_2633_137_23
theorem nt_y3_54_2633_137_24 : nt_all (fun j => nt_pxB (List.cons (24, nt_z17) (nt_sel nt_TT 54)) 360721 25321 44744 71432115 (Nat.add 384 j)) 16 = true := by decide +kernel
theorem nt_x3_54_2633_137_24 : nt_all (fun b => nt_pxB (List.cons (24, nt_z17) (nt_sel nt_TT 54)) 360721 25321 44744 71432115 b) 400 = true := nt_all_app nt_x3_54_2633_137_23 16 nt_y3_54_2633_137_24
theorem nt_y3_54_2633_137_25 : nt_all (fun j => nt_pxB (List.cons (24, nt_z17) (nt_sel nt_TT 54)) 360721 25321 44744 71432115 (Nat.add 400 j)) 16 = true := by decide +kernel
theorem nt_x3_54_2633_137_25 : nt_all (fun b => nt_pxB (List.cons (24, nt_z17) (nt_sel nt_TT 54)) 360721 25321 44744 71432115 b) 416 = true := nt_all_app nt_x3_54_2633_137_24 16 nt_y3_54_2633_137_25
theorem nt_y3_54_2633_137_26 : nt_all (fun j => nt_pxB (List.cons (24, nt_z17) (nt_sel nt_TT 54)) 360721 25321 44744 71432115 (Nat.add 416 j)) 16 = true := by decide +kernel
theorem nt_x3_54_2633_137_26 : nt_all (fun b => nt_pxB (List.cons (24, nt_z17) (nt_sel nt_TT 54)) 360721 25321 44744 71432115 b) 432 = true := nt_all_app nt_x3_54_2633_137_25 16 nt_y3_54_2633_137_26
theorem nt_y3_54_2633_137_27 : nt_all (fun j => nt_pxB (List.cons (24, nt_z17) (nt_sel nt_TT 54)) 360721 25321 44744 71432115 (Nat.add 432 j)) 16 = true := by decide +kernel
theorem nt_x3_54_2633_137_27 : nt_all (fun b => nt_pxB (List.cons (24, nt_z17) (nt_sel nt_TT 54)) 360721 25321 44744 71432115 b) 448 = true := nt_all_app nt_x3_54_2633_137_26 16 nt_y3_54_2633_137_27
theorem nt_y3_54_2633_137_28 : nt_all (fun j => nt_pxB (List.cons (24, nt_z17) (nt_sel nt_TT 54)) 360721 25321 44744 71432115 (Nat.add 448 j)) 16 = true := by decide +kernel
theorem nt_x3_54_2633_137_28 : nt_all (fun b => nt_pxB (List.cons (24, nt_z17) (nt_sel nt_TT 54)) 360721 25321 44744 71432115 b) 464 = true := nt_all_app nt_x3_54_2633_137_27 16 nt_y3_54_2633_137_28
theorem nt_y3_54_2633_137_29 : nt_all (fun j => nt_pxB (List.cons (24, nt_z17) (nt_sel nt_TT 54)) 360721 25321 44744 71432115 (Nat.add 464 j)) 16 = true := by decide +kernel
theorem nt_x3_54_2633_137_29 : nt_all (fun b => nt_pxB (List.cons (24, nt_z17) (nt_sel nt_TT 54)) 360721 25321 44744 71432115 b) 480 = true := nt_all_app nt_x3_54_2633_137_28 16 nt_y3_54_2633_137_29
theorem nt_y3_54_2633_137_30 : nt_all (fun j => nt_pxB (List.cons (24, nt_z17) (nt_sel nt_TT 54)) 360721 25321 44744 71432115 (Nat.add 480 j)) 16 = true := by decide +kernel
theorem nt_x3_54_2633_137_30 : nt_all (fun b => nt_pxB (List.cons (24, nt_z17) (nt_sel nt_TT 54)) 360721 25321 44744 71432115 b) 496 = true := nt_all_app nt_x3_54_2633_137_29 16 nt_y3_54_2633_137_30
theorem nt_y3_54_2633_137_31 : nt_all (fun j => nt_pxB (List.cons (24, nt_z17) (nt_sel nt_TT 54)) 360721 25321 44744 71432115 (Nat.add 496 j)) 16 = true := by decide +kernel
theorem nt_x3_54_2633_137_31 : nt_all (fun b => nt_pxB (List.cons (24, nt_z17) (nt_sel nt_TT 54)) 360721 25321 44744 71432115 b) 512 = true := nt_all_app nt_x3_54_2633_137_30 16 nt_y3_54_2633_137_31
theorem nt_y3_54_2633_137_32 : nt_all (fun j => nt_pxB (List.cons (24, nt_z17) (nt_sel nt_TT 54)) 360721 25321 44744 71432115 (Nat.add 512 j)) 16 = true := by decide +kernel
theorem nt_x3_54_2633_137_32 : nt_all (fun b => nt_pxB (List.cons (24, nt_z17) (nt_sel nt_TT 54)) 360721 25321 44744 71432115 b) 528 = true := nt_all_app nt_x3_54_2633_137_31 16 nt_y3_54_2633_137_32
theorem nt_y3_54_2633_137_33 : nt_all (fun j => nt_pxB (List.cons (24, nt_z17) (nt_sel nt_TT 54)) 360721 25321 44744 71432115 (Nat.add 528 j)) 16 = true := by decide +kernel
theorem nt_x3_54_2633_137_33 : nt_all (fun b => nt_pxB (List.cons (24, nt_z17) (nt_sel nt_TT 54)) 360721 25321 44744 71432115 b) 544 = true := nt_all_app nt_x3_54_2633_137_32 16 nt_y3_54_2633_137_33
theorem nt_y3_54_2633_137_34 : nt_all (fun j => nt_pxB (List.cons (24, nt_z17) (nt_sel nt_TT 54)) 360721 25321 44744 71432115 (Nat.add 544 j)) 16 = true := by decide +kernel
theorem nt_x3_54_2633_137_34 : nt_all (fun b => nt_pxB (List.cons (24, nt_z17) (nt_sel nt_TT 54)) 360721 25321 44744 71432115 b) 560 = true := nt_all_app nt_x3_54_2633_137_33 16 nt_y3_54_2633_137_34
theorem nt_y3_54_2633_137_35 : nt_all (fun j => nt_pxB (List.cons (24, nt_z17) (nt_sel nt_TT 54)) 360721 25321 44744 71432115 (Nat.add 560 j)) 16 = true := by decide +kernel
theorem nt_x3_54_2633_137_35 : nt_all (fun b => nt_pxB (List.cons (24, nt_z17) (nt_sel nt_TT 54)) 360721 25321 44744 71432115 b) 576 = true := nt_all_app nt_x3_54_2633_137_34 16 nt_y3_54_2633_137_35
theorem nt_y3_54_2633_137_36 : nt_all (fun j => nt_pxB (List.cons (24, nt_z17) (nt_sel nt_TT 54)) 360721 25321 44744 71432115 (Nat.add 576 j)) 16 = true := by decide +kernel
theorem nt_x3_54_2633_137_36 : nt_all (fun b => nt_pxB (List.cons (24, nt_z17) (nt_sel nt_TT 54)) 360721 25321 44744 71432115 b) 592 = true := nt_all_app nt_x3_54_2633_137_35 16 nt_y3_54_2633_137_36
theorem nt_y3_54_2633_137_37 : nt_all (fun j => nt_pxB (List.cons (24, nt_z17) (nt_sel nt_TT 54)) 360721 25321 44744 71432115 (Nat.add 592 j)) 16 = true := by decide +kernel
theorem nt_x3_54_2633_137_37 : nt_all (fun b => nt_pxB (List.cons (24, nt_z17) (nt_sel nt_TT 54)) 360721 25321 44744 71432115 b) 608 = true := nt_all_app nt_x3_54_2633_137_36 16 nt_y3_54_2633_137_37
theorem nt_y3_54_2633_137_38 : nt_all (fun j => nt_pxB (List.cons (24, nt_z17) (nt_sel nt_TT 54)) 360721 25321 44744 71432115 (Nat.add 608 j)) 16 = true := by decide +kernel
theorem nt_x3_54_2633_137_38 : nt_all (fun b => nt_pxB (List.cons (24, nt_z17) (nt_sel nt_TT 54)) 360721 25321 44744 71432115 b) 624 = true := nt_all_app nt_x3_54_2633_137_37 16 nt_y3_54_2633_137_38
theorem nt_y3_54_2633_137_39 : nt_all (fun j => nt_pxB (List.cons (24, nt_z17) (nt_sel nt_TT 54)) 360721 25321 44744 71432115 (Nat.add 624 j)) 16 = true := by decide +kernel
theorem nt_x3_54_2633_137_39 : nt_all (fun b => nt_pxB (List.cons (24, nt_z17) (nt_sel nt_TT 54)) 360721 25321 44744 71432115 b) 640 = true := nt_all_app nt_x3_54_2633_137_38 16 nt_y3_54_2633_137_39
theorem nt_y3_54_2633_137_40 : nt_all (fun j => nt_pxB (List.cons (24, nt_z17) (nt_sel nt_TT 54)) 360721 25321 44744 71432115 (Nat.add 640 j)) 16 = true := by decide +kernel
theorem nt_x3_54_2633_137_40 : nt_all (fun b => nt_pxB (List.cons (24, nt_z17) (nt_sel nt_TT 54)) 360721 25321 44744 71432115 b) 656 = true := nt_all_app nt_x3_54_2633_137_39 16 nt_y3_54_2633_137_40
theorem nt_y3_54_2633_137_41 : nt_all (fun j => nt_pxB (List.cons (24, nt_z17) (nt_sel nt_TT 54)) 360721 25321 44744 71432115 (Nat.add 656 j)) 16 = true := by decide +kernel
theorem nt_x3_54_2633_137_41 : nt_all (fun b => nt_pxB (List.cons (24, nt_z17) (nt_sel nt_TT 54)) 360721 25321 44744 71432115 b) 672 = true := nt_all_app nt_x3_54_2633_137_40 16 nt_y3_54_2633_137_41
theorem nt_y3_54_2633_137_42 : nt_all (fun j => nt_pxB (List.cons (24, nt_z17) (nt_sel nt_TT 54)) 360721 25321 44744 71432115 (Nat.add 672 j)) 16 = true := by decide +kernel
theorem nt_x3_54_2633_137_42 : nt_all (fun b => nt_pxB (List.cons (24, nt_z17) (nt_sel nt_TT 54)) 360721 25321 44744 71432115 b) 688 = true := nt_all_app nt_x3_54_2633_137_41 16 nt_y3_54_2633_137_42
theorem nt_y3_54_2633_137_43 : nt_all (fun j => nt_pxB (List.cons (24, nt_z17) (nt_sel nt_TT 54)) 360721 25321 44744 71432115 (Nat.add 688 j)) 16 = true := by decide +kernel
theorem nt_x3_54_2633_137_43 : nt_all (fun b => nt_pxB (List.cons (24, nt_z17) (nt_sel nt_TT 54)) 360721 25321 44744 71432115 b) 704 = true := nt_all_app nt_x3_54_2633_137_42 16 nt_y3_54_2633_137_43
theorem nt_y3_54_2633_137_44 : nt_all (fun j => nt_pxB (List.cons (24, nt_z17) (nt_sel nt_TT 54)) 360721 25321 44744 71432115 (Nat.add 704 j)) 16 = true := by decide +kernel
theorem nt_x3_54_2633_137_44 : nt_all (fun b => nt_pxB (List.cons (24, nt_z17) (nt_sel nt_TT 54)) 360721 25321 44744 71432115 b) 720 = true := nt_all_app nt_x3_54_2633_137_43 16 nt_y3_54_2633_137_44
theorem nt_y3_54_2633_137_45 : nt_all (fun j => nt_pxB (List.cons (24, nt_z17) (nt_sel nt_TT 54)) 360721 25321 44744 71432115 (Nat.add 720 j)) 16 = true := by decide +kernel
theorem nt_x3_54_2633_137_45 : nt_all (fun b => nt_pxB (List.cons (24, nt_z17) (nt_sel nt_TT 54)) 360721 25321 44744 71432115 b) 736 = true := nt_all_app nt_x3_54_2633_137_44 16 nt_y3_54_2633_137_45
theorem nt_y3_54_2633_137_46 : nt_all (fun j => nt_pxB (List.cons (24, nt_z17) (nt_sel nt_TT 54)) 360721 25321 44744 71432115 (Nat.add 736 j)) 16 = true := by decide +kernel
theorem nt_x3_54_2633_137_46 : nt_all (fun b => nt_pxB (List.cons (24, nt_z17) (nt_sel nt_TT 54)) 360721 25321 44744 71432115 b) 752 = true := nt_all_app nt_x3_54_2633_137_45 16 nt_y3_54_2633_137_46
theorem nt_y3_54_2633_137_47 : nt_all (fun j => nt_pxB (List.cons (24, nt_z17) (nt_sel nt_TT 54)) 360721 25321 44744 71432115 (Nat.add 752 j)) 16 = true := by decide +kernel
theorem nt_x3_54_2633_137_47 : nt_all (fun b => nt_pxB (List.cons (24, nt_z17) (nt_sel nt_TT 54)) 360721 25321 44744 71432115 b) 768 = true := nt_all_app nt_x3_54_2633_137_46 16 nt_y3_54_2633_137_47
theorem nt_y3_54_2633_137_48 : nt_all (fun j => nt_pxB (List.cons (24, nt_z17) (nt_sel nt_TT 54)) 360721 25321 44744 71432115 (Nat.add 768 j)) 16 = true := by decide +kernel
theorem nt_x3_54_2633_137_48 : nt_all (fun b => nt_pxB (List.cons (24, nt_z17) (nt_sel nt_TT 54)) 360721 25321 44744 71432115 b) 784 = true := nt_all_app nt_x3_54_2633_137_47 16 nt_y3_54_2633_137_48
theorem nt_y3_54_2633_137_49 : nt_all (fun j => nt_pxB (List.cons (24, nt_z17) (nt_sel nt_TT 54)) 360721 25321 44744 71432115 (Nat.add 784 j)) 16 = true := by decide +kernel
theorem nt_x3_54_2633_137_49 : nt_all (fun b => nt_pxB (List.cons (24, nt_z17) (nt_sel nt_TT 54)) 360721 25321 44744 71432115 b) 800 = true := nt_all_app nt_x3_54_2633_137_48 16 nt_y3_54_2633_137_49
theorem nt_y3_54_2633_137_50 : nt_all (fun j => nt_pxB (List.cons (24, nt_z17) (nt_sel nt_TT 54)) 360721 25321 44744 71432115 (Nat.add 800 j)) 16 = true := by decide +kernel
theorem nt_x3_54_2633_137_50 : nt_all (fun b => nt_pxB (List.cons (24, nt_z17) (nt_sel nt_TT 54)) 360721 25321 44744 71432115 b) 816 = true := nt_all_app nt_x3_54_2633_137_49 16 nt_y3_54_2633_137_50
theorem nt_y3_54_2633_137_51 : nt_all (fun j => nt_pxB (List.cons (24, nt_z17) (nt_sel nt_TT 54)) 360721 25321 44744 71432115 (Nat.add 816 j)) 16 = true := by decide +kernel
theorem nt_x3_54_2633_137_51 : nt_all (fun b => nt_pxB (List.cons (24, nt_z17) (nt_sel nt_TT 54)) 360721 25321 44744 71432115 b) 832 = true := nt_all_app nt_x3_54_2633_137_50 16 nt_y3_54_2633_137_51
theorem nt_y3_54_2633_137_52 : nt_all (fun j => nt_pxB (List.cons (24, nt_z17) (nt_sel nt_TT 54)) 360721 25321 44744 71432115 (Nat.add 832 j)) 16 = true := by decide +kernel
theorem nt_x3_54_2633_137_52 : nt_all (fun b => nt_pxB (List.cons (24, nt_z17) (nt_sel nt_TT 54)) 360721 25321 44744 71432115 b) 848 = true := nt_all_app nt_x3_54_2633_137_51 16 nt_y3_54_2633_137_52
theorem nt_y3_54_2633_137_53 : nt_all (fun j => nt_pxB (List.cons (24, nt_z17) (nt_sel nt_TT 54)) 360721 25321 44744 71432115 (Nat.add 848 j)) 16 = true := by decide +kernel
theorem nt_x3_54_2633_137_53 : nt_all (fun b => nt_pxB (List.cons (24, nt_z17) (nt_sel nt_TT 54)) 360721 25321 44744 71432115 b) 864 = true := nt_all_app nt_x3_54_2633_137_52 16 nt_y3_54_2633_137_53
theorem nt_y3_54_2633_137_54 : nt_all (fun j => nt_pxB (List.cons (24, nt_z17) (nt_sel nt_TT 54)) 360721 25321 44744 71432115 (Nat.add 864 j)) 16 = true := by decide +kernel
theorem nt_x3_54_2633_137_54 : nt_all (fun b => nt_pxB (List.cons (24, nt_z17) (nt_sel nt_TT 54)) 360721 25321 44744 71432115 b) 880 = true := nt_all_app nt_x3_54_2633_137_53 16 nt_y3_54_2633_137_54
theorem nt_y3_54_2633_137_55 : nt_all (fun j => nt_pxB (List.cons (24, nt_z17) (nt_sel nt_TT 54)) 360721 25321 44744 71432115 (Nat.add 880 j)) 16 = true := by decide +kernel
theorem nt_x3_54_2633_137_55 : nt_all (fun b => nt_pxB (List.cons (24, nt_z17) (nt_sel nt_TT 54)) 360721 25321 44744 71432115 b) 896 = true := nt_all_app nt_x3_54_2633_137_54 16 nt_y3_54_2633_137_55
theorem nt_y3_54_2633_137_56 : nt_all (fun j => nt_pxB (List.cons (24, nt_z17) (nt_sel nt_TT 54)) 360721 25321 44744 71432115 (Nat.add 896 j)) 16 = true := by decide +kernel
theorem nt_x3_54_2633_137_56 : nt_all (fun b => nt_pxB (List.cons (24, nt_z17) (nt_sel nt_TT 54)) 360721 25321 44744 71432115 b) 912 = true := nt_all_app nt_x3_54_2633_137_55 16 nt_y3_54_2633_137_56
theorem nt_y3_54_2633_137_57 : nt_all (fun j => nt_pxB (List.cons (24, nt_z17) (nt_sel nt_TT 54)) 360721 25321 44744 71432115 (Nat.add 912 j)) 16 = true := by decide +kernel
theorem nt_x3_54_2633_137_57 : nt_all (fun b => nt_pxB (List.cons (24, nt_z17) (nt_sel nt_TT 54)) 360721 25321 44744 71432115 b) 928 = true := nt_all_app nt_x3_54_2633_137_56 16 nt_y3_54_2633_137_57
theorem nt_y3_54_2633_137_58 : nt_all (fun j => nt_pxB (List.cons (24, nt_z17) (nt_sel nt_TT 54)) 360721 25321 44744 71432115 (Nat.add 928 j)) 16 = true := by decide +kernel
theorem nt_x3_54_2633_137_58 : nt_all (fun b => nt_pxB (List.cons (24, nt_z17) (nt_sel nt_TT 54)) 360721 25321 44744 71432115 b) 944 = true := nt_all_app nt_x3_54_2633_137_57 16 nt_y3_54_2633_137_58
theorem nt_y3_54_2633_137_59 : nt_all (fun j => nt_pxB (List.cons (24, nt_z17) (nt_sel nt_TT 54)) 360721 25321 44744 71432115 (Nat.add 944 j)) 16 = true := by decide +kernel
theorem nt_x3_54_2633_137_59 : nt_all (fun b => nt_pxB (List.cons (24, nt_z17) (nt_sel nt_TT 54)) 360721 25321 44744 71432115 b) 960 = true := nt_all_app nt_x3_54_2633_137_58 16 nt_y3_54_2633_137_59
theorem nt_y3_54_2633_137_60 : nt_all (fun j => nt_pxB (List.cons (24, nt_z17) (nt_sel nt_TT 54)) 360721 25321 44744 71432115 (Nat.add 960 j)) 16 = true := by decide +kernel
theorem nt_x3_54_2633_137_60 : nt_all (fun b => nt_pxB (List.cons (24, nt_z17) (nt_sel nt_TT 54)) 360721 25321 44744 71432115 b) 976 = true := nt_all_app nt_x3_54_2633_137_59 16 nt_y3_54_2633_137_60
theorem nt_y3_54_2633_137_61 : nt_all (fun j => nt_pxB (List.cons (24, nt_z17) (nt_sel nt_TT 54)) 360721 25321 44744 71432115 (Nat.add 976 j)) 16 = true := by decide +kernel
theorem nt_x3_54_2633_137_61 : nt_all (fun b => nt_pxB (List.cons (24, nt_z17) (nt_sel nt_TT 54)) 360721 25321 44744 71432115 b) 992 = true := nt_all_app nt_x3_54_2633_137_60 16 nt_y3_54_2633_137_61
theorem nt_y3_54_2633_137_62 : nt_all (fun j => nt_pxB (List.cons (24, nt_z17) (nt_sel nt_TT 54)) 360721 25321 44744 71432115 (Nat.add 992 j)) 16 = true := by decide +kernel
theorem nt_x3_54_2633_137_62 : nt_all (fun b => nt_pxB (List.cons (24, nt_z17) (nt_sel nt_TT 54)) 360721 25321 44744 71432115 b) 1008 = true := nt_all_app nt_x3_54_2633_137_61 16 nt_y3_54_2633_137_62
theorem nt_y3_54_2633_137_63 : nt_all (fun j => nt_pxB (List.cons (24, nt_z17) (nt_sel nt_TT 54)) 360721 25321 44744 71432115 (Nat.add 1008 j)) 16 = true := by decide +kernel
theorem nt_x3_54_2633_137_63 : nt_all (fun b => nt_pxB (List.cons (24, nt_z17) (nt_sel nt_TT 54)) 360721 25321 44744 71432115 b) 1024 = true := nt_all_app nt_x3_54_2633_137_62 16 nt_y3_54_2633_137_63
theorem nt_y3_54_2633_137_64 : nt_all (fun j => nt_pxB (List.cons (24, nt_z17) (nt_sel nt_TT 54)) 360721 25321 44744 71432115 (Nat.add 1024 j)) 16 = true := by decide +kernel
theorem nt_x3_54_2633_137_64 : nt_all (fun b => nt_pxB (List.cons (24, nt_z17) (nt_sel nt_TT 54)) 360721 25321 44744 71432115 b) 1040 = true := nt_all_app nt_x3_54_2633_137_63 16 nt_y3_54_2633_137_64
theorem nt_y3_54_2633_137_65 : nt_all (fun j => nt_pxB (List.cons (24, nt_z17) (nt_sel nt_TT 54)) 360721 25321 44744 71432115 (Nat.add 1040 j)) 16 = true := by decide +kernel
theorem nt_x3_54_2633_137_65 : nt_all (fun b => nt_pxB (List.cons (24, nt_z17) (nt_sel nt_TT 54)) 360721 25321 44744 71432115 b) 1056 = true := nt_all_app nt_x3_54_2633_137_64 16 nt_y3_54_2633_137_65
theorem nt_y3_54_2633_137_66 : nt_all (fun j => nt_pxB (List.cons (24, nt_z17) (nt_sel nt_TT 54)) 360721 25321 44744 71432115 (Nat.add 1056 j)) 16 = true := by decide +kernel
theorem nt_x3_54_2633_137_66 : nt_all (fun b => nt_pxB (List.cons (24, nt_z17) (nt_sel nt_TT 54)) 360721 25321 44744 71432115 b) 1072 = true := nt_all_app nt_x3_54_2633_137_65 16 nt_y3_54_2633_137_66
theorem nt_y3_54_2633_137_67 : nt_all (fun j => nt_pxB (List.cons (24, nt_z17) (nt_sel nt_TT 54)) 360721 25321 44744 71432115 (Nat.add 1072 j)) 16 = true := by decide +kernel
theorem nt_x3_54_2633_137_67 : nt_all (fun b => nt_pxB (List.cons (24, nt_z17) (nt_sel nt_TT 54)) 360721 25321 44744 71432115 b) 1088 = true := nt_all_app nt_x3_54_2633_137_66 16 nt_y3_54_2633_137_67
theorem nt_y3_54_2633_137_68 : nt_all (fun j => nt_pxB (List.cons (24, nt_z17) (nt_sel nt_TT 54)) 360721 25321 44744 71432115 (Nat.add 1088 j)) 2 = true := by decide +kernel
theorem nt_x3_54_2633_137_68 : nt_all (fun b => nt_pxB (List.cons (24, nt_z17) (nt_sel nt_TT 54)) 360721 25321 44744 71432115 b) 1090 = true := nt_all_app nt_x3_54_2633_137_67 2 nt_y3_54_2633_137_68
theorem nt_x3_54_2633_137 : nt_px 1 (List.cons (24, nt_z17) (nt_sel nt_TT 54)) 2633 137 = true := nt_px_of (rs := 360721) (m0 := 25321) (Lm := 44744) (J := 71432115) (n := 1090) (by decide +kernel) nt_x3_54_2633_137_68
def nt_B3_54_0 : List Nat := [2633, 137]
theorem nt_b3_54_0 : nt_prs 1 3 (List.cons (24, nt_z17) (nt_sel nt_TT 54)) nt_B3_54_0 = true := (show nt_prs 1 3 (List.cons (24, nt_z17) (nt_sel nt_TT 54)) [2633, 137] = true from (nt_prs_cons (by decide +kernel) (nt_tl_cons (by decide +kernel) (nt_pq_px nt_x3_54_2633_137 (by decide +kernel)) rfl) (nt_prs_cons (by decide +kernel) rfl rfl)))
noncomputable def nt_B3_54_1 : List Nat := nt_app [59753, 58073] nt_B3_54_0
theorem nt_b3_54_1 : nt_prs 1 3 (List.cons (24, nt_z17) (nt_sel nt_TT 54)) nt_B3_54_1 = true := nt_prs_app nt_b3_54_0 [59753, 58073] (by decide +kernel)
noncomputable def nt_B3_54_2 : List Nat := nt_app [161753, 102953] nt_B3_54_1
theorem nt_b3_54_2 : nt_prs 1 3 (List.cons (24, nt_z17) (nt_sel nt_TT 54)) nt_B3_54_2 = true := nt_prs_app nt_b3_54_1 [161753, 102953] (by decide +kernel)
noncomputable def nt_B3_54_3 : List Nat := nt_app [249593, 191657] nt_B3_54_2
theorem nt_b3_54_3 : nt_prs 1 3 (List.cons (24, nt_z17) (nt_sel nt_TT 54)) nt_B3_54_3 = true := nt_prs_app nt_b3_54_2 [249593, 191657] (by decide +kernel)
noncomputable def nt_B3_54_4 : List Nat := nt_app [349913, 284057] nt_B3_54_3
theorem nt_b3_54_4 : nt_prs 1 3 (List.cons (24, nt_z17) (nt_sel nt_TT 54)) nt_B3_54_4 = true := nt_prs_app nt_b3_54_3 [349913, 284057] (by decide +kernel)
noncomputable def nt_B3_54_5 : List Nat := nt_app [546617, 526073, 520073, 504953, 460793, 455513, 450377, 437273, 430697, 368153] nt_B3_54_4
theorem nt_b3_54_5 : nt_prs 1 3 (List.cons (24, nt_z17) (nt_sel nt_TT 54)) nt_B3_54_5 = true := nt_prs_app nt_b3_54_4 [546617, 526073, 520073, 504953, 460793, 455513, 450377, 437273, 430697, 368153] (by decide +kernel)
noncomputable def nt_B3_54_6 : List Nat := nt_app [726377, 724553, 715817, 670217, 632153, 629897, 583577, 573497, 556697, 549257] nt_B3_54_5
theorem nt_b3_54_6 : nt_prs 1 3 (List.cons (24, nt_z17) (nt_sel nt_TT 54)) nt_B3_54_6 = true := nt_prs_app nt_b3_54_5 [726377, 724553, 715817, 670217, 632153, 629897, 583577, 573497, 556697, 549257] (by decide +kernel)
noncomputable def nt_B3_54_7 : List Nat := nt_app [961097, 924617, 919913, 889337, 880553, 788393, 784457, 779993, 775097, 766313] nt_B3_54_6
theorem nt_b3_54_7 : nt_prs 1 3 (List.cons (24, nt_z17) (nt_sel nt_TT 54)) nt_B3_54_7 = true := nt_prs_app nt_b3_54_6 [961097, 924617, 919913, 889337, 880553, 788393, 784457, 779993, 775097, 766313] (by decide +kernel)
noncomputable def nt_B3_54_8 : List Nat := nt_app [998537, 981017] nt_B3_54_7
theorem nt_b3_54_8 : nt_prs 1 3 (List.cons (24, nt_z17) (nt_sel nt_TT 54)) nt_B3_54_8 = true := nt_prs_app nt_b3_54_7 [998537, 981017] (by decide +kernel)
theorem nt_c3_3_54 : nt_rv nt_L3_54 List.nil (fun R' => nt_ph 1 48 41 3 66 21845 (List.cons (24, nt_z17) (nt_sel nt_TT 54)) (nt_sel nt_TV3 54) nt_EX3 R') = true := by decide +kernel
theorem nt_rr_3_54 : nt_R3 54 = true := nt_run_of nt_c1_3_54 (show nt_prs 1 3 (List.cons (24, nt_z17) (nt_sel nt_TT 54)) nt_L3_54 = true from nt_b3_54_8) nt_c3_3_54
