theorem nt_ra_0 (v : Nat) : v < 128 → nt_R0 v = true := by
  intro hv
  by_cases h0 : v < 1
  · exact nt_rg_sound nt_rn_0_0 (by omega) (by omega)
  by_cases h1 : v < 2
  · exact nt_rg_sound nt_rn_0_1 (by omega) (by omega)
  by_cases h2 : v < 3
  · exact nt_rg_sound nt_rn_0_2 (by omega) (by omega)
  by_cases h3 : v < 4
  · exact nt_rg_sound nt_rn_0_3 (by omega) (by omega)
  by_cases h4 : v < 5
  · exact nt_rg_sound nt_rn_0_4 (by omega) (by omega)
  by_cases h5 : v < 6
  · exact nt_rg_sound nt_rn_0_5 (by omega) (by omega)
  by_cases h6 : v < 7
  · exact nt_rg_sound nt_rn_0_6 (by omega) (by omega)
  by_cases h7 : v < 8
  · exact nt_rg_sound nt_rn_0_7 (by omega) (by omega)
  by_cases h8 : v < 9
  · exact nt_rg_sound nt_rn_0_8 (by omega) (by omega)
  by_cases h9 : v < 10
  · exact nt_rg_sound nt_rn_0_9 (by omega) (by omega)
  by_cases h10 : v < 11
  · exact nt_rg_sound nt_rn_0_10 (by omega) (by omega)
  by_cases h11 : v < 12
  · exact nt_rg_sound nt_rn_0_11 (by omega) (by omega)
  by_cases h12 : v < 13
  · exact nt_rg_sound nt_rn_0_12 (by omega) (by omega)
  by_cases h13 : v < 14
  · exact nt_rg_sound nt_rn_0_13 (by omega) (by omega)
  by_cases h14 : v < 15
  · exact nt_rg_sound nt_rn_0_14 (by omega) (by omega)
  by_cases h15 : v < 16
  · exact nt_rg_sound nt_rn_0_15 (by omega) (by omega)
  by_cases h16 : v < 17
  · exact nt_rg_sound nt_rn_0_16 (by omega) (by omega)
  by_cases h17 : v < 18
  · exact nt_rg_sound nt_rn_0_17 (by omega) (by omega)
  by_cases h18 : v < 19
  · exact nt_rg_sound nt_rn_0_18 (by omega) (by omega)
  by_cases h19 : v < 20
  · exact nt_rg_sound nt_rn_0_19 (by omega) (by omega)
  by_cases h20 : v < 21
  · exact nt_rg_sound nt_rn_0_20 (by omega) (by omega)
  by_cases h21 : v < 22
  · exact nt_rg_sound nt_rn_0_21 (by omega) (by omega)
  by_cases h22 : v < 23
  · exact nt_rg_sound nt_rn_0_22 (by omega) (by omega)
  by_cases h23 : v < 24
  · exact nt_rg_sound nt_rn_0_23 (by omega) (by omega)
  by_cases h24 : v < 25
  · exact nt_rg_sound nt_rn_0_24 (by omega) (by omega)
  by_cases h25 : v < 26
  · exact nt_rg_sound nt_rn_0_25 (by omega) (by omega)
  by_cases h26 : v < 27
  · exact nt_rg_sound nt_rn_0_26 (by omega) (by omega)
  by_cases h27 : v < 28
  · exact nt_rg_sound nt_rn_0_27 (by omega) (by omega)
  by_cases h28 : v < 29
  · exact nt_rg_sound nt_rn_0_28 (by omega) (by omega)
  by_cases h29 : v < 30
  · exact nt_rg_sound nt_rn_0_29 (by omega) (by omega)
  by_cases h30 : v < 31
  · exact nt_rg_sound nt_rn_0_30 (by omega) (by omega)
  by_cases h31 : v < 32
  · exact nt_rg_sound nt_rn_0_31 (by omega) (by omega)
  by_cases h32 : v < 33
  · exact nt_rg_sound nt_rn_0_32 (by omega) (by omega)
  by_cases h33 : v < 34
  · exact nt_rg_sound nt_rn_0_33 (by omega) (by omega)
  by_cases h34 : v < 35
  · exact nt_rg_sound nt_rn_0_34 (by omega) (by omega)
  by_cases h35 : v < 37
  · exact nt_rg_sound nt_rn_0_35 (by omega) (by omega)
  by_cases h37 : v < 38
  · exact nt_rg_sound nt_rn_0_37 (by omega) (by omega)
  by_cases h38 : v < 40
  · exact nt_rg_sound nt_rn_0_38 (by omega) (by omega)
  by_cases h40 : v < 41
  · exact nt_rg_sound nt_rn_0_40 (by omega) (by omega)
  by_cases h41 : v < 42
  · exact nt_rg_sound nt_rn_0_41 (by omega) (by omega)
  by_cases h42 : v < 43
  · exact nt_rg_sound nt_rn_0_42 (by omega) (by omega)
  by_cases h43 : v < 44
  · exact nt_rg_sound nt_rn_0_43 (by omega) (by omega)
  by_cases h44 : v < 45
  · exact nt_rg_sound nt_rn_0_44 (by omega) (by omega)
  by_cases h45 : v < 46
  · exact nt_rg_sound nt_rn_0_45 (by omega) (by omega)
  by_cases h46 : v < 47
  · exact nt_rg_sound nt_rn_0_46 (by omega) (by omega)
  by_cases h47 : v < 48
  · exact nt_rg_sound nt_rn_0_47 (by omega) (by omega)
  by_cases h48 : v < 49
  · exact nt_rg_sound nt_rn_0_48 (by omega) (by omega)
  by_cases h49 : v < 50
  · exact nt_rg_sound nt_rn_0_49 (by omega) (by omega)
  by_cases h50 : v < 51
  · exact nt_rg_sound nt_rn_0_50 (by omega) (by omega)
  by_cases h51 : v < 52
  · exact nt_rg_sound nt_rn_0_51 (by omega) (by omega)
  by_cases h52 : v < 53
  · exact nt_rg_sound nt_rn_0_52 (by omega) (by omega)
  by_cases h53 : v < 54
  · exact nt_rg_sound nt_rn_0_53 (by omega) (by omega)
  by_cases h54 : v < 55
  · exact nt_rg_sound nt_rn_0_54 (by omega) (by omega)
  by_cases h55 : v < 56
  · exact nt_rg_sound nt_rn_0_55 (by omega) (by omega)
  by_cases h56 : v < 57
  · exact nt_rg_sound nt_rn_0_56 (by omega) (by omega)
  by_cases h57 : v < 58
  · exact nt_rg_sound nt_rn_0_57 (by omega) (by omega)
  by_cases h58 : v < 59
  · exact nt_rg_sound nt_rn_0_58 (by omega) (by omega)
  by_cases h59 : v < 60
  · exact nt_rg_sound nt_rn_0_59 (by omega) (by omega)
  by_cases h60 : v < 61
  · exact nt_rg_sound nt_rn_0_60 (by omega) (by omega)
  by_cases h61 : v < 62
  · exact nt_rg_sound nt_rn_0_61 (by omega) (by omega)
  by_cases h62 : v < 63
  · exact nt_rg_sound nt_rn_0_62 (by omega) (by omega)
  by_cases h63 : v < 64
  · exact nt_rg_sound nt_rn_0_63 (by omega) (by omega)
  by_cases h64 : v < 65
  · exact nt_rg_sound nt_rn_0_64 (by omega) (by omega)
  by_cases h65 : v < 66
  · exact nt_rg_sound nt_rn_0_65 (by omega) (by omega)
  by_cases h66 : v < 67
  · exact nt_rg_sound nt_rn_0_66 (by omega) (by omega)
  by_cases h67 : v < 68
  · exact nt_rg_sound nt_rn_0_67 (by omega) (by omega)
  by_cases h68 : v < 69
  · exact nt_rg_sound nt_rn_0_68 (by omega) (by omega)
  by_cases h69 : v < 70
  · exact nt_rg_sound nt_rn_0_69 (by omega) (by omega)
  by_cases h70 : v < 71
  · exact nt_rg_sound nt_rn_0_70 (by omega) (by omega)
  by_cases h71 : v < 72
  · exact nt_rg_sound nt_rn_0_71 (by omega) (by omega)
  by_cases h72 : v < 73
  · exact nt_rg_sound nt_rn_0_72 (by omega) (by omega)
  by_cases h73 : v < 74
  · exact nt_rg_sound nt_rn_0_73 (by omega) (by omega)
  by_cases h74 : v < 75
  · exact nt_rg_sound nt_rn_0_74 (by omega) (by omega)
  by_cases h75 : v < 76
  · exact nt_rg_sound nt_rn_0_75 (by omega) (by omega)
  by_cases h76 : v < 77
  · exact nt_rg_sound nt_rn_0_76 (by omega) (by omega)
  by_cases h77 : v < 78
  · exact nt_rg_sound nt_rn_0_77 (by omega) (by omega)
  by_cases h78 : v < 79
  · exact nt_rg_sound nt_rn_0_78 (by omega) (by omega)
  by_cases h79 : v < 80
  · exact nt_rg_sound nt_rn_0_79 (by omega) (by omega)
  by_cases h80 : v < 81
  · exact nt_rg_sound nt_rn_0_80 (by omega) (by omega)
  by_cases h81 : v < 82
  · exact nt_rg_sound nt_rn_0_81 (by omega) (by omega)
  by_cases h82 : v < 83
  · exact nt_rg_sound nt_rn_0_82 (by omega) (by omega)
  by_cases h83 : v < 84
  · exact nt_rg_sound nt_rn_0_83 (by omega) (by omega)
  by_cases h84 : v < 85
  · exact nt_rg_sound nt_rn_0_84 (by omega) (by omega)
  by_cases h85 : v < 86
  · exact nt_rg_sound nt_rn_0_85 (by omega) (by omega)
  by_cases h86 : v < 87
  · exact nt_rg_sound nt_rn_0_86 (by omega) (by omega)
  by_cases h87 : v < 88
  · exact nt_rg_sound nt_rn_0_87 (by omega) (by omega)
  by_cases h88 : v < 89
  · exact nt_rg_sound nt_rn_0_88 (by omega) (by omega)
  by_cases h89 : v < 90
  · exact nt_rg_sound nt_rn_0_89 (by omega) (by omega)
  by_cases h90 : v < 91
  · exact nt_rg_sound nt_rn_0_90 (by omega) (by omega)
  by_cases h91 : v < 92
  · exact nt_rg_sound nt_rn_0_91 (by omega) (by omega)
  by_cases h92 : v < 93
  · exact nt_rg_sound nt_rn_0_92 (by omega) (by omega)
  by_cases h93 : v < 94
  · exact nt_rg_sound nt_rn_0_93 (by omega) (by omega)
  by_cases h94 : v < 95
  · exact nt_rg_sound nt_rn_0_94 (by omega) (by omega)
  by_cases h95 : v < 96
  · exact nt_rg_sound nt_rn_0_95 (by omega) (by omega)
  by_cases h96 : v < 97
  · exact nt_rg_sound nt_rn_0_96 (by omega) (by omega)
  by_cases h97 : v < 98
  · exact nt_rg_sound nt_rn_0_97 (by omega) (by omega)
  by_cases h98 : v < 99
  · exact nt_rg_sound nt_rn_0_98 (by omega) (by omega)
  by_cases h99 : v < 100
  · exact nt_rg_sound nt_rn_0_99 (by omega) (by omega)
  by_cases h100 : v < 101
  · exact nt_rg_sound nt_rn_0_100 (by omega) (by omega)
  by_cases h101 : v < 102
  · exact nt_rg_sound nt_rn_0_101 (by omega) (by omega)
  by_cases h102 : v < 103
  · exact nt_rg_sound nt_rn_0_102 (by omega) (by omega)
  by_cases h103 : v < 104
  · exact nt_rg_sound nt_rn_0_103 (by omega) (by omega)
  by_cases h104 : v < 105
  · exact nt_rg_sound nt_rn_0_104 (by omega) (by omega)
  by_cases h105 : v < 106
  · exact nt_rg_sound nt_rn_0_105 (by omega) (by omega)
  by_cases h106 : v < 107
  · exact nt_rg_sound nt_rn_0_106 (by omega) (by omega)
  by_cases h107 : v < 108
  · exact nt_rg_sound nt_rn_0_107 (by omega) (by omega)
  by_cases h108 : v < 109
  · exact nt_rg_sound nt_rn_0_108 (by omega) (by omega)
  by_cases h109 : v < 110
  · exact nt_rg_sound nt_rn_0_109 (by omega) (by omega)
  by_cases h110 : v < 111
  · exact nt_rg_sound nt_rn_0_110 (by omega) (by omega)
  by_cases h111 : v < 112
  · exact nt_rg_sound nt_rn_0_111 (by omega) (by omega)
  by_cases h112 : v < 113
  · exact nt_rg_sound nt_rn_0_112 (by omega) (by omega)
  by_cases h113 : v < 114
  · exact nt_rg_sound nt_rn_0_113 (by omega) (by omega)
  by_cases h114 : v < 115
  · exact nt_rg_sound nt_rn_0_114 (by omega) (by omega)
  by_cases h115 : v < 116
  · exact nt_rg_sound nt_rn_0_115 (by omega) (by omega)
  by_cases h116 : v < 117
  · exact nt_rg_sound nt_rn_0_116 (by omega) (by omega)
  by_cases h117 : v < 118
  · exact nt_rg_sound nt_rn_0_117 (by omega) (by omega)
  by_cases h118 : v < 119
  · exact nt_rg_sound nt_rn_0_118 (by omega) (by omega)
  by_cases h119 : v < 120
  · exact nt_rg_sound nt_rn_0_119 (by omega) (by omega)
  by_cases h120 : v < 121
  · exact nt_rg_sound nt_rn_0_120 (by omega) (by omega)
  by_cases h121 : v < 122
  · exact nt_rg_sound nt_rn_0_121 (by omega) (by omega)
  by_cases h122 : v < 123
  · exact nt_rg_sound nt_rn_0_122 (by omega) (by omega)
  by_cases h123 : v < 124
  · exact nt_rg_sound nt_rn_0_123 (by omega) (by omega)
  by_cases h124 : v < 125
  · exact nt_rg_sound nt_rn_0_124 (by omega) (by omega)
  by_cases h125 : v < 126
  · exact nt_rg_sound nt_rn_0_125 (by omega) (by omega)
  by_cases h126 : v < 127
  · exact nt_rg_sound nt_rn_0_126 (by omega) (by omega)
  by_cases h127 : v < 128
  · exact nt_rg_sound nt_rn_0_127 (by omega) (by omega)
  exfalso
  omega
theorem nt_ra_1 (v : Nat) : v < 128 → v ≠ 25 → nt_R1 v = true := by
  intro hv hne
  by_cases h0 : v < 1
  · exact nt_rg_sound nt_rn_1_0 (by omega) (by omega)
  by_cases h1 : v < 2
  · exact nt_rg_sound nt_rn_1_1 (by omega) (by omega)
  by_cases h2 : v < 3
  · exact nt_rg_sound nt_rn_1_2 (by omega) (by omega)
  by_cases h3 : v < 4
  · exact nt_rg_sound nt_rn_1_3 (by omega) (by omega)
  by_cases h4 : v < 5
  · exact nt_rg_sound nt_rn_1_4 (by omega) (by omega)
  by_cases h5 : v < 6
  · exact nt_rg_sound nt_rn_1_5 (by omega) (by omega)
  by_cases h6 : v < 7
  · exact nt_rg_sound nt_rn_1_6 (by omega) (by omega)
  by_cases h7 : v < 8
  · exact nt_rg_sound nt_rn_1_7 (by omega) (by omega)
  by_cases h8 : v < 9
  · exact nt_rg_sound nt_rn_1_8 (by omega) (by omega)
  by_cases h9 : v < 10
  · exact nt_rg_sound nt_rn_1_9 (by omega) (by omega)
  by_cases h10 : v < 11
  · exact nt_rg_sound nt_rn_1_10 (by omega) (by omega)
  by_cases h11 : v < 12
  · exact nt_rg_sound nt_rn_1_11 (by omega) (by omega)
  by_cases h12 : v < 13
  · exact nt_rg_sound nt_rn_1_12 (by omega) (by omega)
  by_cases h13 : v < 14
  · exact nt_rg_sound nt_rn_1_13 (by omega) (by omega)
  by_cases h14 : v < 15
  · exact nt_rg_sound nt_rn_1_14 (by omega) (by omega)
  by_cases h15 : v < 16
  · exact nt_rg_sound nt_rn_1_15 (by omega) (by omega)
  by_cases h16 : v < 17
  · exact nt_rg_sound nt_rn_1_16 (by omega) (by omega)
  by_cases h17 : v < 18
  · exact nt_rg_sound nt_rn_1_17 (by omega) (by omega)
  by_cases h18 : v < 19
  · exact nt_rg_sound nt_rn_1_18 (by omega) (by omega)
  by_cases h19 : v < 20
  · exact nt_rg_sound nt_rn_1_19 (by omega) (by omega)
  by_cases h20 : v < 21
  · exact nt_rg_sound nt_rn_1_20 (by omega) (by omega)
  by_cases h21 : v < 22
  · exact nt_rg_sound nt_rn_1_21 (by omega) (by omega)
  by_cases h22 : v < 23
  · exact nt_rg_sound nt_rn_1_22 (by omega) (by omega)
  by_cases h23 : v < 24
  · exact nt_rg_sound nt_rn_1_23 (by omega) (by omega)
  by_cases h24 : v < 25
  · exact nt_rg_sound nt_rn_1_24 (by omega) (by omega)
  by_cases h26 : v < 27
  · exact nt_rg_sound nt_rn_1_26 (by omega) (by omega)
  by_cases h27 : v < 28
  · exact nt_rg_sound nt_rn_1_27 (by omega) (by omega)
  by_cases h28 : v < 29
  · exact nt_rg_sound nt_rn_1_28 (by omega) (by omega)
  by_cases h29 : v < 30
  · exact nt_rg_sound nt_rn_1_29 (by omega) (by omega)
  by_cases h30 : v < 31
  · exact nt_rg_sound nt_rn_1_30 (by omega) (by omega)
  by_cases h31 : v < 32
  · exact nt_rg_sound nt_rn_1_31 (by omega) (by omega)
  by_cases h32 : v < 33
  · exact nt_rg_sound nt_rn_1_32 (by omega) (by omega)
  by_cases h33 : v < 34
  · exact nt_rg_sound nt_rn_1_33 (by omega) (by omega)
  by_cases h34 : v < 35
  · exact nt_rg_sound nt_rn_1_34 (by omega) (by omega)
  by_cases h35 : v < 36
  · exact nt_rg_sound nt_rn_1_35 (by omega) (by omega)
  by_cases h36 : v < 37
  · exact nt_rg_sound nt_rn_1_36 (by omega) (by omega)
  by_cases h37 : v < 38
  · exact nt_rg_sound nt_rn_1_37 (by omega) (by omega)
  by_cases h38 : v < 39
  · exact nt_rg_sound nt_rn_1_38 (by omega) (by omega)
  by_cases h39 : v < 40
  · exact nt_rg_sound nt_rn_1_39 (by omega) (by omega)
  by_cases h40 : v < 41
  · exact nt_rg_sound nt_rn_1_40 (by omega) (by omega)
  by_cases h41 : v < 42
  · exact nt_rg_sound nt_rn_1_41 (by omega) (by omega)
  by_cases h42 : v < 43
  · exact nt_rg_sound nt_rn_1_42 (by omega) (by omega)
  by_cases h43 : v < 44
  · exact nt_rg_sound nt_rn_1_43 (by omega) (by omega)
  by_cases h44 : v < 45
  · exact nt_rg_sound nt_rn_1_44 (by omega) (by omega)
  by_cases h45 : v < 46
  · exact nt_rg_sound nt_rn_1_45 (by omega) (by omega)
  by_cases h46 : v < 47
  · exact nt_rg_sound nt_rn_1_46 (by omega) (by omega)
  by_cases h47 : v < 48
  · exact nt_rg_sound nt_rn_1_47 (by omega) (by omega)
  by_cases h48 : v < 49
  · exact nt_rg_sound nt_rn_1_48 (by omega) (by omega)
  by_cases h49 : v < 50
  · exact nt_rg_sound nt_rn_1_49 (by omega) (by omega)
  by_cases h50 : v < 51
  · exact nt_rg_sound nt_rn_1_50 (by omega) (by omega)
  by_cases h51 : v < 52
  · exact nt_rg_sound nt_rn_1_51 (by omega) (by omega)
  by_cases h52 : v < 53
  · exact nt_rg_sound nt_rn_1_52 (by omega) (by omega)
  by_cases h53 : v < 54
  · exact nt_rg_sound nt_rn_1_53 (by omega) (by omega)
  by_cases h54 : v < 55
  · exact nt_rg_sound nt_rn_1_54 (by omega) (by omega)
  by_cases h55 : v < 56
  · exact nt_rg_sound nt_rn_1_55 (by omega) (by omega)
  by_cases h56 : v < 57
  · exact nt_rg_sound nt_rn_1_56 (by omega) (by omega)
  by_cases h57 : v < 58
  · exact nt_rg_sound nt_rn_1_57 (by omega) (by omega)
  by_cases h58 : v < 59
  · exact nt_rg_sound nt_rn_1_58 (by omega) (by omega)
  by_cases h59 : v < 60
  · exact nt_rg_sound nt_rn_1_59 (by omega) (by omega)
  by_cases h60 : v < 61
  · exact nt_rg_sound nt_rn_1_60 (by omega) (by omega)
  by_cases h61 : v < 62
  · exact nt_rg_sound nt_rn_1_61 (by omega) (by omega)
  by_cases h62 : v < 63
  · exact nt_rg_sound nt_rn_1_62 (by omega) (by omega)
  by_cases h63 : v < 64
  · exact nt_rg_sound nt_rn_1_63 (by omega) (by omega)
  by_cases h64 : v < 65
  · exact nt_rg_sound nt_rn_1_64 (by omega) (by omega)
  by_cases h65 : v < 66
  · exact nt_rg_sound nt_rn_1_65 (by omega) (by omega)
  by_cases h66 : v < 67
  · exact nt_rg_sound nt_rn_1_66 (by omega) (by omega)
  by_cases h67 : v < 68
  · exact nt_rg_sound nt_rn_1_67 (by omega) (by omega)
  by_cases h68 : v < 69
  · exact nt_rg_sound nt_rn_1_68 (by omega) (by omega)
  by_cases h69 : v < 70
  · exact nt_rg_sound nt_rn_1_69 (by omega) (by omega)
  by_cases h70 : v < 71
  · exact nt_rg_sound nt_rn_1_70 (by omega) (by omega)
  by_cases h71 : v < 72
  · exact nt_rg_sound nt_rn_1_71 (by omega) (by omega)
  by_cases h72 : v < 73
  · exact nt_rg_sound nt_rn_1_72 (by omega) (by omega)
  by_cases h73 : v < 74
  · exact nt_rg_sound nt_rn_1_73 (by omega) (by omega)
  by_cases h74 : v < 75
  · exact nt_rg_sound nt_rn_1_74 (by omega) (by omega)
  by_cases h75 : v < 76
  · exact nt_rg_sound nt_rn_1_75 (by omega) (by omega)
  by_cases h76 : v < 77
  · exact nt_rg_sound nt_rn_1_76 (by omega) (by omega)
  by_cases h77 : v < 78
  · exact nt_rg_sound nt_rn_1_77 (by omega) (by omega)
  by_cases h78 : v < 79
  · exact nt_rg_sound nt_rn_1_78 (by omega) (by omega)
  by_cases h79 : v < 80
  · exact nt_rg_sound nt_rn_1_79 (by omega) (by omega)
  by_cases h80 : v < 81
  · exact nt_rg_sound nt_rn_1_80 (by omega) (by omega)
  by_cases h81 : v < 82
  · exact nt_rg_sound nt_rn_1_81 (by omega) (by omega)
  by_cases h82 : v < 83
  · exact nt_rg_sound nt_rn_1_82 (by omega) (by omega)
  by_cases h83 : v < 84
  · exact nt_rg_sound nt_rn_1_83 (by omega) (by omega)
  by_cases h84 : v < 85
  · exact nt_rg_sound nt_rn_1_84 (by omega) (by omega)
  by_cases h85 : v < 86
  · exact nt_rg_sound nt_rn_1_85 (by omega) (by omega)
  by_cases h86 : v < 87
  · exact nt_rg_sound nt_rn_1_86 (by omega) (by omega)
  by_cases h87 : v < 88
  · exact nt_rg_sound nt_rn_1_87 (by omega) (by omega)
  by_cases h88 : v < 89
  · exact nt_rg_sound nt_rn_1_88 (by omega) (by omega)
  by_cases h89 : v < 90
  · exact nt_rg_sound nt_rn_1_89 (by omega) (by omega)
  by_cases h90 : v < 91
  · exact nt_rg_sound nt_rn_1_90 (by omega) (by omega)
  by_cases h91 : v < 92
  · exact nt_rg_sound nt_rn_1_91 (by omega) (by omega)
  by_cases h92 : v < 93
  · exact nt_rg_sound nt_rn_1_92 (by omega) (by omega)
  by_cases h93 : v < 94
  · exact nt_rg_sound nt_rn_1_93 (by omega) (by omega)
  by_cases h94 : v < 95
  · exact nt_rg_sound nt_rn_1_94 (by omega) (by omega)
  by_cases h95 : v < 96
  · exact nt_rg_sound nt_rn_1_95 (by omega) (by omega)
  by_cases h96 : v < 97
  · exact nt_rg_sound nt_rn_1_96 (by omega) (by omega)
  by_cases h97 : v < 98
  · exact nt_rg_sound nt_rn_1_97 (by omega) (by omega)
  by_cases h98 : v < 99
  · exact nt_rg_sound nt_rn_1_98 (by omega) (by omega)
  by_cases h99 : v < 100
  · exact nt_rg_sound nt_rn_1_99 (by omega) (by omega)
  by_cases h100 : v < 101
  · exact nt_rg_sound nt_rn_1_100 (by omega) (by omega)
  by_cases h101 : v < 102
  · exact nt_rg_sound nt_rn_1_101 (by omega) (by omega)
  by_cases h102 : v < 103
  · exact nt_rg_sound nt_rn_1_102 (by omega) (by omega)
  by_cases h103 : v < 104
  · exact nt_rg_sound nt_rn_1_103 (by omega) (by omega)
  by_cases h104 : v < 105
  · exact nt_rg_sound nt_rn_1_104 (by omega) (by omega)
  by_cases h105 : v < 106
  · exact nt_rg_sound nt_rn_1_105 (by omega) (by omega)
  by_cases h106 : v < 107
  · exact nt_rg_sound nt_rn_1_106 (by omega) (by omega)
  by_cases h107 : v < 108
  · exact nt_rg_sound nt_rn_1_107 (by omega) (by omega)
  by_cases h108 : v < 109
  · exact nt_rg_sound nt_rn_1_108 (by omega) (by omega)
  by_cases h109 : v < 110
  · exact nt_rg_sound nt_rn_1_109 (by omega) (by omega)
  by_cases h110 : v < 111
  · exact nt_rg_sound nt_rn_1_110 (by omega) (by omega)
  by_cases h111 : v < 112
  · exact nt_rg_sound nt_rn_1_111 (by omega) (by omega)
  by_cases h112 : v < 113
  · exact nt_rg_sound nt_rn_1_112 (by omega) (by omega)
  by_cases h113 : v < 114
  · exact nt_rg_sound nt_rn_1_113 (by omega) (by omega)
  by_cases h114 : v < 115
  · exact nt_rg_sound nt_rn_1_114 (by omega) (by omega)
  by_cases h115 : v < 116
  · exact nt_rg_sound nt_rn_1_115 (by omega) (by omega)
  by_cases h116 : v < 117
  · exact nt_rg_sound nt_rn_1_116 (by omega) (by omega)
  by_cases h117 : v < 118
  · exact nt_rg_sound nt_rn_1_117 (by omega) (by omega)
  by_cases h118 : v < 119
  · exact nt_rg_sound nt_rn_1_118 (by omega) (by omega)
  by_cases h119 : v < 120
  · exact nt_rg_sound nt_rn_1_119 (by omega) (by omega)
  by_cases h120 : v < 121
  · exact nt_rg_sound nt_rn_1_120 (by omega) (by omega)
  by_cases h121 : v < 122
  · exact nt_rg_sound nt_rn_1_121 (by omega) (by omega)
  by_cases h122 : v < 123
  · exact nt_rg_sound nt_rn_1_122 (by omega) (by omega)
  by_cases h123 : v < 124
  · exact nt_rg_sound nt_rn_1_123 (by omega) (by omega)
  by_cases h124 : v < 125
  · exact nt_rg_sound nt_rn_1_124 (by omega) (by omega)
  by_cases h125 : v < 126
  · exact nt_rg_sound nt_rn_1_125 (by omega) (by omega)
  by_cases h126 : v < 127
  · exact nt_rg_sound nt_rn_1_126 (by omega) (by omega)
  by_cases h127 : v < 128
  · exact nt_rg_sound nt_rn_1_127 (by omega) (by omega)
  exfalso
  omega
theorem nt_ra_x (v : Nat) : v = 25 → nt_Rx v = true := by
  intro hv
  by_cases h25 : v < 26
  · exact nt_rg_sound nt_rn_x_25 (by omega) (by omega)
  exfalso
  omega
theorem nt_ra_2 (v : Nat) : v < 128 → nt_R2 v = true := by
  intro hv
  by_cases h0 : v < 1
  · exact nt_rg_sound nt_rn_2_0 (by omega) (by omega)
  by_cases h1 : v < 2
  · exact nt_rg_sound nt_rn_2_1 (by omega) (by omega)
  by_cases h2 : v < 3
  · exact nt_rg_sound nt_rn_2_2 (by omega) (by omega)
  by_cases h3 : v < 4
  · exact nt_rg_sound nt_rn_2_3 (by omega) (by omega)
  by_cases h4 : v < 5
  · exact nt_rg_sound nt_rn_2_4 (by omega) (by omega)
  by_cases h5 : v < 6
  · exact nt_rg_sound nt_rn_2_5 (by omega) (by omega)
  by_cases h6 : v < 7
  · exact nt_rg_sound nt_rn_2_6 (by omega) (by omega)
  by_cases h7 : v < 8
  · exact nt_rg_sound nt_rn_2_7 (by omega) (by omega)
  by_cases h8 : v < 9
  · exact nt_rg_sound nt_rn_2_8 (by omega) (by omega)
  by_cases h9 : v < 10
  · exact nt_rg_sound nt_rn_2_9 (by omega) (by omega)
  by_cases h10 : v < 11
  · exact nt_rg_sound nt_rn_2_10 (by omega) (by omega)
  by_cases h11 : v < 12
  · exact nt_rg_sound nt_rn_2_11 (by omega) (by omega)
  by_cases h12 : v < 13
  · exact nt_rg_sound nt_rn_2_12 (by omega) (by omega)
  by_cases h13 : v < 14
  · exact nt_rg_sound nt_rn_2_13 (by omega) (by omega)
  by_cases h14 : v < 15
  · exact nt_rg_sound nt_rn_2_14 (by omega) (by omega)
  by_cases h15 : v < 16
  · exact nt_rg_sound nt_rn_2_15 (by omega) (by omega)
  by_cases h16 : v < 17
  · exact nt_rg_sound nt_rn_2_16 (by omega) (by omega)
  by_cases h17 : v < 18
  · exact nt_rg_sound nt_rn_2_17 (by omega) (by omega)
  by_cases h18 : v < 19
  · exact nt_rg_sound nt_rn_2_18 (by omega) (by omega)
  by_cases h19 : v < 20
  · exact nt_rg_sound nt_rn_2_19 (by omega) (by omega)
  by_cases h20 : v < 21
  · exact nt_rg_sound nt_rn_2_20 (by omega) (by omega)
  by_cases h21 : v < 22
  · exact nt_rg_sound nt_rn_2_21 (by omega) (by omega)
  by_cases h22 : v < 23
  · exact nt_rg_sound nt_rn_2_22 (by omega) (by omega)
  by_cases h23 : v < 24
  · exact nt_rg_sound nt_rn_2_23 (by omega) (by omega)
  by_cases h24 : v < 25
  · exact nt_rg_sound nt_rn_2_24 (by omega) (by omega)
  by_cases h25 : v < 26
  · exact nt_rg_sound nt_rn_2_25 (by omega) (by omega)
  by_cases h26 : v < 27
  · exact nt_rg_sound nt_rn_2_26 (by omega) (by omega)
  by_cases h27 : v < 28
  · exact nt_rg_sound nt_rn_2_27 (by omega) (by omega)
  by_cases h28 : v < 29
  · exact nt_rg_sound nt_rn_2_28 (by omega) (by omega)
  by_cases h29 : v < 30
  · exact nt_rg_sound nt_rn_2_29 (by omega) (by omega)
  by_cases h30 : v < 31
  · exact nt_rg_sound nt_rn_2_30 (by omega) (by omega)
  by_cases h31 : v < 32
  · exact nt_rg_sound nt_rn_2_31 (by omega) (by omega)
  by_cases h32 : v < 33
  · exact nt_rg_sound nt_rn_2_32 (by omega) (by omega)
  by_cases h33 : v < 34
  · exact nt_rg_sound nt_rn_2_33 (by omega) (by omega)
  by_cases h34 : v < 35
  · exact nt_rg_sound nt_rn_2_34 (by omega) (by omega)
  by_cases h35 : v < 36
  · exact nt_rg_sound nt_rn_2_35 (by omega) (by omega)
  by_cases h36 : v < 38
  · exact nt_rg_sound nt_rn_2_36 (by omega) (by omega)
  by_cases h38 : v < 39
  · exact nt_rg_sound nt_rn_2_38 (by omega) (by omega)
  by_cases h39 : v < 40
  · exact nt_rg_sound nt_rn_2_39 (by omega) (by omega)
  by_cases h40 : v < 41
  · exact nt_rg_sound nt_rn_2_40 (by omega) (by omega)
  by_cases h41 : v < 42
  · exact nt_rg_sound nt_rn_2_41 (by omega) (by omega)
  by_cases h42 : v < 43
  · exact nt_rg_sound nt_rn_2_42 (by omega) (by omega)
  by_cases h43 : v < 44
  · exact nt_rg_sound nt_rn_2_43 (by omega) (by omega)
  by_cases h44 : v < 45
  · exact nt_rg_sound nt_rn_2_44 (by omega) (by omega)
  by_cases h45 : v < 46
  · exact nt_rg_sound nt_rn_2_45 (by omega) (by omega)
  by_cases h46 : v < 47
  · exact nt_rg_sound nt_rn_2_46 (by omega) (by omega)
  by_cases h47 : v < 48
  · exact nt_rg_sound nt_rn_2_47 (by omega) (by omega)
  by_cases h48 : v < 49
  · exact nt_rg_sound nt_rn_2_48 (by omega) (by omega)
  by_cases h49 : v < 50
  · exact nt_rg_sound nt_rn_2_49 (by omega) (by omega)
  by_cases h50 : v < 51
  · exact nt_rg_sound nt_rn_2_50 (by omega) (by omega)
  by_cases h51 : v < 52
  · exact nt_rg_sound nt_rn_2_51 (by omega) (by omega)
  by_cases h52 : v < 53
  · exact nt_rg_sound nt_rn_2_52 (by omega) (by omega)
  by_cases h53 : v < 54
  · exact nt_rg_sound nt_rn_2_53 (by omega) (by omega)
  by_cases h54 : v < 55
  · exact nt_rg_sound nt_rn_2_54 (by omega) (by omega)
  by_cases h55 : v < 56
  · exact nt_rg_sound nt_rn_2_55 (by omega) (by omega)
  by_cases h56 : v < 57
  · exact nt_rg_sound nt_rn_2_56 (by omega) (by omega)
  by_cases h57 : v < 58
  · exact nt_rg_sound nt_rn_2_57 (by omega) (by omega)
  by_cases h58 : v < 59
  · exact nt_rg_sound nt_rn_2_58 (by omega) (by omega)
  by_cases h59 : v < 60
  · exact nt_rg_sound nt_rn_2_59 (by omega) (by omega)
  by_cases h60 : v < 61
  · exact nt_rg_sound nt_rn_2_60 (by omega) (by omega)
  by_cases h61 : v < 62
  · exact nt_rg_sound nt_rn_2_61 (by omega) (by omega)
  by_cases h62 : v < 63
  · exact nt_rg_sound nt_rn_2_62 (by omega) (by omega)
  by_cases h63 : v < 64
  · exact nt_rg_sound nt_rn_2_63 (by omega) (by omega)
  by_cases h64 : v < 65
  · exact nt_rg_sound nt_rn_2_64 (by omega) (by omega)
  by_cases h65 : v < 66
  · exact nt_rg_sound nt_rn_2_65 (by omega) (by omega)
  by_cases h66 : v < 67
  · exact nt_rg_sound nt_rn_2_66 (by omega) (by omega)
  by_cases h67 : v < 68
  · exact nt_rg_sound nt_rn_2_67 (by omega) (by omega)
  by_cases h68 : v < 69
  · exact nt_rg_sound nt_rn_2_68 (by omega) (by omega)
  by_cases h69 : v < 70
  · exact nt_rg_sound nt_rn_2_69 (by omega) (by omega)
  by_cases h70 : v < 71
  · exact nt_rg_sound nt_rn_2_70 (by omega) (by omega)
  by_cases h71 : v < 72
  · exact nt_rg_sound nt_rn_2_71 (by omega) (by omega)
  by_cases h72 : v < 73
  · exact nt_rg_sound nt_rn_2_72 (by omega) (by omega)
  by_cases h73 : v < 74
  · exact nt_rg_sound nt_rn_2_73 (by omega) (by omega)
  by_cases h74 : v < 75
  · exact nt_rg_sound nt_rn_2_74 (by omega) (by omega)
  by_cases h75 : v < 76
  · exact nt_rg_sound nt_rn_2_75 (by omega) (by omega)
  by_cases h76 : v < 77
  · exact nt_rg_sound nt_rn_2_76 (by omega) (by omega)
  by_cases h77 : v < 78
  · exact nt_rg_sound nt_rn_2_77 (by omega) (by omega)
  by_cases h78 : v < 79
  · exact nt_rg_sound nt_rn_2_78 (by omega) (by omega)
  by_cases h79 : v < 80
  · exact nt_rg_sound nt_rn_2_79 (by omega) (by omega)
  by_cases h80 : v < 81
  · exact nt_rg_sound nt_rn_2_80 (by omega) (by omega)
  by_cases h81 : v < 82
  · exact nt_rg_sound nt_rn_2_81 (by omega) (by omega)
  by_cases h82 : v < 83
  · exact nt_rg_sound nt_rn_2_82 (by omega) (by omega)
  by_cases h83 : v < 84
  · exact nt_rg_sound nt_rn_2_83 (by omega) (by omega)
  by_cases h84 : v < 85
  · exact nt_rg_sound nt_rn_2_84 (by omega) (by omega)
  by_cases h85 : v < 86
  · exact nt_rg_sound nt_rn_2_85 (by omega) (by omega)
  by_cases h86 : v < 87
  · exact nt_rg_sound nt_rn_2_86 (by omega) (by omega)
  by_cases h87 : v < 88
  · exact nt_rg_sound nt_rn_2_87 (by omega) (by omega)
  by_cases h88 : v < 89
  · exact nt_rg_sound nt_rn_2_88 (by omega) (by omega)
  by_cases h89 : v < 90
  · exact nt_rg_sound nt_rn_2_89 (by omega) (by omega)
  by_cases h90 : v < 91
  · exact nt_rg_sound nt_rn_2_90 (by omega) (by omega)
  by_cases h91 : v < 92
  · exact nt_rg_sound nt_rn_2_91 (by omega) (by omega)
  by_cases h92 : v < 93
  · exact nt_rg_sound nt_rn_2_92 (by omega) (by omega)
  by_cases h93 : v < 94
  · exact nt_rg_sound nt_rn_2_93 (by omega) (by omega)
  by_cases h94 : v < 95
  · exact nt_rg_sound nt_rn_2_94 (by omega) (by omega)
  by_cases h95 : v < 96
  · exact nt_rg_sound nt_rn_2_95 (by omega) (by omega)
  by_cases h96 : v < 97
  · exact nt_rg_sound nt_rn_2_96 (by omega) (by omega)
  by_cases h97 : v < 98
  · exact nt_rg_sound nt_rn_2_97 (by omega) (by omega)
  by_cases h98 : v < 99
  · exact nt_rg_sound nt_rn_2_98 (by omega) (by omega)
  by_cases h99 : v < 100
  · exact nt_rg_sound nt_rn_2_99 (by omega) (by omega)
  by_cases h100 : v < 101
  · exact nt_rg_sound nt_rn_2_100 (by omega) (by omega)
  by_cases h101 : v < 102
  · exact nt_rg_sound nt_rn_2_101 (by omega) (by omega)
  by_cases h102 : v < 103
  · exact nt_rg_sound nt_rn_2_102 (by omega) (by omega)
  by_cases h103 : v < 104
  · exact nt_rg_sound nt_rn_2_103 (by omega) (by omega)
  by_cases h104 : v < 105
  · exact nt_rg_sound nt_rn_2_104 (by omega) (by omega)
  by_cases h105 : v < 106
  · exact nt_rg_sound nt_rn_2_105 (by omega) (by omega)
  by_cases h106 : v < 107
  · exact nt_rg_sound nt_rn_2_106 (by omega) (by omega)
  by_cases h107 : v < 108
  · exact nt_rg_sound nt_rn_2_107 (by omega) (by omega)
  by_cases h108 : v < 109
  · exact nt_rg_sound nt_rn_2_108 (by omega) (by omega)
  by_cases h109 : v < 110
  · exact nt_rg_sound nt_rn_2_109 (by omega) (by omega)
  by_cases h110 : v < 111
  · exact nt_rg_sound nt_rn_2_110 (by omega) (by omega)
  by_cases h111 : v < 112
  · exact nt_rg_sound nt_rn_2_111 (by omega) (by omega)
  by_cases h112 : v < 113
  · exact nt_rg_sound nt_rn_2_112 (by omega) (by omega)
  by_cases h113 : v < 114
  · exact nt_rg_sound nt_rn_2_113 (by omega) (by omega)
  by_cases h114 : v < 115
  · exact nt_rg_sound nt_rn_2_114 (by omega) (by omega)
  by_cases h115 : v < 116
  · exact nt_rg_sound nt_rn_2_115 (by omega) (by omega)
  by_cases h116 : v < 117
  · exact nt_rg_sound nt_rn_2_116 (by omega) (by omega)
  by_cases h117 : v < 118
  · exact nt_rg_sound nt_rn_2_117 (by omega) (by omega)
  by_cases h118 : v < 119
  · exact nt_rg_sound nt_rn_2_118 (by omega) (by omega)
  by_cases h119 : v < 120
  · exact nt_rg_sound nt_rn_2_119 (by omega) (by omega)
  by_cases h120 : v < 121
  · exact nt_rg_sound nt_rn_2_120 (by omega) (by omega)
  by_cases h121 : v < 122
  · exact nt_rg_sound nt_rn_2_121 (by omega) (by omega)
  by_cases h122 : v < 123
  · exact nt_rg_sound nt_rn_2_122 (by omega) (by omega)
  by_cases h123 : v < 124
  · exact nt_rg_sound nt_rn_2_123 (by omega) (by omega)
  by_cases h124 : v < 125
  · exact nt_rg_sound nt_rn_2_124 (by omega) (by omega)
  by_cases h125 : v < 126
  · exact nt_rg_sound nt_rn_2_125 (by omega) (by omega)
  by_cases h126 : v < 127
  · exact nt_rg_sound nt_rn_2_126 (by omega) (by omega)
  by_cases h127 : v < 128
  · exact nt_rg_sound nt_rn_2_127 (by omega) (by omega)
  exfalso
  omega
theorem nt_ra_3 (v : Nat) : v < 128 → nt_R3 v = true := by
  intro hv
  by_cases h0 : v < 4
  · exact nt_rg_sound nt_rn_3_0 (by omega) (by omega)
  by_cases h4 : v < 7
  · exact nt_rg_sound nt_rn_3_4 (by omega) (by omega)
  by_cases h7 : v < 10
  · exact nt_rg_sound nt_rn_3_7 (by omega) (by omega)
  by_cases h10 : v < 13
  · exact nt_rg_sound nt_rn_3_10 (by omega) (by omega)
  by_cases h13 : v < 16
  · exact nt_rg_sound nt_rn_3_13 (by omega) (by omega)
  by_cases h16 : v < 19
  · exact nt_rg_sound nt_rn_3_16 (by omega) (by omega)
  by_cases h19 : v < 20
  · exact nt_rg_sound nt_rn_3_19 (by omega) (by omega)
  by_cases h20 : v < 21
  · exact nt_rg_sound nt_rn_3_20 (by omega) (by omega)
  by_cases h21 : v < 22
  · exact nt_rg_sound nt_rn_3_21 (by omega) (by omega)
  by_cases h22 : v < 26
  · exact nt_rg_sound nt_rn_3_22 (by omega) (by omega)
  by_cases h26 : v < 27
  · exact nt_rg_sound nt_rn_3_26 (by omega) (by omega)
  by_cases h27 : v < 29
  · exact nt_rg_sound nt_rn_3_27 (by omega) (by omega)
  by_cases h29 : v < 31
  · exact nt_rg_sound nt_rn_3_29 (by omega) (by omega)
  by_cases h31 : v < 34
  · exact nt_rg_sound nt_rn_3_31 (by omega) (by omega)
  by_cases h34 : v < 37
  · exact nt_rg_sound nt_rn_3_34 (by omega) (by omega)
  by_cases h37 : v < 39
  · exact nt_rg_sound nt_rn_3_37 (by omega) (by omega)
  by_cases h39 : v < 43
  · exact nt_rg_sound nt_rn_3_39 (by omega) (by omega)
  by_cases h43 : v < 46
  · exact nt_rg_sound nt_rn_3_43 (by omega) (by omega)
  by_cases h46 : v < 50
  · exact nt_rg_sound nt_rn_3_46 (by omega) (by omega)
  by_cases h50 : v < 54
  · exact nt_rg_sound nt_rn_3_50 (by omega) (by omega)
  by_cases h54 : v < 55
  · exact nt_rg_sound nt_rn_3_54 (by omega) (by omega)
  by_cases h55 : v < 59
  · exact nt_rg_sound nt_rn_3_55 (by omega) (by omega)
  by_cases h59 : v < 62
  · exact nt_rg_sound nt_rn_3_59 (by omega) (by omega)
  by_cases h62 : v < 65
  · exact nt_rg_sound nt_rn_3_62 (by omega) (by omega)
  by_cases h65 : v < 66
  · exact nt_rg_sound nt_rn_3_65 (by omega) (by omega)
  by_cases h66 : v < 70
  · exact nt_rg_sound nt_rn_3_66 (by omega) (by omega)
  by_cases h70 : v < 73
  · exact nt_rg_sound nt_rn_3_70 (by omega) (by omega)
  by_cases h73 : v < 77
  · exact nt_rg_sound nt_rn_3_73 (by omega) (by omega)
  by_cases h77 : v < 80
  · exact nt_rg_sound nt_rn_3_77 (by omega) (by omega)
  by_cases h80 : v < 82
  · exact nt_rg_sound nt_rn_3_80 (by omega) (by omega)
  by_cases h82 : v < 85
  · exact nt_rg_sound nt_rn_3_82 (by omega) (by omega)
  by_cases h85 : v < 89
  · exact nt_rg_sound nt_rn_3_85 (by omega) (by omega)
  by_cases h89 : v < 92
  · exact nt_rg_sound nt_rn_3_89 (by omega) (by omega)
  by_cases h92 : v < 97
  · exact nt_rg_sound nt_rn_3_92 (by omega) (by omega)
  by_cases h97 : v < 101
  · exact nt_rg_sound nt_rn_3_97 (by omega) (by omega)
  by_cases h101 : v < 104
  · exact nt_rg_sound nt_rn_3_101 (by omega) (by omega)
  by_cases h104 : v < 106
  · exact nt_rg_sound nt_rn_3_104 (by omega) (by omega)
  by_cases h106 : v < 107
  · exact nt_rg_sound nt_rn_3_106 (by omega) (by omega)
  by_cases h107 : v < 109
  · exact nt_rg_sound nt_rn_3_107 (by omega) (by omega)
  by_cases h109 : v < 113
  · exact nt_rg_sound nt_rn_3_109 (by omega) (by omega)
  by_cases h113 : v < 116
  · exact nt_rg_sound nt_rn_3_113 (by omega) (by omega)
  by_cases h116 : v < 120
  · exact nt_rg_sound nt_rn_3_116 (by omega) (by omega)
  by_cases h120 : v < 124
  · exact nt_rg_sound nt_rn_3_120 (by omega) (by omega)
  by_cases h124 : v < 128
  · exact nt_rg_sound nt_rn_3_124 (by omega) (by omega)
  exfalso
  omega
theorem nt_ra_4 (v : Nat) : v < 128 → nt_R4 v = true := by
  intro hv
  by_cases h0 : v < 8
  · exact nt_rg_sound nt_rn_4_0 (by omega) (by omega)
  by_cases h8 : v < 18
  · exact nt_rg_sound nt_rn_4_8 (by omega) (by omega)
  by_cases h18 : v < 31
  · exact nt_rg_sound nt_rn_4_18 (by omega) (by omega)
  by_cases h31 : v < 44
  · exact nt_rg_sound nt_rn_4_31 (by omega) (by omega)
  by_cases h44 : v < 57
  · exact nt_rg_sound nt_rn_4_44 (by omega) (by omega)
  by_cases h57 : v < 69
  · exact nt_rg_sound nt_rn_4_57 (by omega) (by omega)
  by_cases h69 : v < 83
  · exact nt_rg_sound nt_rn_4_69 (by omega) (by omega)
  by_cases h83 : v < 94
  · exact nt_rg_sound nt_rn_4_83 (by omega) (by omega)
  by_cases h94 : v < 106
  · exact nt_rg_sound nt_rn_4_94 (by omega) (by omega)
  by_cases h106 : v < 116
  · exact nt_rg_sound nt_rn_4_106 (by omega) (by omega)
  by_cases h116 : v < 128
  · exact nt_rg_sound nt_rn_4_116 (by omega) (by omega)
  exfalso
  omega
theorem nt_ra_5 (v : Nat) : v < 128 → nt_R5 v = true := by
  intro hv
  by_cases h0 : v < 39
  · exact nt_rg_sound nt_rn_5_0 (by omega) (by omega)
  by_cases h39 : v < 77
  · exact nt_rg_sound nt_rn_5_39 (by omega) (by omega)
  by_cases h77 : v < 110
  · exact nt_rg_sound nt_rn_5_77 (by omega) (by omega)
  by_cases h110 : v < 128
  · exact nt_rg_sound nt_rn_5_110 (by omega) (by omega)
  exfalso
  omega
theorem nt_ra_6 (v : Nat) : v < 128 → nt_R6 v = true := by
  intro hv
  by_cases h0 : v < 89
  · exact nt_rg_sound nt_rn_6_0 (by omega) (by omega)
  by_cases h89 : v < 128
  · exact nt_rg_sound nt_rn_6_89 (by omega) (by omega)
  exfalso
  omega
theorem nt_ra_7 (v : Nat) : v < 128 → nt_R7 v = true := by
  intro hv
  by_cases h0 : v < 128
  · exact nt_rg_sound nt_rn_7_0 (by omega) (by omega)
  exfalso
  omega
theorem nt_ra_8 (v : Nat) : v < 128 → nt_R8 v = true := by
  intro hv
  by_cases h0 : v < 128
  · exact nt_rg_sound nt_rn_8_0 (by omega) (by omega)
  exfalso
  omega
