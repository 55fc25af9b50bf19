theorem nt_ka_0_1_4 : ∀ k, 0 < k → k < 1774 → nt_kbD 1 4 nt_kt_1_4 30000000000 50000000000 4699786 (6 * k) = true := by
  intro k h0 h1
  by_cases c0 : k < 152
  · exact nt_kbR_sound nt_kr_0_1_4_0 (by omega) (by omega)
  by_cases c1 : k < 162
  · exact nt_kbR_sound nt_kr_0_1_4_1 (by omega) (by omega)
  by_cases c2 : k < 170
  · exact nt_kbR_sound nt_kr_0_1_4_2 (by omega) (by omega)
  by_cases c3 : k < 177
  · exact nt_kbR_sound nt_kr_0_1_4_3 (by omega) (by omega)
  by_cases c4 : k < 183
  · exact nt_kbR_sound nt_kr_0_1_4_4 (by omega) (by omega)
  by_cases c5 : k < 189
  · exact nt_kbR_sound nt_kr_0_1_4_5 (by omega) (by omega)
  by_cases c6 : k < 194
  · exact nt_kbR_sound nt_kr_0_1_4_6 (by omega) (by omega)
  by_cases c7 : k < 199
  · exact nt_kbR_sound nt_kr_0_1_4_7 (by omega) (by omega)
  by_cases c8 : k < 204
  · exact nt_kbR_sound nt_kr_0_1_4_8 (by omega) (by omega)
  by_cases c9 : k < 209
  · exact nt_kbR_sound nt_kr_0_1_4_9 (by omega) (by omega)
  by_cases c10 : k < 214
  · exact nt_kbR_sound nt_kr_0_1_4_10 (by omega) (by omega)
  by_cases c11 : k < 218
  · exact nt_kbR_sound nt_kr_0_1_4_11 (by omega) (by omega)
  by_cases c12 : k < 222
  · exact nt_kbR_sound nt_kr_0_1_4_12 (by omega) (by omega)
  by_cases c13 : k < 226
  · exact nt_kbR_sound nt_kr_0_1_4_13 (by omega) (by omega)
  by_cases c14 : k < 231
  · exact nt_kbR_sound nt_kr_0_1_4_14 (by omega) (by omega)
  by_cases c15 : k < 236
  · exact nt_kbR_sound nt_kr_0_1_4_15 (by omega) (by omega)
  by_cases c16 : k < 241
  · exact nt_kbR_sound nt_kr_0_1_4_16 (by omega) (by omega)
  by_cases c17 : k < 246
  · exact nt_kbR_sound nt_kr_0_1_4_17 (by omega) (by omega)
  by_cases c18 : k < 251
  · exact nt_kbR_sound nt_kr_0_1_4_18 (by omega) (by omega)
  by_cases c19 : k < 256
  · exact nt_kbR_sound nt_kr_0_1_4_19 (by omega) (by omega)
  by_cases c20 : k < 261
  · exact nt_kbR_sound nt_kr_0_1_4_20 (by omega) (by omega)
  by_cases c21 : k < 266
  · exact nt_kbR_sound nt_kr_0_1_4_21 (by omega) (by omega)
  by_cases c22 : k < 271
  · exact nt_kbR_sound nt_kr_0_1_4_22 (by omega) (by omega)
  by_cases c23 : k < 276
  · exact nt_kbR_sound nt_kr_0_1_4_23 (by omega) (by omega)
  by_cases c24 : k < 281
  · exact nt_kbR_sound nt_kr_0_1_4_24 (by omega) (by omega)
  by_cases c25 : k < 287
  · exact nt_kbR_sound nt_kr_0_1_4_25 (by omega) (by omega)
  by_cases c26 : k < 293
  · exact nt_kbR_sound nt_kr_0_1_4_26 (by omega) (by omega)
  by_cases c27 : k < 299
  · exact nt_kbR_sound nt_kr_0_1_4_27 (by omega) (by omega)
  by_cases c28 : k < 305
  · exact nt_kbR_sound nt_kr_0_1_4_28 (by omega) (by omega)
  by_cases c29 : k < 311
  · exact nt_kbR_sound nt_kr_0_1_4_29 (by omega) (by omega)
  by_cases c30 : k < 317
  · exact nt_kbR_sound nt_kr_0_1_4_30 (by omega) (by omega)
  by_cases c31 : k < 323
  · exact nt_kbR_sound nt_kr_0_1_4_31 (by omega) (by omega)
  by_cases c32 : k < 329
  · exact nt_kbR_sound nt_kr_0_1_4_32 (by omega) (by omega)
  by_cases c33 : k < 335
  · exact nt_kbR_sound nt_kr_0_1_4_33 (by omega) (by omega)
  by_cases c34 : k < 341
  · exact nt_kbR_sound nt_kr_0_1_4_34 (by omega) (by omega)
  by_cases c35 : k < 348
  · exact nt_kbR_sound nt_kr_0_1_4_35 (by omega) (by omega)
  by_cases c36 : k < 355
  · exact nt_kbR_sound nt_kr_0_1_4_36 (by omega) (by omega)
  by_cases c37 : k < 362
  · exact nt_kbR_sound nt_kr_0_1_4_37 (by omega) (by omega)
  by_cases c38 : k < 369
  · exact nt_kbR_sound nt_kr_0_1_4_38 (by omega) (by omega)
  by_cases c39 : k < 376
  · exact nt_kbR_sound nt_kr_0_1_4_39 (by omega) (by omega)
  by_cases c40 : k < 383
  · exact nt_kbR_sound nt_kr_0_1_4_40 (by omega) (by omega)
  by_cases c41 : k < 390
  · exact nt_kbR_sound nt_kr_0_1_4_41 (by omega) (by omega)
  by_cases c42 : k < 397
  · exact nt_kbR_sound nt_kr_0_1_4_42 (by omega) (by omega)
  by_cases c43 : k < 405
  · exact nt_kbR_sound nt_kr_0_1_4_43 (by omega) (by omega)
  by_cases c44 : k < 413
  · exact nt_kbR_sound nt_kr_0_1_4_44 (by omega) (by omega)
  by_cases c45 : k < 421
  · exact nt_kbR_sound nt_kr_0_1_4_45 (by omega) (by omega)
  by_cases c46 : k < 429
  · exact nt_kbR_sound nt_kr_0_1_4_46 (by omega) (by omega)
  by_cases c47 : k < 437
  · exact nt_kbR_sound nt_kr_0_1_4_47 (by omega) (by omega)
  by_cases c48 : k < 445
  · exact nt_kbR_sound nt_kr_0_1_4_48 (by omega) (by omega)
  by_cases c49 : k < 453
  · exact nt_kbR_sound nt_kr_0_1_4_49 (by omega) (by omega)
  by_cases c50 : k < 462
  · exact nt_kbR_sound nt_kr_0_1_4_50 (by omega) (by omega)
  by_cases c51 : k < 471
  · exact nt_kbR_sound nt_kr_0_1_4_51 (by omega) (by omega)
  by_cases c52 : k < 480
  · exact nt_kbR_sound nt_kr_0_1_4_52 (by omega) (by omega)
  by_cases c53 : k < 489
  · exact nt_kbR_sound nt_kr_0_1_4_53 (by omega) (by omega)
  by_cases c54 : k < 498
  · exact nt_kbR_sound nt_kr_0_1_4_54 (by omega) (by omega)
  by_cases c55 : k < 507
  · exact nt_kbR_sound nt_kr_0_1_4_55 (by omega) (by omega)
  by_cases c56 : k < 517
  · exact nt_kbR_sound nt_kr_0_1_4_56 (by omega) (by omega)
  by_cases c57 : k < 527
  · exact nt_kbR_sound nt_kr_0_1_4_57 (by omega) (by omega)
  by_cases c58 : k < 537
  · exact nt_kbR_sound nt_kr_0_1_4_58 (by omega) (by omega)
  by_cases c59 : k < 547
  · exact nt_kbR_sound nt_kr_0_1_4_59 (by omega) (by omega)
  by_cases c60 : k < 557
  · exact nt_kbR_sound nt_kr_0_1_4_60 (by omega) (by omega)
  by_cases c61 : k < 567
  · exact nt_kbR_sound nt_kr_0_1_4_61 (by omega) (by omega)
  by_cases c62 : k < 578
  · exact nt_kbR_sound nt_kr_0_1_4_62 (by omega) (by omega)
  by_cases c63 : k < 589
  · exact nt_kbR_sound nt_kr_0_1_4_63 (by omega) (by omega)
  by_cases c64 : k < 600
  · exact nt_kbR_sound nt_kr_0_1_4_64 (by omega) (by omega)
  by_cases c65 : k < 611
  · exact nt_kbR_sound nt_kr_0_1_4_65 (by omega) (by omega)
  by_cases c66 : k < 622
  · exact nt_kbR_sound nt_kr_0_1_4_66 (by omega) (by omega)
  by_cases c67 : k < 634
  · exact nt_kbR_sound nt_kr_0_1_4_67 (by omega) (by omega)
  by_cases c68 : k < 646
  · exact nt_kbR_sound nt_kr_0_1_4_68 (by omega) (by omega)
  by_cases c69 : k < 658
  · exact nt_kbR_sound nt_kr_0_1_4_69 (by omega) (by omega)
  by_cases c70 : k < 670
  · exact nt_kbR_sound nt_kr_0_1_4_70 (by omega) (by omega)
  by_cases c71 : k < 682
  · exact nt_kbR_sound nt_kr_0_1_4_71 (by omega) (by omega)
  by_cases c72 : k < 695
  · exact nt_kbR_sound nt_kr_0_1_4_72 (by omega) (by omega)
  by_cases c73 : k < 708
  · exact nt_kbR_sound nt_kr_0_1_4_73 (by omega) (by omega)
  by_cases c74 : k < 721
  · exact nt_kbR_sound nt_kr_0_1_4_74 (by omega) (by omega)
  by_cases c75 : k < 734
  · exact nt_kbR_sound nt_kr_0_1_4_75 (by omega) (by omega)
  by_cases c76 : k < 748
  · exact nt_kbR_sound nt_kr_0_1_4_76 (by omega) (by omega)
  by_cases c77 : k < 762
  · exact nt_kbR_sound nt_kr_0_1_4_77 (by omega) (by omega)
  by_cases c78 : k < 776
  · exact nt_kbR_sound nt_kr_0_1_4_78 (by omega) (by omega)
  by_cases c79 : k < 790
  · exact nt_kbR_sound nt_kr_0_1_4_79 (by omega) (by omega)
  by_cases c80 : k < 805
  · exact nt_kbR_sound nt_kr_0_1_4_80 (by omega) (by omega)
  by_cases c81 : k < 820
  · exact nt_kbR_sound nt_kr_0_1_4_81 (by omega) (by omega)
  by_cases c82 : k < 835
  · exact nt_kbR_sound nt_kr_0_1_4_82 (by omega) (by omega)
  by_cases c83 : k < 850
  · exact nt_kbR_sound nt_kr_0_1_4_83 (by omega) (by omega)
  by_cases c84 : k < 866
  · exact nt_kbR_sound nt_kr_0_1_4_84 (by omega) (by omega)
  by_cases c85 : k < 882
  · exact nt_kbR_sound nt_kr_0_1_4_85 (by omega) (by omega)
  by_cases c86 : k < 898
  · exact nt_kbR_sound nt_kr_0_1_4_86 (by omega) (by omega)
  by_cases c87 : k < 915
  · exact nt_kbR_sound nt_kr_0_1_4_87 (by omega) (by omega)
  by_cases c88 : k < 932
  · exact nt_kbR_sound nt_kr_0_1_4_88 (by omega) (by omega)
  by_cases c89 : k < 949
  · exact nt_kbR_sound nt_kr_0_1_4_89 (by omega) (by omega)
  by_cases c90 : k < 966
  · exact nt_kbR_sound nt_kr_0_1_4_90 (by omega) (by omega)
  by_cases c91 : k < 984
  · exact nt_kbR_sound nt_kr_0_1_4_91 (by omega) (by omega)
  by_cases c92 : k < 1002
  · exact nt_kbR_sound nt_kr_0_1_4_92 (by omega) (by omega)
  by_cases c93 : k < 1020
  · exact nt_kbR_sound nt_kr_0_1_4_93 (by omega) (by omega)
  by_cases c94 : k < 1039
  · exact nt_kbR_sound nt_kr_0_1_4_94 (by omega) (by omega)
  by_cases c95 : k < 1058
  · exact nt_kbR_sound nt_kr_0_1_4_95 (by omega) (by omega)
  by_cases c96 : k < 1077
  · exact nt_kbR_sound nt_kr_0_1_4_96 (by omega) (by omega)
  by_cases c97 : k < 1097
  · exact nt_kbR_sound nt_kr_0_1_4_97 (by omega) (by omega)
  by_cases c98 : k < 1118
  · exact nt_kbR_sound nt_kr_0_1_4_98 (by omega) (by omega)
  by_cases c99 : k < 1140
  · exact nt_kbR_sound nt_kr_0_1_4_99 (by omega) (by omega)
  by_cases c100 : k < 1164
  · exact nt_kbR_sound nt_kr_0_1_4_100 (by omega) (by omega)
  by_cases c101 : k < 1189
  · exact nt_kbR_sound nt_kr_0_1_4_101 (by omega) (by omega)
  by_cases c102 : k < 1216
  · exact nt_kbR_sound nt_kr_0_1_4_102 (by omega) (by omega)
  by_cases c103 : k < 1245
  · exact nt_kbR_sound nt_kr_0_1_4_103 (by omega) (by omega)
  by_cases c104 : k < 1276
  · exact nt_kbR_sound nt_kr_0_1_4_104 (by omega) (by omega)
  by_cases c105 : k < 1310
  · exact nt_kbR_sound nt_kr_0_1_4_105 (by omega) (by omega)
  by_cases c106 : k < 1348
  · exact nt_kbR_sound nt_kr_0_1_4_106 (by omega) (by omega)
  by_cases c107 : k < 1388
  · exact nt_kbR_sound nt_kr_0_1_4_107 (by omega) (by omega)
  by_cases c108 : k < 1428
  · exact nt_kbR_sound nt_kr_0_1_4_108 (by omega) (by omega)
  by_cases c109 : k < 1468
  · exact nt_kbR_sound nt_kr_0_1_4_109 (by omega) (by omega)
  by_cases c110 : k < 1508
  · exact nt_kbR_sound nt_kr_0_1_4_110 (by omega) (by omega)
  by_cases c111 : k < 1548
  · exact nt_kbR_sound nt_kr_0_1_4_111 (by omega) (by omega)
  by_cases c112 : k < 1588
  · exact nt_kbR_sound nt_kr_0_1_4_112 (by omega) (by omega)
  by_cases c113 : k < 1628
  · exact nt_kbR_sound nt_kr_0_1_4_113 (by omega) (by omega)
  by_cases c114 : k < 1668
  · exact nt_kbR_sound nt_kr_0_1_4_114 (by omega) (by omega)
  by_cases c115 : k < 1708
  · exact nt_kbR_sound nt_kr_0_1_4_115 (by omega) (by omega)
  by_cases c116 : k < 1748
  · exact nt_kbR_sound nt_kr_0_1_4_116 (by omega) (by omega)
  exact nt_kbR_sound nt_kr_0_1_4_117 (by omega) (by omega)
theorem nt_ka_0_1_10 : ∀ k, 0 < k → k < 887 → nt_kbD 1 10 nt_kt_1_10 30000000000 50000000000 4699786 (12 * k) = true := by
  intro k h0 h1
  by_cases c0 : k < 81
  · exact nt_kbR_sound nt_kr_0_1_10_0 (by omega) (by omega)
  by_cases c1 : k < 88
  · exact nt_kbR_sound nt_kr_0_1_10_1 (by omega) (by omega)
  by_cases c2 : k < 94
  · exact nt_kbR_sound nt_kr_0_1_10_2 (by omega) (by omega)
  by_cases c3 : k < 99
  · exact nt_kbR_sound nt_kr_0_1_10_3 (by omega) (by omega)
  by_cases c4 : k < 104
  · exact nt_kbR_sound nt_kr_0_1_10_4 (by omega) (by omega)
  by_cases c5 : k < 109
  · exact nt_kbR_sound nt_kr_0_1_10_5 (by omega) (by omega)
  by_cases c6 : k < 113
  · exact nt_kbR_sound nt_kr_0_1_10_6 (by omega) (by omega)
  by_cases c7 : k < 118
  · exact nt_kbR_sound nt_kr_0_1_10_7 (by omega) (by omega)
  by_cases c8 : k < 123
  · exact nt_kbR_sound nt_kr_0_1_10_8 (by omega) (by omega)
  by_cases c9 : k < 128
  · exact nt_kbR_sound nt_kr_0_1_10_9 (by omega) (by omega)
  by_cases c10 : k < 133
  · exact nt_kbR_sound nt_kr_0_1_10_10 (by omega) (by omega)
  by_cases c11 : k < 138
  · exact nt_kbR_sound nt_kr_0_1_10_11 (by omega) (by omega)
  by_cases c12 : k < 143
  · exact nt_kbR_sound nt_kr_0_1_10_12 (by omega) (by omega)
  by_cases c13 : k < 149
  · exact nt_kbR_sound nt_kr_0_1_10_13 (by omega) (by omega)
  by_cases c14 : k < 155
  · exact nt_kbR_sound nt_kr_0_1_10_14 (by omega) (by omega)
  by_cases c15 : k < 161
  · exact nt_kbR_sound nt_kr_0_1_10_15 (by omega) (by omega)
  by_cases c16 : k < 167
  · exact nt_kbR_sound nt_kr_0_1_10_16 (by omega) (by omega)
  by_cases c17 : k < 174
  · exact nt_kbR_sound nt_kr_0_1_10_17 (by omega) (by omega)
  by_cases c18 : k < 181
  · exact nt_kbR_sound nt_kr_0_1_10_18 (by omega) (by omega)
  by_cases c19 : k < 188
  · exact nt_kbR_sound nt_kr_0_1_10_19 (by omega) (by omega)
  by_cases c20 : k < 195
  · exact nt_kbR_sound nt_kr_0_1_10_20 (by omega) (by omega)
  by_cases c21 : k < 203
  · exact nt_kbR_sound nt_kr_0_1_10_21 (by omega) (by omega)
  by_cases c22 : k < 211
  · exact nt_kbR_sound nt_kr_0_1_10_22 (by omega) (by omega)
  by_cases c23 : k < 219
  · exact nt_kbR_sound nt_kr_0_1_10_23 (by omega) (by omega)
  by_cases c24 : k < 227
  · exact nt_kbR_sound nt_kr_0_1_10_24 (by omega) (by omega)
  by_cases c25 : k < 236
  · exact nt_kbR_sound nt_kr_0_1_10_25 (by omega) (by omega)
  by_cases c26 : k < 245
  · exact nt_kbR_sound nt_kr_0_1_10_26 (by omega) (by omega)
  by_cases c27 : k < 254
  · exact nt_kbR_sound nt_kr_0_1_10_27 (by omega) (by omega)
  by_cases c28 : k < 264
  · exact nt_kbR_sound nt_kr_0_1_10_28 (by omega) (by omega)
  by_cases c29 : k < 274
  · exact nt_kbR_sound nt_kr_0_1_10_29 (by omega) (by omega)
  by_cases c30 : k < 284
  · exact nt_kbR_sound nt_kr_0_1_10_30 (by omega) (by omega)
  by_cases c31 : k < 295
  · exact nt_kbR_sound nt_kr_0_1_10_31 (by omega) (by omega)
  by_cases c32 : k < 306
  · exact nt_kbR_sound nt_kr_0_1_10_32 (by omega) (by omega)
  by_cases c33 : k < 318
  · exact nt_kbR_sound nt_kr_0_1_10_33 (by omega) (by omega)
  by_cases c34 : k < 330
  · exact nt_kbR_sound nt_kr_0_1_10_34 (by omega) (by omega)
  by_cases c35 : k < 342
  · exact nt_kbR_sound nt_kr_0_1_10_35 (by omega) (by omega)
  by_cases c36 : k < 355
  · exact nt_kbR_sound nt_kr_0_1_10_36 (by omega) (by omega)
  by_cases c37 : k < 368
  · exact nt_kbR_sound nt_kr_0_1_10_37 (by omega) (by omega)
  by_cases c38 : k < 382
  · exact nt_kbR_sound nt_kr_0_1_10_38 (by omega) (by omega)
  by_cases c39 : k < 396
  · exact nt_kbR_sound nt_kr_0_1_10_39 (by omega) (by omega)
  by_cases c40 : k < 411
  · exact nt_kbR_sound nt_kr_0_1_10_40 (by omega) (by omega)
  by_cases c41 : k < 426
  · exact nt_kbR_sound nt_kr_0_1_10_41 (by omega) (by omega)
  by_cases c42 : k < 442
  · exact nt_kbR_sound nt_kr_0_1_10_42 (by omega) (by omega)
  by_cases c43 : k < 458
  · exact nt_kbR_sound nt_kr_0_1_10_43 (by omega) (by omega)
  by_cases c44 : k < 475
  · exact nt_kbR_sound nt_kr_0_1_10_44 (by omega) (by omega)
  by_cases c45 : k < 493
  · exact nt_kbR_sound nt_kr_0_1_10_45 (by omega) (by omega)
  by_cases c46 : k < 511
  · exact nt_kbR_sound nt_kr_0_1_10_46 (by omega) (by omega)
  by_cases c47 : k < 530
  · exact nt_kbR_sound nt_kr_0_1_10_47 (by omega) (by omega)
  by_cases c48 : k < 550
  · exact nt_kbR_sound nt_kr_0_1_10_48 (by omega) (by omega)
  by_cases c49 : k < 572
  · exact nt_kbR_sound nt_kr_0_1_10_49 (by omega) (by omega)
  by_cases c50 : k < 597
  · exact nt_kbR_sound nt_kr_0_1_10_50 (by omega) (by omega)
  by_cases c51 : k < 625
  · exact nt_kbR_sound nt_kr_0_1_10_51 (by omega) (by omega)
  by_cases c52 : k < 658
  · exact nt_kbR_sound nt_kr_0_1_10_52 (by omega) (by omega)
  by_cases c53 : k < 698
  · exact nt_kbR_sound nt_kr_0_1_10_53 (by omega) (by omega)
  by_cases c54 : k < 738
  · exact nt_kbR_sound nt_kr_0_1_10_54 (by omega) (by omega)
  by_cases c55 : k < 778
  · exact nt_kbR_sound nt_kr_0_1_10_55 (by omega) (by omega)
  by_cases c56 : k < 818
  · exact nt_kbR_sound nt_kr_0_1_10_56 (by omega) (by omega)
  by_cases c57 : k < 858
  · exact nt_kbR_sound nt_kr_0_1_10_57 (by omega) (by omega)
  exact nt_kbR_sound nt_kr_0_1_10_58 (by omega) (by omega)
theorem nt_ka_0_5_8 : ∀ k, 0 < k → k < 1774 → nt_kbD 5 8 nt_kt_5_8 30000000000 50000000000 4699786 (6 * k) = true := by
  intro k h0 h1
  by_cases c0 : k < 691
  · exact nt_kbR_sound nt_kr_0_5_8_0 (by omega) (by omega)
  by_cases c1 : k < 731
  · exact nt_kbR_sound nt_kr_0_5_8_1 (by omega) (by omega)
  by_cases c2 : k < 771
  · exact nt_kbR_sound nt_kr_0_5_8_2 (by omega) (by omega)
  by_cases c3 : k < 811
  · exact nt_kbR_sound nt_kr_0_5_8_3 (by omega) (by omega)
  by_cases c4 : k < 847
  · exact nt_kbR_sound nt_kr_0_5_8_4 (by omega) (by omega)
  by_cases c5 : k < 879
  · exact nt_kbR_sound nt_kr_0_5_8_5 (by omega) (by omega)
  by_cases c6 : k < 908
  · exact nt_kbR_sound nt_kr_0_5_8_6 (by omega) (by omega)
  by_cases c7 : k < 935
  · exact nt_kbR_sound nt_kr_0_5_8_7 (by omega) (by omega)
  by_cases c8 : k < 960
  · exact nt_kbR_sound nt_kr_0_5_8_8 (by omega) (by omega)
  by_cases c9 : k < 984
  · exact nt_kbR_sound nt_kr_0_5_8_9 (by omega) (by omega)
  by_cases c10 : k < 1007
  · exact nt_kbR_sound nt_kr_0_5_8_10 (by omega) (by omega)
  by_cases c11 : k < 1029
  · exact nt_kbR_sound nt_kr_0_5_8_11 (by omega) (by omega)
  by_cases c12 : k < 1050
  · exact nt_kbR_sound nt_kr_0_5_8_12 (by omega) (by omega)
  by_cases c13 : k < 1070
  · exact nt_kbR_sound nt_kr_0_5_8_13 (by omega) (by omega)
  by_cases c14 : k < 1090
  · exact nt_kbR_sound nt_kr_0_5_8_14 (by omega) (by omega)
  by_cases c15 : k < 1111
  · exact nt_kbR_sound nt_kr_0_5_8_15 (by omega) (by omega)
  by_cases c16 : k < 1133
  · exact nt_kbR_sound nt_kr_0_5_8_16 (by omega) (by omega)
  by_cases c17 : k < 1156
  · exact nt_kbR_sound nt_kr_0_5_8_17 (by omega) (by omega)
  by_cases c18 : k < 1181
  · exact nt_kbR_sound nt_kr_0_5_8_18 (by omega) (by omega)
  by_cases c19 : k < 1207
  · exact nt_kbR_sound nt_kr_0_5_8_19 (by omega) (by omega)
  by_cases c20 : k < 1235
  · exact nt_kbR_sound nt_kr_0_5_8_20 (by omega) (by omega)
  by_cases c21 : k < 1265
  · exact nt_kbR_sound nt_kr_0_5_8_21 (by omega) (by omega)
  by_cases c22 : k < 1298
  · exact nt_kbR_sound nt_kr_0_5_8_22 (by omega) (by omega)
  by_cases c23 : k < 1335
  · exact nt_kbR_sound nt_kr_0_5_8_23 (by omega) (by omega)
  by_cases c24 : k < 1375
  · exact nt_kbR_sound nt_kr_0_5_8_24 (by omega) (by omega)
  by_cases c25 : k < 1415
  · exact nt_kbR_sound nt_kr_0_5_8_25 (by omega) (by omega)
  by_cases c26 : k < 1455
  · exact nt_kbR_sound nt_kr_0_5_8_26 (by omega) (by omega)
  by_cases c27 : k < 1495
  · exact nt_kbR_sound nt_kr_0_5_8_27 (by omega) (by omega)
  by_cases c28 : k < 1535
  · exact nt_kbR_sound nt_kr_0_5_8_28 (by omega) (by omega)
  by_cases c29 : k < 1575
  · exact nt_kbR_sound nt_kr_0_5_8_29 (by omega) (by omega)
  by_cases c30 : k < 1615
  · exact nt_kbR_sound nt_kr_0_5_8_30 (by omega) (by omega)
  by_cases c31 : k < 1655
  · exact nt_kbR_sound nt_kr_0_5_8_31 (by omega) (by omega)
  by_cases c32 : k < 1695
  · exact nt_kbR_sound nt_kr_0_5_8_32 (by omega) (by omega)
  by_cases c33 : k < 1735
  · exact nt_kbR_sound nt_kr_0_5_8_33 (by omega) (by omega)
  exact nt_kbR_sound nt_kr_0_5_8_34 (by omega) (by omega)
theorem nt_ka_0_5_2 : ∀ k, 0 < k → k < 887 → nt_kbD 5 2 nt_kt_5_2 30000000000 50000000000 4699786 (12 * k) = true := by
  intro k h0 h1
  by_cases c0 : k < 366
  · exact nt_kbR_sound nt_kr_0_5_2_0 (by omega) (by omega)
  by_cases c1 : k < 406
  · exact nt_kbR_sound nt_kr_0_5_2_1 (by omega) (by omega)
  by_cases c2 : k < 440
  · exact nt_kbR_sound nt_kr_0_5_2_2 (by omega) (by omega)
  by_cases c3 : k < 468
  · exact nt_kbR_sound nt_kr_0_5_2_3 (by omega) (by omega)
  by_cases c4 : k < 492
  · exact nt_kbR_sound nt_kr_0_5_2_4 (by omega) (by omega)
  by_cases c5 : k < 514
  · exact nt_kbR_sound nt_kr_0_5_2_5 (by omega) (by omega)
  by_cases c6 : k < 535
  · exact nt_kbR_sound nt_kr_0_5_2_6 (by omega) (by omega)
  by_cases c7 : k < 556
  · exact nt_kbR_sound nt_kr_0_5_2_7 (by omega) (by omega)
  by_cases c8 : k < 579
  · exact nt_kbR_sound nt_kr_0_5_2_8 (by omega) (by omega)
  by_cases c9 : k < 605
  · exact nt_kbR_sound nt_kr_0_5_2_9 (by omega) (by omega)
  by_cases c10 : k < 635
  · exact nt_kbR_sound nt_kr_0_5_2_10 (by omega) (by omega)
  by_cases c11 : k < 670
  · exact nt_kbR_sound nt_kr_0_5_2_11 (by omega) (by omega)
  by_cases c12 : k < 710
  · exact nt_kbR_sound nt_kr_0_5_2_12 (by omega) (by omega)
  by_cases c13 : k < 750
  · exact nt_kbR_sound nt_kr_0_5_2_13 (by omega) (by omega)
  by_cases c14 : k < 790
  · exact nt_kbR_sound nt_kr_0_5_2_14 (by omega) (by omega)
  by_cases c15 : k < 830
  · exact nt_kbR_sound nt_kr_0_5_2_15 (by omega) (by omega)
  by_cases c16 : k < 870
  · exact nt_kbR_sound nt_kr_0_5_2_16 (by omega) (by omega)
  exact nt_kbR_sound nt_kr_0_5_2_17 (by omega) (by omega)
theorem nt_ka_0_7_4 : ∀ k, 0 < k → k < 1774 → nt_kbD 7 4 nt_kt_7_4 30000000000 50000000000 4699786 (6 * k) = true := by
  intro k h0 h1
  by_cases c0 : k < 951
  · exact nt_kbR_sound nt_kr_0_7_4_0 (by omega) (by omega)
  by_cases c1 : k < 991
  · exact nt_kbR_sound nt_kr_0_7_4_1 (by omega) (by omega)
  by_cases c2 : k < 1031
  · exact nt_kbR_sound nt_kr_0_7_4_2 (by omega) (by omega)
  by_cases c3 : k < 1071
  · exact nt_kbR_sound nt_kr_0_7_4_3 (by omega) (by omega)
  by_cases c4 : k < 1111
  · exact nt_kbR_sound nt_kr_0_7_4_4 (by omega) (by omega)
  by_cases c5 : k < 1151
  · exact nt_kbR_sound nt_kr_0_7_4_5 (by omega) (by omega)
  by_cases c6 : k < 1191
  · exact nt_kbR_sound nt_kr_0_7_4_6 (by omega) (by omega)
  by_cases c7 : k < 1231
  · exact nt_kbR_sound nt_kr_0_7_4_7 (by omega) (by omega)
  by_cases c8 : k < 1271
  · exact nt_kbR_sound nt_kr_0_7_4_8 (by omega) (by omega)
  by_cases c9 : k < 1311
  · exact nt_kbR_sound nt_kr_0_7_4_9 (by omega) (by omega)
  by_cases c10 : k < 1351
  · exact nt_kbR_sound nt_kr_0_7_4_10 (by omega) (by omega)
  by_cases c11 : k < 1391
  · exact nt_kbR_sound nt_kr_0_7_4_11 (by omega) (by omega)
  by_cases c12 : k < 1431
  · exact nt_kbR_sound nt_kr_0_7_4_12 (by omega) (by omega)
  by_cases c13 : k < 1471
  · exact nt_kbR_sound nt_kr_0_7_4_13 (by omega) (by omega)
  by_cases c14 : k < 1511
  · exact nt_kbR_sound nt_kr_0_7_4_14 (by omega) (by omega)
  by_cases c15 : k < 1551
  · exact nt_kbR_sound nt_kr_0_7_4_15 (by omega) (by omega)
  by_cases c16 : k < 1591
  · exact nt_kbR_sound nt_kr_0_7_4_16 (by omega) (by omega)
  by_cases c17 : k < 1631
  · exact nt_kbR_sound nt_kr_0_7_4_17 (by omega) (by omega)
  by_cases c18 : k < 1671
  · exact nt_kbR_sound nt_kr_0_7_4_18 (by omega) (by omega)
  by_cases c19 : k < 1711
  · exact nt_kbR_sound nt_kr_0_7_4_19 (by omega) (by omega)
  by_cases c20 : k < 1751
  · exact nt_kbR_sound nt_kr_0_7_4_20 (by omega) (by omega)
  exact nt_kbR_sound nt_kr_0_7_4_21 (by omega) (by omega)
theorem nt_ka_0_7_10 : ∀ k, 0 < k → k < 887 → nt_kbD 7 10 nt_kt_7_10 30000000000 50000000000 4699786 (12 * k) = true := by
  intro k h0 h1
  by_cases c0 : k < 496
  · exact nt_kbR_sound nt_kr_0_7_10_0 (by omega) (by omega)
  by_cases c1 : k < 536
  · exact nt_kbR_sound nt_kr_0_7_10_1 (by omega) (by omega)
  by_cases c2 : k < 576
  · exact nt_kbR_sound nt_kr_0_7_10_2 (by omega) (by omega)
  by_cases c3 : k < 616
  · exact nt_kbR_sound nt_kr_0_7_10_3 (by omega) (by omega)
  by_cases c4 : k < 656
  · exact nt_kbR_sound nt_kr_0_7_10_4 (by omega) (by omega)
  by_cases c5 : k < 696
  · exact nt_kbR_sound nt_kr_0_7_10_5 (by omega) (by omega)
  by_cases c6 : k < 736
  · exact nt_kbR_sound nt_kr_0_7_10_6 (by omega) (by omega)
  by_cases c7 : k < 776
  · exact nt_kbR_sound nt_kr_0_7_10_7 (by omega) (by omega)
  by_cases c8 : k < 816
  · exact nt_kbR_sound nt_kr_0_7_10_8 (by omega) (by omega)
  by_cases c9 : k < 856
  · exact nt_kbR_sound nt_kr_0_7_10_9 (by omega) (by omega)
  exact nt_kbR_sound nt_kr_0_7_10_10 (by omega) (by omega)
theorem nt_ka_1_1_4 : ∀ k, 0 < k → k < 2374 → nt_kbD 1 4 nt_kt_1_4 50000000000 80000000000 5616826 (6 * k) = true := by
  intro k h0 h1
  by_cases c0 : k < 402
  · exact nt_kbR_sound nt_kr_1_1_4_0 (by omega) (by omega)
  by_cases c1 : k < 423
  · exact nt_kbR_sound nt_kr_1_1_4_1 (by omega) (by omega)
  by_cases c2 : k < 439
  · exact nt_kbR_sound nt_kr_1_1_4_2 (by omega) (by omega)
  by_cases c3 : k < 453
  · exact nt_kbR_sound nt_kr_1_1_4_3 (by omega) (by omega)
  by_cases c4 : k < 466
  · exact nt_kbR_sound nt_kr_1_1_4_4 (by omega) (by omega)
  by_cases c5 : k < 477
  · exact nt_kbR_sound nt_kr_1_1_4_5 (by omega) (by omega)
  by_cases c6 : k < 488
  · exact nt_kbR_sound nt_kr_1_1_4_6 (by omega) (by omega)
  by_cases c7 : k < 498
  · exact nt_kbR_sound nt_kr_1_1_4_7 (by omega) (by omega)
  by_cases c8 : k < 508
  · exact nt_kbR_sound nt_kr_1_1_4_8 (by omega) (by omega)
  by_cases c9 : k < 517
  · exact nt_kbR_sound nt_kr_1_1_4_9 (by omega) (by omega)
  by_cases c10 : k < 526
  · exact nt_kbR_sound nt_kr_1_1_4_10 (by omega) (by omega)
  by_cases c11 : k < 535
  · exact nt_kbR_sound nt_kr_1_1_4_11 (by omega) (by omega)
  by_cases c12 : k < 543
  · exact nt_kbR_sound nt_kr_1_1_4_12 (by omega) (by omega)
  by_cases c13 : k < 551
  · exact nt_kbR_sound nt_kr_1_1_4_13 (by omega) (by omega)
  by_cases c14 : k < 559
  · exact nt_kbR_sound nt_kr_1_1_4_14 (by omega) (by omega)
  by_cases c15 : k < 567
  · exact nt_kbR_sound nt_kr_1_1_4_15 (by omega) (by omega)
  by_cases c16 : k < 574
  · exact nt_kbR_sound nt_kr_1_1_4_16 (by omega) (by omega)
  by_cases c17 : k < 581
  · exact nt_kbR_sound nt_kr_1_1_4_17 (by omega) (by omega)
  by_cases c18 : k < 588
  · exact nt_kbR_sound nt_kr_1_1_4_18 (by omega) (by omega)
  by_cases c19 : k < 595
  · exact nt_kbR_sound nt_kr_1_1_4_19 (by omega) (by omega)
  by_cases c20 : k < 603
  · exact nt_kbR_sound nt_kr_1_1_4_20 (by omega) (by omega)
  by_cases c21 : k < 611
  · exact nt_kbR_sound nt_kr_1_1_4_21 (by omega) (by omega)
  by_cases c22 : k < 619
  · exact nt_kbR_sound nt_kr_1_1_4_22 (by omega) (by omega)
  by_cases c23 : k < 627
  · exact nt_kbR_sound nt_kr_1_1_4_23 (by omega) (by omega)
  by_cases c24 : k < 635
  · exact nt_kbR_sound nt_kr_1_1_4_24 (by omega) (by omega)
  by_cases c25 : k < 643
  · exact nt_kbR_sound nt_kr_1_1_4_25 (by omega) (by omega)
  by_cases c26 : k < 651
  · exact nt_kbR_sound nt_kr_1_1_4_26 (by omega) (by omega)
  by_cases c27 : k < 659
  · exact nt_kbR_sound nt_kr_1_1_4_27 (by omega) (by omega)
  by_cases c28 : k < 667
  · exact nt_kbR_sound nt_kr_1_1_4_28 (by omega) (by omega)
  by_cases c29 : k < 675
  · exact nt_kbR_sound nt_kr_1_1_4_29 (by omega) (by omega)
  by_cases c30 : k < 684
  · exact nt_kbR_sound nt_kr_1_1_4_30 (by omega) (by omega)
  by_cases c31 : k < 693
  · exact nt_kbR_sound nt_kr_1_1_4_31 (by omega) (by omega)
  by_cases c32 : k < 702
  · exact nt_kbR_sound nt_kr_1_1_4_32 (by omega) (by omega)
  by_cases c33 : k < 711
  · exact nt_kbR_sound nt_kr_1_1_4_33 (by omega) (by omega)
  by_cases c34 : k < 720
  · exact nt_kbR_sound nt_kr_1_1_4_34 (by omega) (by omega)
  by_cases c35 : k < 729
  · exact nt_kbR_sound nt_kr_1_1_4_35 (by omega) (by omega)
  by_cases c36 : k < 738
  · exact nt_kbR_sound nt_kr_1_1_4_36 (by omega) (by omega)
  by_cases c37 : k < 747
  · exact nt_kbR_sound nt_kr_1_1_4_37 (by omega) (by omega)
  by_cases c38 : k < 756
  · exact nt_kbR_sound nt_kr_1_1_4_38 (by omega) (by omega)
  by_cases c39 : k < 765
  · exact nt_kbR_sound nt_kr_1_1_4_39 (by omega) (by omega)
  by_cases c40 : k < 775
  · exact nt_kbR_sound nt_kr_1_1_4_40 (by omega) (by omega)
  by_cases c41 : k < 785
  · exact nt_kbR_sound nt_kr_1_1_4_41 (by omega) (by omega)
  by_cases c42 : k < 795
  · exact nt_kbR_sound nt_kr_1_1_4_42 (by omega) (by omega)
  by_cases c43 : k < 805
  · exact nt_kbR_sound nt_kr_1_1_4_43 (by omega) (by omega)
  by_cases c44 : k < 815
  · exact nt_kbR_sound nt_kr_1_1_4_44 (by omega) (by omega)
  by_cases c45 : k < 825
  · exact nt_kbR_sound nt_kr_1_1_4_45 (by omega) (by omega)
  by_cases c46 : k < 835
  · exact nt_kbR_sound nt_kr_1_1_4_46 (by omega) (by omega)
  by_cases c47 : k < 845
  · exact nt_kbR_sound nt_kr_1_1_4_47 (by omega) (by omega)
  by_cases c48 : k < 856
  · exact nt_kbR_sound nt_kr_1_1_4_48 (by omega) (by omega)
  by_cases c49 : k < 867
  · exact nt_kbR_sound nt_kr_1_1_4_49 (by omega) (by omega)
  by_cases c50 : k < 878
  · exact nt_kbR_sound nt_kr_1_1_4_50 (by omega) (by omega)
  by_cases c51 : k < 889
  · exact nt_kbR_sound nt_kr_1_1_4_51 (by omega) (by omega)
  by_cases c52 : k < 900
  · exact nt_kbR_sound nt_kr_1_1_4_52 (by omega) (by omega)
  by_cases c53 : k < 911
  · exact nt_kbR_sound nt_kr_1_1_4_53 (by omega) (by omega)
  by_cases c54 : k < 922
  · exact nt_kbR_sound nt_kr_1_1_4_54 (by omega) (by omega)
  by_cases c55 : k < 933
  · exact nt_kbR_sound nt_kr_1_1_4_55 (by omega) (by omega)
  by_cases c56 : k < 945
  · exact nt_kbR_sound nt_kr_1_1_4_56 (by omega) (by omega)
  by_cases c57 : k < 957
  · exact nt_kbR_sound nt_kr_1_1_4_57 (by omega) (by omega)
  by_cases c58 : k < 969
  · exact nt_kbR_sound nt_kr_1_1_4_58 (by omega) (by omega)
  by_cases c59 : k < 981
  · exact nt_kbR_sound nt_kr_1_1_4_59 (by omega) (by omega)
  by_cases c60 : k < 993
  · exact nt_kbR_sound nt_kr_1_1_4_60 (by omega) (by omega)
  by_cases c61 : k < 1005
  · exact nt_kbR_sound nt_kr_1_1_4_61 (by omega) (by omega)
  by_cases c62 : k < 1017
  · exact nt_kbR_sound nt_kr_1_1_4_62 (by omega) (by omega)
  by_cases c63 : k < 1030
  · exact nt_kbR_sound nt_kr_1_1_4_63 (by omega) (by omega)
  by_cases c64 : k < 1043
  · exact nt_kbR_sound nt_kr_1_1_4_64 (by omega) (by omega)
  by_cases c65 : k < 1056
  · exact nt_kbR_sound nt_kr_1_1_4_65 (by omega) (by omega)
  by_cases c66 : k < 1069
  · exact nt_kbR_sound nt_kr_1_1_4_66 (by omega) (by omega)
  by_cases c67 : k < 1082
  · exact nt_kbR_sound nt_kr_1_1_4_67 (by omega) (by omega)
  by_cases c68 : k < 1095
  · exact nt_kbR_sound nt_kr_1_1_4_68 (by omega) (by omega)
  by_cases c69 : k < 1108
  · exact nt_kbR_sound nt_kr_1_1_4_69 (by omega) (by omega)
  by_cases c70 : k < 1122
  · exact nt_kbR_sound nt_kr_1_1_4_70 (by omega) (by omega)
  by_cases c71 : k < 1136
  · exact nt_kbR_sound nt_kr_1_1_4_71 (by omega) (by omega)
  by_cases c72 : k < 1150
  · exact nt_kbR_sound nt_kr_1_1_4_72 (by omega) (by omega)
  by_cases c73 : k < 1164
  · exact nt_kbR_sound nt_kr_1_1_4_73 (by omega) (by omega)
  by_cases c74 : k < 1178
  · exact nt_kbR_sound nt_kr_1_1_4_74 (by omega) (by omega)
  by_cases c75 : k < 1192
  · exact nt_kbR_sound nt_kr_1_1_4_75 (by omega) (by omega)
  by_cases c76 : k < 1207
  · exact nt_kbR_sound nt_kr_1_1_4_76 (by omega) (by omega)
  by_cases c77 : k < 1222
  · exact nt_kbR_sound nt_kr_1_1_4_77 (by omega) (by omega)
  by_cases c78 : k < 1237
  · exact nt_kbR_sound nt_kr_1_1_4_78 (by omega) (by omega)
  by_cases c79 : k < 1252
  · exact nt_kbR_sound nt_kr_1_1_4_79 (by omega) (by omega)
  by_cases c80 : k < 1267
  · exact nt_kbR_sound nt_kr_1_1_4_80 (by omega) (by omega)
  by_cases c81 : k < 1283
  · exact nt_kbR_sound nt_kr_1_1_4_81 (by omega) (by omega)
  by_cases c82 : k < 1299
  · exact nt_kbR_sound nt_kr_1_1_4_82 (by omega) (by omega)
  by_cases c83 : k < 1315
  · exact nt_kbR_sound nt_kr_1_1_4_83 (by omega) (by omega)
  by_cases c84 : k < 1331
  · exact nt_kbR_sound nt_kr_1_1_4_84 (by omega) (by omega)
  by_cases c85 : k < 1347
  · exact nt_kbR_sound nt_kr_1_1_4_85 (by omega) (by omega)
  by_cases c86 : k < 1363
  · exact nt_kbR_sound nt_kr_1_1_4_86 (by omega) (by omega)
  by_cases c87 : k < 1380
  · exact nt_kbR_sound nt_kr_1_1_4_87 (by omega) (by omega)
  by_cases c88 : k < 1397
  · exact nt_kbR_sound nt_kr_1_1_4_88 (by omega) (by omega)
  by_cases c89 : k < 1414
  · exact nt_kbR_sound nt_kr_1_1_4_89 (by omega) (by omega)
  by_cases c90 : k < 1431
  · exact nt_kbR_sound nt_kr_1_1_4_90 (by omega) (by omega)
  by_cases c91 : k < 1448
  · exact nt_kbR_sound nt_kr_1_1_4_91 (by omega) (by omega)
  by_cases c92 : k < 1466
  · exact nt_kbR_sound nt_kr_1_1_4_92 (by omega) (by omega)
  by_cases c93 : k < 1484
  · exact nt_kbR_sound nt_kr_1_1_4_93 (by omega) (by omega)
  by_cases c94 : k < 1502
  · exact nt_kbR_sound nt_kr_1_1_4_94 (by omega) (by omega)
  by_cases c95 : k < 1521
  · exact nt_kbR_sound nt_kr_1_1_4_95 (by omega) (by omega)
  by_cases c96 : k < 1541
  · exact nt_kbR_sound nt_kr_1_1_4_96 (by omega) (by omega)
  by_cases c97 : k < 1561
  · exact nt_kbR_sound nt_kr_1_1_4_97 (by omega) (by omega)
  by_cases c98 : k < 1582
  · exact nt_kbR_sound nt_kr_1_1_4_98 (by omega) (by omega)
  by_cases c99 : k < 1604
  · exact nt_kbR_sound nt_kr_1_1_4_99 (by omega) (by omega)
  by_cases c100 : k < 1627
  · exact nt_kbR_sound nt_kr_1_1_4_100 (by omega) (by omega)
  by_cases c101 : k < 1651
  · exact nt_kbR_sound nt_kr_1_1_4_101 (by omega) (by omega)
  by_cases c102 : k < 1676
  · exact nt_kbR_sound nt_kr_1_1_4_102 (by omega) (by omega)
  by_cases c103 : k < 1702
  · exact nt_kbR_sound nt_kr_1_1_4_103 (by omega) (by omega)
  by_cases c104 : k < 1730
  · exact nt_kbR_sound nt_kr_1_1_4_104 (by omega) (by omega)
  by_cases c105 : k < 1760
  · exact nt_kbR_sound nt_kr_1_1_4_105 (by omega) (by omega)
  by_cases c106 : k < 1792
  · exact nt_kbR_sound nt_kr_1_1_4_106 (by omega) (by omega)
  by_cases c107 : k < 1826
  · exact nt_kbR_sound nt_kr_1_1_4_107 (by omega) (by omega)
  by_cases c108 : k < 1863
  · exact nt_kbR_sound nt_kr_1_1_4_108 (by omega) (by omega)
  by_cases c109 : k < 1903
  · exact nt_kbR_sound nt_kr_1_1_4_109 (by omega) (by omega)
  by_cases c110 : k < 1943
  · exact nt_kbR_sound nt_kr_1_1_4_110 (by omega) (by omega)
  by_cases c111 : k < 1983
  · exact nt_kbR_sound nt_kr_1_1_4_111 (by omega) (by omega)
  by_cases c112 : k < 2023
  · exact nt_kbR_sound nt_kr_1_1_4_112 (by omega) (by omega)
  by_cases c113 : k < 2063
  · exact nt_kbR_sound nt_kr_1_1_4_113 (by omega) (by omega)
  by_cases c114 : k < 2103
  · exact nt_kbR_sound nt_kr_1_1_4_114 (by omega) (by omega)
  by_cases c115 : k < 2143
  · exact nt_kbR_sound nt_kr_1_1_4_115 (by omega) (by omega)
  by_cases c116 : k < 2183
  · exact nt_kbR_sound nt_kr_1_1_4_116 (by omega) (by omega)
  by_cases c117 : k < 2223
  · exact nt_kbR_sound nt_kr_1_1_4_117 (by omega) (by omega)
  by_cases c118 : k < 2263
  · exact nt_kbR_sound nt_kr_1_1_4_118 (by omega) (by omega)
  by_cases c119 : k < 2303
  · exact nt_kbR_sound nt_kr_1_1_4_119 (by omega) (by omega)
  by_cases c120 : k < 2343
  · exact nt_kbR_sound nt_kr_1_1_4_120 (by omega) (by omega)
  exact nt_kbR_sound nt_kr_1_1_4_121 (by omega) (by omega)
theorem nt_ka_1_1_10 : ∀ k, 0 < k → k < 1187 → nt_kbD 1 10 nt_kt_1_10 50000000000 80000000000 5616826 (12 * k) = true := by
  intro k h0 h1
  by_cases c0 : k < 214
  · exact nt_kbR_sound nt_kr_1_1_10_0 (by omega) (by omega)
  by_cases c1 : k < 229
  · exact nt_kbR_sound nt_kr_1_1_10_1 (by omega) (by omega)
  by_cases c2 : k < 241
  · exact nt_kbR_sound nt_kr_1_1_10_2 (by omega) (by omega)
  by_cases c3 : k < 251
  · exact nt_kbR_sound nt_kr_1_1_10_3 (by omega) (by omega)
  by_cases c4 : k < 260
  · exact nt_kbR_sound nt_kr_1_1_10_4 (by omega) (by omega)
  by_cases c5 : k < 269
  · exact nt_kbR_sound nt_kr_1_1_10_5 (by omega) (by omega)
  by_cases c6 : k < 277
  · exact nt_kbR_sound nt_kr_1_1_10_6 (by omega) (by omega)
  by_cases c7 : k < 285
  · exact nt_kbR_sound nt_kr_1_1_10_7 (by omega) (by omega)
  by_cases c8 : k < 292
  · exact nt_kbR_sound nt_kr_1_1_10_8 (by omega) (by omega)
  by_cases c9 : k < 299
  · exact nt_kbR_sound nt_kr_1_1_10_9 (by omega) (by omega)
  by_cases c10 : k < 307
  · exact nt_kbR_sound nt_kr_1_1_10_10 (by omega) (by omega)
  by_cases c11 : k < 315
  · exact nt_kbR_sound nt_kr_1_1_10_11 (by omega) (by omega)
  by_cases c12 : k < 323
  · exact nt_kbR_sound nt_kr_1_1_10_12 (by omega) (by omega)
  by_cases c13 : k < 331
  · exact nt_kbR_sound nt_kr_1_1_10_13 (by omega) (by omega)
  by_cases c14 : k < 339
  · exact nt_kbR_sound nt_kr_1_1_10_14 (by omega) (by omega)
  by_cases c15 : k < 348
  · exact nt_kbR_sound nt_kr_1_1_10_15 (by omega) (by omega)
  by_cases c16 : k < 357
  · exact nt_kbR_sound nt_kr_1_1_10_16 (by omega) (by omega)
  by_cases c17 : k < 366
  · exact nt_kbR_sound nt_kr_1_1_10_17 (by omega) (by omega)
  by_cases c18 : k < 375
  · exact nt_kbR_sound nt_kr_1_1_10_18 (by omega) (by omega)
  by_cases c19 : k < 384
  · exact nt_kbR_sound nt_kr_1_1_10_19 (by omega) (by omega)
  by_cases c20 : k < 394
  · exact nt_kbR_sound nt_kr_1_1_10_20 (by omega) (by omega)
  by_cases c21 : k < 404
  · exact nt_kbR_sound nt_kr_1_1_10_21 (by omega) (by omega)
  by_cases c22 : k < 414
  · exact nt_kbR_sound nt_kr_1_1_10_22 (by omega) (by omega)
  by_cases c23 : k < 424
  · exact nt_kbR_sound nt_kr_1_1_10_23 (by omega) (by omega)
  by_cases c24 : k < 435
  · exact nt_kbR_sound nt_kr_1_1_10_24 (by omega) (by omega)
  by_cases c25 : k < 446
  · exact nt_kbR_sound nt_kr_1_1_10_25 (by omega) (by omega)
  by_cases c26 : k < 457
  · exact nt_kbR_sound nt_kr_1_1_10_26 (by omega) (by omega)
  by_cases c27 : k < 468
  · exact nt_kbR_sound nt_kr_1_1_10_27 (by omega) (by omega)
  by_cases c28 : k < 480
  · exact nt_kbR_sound nt_kr_1_1_10_28 (by omega) (by omega)
  by_cases c29 : k < 492
  · exact nt_kbR_sound nt_kr_1_1_10_29 (by omega) (by omega)
  by_cases c30 : k < 504
  · exact nt_kbR_sound nt_kr_1_1_10_30 (by omega) (by omega)
  by_cases c31 : k < 517
  · exact nt_kbR_sound nt_kr_1_1_10_31 (by omega) (by omega)
  by_cases c32 : k < 530
  · exact nt_kbR_sound nt_kr_1_1_10_32 (by omega) (by omega)
  by_cases c33 : k < 543
  · exact nt_kbR_sound nt_kr_1_1_10_33 (by omega) (by omega)
  by_cases c34 : k < 556
  · exact nt_kbR_sound nt_kr_1_1_10_34 (by omega) (by omega)
  by_cases c35 : k < 570
  · exact nt_kbR_sound nt_kr_1_1_10_35 (by omega) (by omega)
  by_cases c36 : k < 584
  · exact nt_kbR_sound nt_kr_1_1_10_36 (by omega) (by omega)
  by_cases c37 : k < 598
  · exact nt_kbR_sound nt_kr_1_1_10_37 (by omega) (by omega)
  by_cases c38 : k < 613
  · exact nt_kbR_sound nt_kr_1_1_10_38 (by omega) (by omega)
  by_cases c39 : k < 628
  · exact nt_kbR_sound nt_kr_1_1_10_39 (by omega) (by omega)
  by_cases c40 : k < 643
  · exact nt_kbR_sound nt_kr_1_1_10_40 (by omega) (by omega)
  by_cases c41 : k < 659
  · exact nt_kbR_sound nt_kr_1_1_10_41 (by omega) (by omega)
  by_cases c42 : k < 675
  · exact nt_kbR_sound nt_kr_1_1_10_42 (by omega) (by omega)
  by_cases c43 : k < 692
  · exact nt_kbR_sound nt_kr_1_1_10_43 (by omega) (by omega)
  by_cases c44 : k < 709
  · exact nt_kbR_sound nt_kr_1_1_10_44 (by omega) (by omega)
  by_cases c45 : k < 726
  · exact nt_kbR_sound nt_kr_1_1_10_45 (by omega) (by omega)
  by_cases c46 : k < 744
  · exact nt_kbR_sound nt_kr_1_1_10_46 (by omega) (by omega)
  by_cases c47 : k < 763
  · exact nt_kbR_sound nt_kr_1_1_10_47 (by omega) (by omega)
  by_cases c48 : k < 783
  · exact nt_kbR_sound nt_kr_1_1_10_48 (by omega) (by omega)
  by_cases c49 : k < 805
  · exact nt_kbR_sound nt_kr_1_1_10_49 (by omega) (by omega)
  by_cases c50 : k < 829
  · exact nt_kbR_sound nt_kr_1_1_10_50 (by omega) (by omega)
  by_cases c51 : k < 855
  · exact nt_kbR_sound nt_kr_1_1_10_51 (by omega) (by omega)
  by_cases c52 : k < 884
  · exact nt_kbR_sound nt_kr_1_1_10_52 (by omega) (by omega)
  by_cases c53 : k < 917
  · exact nt_kbR_sound nt_kr_1_1_10_53 (by omega) (by omega)
  by_cases c54 : k < 957
  · exact nt_kbR_sound nt_kr_1_1_10_54 (by omega) (by omega)
  by_cases c55 : k < 997
  · exact nt_kbR_sound nt_kr_1_1_10_55 (by omega) (by omega)
  by_cases c56 : k < 1037
  · exact nt_kbR_sound nt_kr_1_1_10_56 (by omega) (by omega)
  by_cases c57 : k < 1077
  · exact nt_kbR_sound nt_kr_1_1_10_57 (by omega) (by omega)
  by_cases c58 : k < 1117
  · exact nt_kbR_sound nt_kr_1_1_10_58 (by omega) (by omega)
  by_cases c59 : k < 1157
  · exact nt_kbR_sound nt_kr_1_1_10_59 (by omega) (by omega)
  exact nt_kbR_sound nt_kr_1_1_10_60 (by omega) (by omega)
theorem nt_ka_2_1_4 : ∀ k, 0 < k → k < 3045 → nt_kbD 1 4 nt_kt_1_4 80000000000 120000000000 6568378 (6 * k) = true := by
  intro k h0 h1
  by_cases c0 : k < 966
  · exact nt_kbR_sound nt_kr_2_1_4_0 (by omega) (by omega)
  by_cases c1 : k < 1006
  · exact nt_kbR_sound nt_kr_2_1_4_1 (by omega) (by omega)
  by_cases c2 : k < 1046
  · exact nt_kbR_sound nt_kr_2_1_4_2 (by omega) (by omega)
  by_cases c3 : k < 1078
  · exact nt_kbR_sound nt_kr_2_1_4_3 (by omega) (by omega)
  by_cases c4 : k < 1105
  · exact nt_kbR_sound nt_kr_2_1_4_4 (by omega) (by omega)
  by_cases c5 : k < 1129
  · exact nt_kbR_sound nt_kr_2_1_4_5 (by omega) (by omega)
  by_cases c6 : k < 1151
  · exact nt_kbR_sound nt_kr_2_1_4_6 (by omega) (by omega)
  by_cases c7 : k < 1172
  · exact nt_kbR_sound nt_kr_2_1_4_7 (by omega) (by omega)
  by_cases c8 : k < 1191
  · exact nt_kbR_sound nt_kr_2_1_4_8 (by omega) (by omega)
  by_cases c9 : k < 1209
  · exact nt_kbR_sound nt_kr_2_1_4_9 (by omega) (by omega)
  by_cases c10 : k < 1227
  · exact nt_kbR_sound nt_kr_2_1_4_10 (by omega) (by omega)
  by_cases c11 : k < 1244
  · exact nt_kbR_sound nt_kr_2_1_4_11 (by omega) (by omega)
  by_cases c12 : k < 1260
  · exact nt_kbR_sound nt_kr_2_1_4_12 (by omega) (by omega)
  by_cases c13 : k < 1276
  · exact nt_kbR_sound nt_kr_2_1_4_13 (by omega) (by omega)
  by_cases c14 : k < 1291
  · exact nt_kbR_sound nt_kr_2_1_4_14 (by omega) (by omega)
  by_cases c15 : k < 1306
  · exact nt_kbR_sound nt_kr_2_1_4_15 (by omega) (by omega)
  by_cases c16 : k < 1320
  · exact nt_kbR_sound nt_kr_2_1_4_16 (by omega) (by omega)
  by_cases c17 : k < 1334
  · exact nt_kbR_sound nt_kr_2_1_4_17 (by omega) (by omega)
  by_cases c18 : k < 1348
  · exact nt_kbR_sound nt_kr_2_1_4_18 (by omega) (by omega)
  by_cases c19 : k < 1361
  · exact nt_kbR_sound nt_kr_2_1_4_19 (by omega) (by omega)
  by_cases c20 : k < 1374
  · exact nt_kbR_sound nt_kr_2_1_4_20 (by omega) (by omega)
  by_cases c21 : k < 1387
  · exact nt_kbR_sound nt_kr_2_1_4_21 (by omega) (by omega)
  by_cases c22 : k < 1400
  · exact nt_kbR_sound nt_kr_2_1_4_22 (by omega) (by omega)
  by_cases c23 : k < 1413
  · exact nt_kbR_sound nt_kr_2_1_4_23 (by omega) (by omega)
  by_cases c24 : k < 1426
  · exact nt_kbR_sound nt_kr_2_1_4_24 (by omega) (by omega)
  by_cases c25 : k < 1439
  · exact nt_kbR_sound nt_kr_2_1_4_25 (by omega) (by omega)
  by_cases c26 : k < 1452
  · exact nt_kbR_sound nt_kr_2_1_4_26 (by omega) (by omega)
  by_cases c27 : k < 1465
  · exact nt_kbR_sound nt_kr_2_1_4_27 (by omega) (by omega)
  by_cases c28 : k < 1479
  · exact nt_kbR_sound nt_kr_2_1_4_28 (by omega) (by omega)
  by_cases c29 : k < 1493
  · exact nt_kbR_sound nt_kr_2_1_4_29 (by omega) (by omega)
  by_cases c30 : k < 1507
  · exact nt_kbR_sound nt_kr_2_1_4_30 (by omega) (by omega)
  by_cases c31 : k < 1521
  · exact nt_kbR_sound nt_kr_2_1_4_31 (by omega) (by omega)
  by_cases c32 : k < 1535
  · exact nt_kbR_sound nt_kr_2_1_4_32 (by omega) (by omega)
  by_cases c33 : k < 1549
  · exact nt_kbR_sound nt_kr_2_1_4_33 (by omega) (by omega)
  by_cases c34 : k < 1563
  · exact nt_kbR_sound nt_kr_2_1_4_34 (by omega) (by omega)
  by_cases c35 : k < 1577
  · exact nt_kbR_sound nt_kr_2_1_4_35 (by omega) (by omega)
  by_cases c36 : k < 1592
  · exact nt_kbR_sound nt_kr_2_1_4_36 (by omega) (by omega)
  by_cases c37 : k < 1607
  · exact nt_kbR_sound nt_kr_2_1_4_37 (by omega) (by omega)
  by_cases c38 : k < 1622
  · exact nt_kbR_sound nt_kr_2_1_4_38 (by omega) (by omega)
  by_cases c39 : k < 1637
  · exact nt_kbR_sound nt_kr_2_1_4_39 (by omega) (by omega)
  by_cases c40 : k < 1652
  · exact nt_kbR_sound nt_kr_2_1_4_40 (by omega) (by omega)
  by_cases c41 : k < 1667
  · exact nt_kbR_sound nt_kr_2_1_4_41 (by omega) (by omega)
  by_cases c42 : k < 1682
  · exact nt_kbR_sound nt_kr_2_1_4_42 (by omega) (by omega)
  by_cases c43 : k < 1697
  · exact nt_kbR_sound nt_kr_2_1_4_43 (by omega) (by omega)
  by_cases c44 : k < 1713
  · exact nt_kbR_sound nt_kr_2_1_4_44 (by omega) (by omega)
  by_cases c45 : k < 1729
  · exact nt_kbR_sound nt_kr_2_1_4_45 (by omega) (by omega)
  by_cases c46 : k < 1745
  · exact nt_kbR_sound nt_kr_2_1_4_46 (by omega) (by omega)
  by_cases c47 : k < 1761
  · exact nt_kbR_sound nt_kr_2_1_4_47 (by omega) (by omega)
  by_cases c48 : k < 1777
  · exact nt_kbR_sound nt_kr_2_1_4_48 (by omega) (by omega)
  by_cases c49 : k < 1793
  · exact nt_kbR_sound nt_kr_2_1_4_49 (by omega) (by omega)
  by_cases c50 : k < 1809
  · exact nt_kbR_sound nt_kr_2_1_4_50 (by omega) (by omega)
  by_cases c51 : k < 1826
  · exact nt_kbR_sound nt_kr_2_1_4_51 (by omega) (by omega)
  by_cases c52 : k < 1843
  · exact nt_kbR_sound nt_kr_2_1_4_52 (by omega) (by omega)
  by_cases c53 : k < 1860
  · exact nt_kbR_sound nt_kr_2_1_4_53 (by omega) (by omega)
  by_cases c54 : k < 1877
  · exact nt_kbR_sound nt_kr_2_1_4_54 (by omega) (by omega)
  by_cases c55 : k < 1894
  · exact nt_kbR_sound nt_kr_2_1_4_55 (by omega) (by omega)
  by_cases c56 : k < 1911
  · exact nt_kbR_sound nt_kr_2_1_4_56 (by omega) (by omega)
  by_cases c57 : k < 1928
  · exact nt_kbR_sound nt_kr_2_1_4_57 (by omega) (by omega)
  by_cases c58 : k < 1946
  · exact nt_kbR_sound nt_kr_2_1_4_58 (by omega) (by omega)
  by_cases c59 : k < 1964
  · exact nt_kbR_sound nt_kr_2_1_4_59 (by omega) (by omega)
  by_cases c60 : k < 1982
  · exact nt_kbR_sound nt_kr_2_1_4_60 (by omega) (by omega)
  by_cases c61 : k < 2000
  · exact nt_kbR_sound nt_kr_2_1_4_61 (by omega) (by omega)
  by_cases c62 : k < 2018
  · exact nt_kbR_sound nt_kr_2_1_4_62 (by omega) (by omega)
  by_cases c63 : k < 2036
  · exact nt_kbR_sound nt_kr_2_1_4_63 (by omega) (by omega)
  by_cases c64 : k < 2055
  · exact nt_kbR_sound nt_kr_2_1_4_64 (by omega) (by omega)
  by_cases c65 : k < 2074
  · exact nt_kbR_sound nt_kr_2_1_4_65 (by omega) (by omega)
  by_cases c66 : k < 2094
  · exact nt_kbR_sound nt_kr_2_1_4_66 (by omega) (by omega)
  by_cases c67 : k < 2115
  · exact nt_kbR_sound nt_kr_2_1_4_67 (by omega) (by omega)
  by_cases c68 : k < 2136
  · exact nt_kbR_sound nt_kr_2_1_4_68 (by omega) (by omega)
  by_cases c69 : k < 2158
  · exact nt_kbR_sound nt_kr_2_1_4_69 (by omega) (by omega)
  by_cases c70 : k < 2181
  · exact nt_kbR_sound nt_kr_2_1_4_70 (by omega) (by omega)
  by_cases c71 : k < 2205
  · exact nt_kbR_sound nt_kr_2_1_4_71 (by omega) (by omega)
  by_cases c72 : k < 2230
  · exact nt_kbR_sound nt_kr_2_1_4_72 (by omega) (by omega)
  by_cases c73 : k < 2256
  · exact nt_kbR_sound nt_kr_2_1_4_73 (by omega) (by omega)
  by_cases c74 : k < 2283
  · exact nt_kbR_sound nt_kr_2_1_4_74 (by omega) (by omega)
  by_cases c75 : k < 2311
  · exact nt_kbR_sound nt_kr_2_1_4_75 (by omega) (by omega)
  by_cases c76 : k < 2341
  · exact nt_kbR_sound nt_kr_2_1_4_76 (by omega) (by omega)
  by_cases c77 : k < 2372
  · exact nt_kbR_sound nt_kr_2_1_4_77 (by omega) (by omega)
  by_cases c78 : k < 2405
  · exact nt_kbR_sound nt_kr_2_1_4_78 (by omega) (by omega)
  by_cases c79 : k < 2440
  · exact nt_kbR_sound nt_kr_2_1_4_79 (by omega) (by omega)
  by_cases c80 : k < 2478
  · exact nt_kbR_sound nt_kr_2_1_4_80 (by omega) (by omega)
  by_cases c81 : k < 2518
  · exact nt_kbR_sound nt_kr_2_1_4_81 (by omega) (by omega)
  by_cases c82 : k < 2558
  · exact nt_kbR_sound nt_kr_2_1_4_82 (by omega) (by omega)
  by_cases c83 : k < 2598
  · exact nt_kbR_sound nt_kr_2_1_4_83 (by omega) (by omega)
  by_cases c84 : k < 2638
  · exact nt_kbR_sound nt_kr_2_1_4_84 (by omega) (by omega)
  by_cases c85 : k < 2678
  · exact nt_kbR_sound nt_kr_2_1_4_85 (by omega) (by omega)
  by_cases c86 : k < 2718
  · exact nt_kbR_sound nt_kr_2_1_4_86 (by omega) (by omega)
  by_cases c87 : k < 2758
  · exact nt_kbR_sound nt_kr_2_1_4_87 (by omega) (by omega)
  by_cases c88 : k < 2798
  · exact nt_kbR_sound nt_kr_2_1_4_88 (by omega) (by omega)
  by_cases c89 : k < 2838
  · exact nt_kbR_sound nt_kr_2_1_4_89 (by omega) (by omega)
  by_cases c90 : k < 2878
  · exact nt_kbR_sound nt_kr_2_1_4_90 (by omega) (by omega)
  by_cases c91 : k < 2918
  · exact nt_kbR_sound nt_kr_2_1_4_91 (by omega) (by omega)
  by_cases c92 : k < 2958
  · exact nt_kbR_sound nt_kr_2_1_4_92 (by omega) (by omega)
  by_cases c93 : k < 2998
  · exact nt_kbR_sound nt_kr_2_1_4_93 (by omega) (by omega)
  by_cases c94 : k < 3038
  · exact nt_kbR_sound nt_kr_2_1_4_94 (by omega) (by omega)
  exact nt_kbR_sound nt_kr_2_1_4_95 (by omega) (by omega)
theorem nt_ka_2_1_10 : ∀ k, 0 < k → k < 1523 → nt_kbD 1 10 nt_kt_1_10 80000000000 120000000000 6568378 (12 * k) = true := by
  intro k h0 h1
  by_cases c0 : k < 503
  · exact nt_kbR_sound nt_kr_2_1_10_0 (by omega) (by omega)
  by_cases c1 : k < 540
  · exact nt_kbR_sound nt_kr_2_1_10_1 (by omega) (by omega)
  by_cases c2 : k < 566
  · exact nt_kbR_sound nt_kr_2_1_10_2 (by omega) (by omega)
  by_cases c3 : k < 587
  · exact nt_kbR_sound nt_kr_2_1_10_3 (by omega) (by omega)
  by_cases c4 : k < 606
  · exact nt_kbR_sound nt_kr_2_1_10_4 (by omega) (by omega)
  by_cases c5 : k < 623
  · exact nt_kbR_sound nt_kr_2_1_10_5 (by omega) (by omega)
  by_cases c6 : k < 639
  · exact nt_kbR_sound nt_kr_2_1_10_6 (by omega) (by omega)
  by_cases c7 : k < 654
  · exact nt_kbR_sound nt_kr_2_1_10_7 (by omega) (by omega)
  by_cases c8 : k < 668
  · exact nt_kbR_sound nt_kr_2_1_10_8 (by omega) (by omega)
  by_cases c9 : k < 682
  · exact nt_kbR_sound nt_kr_2_1_10_9 (by omega) (by omega)
  by_cases c10 : k < 695
  · exact nt_kbR_sound nt_kr_2_1_10_10 (by omega) (by omega)
  by_cases c11 : k < 708
  · exact nt_kbR_sound nt_kr_2_1_10_11 (by omega) (by omega)
  by_cases c12 : k < 721
  · exact nt_kbR_sound nt_kr_2_1_10_12 (by omega) (by omega)
  by_cases c13 : k < 734
  · exact nt_kbR_sound nt_kr_2_1_10_13 (by omega) (by omega)
  by_cases c14 : k < 748
  · exact nt_kbR_sound nt_kr_2_1_10_14 (by omega) (by omega)
  by_cases c15 : k < 762
  · exact nt_kbR_sound nt_kr_2_1_10_15 (by omega) (by omega)
  by_cases c16 : k < 776
  · exact nt_kbR_sound nt_kr_2_1_10_16 (by omega) (by omega)
  by_cases c17 : k < 790
  · exact nt_kbR_sound nt_kr_2_1_10_17 (by omega) (by omega)
  by_cases c18 : k < 805
  · exact nt_kbR_sound nt_kr_2_1_10_18 (by omega) (by omega)
  by_cases c19 : k < 820
  · exact nt_kbR_sound nt_kr_2_1_10_19 (by omega) (by omega)
  by_cases c20 : k < 835
  · exact nt_kbR_sound nt_kr_2_1_10_20 (by omega) (by omega)
  by_cases c21 : k < 850
  · exact nt_kbR_sound nt_kr_2_1_10_21 (by omega) (by omega)
  by_cases c22 : k < 866
  · exact nt_kbR_sound nt_kr_2_1_10_22 (by omega) (by omega)
  by_cases c23 : k < 882
  · exact nt_kbR_sound nt_kr_2_1_10_23 (by omega) (by omega)
  by_cases c24 : k < 898
  · exact nt_kbR_sound nt_kr_2_1_10_24 (by omega) (by omega)
  by_cases c25 : k < 915
  · exact nt_kbR_sound nt_kr_2_1_10_25 (by omega) (by omega)
  by_cases c26 : k < 932
  · exact nt_kbR_sound nt_kr_2_1_10_26 (by omega) (by omega)
  by_cases c27 : k < 949
  · exact nt_kbR_sound nt_kr_2_1_10_27 (by omega) (by omega)
  by_cases c28 : k < 966
  · exact nt_kbR_sound nt_kr_2_1_10_28 (by omega) (by omega)
  by_cases c29 : k < 984
  · exact nt_kbR_sound nt_kr_2_1_10_29 (by omega) (by omega)
  by_cases c30 : k < 1002
  · exact nt_kbR_sound nt_kr_2_1_10_30 (by omega) (by omega)
  by_cases c31 : k < 1020
  · exact nt_kbR_sound nt_kr_2_1_10_31 (by omega) (by omega)
  by_cases c32 : k < 1039
  · exact nt_kbR_sound nt_kr_2_1_10_32 (by omega) (by omega)
  by_cases c33 : k < 1059
  · exact nt_kbR_sound nt_kr_2_1_10_33 (by omega) (by omega)
  by_cases c34 : k < 1081
  · exact nt_kbR_sound nt_kr_2_1_10_34 (by omega) (by omega)
  by_cases c35 : k < 1104
  · exact nt_kbR_sound nt_kr_2_1_10_35 (by omega) (by omega)
  by_cases c36 : k < 1129
  · exact nt_kbR_sound nt_kr_2_1_10_36 (by omega) (by omega)
  by_cases c37 : k < 1156
  · exact nt_kbR_sound nt_kr_2_1_10_37 (by omega) (by omega)
  by_cases c38 : k < 1186
  · exact nt_kbR_sound nt_kr_2_1_10_38 (by omega) (by omega)
  by_cases c39 : k < 1220
  · exact nt_kbR_sound nt_kr_2_1_10_39 (by omega) (by omega)
  by_cases c40 : k < 1260
  · exact nt_kbR_sound nt_kr_2_1_10_40 (by omega) (by omega)
  by_cases c41 : k < 1300
  · exact nt_kbR_sound nt_kr_2_1_10_41 (by omega) (by omega)
  by_cases c42 : k < 1340
  · exact nt_kbR_sound nt_kr_2_1_10_42 (by omega) (by omega)
  by_cases c43 : k < 1380
  · exact nt_kbR_sound nt_kr_2_1_10_43 (by omega) (by omega)
  by_cases c44 : k < 1420
  · exact nt_kbR_sound nt_kr_2_1_10_44 (by omega) (by omega)
  by_cases c45 : k < 1460
  · exact nt_kbR_sound nt_kr_2_1_10_45 (by omega) (by omega)
  by_cases c46 : k < 1500
  · exact nt_kbR_sound nt_kr_2_1_10_46 (by omega) (by omega)
  exact nt_kbR_sound nt_kr_2_1_10_47 (by omega) (by omega)
theorem nt_ka_3_1_4 : ∀ k, 0 < k → k < 3553 → nt_kbD 1 4 nt_kt_1_4 120000000000 160000000000 7506186 (6 * k) = true := by
  intro k h0 h1
  by_cases c0 : k < 2122
  · exact nt_kbR_sound nt_kr_3_1_4_0 (by omega) (by omega)
  by_cases c1 : k < 2162
  · exact nt_kbR_sound nt_kr_3_1_4_1 (by omega) (by omega)
  by_cases c2 : k < 2202
  · exact nt_kbR_sound nt_kr_3_1_4_2 (by omega) (by omega)
  by_cases c3 : k < 2242
  · exact nt_kbR_sound nt_kr_3_1_4_3 (by omega) (by omega)
  by_cases c4 : k < 2282
  · exact nt_kbR_sound nt_kr_3_1_4_4 (by omega) (by omega)
  by_cases c5 : k < 2322
  · exact nt_kbR_sound nt_kr_3_1_4_5 (by omega) (by omega)
  by_cases c6 : k < 2362
  · exact nt_kbR_sound nt_kr_3_1_4_6 (by omega) (by omega)
  by_cases c7 : k < 2402
  · exact nt_kbR_sound nt_kr_3_1_4_7 (by omega) (by omega)
  by_cases c8 : k < 2442
  · exact nt_kbR_sound nt_kr_3_1_4_8 (by omega) (by omega)
  by_cases c9 : k < 2482
  · exact nt_kbR_sound nt_kr_3_1_4_9 (by omega) (by omega)
  by_cases c10 : k < 2519
  · exact nt_kbR_sound nt_kr_3_1_4_10 (by omega) (by omega)
  by_cases c11 : k < 2554
  · exact nt_kbR_sound nt_kr_3_1_4_11 (by omega) (by omega)
  by_cases c12 : k < 2587
  · exact nt_kbR_sound nt_kr_3_1_4_12 (by omega) (by omega)
  by_cases c13 : k < 2618
  · exact nt_kbR_sound nt_kr_3_1_4_13 (by omega) (by omega)
  by_cases c14 : k < 2648
  · exact nt_kbR_sound nt_kr_3_1_4_14 (by omega) (by omega)
  by_cases c15 : k < 2677
  · exact nt_kbR_sound nt_kr_3_1_4_15 (by omega) (by omega)
  by_cases c16 : k < 2706
  · exact nt_kbR_sound nt_kr_3_1_4_16 (by omega) (by omega)
  by_cases c17 : k < 2735
  · exact nt_kbR_sound nt_kr_3_1_4_17 (by omega) (by omega)
  by_cases c18 : k < 2764
  · exact nt_kbR_sound nt_kr_3_1_4_18 (by omega) (by omega)
  by_cases c19 : k < 2793
  · exact nt_kbR_sound nt_kr_3_1_4_19 (by omega) (by omega)
  by_cases c20 : k < 2823
  · exact nt_kbR_sound nt_kr_3_1_4_20 (by omega) (by omega)
  by_cases c21 : k < 2855
  · exact nt_kbR_sound nt_kr_3_1_4_21 (by omega) (by omega)
  by_cases c22 : k < 2889
  · exact nt_kbR_sound nt_kr_3_1_4_22 (by omega) (by omega)
  by_cases c23 : k < 2925
  · exact nt_kbR_sound nt_kr_3_1_4_23 (by omega) (by omega)
  by_cases c24 : k < 2963
  · exact nt_kbR_sound nt_kr_3_1_4_24 (by omega) (by omega)
  by_cases c25 : k < 3003
  · exact nt_kbR_sound nt_kr_3_1_4_25 (by omega) (by omega)
  by_cases c26 : k < 3043
  · exact nt_kbR_sound nt_kr_3_1_4_26 (by omega) (by omega)
  by_cases c27 : k < 3083
  · exact nt_kbR_sound nt_kr_3_1_4_27 (by omega) (by omega)
  by_cases c28 : k < 3123
  · exact nt_kbR_sound nt_kr_3_1_4_28 (by omega) (by omega)
  by_cases c29 : k < 3163
  · exact nt_kbR_sound nt_kr_3_1_4_29 (by omega) (by omega)
  by_cases c30 : k < 3203
  · exact nt_kbR_sound nt_kr_3_1_4_30 (by omega) (by omega)
  by_cases c31 : k < 3243
  · exact nt_kbR_sound nt_kr_3_1_4_31 (by omega) (by omega)
  by_cases c32 : k < 3283
  · exact nt_kbR_sound nt_kr_3_1_4_32 (by omega) (by omega)
  by_cases c33 : k < 3323
  · exact nt_kbR_sound nt_kr_3_1_4_33 (by omega) (by omega)
  by_cases c34 : k < 3363
  · exact nt_kbR_sound nt_kr_3_1_4_34 (by omega) (by omega)
  by_cases c35 : k < 3403
  · exact nt_kbR_sound nt_kr_3_1_4_35 (by omega) (by omega)
  by_cases c36 : k < 3443
  · exact nt_kbR_sound nt_kr_3_1_4_36 (by omega) (by omega)
  by_cases c37 : k < 3483
  · exact nt_kbR_sound nt_kr_3_1_4_37 (by omega) (by omega)
  by_cases c38 : k < 3523
  · exact nt_kbR_sound nt_kr_3_1_4_38 (by omega) (by omega)
  exact nt_kbR_sound nt_kr_3_1_4_39 (by omega) (by omega)
theorem nt_ka_3_1_10 : ∀ k, 0 < k → k < 1777 → nt_kbD 1 10 nt_kt_1_10 120000000000 160000000000 7506186 (12 * k) = true := by
  intro k h0 h1
  by_cases c0 : k < 1081
  · exact nt_kbR_sound nt_kr_3_1_10_0 (by omega) (by omega)
  by_cases c1 : k < 1121
  · exact nt_kbR_sound nt_kr_3_1_10_1 (by omega) (by omega)
  by_cases c2 : k < 1161
  · exact nt_kbR_sound nt_kr_3_1_10_2 (by omega) (by omega)
  by_cases c3 : k < 1201
  · exact nt_kbR_sound nt_kr_3_1_10_3 (by omega) (by omega)
  by_cases c4 : k < 1241
  · exact nt_kbR_sound nt_kr_3_1_10_4 (by omega) (by omega)
  by_cases c5 : k < 1277
  · exact nt_kbR_sound nt_kr_3_1_10_5 (by omega) (by omega)
  by_cases c6 : k < 1309
  · exact nt_kbR_sound nt_kr_3_1_10_6 (by omega) (by omega)
  by_cases c7 : k < 1338
  · exact nt_kbR_sound nt_kr_3_1_10_7 (by omega) (by omega)
  by_cases c8 : k < 1367
  · exact nt_kbR_sound nt_kr_3_1_10_8 (by omega) (by omega)
  by_cases c9 : k < 1396
  · exact nt_kbR_sound nt_kr_3_1_10_9 (by omega) (by omega)
  by_cases c10 : k < 1427
  · exact nt_kbR_sound nt_kr_3_1_10_10 (by omega) (by omega)
  by_cases c11 : k < 1462
  · exact nt_kbR_sound nt_kr_3_1_10_11 (by omega) (by omega)
  by_cases c12 : k < 1502
  · exact nt_kbR_sound nt_kr_3_1_10_12 (by omega) (by omega)
  by_cases c13 : k < 1542
  · exact nt_kbR_sound nt_kr_3_1_10_13 (by omega) (by omega)
  by_cases c14 : k < 1582
  · exact nt_kbR_sound nt_kr_3_1_10_14 (by omega) (by omega)
  by_cases c15 : k < 1622
  · exact nt_kbR_sound nt_kr_3_1_10_15 (by omega) (by omega)
  by_cases c16 : k < 1662
  · exact nt_kbR_sound nt_kr_3_1_10_16 (by omega) (by omega)
  by_cases c17 : k < 1702
  · exact nt_kbR_sound nt_kr_3_1_10_17 (by omega) (by omega)
  by_cases c18 : k < 1742
  · exact nt_kbR_sound nt_kr_3_1_10_18 (by omega) (by omega)
  exact nt_kbR_sound nt_kr_3_1_10_19 (by omega) (by omega)
