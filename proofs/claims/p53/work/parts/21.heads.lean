/-! heads, links, classes -/
theorem xhd_0 : x_hd 0 ∈ xWA := xw_193
theorem xgen_0 : xgen 0 0 := ⟨by decide, by decide, by decide +kernel⟩
theorem xhd_1 : x_hd 1 ∈ xWA := xw_202
theorem xgen_1 : xgen 1 2 := ⟨by decide, by decide, by decide +kernel⟩
theorem xhd_2 : x_hd 2 ∈ xWA := xw_586
theorem xgen_2 : xgen 2 2 := ⟨by decide, by decide, by decide +kernel⟩
theorem xhd_3 : x_hd 3 ∈ xWA := xw_1021
theorem xgen_3 : xgen 3 2 := ⟨by decide, by decide, by decide +kernel⟩
theorem xhd_4 : x_hd 4 ∈ xWA := xw_1025
theorem xgen_4 : xgen 4 2 := ⟨by decide, by decide, by decide +kernel⟩
theorem xhd_5 : x_hd 5 ∈ xWA := xw_1029
theorem xgen_5 : xgen 5 2 := ⟨by decide, by decide, by decide +kernel⟩
theorem xhd_6 : x_hd 6 ∈ xWA := xw_1033
theorem xgen_6 : xgen 6 5 := ⟨by decide, by decide, by decide +kernel⟩
theorem xhd_7 : x_hd 7 ∈ xWA := xw_569
theorem xgen_7 : xgen 7 2 := ⟨by decide, by decide, by decide +kernel⟩
theorem xhd_8 : x_hd 8 ∈ xWA := xw_582
theorem xgen_8 : xgen 8 2 := ⟨by decide, by decide, by decide +kernel⟩
theorem xhd_9 : x_hd 9 ∈ xWA := xw_572
theorem xgen_9 : xgen 9 1 := ⟨by decide, by decide, by decide +kernel⟩
theorem xhd_10 : x_hd 10 ∈ xWA := xw_147
theorem xgen_10 : xgen 10 0 := ⟨by decide, by decide, by decide +kernel⟩
theorem xhd_11 : x_hd 11 ∈ xWA := xw_671
theorem xgen_11 : xgen 11 1 := ⟨by decide, by decide, by decide +kernel⟩
theorem xhd_12 : x_hd 12 ∈ xWA := xw_817
theorem xgen_12 : xgen 12 1 := ⟨by decide, by decide, by decide +kernel⟩
theorem xhd_13 : x_hd 13 ∈ xWA := xw_845
theorem xgen_13 : xgen 13 0 := ⟨by decide, by decide, by decide +kernel⟩
theorem xhd_14 : x_hd 14 ∈ xWA := xw_71
theorem xgen_14 : xgen 14 0 := ⟨by decide, by decide, by decide +kernel⟩
theorem xhd_15 : x_hd 15 ∈ xWA := xw_345
theorem xgen_15 : xgen 15 1 := ⟨by decide, by decide, by decide +kernel⟩
theorem xhd_16 : x_hd 16 ∈ xWA := xw_491
theorem xgen_16 : xgen 16 0 := ⟨by decide, by decide, by decide +kernel⟩
theorem xhd_17 : x_hd 17 ∈ xWA := xw_475
theorem xgen_17 : xgen 17 1 := ⟨by decide, by decide, by decide +kernel⟩
theorem xhd_18 : x_hd 18 ∈ xWA := xw_479
theorem xgen_18 : xgen 18 1 := ⟨by decide, by decide, by decide +kernel⟩
theorem xhd_19 : x_hd 19 ∈ xWA := xw_945
theorem xgen_19 : xgen 19 0 := ⟨by decide, by decide, by decide +kernel⟩
theorem xhd_20 : x_hd 20 ∈ xWA := xw_1080
theorem xgen_20 : xgen 20 0 := ⟨by decide, by decide, by decide +kernel⟩
theorem xhd_21 : x_hd 21 ∈ xWA := xw_1055
theorem xgen_21 : xgen 21 1 := ⟨by decide, by decide, by decide +kernel⟩
theorem xhd_22 : x_hd 22 ∈ xWA := xw_1059
theorem xgen_22 : xgen 22 1 := ⟨by decide, by decide, by decide +kernel⟩
theorem xhd_23 : x_hd 23 ∈ xWA := xw_1063
theorem xgen_23 : xgen 23 2 := ⟨by decide, by decide, by decide +kernel⟩
theorem xhd_24 : x_hd 24 ∈ xWA := xw_1332
theorem xgen_24 : xgen 24 2 := ⟨by decide, by decide, by decide +kernel⟩
theorem xhd_25 : x_hd 25 ∈ xWA := xw_464
theorem xgen_25 : xgen 25 2 := ⟨by decide, by decide, by decide +kernel⟩
theorem xhd_26 : x_hd 26 ∈ xWA := xw_483
theorem xgen_26 : xgen 26 1 := ⟨by decide, by decide, by decide +kernel⟩
theorem xhd_27 : x_hd 27 ∈ xWA := xw_487
theorem xgen_27 : xgen 27 1 := ⟨by decide, by decide, by decide +kernel⟩
theorem xhd_28 : x_hd 28 ∈ xWA := xw_495
theorem xgen_28 : xgen 28 0 := ⟨by decide, by decide, by decide +kernel⟩
theorem xhd_29 : x_hd 29 ∈ xWA := xw_499
theorem xgen_29 : xgen 29 1 := ⟨by decide, by decide, by decide +kernel⟩
theorem xhd_30 : x_hd 30 ∈ xWA := xw_503
theorem xgen_30 : xgen 30 2 := ⟨by decide, by decide, by decide +kernel⟩
theorem xhd_31 : x_hd 31 ∈ xWA := xw_510
theorem xgen_31 : xgen 31 2 := ⟨by decide, by decide, by decide +kernel⟩
theorem xhd_32 : x_hd 32 ∈ xWA := xw_514
theorem xgen_32 : xgen 32 2 := ⟨by decide, by decide, by decide +kernel⟩
theorem xhd_33 : x_hd 33 ∈ xWA := xw_565
theorem xgen_33 : xgen 33 3 := ⟨by decide, by decide, by decide +kernel⟩
theorem xhd_34 : x_hd 34 ∈ xWA := xw_1406
theorem xgen_34 : xgen 34 0 := ⟨by decide, by decide, by decide +kernel⟩
theorem xhd_35 : x_hd 35 ∈ xWA := xw_1044
theorem xgen_35 : xgen 35 1 := ⟨by decide, by decide, by decide +kernel⟩
theorem xhd_36 : x_hd 36 ∈ xWA := xw_541
theorem xgen_36 : xgen 36 1 := ⟨by decide, by decide, by decide +kernel⟩
theorem xhd_37 : x_hd 37 ∈ xWA := xw_545
theorem xgen_37 : xgen 37 0 := ⟨by decide, by decide, by decide +kernel⟩
theorem xhd_38 : x_hd 38 ∈ xWA := xw_549
theorem xgen_38 : xgen 38 0 := ⟨by decide, by decide, by decide +kernel⟩
theorem xhd_39 : x_hd 39 ∈ xWA := xw_557
theorem xgen_39 : xgen 39 0 := ⟨by decide, by decide, by decide +kernel⟩
theorem xhd_40 : x_hd 40 ∈ xWA := xw_561
theorem xgen_40 : xgen 40 0 := ⟨by decide, by decide, by decide +kernel⟩
theorem xhd_41 : x_hd 41 ∈ xWA := xw_553
theorem xgen_41 : xgen 41 1 := ⟨by decide, by decide, by decide +kernel⟩
theorem xhd_42 : x_hd 42 ∈ xWA := xw_166
theorem xgen_42 : xgen 42 0 := ⟨by decide, by decide, by decide +kernel⟩
theorem xhd_43 : x_hd 43 ∈ xWA := xw_1007
theorem xgen_43 : xgen 43 3 := ⟨by decide, by decide, by decide +kernel⟩
theorem xhd_44 : x_hd 44 ∈ xWA := xw_1012
theorem xgen_44 : xgen 44 4 := ⟨by decide, by decide, by decide +kernel⟩
theorem xhd_45 : x_hd 45 ∈ xWA := xw_518
theorem xgen_45 : xgen 45 3 := ⟨by decide, by decide, by decide +kernel⟩
theorem xhd_46 : x_hd 46 ∈ xWA := xw_523
theorem xgen_46 : xgen 46 2 := ⟨by decide, by decide, by decide +kernel⟩
theorem xhd_47 : x_hd 47 ∈ xWA := xw_533
theorem xgen_47 : xgen 47 4 := ⟨by decide, by decide, by decide +kernel⟩
theorem xhd_48 : x_hd 48 ∈ xWA := xw_537
theorem xgen_48 : xgen 48 4 := ⟨by decide, by decide, by decide +kernel⟩
theorem xhd_49 : x_hd 49 ∈ xWA := xw_231
theorem xgen_49 : xgen 49 0 := ⟨by decide, by decide, by decide +kernel⟩
theorem xhd_50 : x_hd 50 ∈ xWA := xw_833
theorem xgen_50 : xgen 50 1 := ⟨by decide, by decide, by decide +kernel⟩
theorem xhd_51 : x_hd 51 ∈ xWA := xw_792
theorem xgen_51 : xgen 51 0 := ⟨by decide, by decide, by decide +kernel⟩
theorem xhd_52 : x_hd 52 ∈ xWA := xw_710
theorem xgen_52 : xgen 52 0 := ⟨by decide, by decide, by decide +kernel⟩
theorem xhd_53 : x_hd 53 ∈ xWA := xw_714
theorem xgen_53 : xgen 53 0 := ⟨by decide, by decide, by decide +kernel⟩
theorem xhd_54 : x_hd 54 ∈ xWA := xw_787
theorem xgen_54 : xgen 54 1 := ⟨by decide, by decide, by decide +kernel⟩
theorem xhd_55 : x_hd 55 ∈ xWA := xw_720
theorem xgen_55 : xgen 55 1 := ⟨by decide, by decide, by decide +kernel⟩
theorem xhd_56 : x_hd 56 ∈ xWA := xw_782
theorem xgen_56 : xgen 56 1 := ⟨by decide, by decide, by decide +kernel⟩
theorem xhd_57 : x_hd 57 ∈ xWA := xw_771
theorem xgen_57 : xgen 57 0 := ⟨by decide, by decide, by decide +kernel⟩
theorem xhd_58 : x_hd 58 ∈ xWA := xw_774
theorem xgen_58 : xgen 58 1 := ⟨by decide, by decide, by decide +kernel⟩
theorem xhd_59 : x_hd 59 ∈ xWA := xw_778
theorem xgen_59 : xgen 59 1 := ⟨by decide, by decide, by decide +kernel⟩
theorem xhd_60 : x_hd 60 ∈ xWA := xw_63
theorem xgen_60 : xgen 60 0 := ⟨by decide, by decide, by decide +kernel⟩
theorem xhd_61 : x_hd 61 ∈ xWA := xw_442
theorem xgen_61 : xgen 61 2 := ⟨by decide, by decide, by decide +kernel⟩
theorem xhd_62 : x_hd 62 ∈ xWA := xw_856
theorem xgen_62 : xgen 62 1 := ⟨by decide, by decide, by decide +kernel⟩
theorem xhd_63 : x_hd 63 ∈ xWA := xw_679
theorem xgen_63 : xgen 63 1 := ⟨by decide, by decide, by decide +kernel⟩
theorem xhd_64 : x_hd 64 ∈ xWA := xw_874
theorem xgen_64 : xgen 64 0 := ⟨by decide, by decide, by decide +kernel⟩
theorem xhd_65 : x_hd 65 ∈ xWA := xw_865
theorem xgen_65 : xgen 65 1 := ⟨by decide, by decide, by decide +kernel⟩
theorem xhd_66 : x_hd 66 ∈ xWA := xw_892
theorem xgen_66 : xgen 66 1 := ⟨by decide, by decide, by decide +kernel⟩
theorem xhd_67 : x_hd 67 ∈ xWA := xw_688
theorem xgen_67 : xgen 67 2 := ⟨by decide, by decide, by decide +kernel⟩
theorem xhd_68 : x_hd 68 ∈ xWA := xw_883
theorem xgen_68 : xgen 68 2 := ⟨by decide, by decide, by decide +kernel⟩
theorem xhd_69 : x_hd 69 ∈ xWA := xw_697
theorem xgen_69 : xgen 69 1 := ⟨by decide, by decide, by decide +kernel⟩
theorem xhd_70 : x_hd 70 ∈ xWA := xw_901
theorem xgen_70 : xgen 70 2 := ⟨by decide, by decide, by decide +kernel⟩
theorem xhd_71 : x_hd 71 ∈ xWA := xw_916
theorem xgen_71 : xgen 71 0 := ⟨by decide, by decide, by decide +kernel⟩
theorem xhd_72 : x_hd 72 ∈ xWA := xw_995
theorem xgen_72 : xgen 72 0 := ⟨by decide, by decide, by decide +kernel⟩
theorem xhd_73 : x_hd 73 ∈ xWA := xw_957
theorem xgen_73 : xgen 73 0 := ⟨by decide, by decide, by decide +kernel⟩
theorem xhd_74 : x_hd 74 ∈ xWA := xw_921
theorem xgen_74 : xgen 74 0 := ⟨by decide, by decide, by decide +kernel⟩
theorem xhd_75 : x_hd 75 ∈ xWA := xw_926
theorem xgen_75 : xgen 75 0 := ⟨by decide, by decide, by decide +kernel⟩
theorem xhd_76 : x_hd 76 ∈ xWA := xw_963
theorem xgen_76 : xgen 76 1 := ⟨by decide, by decide, by decide +kernel⟩
theorem xhd_77 : x_hd 77 ∈ xWA := xw_971
theorem xgen_77 : xgen 77 1 := ⟨by decide, by decide, by decide +kernel⟩
theorem xhd_78 : x_hd 78 ∈ xWA := xw_975
theorem xgen_78 : xgen 78 1 := ⟨by decide, by decide, by decide +kernel⟩
theorem xhd_79 : x_hd 79 ∈ xWA := xw_1051
theorem xgen_79 : xgen 79 1 := ⟨by decide, by decide, by decide +kernel⟩
theorem xhd_80 : x_hd 80 ∈ xWA := xw_1067
theorem xgen_80 : xgen 80 1 := ⟨by decide, by decide, by decide +kernel⟩
theorem xhd_81 : x_hd 81 ∈ xWA := xw_1402
theorem xgen_81 : xgen 81 0 := ⟨by decide, by decide, by decide +kernel⟩
theorem xhd_82 : x_hd 82 ∈ xWA := xw_1040
theorem xgen_82 : xgen 82 1 := ⟨by decide, by decide, by decide +kernel⟩
theorem xhd_83 : x_hd 83 ∈ xWA := xw_1410
theorem xgen_83 : xgen 83 1 := ⟨by decide, by decide, by decide +kernel⟩
theorem xhd_84 : x_hd 84 ∈ xWA := xw_979
theorem xgen_84 : xgen 84 1 := ⟨by decide, by decide, by decide +kernel⟩
theorem xhd_85 : x_hd 85 ∈ xWA := xw_988
theorem xgen_85 : xgen 85 1 := ⟨by decide, by decide, by decide +kernel⟩
theorem xhd_86 : x_hd 86 ∈ xWA := xw_1348
theorem xgen_86 : xgen 86 1 := ⟨by decide, by decide, by decide +kernel⟩
theorem xhd_87 : x_hd 87 ∈ xWA := xw_1359
theorem xgen_87 : xgen 87 1 := ⟨by decide, by decide, by decide +kernel⟩
theorem xhd_88 : x_hd 88 ∈ xWA := xw_1366
theorem xgen_88 : xgen 88 2 := ⟨by decide, by decide, by decide +kernel⟩
theorem xhd_89 : x_hd 89 ∈ xWA := xw_1392
theorem xgen_89 : xgen 89 1 := ⟨by decide, by decide, by decide +kernel⟩
theorem xhd_90 : x_hd 90 ∈ xWA := xw_1373
theorem xgen_90 : xgen 90 2 := ⟨by decide, by decide, by decide +kernel⟩
theorem xhd_91 : x_hd 91 ∈ xWA := xw_1388
theorem xgen_91 : xgen 91 2 := ⟨by decide, by decide, by decide +kernel⟩
theorem xhd_92 : x_hd 92 ∈ xWA := xw_1383
theorem xgen_92 : xgen 92 2 := ⟨by decide, by decide, by decide +kernel⟩
theorem xhd_93 : x_hd 93 ∈ xWA := xw_931
theorem xgen_93 : xgen 93 0 := ⟨by decide, by decide, by decide +kernel⟩
theorem xhd_94 : x_hd 94 ∈ xWA := xw_936
theorem xgen_94 : xgen 94 0 := ⟨by decide, by decide, by decide +kernel⟩
theorem xhd_95 : x_hd 95 ∈ xWA := xw_941
theorem xgen_95 : xgen 95 0 := ⟨by decide, by decide, by decide +kernel⟩
theorem xhd_96 : x_hd 96 ∈ xWA := xw_1072
theorem xgen_96 : xgen 96 0 := ⟨by decide, by decide, by decide +kernel⟩
theorem xhd_97 : x_hd 97 ∈ xWA := xw_950
theorem xgen_97 : xgen 97 0 := ⟨by decide, by decide, by decide +kernel⟩
theorem xhd_98 : x_hd 98 ∈ xWA := xw_1076
theorem xgen_98 : xgen 98 0 := ⟨by decide, by decide, by decide +kernel⟩
theorem xhd_99 : x_hd 99 ∈ xWA := xw_999
theorem xgen_99 : xgen 99 0 := ⟨by decide, by decide, by decide +kernel⟩
theorem xhd_100 : x_hd 100 ∈ xWA := xw_829
theorem xgen_100 : xgen 100 1 := ⟨by decide, by decide, by decide +kernel⟩
theorem xhd_101 : x_hd 101 ∈ xWA := xw_706
theorem xgen_101 : xgen 101 0 := ⟨by decide, by decide, by decide +kernel⟩
theorem xhd_102 : x_hd 102 ∈ xWA := xw_806
theorem xgen_102 : xgen 102 0 := ⟨by decide, by decide, by decide +kernel⟩
theorem xhd_103 : x_hd 103 ∈ xWA := xw_1086
theorem xgen_103 : xgen 103 0 := ⟨by decide, by decide, by decide +kernel⟩
theorem xhd_104 : x_hd 104 ∈ xWA := xw_813
theorem xgen_104 : xgen 104 0 := ⟨by decide, by decide, by decide +kernel⟩
theorem xhd_105 : x_hd 105 ∈ xWA := xw_341
theorem xgen_105 : xgen 105 0 := ⟨by decide, by decide, by decide +kernel⟩
theorem xhd_106 : x_hd 106 ∈ xWA := xw_840
theorem xgen_106 : xgen 106 0 := ⟨by decide, by decide, by decide +kernel⟩
theorem xhd_107 : x_hd 107 ∈ xWA := xw_470
theorem xgen_107 : xgen 107 3 := ⟨by decide, by decide, by decide +kernel⟩
theorem xhd_108 : x_hd 108 ∈ xWA := xw_1351
theorem xgen_108 : xgen 108 3 := ⟨by decide, by decide, by decide +kernel⟩
theorem xhd_109 : x_hd 109 ∈ xWA := xw_1376
theorem xgen_109 : xgen 109 1 := ⟨by decide, by decide, by decide +kernel⟩
theorem xhd_110 : x_hd 110 ∈ xWA := xw_966
theorem xgen_110 : xgen 110 1 := ⟨by decide, by decide, by decide +kernel⟩
theorem xhd_111 : x_hd 111 ∈ xWA := xw_467
theorem xgen_111 : xgen 111 1 := ⟨by decide, by decide, by decide +kernel⟩
theorem xhd_112 : x_hd 112 ∈ xWA := xw_982
theorem xgen_112 : xgen 112 1 := ⟨by decide, by decide, by decide +kernel⟩
theorem xhd_113 : x_hd 113 ∈ xWA := xw_506
theorem xgen_113 : xgen 113 1 := ⟨by decide, by decide, by decide +kernel⟩
theorem xhd_114 : x_hd 114 ∈ xWA := xw_590
theorem xgen_114 : xgen 114 1 := ⟨by decide, by decide, by decide +kernel⟩
theorem xhd_115 : x_hd 115 ∈ xWA := xw_448
theorem xgen_115 : xgen 115 3 := ⟨by decide, by decide, by decide +kernel⟩
theorem xhd_116 : x_hd 116 ∈ xWA := xw_452
theorem xgen_116 : xgen 116 3 := ⟨by decide, by decide, by decide +kernel⟩
theorem xhd_117 : x_hd 117 ∈ xWA := xw_797
theorem xgen_117 : xgen 117 0 := ⟨by decide, by decide, by decide +kernel⟩
theorem xhd_118 : x_hd 118 ∈ xWA := xw_1003
theorem xgen_118 : xgen 118 1 := ⟨by decide, by decide, by decide +kernel⟩
theorem xhd_119 : x_hd 119 ∈ xWA := xw_1016
theorem xgen_119 : xgen 119 1 := ⟨by decide, by decide, by decide +kernel⟩
theorem xhd_120 : x_hd 120 ∈ xWA := xw_351
theorem xgen_120 : xgen 120 2 := ⟨by decide, by decide, by decide +kernel⟩
theorem xhd_121 : x_hd 121 ∈ xWA := xw_355
theorem xgen_121 : xgen 121 3 := ⟨by decide, by decide, by decide +kernel⟩
theorem xhd_122 : x_hd 122 ∈ xWA := xw_852
theorem xgen_122 : xgen 122 2 := ⟨by decide, by decide, by decide +kernel⟩
theorem xhd_123 : x_hd 123 ∈ xWA := xw_675
theorem xgen_123 : xgen 123 2 := ⟨by decide, by decide, by decide +kernel⟩
theorem xhd_124 : x_hd 124 ∈ xWA := xw_870
theorem xgen_124 : xgen 124 1 := ⟨by decide, by decide, by decide +kernel⟩
theorem xhd_125 : x_hd 125 ∈ xWA := xw_861
theorem xgen_125 : xgen 125 2 := ⟨by decide, by decide, by decide +kernel⟩
theorem xhd_126 : x_hd 126 ∈ xWA := xw_888
theorem xgen_126 : xgen 126 2 := ⟨by decide, by decide, by decide +kernel⟩
theorem xhd_127 : x_hd 127 ∈ xWA := xw_684
theorem xgen_127 : xgen 127 3 := ⟨by decide, by decide, by decide +kernel⟩
theorem xhd_128 : x_hd 128 ∈ xWA := xw_879
theorem xgen_128 : xgen 128 3 := ⟨by decide, by decide, by decide +kernel⟩
theorem xhd_129 : x_hd 129 ∈ xWA := xw_693
theorem xgen_129 : xgen 129 2 := ⟨by decide, by decide, by decide +kernel⟩
theorem xhd_130 : x_hd 130 ∈ xWA := xw_897
theorem xgen_130 : xgen 130 3 := ⟨by decide, by decide, by decide +kernel⟩
theorem xhd_131 : x_hd 131 ∈ xWA := xw_953
theorem xgen_131 : xgen 131 1 := ⟨by decide, by decide, by decide +kernel⟩
theorem xhd_132 : x_hd 132 ∈ xWA := xw_1047
theorem xgen_132 : xgen 132 2 := ⟨by decide, by decide, by decide +kernel⟩
theorem xhd_133 : x_hd 133 ∈ xWA := xw_1398
theorem xgen_133 : xgen 133 1 := ⟨by decide, by decide, by decide +kernel⟩
theorem xhd_134 : x_hd 134 ∈ xWA := xw_1036
theorem xgen_134 : xgen 134 2 := ⟨by decide, by decide, by decide +kernel⟩
theorem xhd_135 : x_hd 135 ∈ xWA := xw_1344
theorem xgen_135 : xgen 135 2 := ⟨by decide, by decide, by decide +kernel⟩
theorem xhd_136 : x_hd 136 ∈ xWA := xw_1355
theorem xgen_136 : xgen 136 2 := ⟨by decide, by decide, by decide +kernel⟩
theorem xhd_137 : x_hd 137 ∈ xWA := xw_1362
theorem xgen_137 : xgen 137 3 := ⟨by decide, by decide, by decide +kernel⟩
theorem xhd_138 : x_hd 138 ∈ xWA := xw_1379
theorem xgen_138 : xgen 138 3 := ⟨by decide, by decide, by decide +kernel⟩
theorem xhd_139 : x_hd 139 ∈ xWA := xw_702
theorem xgen_139 : xgen 139 1 := ⟨by decide, by decide, by decide +kernel⟩
theorem xhd_140 : x_hd 140 ∈ xWA := xw_801
theorem xgen_140 : xgen 140 1 := ⟨by decide, by decide, by decide +kernel⟩
theorem xhd_141 : x_hd 141 ∈ xWA := xw_809
theorem xgen_141 : xgen 141 1 := ⟨by decide, by decide, by decide +kernel⟩
theorem xhd_142 : x_hd 142 ∈ xWA := xw_825
theorem xgen_142 : xgen 142 2 := ⟨by decide, by decide, by decide +kernel⟩
theorem xhd_143 : x_hd 143 ∈ xWA := xw_820
theorem xgen_143 : xgen 143 2 := ⟨by decide, by decide, by decide +kernel⟩
theorem xhd_144 : x_hd 144 ∈ xWA := xw_908
theorem xgen_144 : xgen 144 1 := ⟨by decide, by decide, by decide +kernel⟩
theorem xhd_145 : x_hd 145 ∈ xWA := xw_836
theorem xgen_145 : xgen 145 1 := ⟨by decide, by decide, by decide +kernel⟩
theorem xhd_146 : x_hd 146 ∈ xWA := xw_848
theorem xgen_146 : xgen 146 2 := ⟨by decide, by decide, by decide +kernel⟩
theorem xhd_147 : x_hd 147 ∈ xWA := xw_911
theorem xgen_147 : xgen 147 1 := ⟨by decide, by decide, by decide +kernel⟩
theorem xhd_148 : x_hd 148 ∈ xWA := xw_991
theorem xgen_148 : xgen 148 1 := ⟨by decide, by decide, by decide +kernel⟩
theorem xhd_149 : x_hd 149 ∈ xWA := xw_1341
theorem xgen_149 : xgen 149 2 := ⟨by decide, by decide, by decide +kernel⟩
theorem xhd_150 : x_hd 150 ∈ xWA := xw_1369
theorem xgen_150 : xgen 150 3 := ⟨by decide, by decide, by decide +kernel⟩
theorem xhd_151 : x_hd 151 ∈ xWA := xw_1395
theorem xgen_151 : xgen 151 1 := ⟨by decide, by decide, by decide +kernel⟩
theorem xhd_152 : x_hd 152 ∈ xWA := xw_1338
theorem xgen_152 : xgen 152 1 := ⟨by decide, by decide, by decide +kernel⟩
theorem xgen_153 : xgen 153 1 := ⟨by decide, by decide, by decide +kernel⟩
theorem xhd_154 : x_hd 154 ∈ xWA := xw_272
theorem xgen_154 : xgen 154 0 := ⟨by decide, by decide, by decide +kernel⟩
theorem xhd_155 : x_hd 155 ∈ xWA := xw_1319
theorem xgen_155 : xgen 155 1 := ⟨by decide, by decide, by decide +kernel⟩
theorem xhd_156 : x_hd 156 ∈ xWA := xw_1200
theorem xgen_156 : xgen 156 1 := ⟨by decide, by decide, by decide +kernel⟩
theorem xhd_157 : x_hd 157 ∈ xWA := xw_1090
theorem xgen_157 : xgen 157 1 := ⟨by decide, by decide, by decide +kernel⟩
theorem xhd_158 : x_hd 158 ∈ xWA := xw_1244
theorem xgen_158 : xgen 158 0 := ⟨by decide, by decide, by decide +kernel⟩
theorem xhd_159 : x_hd 159 ∈ xWA := xw_275
theorem xgen_159 : xgen 159 1 := ⟨by decide, by decide, by decide +kernel⟩
theorem xhd_160 : x_hd 160 ∈ xWA := xw_1322
theorem xgen_160 : xgen 160 1 := ⟨by decide, by decide, by decide +kernel⟩
theorem xhd_161 : x_hd 161 ∈ xWA := xw_1203
theorem xgen_161 : xgen 161 1 := ⟨by decide, by decide, by decide +kernel⟩
theorem xhd_162 : x_hd 162 ∈ xWA := xw_1093
theorem xgen_162 : xgen 162 1 := ⟨by decide, by decide, by decide +kernel⟩
theorem xhd_163 : x_hd 163 ∈ xWA := xw_1246
theorem xgen_163 : xgen 163 0 := ⟨by decide, by decide, by decide +kernel⟩
theorem xhd_164 : x_hd 164 ∈ xWA := xw_1116
theorem xgen_164 : xgen 164 1 := ⟨by decide, by decide, by decide +kernel⟩
theorem xhd_165 : x_hd 165 ∈ xWA := xw_1120
theorem xgen_165 : xgen 165 1 := ⟨by decide, by decide, by decide +kernel⟩
theorem xhd_166 : x_hd 166 ∈ xWA := xw_1146
theorem xgen_166 : xgen 166 0 := ⟨by decide, by decide, by decide +kernel⟩
theorem xhd_167 : x_hd 167 ∈ xWA := xw_724
theorem xgen_167 : xgen 167 0 := ⟨by decide, by decide, by decide +kernel⟩
theorem xhd_168 : x_hd 168 ∈ xWA := xw_733
theorem xgen_168 : xgen 168 1 := ⟨by decide, by decide, by decide +kernel⟩
theorem xhd_169 : x_hd 169 ∈ xWA := xw_728
theorem xgen_169 : xgen 169 0 := ⟨by decide, by decide, by decide +kernel⟩
theorem xhd_170 : x_hd 170 ∈ xWA := xw_737
theorem xgen_170 : xgen 170 0 := ⟨by decide, by decide, by decide +kernel⟩
theorem xhd_171 : x_hd 171 ∈ xWA := xw_743
theorem xgen_171 : xgen 171 2 := ⟨by decide, by decide, by decide +kernel⟩
theorem xhd_172 : x_hd 172 ∈ xWA := xw_740
theorem xgen_172 : xgen 172 2 := ⟨by decide, by decide, by decide +kernel⟩
theorem xhd_173 : x_hd 173 ∈ xWA := xw_1325
theorem xgen_173 : xgen 173 1 := ⟨by decide, by decide, by decide +kernel⟩
theorem xhd_174 : x_hd 174 ∈ xWA := xw_1209
theorem xgen_174 : xgen 174 3 := ⟨by decide, by decide, by decide +kernel⟩
theorem xhd_175 : x_hd 175 ∈ xWA := xw_1206
theorem xgen_175 : xgen 175 1 := ⟨by decide, by decide, by decide +kernel⟩
theorem xhd_176 : x_hd 176 ∈ xWA := xw_575
theorem xgen_176 : xgen 176 1 := ⟨by decide, by decide, by decide +kernel⟩
theorem xhd_177 : x_hd 177 ∈ xWA := xw_1132
theorem xgen_177 : xgen 177 2 := ⟨by decide, by decide, by decide +kernel⟩
theorem xhd_178 : x_hd 178 ∈ xWA := xw_1123
theorem xgen_178 : xgen 178 3 := ⟨by decide, by decide, by decide +kernel⟩
theorem xhd_179 : x_hd 179 ∈ xWA := xw_460
theorem xgen_179 : xgen 179 0 := ⟨by decide, by decide, by decide +kernel⟩
theorem xcl_1 : xcl 1 RJ4 TJ4 4 := ⟨rfl, List.forall_mem_cons.mpr ⟨xw_291, List.forall_mem_cons.mpr ⟨xw_293, List.forall_mem_cons.mpr ⟨xw_295, List.forall_mem_cons.mpr ⟨xw_297, fun _ h => absurd h List.not_mem_nil⟩⟩⟩⟩, tyJ4_ok, nmJ4⟩
theorem xrcl_1 : xrcl 1 "java/lang/StringBuilder" := ⟨fun _ => ⟨_, _, rfl⟩, fun h => absurd h (by decide)⟩
theorem xcl_4 : xcl 4 RX2 TX2 7 := ⟨rfl, List.forall_mem_cons.mpr ⟨xw_211, List.forall_mem_cons.mpr ⟨xw_213, List.forall_mem_cons.mpr ⟨xw_215, List.forall_mem_cons.mpr ⟨xw_217, List.forall_mem_cons.mpr ⟨xw_219, List.forall_mem_cons.mpr ⟨xw_221, List.forall_mem_cons.mpr ⟨xw_223, fun _ h => absurd h List.not_mem_nil⟩⟩⟩⟩⟩⟩⟩, tyX2_ok, nmX2⟩
theorem xrcl_4 : xrcl 4 "RingKiln$Courses" := ⟨fun _ => ⟨_, _, rfl⟩, fun h => absurd h (by decide)⟩
theorem xcl_5 : xcl 5 RX3 TX3 3 := ⟨rfl, List.forall_mem_cons.mpr ⟨xw_155, List.forall_mem_cons.mpr ⟨xw_157, List.forall_mem_cons.mpr ⟨xw_159, fun _ h => absurd h List.not_mem_nil⟩⟩⟩, tyX3_ok, nmX3⟩
theorem xrcl_5 : xrcl 5 "RingKiln$History" := ⟨fun _ => ⟨_, _, rfl⟩, fun h => absurd h (by decide)⟩
theorem xcl_6 : xcl 6 RX4 TX4 17 := ⟨rfl, List.forall_mem_cons.mpr ⟨xw_106, List.forall_mem_cons.mpr ⟨xw_108, List.forall_mem_cons.mpr ⟨xw_110, List.forall_mem_cons.mpr ⟨xw_112, List.forall_mem_cons.mpr ⟨xw_114, List.forall_mem_cons.mpr ⟨xw_116, List.forall_mem_cons.mpr ⟨xw_118, List.forall_mem_cons.mpr ⟨xw_120, List.forall_mem_cons.mpr ⟨xw_122, List.forall_mem_cons.mpr ⟨xw_124, List.forall_mem_cons.mpr ⟨xw_126, List.forall_mem_cons.mpr ⟨xw_128, List.forall_mem_cons.mpr ⟨xw_130, List.forall_mem_cons.mpr ⟨xw_132, List.forall_mem_cons.mpr ⟨xw_134, List.forall_mem_cons.mpr ⟨xw_136, List.forall_mem_cons.mpr ⟨xw_138, fun _ h => absurd h List.not_mem_nil⟩⟩⟩⟩⟩⟩⟩⟩⟩⟩⟩⟩⟩⟩⟩⟩⟩, tyX4_ok, nmX4⟩
theorem xrcl_6 : xrcl 6 "RingKiln$Kiln" := ⟨fun _ => ⟨_, _, rfl⟩, fun h => absurd h (by decide)⟩
theorem xcl_7 : xcl 7 RX5 TX5 5 := ⟨rfl, List.forall_mem_cons.mpr ⟨xw_178, List.forall_mem_cons.mpr ⟨xw_180, List.forall_mem_cons.mpr ⟨xw_182, List.forall_mem_cons.mpr ⟨xw_184, List.forall_mem_cons.mpr ⟨xw_186, fun _ h => absurd h List.not_mem_nil⟩⟩⟩⟩⟩, tyX5_ok, nmX5⟩
theorem xrcl_7 : xrcl 7 "RingKiln$Mixer" := ⟨fun _ => ⟨_, _, rfl⟩, fun h => absurd h (by decide)⟩
theorem xcl_8 : xcl 8 RX6 TX6 9 := ⟨rfl, List.forall_mem_cons.mpr ⟨xw_249, List.forall_mem_cons.mpr ⟨xw_251, List.forall_mem_cons.mpr ⟨xw_253, List.forall_mem_cons.mpr ⟨xw_255, List.forall_mem_cons.mpr ⟨xw_257, List.forall_mem_cons.mpr ⟨xw_259, List.forall_mem_cons.mpr ⟨xw_261, List.forall_mem_cons.mpr ⟨xw_263, List.forall_mem_cons.mpr ⟨xw_265, fun _ h => absurd h List.not_mem_nil⟩⟩⟩⟩⟩⟩⟩⟩⟩, tyX6_ok, nmX6⟩
theorem xrcl_8 : xrcl 8 "RingKiln$Program" := ⟨fun _ => ⟨_, _, rfl⟩, fun h => absurd h (by decide)⟩
theorem xcl_9 : xcl 9 RX7 TX7 12 := ⟨rfl, List.forall_mem_cons.mpr ⟨xw_313, List.forall_mem_cons.mpr ⟨xw_315, List.forall_mem_cons.mpr ⟨xw_317, List.forall_mem_cons.mpr ⟨xw_319, List.forall_mem_cons.mpr ⟨xw_321, List.forall_mem_cons.mpr ⟨xw_323, List.forall_mem_cons.mpr ⟨xw_325, List.forall_mem_cons.mpr ⟨xw_327, List.forall_mem_cons.mpr ⟨xw_329, List.forall_mem_cons.mpr ⟨xw_331, List.forall_mem_cons.mpr ⟨xw_333, List.forall_mem_cons.mpr ⟨xw_335, fun _ h => absurd h List.not_mem_nil⟩⟩⟩⟩⟩⟩⟩⟩⟩⟩⟩⟩, tyX7_ok, nmX7⟩
theorem xrcl_9 : xrcl 9 "RingKiln" := ⟨fun _ => ⟨_, _, rfl⟩, fun h => absurd h (by decide)⟩
theorem xrcl_1000 : xrcl 1000 "java/lang/String" := ⟨fun h => absurd h (by decide), fun _ => rfl⟩
theorem xrcl_1001 : xrcl 1001 "RingKiln$Command" := ⟨fun h => absurd h (by decide), fun _ => rfl⟩
theorem xlook {β : Type} {l : List (Nat × β)} {p : Nat} {w : β} (h : l.lookup p = some w) : (p, w) ∈ l := by
  induction l with
  | nil => cases h
  | cons q l ih =>
    obtain ⟨a, b⟩ := q
    simp only [List.lookup] at h
    split at h
    · rename_i e
      cases h
      rw [beq_iff_eq.mp e]
      exact List.mem_cons_self
    · exact List.mem_cons_of_mem _ (ih h)
def xbig (l : List (Nat × Value)) : Bool := l.all (fun q => decide (xB ≤ q.1) && (match q.2 with | .ref z => decide (xB ≤ z) | _ => true))
theorem xbig_of {l : List (Nat × Value)} (h : xbig l = true) {p : Nat} {w : Value} (hw : (p, w) ∈ l) : xB ≤ p ∧ ∀ q, w = .ref q → xB ≤ q := by
  have h1 := List.all_eq_true.mp h _ hw
  simp only [Bool.and_eq_true, decide_eq_true_eq] at h1
  refine ⟨h1.1, fun q e => ?_⟩
  subst e
  simpa using h1.2
theorem xcf_ok0 : ∀ p w, xcf p 0 = some w → xB ≤ p ∧ (∀ q, w = .ref q → xB ≤ q) ∧ (p, "java/lang/String", "value", "[B", w) ∈ xofs := fun p w h => by
  have h1 : (p, w) ∈ xof0 := xlook h
  have h2 := xbig_of (l := xof0) (by decide +kernel) h1
  exact ⟨h2.1, h2.2, List.mem_append_left _ (List.mem_map.mpr ⟨_, h1, rfl⟩)⟩
theorem xcf_ok1 : ∀ p w, xcf p 1 = some w → xB ≤ p ∧ (∀ q, w = .ref q → xB ≤ q) ∧ (p, "java/lang/String", "coder", "B", w) ∈ xofs := fun p w h => by
  have h1 : (p, w) ∈ xof1 := xlook h
  have h2 := xbig_of (l := xof1) (by decide +kernel) h1
  exact ⟨h2.1, h2.2, List.mem_append_right _ (List.mem_append_left _ (List.mem_map.mpr ⟨_, h1, rfl⟩))⟩
theorem xcf_ok2 : ∀ p w, xcf p 2 = some w → xB ≤ p ∧ (∀ q, w = .ref q → xB ≤ q) ∧ (p, "java/lang/Enum", "ordinal", "I", w) ∈ xofs := fun p w h => by
  have h1 : (p, w) ∈ xof2 := xlook h
  have h2 := xbig_of (l := xof2) (by decide +kernel) h1
  exact ⟨h2.1, h2.2, List.mem_append_right _ (List.mem_append_right _ (List.mem_append_left _ (List.mem_map.mpr ⟨_, h1, rfl⟩)))⟩
theorem xcf_ok3 : ∀ p w, xcf p 3 = some w → xB ≤ p ∧ (∀ q, w = .ref q → xB ≤ q) ∧ (p, "RingKiln$Command", "pattern", "Ljava/lang/String;", w) ∈ xofs := fun p w h => by
  have h1 : (p, w) ∈ xof3 := xlook h
  have h2 := xbig_of (l := xof3) (by decide +kernel) h1
  exact ⟨h2.1, h2.2, List.mem_append_right _ (List.mem_append_right _ (List.mem_append_right _ (List.mem_map.mpr ⟨_, h1, rfl⟩)))⟩
theorem xdef_ok (a : Nat) : ∀ v ∈ xdef a, ∀ q, v ≠ .ref q := fun v hv q e => by
  obtain ⟨k, -, rfl⟩ := List.mem_map.mp hv
  unfold xdfv at e
  split at e
  · cases e
  · split at e <;> cases e
def xthb (w : Cond) : Bool := ((xpv ++ lw_tbl).contains w && goodWord w) || (match w with
  | .castable C T => xcas.contains (C, T)
  | .declares y => xdes.contains y
  | _ => false)
theorem xthb_of {l : List Cond} (h : l.all xthb = true) : ∀ w ∈ l, w ∈ xWA ∨ (∃ C T, w = .castable C T ∧ (C, T) ∈ xcas) ∨ ∃ y, w = .declares y ∧ y ∈ xdes := fun w hw => by
  have h1 := List.all_eq_true.mp h w hw
  simp only [xthb, Bool.or_eq_true, Bool.and_eq_true] at h1
  rcases h1 with h1 | h1
  · exact Or.inl (List.mem_filter.mpr ⟨List.contains_iff_mem.mp h1.1, h1.2⟩)
  · split at h1
    · exact Or.inr (Or.inl ⟨_, _, rfl, List.contains_iff_mem.mp h1⟩)
    · exact Or.inr (Or.inr ⟨_, rfl, List.contains_iff_mem.mp h1⟩)
    · cases h1
theorem xt_if {α : Type} {P : Nat → α → Prop} {pc c : Nat} {a b : Option α} (h1 : ∀ e, a = some e → P pc e) (h2 : ∀ e, b = some e → P pc e) : ∀ e, (if pc < c then a else b) = some e → P pc e := fun e h => by
  split at h
  · exact h1 e h
  · exact h2 e h
theorem xt_leaf {α : Type} {P : Nat → α → Prop} {pc k : Nat} {e0 : α} (h : P k e0) : ∀ e, (if pc = k then some e0 else none) = some e → P pc e := fun e he => by
  split at he
  · rename_i h1
    cases he
    rw [h1]; exact h
  · cases he
theorem xt_leafM {α : Type} {P : Nat → α → Prop} {m k : Nat} {a : Option α} (h : ∀ e, a = some e → P k e) : ∀ e, (if m = k then a else none) = some e → P m e := fun e he => by
  split at he
  · rename_i h1
    rw [h1]; exact h e he
  · cases he
def xtokb (e : xEnt) : Bool := (match e.2.2.2.2 with | .ref z => decide (xB ≤ z) | _ => true) && (match e.1 with
  | .new _ => decide (e.2.2.1 < 1000) || decide (2000 ≤ e.2.2.1)
  | .newarray _ => decide (e.2.2.1 < 8)
  | .anewarray _ => decide (e.2.2.1 < 8)
  | .multianewarray _ _ => decide (e.2.2.1 < 8) && (decide (4 ≤ e.2.2.2.1) && decide (e.2.2.2.1 < 8))
  | _ => true)
def xP (M pc : Nat) (e : xEnt) : Prop := xok M pc e.1 e.2.1 e.2.2.1 e.2.2.2.1 e.2.2.2.2 ∧ xtokb e = true
theorem xthr_0 : ∀ w ∈ vx_atS "RingKiln" 262 "java/lang/IllegalArgumentException" ["java/lang/RuntimeException", "java/lang/Exception"], w ∈ xWA ∨ (∃ C T, w = .castable C T ∧ (C, T) ∈ xcas) ∨ ∃ y, w = .declares y ∧ y ∈ xdes := xthb_of (by decide +kernel)
theorem xthr_1 : ∀ w ∈ vx_atS "RingKiln" 273 "java/lang/UnsupportedOperationException" ["java/lang/RuntimeException", "java/lang/Exception"], w ∈ xWA ∨ (∃ C T, w = .castable C T ∧ (C, T) ∈ xcas) ∨ ∃ y, w = .declares y ∧ y ∈ xdes := xthb_of (by decide +kernel)
theorem xthr_2 : ∀ w ∈ vx_atS "RingKiln" 308 "java/lang/IllegalStateException" ["java/lang/RuntimeException", "java/lang/Exception"], w ∈ xWA ∨ (∃ C T, w = .castable C T ∧ (C, T) ∈ xcas) ∨ ∃ y, w = .declares y ∧ y ∈ xdes := xthb_of (by decide +kernel)
theorem xthr_3 : ∀ w ∈ vx_atS "RingKiln" 295 "java/lang/IndexOutOfBoundsException" ["java/lang/RuntimeException", "java/lang/Exception"], w ∈ xWA ∨ (∃ C T, w = .castable C T ∧ (C, T) ∈ xcas) ∨ ∃ y, w = .declares y ∧ y ∈ xdes := xthb_of (by decide +kernel)
theorem xthr_4 : ∀ w ∈ (xnA "RingKiln" 339).filter vx_no, w ∈ xWA ∨ (∃ C T, w = .castable C T ∧ (C, T) ∈ xcas) ∨ ∃ y, w = .declares y ∧ y ∈ xdes := xthb_of (by decide +kernel)
