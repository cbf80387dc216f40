set_option maxRecDepth 100000 in
theorem ck_1 : q_1.all (mm_chk method_3_code 0) = true := by decide +kernel
set_option maxRecDepth 100000 in
theorem ck_2 : q_2.all (mm_chk method_4_code 0) = true := by decide +kernel
set_option maxRecDepth 100000 in
theorem ck_3 : q_3.all (mm_chk method_5_code 0) = true := by decide +kernel
set_option maxRecDepth 100000 in
theorem ck_4 : q_4.all (mm_chk method_6_code 0) = true := by decide +kernel
set_option maxRecDepth 100000 in
theorem ck_5 : q_5.all (mm_chk method_7_code 0) = true := by decide +kernel
set_option maxRecDepth 100000 in
theorem ck_6 : q_6.all (mm_chk method_8_code 0) = true := by decide +kernel
set_option maxRecDepth 100000 in
theorem ck_7 : q_7.all (mm_chk method_9_code 0) = true := by decide +kernel
set_option maxRecDepth 100000 in
theorem ck_8 : q_8.all (mm_chk method_10_code 0) = true := by decide +kernel
set_option maxRecDepth 100000 in
theorem ck_9 : q_9.all (mm_chk method_11_code 0) = true := by decide +kernel
set_option maxRecDepth 100000 in
theorem ck_10 : q_10.all (mm_chk method_12_code 0) = true := by decide +kernel
set_option maxRecDepth 100000 in
theorem ck_11 : q_11.all (mm_chk method_13_code 0) = true := by decide +kernel
set_option maxRecDepth 100000 in
theorem ck_12 : q_12.all (mm_chk method_14_code 0) = true := by decide +kernel
set_option maxRecDepth 100000 in
theorem ck_13 : q_13.all (mm_chk method_15_code 0) = true := by decide +kernel
set_option maxRecDepth 100000 in
theorem ck_14 : q_14.all (mm_chk method_16_code 0) = true := by decide +kernel
set_option maxRecDepth 100000 in
theorem ck_15 : q_15.all (mm_chk prog_1_method_1_code 1) = true := by decide +kernel
set_option maxRecDepth 100000 in
theorem ck_16 : q_16.all (mm_chk prog_3_method_1_code 3) = true := by decide +kernel
set_option maxRecDepth 100000 in
theorem ck_17 : q_17.all (mm_chk prog_6_method_1_code 6) = true := by decide +kernel
set_option maxRecDepth 100000 in
theorem ck_18 : q_18.all (mm_chk prog_2_method_1_code 2) = true := by decide +kernel
set_option maxRecDepth 100000 in
theorem ck_19 : q_19.all (mm_chk prog_4_method_1_code 4) = true := by decide +kernel
set_option maxRecDepth 100000 in
theorem ck_20 : q_20.all (mm_chk prog_7_method_1_code 7) = true := by decide +kernel
set_option maxRecDepth 100000 in
theorem ck_21 : q_21.all (mm_chk prog_5_method_1_code 5) = true := by decide +kernel
set_option maxRecDepth 100000 in
theorem ck_22 : q_22.all (mm_chk prog_1_method_11_code 1) = true := by decide +kernel
set_option maxRecDepth 100000 in
theorem ck_23 : q_23.all (mm_chk prog_1_method_17_code 1) = true := by decide +kernel
set_option maxRecDepth 100000 in
theorem ck_24 : q_24.all (mm_chk prog_6_method_3_code 6) = true := by decide +kernel
set_option maxRecDepth 100000 in
theorem ck_25 : q_25.all (mm_chk prog_1_method_18_code 1) = true := by decide +kernel
set_option maxRecDepth 100000 in
theorem ck_26 : q_26.all (mm_chk prog_1_method_2_code 1) = true := by decide +kernel
set_option maxRecDepth 100000 in
theorem ck_27 : q_27.all (mm_chk prog_6_method_2_code 6) = true := by decide +kernel
set_option maxRecDepth 100000 in
theorem ck_28 : q_28.all (mm_chk prog_1_method_3_code 1) = true := by decide +kernel
set_option maxRecDepth 100000 in
theorem ck_29 : q_29.all (mm_chk prog_1_method_4_code 1) = true := by decide +kernel
set_option maxRecDepth 100000 in
theorem ck_30 : q_30.all (mm_chk prog_7_method_2_code 7) = true := by decide +kernel
set_option maxRecDepth 100000 in
theorem ck_31 : q_31.all (mm_chk prog_3_method_2_code 3) = true := by decide +kernel
set_option maxRecDepth 100000 in
theorem ck_32 : q_32.all (mm_chk prog_2_method_2_code 2) = true := by decide +kernel
set_option maxRecDepth 100000 in
theorem ck_33 : q_33.all (mm_chk prog_6_method_4_code 6) = true := by decide +kernel
set_option maxRecDepth 100000 in
theorem ck_34 : q_34.all (mm_chk prog_6_method_5_code 6) = true := by decide +kernel
set_option maxRecDepth 100000 in
theorem ck_35 : q_35.all (mm_chk prog_6_method_10_code 6) = true := by decide +kernel
set_option maxRecDepth 100000 in
theorem ck_36 : q_36.all (mm_chk prog_6_method_11_code 6) = true := by decide +kernel
set_option maxRecDepth 100000 in
theorem ck_37 : q_37.all (mm_chk prog_15_method_69_code 12) = true := by decide +kernel
set_option maxRecDepth 100000 in
theorem ck_38 : q_38.all (mm_chk prog_6_method_12_code 6) = true := by decide +kernel
set_option maxRecDepth 100000 in
theorem ck_39 : q_39.all (mm_chk prog_3_method_3_code 3) = true := by decide +kernel
set_option maxRecDepth 100000 in
theorem ck_40 : q_40.all (mm_chk prog_6_method_8_code 6) = true := by decide +kernel
set_option maxRecDepth 100000 in
theorem ck_41 : q_41.all (mm_chk prog_3_method_4_code 3) = true := by decide +kernel
set_option maxRecDepth 100000 in
theorem ck_42 : q_42.all (mm_chk prog_3_method_11_code 3) = true := by decide +kernel
set_option maxRecDepth 100000 in
theorem ck_43 : q_43.all (mm_chk prog_6_method_6_code 6) = true := by decide +kernel
set_option maxRecDepth 100000 in
theorem ck_44 : q_44.all (mm_chk prog_3_method_13_code 3) = true := by decide +kernel
set_option maxRecDepth 100000 in
theorem ck_45 : q_45.all (mm_chk prog_3_method_14_code 3) = true := by decide +kernel
set_option maxRecDepth 100000 in
theorem ck_46 : q_46.all (mm_chk prog_3_method_5_code 3) = true := by decide +kernel
set_option maxRecDepth 100000 in
theorem ck_47 : q_47.all (mm_chk prog_6_method_7_code 6) = true := by decide +kernel
set_option maxRecDepth 100000 in
theorem ck_48 : q_48.all (mm_chk prog_17_method_54_code 9) = true := by decide +kernel
set_option maxRecDepth 100000 in
theorem ck_49 : q_49.all (mm_chk prog_17_method_152_code 9) = true := by decide +kernel
set_option maxRecDepth 100000 in
theorem ck_50 : q_50.all (mm_chk prog_17_method_56_code 9) = true := by decide +kernel
set_option maxRecDepth 100000 in
theorem ck_51 : q_51.all (mm_chk prog_17_method_154_code 9) = true := by decide +kernel
set_option maxRecDepth 100000 in
theorem ck_52 : q_52.all (mm_chk prog_18_method_2_code 10) = true := by decide +kernel
set_option maxRecDepth 100000 in
theorem ck_53 : q_53.all (mm_chk prog_17_method_155_code 9) = true := by decide +kernel
set_option maxRecDepth 100000 in
theorem ck_54 : q_54.all (mm_chk prog_22_method_11_code 13) = true := by decide +kernel
set_option maxRecDepth 100000 in
theorem ck_55 : q_55.all (mm_chk prog_3_method_6_code 3) = true := by decide +kernel
set_option maxRecDepth 100000 in
theorem ck_56 : q_56.all (mm_chk prog_2_method_4_code 2) = true := by decide +kernel
set_option maxRecDepth 100000 in
theorem ck_57 : q_57.all (mm_chk prog_2_method_11_code 2) = true := by decide +kernel
set_option maxRecDepth 100000 in
theorem ck_58 : q_58.all (mm_chk prog_6_method_9_code 6) = true := by decide +kernel
set_option maxRecDepth 100000 in
theorem ck_59 : q_59.all (mm_chk prog_3_method_10_code 3) = true := by decide +kernel
set_option maxRecDepth 100000 in
theorem ck_60 : q_60.all (mm_chk prog_2_method_3_code 2) = true := by decide +kernel
set_option maxRecDepth 100000 in
theorem ck_61 : q_61.all (mm_chk prog_3_method_7_code 3) = true := by decide +kernel
set_option maxRecDepth 100000 in
theorem ck_62 : q_62.all (mm_chk prog_3_method_8_code 3) = true := by decide +kernel
set_option maxRecDepth 100000 in
theorem ck_63 : q_63.all (mm_chk prog_3_method_9_code 3) = true := by decide +kernel
set_option maxRecDepth 100000 in
theorem ck_64 : q_64.all (mm_chk prog_2_method_6_code 2) = true := by decide +kernel
set_option maxRecDepth 100000 in
theorem ck_65 : q_65.all (mm_chk prog_2_method_5_code 2) = true := by decide +kernel
set_option maxRecDepth 100000 in
theorem ck_66 : q_66.all (mm_chk prog_3_method_12_code 3) = true := by decide +kernel
set_option maxRecDepth 100000 in
theorem ck_67 : q_67.all (mm_chk prog_1_method_5_code 1) = true := by decide +kernel
set_option maxRecDepth 100000 in
theorem ck_68 : q_68.all (mm_chk prog_1_method_6_code 1) = true := by decide +kernel
set_option maxRecDepth 100000 in
theorem ck_69 : q_69.all (mm_chk prog_4_method_2_code 4) = true := by decide +kernel
set_option maxRecDepth 100000 in
theorem ck_70 : q_70.all (mm_chk prog_1_method_7_code 1) = true := by decide +kernel
set_option maxRecDepth 100000 in
theorem ck_71 : q_71.all (mm_chk prog_4_method_3_code 4) = true := by decide +kernel
set_option maxRecDepth 100000 in
theorem ck_72 : q_72.all (mm_chk prog_4_method_5_code 4) = true := by decide +kernel
set_option maxRecDepth 100000 in
theorem ck_73 : q_73.all (mm_chk prog_4_method_4_code 4) = true := by decide +kernel
set_option maxRecDepth 100000 in
theorem ck_74 : q_74.all (mm_chk prog_4_method_6_code 4) = true := by decide +kernel
set_option maxRecDepth 100000 in
theorem ck_75 : q_75.all (mm_chk prog_4_method_7_code 4) = true := by decide +kernel
set_option maxRecDepth 100000 in
theorem ck_76 : q_76.all (mm_chk prog_4_method_8_code 4) = true := by decide +kernel
set_option maxRecDepth 100000 in
theorem ck_77 : q_77.all (mm_chk prog_15_method_65_code 12) = true := by decide +kernel
set_option maxRecDepth 100000 in
theorem ck_78 : q_78.all (mm_chk prog_4_method_9_code 4) = true := by decide +kernel
set_option maxRecDepth 100000 in
theorem ck_79 : q_79.all (mm_chk prog_4_method_10_code 4) = true := by decide +kernel
set_option maxRecDepth 100000 in
theorem ck_80 : q_80.all (mm_chk prog_4_method_11_code 4) = true := by decide +kernel
set_option maxRecDepth 100000 in
theorem ck_81 : q_81.all (mm_chk prog_1_method_8_code 1) = true := by decide +kernel
set_option maxRecDepth 100000 in
theorem ck_82 : q_82.all (mm_chk prog_1_method_9_code 1) = true := by decide +kernel
set_option maxRecDepth 100000 in
theorem ck_83 : q_83.all (mm_chk prog_1_method_10_code 1) = true := by decide +kernel
set_option maxRecDepth 100000 in
theorem ck_84 : q_84.all (mm_chk prog_2_method_7_code 2) = true := by decide +kernel
set_option maxRecDepth 100000 in
theorem ck_85 : q_85.all (mm_chk prog_2_method_9_code 2) = true := by decide +kernel
set_option maxRecDepth 100000 in
theorem ck_86 : q_86.all (mm_chk prog_7_method_3_code 7) = true := by decide +kernel
set_option maxRecDepth 100000 in
theorem ck_87 : q_87.all (mm_chk prog_1_method_12_code 1) = true := by decide +kernel
set_option maxRecDepth 100000 in
theorem ck_88 : q_88.all (mm_chk prog_7_method_5_code 7) = true := by decide +kernel
set_option maxRecDepth 100000 in
theorem ck_89 : q_89.all (mm_chk prog_7_method_7_code 7) = true := by decide +kernel
set_option maxRecDepth 100000 in
theorem ck_90 : q_90.all (mm_chk prog_7_method_6_code 7) = true := by decide +kernel
set_option maxRecDepth 100000 in
theorem ck_91 : q_91.all (mm_chk prog_1_method_13_code 1) = true := by decide +kernel
set_option maxRecDepth 100000 in
theorem ck_92 : q_92.all (mm_chk prog_1_method_14_code 1) = true := by decide +kernel
set_option maxRecDepth 100000 in
theorem ck_93 : q_93.all (mm_chk prog_14_method_49_code 11) = true := by decide +kernel
set_option maxRecDepth 100000 in
theorem ck_94 : q_94.all (mm_chk prog_2_method_8_code 2) = true := by decide +kernel
set_option maxRecDepth 100000 in
theorem ck_95 : q_95.all (mm_chk prog_2_method_10_code 2) = true := by decide +kernel
set_option maxRecDepth 100000 in
theorem ck_96 : q_96.all (mm_chk prog_7_method_4_code 7) = true := by decide +kernel
set_option maxRecDepth 100000 in
theorem ck_97 : q_97.all (mm_chk prog_1_method_15_code 1) = true := by decide +kernel
set_option maxRecDepth 100000 in
theorem ck_98 : q_98.all (mm_chk prog_5_method_2_code 5) = true := by decide +kernel
set_option maxRecDepth 100000 in
theorem ck_99 : q_99.all (mm_chk prog_5_method_5_code 5) = true := by decide +kernel
set_option maxRecDepth 100000 in
theorem ck_100 : q_100.all (mm_chk prog_5_method_8_code 5) = true := by decide +kernel
set_option maxRecDepth 100000 in
theorem ck_101 : q_101.all (mm_chk prog_5_method_3_code 5) = true := by decide +kernel
set_option maxRecDepth 100000 in
theorem ck_102 : q_102.all (mm_chk prog_5_method_7_code 5) = true := by decide +kernel
set_option maxRecDepth 100000 in
theorem ck_103 : q_103.all (mm_chk prog_5_method_6_code 5) = true := by decide +kernel
set_option maxRecDepth 100000 in
theorem ck_104 : q_104.all (mm_chk prog_5_method_4_code 5) = true := by decide +kernel
set_option maxRecDepth 100000 in
theorem ck_105 : q_105.all (mm_chk prog_1_method_16_code 1) = true := by decide +kernel
set_option maxRecDepth 100000 in
theorem ck_106 : q_106.all (mm_chk prog_9_method_1_code 8) = true := by decide +kernel
set_option maxRecDepth 100000 in
theorem ck_107 : q_107.all (mm_chk prog_9_method_2_code 8) = true := by decide +kernel
set_option maxRecDepth 100000 in
theorem ck_108 : q_108.all (mm_chk prog_9_method_5_code 8) = true := by decide +kernel
set_option maxRecDepth 100000 in
theorem ck_109 : q_109.all (mm_chk prog_9_method_3_code 8) = true := by decide +kernel
set_option maxRecDepth 100000 in
theorem ck_110 : q_110.all (mm_chk prog_9_method_6_code 8) = true := by decide +kernel
set_option maxRecDepth 100000 in
theorem ck_111 : q_111.all (mm_chk prog_9_method_4_code 8) = true := by decide +kernel
set_option maxRecDepth 100000 in
theorem ck_112 : q_112.all (mm_chk prog_9_method_27_code 8) = true := by decide +kernel
set_option maxRecDepth 100000 in
theorem ck_113 : q_113.all (mm_chk prog_9_method_26_code 8) = true := by decide +kernel
set_option maxRecDepth 100000 in
theorem ck_114 : q_114.all (mm_chk prog_9_method_25_code 8) = true := by decide +kernel
set_option maxRecDepth 100000 in
theorem ck_115 : q_115.all (mm_chk prog_9_method_10_code 8) = true := by decide +kernel
set_option maxRecDepth 100000 in
theorem ck_116 : q_116.all (mm_chk prog_9_method_7_code 8) = true := by decide +kernel
set_option maxRecDepth 100000 in
theorem ck_117 : q_117.all (mm_chk prog_9_method_8_code 8) = true := by decide +kernel
set_option maxRecDepth 100000 in
theorem ck_118 : q_118.all (mm_chk prog_9_method_9_code 8) = true := by decide +kernel
set_option maxRecDepth 100000 in
theorem ck_119 : q_119.all (mm_chk prog_9_method_22_code 8) = true := by decide +kernel
set_option maxRecDepth 100000 in
theorem ck_120 : q_120.all (mm_chk prog_9_method_16_code 8) = true := by decide +kernel
set_option maxRecDepth 100000 in
theorem ck_121 : q_121.all (mm_chk prog_9_method_14_code 8) = true := by decide +kernel
set_option maxRecDepth 100000 in
theorem ck_122 : q_122.all (mm_chk prog_9_method_12_code 8) = true := by decide +kernel
set_option maxRecDepth 100000 in
theorem ck_123 : q_123.all (mm_chk prog_9_method_11_code 8) = true := by decide +kernel
set_option maxRecDepth 100000 in
theorem ck_124 : q_124.all (mm_chk prog_9_method_13_code 8) = true := by decide +kernel
set_option maxRecDepth 100000 in
theorem ck_125 : q_125.all (mm_chk prog_9_method_15_code 8) = true := by decide +kernel
set_option maxRecDepth 100000 in
theorem ck_126 : q_126.all (mm_chk prog_9_method_21_code 8) = true := by decide +kernel
set_option maxRecDepth 100000 in
theorem ck_127 : q_127.all (mm_chk prog_9_method_17_code 8) = true := by decide +kernel
set_option maxRecDepth 100000 in
theorem ck_128 : q_128.all (mm_chk prog_9_method_19_code 8) = true := by decide +kernel
set_option maxRecDepth 100000 in
theorem ck_129 : q_129.all (mm_chk prog_9_method_20_code 8) = true := by decide +kernel
set_option maxRecDepth 100000 in
theorem ck_130 : q_130.all (mm_chk prog_9_method_18_code 8) = true := by decide +kernel
set_option maxRecDepth 100000 in
theorem ck_131 : q_131.all (mm_chk prog_9_method_24_code 8) = true := by decide +kernel
set_option maxRecDepth 100000 in
theorem ck_132 : q_132.all (mm_chk prog_9_method_23_code 8) = true := by decide +kernel
set_option maxRecDepth 100000 in
theorem ck_133 : q_133.all (mm_chk prog_9_method_28_code 8) = true := by decide +kernel
set_option maxRecDepth 100000 in
theorem ck_134 : q_134.all (mm_chk prog_9_method_29_code 8) = true := by decide +kernel
set_option maxRecDepth 100000 in
theorem ck_135 : q_135.all (mm_chk prog_9_method_36_code 8) = true := by decide +kernel
set_option maxRecDepth 100000 in
theorem ck_136 : q_136.all (mm_chk prog_9_method_33_code 8) = true := by decide +kernel
set_option maxRecDepth 100000 in
theorem ck_137 : q_137.all (mm_chk prog_9_method_32_code 8) = true := by decide +kernel
set_option maxRecDepth 100000 in
theorem ck_138 : q_138.all (mm_chk prog_9_method_30_code 8) = true := by decide +kernel
set_option maxRecDepth 100000 in
theorem ck_139 : q_139.all (mm_chk prog_9_method_31_code 8) = true := by decide +kernel
set_option maxRecDepth 100000 in
theorem ck_140 : q_140.all (mm_chk prog_9_method_34_code 8) = true := by decide +kernel
set_option maxRecDepth 100000 in
theorem ck_141 : q_141.all (mm_chk prog_9_method_35_code 8) = true := by decide +kernel
set_option maxRecDepth 100000 in
theorem ck_142 : q_142.all (mm_chk prog_9_method_37_code 8) = true := by decide +kernel
set_option maxRecDepth 100000 in
theorem ck_143 : q_143.all (mm_chk prog_9_method_38_code 8) = true := by decide +kernel
set_option maxRecDepth 100000 in
theorem ck_144 : q_144.all (mm_chk prog_9_method_45_code 8) = true := by decide +kernel
set_option maxRecDepth 100000 in
theorem ck_145 : q_145.all (mm_chk prog_9_method_40_code 8) = true := by decide +kernel
set_option maxRecDepth 100000 in
theorem ck_146 : q_146.all (mm_chk prog_9_method_39_code 8) = true := by decide +kernel
set_option maxRecDepth 100000 in
theorem ck_147 : q_147.all (mm_chk prog_9_method_46_code 8) = true := by decide +kernel
set_option maxRecDepth 100000 in
theorem ck_148 : q_148.all (mm_chk prog_9_method_47_code 8) = true := by decide +kernel
set_option maxRecDepth 100000 in
theorem ck_149 : q_149.all (mm_chk prog_9_method_44_code 8) = true := by decide +kernel
set_option maxRecDepth 100000 in
theorem ck_150 : q_150.all (mm_chk prog_9_method_43_code 8) = true := by decide +kernel
set_option maxRecDepth 100000 in
theorem ck_151 : q_151.all (mm_chk prog_9_method_42_code 8) = true := by decide +kernel
set_option maxRecDepth 100000 in
theorem ck_152 : q_152.all (mm_chk prog_9_method_41_code 8) = true := by decide +kernel
set_option maxRecDepth 100000 in
theorem ck_153 : q_153.all (mm_chk prog_9_method_48_code 8) = true := by decide +kernel
set_option maxRecDepth 100000 in
theorem ck_154 : q_154.all (mm_chk prog_9_method_49_code 8) = true := by decide +kernel
set_option maxRecDepth 100000 in
theorem ck_155 : q_155.all (mm_chk prog_9_method_55_code 8) = true := by decide +kernel
set_option maxRecDepth 100000 in
theorem ck_156 : q_156.all (mm_chk prog_9_method_50_code 8) = true := by decide +kernel
set_option maxRecDepth 100000 in
theorem ck_157 : q_157.all (mm_chk prog_9_method_51_code 8) = true := by decide +kernel
set_option maxRecDepth 100000 in
theorem ck_158 : q_158.all (mm_chk prog_9_method_53_code 8) = true := by decide +kernel
set_option maxRecDepth 100000 in
theorem ck_159 : q_159.all (mm_chk prog_9_method_54_code 8) = true := by decide +kernel
set_option maxRecDepth 100000 in
theorem ck_160 : q_160.all (mm_chk prog_9_method_52_code 8) = true := by decide +kernel
set_option maxRecDepth 100000 in
theorem ck_161 : q_161.all (mm_chk prog_9_method_56_code 8) = true := by decide +kernel
set_option maxRecDepth 100000 in
theorem ck_162 : q_162.all (mm_chk prog_9_method_57_code 8) = true := by decide +kernel
set_option maxRecDepth 100000 in
theorem ck_163 : q_163.all (mm_chk prog_9_method_58_code 8) = true := by decide +kernel
set_option maxRecDepth 100000 in
theorem ct_0 : q_0.all (mm_thr q_0) = true := by decide +kernel
set_option maxRecDepth 100000 in
theorem ct_1 : q_1.all (mm_thr q_1) = true := by decide +kernel
set_option maxRecDepth 100000 in
theorem ct_2 : q_2.all (mm_thr q_2) = true := by decide +kernel
set_option maxRecDepth 100000 in
theorem ct_3 : q_3.all (mm_thr q_3) = true := by decide +kernel
set_option maxRecDepth 100000 in
theorem ct_4 : q_4.all (mm_thr q_4) = true := by decide +kernel
set_option maxRecDepth 100000 in
theorem ct_5 : q_5.all (mm_thr q_5) = true := by decide +kernel
set_option maxRecDepth 100000 in
theorem ct_6 : q_6.all (mm_thr q_6) = true := by decide +kernel
set_option maxRecDepth 100000 in
theorem ct_7 : q_7.all (mm_thr q_7) = true := by decide +kernel
set_option maxRecDepth 100000 in
theorem ct_8 : q_8.all (mm_thr q_8) = true := by decide +kernel
set_option maxRecDepth 100000 in
theorem ct_9 : q_9.all (mm_thr q_9) = true := by decide +kernel
set_option maxRecDepth 100000 in
theorem ct_10 : q_10.all (mm_thr q_10) = true := by decide +kernel
set_option maxRecDepth 100000 in
theorem ct_11 : q_11.all (mm_thr q_11) = true := by decide +kernel
set_option maxRecDepth 100000 in
theorem ct_12 : q_12.all (mm_thr q_12) = true := by decide +kernel
set_option maxRecDepth 100000 in
theorem ct_13 : q_13.all (mm_thr q_13) = true := by decide +kernel
set_option maxRecDepth 100000 in
theorem ct_14 : q_14.all (mm_thr q_14) = true := by decide +kernel
set_option maxRecDepth 100000 in
theorem ct_15 : q_15.all (mm_thr q_15) = true := by decide +kernel
set_option maxRecDepth 100000 in
theorem ct_16 : q_16.all (mm_thr q_16) = true := by decide +kernel
set_option maxRecDepth 100000 in
theorem ct_17 : q_17.all (mm_thr q_17) = true := by decide +kernel
set_option maxRecDepth 100000 in
theorem ct_18 : q_18.all (mm_thr q_18) = true := by decide +kernel
set_option maxRecDepth 100000 in
theorem ct_19 : q_19.all (mm_thr q_19) = true := by decide +kernel
set_option maxRecDepth 100000 in
theorem ct_20 : q_20.all (mm_thr q_20) = true := by decide +kernel
set_option maxRecDepth 100000 in
theorem ct_21 : q_21.all (mm_thr q_21) = true := by decide +kernel
set_option maxRecDepth 100000 in
theorem ct_22 : q_22.all (mm_thr q_22) = true := by decide +kernel
set_option maxRecDepth 100000 in
theorem ct_23 : q_23.all (mm_thr q_23) = true := by decide +kernel
set_option maxRecDepth 100000 in
theorem ct_24 : q_24.all (mm_thr q_24) = true := by decide +kernel
set_option maxRecDepth 100000 in
theorem ct_25 : q_25.all (mm_thr q_25) = true := by decide +kernel
set_option maxRecDepth 100000 in
theorem ct_26 : q_26.all (mm_thr q_26) = true := by decide +kernel
set_option maxRecDepth 100000 in
theorem ct_27 : q_27.all (mm_thr q_27) = true := by decide +kernel
set_option maxRecDepth 100000 in
theorem ct_28 : q_28.all (mm_thr q_28) = true := by decide +kernel
set_option maxRecDepth 100000 in
theorem ct_29 : q_29.all (mm_thr q_29) = true := by decide +kernel
set_option maxRecDepth 100000 in
theorem ct_30 : q_30.all (mm_thr q_30) = true := by decide +kernel
set_option maxRecDepth 100000 in
theorem ct_31 : q_31.all (mm_thr q_31) = true := by decide +kernel
set_option maxRecDepth 100000 in
theorem ct_32 : q_32.all (mm_thr q_32) = true := by decide +kernel
set_option maxRecDepth 100000 in
theorem ct_33 : q_33.all (mm_thr q_33) = true := by decide +kernel
set_option maxRecDepth 100000 in
theorem ct_34 : q_34.all (mm_thr q_34) = true := by decide +kernel
set_option maxRecDepth 100000 in
theorem ct_35 : q_35.all (mm_thr q_35) = true := by decide +kernel
set_option maxRecDepth 100000 in
theorem ct_36 : q_36.all (mm_thr q_36) = true := by decide +kernel
set_option maxRecDepth 100000 in
theorem ct_37 : q_37.all (mm_thr q_37) = true := by decide +kernel
set_option maxRecDepth 100000 in
theorem ct_38 : q_38.all (mm_thr q_38) = true := by decide +kernel
set_option maxRecDepth 100000 in
theorem ct_39 : q_39.all (mm_thr q_39) = true := by decide +kernel
set_option maxRecDepth 100000 in
theorem ct_40 : q_40.all (mm_thr q_40) = true := by decide +kernel
set_option maxRecDepth 100000 in
theorem ct_41 : q_41.all (mm_thr q_41) = true := by decide +kernel
set_option maxRecDepth 100000 in
theorem ct_42 : q_42.all (mm_thr q_42) = true := by decide +kernel
set_option maxRecDepth 100000 in
theorem ct_43 : q_43.all (mm_thr q_43) = true := by decide +kernel
set_option maxRecDepth 100000 in
theorem ct_44 : q_44.all (mm_thr q_44) = true := by decide +kernel
set_option maxRecDepth 100000 in
theorem ct_45 : q_45.all (mm_thr q_45) = true := by decide +kernel
set_option maxRecDepth 100000 in
theorem ct_46 : q_46.all (mm_thr q_46) = true := by decide +kernel
set_option maxRecDepth 100000 in
theorem ct_47 : q_47.all (mm_thr q_47) = true := by decide +kernel
set_option maxRecDepth 100000 in
theorem ct_48 : q_48.all (mm_thr q_48) = true := by decide +kernel
set_option maxRecDepth 100000 in
theorem ct_49 : q_49.all (mm_thr q_49) = true := by decide +kernel
set_option maxRecDepth 100000 in
theorem ct_50 : q_50.all (mm_thr q_50) = true := by decide +kernel
set_option maxRecDepth 100000 in
theorem ct_51 : q_51.all (mm_thr q_51) = true := by decide +kernel
set_option maxRecDepth 100000 in
theorem ct_52 : q_52.all (mm_thr q_52) = true := by decide +kernel
set_option maxRecDepth 100000 in
theorem ct_53 : q_53.all (mm_thr q_53) = true := by decide +kernel
set_option maxRecDepth 100000 in
theorem ct_54 : q_54.all (mm_thr q_54) = true := by decide +kernel
set_option maxRecDepth 100000 in
theorem ct_55 : q_55.all (mm_thr q_55) = true := by decide +kernel
set_option maxRecDepth 100000 in
theorem ct_56 : q_56.all (mm_thr q_56) = true := by decide +kernel
set_option maxRecDepth 100000 in
theorem ct_57 : q_57.all (mm_thr q_57) = true := by decide +kernel
set_option maxRecDepth 100000 in
theorem ct_58 : q_58.all (mm_thr q_58) = true := by decide +kernel
set_option maxRecDepth 100000 in
theorem ct_59 : q_59.all (mm_thr q_59) = true := by decide +kernel
set_option maxRecDepth 100000 in
theorem ct_60 : q_60.all (mm_thr q_60) = true := by decide +kernel
set_option maxRecDepth 100000 in
theorem ct_61 : q_61.all (mm_thr q_61) = true := by decide +kernel
set_option maxRecDepth 100000 in
theorem ct_62 : q_62.all (mm_thr q_62) = true := by decide +kernel
set_option maxRecDepth 100000 in
theorem ct_63 : q_63.all (mm_thr q_63) = true := by decide +kernel
set_option maxRecDepth 100000 in
theorem ct_64 : q_64.all (mm_thr q_64) = true := by decide +kernel
set_option maxRecDepth 100000 in
theorem ct_65 : q_65.all (mm_thr q_65) = true := by decide +kernel
set_option maxRecDepth 100000 in
theorem ct_66 : q_66.all (mm_thr q_66) = true := by decide +kernel
set_option maxRecDepth 100000 in
theorem ct_67 : q_67.all (mm_thr q_67) = true := by decide +kernel
set_option maxRecDepth 100000 in
theorem ct_68 : q_68.all (mm_thr q_68) = true := by decide +kernel
set_option maxRecDepth 100000 in
theorem ct_69 : q_69.all (mm_thr q_69) = true := by decide +kernel
set_option maxRecDepth 100000 in
theorem ct_70 : q_70.all (mm_thr q_70) = true := by decide +kernel
set_option maxRecDepth 100000 in
theorem ct_71 : q_71.all (mm_thr q_71) = true := by decide +kernel
set_option maxRecDepth 100000 in
theorem ct_72 : q_72.all (mm_thr q_72) = true := by decide +kernel
set_option maxRecDepth 100000 in
theorem ct_73 : q_73.all (mm_thr q_73) = true := by decide +kernel
set_option maxRecDepth 100000 in
theorem ct_74 : q_74.all (mm_thr q_74) = true := by decide +kernel
set_option maxRecDepth 100000 in
theorem ct_75 : q_75.all (mm_thr q_75) = true := by decide +kernel
set_option maxRecDepth 100000 in
theorem ct_76 : q_76.all (mm_thr q_76) = true := by decide +kernel
set_option maxRecDepth 100000 in
theorem ct_77 : q_77.all (mm_thr q_77) = true := by decide +kernel
set_option maxRecDepth 100000 in
theorem ct_78 : q_78.all (mm_thr q_78) = true := by decide +kernel
set_option maxRecDepth 100000 in
theorem ct_79 : q_79.all (mm_thr q_79) = true := by decide +kernel
set_option maxRecDepth 100000 in
theorem ct_80 : q_80.all (mm_thr q_80) = true := by decide +kernel
set_option maxRecDepth 100000 in
theorem ct_81 : q_81.all (mm_thr q_81) = true := by decide +kernel
set_option maxRecDepth 100000 in
theorem ct_82 : q_82.all (mm_thr q_82) = true := by decide +kernel
set_option maxRecDepth 100000 in
theorem ct_83 : q_83.all (mm_thr q_83) = true := by decide +kernel
set_option maxRecDepth 100000 in
theorem ct_84 : q_84.all (mm_thr q_84) = true := by decide +kernel
set_option maxRecDepth 100000 in
theorem ct_85 : q_85.all (mm_thr q_85) = true := by decide +kernel
set_option maxRecDepth 100000 in
theorem ct_86 : q_86.all (mm_thr q_86) = true := by decide +kernel
set_option maxRecDepth 100000 in
theorem ct_87 : q_87.all (mm_thr q_87) = true := by decide +kernel
set_option maxRecDepth 100000 in
theorem ct_88 : q_88.all (mm_thr q_88) = true := by decide +kernel
set_option maxRecDepth 100000 in
theorem ct_89 : q_89.all (mm_thr q_89) = true := by decide +kernel
set_option maxRecDepth 100000 in
theorem ct_90 : q_90.all (mm_thr q_90) = true := by decide +kernel
set_option maxRecDepth 100000 in
theorem ct_91 : q_91.all (mm_thr q_91) = true := by decide +kernel
set_option maxRecDepth 100000 in
theorem ct_92 : q_92.all (mm_thr q_92) = true := by decide +kernel
set_option maxRecDepth 100000 in
theorem ct_93 : q_93.all (mm_thr q_93) = true := by decide +kernel
set_option maxRecDepth 100000 in
theorem ct_94 : q_94.all (mm_thr q_94) = true := by decide +kernel
set_option maxRecDepth 100000 in
theorem ct_95 : q_95.all (mm_thr q_95) = true := by decide +kernel
set_option maxRecDepth 100000 in
theorem ct_96 : q_96.all (mm_thr q_96) = true := by decide +kernel
set_option maxRecDepth 100000 in
theorem ct_97 : q_97.all (mm_thr q_97) = true := by decide +kernel
set_option maxRecDepth 100000 in
theorem ct_98 : q_98.all (mm_thr q_98) = true := by decide +kernel
set_option maxRecDepth 100000 in
theorem ct_99 : q_99.all (mm_thr q_99) = true := by decide +kernel
set_option maxRecDepth 100000 in
theorem ct_100 : q_100.all (mm_thr q_100) = true := by decide +kernel
set_option maxRecDepth 100000 in
theorem ct_101 : q_101.all (mm_thr q_101) = true := by decide +kernel
set_option maxRecDepth 100000 in
theorem ct_102 : q_102.all (mm_thr q_102) = true := by decide +kernel
set_option maxRecDepth 100000 in
theorem ct_103 : q_103.all (mm_thr q_103) = true := by decide +kernel
set_option maxRecDepth 100000 in
theorem ct_104 : q_104.all (mm_thr q_104) = true := by decide +kernel
set_option maxRecDepth 100000 in
theorem ct_105 : q_105.all (mm_thr q_105) = true := by decide +kernel
set_option maxRecDepth 100000 in
theorem ct_106 : q_106.all (mm_thr q_106) = true := by decide +kernel
set_option maxRecDepth 100000 in
theorem ct_107 : q_107.all (mm_thr q_107) = true := by decide +kernel
set_option maxRecDepth 100000 in
theorem ct_108 : q_108.all (mm_thr q_108) = true := by decide +kernel
set_option maxRecDepth 100000 in
theorem ct_109 : q_109.all (mm_thr q_109) = true := by decide +kernel
set_option maxRecDepth 100000 in
theorem ct_110 : q_110.all (mm_thr q_110) = true := by decide +kernel
set_option maxRecDepth 100000 in
theorem ct_111 : q_111.all (mm_thr q_111) = true := by decide +kernel
set_option maxRecDepth 100000 in
theorem ct_112 : q_112.all (mm_thr q_112) = true := by decide +kernel
set_option maxRecDepth 100000 in
theorem ct_113 : q_113.all (mm_thr q_113) = true := by decide +kernel
set_option maxRecDepth 100000 in
theorem ct_114 : q_114.all (mm_thr q_114) = true := by decide +kernel
set_option maxRecDepth 100000 in
theorem ct_115 : q_115.all (mm_thr q_115) = true := by decide +kernel
set_option maxRecDepth 100000 in
theorem ct_116 : q_116.all (mm_thr q_116) = true := by decide +kernel
set_option maxRecDepth 100000 in
theorem ct_117 : q_117.all (mm_thr q_117) = true := by decide +kernel
set_option maxRecDepth 100000 in
theorem ct_118 : q_118.all (mm_thr q_118) = true := by decide +kernel
set_option maxRecDepth 100000 in
theorem ct_119 : q_119.all (mm_thr q_119) = true := by decide +kernel
set_option maxRecDepth 100000 in
theorem ct_120 : q_120.all (mm_thr q_120) = true := by decide +kernel
set_option maxRecDepth 100000 in
theorem ct_121 : q_121.all (mm_thr q_121) = true := by decide +kernel
set_option maxRecDepth 100000 in
theorem ct_122 : q_122.all (mm_thr q_122) = true := by decide +kernel
set_option maxRecDepth 100000 in
theorem ct_123 : q_123.all (mm_thr q_123) = true := by decide +kernel
set_option maxRecDepth 100000 in
theorem ct_124 : q_124.all (mm_thr q_124) = true := by decide +kernel
set_option maxRecDepth 100000 in
theorem ct_125 : q_125.all (mm_thr q_125) = true := by decide +kernel
set_option maxRecDepth 100000 in
theorem ct_126 : q_126.all (mm_thr q_126) = true := by decide +kernel
set_option maxRecDepth 100000 in
theorem ct_127 : q_127.all (mm_thr q_127) = true := by decide +kernel
set_option maxRecDepth 100000 in
theorem ct_128 : q_128.all (mm_thr q_128) = true := by decide +kernel
set_option maxRecDepth 100000 in
theorem ct_129 : q_129.all (mm_thr q_129) = true := by decide +kernel
set_option maxRecDepth 100000 in
theorem ct_130 : q_130.all (mm_thr q_130) = true := by decide +kernel
set_option maxRecDepth 100000 in
theorem ct_131 : q_131.all (mm_thr q_131) = true := by decide +kernel
set_option maxRecDepth 100000 in
theorem ct_132 : q_132.all (mm_thr q_132) = true := by decide +kernel
set_option maxRecDepth 100000 in
theorem ct_133 : q_133.all (mm_thr q_133) = true := by decide +kernel
set_option maxRecDepth 100000 in
theorem ct_134 : q_134.all (mm_thr q_134) = true := by decide +kernel
set_option maxRecDepth 100000 in
theorem ct_135 : q_135.all (mm_thr q_135) = true := by decide +kernel
set_option maxRecDepth 100000 in
theorem ct_136 : q_136.all (mm_thr q_136) = true := by decide +kernel
set_option maxRecDepth 100000 in
theorem ct_137 : q_137.all (mm_thr q_137) = true := by decide +kernel
set_option maxRecDepth 100000 in
theorem ct_138 : q_138.all (mm_thr q_138) = true := by decide +kernel
set_option maxRecDepth 100000 in
theorem ct_139 : q_139.all (mm_thr q_139) = true := by decide +kernel
set_option maxRecDepth 100000 in
theorem ct_140 : q_140.all (mm_thr q_140) = true := by decide +kernel
set_option maxRecDepth 100000 in
theorem ct_141 : q_141.all (mm_thr q_141) = true := by decide +kernel
set_option maxRecDepth 100000 in
theorem ct_142 : q_142.all (mm_thr q_142) = true := by decide +kernel
set_option maxRecDepth 100000 in
theorem ct_143 : q_143.all (mm_thr q_143) = true := by decide +kernel
set_option maxRecDepth 100000 in
theorem ct_144 : q_144.all (mm_thr q_144) = true := by decide +kernel
set_option maxRecDepth 100000 in
theorem ct_145 : q_145.all (mm_thr q_145) = true := by decide +kernel
set_option maxRecDepth 100000 in
theorem ct_146 : q_146.all (mm_thr q_146) = true := by decide +kernel
set_option maxRecDepth 100000 in
theorem ct_147 : q_147.all (mm_thr q_147) = true := by decide +kernel
set_option maxRecDepth 100000 in
theorem ct_148 : q_148.all (mm_thr q_148) = true := by decide +kernel
set_option maxRecDepth 100000 in
theorem ct_149 : q_149.all (mm_thr q_149) = true := by decide +kernel
set_option maxRecDepth 100000 in
theorem ct_150 : q_150.all (mm_thr q_150) = true := by decide +kernel
set_option maxRecDepth 100000 in
theorem ct_151 : q_151.all (mm_thr q_151) = true := by decide +kernel
set_option maxRecDepth 100000 in
theorem ct_152 : q_152.all (mm_thr q_152) = true := by decide +kernel
set_option maxRecDepth 100000 in
theorem ct_153 : q_153.all (mm_thr q_153) = true := by decide +kernel
set_option maxRecDepth 100000 in
theorem ct_154 : q_154.all (mm_thr q_154) = true := by decide +kernel
set_option maxRecDepth 100000 in
theorem ct_155 : q_155.all (mm_thr q_155) = true := by decide +kernel
set_option maxRecDepth 100000 in
theorem ct_156 : q_156.all (mm_thr q_156) = true := by decide +kernel
set_option maxRecDepth 100000 in
theorem ct_157 : q_157.all (mm_thr q_157) = true := by decide +kernel
set_option maxRecDepth 100000 in
theorem ct_158 : q_158.all (mm_thr q_158) = true := by decide +kernel
set_option maxRecDepth 100000 in
theorem ct_159 : q_159.all (mm_thr q_159) = true := by decide +kernel
set_option maxRecDepth 100000 in
theorem ct_160 : q_160.all (mm_thr q_160) = true := by decide +kernel
set_option maxRecDepth 100000 in
theorem ct_161 : q_161.all (mm_thr q_161) = true := by decide +kernel
set_option maxRecDepth 100000 in
theorem ct_162 : q_162.all (mm_thr q_162) = true := by decide +kernel
set_option maxRecDepth 100000 in
theorem ct_163 : q_163.all (mm_thr q_163) = true := by decide +kernel
