/-! ===== printed by wip/gen/emit_keys.py: every entry is checked ===== -/
set_option maxRecDepth 100000 in
theorem sm_k_80 : sm_ckP 7 prog_9_method_3_code mc_80 (none) 0 68 = true := by decide +kernel
set_option maxRecDepth 100000 in
theorem sm_k_81 : sm_ckP 7 prog_9_method_4_code mc_81 (some .int) 0 27 = true := by decide +kernel
set_option maxRecDepth 100000 in
theorem sm_k_82 : sm_ckP 7 prog_9_method_5_code mc_82 (none) 0 53 = true := by decide +kernel
set_option maxRecDepth 100000 in
theorem sm_k_83 : sm_ckP 7 prog_9_method_6_code mc_83 (some .int) 0 12 = true := by decide +kernel
set_option maxRecDepth 100000 in
theorem sm_k_84 : sm_ckP 7 prog_9_method_7_code mc_84 (some .int) 0 12 = true := by decide +kernel
set_option maxRecDepth 100000 in
theorem sm_k_85 : sm_ckP 7 prog_9_method_8_code mc_85 (some .int) 0 35 = true := by decide +kernel
set_option maxRecDepth 100000 in
theorem sm_k_86 : sm_ckP 7 prog_9_method_9_code mc_86 (some .int) 0 24 = true := by decide +kernel
set_option maxRecDepth 100000 in
theorem sm_k_87 : sm_ckP 7 prog_9_method_10_code mc_87 (some .int) 0 22 = true := by decide +kernel
set_option maxRecDepth 100000 in
theorem sm_k_88 : sm_ckP 7 prog_9_method_11_code mc_88 (some .boolean) 0 38 = true := by decide +kernel
set_option maxRecDepth 100000 in
theorem sm_k_89 : sm_ckP 7 prog_9_method_12_code mc_89 (some .int) 0 22 = true := by decide +kernel
set_option maxRecDepth 100000 in
theorem sm_k_90 : sm_ckP 7 prog_9_method_13_code mc_90 (some .int) 0 15 = true := by decide +kernel
set_option maxRecDepth 100000 in
theorem sm_k_91 : sm_ckP 7 prog_9_method_14_code mc_91 (some .int) 0 24 = true := by decide +kernel
set_option maxRecDepth 100000 in
theorem sm_k_92 : sm_ckP 7 prog_9_method_15_code mc_92 (some .boolean) 0 12 = true := by decide +kernel
set_option maxRecDepth 100000 in
theorem sm_k_93 : sm_ckP 8 prog_10_method_2_code mc_93 (some .boolean) 0 70 = true := by decide +kernel
set_option maxRecDepth 100000 in
theorem sm_k_94 : sm_ckP 8 prog_10_method_3_code mc_94 (some .int) 0 44 = true := by decide +kernel
set_option maxRecDepth 100000 in
theorem sm_k_95 : sm_ckP 8 prog_10_method_4_code mc_95 (some .int) 0 53 = true := by decide +kernel
set_option maxRecDepth 100000 in
theorem sm_k_96 : sm_ckP 8 prog_10_method_5_code mc_96 (some .int) 0 9 = true := by decide +kernel
set_option maxRecDepth 100000 in
theorem sm_k_97 : sm_ckP 8 prog_10_method_6_code mc_97 (some .int) 0 13 = true := by decide +kernel
set_option maxRecDepth 100000 in
theorem sm_k_98 : sm_ckP 8 prog_10_method_7_code mc_98 (some .int) 0 40 = true := by decide +kernel
set_option maxRecDepth 100000 in
theorem sm_k_99 : sm_ckP 8 prog_10_method_8_code mc_99 (some .boolean) 0 68 = true := by decide +kernel
set_option maxRecDepth 100000 in
theorem sm_k_100 : sm_ckP 8 prog_10_method_9_code mc_100 (some .int) 0 27 = true := by decide +kernel
set_option maxRecDepth 100000 in
theorem sm_k_101 : sm_ckP 8 prog_10_method_10_code mc_101 (some .int) 0 16 = true := by decide +kernel
set_option maxRecDepth 100000 in
theorem sm_k_102 : sm_ckP 8 prog_10_method_11_code mc_102 (some .int) 0 10 = true := by decide +kernel
set_option maxRecDepth 100000 in
theorem sm_k_103 : sm_ckP 9 prog_1_method_2_code mc_103 (some .int) 0 28 = true := by decide +kernel
set_option maxRecDepth 100000 in
theorem sm_k_104 : sm_ckP 9 prog_1_method_3_code mc_104 (some .int) 0 70 = true := by decide +kernel
set_option maxRecDepth 100000 in
theorem sm_k_105 : sm_ckP 9 prog_1_method_4_code mc_105 (some .int) 0 3 = true := by decide +kernel
set_option maxRecDepth 100000 in
theorem sm_k_106 : sm_ckP 9 prog_1_method_5_code mc_106 (some .int) 0 72 = true := by decide +kernel
set_option maxRecDepth 100000 in
theorem sm_k_107 : sm_ckP 9 prog_1_method_6_code mc_107 (some .int) 0 46 = true := by decide +kernel
set_option maxRecDepth 100000 in
theorem sm_k_108 : sm_ckP 9 prog_1_method_7_code mc_108 (some .int) 0 55 = true := by decide +kernel
set_option maxRecDepth 100000 in
theorem sm_k_109 : sm_ckP 9 prog_1_method_8_code mc_109 (some .int) 0 19 = true := by decide +kernel
set_option maxRecDepth 100000 in
theorem sm_k_110 : sm_ckP 9 prog_1_method_9_code mc_110 (some .int) 0 33 = true := by decide +kernel
set_option maxRecDepth 100000 in
theorem sm_k_111 : sm_ckP 9 prog_1_method_10_code mc_111 (some .int) 0 29 = true := by decide +kernel
set_option maxRecDepth 100000 in
theorem sm_k_112 : sm_ckP 9 prog_1_method_11_code mc_112 (some .int) 0 32 = true := by decide +kernel
set_option maxRecDepth 100000 in
theorem sm_k_113 : sm_ckP 9 prog_1_method_12_code mc_113 (some .int) 0 46 = true := by decide +kernel
set_option maxRecDepth 100000 in
theorem sm_k_114 : sm_ckP 9 prog_1_method_13_code mc_114 (some .boolean) 0 29 = true := by decide +kernel
set_option maxRecDepth 100000 in
theorem sm_k_115 : sm_ckP 9 prog_1_method_14_code mc_115 (some .boolean) 0 29 = true := by decide +kernel
set_option maxRecDepth 100000 in
theorem sm_k_116 : sm_ckP 9 prog_1_method_15_code mc_116 (some .boolean) 0 29 = true := by decide +kernel
set_option maxRecDepth 100000 in
theorem sm_k_117 : sm_ckP 9 prog_1_method_16_code mc_117 (some .boolean) 0 56 = true := by decide +kernel
set_option maxRecDepth 100000 in
theorem sm_k_118 : sm_ckP 9 prog_1_method_17_code mc_118 (some .boolean) 0 16 = true := by decide +kernel
set_option maxRecDepth 100000 in
theorem sm_k_119 : sm_ckP 9 prog_1_method_18_code mc_119 (some .int) 0 13 = true := by decide +kernel
set_option maxRecDepth 100000 in
theorem sm_k_120 : sm_ckP 9 prog_1_method_19_code mc_120 (none) 0 9 = true := by decide +kernel
set_option maxRecDepth 100000 in
theorem sm_k_121 : sm_ckP 9 prog_1_method_20_code mc_121 (some .boolean) 0 11 = true := by decide +kernel
set_option maxRecDepth 100000 in
theorem sm_k_122 : sm_ckP 9 prog_1_method_21_code mc_122 (some .int) 0 12 = true := by decide +kernel
set_option maxRecDepth 100000 in
theorem sm_k_123 : sm_ckP 9 prog_1_method_22_code mc_123 (some .int) 0 12 = true := by decide +kernel
set_option maxRecDepth 100000 in
theorem sm_k_124 : sm_ckP 9 prog_1_method_23_code mc_124 (some .int) 0 8 = true := by decide +kernel
set_option maxRecDepth 100000 in
theorem sm_k_125 : sm_ckP 9 prog_1_method_24_code mc_125 (some .int) 0 11 = true := by decide +kernel
set_option maxRecDepth 100000 in
theorem sm_k_126 : sm_ckP 9 prog_1_method_25_code mc_126 (some .int) 0 7 = true := by decide +kernel
set_option maxRecDepth 100000 in
theorem sm_k_127 : sm_ckP 9 prog_1_method_26_code mc_127 (some .int) 0 39 = true := by decide +kernel
set_option maxRecDepth 100000 in
theorem sm_k_128 : sm_ckP 9 prog_1_method_27_code mc_128 (some .int) 0 33 = true := by decide +kernel
set_option maxRecDepth 100000 in
theorem sm_k_129 : sm_ckP 9 prog_1_method_28_code mc_129 (some .int) 0 42 = true := by decide +kernel
set_option maxRecDepth 100000 in
theorem sm_k_130 : sm_ckP 9 prog_1_method_29_code mc_130 (some .long) 0 12 = true := by decide +kernel
set_option maxRecDepth 100000 in
theorem sm_k_131 : sm_ckP 9 prog_1_method_30_code mc_131 (some .int) 0 38 = true := by decide +kernel
set_option maxRecDepth 100000 in
theorem sm_k_132 : sm_ckP 9 prog_1_method_31_code mc_132 (some .int) 0 30 = true := by decide +kernel
set_option maxRecDepth 100000 in
theorem sm_k_133 : sm_ckP 9 prog_1_method_32_code mc_133 (some .int) 0 64 = true := by decide +kernel
set_option maxRecDepth 100000 in
theorem sm_k_134 : sm_ckP 9 prog_1_method_33_code mc_134 (some .int) 0 67 = true := by decide +kernel
set_option maxRecDepth 100000 in
theorem sm_k_135 : sm_ckP 9 prog_1_method_34_code mc_135 (some .long) 0 20 = true := by decide +kernel
set_option maxRecDepth 100000 in
theorem sm_k_136 : sm_ckP 9 prog_1_method_35_code mc_136 (some .int) 0 36 = true := by decide +kernel
set_option maxRecDepth 100000 in
theorem sm_k_137 : sm_ckP 9 prog_1_method_36_code mc_137 (some .int) 0 63 = true := by decide +kernel
set_option maxRecDepth 100000 in
theorem sm_k_138 : sm_ckP 9 prog_1_method_37_code mc_138 (some .int) 0 63 = true := by decide +kernel
set_option maxRecDepth 100000 in
theorem sm_k_139 : sm_ckP 9 prog_1_method_38_code mc_139 (some .boolean) 0 69 = true := by decide +kernel
set_option maxRecDepth 100000 in
theorem sm_k_140 : sm_ckP 9 prog_1_method_39_code mc_140 (none) 0 5 = true := by decide +kernel
set_option maxRecDepth 100000 in
theorem sm_k_141 : sm_ckP 9 prog_1_method_40_code mc_141 (some .boolean) 0 11 = true := by decide +kernel
set_option maxRecDepth 100000 in
theorem sm_k_142 : sm_ckP 9 prog_1_method_41_code mc_142 (some .int) 0 11 = true := by decide +kernel
set_option maxRecDepth 100000 in
theorem sm_k_143 : sm_ckP 9 prog_1_method_42_code mc_143 (some .int) 0 23 = true := by decide +kernel
set_option maxRecDepth 100000 in
theorem sm_k_144 : sm_ckP 9 prog_1_method_43_code mc_144 (some .int) 0 39 = true := by decide +kernel
set_option maxRecDepth 100000 in
theorem sm_k_145 : sm_ckP 9 prog_1_method_44_code mc_145 (some .int) 0 29 = true := by decide +kernel
set_option maxRecDepth 100000 in
theorem sm_k_146 : sm_ckP 9 prog_1_method_45_code mc_146 (some .int) 0 37 = true := by decide +kernel
set_option maxRecDepth 100000 in
theorem sm_k_147 : sm_ckP 9 prog_1_method_46_code mc_147 (some .int) 0 36 = true := by decide +kernel
set_option maxRecDepth 100000 in
theorem sm_k_148 : sm_ckP 9 prog_1_method_47_code mc_148 (some .int) 0 44 = true := by decide +kernel
set_option maxRecDepth 100000 in
theorem sm_k_149 : sm_ckP 9 prog_1_method_48_code mc_149 (some .int) 0 63 = true := by decide +kernel
set_option maxRecDepth 100000 in
theorem sm_k_150 : sm_ckP 9 prog_1_method_49_code mc_150 (some .int) 0 88 = true := by decide +kernel
set_option maxRecDepth 100000 in
theorem sm_k_151 : sm_ckP 9 prog_1_method_50_code mc_151 (none) 0 16 = true := by decide +kernel
set_option maxRecDepth 100000 in
theorem sm_k_152 : sm_ckP 9 prog_1_method_51_code mc_152 (none) 0 16 = true := by decide +kernel
set_option maxRecDepth 100000 in
theorem sm_k_153 : sm_ckP 9 prog_1_method_52_code mc_153 (none) 0 11 = true := by decide +kernel
set_option maxRecDepth 100000 in
theorem sm_k_154 : sm_ckP 9 prog_1_method_53_code mc_154 (none) 0 7 = true := by decide +kernel
set_option maxRecDepth 100000 in
theorem sm_k_155 : sm_ckP 9 prog_1_method_54_code mc_155 (none) 0 11 = true := by decide +kernel
set_option maxRecDepth 100000 in
theorem sm_k_156 : sm_ckP 9 prog_1_method_55_code mc_156 (none) 0 11 = true := by decide +kernel
set_option maxRecDepth 100000 in
theorem sm_k_157 : sm_ckP 10 prog_12_method_2_code mc_157 (some .int) 0 3 = true := by decide +kernel
set_option maxRecDepth 100000 in
theorem sm_k_158 : sm_ckP 10 prog_12_method_3_code mc_158 (some .boolean) 0 15 = true := by decide +kernel
set_option maxRecDepth 100000 in
theorem sm_k_159 : sm_ckP 10 prog_12_method_4_code mc_159 (some .boolean) 0 10 = true := by decide +kernel
