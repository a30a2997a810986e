/-! ===== printed by wip/gen/emit_keys.py: every entry is checked ===== -/
set_option maxRecDepth 100000 in
theorem sm_k_0 : sm_ckP 0 prog_2_method_2_code mc_0 (some .int) 0 44 = true := by decide +kernel
set_option maxRecDepth 100000 in
theorem sm_k_1 : sm_ckP 0 prog_2_method_3_code mc_1 (some .int) 0 61 = true := by decide +kernel
set_option maxRecDepth 100000 in
theorem sm_k_2 : sm_ckP 0 prog_2_method_4_code mc_2 (some .int) 0 48 = true := by decide +kernel
set_option maxRecDepth 100000 in
theorem sm_k_3 : sm_ckP 0 prog_2_method_5_code mc_3 (some .boolean) 0 10 = true := by decide +kernel
set_option maxRecDepth 100000 in
theorem sm_k_4 : sm_ckP 0 prog_2_method_6_code mc_4 (some .int) 0 46 = true := by decide +kernel
set_option maxRecDepth 100000 in
theorem sm_k_5 : sm_ckP 0 prog_2_method_7_code mc_5 (some .int) 0 36 = true := by decide +kernel
set_option maxRecDepth 100000 in
theorem sm_k_6 : sm_ckP 0 prog_2_method_8_code mc_6 (some .int) 0 86 = true := by decide +kernel
set_option maxRecDepth 100000 in
theorem sm_k_7 : sm_ckP 0 prog_2_method_9_code mc_7 (some .int) 0 77 = true := by decide +kernel
set_option maxRecDepth 100000 in
theorem sm_k_8 : sm_ckP 0 prog_2_method_10_code mc_8 (some .boolean) 0 30 = true := by decide +kernel
set_option maxRecDepth 100000 in
theorem sm_k_9 : sm_ckP 0 prog_2_method_11_code mc_9 (some .boolean) 0 54 = true := by decide +kernel
set_option maxRecDepth 100000 in
theorem sm_k_10 : sm_ckP 0 prog_2_method_12_code mc_10 (some .int) 0 45 = true := by decide +kernel
set_option maxRecDepth 100000 in
theorem sm_k_11 : sm_ckP 0 prog_2_method_13_code mc_11 (some .int) 0 34 = true := by decide +kernel
set_option maxRecDepth 100000 in
theorem sm_k_12 : sm_ckP 0 prog_2_method_14_code mc_12 (some .long) 0 41 = true := by decide +kernel
set_option maxRecDepth 100000 in
theorem sm_k_13 : sm_ckP 0 prog_2_method_15_code mc_13 (some .boolean) 0 62 = true := by decide +kernel
set_option maxRecDepth 100000 in
theorem sm_k_14 : sm_ckP 0 prog_2_method_16_code mc_14 (some .int) 0 37 = true := by decide +kernel
set_option maxRecDepth 100000 in
theorem sm_k_15 : sm_ckP 0 prog_2_method_17_code mc_15 (some .int) 0 47 = true := by decide +kernel
set_option maxRecDepth 100000 in
theorem sm_k_16 : sm_ckP 0 prog_2_method_18_code mc_16 (some .long) 0 75 = true := by decide +kernel
set_option maxRecDepth 100000 in
theorem sm_k_17 : sm_ckP 0 prog_2_method_19_code mc_17 (none) 0 40 = true := by decide +kernel
set_option maxRecDepth 100000 in
theorem sm_k_18 : sm_ckP 1 prog_3_method_2_code mc_18 (none) 0 11 = true := by decide +kernel
set_option maxRecDepth 100000 in
theorem sm_k_19 : sm_ckP 1 prog_3_method_3_code mc_19 (none) 0 48 = true := by decide +kernel
set_option maxRecDepth 100000 in
theorem sm_k_20 : sm_ckP 1 prog_3_method_4_code mc_20 (none) 0 35 = true := by decide +kernel
set_option maxRecDepth 100000 in
theorem sm_k_21 : sm_ckP 1 prog_3_method_5_code mc_21 (none) 0 19 = true := by decide +kernel
set_option maxRecDepth 100000 in
theorem sm_k_22 : sm_ckP 1 prog_3_method_6_code mc_22 (none) 0 32 = true := by decide +kernel
set_option maxRecDepth 100000 in
theorem sm_k_23 : sm_ckP 2 prog_4_method_2_code mc_23 (some .long) 0 30 = true := by decide +kernel
set_option maxRecDepth 100000 in
theorem sm_k_24 : sm_ckP 2 prog_4_method_3_code mc_24 (some .long) 0 25 = true := by decide +kernel
set_option maxRecDepth 100000 in
theorem sm_k_25 : sm_ckP 2 prog_4_method_4_code mc_25 (some .long) 0 25 = true := by decide +kernel
set_option maxRecDepth 100000 in
theorem sm_k_26 : sm_ckP 3 prog_5_method_2_code mc_26 (some .int) 0 43 = true := by decide +kernel
set_option maxRecDepth 100000 in
theorem sm_k_27 : sm_ckP 3 prog_5_method_3_code mc_27 (some .int) 0 6 = true := by decide +kernel
set_option maxRecDepth 100000 in
theorem sm_k_28 : sm_ckP 3 prog_5_method_4_code mc_28 (some .boolean) 0 5 = true := by decide +kernel
set_option maxRecDepth 100000 in
theorem sm_k_29 : sm_ckP 3 prog_5_method_5_code mc_29 (none) 0 14 = true := by decide +kernel
set_option maxRecDepth 100000 in
theorem sm_k_30 : sm_ckP 3 prog_5_method_6_code mc_30 (some .boolean) 0 10 = true := by decide +kernel
set_option maxRecDepth 100000 in
theorem sm_k_31 : sm_ckP 3 prog_5_method_7_code mc_31 (some .boolean) 0 12 = true := by decide +kernel
set_option maxRecDepth 100000 in
theorem sm_k_32 : sm_ckP 3 prog_5_method_8_code mc_32 (some .boolean) 0 11 = true := by decide +kernel
set_option maxRecDepth 100000 in
theorem sm_k_33 : sm_ckP 3 prog_5_method_9_code mc_33 (some .boolean) 0 12 = true := by decide +kernel
set_option maxRecDepth 100000 in
theorem sm_k_34 : sm_ckP 3 prog_5_method_10_code mc_34 (some .boolean) 0 93 = true := by decide +kernel
set_option maxRecDepth 100000 in
theorem sm_k_35 : sm_ckP 3 prog_5_method_11_code mc_35 (some .boolean) 0 12 = true := by decide +kernel
set_option maxRecDepth 100000 in
theorem sm_k_36 : sm_ckP 3 prog_5_method_12_code mc_36 (some .boolean) 0 29 = true := by decide +kernel
set_option maxRecDepth 100000 in
theorem sm_k_37 : sm_ckP 3 prog_5_method_13_code mc_37 (some .boolean) 0 86 = true := by decide +kernel
set_option maxRecDepth 100000 in
theorem sm_k_38 : sm_ckP 3 prog_5_method_14_code mc_38 (some .boolean) 0 18 = true := by decide +kernel
set_option maxRecDepth 100000 in
theorem sm_k_39 : sm_ckP 3 prog_5_method_15_code mc_39 (some .boolean) 0 94 = true := by decide +kernel
set_option maxRecDepth 100000 in
theorem sm_k_40 : sm_ckP 3 prog_5_method_16_code mc_40 (some .boolean) 0 25 = true := by decide +kernel
set_option maxRecDepth 100000 in
theorem sm_k_41 : sm_ckP 3 prog_5_method_17_code mc_41 (some .boolean) 0 64 = true := by decide +kernel
set_option maxRecDepth 100000 in
theorem sm_k_42 : sm_ckP 3 prog_5_method_18_code mc_42 (some .boolean) 0 55 = true := by decide +kernel
set_option maxRecDepth 100000 in
theorem sm_k_43 : sm_ckP 3 prog_5_method_19_code mc_43 (some .boolean) 0 30 = true := by decide +kernel
set_option maxRecDepth 100000 in
theorem sm_k_44 : sm_ckP 3 prog_5_method_20_code mc_44 (some .boolean) 0 41 = true := by decide +kernel
set_option maxRecDepth 100000 in
theorem sm_k_45 : sm_ckP 3 prog_5_method_21_code mc_45 (some .boolean) 0 35 = true := by decide +kernel
set_option maxRecDepth 100000 in
theorem sm_k_46 : sm_ckP 3 prog_5_method_22_code mc_46 (some .boolean) 0 42 = true := by decide +kernel
set_option maxRecDepth 100000 in
theorem sm_k_47 : sm_ckP 3 prog_5_method_23_code mc_47 (some .boolean) 0 42 = true := by decide +kernel
set_option maxRecDepth 100000 in
theorem sm_k_48 : sm_ckP 3 prog_5_method_24_code mc_48 (some .boolean) 0 62 = true := by decide +kernel
set_option maxRecDepth 100000 in
theorem sm_k_49 : sm_ckP 4 prog_6_method_2_code mc_49 (none) 0 21 = true := by decide +kernel
set_option maxRecDepth 100000 in
theorem sm_k_50 : sm_ckP 4 prog_6_method_3_code mc_50 (none) 0 12 = true := by decide +kernel
set_option maxRecDepth 100000 in
theorem sm_k_51 : sm_ckP 4 prog_6_method_4_code mc_51 (none) 0 12 = true := by decide +kernel
set_option maxRecDepth 100000 in
theorem sm_k_52 : sm_ckP 4 prog_6_method_5_code mc_52 (none) 0 20 = true := by decide +kernel
set_option maxRecDepth 100000 in
theorem sm_k_53 : sm_ckP 4 prog_6_method_6_code mc_53 (some .boolean) 0 18 = true := by decide +kernel
set_option maxRecDepth 100000 in
theorem sm_k_54 : sm_ckP 4 prog_6_method_7_code mc_54 (some .int) 0 93 = true := by decide +kernel
set_option maxRecDepth 100000 in
theorem sm_k_55 : sm_ckP 4 prog_6_method_8_code mc_55 (some .int) 0 16 = true := by decide +kernel
set_option maxRecDepth 100000 in
theorem sm_k_56 : sm_ckP 4 prog_6_method_9_code mc_56 (some .int) 0 54 = true := by decide +kernel
set_option maxRecDepth 100000 in
theorem sm_k_57 : sm_ckP 5 prog_7_method_2_code mc_57 (none) 0 16 = true := by decide +kernel
set_option maxRecDepth 100000 in
theorem sm_k_58 : sm_ckP 5 prog_7_method_3_code mc_58 (none) 0 21 = true := by decide +kernel
set_option maxRecDepth 100000 in
theorem sm_k_59 : sm_ckP 5 prog_7_method_4_code mc_59 (none) 0 43 = true := by decide +kernel
set_option maxRecDepth 100000 in
theorem sm_k_60 : sm_ckP 5 prog_7_method_5_code mc_60 (none) 0 43 = true := by decide +kernel
set_option maxRecDepth 100000 in
theorem sm_k_61 : sm_ckP 5 prog_7_method_6_code mc_61 (some .int) 0 20 = true := by decide +kernel
set_option maxRecDepth 100000 in
theorem sm_k_62 : sm_ckP 5 prog_7_method_7_code mc_62 (none) 0 15 = true := by decide +kernel
set_option maxRecDepth 100000 in
theorem sm_k_63 : sm_ckP 5 prog_7_method_8_code mc_63 (none) 0 15 = true := by decide +kernel
set_option maxRecDepth 100000 in
theorem sm_k_64 : sm_ckP 5 prog_7_method_9_code mc_64 (none) 0 15 = true := by decide +kernel
set_option maxRecDepth 100000 in
theorem sm_k_65 : sm_ckP 5 prog_7_method_10_code mc_65 (none) 0 21 = true := by decide +kernel
set_option maxRecDepth 100000 in
theorem sm_k_66 : sm_ckP 6 prog_8_method_2_code mc_66 (none) 0 30 = true := by decide +kernel
set_option maxRecDepth 100000 in
theorem sm_k_67 : sm_ckP 6 prog_8_method_3_code mc_67 (some .int) 0 16 = true := by decide +kernel
set_option maxRecDepth 100000 in
theorem sm_k_68 : sm_ckP 6 prog_8_method_4_code mc_68 (some .int) 0 17 = true := by decide +kernel
set_option maxRecDepth 100000 in
theorem sm_k_69 : sm_ckP 6 prog_8_method_5_code mc_69 (none) 0 45 = true := by decide +kernel
set_option maxRecDepth 100000 in
theorem sm_k_70 : sm_ckP 6 prog_8_method_6_code mc_70 (none) 0 26 = true := by decide +kernel
set_option maxRecDepth 100000 in
theorem sm_k_71 : sm_ckP 6 prog_8_method_7_code mc_71 (some .int) 0 16 = true := by decide +kernel
set_option maxRecDepth 100000 in
theorem sm_k_72 : sm_ckP 6 prog_8_method_8_code mc_72 (some .boolean) 0 10 = true := by decide +kernel
set_option maxRecDepth 100000 in
theorem sm_k_73 : sm_ckP 6 prog_8_method_9_code mc_73 (some .boolean) 0 10 = true := by decide +kernel
set_option maxRecDepth 100000 in
theorem sm_k_74 : sm_ckP 6 prog_8_method_10_code mc_74 (some .int) 0 31 = true := by decide +kernel
set_option maxRecDepth 100000 in
theorem sm_k_75 : sm_ckP 6 prog_8_method_11_code mc_75 (some .int) 0 28 = true := by decide +kernel
set_option maxRecDepth 100000 in
theorem sm_k_76 : sm_ckP 6 prog_8_method_12_code mc_76 (some .int) 0 30 = true := by decide +kernel
set_option maxRecDepth 100000 in
theorem sm_k_77 : sm_ckP 6 prog_8_method_13_code mc_77 (some .int) 0 39 = true := by decide +kernel
set_option maxRecDepth 100000 in
theorem sm_k_78 : sm_ckP 6 prog_8_method_14_code mc_78 (some .boolean) 0 28 = true := by decide +kernel
set_option maxRecDepth 100000 in
theorem sm_k_79 : sm_ckP 7 prog_9_method_2_code mc_79 (none) 0 35 = true := by decide +kernel
