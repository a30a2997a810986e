/-! ===== printed by wip/gen/emit_keys.py: every entry is checked ===== -/
set_option maxRecDepth 100000 in
theorem sm_k_304_1300 : sm_ckP 13 code mc_304 (some .boolean) 1300 50 = true := by decide +kernel
set_option maxRecDepth 100000 in
theorem sm_k_304_1350 : sm_ckP 13 code mc_304 (some .boolean) 1350 50 = true := by decide +kernel
set_option maxRecDepth 100000 in
theorem sm_k_304_1400 : sm_ckP 13 code mc_304 (some .boolean) 1400 50 = true := by decide +kernel
set_option maxRecDepth 100000 in
theorem sm_k_304_1450 : sm_ckP 13 code mc_304 (some .boolean) 1450 50 = true := by decide +kernel
set_option maxRecDepth 100000 in
theorem sm_k_304_1500 : sm_ckP 13 code mc_304 (some .boolean) 1500 44 = true := by decide +kernel
