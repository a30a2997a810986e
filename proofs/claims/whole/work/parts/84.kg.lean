/-! ===== printed by wip/gen/emit_keys.py: every entry is checked ===== -/
set_option maxRecDepth 100000 in
theorem sm_k_304_1050 : sm_ckP 13 code mc_304 (some .boolean) 1050 50 = true := by decide +kernel
set_option maxRecDepth 100000 in
theorem sm_k_304_1100 : sm_ckP 13 code mc_304 (some .boolean) 1100 50 = true := by decide +kernel
set_option maxRecDepth 100000 in
theorem sm_k_304_1150 : sm_ckP 13 code mc_304 (some .boolean) 1150 50 = true := by decide +kernel
set_option maxRecDepth 100000 in
theorem sm_k_304_1200 : sm_ckP 13 code mc_304 (some .boolean) 1200 50 = true := by decide +kernel
set_option maxRecDepth 100000 in
theorem sm_k_304_1250 : sm_ckP 13 code mc_304 (some .boolean) 1250 50 = true := by decide +kernel
