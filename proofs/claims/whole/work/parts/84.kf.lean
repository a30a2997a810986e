/-! ===== printed by wip/gen/emit_keys.py: every entry is checked ===== -/
set_option maxRecDepth 100000 in
theorem sm_k_304_700 : sm_ckP 13 code mc_304 (some .boolean) 700 50 = true := by decide +kernel
set_option maxRecDepth 100000 in
theorem sm_k_304_750 : sm_ckP 13 code mc_304 (some .boolean) 750 50 = true := by decide +kernel
set_option maxRecDepth 100000 in
theorem sm_k_304_800 : sm_ckP 13 code mc_304 (some .boolean) 800 50 = true := by decide +kernel
set_option maxRecDepth 100000 in
theorem sm_k_304_850 : sm_ckP 13 code mc_304 (some .boolean) 850 50 = true := by decide +kernel
set_option maxRecDepth 100000 in
theorem sm_k_304_900 : sm_ckP 13 code mc_304 (some .boolean) 900 50 = true := by decide +kernel
set_option maxRecDepth 100000 in
theorem sm_k_304_950 : sm_ckP 13 code mc_304 (some .boolean) 950 50 = true := by decide +kernel
set_option maxRecDepth 100000 in
theorem sm_k_304_1000 : sm_ckP 13 code mc_304 (some .boolean) 1000 50 = true := by decide +kernel
