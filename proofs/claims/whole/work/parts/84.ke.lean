/-! ===== printed by wip/gen/emit_keys.py: every entry is checked ===== -/
set_option maxRecDepth 100000 in
theorem sm_k_304_0 : sm_ckP 13 code mc_304 (some .boolean) 0 50 = true := by decide +kernel
set_option maxRecDepth 100000 in
theorem sm_k_304_50 : sm_ckP 13 code mc_304 (some .boolean) 50 50 = true := by decide +kernel
set_option maxRecDepth 100000 in
theorem sm_k_304_100 : sm_ckP 13 code mc_304 (some .boolean) 100 50 = true := by decide +kernel
set_option maxRecDepth 100000 in
theorem sm_k_304_150 : sm_ckP 13 code mc_304 (some .boolean) 150 50 = true := by decide +kernel
set_option maxRecDepth 100000 in
theorem sm_k_304_200 : sm_ckP 13 code mc_304 (some .boolean) 200 50 = true := by decide +kernel
set_option maxRecDepth 100000 in
theorem sm_k_304_250 : sm_ckP 13 code mc_304 (some .boolean) 250 50 = true := by decide +kernel
set_option maxRecDepth 100000 in
theorem sm_k_304_300 : sm_ckP 13 code mc_304 (some .boolean) 300 50 = true := by decide +kernel
set_option maxRecDepth 100000 in
theorem sm_k_304_350 : sm_ckP 13 code mc_304 (some .boolean) 350 50 = true := by decide +kernel
set_option maxRecDepth 100000 in
theorem sm_k_304_400 : sm_ckP 13 code mc_304 (some .boolean) 400 50 = true := by decide +kernel
set_option maxRecDepth 100000 in
theorem sm_k_304_450 : sm_ckP 13 code mc_304 (some .boolean) 450 50 = true := by decide +kernel
set_option maxRecDepth 100000 in
theorem sm_k_304_500 : sm_ckP 13 code mc_304 (some .boolean) 500 50 = true := by decide +kernel
set_option maxRecDepth 100000 in
theorem sm_k_304_550 : sm_ckP 13 code mc_304 (some .boolean) 550 50 = true := by decide +kernel
set_option maxRecDepth 100000 in
theorem sm_k_304_600 : sm_ckP 13 code mc_304 (some .boolean) 600 50 = true := by decide +kernel
set_option maxRecDepth 100000 in
theorem sm_k_304_650 : sm_ckP 13 code mc_304 (some .boolean) 650 50 = true := by decide +kernel
