/-! ===== printed by wip/gen/emit_keys.py: every entry is checked ===== -/
set_option maxRecDepth 100000 in
theorem sm_k_240 : sm_ckP 10 prog_12_method_85_code mc_240 (some .int) 0 22 = true := by decide +kernel
set_option maxRecDepth 100000 in
theorem sm_k_241 : sm_ckP 10 prog_12_method_86_code mc_241 (some .int) 0 38 = true := by decide +kernel
set_option maxRecDepth 100000 in
theorem sm_k_242 : sm_ckP 10 prog_12_method_87_code mc_242 (some .int) 0 57 = true := by decide +kernel
set_option maxRecDepth 100000 in
theorem sm_k_243 : sm_ckP 10 prog_12_method_88_code mc_243 (some .int) 0 138 = true := by decide +kernel
set_option maxRecDepth 100000 in
theorem sm_k_244 : sm_ckP 10 prog_12_method_89_code mc_244 (some .int) 0 83 = true := by decide +kernel
set_option maxRecDepth 100000 in
theorem sm_k_245 : sm_ckP 10 prog_12_method_90_code mc_245 (some .long) 0 79 = true := by decide +kernel
set_option maxRecDepth 100000 in
theorem sm_k_246 : sm_ckP 10 prog_12_method_91_code mc_246 (some .boolean) 0 18 = true := by decide +kernel
set_option maxRecDepth 100000 in
theorem sm_k_247 : sm_ckP 10 prog_12_method_92_code mc_247 (some .int) 0 16 = true := by decide +kernel
set_option maxRecDepth 100000 in
theorem sm_k_248 : sm_ckP 10 prog_12_method_93_code mc_248 (some .int) 0 52 = true := by decide +kernel
set_option maxRecDepth 100000 in
theorem sm_k_249 : sm_ckP 10 prog_12_method_94_code mc_249 (some .int) 0 44 = true := by decide +kernel
set_option maxRecDepth 100000 in
theorem sm_k_250 : sm_ckP 10 prog_12_method_95_code mc_250 (some .int) 0 45 = true := by decide +kernel
set_option maxRecDepth 100000 in
theorem sm_k_251 : sm_ckP 10 prog_12_method_96_code mc_251 (some .int) 0 39 = true := by decide +kernel
set_option maxRecDepth 100000 in
theorem sm_k_252 : sm_ckP 10 prog_12_method_97_code mc_252 (some .int) 0 27 = true := by decide +kernel
set_option maxRecDepth 100000 in
theorem sm_k_253 : sm_ckP 10 prog_12_method_98_code mc_253 (some .int) 0 75 = true := by decide +kernel
set_option maxRecDepth 100000 in
theorem sm_k_254 : sm_ckP 10 prog_12_method_99_code mc_254 (some .int) 0 23 = true := by decide +kernel
set_option maxRecDepth 100000 in
theorem sm_k_255 : sm_ckP 10 prog_12_method_100_code mc_255 (some .long) 0 38 = true := by decide +kernel
set_option maxRecDepth 100000 in
theorem sm_k_256 : sm_ckP 10 prog_12_method_101_code mc_256 (some .long) 0 22 = true := by decide +kernel
set_option maxRecDepth 100000 in
theorem sm_k_257 : sm_ckP 10 prog_12_method_102_code mc_257 (some .int) 0 36 = true := by decide +kernel
set_option maxRecDepth 100000 in
theorem sm_k_258 : sm_ckP 10 prog_12_method_103_code mc_258 (some .int) 0 77 = true := by decide +kernel
set_option maxRecDepth 100000 in
theorem sm_k_259 : sm_ckP 10 prog_12_method_104_code mc_259 (none) 0 7 = true := by decide +kernel
set_option maxRecDepth 100000 in
theorem sm_k_260 : sm_ckP 10 prog_12_method_105_code mc_260 (some .boolean) 0 71 = true := by decide +kernel
set_option maxRecDepth 100000 in
theorem sm_k_261 : sm_ckP 10 prog_12_method_106_code mc_261 (some .int) 0 63 = true := by decide +kernel
set_option maxRecDepth 100000 in
theorem sm_k_262 : sm_ckP 10 prog_12_method_107_code mc_262 (none) 0 139 = true := by decide +kernel
set_option maxRecDepth 100000 in
theorem sm_k_263 : sm_ckP 10 prog_12_method_108_code mc_263 (some .int) 0 101 = true := by decide +kernel
set_option maxRecDepth 100000 in
theorem sm_k_264 : sm_ckP 10 prog_12_method_109_code mc_264 (some .int) 0 17 = true := by decide +kernel
set_option maxRecDepth 100000 in
theorem sm_k_265 : sm_ckP 10 prog_12_method_110_code mc_265 (some .int) 0 98 = true := by decide +kernel
set_option maxRecDepth 100000 in
theorem sm_k_266 : sm_ckP 10 prog_12_method_111_code mc_266 (none) 0 33 = true := by decide +kernel
set_option maxRecDepth 100000 in
theorem sm_k_267 : sm_ckP 10 prog_12_method_112_code mc_267 (some .boolean) 0 36 = true := by decide +kernel
set_option maxRecDepth 100000 in
theorem sm_k_268 : sm_ckP 11 prog_18_method_49_code mc_268 (some .int) 0 42 = true := by decide +kernel
set_option maxRecDepth 100000 in
theorem sm_k_269 : sm_ckP 12 prog_19_method_65_code mc_269 (some .int) 0 7 = true := by decide +kernel
set_option maxRecDepth 100000 in
theorem sm_k_270 : sm_ckP 12 prog_19_method_69_code mc_270 (some .int) 0 7 = true := by decide +kernel
set_option maxRecDepth 100000 in
theorem sm_k_271 : sm_ckP 13 method_3_code mc_271 (some .int) 0 13 = true := by decide +kernel
set_option maxRecDepth 100000 in
theorem sm_k_272 : sm_ckP 13 method_4_code mc_272 (some .int) 0 13 = true := by decide +kernel
set_option maxRecDepth 100000 in
theorem sm_k_273 : sm_ckP 13 method_5_code mc_273 (some .int) 0 14 = true := by decide +kernel
set_option maxRecDepth 100000 in
theorem sm_k_274 : sm_ckP 13 method_6_code mc_274 (some .int) 0 15 = true := by decide +kernel
set_option maxRecDepth 100000 in
theorem sm_k_275 : sm_ckP 13 method_7_code mc_275 (some .int) 0 14 = true := by decide +kernel
set_option maxRecDepth 100000 in
theorem sm_k_276 : sm_ckP 13 method_8_code mc_276 (some .int) 0 16 = true := by decide +kernel
set_option maxRecDepth 100000 in
theorem sm_k_277 : sm_ckP 13 method_9_code mc_277 (some .int) 0 16 = true := by decide +kernel
set_option maxRecDepth 100000 in
theorem sm_k_278 : sm_ckP 13 method_10_code mc_278 (some .int) 0 16 = true := by decide +kernel
set_option maxRecDepth 100000 in
theorem sm_k_279 : sm_ckP 13 method_11_code mc_279 (some .int) 0 17 = true := by decide +kernel
set_option maxRecDepth 100000 in
theorem sm_k_280 : sm_ckP 13 method_12_code mc_280 (some .int) 0 13 = true := by decide +kernel
set_option maxRecDepth 100000 in
theorem sm_k_281 : sm_ckP 13 method_13_code mc_281 (some .int) 0 13 = true := by decide +kernel
set_option maxRecDepth 100000 in
theorem sm_k_282 : sm_ckP 13 method_14_code mc_282 (some .int) 0 13 = true := by decide +kernel
set_option maxRecDepth 100000 in
theorem sm_k_283 : sm_ckP 13 method_15_code mc_283 (some .int) 0 18 = true := by decide +kernel
set_option maxRecDepth 100000 in
theorem sm_k_284 : sm_ckP 13 method_16_code mc_284 (some .int) 0 16 = true := by decide +kernel
set_option maxRecDepth 100000 in
theorem sm_k_285 : sm_ckP 13 method_17_code mc_285 (some .int) 0 17 = true := by decide +kernel
set_option maxRecDepth 100000 in
theorem sm_k_286 : sm_ckP 13 method_18_code mc_286 (some .int) 0 16 = true := by decide +kernel
set_option maxRecDepth 100000 in
theorem sm_k_287 : sm_ckP 13 method_19_code mc_287 (some .int) 0 13 = true := by decide +kernel
set_option maxRecDepth 100000 in
theorem sm_k_288 : sm_ckP 13 method_20_code mc_288 (some .int) 0 17 = true := by decide +kernel
set_option maxRecDepth 100000 in
theorem sm_k_289 : sm_ckP 13 method_21_code mc_289 (some .int) 0 18 = true := by decide +kernel
set_option maxRecDepth 100000 in
theorem sm_k_290 : sm_ckP 13 method_22_code mc_290 (some .int) 0 14 = true := by decide +kernel
set_option maxRecDepth 100000 in
theorem sm_k_291 : sm_ckP 13 method_23_code mc_291 (some .int) 0 13 = true := by decide +kernel
set_option maxRecDepth 100000 in
theorem sm_k_292 : sm_ckP 13 method_24_code mc_292 (some .int) 0 13 = true := by decide +kernel
set_option maxRecDepth 100000 in
theorem sm_k_293 : sm_ckP 13 method_25_code mc_293 (some .int) 0 13 = true := by decide +kernel
set_option maxRecDepth 100000 in
theorem sm_k_294 : sm_ckP 13 method_26_code mc_294 (some .int) 0 14 = true := by decide +kernel
set_option maxRecDepth 100000 in
theorem sm_k_295 : sm_ckP 13 method_27_code mc_295 (some .int) 0 14 = true := by decide +kernel
set_option maxRecDepth 100000 in
theorem sm_k_296 : sm_ckP 13 method_28_code mc_296 (some .int) 0 14 = true := by decide +kernel
set_option maxRecDepth 100000 in
theorem sm_k_297 : sm_ckP 13 method_29_code mc_297 (some .int) 0 12 = true := by decide +kernel
set_option maxRecDepth 100000 in
theorem sm_k_298 : sm_ckP 13 method_30_code mc_298 (some .int) 0 16 = true := by decide +kernel
set_option maxRecDepth 100000 in
theorem sm_k_299 : sm_ckP 13 method_31_code mc_299 (some .int) 0 13 = true := by decide +kernel
set_option maxRecDepth 100000 in
theorem sm_k_300 : sm_ckP 13 method_32_code mc_300 (some .int) 0 17 = true := by decide +kernel
set_option maxRecDepth 100000 in
theorem sm_k_301 : sm_ckP 13 method_33_code mc_301 (some .int) 0 13 = true := by decide +kernel
set_option maxRecDepth 100000 in
theorem sm_k_302 : sm_ckP 13 method_34_code mc_302 (some .int) 0 13 = true := by decide +kernel
set_option maxRecDepth 100000 in
theorem sm_k_303 : sm_ckP 13 method_35_code mc_303 (some .int) 0 13 = true := by decide +kernel
