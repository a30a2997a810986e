/-! ===== printed by wip/gen/emit_keys.py: every entry is checked ===== -/
set_option maxRecDepth 100000 in
theorem sm_k_160 : sm_ckP 10 prog_12_method_5_code mc_160 (none) 0 15 = true := by decide +kernel
set_option maxRecDepth 100000 in
theorem sm_k_161 : sm_ckP 10 prog_12_method_6_code mc_161 (some .int) 0 19 = true := by decide +kernel
set_option maxRecDepth 100000 in
theorem sm_k_162 : sm_ckP 10 prog_12_method_7_code mc_162 (some .int) 0 29 = true := by decide +kernel
set_option maxRecDepth 100000 in
theorem sm_k_163 : sm_ckP 10 prog_12_method_8_code mc_163 (none) 0 23 = true := by decide +kernel
set_option maxRecDepth 100000 in
theorem sm_k_164 : sm_ckP 10 prog_12_method_9_code mc_164 (some .int) 0 11 = true := by decide +kernel
set_option maxRecDepth 100000 in
theorem sm_k_165 : sm_ckP 10 prog_12_method_10_code mc_165 (some .boolean) 0 10 = true := by decide +kernel
set_option maxRecDepth 100000 in
theorem sm_k_166 : sm_ckP 10 prog_12_method_11_code mc_166 (some .boolean) 0 10 = true := by decide +kernel
set_option maxRecDepth 100000 in
theorem sm_k_167_0 : sm_ckP 10 prog_12_method_12_code mc_167 (none) 0 100 = true := by decide +kernel
set_option maxRecDepth 100000 in
theorem sm_k_167_100 : sm_ckP 10 prog_12_method_12_code mc_167 (none) 100 100 = true := by decide +kernel
set_option maxRecDepth 100000 in
theorem sm_k_168 : sm_ckP 10 prog_12_method_13_code mc_168 (some .long) 0 69 = true := by decide +kernel
set_option maxRecDepth 100000 in
theorem sm_k_169_0 : sm_ckP 10 prog_12_method_14_code mc_169 (some .long) 0 100 = true := by decide +kernel
set_option maxRecDepth 100000 in
theorem sm_k_169_100 : sm_ckP 10 prog_12_method_14_code mc_169 (some .long) 100 100 = true := by decide +kernel
set_option maxRecDepth 100000 in
theorem sm_k_169_200 : sm_ckP 10 prog_12_method_14_code mc_169 (some .long) 200 100 = true := by decide +kernel
set_option maxRecDepth 100000 in
theorem sm_k_170 : sm_ckP 10 prog_12_method_15_code mc_170 (some .int) 0 27 = true := by decide +kernel
set_option maxRecDepth 100000 in
theorem sm_k_171 : sm_ckP 10 prog_12_method_16_code mc_171 (none) 0 12 = true := by decide +kernel
set_option maxRecDepth 100000 in
theorem sm_k_172 : sm_ckP 10 prog_12_method_17_code mc_172 (some .boolean) 0 7 = true := by decide +kernel
set_option maxRecDepth 100000 in
theorem sm_k_173 : sm_ckP 10 prog_12_method_18_code mc_173 (some .boolean) 0 12 = true := by decide +kernel
set_option maxRecDepth 100000 in
theorem sm_k_174 : sm_ckP 10 prog_12_method_19_code mc_174 (none) 0 13 = true := by decide +kernel
set_option maxRecDepth 100000 in
theorem sm_k_175 : sm_ckP 10 prog_12_method_20_code mc_175 (some .int) 0 38 = true := by decide +kernel
set_option maxRecDepth 100000 in
theorem sm_k_176 : sm_ckP 10 prog_12_method_21_code mc_176 (none) 0 13 = true := by decide +kernel
set_option maxRecDepth 100000 in
theorem sm_k_177 : sm_ckP 10 prog_12_method_22_code mc_177 (some .boolean) 0 7 = true := by decide +kernel
set_option maxRecDepth 100000 in
theorem sm_k_178 : sm_ckP 10 prog_12_method_23_code mc_178 (some .int) 0 33 = true := by decide +kernel
set_option maxRecDepth 100000 in
theorem sm_k_179 : sm_ckP 10 prog_12_method_24_code mc_179 (none) 0 37 = true := by decide +kernel
set_option maxRecDepth 100000 in
theorem sm_k_180 : sm_ckP 10 prog_12_method_25_code mc_180 (none) 0 13 = true := by decide +kernel
set_option maxRecDepth 100000 in
theorem sm_k_181 : sm_ckP 10 prog_12_method_26_code mc_181 (none) 0 57 = true := by decide +kernel
set_option maxRecDepth 100000 in
theorem sm_k_182 : sm_ckP 10 prog_12_method_27_code mc_182 (none) 0 35 = true := by decide +kernel
set_option maxRecDepth 100000 in
theorem sm_k_183 : sm_ckP 10 prog_12_method_28_code mc_183 (none) 0 63 = true := by decide +kernel
set_option maxRecDepth 100000 in
theorem sm_k_184 : sm_ckP 10 prog_12_method_29_code mc_184 (some .boolean) 0 21 = true := by decide +kernel
set_option maxRecDepth 100000 in
theorem sm_k_185 : sm_ckP 10 prog_12_method_30_code mc_185 (none) 0 18 = true := by decide +kernel
set_option maxRecDepth 100000 in
theorem sm_k_186_0 : sm_ckP 10 prog_12_method_31_code mc_186 (none) 0 100 = true := by decide +kernel
set_option maxRecDepth 100000 in
theorem sm_k_186_100 : sm_ckP 10 prog_12_method_31_code mc_186 (none) 100 100 = true := by decide +kernel
set_option maxRecDepth 100000 in
theorem sm_k_187 : sm_ckP 10 prog_12_method_32_code mc_187 (none) 0 85 = true := by decide +kernel
set_option maxRecDepth 100000 in
theorem sm_k_188 : sm_ckP 10 prog_12_method_33_code mc_188 (none) 0 106 = true := by decide +kernel
set_option maxRecDepth 100000 in
theorem sm_k_189 : sm_ckP 10 prog_12_method_34_code mc_189 (none) 0 62 = true := by decide +kernel
set_option maxRecDepth 100000 in
theorem sm_k_190 : sm_ckP 10 prog_12_method_35_code mc_190 (none) 0 92 = true := by decide +kernel
set_option maxRecDepth 100000 in
theorem sm_k_191_0 : sm_ckP 10 prog_12_method_36_code mc_191 (some .int) 0 100 = true := by decide +kernel
set_option maxRecDepth 100000 in
theorem sm_k_191_100 : sm_ckP 10 prog_12_method_36_code mc_191 (some .int) 100 100 = true := by decide +kernel
set_option maxRecDepth 100000 in
theorem sm_k_192 : sm_ckP 10 prog_12_method_37_code mc_192 (some .int) 0 6 = true := by decide +kernel
set_option maxRecDepth 100000 in
theorem sm_k_193 : sm_ckP 10 prog_12_method_38_code mc_193 (none) 0 54 = true := by decide +kernel
set_option maxRecDepth 100000 in
theorem sm_k_194 : sm_ckP 10 prog_12_method_39_code mc_194 (some .int) 0 10 = true := by decide +kernel
set_option maxRecDepth 100000 in
theorem sm_k_195 : sm_ckP 10 prog_12_method_40_code mc_195 (some .int) 0 37 = true := by decide +kernel
set_option maxRecDepth 100000 in
theorem sm_k_196 : sm_ckP 10 prog_12_method_41_code mc_196 (some .int) 0 25 = true := by decide +kernel
set_option maxRecDepth 100000 in
theorem sm_k_197 : sm_ckP 10 prog_12_method_42_code mc_197 (some .int) 0 26 = true := by decide +kernel
set_option maxRecDepth 100000 in
theorem sm_k_198 : sm_ckP 10 prog_12_method_43_code mc_198 (some .boolean) 0 34 = true := by decide +kernel
set_option maxRecDepth 100000 in
theorem sm_k_199 : sm_ckP 10 prog_12_method_44_code mc_199 (some .int) 0 48 = true := by decide +kernel
set_option maxRecDepth 100000 in
theorem sm_k_200 : sm_ckP 10 prog_12_method_45_code mc_200 (some .boolean) 0 38 = true := by decide +kernel
set_option maxRecDepth 100000 in
theorem sm_k_201 : sm_ckP 10 prog_12_method_46_code mc_201 (some .boolean) 0 34 = true := by decide +kernel
set_option maxRecDepth 100000 in
theorem sm_k_202 : sm_ckP 10 prog_12_method_47_code mc_202 (some .int) 0 26 = true := by decide +kernel
set_option maxRecDepth 100000 in
theorem sm_k_203 : sm_ckP 10 prog_12_method_48_code mc_203 (some .int) 0 76 = true := by decide +kernel
set_option maxRecDepth 100000 in
theorem sm_k_204 : sm_ckP 10 prog_12_method_49_code mc_204 (some .boolean) 0 13 = true := by decide +kernel
set_option maxRecDepth 100000 in
theorem sm_k_205 : sm_ckP 10 prog_12_method_50_code mc_205 (some .boolean) 0 13 = true := by decide +kernel
set_option maxRecDepth 100000 in
theorem sm_k_206 : sm_ckP 10 prog_12_method_51_code mc_206 (some .boolean) 0 8 = true := by decide +kernel
set_option maxRecDepth 100000 in
theorem sm_k_207 : sm_ckP 10 prog_12_method_52_code mc_207 (some .int) 0 46 = true := by decide +kernel
set_option maxRecDepth 100000 in
theorem sm_k_208 : sm_ckP 10 prog_12_method_53_code mc_208 (some .int) 0 12 = true := by decide +kernel
set_option maxRecDepth 100000 in
theorem sm_k_209 : sm_ckP 10 prog_12_method_54_code mc_209 (some .int) 0 61 = true := by decide +kernel
set_option maxRecDepth 100000 in
theorem sm_k_210 : sm_ckP 10 prog_12_method_55_code mc_210 (some .int) 0 28 = true := by decide +kernel
set_option maxRecDepth 100000 in
theorem sm_k_211 : sm_ckP 10 prog_12_method_56_code mc_211 (some .int) 0 52 = true := by decide +kernel
set_option maxRecDepth 100000 in
theorem sm_k_212 : sm_ckP 10 prog_12_method_57_code mc_212 (some .int) 0 88 = true := by decide +kernel
set_option maxRecDepth 100000 in
theorem sm_k_213 : sm_ckP 10 prog_12_method_58_code mc_213 (some .boolean) 0 81 = true := by decide +kernel
set_option maxRecDepth 100000 in
theorem sm_k_214 : sm_ckP 10 prog_12_method_59_code mc_214 (some .int) 0 77 = true := by decide +kernel
set_option maxRecDepth 100000 in
theorem sm_k_215 : sm_ckP 10 prog_12_method_60_code mc_215 (some .int) 0 44 = true := by decide +kernel
set_option maxRecDepth 100000 in
theorem sm_k_216 : sm_ckP 10 prog_12_method_61_code mc_216 (some .int) 0 85 = true := by decide +kernel
set_option maxRecDepth 100000 in
theorem sm_k_217 : sm_ckP 10 prog_12_method_62_code mc_217 (some .int) 0 39 = true := by decide +kernel
set_option maxRecDepth 100000 in
theorem sm_k_218 : sm_ckP 10 prog_12_method_63_code mc_218 (some .boolean) 0 23 = true := by decide +kernel
set_option maxRecDepth 100000 in
theorem sm_k_219 : sm_ckP 10 prog_12_method_64_code mc_219 (some .boolean) 0 17 = true := by decide +kernel
set_option maxRecDepth 100000 in
theorem sm_k_220 : sm_ckP 10 prog_12_method_65_code mc_220 (some .boolean) 0 17 = true := by decide +kernel
set_option maxRecDepth 100000 in
theorem sm_k_221 : sm_ckP 10 prog_12_method_66_code mc_221 (some .boolean) 0 17 = true := by decide +kernel
set_option maxRecDepth 100000 in
theorem sm_k_222 : sm_ckP 10 prog_12_method_67_code mc_222 (some .boolean) 0 58 = true := by decide +kernel
set_option maxRecDepth 100000 in
theorem sm_k_223 : sm_ckP 10 prog_12_method_68_code mc_223 (some .int) 0 46 = true := by decide +kernel
set_option maxRecDepth 100000 in
theorem sm_k_224 : sm_ckP 10 prog_12_method_69_code mc_224 (some .int) 0 108 = true := by decide +kernel
set_option maxRecDepth 100000 in
theorem sm_k_225 : sm_ckP 10 prog_12_method_70_code mc_225 (some .int) 0 52 = true := by decide +kernel
set_option maxRecDepth 100000 in
theorem sm_k_226 : sm_ckP 10 prog_12_method_71_code mc_226 (some .int) 0 66 = true := by decide +kernel
set_option maxRecDepth 100000 in
theorem sm_k_227 : sm_ckP 10 prog_12_method_72_code mc_227 (some .int) 0 53 = true := by decide +kernel
set_option maxRecDepth 100000 in
theorem sm_k_228 : sm_ckP 10 prog_12_method_73_code mc_228 (some .int) 0 81 = true := by decide +kernel
set_option maxRecDepth 100000 in
theorem sm_k_229 : sm_ckP 10 prog_12_method_74_code mc_229 (some .int) 0 25 = true := by decide +kernel
set_option maxRecDepth 100000 in
theorem sm_k_230 : sm_ckP 10 prog_12_method_75_code mc_230 (some .int) 0 44 = true := by decide +kernel
set_option maxRecDepth 100000 in
theorem sm_k_231 : sm_ckP 10 prog_12_method_76_code mc_231 (some .int) 0 37 = true := by decide +kernel
set_option maxRecDepth 100000 in
theorem sm_k_232 : sm_ckP 10 prog_12_method_77_code mc_232 (some .boolean) 0 100 = true := by decide +kernel
set_option maxRecDepth 100000 in
theorem sm_k_233 : sm_ckP 10 prog_12_method_78_code mc_233 (some .int) 0 39 = true := by decide +kernel
set_option maxRecDepth 100000 in
theorem sm_k_234 : sm_ckP 10 prog_12_method_79_code mc_234 (some .int) 0 28 = true := by decide +kernel
set_option maxRecDepth 100000 in
theorem sm_k_235 : sm_ckP 10 prog_12_method_80_code mc_235 (some .int) 0 119 = true := by decide +kernel
set_option maxRecDepth 100000 in
theorem sm_k_236 : sm_ckP 10 prog_12_method_81_code mc_236 (some .boolean) 0 40 = true := by decide +kernel
set_option maxRecDepth 100000 in
theorem sm_k_237 : sm_ckP 10 prog_12_method_82_code mc_237 (some .int) 0 52 = true := by decide +kernel
set_option maxRecDepth 100000 in
theorem sm_k_238 : sm_ckP 10 prog_12_method_83_code mc_238 (some .int) 0 59 = true := by decide +kernel
set_option maxRecDepth 100000 in
theorem sm_k_239 : sm_ckP 10 prog_12_method_84_code mc_239 (some .int) 0 50 = true := by decide +kernel
