/-! ===== checks, on ===== -/
set_option maxRecDepth 100000 in
theorem am_ck_210 : am_rks 210 = true := by decide +kernel
theorem am_cn_210 : am_nmok 210 := by first | decide +kernel | exact ⟨rfl, rfl, by decide +kernel⟩
set_option maxRecDepth 100000 in
theorem am_ck_211 : am_rks 211 = true := by decide +kernel
theorem am_cn_211 : am_nmok 211 := by first | decide +kernel | exact ⟨rfl, rfl, by decide +kernel⟩
set_option maxRecDepth 100000 in
theorem am_ck_212 : am_rks 212 = true := by decide +kernel
theorem am_cn_212 : am_nmok 212 := by first | decide +kernel | exact ⟨rfl, rfl, by decide +kernel⟩
set_option maxRecDepth 100000 in
theorem am_ck_213 : am_rks 213 = true := by decide +kernel
theorem am_cn_213 : am_nmok 213 := by first | decide +kernel | exact ⟨rfl, rfl, by decide +kernel⟩
set_option maxRecDepth 100000 in
theorem am_ck_214 : am_rks 214 = true := by decide +kernel
theorem am_cn_214 : am_nmok 214 := by first | decide +kernel | exact ⟨rfl, rfl, by decide +kernel⟩
set_option maxRecDepth 100000 in
theorem am_ck_215 : am_rks 215 = true := by decide +kernel
theorem am_cn_215 : am_nmok 215 := by first | decide +kernel | exact ⟨rfl, rfl, by decide +kernel⟩
set_option maxRecDepth 100000 in
theorem am_ck_216 : am_rks 216 = true := by decide +kernel
theorem am_cn_216 : am_nmok 216 := by first | decide +kernel | exact ⟨rfl, rfl, by decide +kernel⟩
set_option maxRecDepth 100000 in
theorem am_ck_217 : am_rks 217 = true := by decide +kernel
theorem am_cn_217 : am_nmok 217 := by first | decide +kernel | exact ⟨rfl, rfl, by decide +kernel⟩
set_option maxRecDepth 100000 in
theorem am_ck_218 : am_rks 218 = true := by decide +kernel
theorem am_cn_218 : am_nmok 218 := by first | decide +kernel | exact ⟨rfl, rfl, by decide +kernel⟩
set_option maxRecDepth 100000 in
theorem am_ck_219 : am_rks 219 = true := by decide +kernel
theorem am_cn_219 : am_nmok 219 := by first | decide +kernel | exact ⟨rfl, rfl, by decide +kernel⟩
set_option maxRecDepth 100000 in
theorem am_ck_220 : am_rks 220 = true := by decide +kernel
theorem am_cn_220 : am_nmok 220 := by first | decide +kernel | exact ⟨rfl, rfl, by decide +kernel⟩
set_option maxRecDepth 100000 in
theorem am_ck_221 : am_rks 221 = true := by decide +kernel
theorem am_cn_221 : am_nmok 221 := by first | decide +kernel | exact ⟨rfl, rfl, by decide +kernel⟩
set_option maxRecDepth 100000 in
theorem am_ck_222 : am_rks 222 = true := by decide +kernel
theorem am_cn_222 : am_nmok 222 := by first | decide +kernel | exact ⟨rfl, rfl, by decide +kernel⟩
set_option maxRecDepth 100000 in
theorem am_ck_223 : am_rks 223 = true := by decide +kernel
theorem am_cn_223 : am_nmok 223 := by first | decide +kernel | exact ⟨rfl, rfl, by decide +kernel⟩
set_option maxRecDepth 100000 in
theorem am_ck_224 : am_rks 224 = true := by decide +kernel
theorem am_cn_224 : am_nmok 224 := by first | decide +kernel | exact ⟨rfl, rfl, by decide +kernel⟩
set_option maxRecDepth 100000 in
theorem am_ck_225 : am_rks 225 = true := by decide +kernel
theorem am_cn_225 : am_nmok 225 := by first | decide +kernel | exact ⟨rfl, rfl, by decide +kernel⟩
set_option maxRecDepth 100000 in
theorem am_ck_226 : am_rks 226 = true := by decide +kernel
theorem am_cn_226 : am_nmok 226 := by first | decide +kernel | exact ⟨rfl, rfl, by decide +kernel⟩
set_option maxRecDepth 100000 in
theorem am_ck_227 : am_rks 227 = true := by decide +kernel
theorem am_cn_227 : am_nmok 227 := by first | decide +kernel | exact ⟨rfl, rfl, by decide +kernel⟩
set_option maxRecDepth 100000 in
theorem am_ck_228 : am_rks 228 = true := by decide +kernel
theorem am_cn_228 : am_nmok 228 := by first | decide +kernel | exact ⟨rfl, rfl, by decide +kernel⟩
set_option maxRecDepth 100000 in
theorem am_ck_229 : am_rks 229 = true := by decide +kernel
theorem am_cn_229 : am_nmok 229 := by first | decide +kernel | exact ⟨rfl, rfl, by decide +kernel⟩
set_option maxRecDepth 100000 in
theorem am_ck_230 : am_rks 230 = true := by decide +kernel
theorem am_cn_230 : am_nmok 230 := by first | decide +kernel | exact ⟨rfl, rfl, by decide +kernel⟩
set_option maxRecDepth 100000 in
theorem am_ck_231 : am_rks 231 = true := by decide +kernel
theorem am_cn_231 : am_nmok 231 := by first | decide +kernel | exact ⟨rfl, rfl, by decide +kernel⟩
set_option maxRecDepth 100000 in
theorem am_ck_232 : am_rks 232 = true := by decide +kernel
theorem am_cn_232 : am_nmok 232 := by first | decide +kernel | exact ⟨rfl, rfl, by decide +kernel⟩
set_option maxRecDepth 100000 in
theorem am_ck_233 : am_rks 233 = true := by decide +kernel
theorem am_cn_233 : am_nmok 233 := by first | decide +kernel | exact ⟨rfl, rfl, by decide +kernel⟩
set_option maxRecDepth 100000 in
theorem am_ck_234 : am_rks 234 = true := by decide +kernel
theorem am_cn_234 : am_nmok 234 := by first | decide +kernel | exact ⟨rfl, rfl, by decide +kernel⟩
set_option maxRecDepth 100000 in
theorem am_ck_235 : am_rks 235 = true := by decide +kernel
theorem am_cn_235 : am_nmok 235 := by first | decide +kernel | exact ⟨rfl, rfl, by decide +kernel⟩
set_option maxRecDepth 100000 in
theorem am_ck_236 : am_rks 236 = true := by decide +kernel
theorem am_cn_236 : am_nmok 236 := by first | decide +kernel | exact ⟨rfl, rfl, by decide +kernel⟩
set_option maxRecDepth 100000 in
theorem am_ck_237 : am_rks 237 = true := by decide +kernel
theorem am_cn_237 : am_nmok 237 := by first | decide +kernel | exact ⟨rfl, rfl, by decide +kernel⟩
set_option maxRecDepth 100000 in
theorem am_ck_238 : am_rks 238 = true := by decide +kernel
theorem am_cn_238 : am_nmok 238 := by first | decide +kernel | exact ⟨rfl, rfl, by decide +kernel⟩
set_option maxRecDepth 100000 in
theorem am_ck_239 : am_rks 239 = true := by decide +kernel
theorem am_cn_239 : am_nmok 239 := by first | decide +kernel | exact ⟨rfl, rfl, by decide +kernel⟩
set_option maxRecDepth 100000 in
theorem am_ck_240 : am_rks 240 = true := by decide +kernel
theorem am_cn_240 : am_nmok 240 := by first | decide +kernel | exact ⟨rfl, rfl, by decide +kernel⟩
set_option maxRecDepth 100000 in
theorem am_ck_241 : am_rks 241 = true := by decide +kernel
theorem am_cn_241 : am_nmok 241 := by first | decide +kernel | exact ⟨rfl, rfl, by decide +kernel⟩
set_option maxRecDepth 100000 in
theorem am_ck_242 : am_rks 242 = true := by decide +kernel
theorem am_cn_242 : am_nmok 242 := by first | decide +kernel | exact ⟨rfl, rfl, by decide +kernel⟩
set_option maxRecDepth 100000 in
theorem am_ck_243 : am_rks 243 = true := by decide +kernel
theorem am_cn_243 : am_nmok 243 := by first | decide +kernel | exact ⟨rfl, rfl, by decide +kernel⟩
set_option maxRecDepth 100000 in
theorem am_ck_244 : am_rks 244 = true := by decide +kernel
theorem am_cn_244 : am_nmok 244 := by first | decide +kernel | exact ⟨rfl, rfl, by decide +kernel⟩
set_option maxRecDepth 100000 in
theorem am_ck_245 : am_rks 245 = true := by decide +kernel
theorem am_cn_245 : am_nmok 245 := by first | decide +kernel | exact ⟨rfl, rfl, by decide +kernel⟩
set_option maxRecDepth 100000 in
theorem am_ck_246 : am_rks 246 = true := by decide +kernel
theorem am_cn_246 : am_nmok 246 := by first | decide +kernel | exact ⟨rfl, rfl, by decide +kernel⟩
set_option maxRecDepth 100000 in
theorem am_ck_248 : am_rks 248 = true := by decide +kernel
theorem am_cn_248 : am_nmok 248 := by first | decide +kernel | exact ⟨rfl, rfl, by decide +kernel⟩
