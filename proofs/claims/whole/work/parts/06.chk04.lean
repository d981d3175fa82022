/-! ===== checks, on ===== -/
set_option maxRecDepth 100000 in
theorem am_ck_168 : am_rks 168 = true := by decide +kernel
theorem am_cn_168 : am_nmok 168 := by first | decide +kernel | exact ⟨rfl, rfl, by decide +kernel⟩
set_option maxRecDepth 100000 in
theorem am_ck_169 : am_rks 169 = true := by decide +kernel
theorem am_cn_169 : am_nmok 169 := by first | decide +kernel | exact ⟨rfl, rfl, by decide +kernel⟩
set_option maxRecDepth 100000 in
theorem am_ck_170 : am_rks 170 = true := by decide +kernel
theorem am_cn_170 : am_nmok 170 := by first | decide +kernel | exact ⟨rfl, rfl, by decide +kernel⟩
set_option maxRecDepth 100000 in
theorem am_ck_171 : am_rks 171 = true := by decide +kernel
theorem am_cn_171 : am_nmok 171 := by first | decide +kernel | exact ⟨rfl, rfl, by decide +kernel⟩
set_option maxRecDepth 100000 in
theorem am_ck_172 : am_rks 172 = true := by decide +kernel
theorem am_cn_172 : am_nmok 172 := by first | decide +kernel | exact ⟨rfl, rfl, by decide +kernel⟩
set_option maxRecDepth 100000 in
theorem am_ck_173 : am_rks 173 = true := by decide +kernel
theorem am_cn_173 : am_nmok 173 := by first | decide +kernel | exact ⟨rfl, rfl, by decide +kernel⟩
set_option maxRecDepth 100000 in
theorem am_ck_174 : am_rks 174 = true := by decide +kernel
theorem am_cn_174 : am_nmok 174 := by first | decide +kernel | exact ⟨rfl, rfl, by decide +kernel⟩
set_option maxRecDepth 100000 in
theorem am_ck_175 : am_rks 175 = true := by decide +kernel
theorem am_cn_175 : am_nmok 175 := by first | decide +kernel | exact ⟨rfl, rfl, by decide +kernel⟩
set_option maxRecDepth 100000 in
theorem am_ck_176 : am_rks 176 = true := by decide +kernel
theorem am_cn_176 : am_nmok 176 := by first | decide +kernel | exact ⟨rfl, rfl, by decide +kernel⟩
set_option maxRecDepth 100000 in
theorem am_ck_177 : am_rks 177 = true := by decide +kernel
theorem am_cn_177 : am_nmok 177 := by first | decide +kernel | exact ⟨rfl, rfl, by decide +kernel⟩
set_option maxRecDepth 100000 in
theorem am_ck_178 : am_rks 178 = true := by decide +kernel
theorem am_cn_178 : am_nmok 178 := by first | decide +kernel | exact ⟨rfl, rfl, by decide +kernel⟩
set_option maxRecDepth 100000 in
theorem am_ck_179 : am_rks 179 = true := by decide +kernel
theorem am_cn_179 : am_nmok 179 := by first | decide +kernel | exact ⟨rfl, rfl, by decide +kernel⟩
set_option maxRecDepth 100000 in
theorem am_ck_180 : am_rks 180 = true := by decide +kernel
theorem am_cn_180 : am_nmok 180 := by first | decide +kernel | exact ⟨rfl, rfl, by decide +kernel⟩
set_option maxRecDepth 100000 in
theorem am_ck_181 : am_rks 181 = true := by decide +kernel
theorem am_cn_181 : am_nmok 181 := by first | decide +kernel | exact ⟨rfl, rfl, by decide +kernel⟩
set_option maxRecDepth 100000 in
theorem am_ck_182 : am_rks 182 = true := by decide +kernel
theorem am_cn_182 : am_nmok 182 := by first | decide +kernel | exact ⟨rfl, rfl, by decide +kernel⟩
set_option maxRecDepth 100000 in
theorem am_ck_183 : am_rks 183 = true := by decide +kernel
theorem am_cn_183 : am_nmok 183 := by first | decide +kernel | exact ⟨rfl, rfl, by decide +kernel⟩
set_option maxRecDepth 100000 in
theorem am_ck_184 : am_rks 184 = true := by decide +kernel
theorem am_cn_184 : am_nmok 184 := by first | decide +kernel | exact ⟨rfl, rfl, by decide +kernel⟩
set_option maxRecDepth 100000 in
theorem am_ck_185 : am_rks 185 = true := by decide +kernel
theorem am_cn_185 : am_nmok 185 := by first | decide +kernel | exact ⟨rfl, rfl, by decide +kernel⟩
set_option maxRecDepth 100000 in
theorem am_ck_186 : am_rks 186 = true := by decide +kernel
theorem am_cn_186 : am_nmok 186 := by first | decide +kernel | exact ⟨rfl, rfl, by decide +kernel⟩
set_option maxRecDepth 100000 in
theorem am_ck_187 : am_rks 187 = true := by decide +kernel
theorem am_cn_187 : am_nmok 187 := by first | decide +kernel | exact ⟨rfl, rfl, by decide +kernel⟩
set_option maxRecDepth 100000 in
theorem am_ck_188 : am_rks 188 = true := by decide +kernel
theorem am_cn_188 : am_nmok 188 := by first | decide +kernel | exact ⟨rfl, rfl, by decide +kernel⟩
set_option maxRecDepth 100000 in
theorem am_ck_189 : am_rks 189 = true := by decide +kernel
theorem am_cn_189 : am_nmok 189 := by first | decide +kernel | exact ⟨rfl, rfl, by decide +kernel⟩
set_option maxRecDepth 100000 in
theorem am_ck_190 : am_rks 190 = true := by decide +kernel
theorem am_cn_190 : am_nmok 190 := by first | decide +kernel | exact ⟨rfl, rfl, by decide +kernel⟩
set_option maxRecDepth 100000 in
theorem am_ck_191 : am_rks 191 = true := by decide +kernel
theorem am_cn_191 : am_nmok 191 := by first | decide +kernel | exact ⟨rfl, rfl, by decide +kernel⟩
set_option maxRecDepth 100000 in
theorem am_ck_192 : am_rks 192 = true := by decide +kernel
theorem am_cn_192 : am_nmok 192 := by first | decide +kernel | exact ⟨rfl, rfl, by decide +kernel⟩
set_option maxRecDepth 100000 in
theorem am_ck_193 : am_rks 193 = true := by decide +kernel
theorem am_cn_193 : am_nmok 193 := by first | decide +kernel | exact ⟨rfl, rfl, by decide +kernel⟩
set_option maxRecDepth 100000 in
theorem am_ck_194 : am_rks 194 = true := by decide +kernel
theorem am_cn_194 : am_nmok 194 := by first | decide +kernel | exact ⟨rfl, rfl, by decide +kernel⟩
set_option maxRecDepth 100000 in
theorem am_ck_195 : am_rks 195 = true := by decide +kernel
theorem am_cn_195 : am_nmok 195 := by first | decide +kernel | exact ⟨rfl, rfl, by decide +kernel⟩
set_option maxRecDepth 100000 in
theorem am_ck_196 : am_rks 196 = true := by decide +kernel
theorem am_cn_196 : am_nmok 196 := by first | decide +kernel | exact ⟨rfl, rfl, by decide +kernel⟩
set_option maxRecDepth 100000 in
theorem am_ck_197 : am_rks 197 = true := by decide +kernel
theorem am_cn_197 : am_nmok 197 := by first | decide +kernel | exact ⟨rfl, rfl, by decide +kernel⟩
set_option maxRecDepth 100000 in
theorem am_ck_198 : am_rks 198 = true := by decide +kernel
theorem am_cn_198 : am_nmok 198 := by first | decide +kernel | exact ⟨rfl, rfl, by decide +kernel⟩
set_option maxRecDepth 100000 in
theorem am_ck_199 : am_rks 199 = true := by decide +kernel
theorem am_cn_199 : am_nmok 199 := by first | decide +kernel | exact ⟨rfl, rfl, by decide +kernel⟩
set_option maxRecDepth 100000 in
theorem am_ck_200 : am_rks 200 = true := by decide +kernel
theorem am_cn_200 : am_nmok 200 := by first | decide +kernel | exact ⟨rfl, rfl, by decide +kernel⟩
set_option maxRecDepth 100000 in
theorem am_ck_201 : am_rks 201 = true := by decide +kernel
theorem am_cn_201 : am_nmok 201 := by first | decide +kernel | exact ⟨rfl, rfl, by decide +kernel⟩
set_option maxRecDepth 100000 in
theorem am_ck_202 : am_rks 202 = true := by decide +kernel
theorem am_cn_202 : am_nmok 202 := by first | decide +kernel | exact ⟨rfl, rfl, by decide +kernel⟩
set_option maxRecDepth 100000 in
theorem am_ck_203 : am_rks 203 = true := by decide +kernel
theorem am_cn_203 : am_nmok 203 := by first | decide +kernel | exact ⟨rfl, rfl, by decide +kernel⟩
set_option maxRecDepth 100000 in
theorem am_ck_204 : am_rks 204 = true := by decide +kernel
theorem am_cn_204 : am_nmok 204 := by first | decide +kernel | exact ⟨rfl, rfl, by decide +kernel⟩
set_option maxRecDepth 100000 in
theorem am_ck_205 : am_rks 205 = true := by decide +kernel
theorem am_cn_205 : am_nmok 205 := by first | decide +kernel | exact ⟨rfl, rfl, by decide +kernel⟩
set_option maxRecDepth 100000 in
theorem am_ck_206 : am_rks 206 = true := by decide +kernel
theorem am_cn_206 : am_nmok 206 := by first | decide +kernel | exact ⟨rfl, rfl, by decide +kernel⟩
set_option maxRecDepth 100000 in
theorem am_ck_207 : am_rks 207 = true := by decide +kernel
theorem am_cn_207 : am_nmok 207 := by first | decide +kernel | exact ⟨rfl, rfl, by decide +kernel⟩
set_option maxRecDepth 100000 in
theorem am_ck_208 : am_rks 208 = true := by decide +kernel
theorem am_cn_208 : am_nmok 208 := by first | decide +kernel | exact ⟨rfl, rfl, by decide +kernel⟩
set_option maxRecDepth 100000 in
theorem am_ck_209 : am_rks 209 = true := by decide +kernel
theorem am_cn_209 : am_nmok 209 := by first | decide +kernel | exact ⟨rfl, rfl, by decide +kernel⟩
