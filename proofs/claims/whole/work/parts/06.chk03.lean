/-! ===== checks, on ===== -/
set_option maxRecDepth 100000 in
theorem am_ck_126 : am_rks 126 = true := by decide +kernel
theorem am_cn_126 : am_nmok 126 := by first | decide +kernel | exact ⟨rfl, rfl, by decide +kernel⟩
set_option maxRecDepth 100000 in
theorem am_ck_127 : am_rks 127 = true := by decide +kernel
theorem am_cn_127 : am_nmok 127 := by first | decide +kernel | exact ⟨rfl, rfl, by decide +kernel⟩
set_option maxRecDepth 100000 in
theorem am_ck_128 : am_rks 128 = true := by decide +kernel
theorem am_cn_128 : am_nmok 128 := by first | decide +kernel | exact ⟨rfl, rfl, by decide +kernel⟩
set_option maxRecDepth 100000 in
theorem am_ck_129 : am_rks 129 = true := by decide +kernel
theorem am_cn_129 : am_nmok 129 := by first | decide +kernel | exact ⟨rfl, rfl, by decide +kernel⟩
set_option maxRecDepth 100000 in
theorem am_ck_130 : am_rks 130 = true := by decide +kernel
theorem am_cn_130 : am_nmok 130 := by first | decide +kernel | exact ⟨rfl, rfl, by decide +kernel⟩
set_option maxRecDepth 100000 in
theorem am_ck_131 : am_rks 131 = true := by decide +kernel
theorem am_cn_131 : am_nmok 131 := by first | decide +kernel | exact ⟨rfl, rfl, by decide +kernel⟩
set_option maxRecDepth 100000 in
theorem am_ck_132 : am_rks 132 = true := by decide +kernel
theorem am_cn_132 : am_nmok 132 := by first | decide +kernel | exact ⟨rfl, rfl, by decide +kernel⟩
set_option maxRecDepth 100000 in
theorem am_ck_133 : am_rks 133 = true := by decide +kernel
theorem am_cn_133 : am_nmok 133 := by first | decide +kernel | exact ⟨rfl, rfl, by decide +kernel⟩
set_option maxRecDepth 100000 in
theorem am_ck_134 : am_rks 134 = true := by decide +kernel
theorem am_cn_134 : am_nmok 134 := by first | decide +kernel | exact ⟨rfl, rfl, by decide +kernel⟩
set_option maxRecDepth 100000 in
theorem am_ck_135 : am_rks 135 = true := by decide +kernel
theorem am_cn_135 : am_nmok 135 := by first | decide +kernel | exact ⟨rfl, rfl, by decide +kernel⟩
set_option maxRecDepth 100000 in
theorem am_ck_136 : am_rks 136 = true := by decide +kernel
theorem am_cn_136 : am_nmok 136 := by first | decide +kernel | exact ⟨rfl, rfl, by decide +kernel⟩
set_option maxRecDepth 100000 in
theorem am_ck_137 : am_rks 137 = true := by decide +kernel
theorem am_cn_137 : am_nmok 137 := by first | decide +kernel | exact ⟨rfl, rfl, by decide +kernel⟩
set_option maxRecDepth 100000 in
theorem am_ck_138 : am_rks 138 = true := by decide +kernel
theorem am_cn_138 : am_nmok 138 := by first | decide +kernel | exact ⟨rfl, rfl, by decide +kernel⟩
set_option maxRecDepth 100000 in
theorem am_ck_139 : am_rks 139 = true := by decide +kernel
theorem am_cn_139 : am_nmok 139 := by first | decide +kernel | exact ⟨rfl, rfl, by decide +kernel⟩
set_option maxRecDepth 100000 in
theorem am_ck_140 : am_rks 140 = true := by decide +kernel
theorem am_cn_140 : am_nmok 140 := by first | decide +kernel | exact ⟨rfl, rfl, by decide +kernel⟩
set_option maxRecDepth 100000 in
theorem am_ck_141 : am_rks 141 = true := by decide +kernel
theorem am_cn_141 : am_nmok 141 := by first | decide +kernel | exact ⟨rfl, rfl, by decide +kernel⟩
set_option maxRecDepth 100000 in
theorem am_ck_142 : am_rks 142 = true := by decide +kernel
theorem am_cn_142 : am_nmok 142 := by first | decide +kernel | exact ⟨rfl, rfl, by decide +kernel⟩
set_option maxRecDepth 100000 in
theorem am_ck_143 : am_rks 143 = true := by decide +kernel
theorem am_cn_143 : am_nmok 143 := by first | decide +kernel | exact ⟨rfl, rfl, by decide +kernel⟩
set_option maxRecDepth 100000 in
theorem am_ck_144 : am_rks 144 = true := by decide +kernel
theorem am_cn_144 : am_nmok 144 := by first | decide +kernel | exact ⟨rfl, rfl, by decide +kernel⟩
set_option maxRecDepth 100000 in
theorem am_ck_145 : am_rks 145 = true := by decide +kernel
theorem am_cn_145 : am_nmok 145 := by first | decide +kernel | exact ⟨rfl, rfl, by decide +kernel⟩
set_option maxRecDepth 100000 in
theorem am_ck_146 : am_rks 146 = true := by decide +kernel
theorem am_cn_146 : am_nmok 146 := by first | decide +kernel | exact ⟨rfl, rfl, by decide +kernel⟩
set_option maxRecDepth 100000 in
theorem am_ck_147 : am_rks 147 = true := by decide +kernel
theorem am_cn_147 : am_nmok 147 := by first | decide +kernel | exact ⟨rfl, rfl, by decide +kernel⟩
set_option maxRecDepth 100000 in
theorem am_ck_148 : am_rks 148 = true := by decide +kernel
theorem am_cn_148 : am_nmok 148 := by first | decide +kernel | exact ⟨rfl, rfl, by decide +kernel⟩
set_option maxRecDepth 100000 in
theorem am_ck_149 : am_rks 149 = true := by decide +kernel
theorem am_cn_149 : am_nmok 149 := by first | decide +kernel | exact ⟨rfl, rfl, by decide +kernel⟩
set_option maxRecDepth 100000 in
theorem am_ck_150 : am_rks 150 = true := by decide +kernel
theorem am_cn_150 : am_nmok 150 := by first | decide +kernel | exact ⟨rfl, rfl, by decide +kernel⟩
set_option maxRecDepth 100000 in
theorem am_ck_151 : am_rks 151 = true := by decide +kernel
theorem am_cn_151 : am_nmok 151 := by first | decide +kernel | exact ⟨rfl, rfl, by decide +kernel⟩
set_option maxRecDepth 100000 in
theorem am_ck_152 : am_rks 152 = true := by decide +kernel
theorem am_cn_152 : am_nmok 152 := by first | decide +kernel | exact ⟨rfl, rfl, by decide +kernel⟩
set_option maxRecDepth 100000 in
theorem am_ck_153 : am_rks 153 = true := by decide +kernel
theorem am_cn_153 : am_nmok 153 := by first | decide +kernel | exact ⟨rfl, rfl, by decide +kernel⟩
set_option maxRecDepth 100000 in
theorem am_ck_154 : am_rks 154 = true := by decide +kernel
theorem am_cn_154 : am_nmok 154 := by first | decide +kernel | exact ⟨rfl, rfl, by decide +kernel⟩
set_option maxRecDepth 100000 in
theorem am_ck_155 : am_rks 155 = true := by decide +kernel
theorem am_cn_155 : am_nmok 155 := by first | decide +kernel | exact ⟨rfl, rfl, by decide +kernel⟩
set_option maxRecDepth 100000 in
theorem am_ck_156 : am_rks 156 = true := by decide +kernel
theorem am_cn_156 : am_nmok 156 := by first | decide +kernel | exact ⟨rfl, rfl, by decide +kernel⟩
set_option maxRecDepth 100000 in
theorem am_ck_157 : am_rks 157 = true := by decide +kernel
theorem am_cn_157 : am_nmok 157 := by first | decide +kernel | exact ⟨rfl, rfl, by decide +kernel⟩
set_option maxRecDepth 100000 in
theorem am_ck_158 : am_rks 158 = true := by decide +kernel
theorem am_cn_158 : am_nmok 158 := by first | decide +kernel | exact ⟨rfl, rfl, by decide +kernel⟩
set_option maxRecDepth 100000 in
theorem am_ck_159 : am_rks 159 = true := by decide +kernel
theorem am_cn_159 : am_nmok 159 := by first | decide +kernel | exact ⟨rfl, rfl, by decide +kernel⟩
set_option maxRecDepth 100000 in
theorem am_ck_160 : am_rks 160 = true := by decide +kernel
theorem am_cn_160 : am_nmok 160 := by first | decide +kernel | exact ⟨rfl, rfl, by decide +kernel⟩
set_option maxRecDepth 100000 in
theorem am_ck_161 : am_rks 161 = true := by decide +kernel
theorem am_cn_161 : am_nmok 161 := by first | decide +kernel | exact ⟨rfl, rfl, by decide +kernel⟩
set_option maxRecDepth 100000 in
theorem am_ck_162 : am_rks 162 = true := by decide +kernel
theorem am_cn_162 : am_nmok 162 := by first | decide +kernel | exact ⟨rfl, rfl, by decide +kernel⟩
set_option maxRecDepth 100000 in
theorem am_ck_163 : am_rks 163 = true := by decide +kernel
theorem am_cn_163 : am_nmok 163 := by first | decide +kernel | exact ⟨rfl, rfl, by decide +kernel⟩
set_option maxRecDepth 100000 in
theorem am_ck_164 : am_rks 164 = true := by decide +kernel
theorem am_cn_164 : am_nmok 164 := by first | decide +kernel | exact ⟨rfl, rfl, by decide +kernel⟩
set_option maxRecDepth 100000 in
theorem am_ck_165 : am_rks 165 = true := by decide +kernel
theorem am_cn_165 : am_nmok 165 := by first | decide +kernel | exact ⟨rfl, rfl, by decide +kernel⟩
set_option maxRecDepth 100000 in
theorem am_ck_166 : am_rks 166 = true := by decide +kernel
theorem am_cn_166 : am_nmok 166 := by first | decide +kernel | exact ⟨rfl, rfl, by decide +kernel⟩
set_option maxRecDepth 100000 in
theorem am_ck_167 : am_rks 167 = true := by decide +kernel
theorem am_cn_167 : am_nmok 167 := by first | decide +kernel | exact ⟨rfl, rfl, by decide +kernel⟩
