/-! ===== checks of the law's rows ===== -/
set_option maxRecDepth 100000 in
theorem am_lk_0 : am_rkl (am_m 247) false (am_cd 247) 0 cd_CartLaw_law_0 = true := by decide +kernel
set_option maxRecDepth 100000 in
theorem am_lk_1 : am_rkl (am_m 247) false (am_cd 247) 50 cd_CartLaw_law_1 = true := by decide +kernel
set_option maxRecDepth 100000 in
theorem am_lk_2 : am_rkl (am_m 247) false (am_cd 247) 100 cd_CartLaw_law_2 = true := by decide +kernel
set_option maxRecDepth 100000 in
theorem am_lk_3 : am_rkl (am_m 247) false (am_cd 247) 150 cd_CartLaw_law_3 = true := by decide +kernel
