/-! ===== checks of the law's rows ===== -/
set_option maxRecDepth 100000 in
theorem am_lk_8 : am_rkl (am_m 247) false (am_cd 247) 400 cd_CartLaw_law_8 = true := by decide +kernel
set_option maxRecDepth 100000 in
theorem am_lk_9 : am_rkl (am_m 247) false (am_cd 247) 450 cd_CartLaw_law_9 = true := by decide +kernel
set_option maxRecDepth 100000 in
theorem am_lk_10 : am_rkl (am_m 247) false (am_cd 247) 500 cd_CartLaw_law_10 = true := by decide +kernel
set_option maxRecDepth 100000 in
theorem am_lk_11 : am_rkl (am_m 247) false (am_cd 247) 550 cd_CartLaw_law_11 = true := by decide +kernel
