/-! ===== checks of the law's rows ===== -/
set_option maxRecDepth 100000 in
theorem am_lk_4 : am_rkl (am_m 247) false (am_cd 247) 200 cd_CartLaw_law_4 = true := by decide +kernel
set_option maxRecDepth 100000 in
theorem am_lk_5 : am_rkl (am_m 247) false (am_cd 247) 250 cd_CartLaw_law_5 = true := by decide +kernel
set_option maxRecDepth 100000 in
theorem am_lk_6 : am_rkl (am_m 247) false (am_cd 247) 300 cd_CartLaw_law_6 = true := by decide +kernel
set_option maxRecDepth 100000 in
theorem am_lk_7 : am_rkl (am_m 247) false (am_cd 247) 350 cd_CartLaw_law_7 = true := by decide +kernel
