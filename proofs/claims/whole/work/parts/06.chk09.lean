/-! ===== checks of the law's rows ===== -/
set_option maxRecDepth 100000 in
theorem am_lk_12 : am_rkl (am_m 247) false (am_cd 247) 600 cd_CartLaw_law_12 = true := by decide +kernel
set_option maxRecDepth 100000 in
theorem am_lk_13 : am_rkl (am_m 247) false (am_cd 247) 650 cd_CartLaw_law_13 = true := by decide +kernel
set_option maxRecDepth 100000 in
theorem am_lk_14 : am_rkl (am_m 247) false (am_cd 247) 700 cd_CartLaw_law_14 = true := by decide +kernel
set_option maxRecDepth 100000 in
theorem am_lk_15 : am_rkl (am_m 247) false (am_cd 247) 750 cd_CartLaw_law_15 = true := by decide +kernel
