/-! ===== checks, on ===== -/
set_option maxRecDepth 100000 in
theorem am_ck_42 : am_rks 42 = true := by decide +kernel
theorem am_cn_42 : am_nmok 42 := by first | decide +kernel | exact ⟨rfl, rfl, by decide +kernel⟩
set_option maxRecDepth 100000 in
theorem am_ck_43 : am_rks 43 = true := by decide +kernel
theorem am_cn_43 : am_nmok 43 := by first | decide +kernel | exact ⟨rfl, rfl, by decide +kernel⟩
set_option maxRecDepth 100000 in
theorem am_ck_44 : am_rks 44 = true := by decide +kernel
theorem am_cn_44 : am_nmok 44 := by first | decide +kernel | exact ⟨rfl, rfl, by decide +kernel⟩
set_option maxRecDepth 100000 in
theorem am_ck_45 : am_rks 45 = true := by decide +kernel
theorem am_cn_45 : am_nmok 45 := by first | decide +kernel | exact ⟨rfl, rfl, by decide +kernel⟩
set_option maxRecDepth 100000 in
theorem am_ck_46 : am_rks 46 = true := by decide +kernel
theorem am_cn_46 : am_nmok 46 := by first | decide +kernel | exact ⟨rfl, rfl, by decide +kernel⟩
set_option maxRecDepth 100000 in
theorem am_ck_47 : am_rks 47 = true := by decide +kernel
theorem am_cn_47 : am_nmok 47 := by first | decide +kernel | exact ⟨rfl, rfl, by decide +kernel⟩
set_option maxRecDepth 100000 in
theorem am_ck_48 : am_rks 48 = true := by decide +kernel
theorem am_cn_48 : am_nmok 48 := by first | decide +kernel | exact ⟨rfl, rfl, by decide +kernel⟩
set_option maxRecDepth 100000 in
theorem am_ck_49 : am_rks 49 = true := by decide +kernel
theorem am_cn_49 : am_nmok 49 := by first | decide +kernel | exact ⟨rfl, rfl, by decide +kernel⟩
set_option maxRecDepth 100000 in
theorem am_ck_50 : am_rks 50 = true := by decide +kernel
theorem am_cn_50 : am_nmok 50 := by first | decide +kernel | exact ⟨rfl, rfl, by decide +kernel⟩
set_option maxRecDepth 100000 in
theorem am_ck_51 : am_rks 51 = true := by decide +kernel
theorem am_cn_51 : am_nmok 51 := by first | decide +kernel | exact ⟨rfl, rfl, by decide +kernel⟩
set_option maxRecDepth 100000 in
theorem am_ck_52 : am_rks 52 = true := by decide +kernel
theorem am_cn_52 : am_nmok 52 := by first | decide +kernel | exact ⟨rfl, rfl, by decide +kernel⟩
set_option maxRecDepth 100000 in
theorem am_ck_53 : am_rks 53 = true := by decide +kernel
theorem am_cn_53 : am_nmok 53 := by first | decide +kernel | exact ⟨rfl, rfl, by decide +kernel⟩
set_option maxRecDepth 100000 in
theorem am_ck_54 : am_rks 54 = true := by decide +kernel
theorem am_cn_54 : am_nmok 54 := by first | decide +kernel | exact ⟨rfl, rfl, by decide +kernel⟩
set_option maxRecDepth 100000 in
theorem am_ck_55 : am_rks 55 = true := by decide +kernel
theorem am_cn_55 : am_nmok 55 := by first | decide +kernel | exact ⟨rfl, rfl, by decide +kernel⟩
set_option maxRecDepth 100000 in
theorem am_ck_56 : am_rks 56 = true := by decide +kernel
theorem am_cn_56 : am_nmok 56 := by first | decide +kernel | exact ⟨rfl, rfl, by decide +kernel⟩
set_option maxRecDepth 100000 in
theorem am_ck_57 : am_rks 57 = true := by decide +kernel
theorem am_cn_57 : am_nmok 57 := by first | decide +kernel | exact ⟨rfl, rfl, by decide +kernel⟩
set_option maxRecDepth 100000 in
theorem am_ck_58 : am_rks 58 = true := by decide +kernel
theorem am_cn_58 : am_nmok 58 := by first | decide +kernel | exact ⟨rfl, rfl, by decide +kernel⟩
set_option maxRecDepth 100000 in
theorem am_ck_59 : am_rks 59 = true := by decide +kernel
theorem am_cn_59 : am_nmok 59 := by first | decide +kernel | exact ⟨rfl, rfl, by decide +kernel⟩
set_option maxRecDepth 100000 in
theorem am_ck_60 : am_rks 60 = true := by decide +kernel
theorem am_cn_60 : am_nmok 60 := by first | decide +kernel | exact ⟨rfl, rfl, by decide +kernel⟩
set_option maxRecDepth 100000 in
theorem am_ck_61 : am_rks 61 = true := by decide +kernel
theorem am_cn_61 : am_nmok 61 := by first | decide +kernel | exact ⟨rfl, rfl, by decide +kernel⟩
set_option maxRecDepth 100000 in
theorem am_ck_62 : am_rks 62 = true := by decide +kernel
theorem am_cn_62 : am_nmok 62 := by first | decide +kernel | exact ⟨rfl, rfl, by decide +kernel⟩
set_option maxRecDepth 100000 in
theorem am_ck_63 : am_rks 63 = true := by decide +kernel
theorem am_cn_63 : am_nmok 63 := by first | decide +kernel | exact ⟨rfl, rfl, by decide +kernel⟩
set_option maxRecDepth 100000 in
theorem am_ck_64 : am_rks 64 = true := by decide +kernel
theorem am_cn_64 : am_nmok 64 := by first | decide +kernel | exact ⟨rfl, rfl, by decide +kernel⟩
set_option maxRecDepth 100000 in
theorem am_ck_65 : am_rks 65 = true := by decide +kernel
theorem am_cn_65 : am_nmok 65 := by first | decide +kernel | exact ⟨rfl, rfl, by decide +kernel⟩
set_option maxRecDepth 100000 in
theorem am_ck_66 : am_rks 66 = true := by decide +kernel
theorem am_cn_66 : am_nmok 66 := by first | decide +kernel | exact ⟨rfl, rfl, by decide +kernel⟩
set_option maxRecDepth 100000 in
theorem am_ck_67 : am_rks 67 = true := by decide +kernel
theorem am_cn_67 : am_nmok 67 := by first | decide +kernel | exact ⟨rfl, rfl, by decide +kernel⟩
set_option maxRecDepth 100000 in
theorem am_ck_68 : am_rks 68 = true := by decide +kernel
theorem am_cn_68 : am_nmok 68 := by first | decide +kernel | exact ⟨rfl, rfl, by decide +kernel⟩
set_option maxRecDepth 100000 in
theorem am_ck_69 : am_rks 69 = true := by decide +kernel
theorem am_cn_69 : am_nmok 69 := by first | decide +kernel | exact ⟨rfl, rfl, by decide +kernel⟩
set_option maxRecDepth 100000 in
theorem am_ck_70 : am_rks 70 = true := by decide +kernel
theorem am_cn_70 : am_nmok 70 := by first | decide +kernel | exact ⟨rfl, rfl, by decide +kernel⟩
set_option maxRecDepth 100000 in
theorem am_ck_71 : am_rks 71 = true := by decide +kernel
theorem am_cn_71 : am_nmok 71 := by first | decide +kernel | exact ⟨rfl, rfl, by decide +kernel⟩
set_option maxRecDepth 100000 in
theorem am_ck_72 : am_rks 72 = true := by decide +kernel
theorem am_cn_72 : am_nmok 72 := by first | decide +kernel | exact ⟨rfl, rfl, by decide +kernel⟩
set_option maxRecDepth 100000 in
theorem am_ck_73 : am_rks 73 = true := by decide +kernel
theorem am_cn_73 : am_nmok 73 := by first | decide +kernel | exact ⟨rfl, rfl, by decide +kernel⟩
set_option maxRecDepth 100000 in
theorem am_ck_74 : am_rks 74 = true := by decide +kernel
theorem am_cn_74 : am_nmok 74 := by first | decide +kernel | exact ⟨rfl, rfl, by decide +kernel⟩
set_option maxRecDepth 100000 in
theorem am_ck_75 : am_rks 75 = true := by decide +kernel
theorem am_cn_75 : am_nmok 75 := by first | decide +kernel | exact ⟨rfl, rfl, by decide +kernel⟩
set_option maxRecDepth 100000 in
theorem am_ck_76 : am_rks 76 = true := by decide +kernel
theorem am_cn_76 : am_nmok 76 := by first | decide +kernel | exact ⟨rfl, rfl, by decide +kernel⟩
set_option maxRecDepth 100000 in
theorem am_ck_77 : am_rks 77 = true := by decide +kernel
theorem am_cn_77 : am_nmok 77 := by first | decide +kernel | exact ⟨rfl, rfl, by decide +kernel⟩
set_option maxRecDepth 100000 in
theorem am_ck_78 : am_rks 78 = true := by decide +kernel
theorem am_cn_78 : am_nmok 78 := by first | decide +kernel | exact ⟨rfl, rfl, by decide +kernel⟩
set_option maxRecDepth 100000 in
theorem am_ck_79 : am_rks 79 = true := by decide +kernel
theorem am_cn_79 : am_nmok 79 := by first | decide +kernel | exact ⟨rfl, rfl, by decide +kernel⟩
set_option maxRecDepth 100000 in
theorem am_ck_80 : am_rks 80 = true := by decide +kernel
theorem am_cn_80 : am_nmok 80 := by first | decide +kernel | exact ⟨rfl, rfl, by decide +kernel⟩
set_option maxRecDepth 100000 in
theorem am_ck_81 : am_rks 81 = true := by decide +kernel
theorem am_cn_81 : am_nmok 81 := by first | decide +kernel | exact ⟨rfl, rfl, by decide +kernel⟩
set_option maxRecDepth 100000 in
theorem am_ck_82 : am_rks 82 = true := by decide +kernel
theorem am_cn_82 : am_nmok 82 := by first | decide +kernel | exact ⟨rfl, rfl, by decide +kernel⟩
set_option maxRecDepth 100000 in
theorem am_ck_83 : am_rks 83 = true := by decide +kernel
theorem am_cn_83 : am_nmok 83 := by first | decide +kernel | exact ⟨rfl, rfl, by decide +kernel⟩
