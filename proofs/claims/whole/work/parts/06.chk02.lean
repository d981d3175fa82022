/-! ===== checks, on ===== -/
set_option maxRecDepth 100000 in
theorem am_ck_84 : am_rks 84 = true := by decide +kernel
theorem am_cn_84 : am_nmok 84 := by first | decide +kernel | exact ⟨rfl, rfl, by decide +kernel⟩
set_option maxRecDepth 100000 in
theorem am_ck_85 : am_rks 85 = true := by decide +kernel
theorem am_cn_85 : am_nmok 85 := by first | decide +kernel | exact ⟨rfl, rfl, by decide +kernel⟩
set_option maxRecDepth 100000 in
theorem am_ck_86 : am_rks 86 = true := by decide +kernel
theorem am_cn_86 : am_nmok 86 := by first | decide +kernel | exact ⟨rfl, rfl, by decide +kernel⟩
set_option maxRecDepth 100000 in
theorem am_ck_87 : am_rks 87 = true := by decide +kernel
theorem am_cn_87 : am_nmok 87 := by first | decide +kernel | exact ⟨rfl, rfl, by decide +kernel⟩
set_option maxRecDepth 100000 in
theorem am_ck_88 : am_rks 88 = true := by decide +kernel
theorem am_cn_88 : am_nmok 88 := by first | decide +kernel | exact ⟨rfl, rfl, by decide +kernel⟩
set_option maxRecDepth 100000 in
theorem am_ck_89 : am_rks 89 = true := by decide +kernel
theorem am_cn_89 : am_nmok 89 := by first | decide +kernel | exact ⟨rfl, rfl, by decide +kernel⟩
set_option maxRecDepth 100000 in
theorem am_ck_90 : am_rks 90 = true := by decide +kernel
theorem am_cn_90 : am_nmok 90 := by first | decide +kernel | exact ⟨rfl, rfl, by decide +kernel⟩
set_option maxRecDepth 100000 in
theorem am_ck_91 : am_rks 91 = true := by decide +kernel
theorem am_cn_91 : am_nmok 91 := by first | decide +kernel | exact ⟨rfl, rfl, by decide +kernel⟩
set_option maxRecDepth 100000 in
theorem am_ck_92 : am_rks 92 = true := by decide +kernel
theorem am_cn_92 : am_nmok 92 := by first | decide +kernel | exact ⟨rfl, rfl, by decide +kernel⟩
set_option maxRecDepth 100000 in
theorem am_ck_93 : am_rks 93 = true := by decide +kernel
theorem am_cn_93 : am_nmok 93 := by first | decide +kernel | exact ⟨rfl, rfl, by decide +kernel⟩
set_option maxRecDepth 100000 in
theorem am_ck_94 : am_rks 94 = true := by decide +kernel
theorem am_cn_94 : am_nmok 94 := by first | decide +kernel | exact ⟨rfl, rfl, by decide +kernel⟩
set_option maxRecDepth 100000 in
theorem am_ck_95 : am_rks 95 = true := by decide +kernel
theorem am_cn_95 : am_nmok 95 := by first | decide +kernel | exact ⟨rfl, rfl, by decide +kernel⟩
set_option maxRecDepth 100000 in
theorem am_ck_96 : am_rks 96 = true := by decide +kernel
theorem am_cn_96 : am_nmok 96 := by first | decide +kernel | exact ⟨rfl, rfl, by decide +kernel⟩
set_option maxRecDepth 100000 in
theorem am_ck_97 : am_rks 97 = true := by decide +kernel
theorem am_cn_97 : am_nmok 97 := by first | decide +kernel | exact ⟨rfl, rfl, by decide +kernel⟩
set_option maxRecDepth 100000 in
theorem am_ck_98 : am_rks 98 = true := by decide +kernel
theorem am_cn_98 : am_nmok 98 := by first | decide +kernel | exact ⟨rfl, rfl, by decide +kernel⟩
set_option maxRecDepth 100000 in
theorem am_ck_99 : am_rks 99 = true := by decide +kernel
theorem am_cn_99 : am_nmok 99 := by first | decide +kernel | exact ⟨rfl, rfl, by decide +kernel⟩
set_option maxRecDepth 100000 in
theorem am_ck_100 : am_rks 100 = true := by decide +kernel
theorem am_cn_100 : am_nmok 100 := by first | decide +kernel | exact ⟨rfl, rfl, by decide +kernel⟩
set_option maxRecDepth 100000 in
theorem am_ck_101 : am_rks 101 = true := by decide +kernel
theorem am_cn_101 : am_nmok 101 := by first | decide +kernel | exact ⟨rfl, rfl, by decide +kernel⟩
set_option maxRecDepth 100000 in
theorem am_ck_102 : am_rks 102 = true := by decide +kernel
theorem am_cn_102 : am_nmok 102 := by first | decide +kernel | exact ⟨rfl, rfl, by decide +kernel⟩
set_option maxRecDepth 100000 in
theorem am_ck_103 : am_rks 103 = true := by decide +kernel
theorem am_cn_103 : am_nmok 103 := by first | decide +kernel | exact ⟨rfl, rfl, by decide +kernel⟩
set_option maxRecDepth 100000 in
theorem am_ck_104 : am_rks 104 = true := by decide +kernel
theorem am_cn_104 : am_nmok 104 := by first | decide +kernel | exact ⟨rfl, rfl, by decide +kernel⟩
set_option maxRecDepth 100000 in
theorem am_ck_105 : am_rks 105 = true := by decide +kernel
theorem am_cn_105 : am_nmok 105 := by first | decide +kernel | exact ⟨rfl, rfl, by decide +kernel⟩
set_option maxRecDepth 100000 in
theorem am_ck_106 : am_rks 106 = true := by decide +kernel
theorem am_cn_106 : am_nmok 106 := by first | decide +kernel | exact ⟨rfl, rfl, by decide +kernel⟩
set_option maxRecDepth 100000 in
theorem am_ck_107 : am_rks 107 = true := by decide +kernel
theorem am_cn_107 : am_nmok 107 := by first | decide +kernel | exact ⟨rfl, rfl, by decide +kernel⟩
set_option maxRecDepth 100000 in
theorem am_ck_108 : am_rks 108 = true := by decide +kernel
theorem am_cn_108 : am_nmok 108 := by first | decide +kernel | exact ⟨rfl, rfl, by decide +kernel⟩
set_option maxRecDepth 100000 in
theorem am_ck_109 : am_rks 109 = true := by decide +kernel
theorem am_cn_109 : am_nmok 109 := by first | decide +kernel | exact ⟨rfl, rfl, by decide +kernel⟩
set_option maxRecDepth 100000 in
theorem am_ck_110 : am_rks 110 = true := by decide +kernel
theorem am_cn_110 : am_nmok 110 := by first | decide +kernel | exact ⟨rfl, rfl, by decide +kernel⟩
set_option maxRecDepth 100000 in
theorem am_ck_111 : am_rks 111 = true := by decide +kernel
theorem am_cn_111 : am_nmok 111 := by first | decide +kernel | exact ⟨rfl, rfl, by decide +kernel⟩
set_option maxRecDepth 100000 in
theorem am_ck_112 : am_rks 112 = true := by decide +kernel
theorem am_cn_112 : am_nmok 112 := by first | decide +kernel | exact ⟨rfl, rfl, by decide +kernel⟩
set_option maxRecDepth 100000 in
theorem am_ck_113 : am_rks 113 = true := by decide +kernel
theorem am_cn_113 : am_nmok 113 := by first | decide +kernel | exact ⟨rfl, rfl, by decide +kernel⟩
set_option maxRecDepth 100000 in
theorem am_ck_114 : am_rks 114 = true := by decide +kernel
theorem am_cn_114 : am_nmok 114 := by first | decide +kernel | exact ⟨rfl, rfl, by decide +kernel⟩
set_option maxRecDepth 100000 in
theorem am_ck_115 : am_rks 115 = true := by decide +kernel
theorem am_cn_115 : am_nmok 115 := by first | decide +kernel | exact ⟨rfl, rfl, by decide +kernel⟩
set_option maxRecDepth 100000 in
theorem am_ck_116 : am_rks 116 = true := by decide +kernel
theorem am_cn_116 : am_nmok 116 := by first | decide +kernel | exact ⟨rfl, rfl, by decide +kernel⟩
set_option maxRecDepth 100000 in
theorem am_ck_117 : am_rks 117 = true := by decide +kernel
theorem am_cn_117 : am_nmok 117 := by first | decide +kernel | exact ⟨rfl, rfl, by decide +kernel⟩
set_option maxRecDepth 100000 in
theorem am_ck_118 : am_rks 118 = true := by decide +kernel
theorem am_cn_118 : am_nmok 118 := by first | decide +kernel | exact ⟨rfl, rfl, by decide +kernel⟩
set_option maxRecDepth 100000 in
theorem am_ck_119 : am_rks 119 = true := by decide +kernel
theorem am_cn_119 : am_nmok 119 := by first | decide +kernel | exact ⟨rfl, rfl, by decide +kernel⟩
set_option maxRecDepth 100000 in
theorem am_ck_120 : am_rks 120 = true := by decide +kernel
theorem am_cn_120 : am_nmok 120 := by first | decide +kernel | exact ⟨rfl, rfl, by decide +kernel⟩
set_option maxRecDepth 100000 in
theorem am_ck_121 : am_rks 121 = true := by decide +kernel
theorem am_cn_121 : am_nmok 121 := by first | decide +kernel | exact ⟨rfl, rfl, by decide +kernel⟩
set_option maxRecDepth 100000 in
theorem am_ck_122 : am_rks 122 = true := by decide +kernel
theorem am_cn_122 : am_nmok 122 := by first | decide +kernel | exact ⟨rfl, rfl, by decide +kernel⟩
set_option maxRecDepth 100000 in
theorem am_ck_123 : am_rks 123 = true := by decide +kernel
theorem am_cn_123 : am_nmok 123 := by first | decide +kernel | exact ⟨rfl, rfl, by decide +kernel⟩
set_option maxRecDepth 100000 in
theorem am_ck_124 : am_rks 124 = true := by decide +kernel
theorem am_cn_124 : am_nmok 124 := by first | decide +kernel | exact ⟨rfl, rfl, by decide +kernel⟩
set_option maxRecDepth 100000 in
theorem am_ck_125 : am_rks 125 = true := by decide +kernel
theorem am_cn_125 : am_nmok 125 := by first | decide +kernel | exact ⟨rfl, rfl, by decide +kernel⟩
