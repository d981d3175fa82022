/-! ===== checks of the law's rows ===== -/
set_option maxRecDepth 100000 in
theorem am_lk_16 : am_rkl (am_m 247) false (am_cd 247) 800 cd_CartLaw_law_16 = true := by decide +kernel
set_option maxRecDepth 100000 in
theorem am_lk_17 : am_rkl (am_m 247) false (am_cd 247) 850 cd_CartLaw_law_17 = true := by decide +kernel
set_option maxRecDepth 100000 in
theorem am_lk_18 : am_rkl (am_m 247) false (am_cd 247) 900 cd_CartLaw_law_18 = true := by decide +kernel
set_option maxRecDepth 100000 in
theorem am_ck_247 : am_rks 247 = true := am_rkl_app (l1 := cd_CartLaw_law_0) am_lk_0 (am_rkl_app (l1 := cd_CartLaw_law_1) am_lk_1 (am_rkl_app (l1 := cd_CartLaw_law_2) am_lk_2 (am_rkl_app (l1 := cd_CartLaw_law_3) am_lk_3 (am_rkl_app (l1 := cd_CartLaw_law_4) am_lk_4 (am_rkl_app (l1 := cd_CartLaw_law_5) am_lk_5 (am_rkl_app (l1 := cd_CartLaw_law_6) am_lk_6 (am_rkl_app (l1 := cd_CartLaw_law_7) am_lk_7 (am_rkl_app (l1 := cd_CartLaw_law_8) am_lk_8 (am_rkl_app (l1 := cd_CartLaw_law_9) am_lk_9 (am_rkl_app (l1 := cd_CartLaw_law_10) am_lk_10 (am_rkl_app (l1 := cd_CartLaw_law_11) am_lk_11 (am_rkl_app (l1 := cd_CartLaw_law_12) am_lk_12 (am_rkl_app (l1 := cd_CartLaw_law_13) am_lk_13 (am_rkl_app (l1 := cd_CartLaw_law_14) am_lk_14 (am_rkl_app (l1 := cd_CartLaw_law_15) am_lk_15 (am_rkl_app (l1 := cd_CartLaw_law_16) am_lk_16 (am_rkl_app (l1 := cd_CartLaw_law_17) am_lk_17 (am_lk_18))))))))))))))))))
theorem am_ck_all : ∀ y, y < 249 → am_rks y = true := fun y h => match y, h with
  | 0, _ => am_ck_0
  | 1, _ => am_ck_1
  | 2, _ => am_ck_2
  | 3, _ => am_ck_3
  | 4, _ => am_ck_4
  | 5, _ => am_ck_5
  | 6, _ => am_ck_6
  | 7, _ => am_ck_7
  | 8, _ => am_ck_8
  | 9, _ => am_ck_9
  | 10, _ => am_ck_10
  | 11, _ => am_ck_11
  | 12, _ => am_ck_12
  | 13, _ => am_ck_13
  | 14, _ => am_ck_14
  | 15, _ => am_ck_15
  | 16, _ => am_ck_16
  | 17, _ => am_ck_17
  | 18, _ => am_ck_18
  | 19, _ => am_ck_19
  | 20, _ => am_ck_20
  | 21, _ => am_ck_21
  | 22, _ => am_ck_22
  | 23, _ => am_ck_23
  | 24, _ => am_ck_24
  | 25, _ => am_ck_25
  | 26, _ => am_ck_26
  | 27, _ => am_ck_27
  | 28, _ => am_ck_28
  | 29, _ => am_ck_29
  | 30, _ => am_ck_30
  | 31, _ => am_ck_31
  | 32, _ => am_ck_32
  | 33, _ => am_ck_33
  | 34, _ => am_ck_34
  | 35, _ => am_ck_35
  | 36, _ => am_ck_36
  | 37, _ => am_ck_37
  | 38, _ => am_ck_38
  | 39, _ => am_ck_39
  | 40, _ => am_ck_40
  | 41, _ => am_ck_41
  | 42, _ => am_ck_42
  | 43, _ => am_ck_43
  | 44, _ => am_ck_44
  | 45, _ => am_ck_45
  | 46, _ => am_ck_46
  | 47, _ => am_ck_47
  | 48, _ => am_ck_48
  | 49, _ => am_ck_49
  | 50, _ => am_ck_50
  | 51, _ => am_ck_51
  | 52, _ => am_ck_52
  | 53, _ => am_ck_53
  | 54, _ => am_ck_54
  | 55, _ => am_ck_55
  | 56, _ => am_ck_56
  | 57, _ => am_ck_57
  | 58, _ => am_ck_58
  | 59, _ => am_ck_59
  | 60, _ => am_ck_60
  | 61, _ => am_ck_61
  | 62, _ => am_ck_62
  | 63, _ => am_ck_63
  | 64, _ => am_ck_64
  | 65, _ => am_ck_65
  | 66, _ => am_ck_66
  | 67, _ => am_ck_67
  | 68, _ => am_ck_68
  | 69, _ => am_ck_69
  | 70, _ => am_ck_70
  | 71, _ => am_ck_71
  | 72, _ => am_ck_72
  | 73, _ => am_ck_73
  | 74, _ => am_ck_74
  | 75, _ => am_ck_75
  | 76, _ => am_ck_76
  | 77, _ => am_ck_77
  | 78, _ => am_ck_78
  | 79, _ => am_ck_79
  | 80, _ => am_ck_80
  | 81, _ => am_ck_81
  | 82, _ => am_ck_82
  | 83, _ => am_ck_83
  | 84, _ => am_ck_84
  | 85, _ => am_ck_85
  | 86, _ => am_ck_86
  | 87, _ => am_ck_87
  | 88, _ => am_ck_88
  | 89, _ => am_ck_89
  | 90, _ => am_ck_90
  | 91, _ => am_ck_91
  | 92, _ => am_ck_92
  | 93, _ => am_ck_93
  | 94, _ => am_ck_94
  | 95, _ => am_ck_95
  | 96, _ => am_ck_96
  | 97, _ => am_ck_97
  | 98, _ => am_ck_98
  | 99, _ => am_ck_99
  | 100, _ => am_ck_100
  | 101, _ => am_ck_101
  | 102, _ => am_ck_102
  | 103, _ => am_ck_103
  | 104, _ => am_ck_104
  | 105, _ => am_ck_105
  | 106, _ => am_ck_106
  | 107, _ => am_ck_107
  | 108, _ => am_ck_108
  | 109, _ => am_ck_109
  | 110, _ => am_ck_110
  | 111, _ => am_ck_111
  | 112, _ => am_ck_112
  | 113, _ => am_ck_113
  | 114, _ => am_ck_114
  | 115, _ => am_ck_115
  | 116, _ => am_ck_116
  | 117, _ => am_ck_117
  | 118, _ => am_ck_118
  | 119, _ => am_ck_119
  | 120, _ => am_ck_120
  | 121, _ => am_ck_121
  | 122, _ => am_ck_122
  | 123, _ => am_ck_123
  | 124, _ => am_ck_124
  | 125, _ => am_ck_125
  | 126, _ => am_ck_126
  | 127, _ => am_ck_127
  | 128, _ => am_ck_128
  | 129, _ => am_ck_129
  | 130, _ => am_ck_130
  | 131, _ => am_ck_131
  | 132, _ => am_ck_132
  | 133, _ => am_ck_133
  | 134, _ => am_ck_134
  | 135, _ => am_ck_135
  | 136, _ => am_ck_136
  | 137, _ => am_ck_137
  | 138, _ => am_ck_138
  | 139, _ => am_ck_139
  | 140, _ => am_ck_140
  | 141, _ => am_ck_141
  | 142, _ => am_ck_142
  | 143, _ => am_ck_143
  | 144, _ => am_ck_144
  | 145, _ => am_ck_145
  | 146, _ => am_ck_146
  | 147, _ => am_ck_147
  | 148, _ => am_ck_148
  | 149, _ => am_ck_149
  | 150, _ => am_ck_150
  | 151, _ => am_ck_151
  | 152, _ => am_ck_152
  | 153, _ => am_ck_153
  | 154, _ => am_ck_154
  | 155, _ => am_ck_155
  | 156, _ => am_ck_156
  | 157, _ => am_ck_157
  | 158, _ => am_ck_158
  | 159, _ => am_ck_159
  | 160, _ => am_ck_160
  | 161, _ => am_ck_161
  | 162, _ => am_ck_162
  | 163, _ => am_ck_163
  | 164, _ => am_ck_164
  | 165, _ => am_ck_165
  | 166, _ => am_ck_166
  | 167, _ => am_ck_167
  | 168, _ => am_ck_168
  | 169, _ => am_ck_169
  | 170, _ => am_ck_170
  | 171, _ => am_ck_171
  | 172, _ => am_ck_172
  | 173, _ => am_ck_173
  | 174, _ => am_ck_174
  | 175, _ => am_ck_175
  | 176, _ => am_ck_176
  | 177, _ => am_ck_177
  | 178, _ => am_ck_178
  | 179, _ => am_ck_179
  | 180, _ => am_ck_180
  | 181, _ => am_ck_181
  | 182, _ => am_ck_182
  | 183, _ => am_ck_183
  | 184, _ => am_ck_184
  | 185, _ => am_ck_185
  | 186, _ => am_ck_186
  | 187, _ => am_ck_187
  | 188, _ => am_ck_188
  | 189, _ => am_ck_189
  | 190, _ => am_ck_190
  | 191, _ => am_ck_191
  | 192, _ => am_ck_192
  | 193, _ => am_ck_193
  | 194, _ => am_ck_194
  | 195, _ => am_ck_195
  | 196, _ => am_ck_196
  | 197, _ => am_ck_197
  | 198, _ => am_ck_198
  | 199, _ => am_ck_199
  | 200, _ => am_ck_200
  | 201, _ => am_ck_201
  | 202, _ => am_ck_202
  | 203, _ => am_ck_203
  | 204, _ => am_ck_204
  | 205, _ => am_ck_205
  | 206, _ => am_ck_206
  | 207, _ => am_ck_207
  | 208, _ => am_ck_208
  | 209, _ => am_ck_209
  | 210, _ => am_ck_210
  | 211, _ => am_ck_211
  | 212, _ => am_ck_212
  | 213, _ => am_ck_213
  | 214, _ => am_ck_214
  | 215, _ => am_ck_215
  | 216, _ => am_ck_216
  | 217, _ => am_ck_217
  | 218, _ => am_ck_218
  | 219, _ => am_ck_219
  | 220, _ => am_ck_220
  | 221, _ => am_ck_221
  | 222, _ => am_ck_222
  | 223, _ => am_ck_223
  | 224, _ => am_ck_224
  | 225, _ => am_ck_225
  | 226, _ => am_ck_226
  | 227, _ => am_ck_227
  | 228, _ => am_ck_228
  | 229, _ => am_ck_229
  | 230, _ => am_ck_230
  | 231, _ => am_ck_231
  | 232, _ => am_ck_232
  | 233, _ => am_ck_233
  | 234, _ => am_ck_234
  | 235, _ => am_ck_235
  | 236, _ => am_ck_236
  | 237, _ => am_ck_237
  | 238, _ => am_ck_238
  | 239, _ => am_ck_239
  | 240, _ => am_ck_240
  | 241, _ => am_ck_241
  | 242, _ => am_ck_242
  | 243, _ => am_ck_243
  | 244, _ => am_ck_244
  | 245, _ => am_ck_245
  | 246, _ => am_ck_246
  | 247, _ => am_ck_247
  | 248, _ => am_ck_248
  | n + 249, h => absurd h (by omega)
theorem am_cn_all : ∀ y, y < 249 → (am_m y).2.2.2.2.1 ≠ 13 → am_nmok y := fun y h => match y, h with
  | 0, _ => fun _ => am_cn_0
  | 1, _ => fun _ => am_cn_1
  | 2, _ => fun _ => am_cn_2
  | 3, _ => fun _ => am_cn_3
  | 4, _ => fun _ => am_cn_4
  | 5, _ => fun _ => am_cn_5
  | 6, _ => fun _ => am_cn_6
  | 7, _ => fun _ => am_cn_7
  | 8, _ => fun _ => am_cn_8
  | 9, _ => fun _ => am_cn_9
  | 10, _ => fun _ => am_cn_10
  | 11, _ => fun _ => am_cn_11
  | 12, _ => fun _ => am_cn_12
  | 13, _ => fun _ => am_cn_13
  | 14, _ => fun _ => am_cn_14
  | 15, _ => fun _ => am_cn_15
  | 16, _ => fun _ => am_cn_16
  | 17, _ => fun _ => am_cn_17
  | 18, _ => fun _ => am_cn_18
  | 19, _ => fun _ => am_cn_19
  | 20, _ => fun _ => am_cn_20
  | 21, _ => fun _ => am_cn_21
  | 22, _ => fun _ => am_cn_22
  | 23, _ => fun _ => am_cn_23
  | 24, _ => fun _ => am_cn_24
  | 25, _ => fun _ => am_cn_25
  | 26, _ => fun _ => am_cn_26
  | 27, _ => fun _ => am_cn_27
  | 28, _ => fun _ => am_cn_28
  | 29, _ => fun _ => am_cn_29
  | 30, _ => fun _ => am_cn_30
  | 31, _ => fun _ => am_cn_31
  | 32, _ => fun _ => am_cn_32
  | 33, _ => fun _ => am_cn_33
  | 34, _ => fun _ => am_cn_34
  | 35, _ => fun _ => am_cn_35
  | 36, _ => fun _ => am_cn_36
  | 37, _ => fun _ => am_cn_37
  | 38, _ => fun _ => am_cn_38
  | 39, _ => fun _ => am_cn_39
  | 40, _ => fun _ => am_cn_40
  | 41, _ => fun _ => am_cn_41
  | 42, _ => fun _ => am_cn_42
  | 43, _ => fun _ => am_cn_43
  | 44, _ => fun _ => am_cn_44
  | 45, _ => fun _ => am_cn_45
  | 46, _ => fun _ => am_cn_46
  | 47, _ => fun _ => am_cn_47
  | 48, _ => fun _ => am_cn_48
  | 49, _ => fun _ => am_cn_49
  | 50, _ => fun _ => am_cn_50
  | 51, _ => fun _ => am_cn_51
  | 52, _ => fun _ => am_cn_52
  | 53, _ => fun _ => am_cn_53
  | 54, _ => fun _ => am_cn_54
  | 55, _ => fun _ => am_cn_55
  | 56, _ => fun _ => am_cn_56
  | 57, _ => fun _ => am_cn_57
  | 58, _ => fun _ => am_cn_58
  | 59, _ => fun _ => am_cn_59
  | 60, _ => fun _ => am_cn_60
  | 61, _ => fun _ => am_cn_61
  | 62, _ => fun _ => am_cn_62
  | 63, _ => fun _ => am_cn_63
  | 64, _ => fun _ => am_cn_64
  | 65, _ => fun _ => am_cn_65
  | 66, _ => fun _ => am_cn_66
  | 67, _ => fun _ => am_cn_67
  | 68, _ => fun _ => am_cn_68
  | 69, _ => fun _ => am_cn_69
  | 70, _ => fun _ => am_cn_70
  | 71, _ => fun _ => am_cn_71
  | 72, _ => fun _ => am_cn_72
  | 73, _ => fun _ => am_cn_73
  | 74, _ => fun _ => am_cn_74
  | 75, _ => fun _ => am_cn_75
  | 76, _ => fun _ => am_cn_76
  | 77, _ => fun _ => am_cn_77
  | 78, _ => fun _ => am_cn_78
  | 79, _ => fun _ => am_cn_79
  | 80, _ => fun _ => am_cn_80
  | 81, _ => fun _ => am_cn_81
  | 82, _ => fun _ => am_cn_82
  | 83, _ => fun _ => am_cn_83
  | 84, _ => fun _ => am_cn_84
  | 85, _ => fun _ => am_cn_85
  | 86, _ => fun _ => am_cn_86
  | 87, _ => fun _ => am_cn_87
  | 88, _ => fun _ => am_cn_88
  | 89, _ => fun _ => am_cn_89
  | 90, _ => fun _ => am_cn_90
  | 91, _ => fun _ => am_cn_91
  | 92, _ => fun _ => am_cn_92
  | 93, _ => fun _ => am_cn_93
  | 94, _ => fun _ => am_cn_94
  | 95, _ => fun _ => am_cn_95
  | 96, _ => fun _ => am_cn_96
  | 97, _ => fun _ => am_cn_97
  | 98, _ => fun _ => am_cn_98
  | 99, _ => fun _ => am_cn_99
  | 100, _ => fun _ => am_cn_100
  | 101, _ => fun _ => am_cn_101
  | 102, _ => fun _ => am_cn_102
  | 103, _ => fun _ => am_cn_103
  | 104, _ => fun _ => am_cn_104
  | 105, _ => fun _ => am_cn_105
  | 106, _ => fun _ => am_cn_106
  | 107, _ => fun _ => am_cn_107
  | 108, _ => fun _ => am_cn_108
  | 109, _ => fun _ => am_cn_109
  | 110, _ => fun _ => am_cn_110
  | 111, _ => fun _ => am_cn_111
  | 112, _ => fun _ => am_cn_112
  | 113, _ => fun _ => am_cn_113
  | 114, _ => fun _ => am_cn_114
  | 115, _ => fun _ => am_cn_115
  | 116, _ => fun _ => am_cn_116
  | 117, _ => fun _ => am_cn_117
  | 118, _ => fun _ => am_cn_118
  | 119, _ => fun _ => am_cn_119
  | 120, _ => fun _ => am_cn_120
  | 121, _ => fun _ => am_cn_121
  | 122, _ => fun _ => am_cn_122
  | 123, _ => fun _ => am_cn_123
  | 124, _ => fun _ => am_cn_124
  | 125, _ => fun _ => am_cn_125
  | 126, _ => fun _ => am_cn_126
  | 127, _ => fun _ => am_cn_127
  | 128, _ => fun _ => am_cn_128
  | 129, _ => fun _ => am_cn_129
  | 130, _ => fun _ => am_cn_130
  | 131, _ => fun _ => am_cn_131
  | 132, _ => fun _ => am_cn_132
  | 133, _ => fun _ => am_cn_133
  | 134, _ => fun _ => am_cn_134
  | 135, _ => fun _ => am_cn_135
  | 136, _ => fun _ => am_cn_136
  | 137, _ => fun _ => am_cn_137
  | 138, _ => fun _ => am_cn_138
  | 139, _ => fun _ => am_cn_139
  | 140, _ => fun _ => am_cn_140
  | 141, _ => fun _ => am_cn_141
  | 142, _ => fun _ => am_cn_142
  | 143, _ => fun _ => am_cn_143
  | 144, _ => fun _ => am_cn_144
  | 145, _ => fun _ => am_cn_145
  | 146, _ => fun _ => am_cn_146
  | 147, _ => fun _ => am_cn_147
  | 148, _ => fun _ => am_cn_148
  | 149, _ => fun _ => am_cn_149
  | 150, _ => fun _ => am_cn_150
  | 151, _ => fun _ => am_cn_151
  | 152, _ => fun _ => am_cn_152
  | 153, _ => fun _ => am_cn_153
  | 154, _ => fun _ => am_cn_154
  | 155, _ => fun _ => am_cn_155
  | 156, _ => fun _ => am_cn_156
  | 157, _ => fun _ => am_cn_157
  | 158, _ => fun _ => am_cn_158
  | 159, _ => fun _ => am_cn_159
  | 160, _ => fun _ => am_cn_160
  | 161, _ => fun _ => am_cn_161
  | 162, _ => fun _ => am_cn_162
  | 163, _ => fun _ => am_cn_163
  | 164, _ => fun _ => am_cn_164
  | 165, _ => fun _ => am_cn_165
  | 166, _ => fun _ => am_cn_166
  | 167, _ => fun _ => am_cn_167
  | 168, _ => fun _ => am_cn_168
  | 169, _ => fun _ => am_cn_169
  | 170, _ => fun _ => am_cn_170
  | 171, _ => fun _ => am_cn_171
  | 172, _ => fun _ => am_cn_172
  | 173, _ => fun _ => am_cn_173
  | 174, _ => fun _ => am_cn_174
  | 175, _ => fun _ => am_cn_175
  | 176, _ => fun _ => am_cn_176
  | 177, _ => fun _ => am_cn_177
  | 178, _ => fun _ => am_cn_178
  | 179, _ => fun _ => am_cn_179
  | 180, _ => fun _ => am_cn_180
  | 181, _ => fun _ => am_cn_181
  | 182, _ => fun _ => am_cn_182
  | 183, _ => fun _ => am_cn_183
  | 184, _ => fun _ => am_cn_184
  | 185, _ => fun _ => am_cn_185
  | 186, _ => fun _ => am_cn_186
  | 187, _ => fun _ => am_cn_187
  | 188, _ => fun _ => am_cn_188
  | 189, _ => fun _ => am_cn_189
  | 190, _ => fun _ => am_cn_190
  | 191, _ => fun _ => am_cn_191
  | 192, _ => fun _ => am_cn_192
  | 193, _ => fun _ => am_cn_193
  | 194, _ => fun _ => am_cn_194
  | 195, _ => fun _ => am_cn_195
  | 196, _ => fun _ => am_cn_196
  | 197, _ => fun _ => am_cn_197
  | 198, _ => fun _ => am_cn_198
  | 199, _ => fun _ => am_cn_199
  | 200, _ => fun _ => am_cn_200
  | 201, _ => fun _ => am_cn_201
  | 202, _ => fun _ => am_cn_202
  | 203, _ => fun _ => am_cn_203
  | 204, _ => fun _ => am_cn_204
  | 205, _ => fun _ => am_cn_205
  | 206, _ => fun _ => am_cn_206
  | 207, _ => fun _ => am_cn_207
  | 208, _ => fun _ => am_cn_208
  | 209, _ => fun _ => am_cn_209
  | 210, _ => fun _ => am_cn_210
  | 211, _ => fun _ => am_cn_211
  | 212, _ => fun _ => am_cn_212
  | 213, _ => fun _ => am_cn_213
  | 214, _ => fun _ => am_cn_214
  | 215, _ => fun _ => am_cn_215
  | 216, _ => fun _ => am_cn_216
  | 217, _ => fun _ => am_cn_217
  | 218, _ => fun _ => am_cn_218
  | 219, _ => fun _ => am_cn_219
  | 220, _ => fun _ => am_cn_220
  | 221, _ => fun _ => am_cn_221
  | 222, _ => fun _ => am_cn_222
  | 223, _ => fun _ => am_cn_223
  | 224, _ => fun _ => am_cn_224
  | 225, _ => fun _ => am_cn_225
  | 226, _ => fun _ => am_cn_226
  | 227, _ => fun _ => am_cn_227
  | 228, _ => fun _ => am_cn_228
  | 229, _ => fun _ => am_cn_229
  | 230, _ => fun _ => am_cn_230
  | 231, _ => fun _ => am_cn_231
  | 232, _ => fun _ => am_cn_232
  | 233, _ => fun _ => am_cn_233
  | 234, _ => fun _ => am_cn_234
  | 235, _ => fun _ => am_cn_235
  | 236, _ => fun _ => am_cn_236
  | 237, _ => fun _ => am_cn_237
  | 238, _ => fun _ => am_cn_238
  | 239, _ => fun _ => am_cn_239
  | 240, _ => fun _ => am_cn_240
  | 241, _ => fun _ => am_cn_241
  | 242, _ => fun _ => am_cn_242
  | 243, _ => fun _ => am_cn_243
  | 244, _ => fun _ => am_cn_244
  | 245, _ => fun _ => am_cn_245
  | 246, _ => fun _ => am_cn_246
  | 247, _ => fun h => absurd rfl h
  | 248, _ => fun _ => am_cn_248
  | n + 249, h => absurd h (by omega)
