/-! ===== the class: states copied, by the machine ===== -/
def PBt : List (Nat × Int × Nat) := [(0, 0, 1), (0, 1, 4), (0, 2, 16), (0, 3, 18), (0, 4, 23), (1, 1, 2), (1, 2, 3), (4, 1, 5), (4, 2, 6), (4, 3, 7), (4, 5, 8), (4, 6, 9), (4, 7, 10), (4, 8, 11), (4, 9, 12), (4, 10, 13), (4, 11, 14), (4, 12, 15), (16, 2, 17), (18, 1, 19), (18, 2, 20), (18, 3, 21), (18, 4, 22), (23, 1, 24), (23, 2, 25), (23, 3, 26), (23, 4, 27), (23, 5, 28)]
/-- where the references of a state lead -/
def PB (P : am_P) (b : Nat) : Prop := ∀ q ∈ PBt, P (b + q.1) q.2.1 = b + q.2.2
theorem pz_72_0 {P : am_P} (h : PB P 72) : P 72 0 = 73 := h (0, 0, 1) (by decide +kernel)
theorem pz_72_1 {P : am_P} (h : PB P 72) : P 72 1 = 76 := h (0, 1, 4) (by decide +kernel)
theorem pz_72_2 {P : am_P} (h : PB P 72) : P 72 2 = 88 := h (0, 2, 16) (by decide +kernel)
theorem pz_72_3 {P : am_P} (h : PB P 72) : P 72 3 = 90 := h (0, 3, 18) (by decide +kernel)
theorem pz_72_4 {P : am_P} (h : PB P 72) : P 72 4 = 95 := h (0, 4, 23) (by decide +kernel)
theorem pz_73_1 {P : am_P} (h : PB P 72) : P 73 1 = 74 := h (1, 1, 2) (by decide +kernel)
theorem pz_73_2 {P : am_P} (h : PB P 72) : P 73 2 = 75 := h (1, 2, 3) (by decide +kernel)
theorem pz_76_1 {P : am_P} (h : PB P 72) : P 76 1 = 77 := h (4, 1, 5) (by decide +kernel)
theorem pz_76_2 {P : am_P} (h : PB P 72) : P 76 2 = 78 := h (4, 2, 6) (by decide +kernel)
theorem pz_76_3 {P : am_P} (h : PB P 72) : P 76 3 = 79 := h (4, 3, 7) (by decide +kernel)
theorem pz_76_5 {P : am_P} (h : PB P 72) : P 76 5 = 80 := h (4, 5, 8) (by decide +kernel)
theorem pz_76_6 {P : am_P} (h : PB P 72) : P 76 6 = 81 := h (4, 6, 9) (by decide +kernel)
theorem pz_76_7 {P : am_P} (h : PB P 72) : P 76 7 = 82 := h (4, 7, 10) (by decide +kernel)
theorem pz_76_8 {P : am_P} (h : PB P 72) : P 76 8 = 83 := h (4, 8, 11) (by decide +kernel)
theorem pz_76_9 {P : am_P} (h : PB P 72) : P 76 9 = 84 := h (4, 9, 12) (by decide +kernel)
theorem pz_76_10 {P : am_P} (h : PB P 72) : P 76 10 = 85 := h (4, 10, 13) (by decide +kernel)
theorem pz_76_11 {P : am_P} (h : PB P 72) : P 76 11 = 86 := h (4, 11, 14) (by decide +kernel)
theorem pz_76_12 {P : am_P} (h : PB P 72) : P 76 12 = 87 := h (4, 12, 15) (by decide +kernel)
theorem pz_88_2 {P : am_P} (h : PB P 72) : P 88 2 = 89 := h (16, 2, 17) (by decide +kernel)
theorem pz_90_1 {P : am_P} (h : PB P 72) : P 90 1 = 91 := h (18, 1, 19) (by decide +kernel)
theorem pz_90_2 {P : am_P} (h : PB P 72) : P 90 2 = 92 := h (18, 2, 20) (by decide +kernel)
theorem pz_90_3 {P : am_P} (h : PB P 72) : P 90 3 = 93 := h (18, 3, 21) (by decide +kernel)
theorem pz_90_4 {P : am_P} (h : PB P 72) : P 90 4 = 94 := h (18, 4, 22) (by decide +kernel)
theorem pz_95_1 {P : am_P} (h : PB P 72) : P 95 1 = 96 := h (23, 1, 24) (by decide +kernel)
theorem pz_95_2 {P : am_P} (h : PB P 72) : P 95 2 = 97 := h (23, 2, 25) (by decide +kernel)
theorem pz_95_3 {P : am_P} (h : PB P 72) : P 95 3 = 98 := h (23, 3, 26) (by decide +kernel)
theorem pz_95_4 {P : am_P} (h : PB P 72) : P 95 4 = 99 := h (23, 4, 27) (by decide +kernel)
theorem pz_95_5 {P : am_P} (h : PB P 72) : P 95 5 = 100 := h (23, 5, 28) (by decide +kernel)
theorem pz_101_0 {P : am_P} (h : PB P 101) : P 101 0 = 102 := h (0, 0, 1) (by decide +kernel)
theorem pz_101_1 {P : am_P} (h : PB P 101) : P 101 1 = 105 := h (0, 1, 4) (by decide +kernel)
theorem pz_101_2 {P : am_P} (h : PB P 101) : P 101 2 = 117 := h (0, 2, 16) (by decide +kernel)
theorem pz_101_3 {P : am_P} (h : PB P 101) : P 101 3 = 119 := h (0, 3, 18) (by decide +kernel)
theorem pz_101_4 {P : am_P} (h : PB P 101) : P 101 4 = 124 := h (0, 4, 23) (by decide +kernel)
theorem pz_102_1 {P : am_P} (h : PB P 101) : P 102 1 = 103 := h (1, 1, 2) (by decide +kernel)
theorem pz_102_2 {P : am_P} (h : PB P 101) : P 102 2 = 104 := h (1, 2, 3) (by decide +kernel)
theorem pz_105_1 {P : am_P} (h : PB P 101) : P 105 1 = 106 := h (4, 1, 5) (by decide +kernel)
theorem pz_105_2 {P : am_P} (h : PB P 101) : P 105 2 = 107 := h (4, 2, 6) (by decide +kernel)
theorem pz_105_3 {P : am_P} (h : PB P 101) : P 105 3 = 108 := h (4, 3, 7) (by decide +kernel)
theorem pz_105_5 {P : am_P} (h : PB P 101) : P 105 5 = 109 := h (4, 5, 8) (by decide +kernel)
theorem pz_105_6 {P : am_P} (h : PB P 101) : P 105 6 = 110 := h (4, 6, 9) (by decide +kernel)
theorem pz_105_7 {P : am_P} (h : PB P 101) : P 105 7 = 111 := h (4, 7, 10) (by decide +kernel)
theorem pz_105_8 {P : am_P} (h : PB P 101) : P 105 8 = 112 := h (4, 8, 11) (by decide +kernel)
theorem pz_105_9 {P : am_P} (h : PB P 101) : P 105 9 = 113 := h (4, 9, 12) (by decide +kernel)
theorem pz_105_10 {P : am_P} (h : PB P 101) : P 105 10 = 114 := h (4, 10, 13) (by decide +kernel)
theorem pz_105_11 {P : am_P} (h : PB P 101) : P 105 11 = 115 := h (4, 11, 14) (by decide +kernel)
theorem pz_105_12 {P : am_P} (h : PB P 101) : P 105 12 = 116 := h (4, 12, 15) (by decide +kernel)
theorem pz_117_2 {P : am_P} (h : PB P 101) : P 117 2 = 118 := h (16, 2, 17) (by decide +kernel)
theorem pz_119_1 {P : am_P} (h : PB P 101) : P 119 1 = 120 := h (18, 1, 19) (by decide +kernel)
theorem pz_119_2 {P : am_P} (h : PB P 101) : P 119 2 = 121 := h (18, 2, 20) (by decide +kernel)
theorem pz_119_3 {P : am_P} (h : PB P 101) : P 119 3 = 122 := h (18, 3, 21) (by decide +kernel)
theorem pz_119_4 {P : am_P} (h : PB P 101) : P 119 4 = 123 := h (18, 4, 22) (by decide +kernel)
theorem pz_124_1 {P : am_P} (h : PB P 101) : P 124 1 = 125 := h (23, 1, 24) (by decide +kernel)
theorem pz_124_2 {P : am_P} (h : PB P 101) : P 124 2 = 126 := h (23, 2, 25) (by decide +kernel)
theorem pz_124_3 {P : am_P} (h : PB P 101) : P 124 3 = 127 := h (23, 3, 26) (by decide +kernel)
theorem pz_124_4 {P : am_P} (h : PB P 101) : P 124 4 = 128 := h (23, 4, 27) (by decide +kernel)
theorem pz_124_5 {P : am_P} (h : PB P 101) : P 124 5 = 129 := h (23, 5, 28) (by decide +kernel)
theorem pz_130_0 {P : am_P} (h : PB P 130) : P 130 0 = 131 := h (0, 0, 1) (by decide +kernel)
theorem pz_130_1 {P : am_P} (h : PB P 130) : P 130 1 = 134 := h (0, 1, 4) (by decide +kernel)
theorem pz_130_2 {P : am_P} (h : PB P 130) : P 130 2 = 146 := h (0, 2, 16) (by decide +kernel)
theorem pz_130_3 {P : am_P} (h : PB P 130) : P 130 3 = 148 := h (0, 3, 18) (by decide +kernel)
theorem pz_130_4 {P : am_P} (h : PB P 130) : P 130 4 = 153 := h (0, 4, 23) (by decide +kernel)
theorem pz_131_1 {P : am_P} (h : PB P 130) : P 131 1 = 132 := h (1, 1, 2) (by decide +kernel)
theorem pz_131_2 {P : am_P} (h : PB P 130) : P 131 2 = 133 := h (1, 2, 3) (by decide +kernel)
theorem pz_134_1 {P : am_P} (h : PB P 130) : P 134 1 = 135 := h (4, 1, 5) (by decide +kernel)
theorem pz_134_2 {P : am_P} (h : PB P 130) : P 134 2 = 136 := h (4, 2, 6) (by decide +kernel)
theorem pz_134_3 {P : am_P} (h : PB P 130) : P 134 3 = 137 := h (4, 3, 7) (by decide +kernel)
theorem pz_134_5 {P : am_P} (h : PB P 130) : P 134 5 = 138 := h (4, 5, 8) (by decide +kernel)
theorem pz_134_6 {P : am_P} (h : PB P 130) : P 134 6 = 139 := h (4, 6, 9) (by decide +kernel)
theorem pz_134_7 {P : am_P} (h : PB P 130) : P 134 7 = 140 := h (4, 7, 10) (by decide +kernel)
theorem pz_134_8 {P : am_P} (h : PB P 130) : P 134 8 = 141 := h (4, 8, 11) (by decide +kernel)
theorem pz_134_9 {P : am_P} (h : PB P 130) : P 134 9 = 142 := h (4, 9, 12) (by decide +kernel)
theorem pz_134_10 {P : am_P} (h : PB P 130) : P 134 10 = 143 := h (4, 10, 13) (by decide +kernel)
theorem pz_134_11 {P : am_P} (h : PB P 130) : P 134 11 = 144 := h (4, 11, 14) (by decide +kernel)
theorem pz_134_12 {P : am_P} (h : PB P 130) : P 134 12 = 145 := h (4, 12, 15) (by decide +kernel)
theorem pz_146_2 {P : am_P} (h : PB P 130) : P 146 2 = 147 := h (16, 2, 17) (by decide +kernel)
theorem pz_148_1 {P : am_P} (h : PB P 130) : P 148 1 = 149 := h (18, 1, 19) (by decide +kernel)
theorem pz_148_2 {P : am_P} (h : PB P 130) : P 148 2 = 150 := h (18, 2, 20) (by decide +kernel)
theorem pz_148_3 {P : am_P} (h : PB P 130) : P 148 3 = 151 := h (18, 3, 21) (by decide +kernel)
theorem pz_148_4 {P : am_P} (h : PB P 130) : P 148 4 = 152 := h (18, 4, 22) (by decide +kernel)
theorem pz_153_1 {P : am_P} (h : PB P 130) : P 153 1 = 154 := h (23, 1, 24) (by decide +kernel)
theorem pz_153_2 {P : am_P} (h : PB P 130) : P 153 2 = 155 := h (23, 2, 25) (by decide +kernel)
theorem pz_153_3 {P : am_P} (h : PB P 130) : P 153 3 = 156 := h (23, 3, 26) (by decide +kernel)
theorem pz_153_4 {P : am_P} (h : PB P 130) : P 153 4 = 157 := h (23, 4, 27) (by decide +kernel)
theorem pz_153_5 {P : am_P} (h : PB P 130) : P 153 5 = 158 := h (23, 5, 28) (by decide +kernel)
theorem pz_159_0 {P : am_P} (h : PB P 159) : P 159 0 = 160 := h (0, 0, 1) (by decide +kernel)
theorem pz_159_1 {P : am_P} (h : PB P 159) : P 159 1 = 163 := h (0, 1, 4) (by decide +kernel)
theorem pz_159_2 {P : am_P} (h : PB P 159) : P 159 2 = 175 := h (0, 2, 16) (by decide +kernel)
theorem pz_159_3 {P : am_P} (h : PB P 159) : P 159 3 = 177 := h (0, 3, 18) (by decide +kernel)
theorem pz_159_4 {P : am_P} (h : PB P 159) : P 159 4 = 182 := h (0, 4, 23) (by decide +kernel)
theorem pz_160_1 {P : am_P} (h : PB P 159) : P 160 1 = 161 := h (1, 1, 2) (by decide +kernel)
theorem pz_160_2 {P : am_P} (h : PB P 159) : P 160 2 = 162 := h (1, 2, 3) (by decide +kernel)
theorem pz_163_1 {P : am_P} (h : PB P 159) : P 163 1 = 164 := h (4, 1, 5) (by decide +kernel)
theorem pz_163_2 {P : am_P} (h : PB P 159) : P 163 2 = 165 := h (4, 2, 6) (by decide +kernel)
theorem pz_163_3 {P : am_P} (h : PB P 159) : P 163 3 = 166 := h (4, 3, 7) (by decide +kernel)
theorem pz_163_5 {P : am_P} (h : PB P 159) : P 163 5 = 167 := h (4, 5, 8) (by decide +kernel)
theorem pz_163_6 {P : am_P} (h : PB P 159) : P 163 6 = 168 := h (4, 6, 9) (by decide +kernel)
theorem pz_163_7 {P : am_P} (h : PB P 159) : P 163 7 = 169 := h (4, 7, 10) (by decide +kernel)
theorem pz_163_8 {P : am_P} (h : PB P 159) : P 163 8 = 170 := h (4, 8, 11) (by decide +kernel)
theorem pz_163_9 {P : am_P} (h : PB P 159) : P 163 9 = 171 := h (4, 9, 12) (by decide +kernel)
theorem pz_163_10 {P : am_P} (h : PB P 159) : P 163 10 = 172 := h (4, 10, 13) (by decide +kernel)
theorem pz_163_11 {P : am_P} (h : PB P 159) : P 163 11 = 173 := h (4, 11, 14) (by decide +kernel)
theorem pz_163_12 {P : am_P} (h : PB P 159) : P 163 12 = 174 := h (4, 12, 15) (by decide +kernel)
theorem pz_175_2 {P : am_P} (h : PB P 159) : P 175 2 = 176 := h (16, 2, 17) (by decide +kernel)
theorem pz_177_1 {P : am_P} (h : PB P 159) : P 177 1 = 178 := h (18, 1, 19) (by decide +kernel)
theorem pz_177_2 {P : am_P} (h : PB P 159) : P 177 2 = 179 := h (18, 2, 20) (by decide +kernel)
theorem pz_177_3 {P : am_P} (h : PB P 159) : P 177 3 = 180 := h (18, 3, 21) (by decide +kernel)
theorem pz_177_4 {P : am_P} (h : PB P 159) : P 177 4 = 181 := h (18, 4, 22) (by decide +kernel)
theorem pz_182_1 {P : am_P} (h : PB P 159) : P 182 1 = 183 := h (23, 1, 24) (by decide +kernel)
theorem pz_182_2 {P : am_P} (h : PB P 159) : P 182 2 = 184 := h (23, 2, 25) (by decide +kernel)
theorem pz_182_3 {P : am_P} (h : PB P 159) : P 182 3 = 185 := h (23, 3, 26) (by decide +kernel)
theorem pz_182_4 {P : am_P} (h : PB P 159) : P 182 4 = 186 := h (23, 4, 27) (by decide +kernel)
theorem pz_182_5 {P : am_P} (h : PB P 159) : P 182 5 = 187 := h (23, 5, 28) (by decide +kernel)
theorem r_Marks_become_10_72 {d N : Nat} {P : am_P} {H : am_H}  (hP : PZ P) (hB : PB P 72) : am_R (d + 1) 168 [am_r 11, am_r 73] (N, P, H) none (N, P, bcMarks H 11 73) := by
  refine am_en1 (d := d + 0) (ml := 2) (ls := [_, _]) cq_Marks_become rfl (Nat.le_of_ble_eq_true rfl) rfl ?_
  refine st_aload_n rfl rfl (by decide) ?_
  refine st_aload_n rfl rfl (by decide) ?_
  refine st_getI (kk := 0) rfl rfl (by decide) rfl ?_
  refine st_putI (kk := 0) rfl rfl rfl rfl ?_
  refine st_aload_n rfl rfl (by decide) ?_
  refine st_getR (kk := 1) rfl rfl rfl (pz_73_1 hB) rfl ?_
  refine st_iconst rfl ?_
  refine st_aload_n rfl rfl (by decide) ?_
  refine st_getR (kk := 1) rfl rfl rfl (pz_11_1 hP) rfl ?_
  refine st_iconst rfl ?_
  refine st_sipush rfl ?_
  refine st_copy rfl rfl rfl (Or.inl rfl) (by omega) (by omega) (by omega) (by omega) (by omega) (Nat.le_of_ble_eq_true rfl) ?_
  refine st_aload_n rfl rfl (by decide) ?_
  refine st_getR (kk := 2) rfl rfl rfl (pz_73_2 hB) rfl ?_
  refine st_iconst rfl ?_
  refine st_aload_n rfl rfl (by decide) ?_
  refine st_getR (kk := 2) rfl rfl rfl (pz_11_2 hP) rfl ?_
  refine st_iconst rfl ?_
  refine st_sipush rfl ?_
  refine st_copy rfl rfl rfl (Or.inr rfl) (by omega) (by omega) (by omega) (by omega) (by omega) (Nat.le_of_ble_eq_true rfl) ?_
  refine st_ret rfl ?_
  exact ⟨rfl, rfl⟩
theorem r_Stacks_become_10_72 {d N : Nat} {P : am_P} {H : am_H}  (hP : PZ P) (hB : PB P 72) : am_R (d + 1) 227 [am_r 14, am_r 76] (N, P, H) none (N, P, bcStacks H 14 76) := by
  refine am_en1 (d := d + 0) (ml := 2) (ls := [_, _]) cq_Stacks_become rfl (Nat.le_of_ble_eq_true rfl) rfl ?_
  refine st_aload_n rfl rfl (by decide) ?_
  refine st_aload_n rfl rfl (by decide) ?_
  refine st_getI (kk := 0) rfl rfl (by decide) rfl ?_
  refine st_putI (kk := 0) rfl rfl rfl rfl ?_
  refine st_aload_n rfl rfl (by decide) ?_
  refine st_getR (kk := 1) rfl rfl rfl (pz_76_1 hB) rfl ?_
  refine st_iconst rfl ?_
  refine st_aload_n rfl rfl (by decide) ?_
  refine st_getR (kk := 1) rfl rfl rfl (pz_14_1 hP) rfl ?_
  refine st_iconst rfl ?_
  refine st_bipush rfl ?_
  refine st_copy rfl rfl rfl (Or.inl rfl) (by omega) (by omega) (by omega) (by omega) (by omega) (Nat.le_of_ble_eq_true rfl) ?_
  refine st_aload_n rfl rfl (by decide) ?_
  refine st_getR (kk := 2) rfl rfl rfl (pz_76_2 hB) rfl ?_
  refine st_iconst rfl ?_
  refine st_aload_n rfl rfl (by decide) ?_
  refine st_getR (kk := 2) rfl rfl rfl (pz_14_2 hP) rfl ?_
  refine st_iconst rfl ?_
  refine st_bipush rfl ?_
  refine st_copy rfl rfl rfl (Or.inl rfl) (by omega) (by omega) (by omega) (by omega) (by omega) (Nat.le_of_ble_eq_true rfl) ?_
  refine st_aload_n rfl rfl (by decide) ?_
  refine st_getR (kk := 3) rfl rfl rfl (pz_76_3 hB) rfl ?_
  refine st_iconst rfl ?_
  refine st_aload_n rfl rfl (by decide) ?_
  refine st_getR (kk := 3) rfl rfl rfl (pz_14_3 hP) rfl ?_
  refine st_iconst rfl ?_
  refine st_sipush rfl ?_
  refine st_copy rfl rfl rfl (Or.inl rfl) (by omega) (by omega) (by omega) (by omega) (by omega) (Nat.le_of_ble_eq_true rfl) ?_
  refine st_aload_n rfl rfl (by decide) ?_
  refine st_aload_n rfl rfl (by decide) ?_
  refine st_getI (kk := 4) rfl rfl (by decide) rfl ?_
  refine st_putI (kk := 4) rfl rfl rfl rfl ?_
  refine st_aload_n rfl rfl (by decide) ?_
  refine st_getR (kk := 5) rfl rfl rfl (pz_76_5 hB) rfl ?_
  refine st_iconst rfl ?_
  refine st_aload_n rfl rfl (by decide) ?_
  refine st_getR (kk := 5) rfl rfl rfl (pz_14_5 hP) rfl ?_
  refine st_iconst rfl ?_
  refine st_sipush rfl ?_
  refine st_copy rfl rfl rfl (Or.inl rfl) (by omega) (by omega) (by omega) (by omega) (by omega) (Nat.le_of_ble_eq_true rfl) ?_
  refine st_aload_n rfl rfl (by decide) ?_
  refine st_getR (kk := 6) rfl rfl rfl (pz_76_6 hB) rfl ?_
  refine st_iconst rfl ?_
  refine st_aload_n rfl rfl (by decide) ?_
  refine st_getR (kk := 6) rfl rfl rfl (pz_14_6 hP) rfl ?_
  refine st_iconst rfl ?_
  refine st_sipush rfl ?_
  refine st_copy rfl rfl rfl (Or.inl rfl) (by omega) (by omega) (by omega) (by omega) (by omega) (Nat.le_of_ble_eq_true rfl) ?_
  refine st_aload_n rfl rfl (by decide) ?_
  refine st_getR (kk := 7) rfl rfl rfl (pz_76_7 hB) rfl ?_
  refine st_iconst rfl ?_
  refine st_aload_n rfl rfl (by decide) ?_
  refine st_getR (kk := 7) rfl rfl rfl (pz_14_7 hP) rfl ?_
  refine st_iconst rfl ?_
  refine st_sipush rfl ?_
  refine st_copy rfl rfl rfl (Or.inl rfl) (by omega) (by omega) (by omega) (by omega) (by omega) (Nat.le_of_ble_eq_true rfl) ?_
  refine st_aload_n rfl rfl (by decide) ?_
  refine st_getR (kk := 8) rfl rfl rfl (pz_76_8 hB) rfl ?_
  refine st_iconst rfl ?_
  refine st_aload_n rfl rfl (by decide) ?_
  refine st_getR (kk := 8) rfl rfl rfl (pz_14_8 hP) rfl ?_
  refine st_iconst rfl ?_
  refine st_sipush rfl ?_
  refine st_copy rfl rfl rfl (Or.inl rfl) (by omega) (by omega) (by omega) (by omega) (by omega) (Nat.le_of_ble_eq_true rfl) ?_
  refine st_aload_n rfl rfl (by decide) ?_
  refine st_getR (kk := 9) rfl rfl rfl (pz_76_9 hB) rfl ?_
  refine st_iconst rfl ?_
  refine st_aload_n rfl rfl (by decide) ?_
  refine st_getR (kk := 9) rfl rfl rfl (pz_14_9 hP) rfl ?_
  refine st_iconst rfl ?_
  refine st_sipush rfl ?_
  refine st_copy rfl rfl rfl (Or.inl rfl) (by omega) (by omega) (by omega) (by omega) (by omega) (Nat.le_of_ble_eq_true rfl) ?_
  refine st_aload_n rfl rfl (by decide) ?_
  refine st_getR (kk := 10) rfl rfl rfl (pz_76_10 hB) rfl ?_
  refine st_iconst rfl ?_
  refine st_aload_n rfl rfl (by decide) ?_
  refine st_getR (kk := 10) rfl rfl rfl (pz_14_10 hP) rfl ?_
  refine st_iconst rfl ?_
  refine st_sipush rfl ?_
  refine st_copy rfl rfl rfl (Or.inl rfl) (by omega) (by omega) (by omega) (by omega) (by omega) (Nat.le_of_ble_eq_true rfl) ?_
  refine st_aload_n rfl rfl (by decide) ?_
  refine st_getR (kk := 11) rfl rfl rfl (pz_76_11 hB) rfl ?_
  refine st_iconst rfl ?_
  refine st_aload_n rfl rfl (by decide) ?_
  refine st_getR (kk := 11) rfl rfl rfl (pz_14_11 hP) rfl ?_
  refine st_iconst rfl ?_
  refine st_sipush rfl ?_
  refine st_copy rfl rfl rfl (Or.inl rfl) (by omega) (by omega) (by omega) (by omega) (by omega) (Nat.le_of_ble_eq_true rfl) ?_
  refine st_aload_n rfl rfl (by decide) ?_
  refine st_getR (kk := 12) rfl rfl rfl (pz_76_12 hB) rfl ?_
  refine st_iconst rfl ?_
  refine st_aload_n rfl rfl (by decide) ?_
  refine st_getR (kk := 12) rfl rfl rfl (pz_14_12 hP) rfl ?_
  refine st_iconst rfl ?_
  refine st_sipush rfl ?_
  refine st_copy rfl rfl rfl (Or.inl rfl) (by omega) (by omega) (by omega) (by omega) (by omega) (Nat.le_of_ble_eq_true rfl) ?_
  refine st_ret rfl ?_
  exact ⟨rfl, rfl⟩
theorem r_Reading_become_10_72 {d N : Nat} {P : am_P} {H : am_H}  (hP : PZ P) (hB : PB P 72) : am_R (d + 1) 189 [am_r 26, am_r 88] (N, P, H) none (N, P, bcReading H 26 88) := by
  refine am_en1 (d := d + 0) (ml := 2) (ls := [_, _]) cq_Reading_become rfl (Nat.le_of_ble_eq_true rfl) rfl ?_
  refine st_aload_n rfl rfl (by decide) ?_
  refine st_aload_n rfl rfl (by decide) ?_
  refine st_getI (kk := 0) rfl rfl (by decide) rfl ?_
  refine st_putI (kk := 0) rfl rfl rfl rfl ?_
  refine st_aload_n rfl rfl (by decide) ?_
  refine st_aload_n rfl rfl (by decide) ?_
  refine st_getI (kk := 1) rfl rfl (by decide) rfl ?_
  refine st_putI (kk := 1) rfl rfl rfl rfl ?_
  refine st_aload_n rfl rfl (by decide) ?_
  refine st_getR (kk := 2) rfl rfl rfl (pz_88_2 hB) rfl ?_
  refine st_iconst rfl ?_
  refine st_aload_n rfl rfl (by decide) ?_
  refine st_getR (kk := 2) rfl rfl rfl (pz_26_2 hP) rfl ?_
  refine st_iconst rfl ?_
  refine st_bipush rfl ?_
  refine st_copy rfl rfl rfl (Or.inl rfl) (by omega) (by omega) (by omega) (by omega) (by omega) (Nat.le_of_ble_eq_true rfl) ?_
  refine st_ret rfl ?_
  exact ⟨rfl, rfl⟩
theorem r_Catalogue_become_10_72 {d N : Nat} {P : am_P} {H : am_H}  (hP : PZ P) (hB : PB P 72) : am_R (d + 1) 149 [am_r 28, am_r 90] (N, P, H) none (N, P, bcCatalogue H 28 90) := by
  refine am_en1 (d := d + 0) (ml := 2) (ls := [_, _]) cq_Catalogue_become rfl (Nat.le_of_ble_eq_true rfl) rfl ?_
  refine st_aload_n rfl rfl (by decide) ?_
  refine st_aload_n rfl rfl (by decide) ?_
  refine st_getI (kk := 0) rfl rfl (by decide) rfl ?_
  refine st_putI (kk := 0) rfl rfl rfl rfl ?_
  refine st_aload_n rfl rfl (by decide) ?_
  refine st_getR (kk := 1) rfl rfl rfl (pz_90_1 hB) rfl ?_
  refine st_iconst rfl ?_
  refine st_aload_n rfl rfl (by decide) ?_
  refine st_getR (kk := 1) rfl rfl rfl (pz_28_1 hP) rfl ?_
  refine st_iconst rfl ?_
  refine st_sipush rfl ?_
  refine st_copy rfl rfl rfl (Or.inl rfl) (by omega) (by omega) (by omega) (by omega) (by omega) (Nat.le_of_ble_eq_true rfl) ?_
  refine st_aload_n rfl rfl (by decide) ?_
  refine st_getR (kk := 2) rfl rfl rfl (pz_90_2 hB) rfl ?_
  refine st_iconst rfl ?_
  refine st_aload_n rfl rfl (by decide) ?_
  refine st_getR (kk := 2) rfl rfl rfl (pz_28_2 hP) rfl ?_
  refine st_iconst rfl ?_
  refine st_sipush rfl ?_
  refine st_copy rfl rfl rfl (Or.inl rfl) (by omega) (by omega) (by omega) (by omega) (by omega) (Nat.le_of_ble_eq_true rfl) ?_
  refine st_aload_n rfl rfl (by decide) ?_
  refine st_getR (kk := 3) rfl rfl rfl (pz_90_3 hB) rfl ?_
  refine st_iconst rfl ?_
  refine st_aload_n rfl rfl (by decide) ?_
  refine st_getR (kk := 3) rfl rfl rfl (pz_28_3 hP) rfl ?_
  refine st_iconst rfl ?_
  refine st_bipush rfl ?_
  refine st_copy rfl rfl rfl (Or.inl rfl) (by omega) (by omega) (by omega) (by omega) (by omega) (Nat.le_of_ble_eq_true rfl) ?_
  refine st_aload_n rfl rfl (by decide) ?_
  refine st_getR (kk := 4) rfl rfl rfl (pz_90_4 hB) rfl ?_
  refine st_iconst rfl ?_
  refine st_aload_n rfl rfl (by decide) ?_
  refine st_getR (kk := 4) rfl rfl rfl (pz_28_4 hP) rfl ?_
  refine st_iconst rfl ?_
  refine st_sipush rfl ?_
  refine st_copy rfl rfl rfl (Or.inl rfl) (by omega) (by omega) (by omega) (by omega) (by omega) (Nat.le_of_ble_eq_true rfl) ?_
  refine st_ret rfl ?_
  exact ⟨rfl, rfl⟩
theorem r_Growths_become_10_72 {d N : Nat} {P : am_P} {H : am_H}  (hP : PZ P) (hB : PB P 72) : am_R (d + 1) 155 [am_r 33, am_r 95] (N, P, H) none (N, P, bcGrowths H 33 95) := by
  refine am_en1 (d := d + 0) (ml := 2) (ls := [_, _]) cq_Growths_become rfl (Nat.le_of_ble_eq_true rfl) rfl ?_
  refine st_aload_n rfl rfl (by decide) ?_
  refine st_aload_n rfl rfl (by decide) ?_
  refine st_getI (kk := 0) rfl rfl (by decide) rfl ?_
  refine st_putI (kk := 0) rfl rfl rfl rfl ?_
  refine st_aload_n rfl rfl (by decide) ?_
  refine st_getR (kk := 1) rfl rfl rfl (pz_95_1 hB) rfl ?_
  refine st_iconst rfl ?_
  refine st_aload_n rfl rfl (by decide) ?_
  refine st_getR (kk := 1) rfl rfl rfl (pz_33_1 hP) rfl ?_
  refine st_iconst rfl ?_
  refine st_bipush rfl ?_
  refine st_copy rfl rfl rfl (Or.inl rfl) (by omega) (by omega) (by omega) (by omega) (by omega) (Nat.le_of_ble_eq_true rfl) ?_
  refine st_aload_n rfl rfl (by decide) ?_
  refine st_getR (kk := 2) rfl rfl rfl (pz_95_2 hB) rfl ?_
  refine st_iconst rfl ?_
  refine st_aload_n rfl rfl (by decide) ?_
  refine st_getR (kk := 2) rfl rfl rfl (pz_33_2 hP) rfl ?_
  refine st_iconst rfl ?_
  refine st_bipush rfl ?_
  refine st_copy rfl rfl rfl (Or.inl rfl) (by omega) (by omega) (by omega) (by omega) (by omega) (Nat.le_of_ble_eq_true rfl) ?_
  refine st_aload_n rfl rfl (by decide) ?_
  refine st_getR (kk := 3) rfl rfl rfl (pz_95_3 hB) rfl ?_
  refine st_iconst rfl ?_
  refine st_aload_n rfl rfl (by decide) ?_
  refine st_getR (kk := 3) rfl rfl rfl (pz_33_3 hP) rfl ?_
  refine st_iconst rfl ?_
  refine st_bipush rfl ?_
  refine st_copy rfl rfl rfl (Or.inl rfl) (by omega) (by omega) (by omega) (by omega) (by omega) (Nat.le_of_ble_eq_true rfl) ?_
  refine st_ret rfl ?_
  exact ⟨rfl, rfl⟩
theorem r_State_become_10_72 {d N : Nat} {P : am_P} {H : am_H}  (hP : PZ P) (hB : PB P 72) : am_R (d + 2) 230 [am_r 10, am_r 72] (N, P, H) none (N, P, bcS H 10 72) := by
  refine am_en1 (d := d + 1) (ml := 2) (ls := [_, _]) cq_State_become rfl (Nat.le_of_ble_eq_true rfl) rfl ?_
  refine st_aload_n rfl rfl (by decide) ?_
  refine st_getR (kk := 0) rfl rfl rfl (pz_10_0 hP) rfl ?_
  refine st_aload_n rfl rfl (by decide) ?_
  refine st_getR (kk := 0) rfl rfl rfl (pz_72_0 hB) rfl ?_
  refine st_cv0 (w := []) rfl rfl rfl (Nat.le_of_ble_eq_true rfl) (Nat.le_of_ble_eq_true rfl) rfl rfl (r_Marks_become_10_72 hP hB) ?_
  refine st_aload_n rfl rfl (by decide) ?_
  refine st_getR (kk := 1) rfl rfl rfl (pz_10_1 hP) rfl ?_
  refine st_aload_n rfl rfl (by decide) ?_
  refine st_getR (kk := 1) rfl rfl rfl (pz_72_1 hB) rfl ?_
  refine st_cv0 (w := []) rfl rfl rfl (Nat.le_of_ble_eq_true rfl) (Nat.le_of_ble_eq_true rfl) rfl rfl (r_Stacks_become_10_72 hP hB) ?_
  refine st_aload_n rfl rfl (by decide) ?_
  refine st_getR (kk := 2) rfl rfl rfl (pz_10_2 hP) rfl ?_
  refine st_aload_n rfl rfl (by decide) ?_
  refine st_getR (kk := 2) rfl rfl rfl (pz_72_2 hB) rfl ?_
  refine st_cv0 (w := []) rfl rfl rfl (Nat.le_of_ble_eq_true rfl) (Nat.le_of_ble_eq_true rfl) rfl rfl (r_Reading_become_10_72 hP hB) ?_
  refine st_aload_n rfl rfl (by decide) ?_
  refine st_getR (kk := 3) rfl rfl rfl (pz_10_3 hP) rfl ?_
  refine st_aload_n rfl rfl (by decide) ?_
  refine st_getR (kk := 3) rfl rfl rfl (pz_72_3 hB) rfl ?_
  refine st_cv0 (w := []) rfl rfl rfl (Nat.le_of_ble_eq_true rfl) (Nat.le_of_ble_eq_true rfl) rfl rfl (r_Catalogue_become_10_72 hP hB) ?_
  refine st_aload_n rfl rfl (by decide) ?_
  refine st_getR (kk := 4) rfl rfl rfl (pz_10_4 hP) rfl ?_
  refine st_aload_n rfl rfl (by decide) ?_
  refine st_getR (kk := 4) rfl rfl rfl (pz_72_4 hB) rfl ?_
  refine st_cv0 (w := []) rfl rfl rfl (Nat.le_of_ble_eq_true rfl) (Nat.le_of_ble_eq_true rfl) rfl rfl (r_Growths_become_10_72 hP hB) ?_
  refine st_aload_n rfl rfl (by decide) ?_
  refine st_aload_n rfl rfl (by decide) ?_
  refine st_getI (kk := 5) rfl rfl (by decide) rfl ?_
  refine st_putI (kk := 5) rfl rfl rfl rfl ?_
  refine st_ret rfl ?_
  exact ⟨rfl, rfl⟩
theorem r_Marks_become_72_10 {d N : Nat} {P : am_P} {H : am_H}  (hP : PZ P) (hB : PB P 72) : am_R (d + 1) 168 [am_r 73, am_r 11] (N, P, H) none (N, P, bcMarks H 73 11) := by
  refine am_en1 (d := d + 0) (ml := 2) (ls := [_, _]) cq_Marks_become rfl (Nat.le_of_ble_eq_true rfl) rfl ?_
  refine st_aload_n rfl rfl (by decide) ?_
  refine st_aload_n rfl rfl (by decide) ?_
  refine st_getI (kk := 0) rfl rfl (by decide) rfl ?_
  refine st_putI (kk := 0) rfl rfl rfl rfl ?_
  refine st_aload_n rfl rfl (by decide) ?_
  refine st_getR (kk := 1) rfl rfl rfl (pz_11_1 hP) rfl ?_
  refine st_iconst rfl ?_
  refine st_aload_n rfl rfl (by decide) ?_
  refine st_getR (kk := 1) rfl rfl rfl (pz_73_1 hB) rfl ?_
  refine st_iconst rfl ?_
  refine st_sipush rfl ?_
  refine st_copy rfl rfl rfl (Or.inl rfl) (by omega) (by omega) (by omega) (by omega) (by omega) (Nat.le_of_ble_eq_true rfl) ?_
  refine st_aload_n rfl rfl (by decide) ?_
  refine st_getR (kk := 2) rfl rfl rfl (pz_11_2 hP) rfl ?_
  refine st_iconst rfl ?_
  refine st_aload_n rfl rfl (by decide) ?_
  refine st_getR (kk := 2) rfl rfl rfl (pz_73_2 hB) rfl ?_
  refine st_iconst rfl ?_
  refine st_sipush rfl ?_
  refine st_copy rfl rfl rfl (Or.inr rfl) (by omega) (by omega) (by omega) (by omega) (by omega) (Nat.le_of_ble_eq_true rfl) ?_
  refine st_ret rfl ?_
  exact ⟨rfl, rfl⟩
theorem r_Stacks_become_72_10 {d N : Nat} {P : am_P} {H : am_H}  (hP : PZ P) (hB : PB P 72) : am_R (d + 1) 227 [am_r 76, am_r 14] (N, P, H) none (N, P, bcStacks H 76 14) := by
  refine am_en1 (d := d + 0) (ml := 2) (ls := [_, _]) cq_Stacks_become rfl (Nat.le_of_ble_eq_true rfl) rfl ?_
  refine st_aload_n rfl rfl (by decide) ?_
  refine st_aload_n rfl rfl (by decide) ?_
  refine st_getI (kk := 0) rfl rfl (by decide) rfl ?_
  refine st_putI (kk := 0) rfl rfl rfl rfl ?_
  refine st_aload_n rfl rfl (by decide) ?_
  refine st_getR (kk := 1) rfl rfl rfl (pz_14_1 hP) rfl ?_
  refine st_iconst rfl ?_
  refine st_aload_n rfl rfl (by decide) ?_
  refine st_getR (kk := 1) rfl rfl rfl (pz_76_1 hB) rfl ?_
  refine st_iconst rfl ?_
  refine st_bipush rfl ?_
  refine st_copy rfl rfl rfl (Or.inl rfl) (by omega) (by omega) (by omega) (by omega) (by omega) (Nat.le_of_ble_eq_true rfl) ?_
  refine st_aload_n rfl rfl (by decide) ?_
  refine st_getR (kk := 2) rfl rfl rfl (pz_14_2 hP) rfl ?_
  refine st_iconst rfl ?_
  refine st_aload_n rfl rfl (by decide) ?_
  refine st_getR (kk := 2) rfl rfl rfl (pz_76_2 hB) rfl ?_
  refine st_iconst rfl ?_
  refine st_bipush rfl ?_
  refine st_copy rfl rfl rfl (Or.inl rfl) (by omega) (by omega) (by omega) (by omega) (by omega) (Nat.le_of_ble_eq_true rfl) ?_
  refine st_aload_n rfl rfl (by decide) ?_
  refine st_getR (kk := 3) rfl rfl rfl (pz_14_3 hP) rfl ?_
  refine st_iconst rfl ?_
  refine st_aload_n rfl rfl (by decide) ?_
  refine st_getR (kk := 3) rfl rfl rfl (pz_76_3 hB) rfl ?_
  refine st_iconst rfl ?_
  refine st_sipush rfl ?_
  refine st_copy rfl rfl rfl (Or.inl rfl) (by omega) (by omega) (by omega) (by omega) (by omega) (Nat.le_of_ble_eq_true rfl) ?_
  refine st_aload_n rfl rfl (by decide) ?_
  refine st_aload_n rfl rfl (by decide) ?_
  refine st_getI (kk := 4) rfl rfl (by decide) rfl ?_
  refine st_putI (kk := 4) rfl rfl rfl rfl ?_
  refine st_aload_n rfl rfl (by decide) ?_
  refine st_getR (kk := 5) rfl rfl rfl (pz_14_5 hP) rfl ?_
  refine st_iconst rfl ?_
  refine st_aload_n rfl rfl (by decide) ?_
  refine st_getR (kk := 5) rfl rfl rfl (pz_76_5 hB) rfl ?_
  refine st_iconst rfl ?_
  refine st_sipush rfl ?_
  refine st_copy rfl rfl rfl (Or.inl rfl) (by omega) (by omega) (by omega) (by omega) (by omega) (Nat.le_of_ble_eq_true rfl) ?_
  refine st_aload_n rfl rfl (by decide) ?_
  refine st_getR (kk := 6) rfl rfl rfl (pz_14_6 hP) rfl ?_
  refine st_iconst rfl ?_
  refine st_aload_n rfl rfl (by decide) ?_
  refine st_getR (kk := 6) rfl rfl rfl (pz_76_6 hB) rfl ?_
  refine st_iconst rfl ?_
  refine st_sipush rfl ?_
  refine st_copy rfl rfl rfl (Or.inl rfl) (by omega) (by omega) (by omega) (by omega) (by omega) (Nat.le_of_ble_eq_true rfl) ?_
  refine st_aload_n rfl rfl (by decide) ?_
  refine st_getR (kk := 7) rfl rfl rfl (pz_14_7 hP) rfl ?_
  refine st_iconst rfl ?_
  refine st_aload_n rfl rfl (by decide) ?_
  refine st_getR (kk := 7) rfl rfl rfl (pz_76_7 hB) rfl ?_
  refine st_iconst rfl ?_
  refine st_sipush rfl ?_
  refine st_copy rfl rfl rfl (Or.inl rfl) (by omega) (by omega) (by omega) (by omega) (by omega) (Nat.le_of_ble_eq_true rfl) ?_
  refine st_aload_n rfl rfl (by decide) ?_
  refine st_getR (kk := 8) rfl rfl rfl (pz_14_8 hP) rfl ?_
  refine st_iconst rfl ?_
  refine st_aload_n rfl rfl (by decide) ?_
  refine st_getR (kk := 8) rfl rfl rfl (pz_76_8 hB) rfl ?_
  refine st_iconst rfl ?_
  refine st_sipush rfl ?_
  refine st_copy rfl rfl rfl (Or.inl rfl) (by omega) (by omega) (by omega) (by omega) (by omega) (Nat.le_of_ble_eq_true rfl) ?_
  refine st_aload_n rfl rfl (by decide) ?_
  refine st_getR (kk := 9) rfl rfl rfl (pz_14_9 hP) rfl ?_
  refine st_iconst rfl ?_
  refine st_aload_n rfl rfl (by decide) ?_
  refine st_getR (kk := 9) rfl rfl rfl (pz_76_9 hB) rfl ?_
  refine st_iconst rfl ?_
  refine st_sipush rfl ?_
  refine st_copy rfl rfl rfl (Or.inl rfl) (by omega) (by omega) (by omega) (by omega) (by omega) (Nat.le_of_ble_eq_true rfl) ?_
  refine st_aload_n rfl rfl (by decide) ?_
  refine st_getR (kk := 10) rfl rfl rfl (pz_14_10 hP) rfl ?_
  refine st_iconst rfl ?_
  refine st_aload_n rfl rfl (by decide) ?_
  refine st_getR (kk := 10) rfl rfl rfl (pz_76_10 hB) rfl ?_
  refine st_iconst rfl ?_
  refine st_sipush rfl ?_
  refine st_copy rfl rfl rfl (Or.inl rfl) (by omega) (by omega) (by omega) (by omega) (by omega) (Nat.le_of_ble_eq_true rfl) ?_
  refine st_aload_n rfl rfl (by decide) ?_
  refine st_getR (kk := 11) rfl rfl rfl (pz_14_11 hP) rfl ?_
  refine st_iconst rfl ?_
  refine st_aload_n rfl rfl (by decide) ?_
  refine st_getR (kk := 11) rfl rfl rfl (pz_76_11 hB) rfl ?_
  refine st_iconst rfl ?_
  refine st_sipush rfl ?_
  refine st_copy rfl rfl rfl (Or.inl rfl) (by omega) (by omega) (by omega) (by omega) (by omega) (Nat.le_of_ble_eq_true rfl) ?_
  refine st_aload_n rfl rfl (by decide) ?_
  refine st_getR (kk := 12) rfl rfl rfl (pz_14_12 hP) rfl ?_
  refine st_iconst rfl ?_
  refine st_aload_n rfl rfl (by decide) ?_
  refine st_getR (kk := 12) rfl rfl rfl (pz_76_12 hB) rfl ?_
  refine st_iconst rfl ?_
  refine st_sipush rfl ?_
  refine st_copy rfl rfl rfl (Or.inl rfl) (by omega) (by omega) (by omega) (by omega) (by omega) (Nat.le_of_ble_eq_true rfl) ?_
  refine st_ret rfl ?_
  exact ⟨rfl, rfl⟩
theorem r_Reading_become_72_10 {d N : Nat} {P : am_P} {H : am_H}  (hP : PZ P) (hB : PB P 72) : am_R (d + 1) 189 [am_r 88, am_r 26] (N, P, H) none (N, P, bcReading H 88 26) := by
  refine am_en1 (d := d + 0) (ml := 2) (ls := [_, _]) cq_Reading_become rfl (Nat.le_of_ble_eq_true rfl) rfl ?_
  refine st_aload_n rfl rfl (by decide) ?_
  refine st_aload_n rfl rfl (by decide) ?_
  refine st_getI (kk := 0) rfl rfl (by decide) rfl ?_
  refine st_putI (kk := 0) rfl rfl rfl rfl ?_
  refine st_aload_n rfl rfl (by decide) ?_
  refine st_aload_n rfl rfl (by decide) ?_
  refine st_getI (kk := 1) rfl rfl (by decide) rfl ?_
  refine st_putI (kk := 1) rfl rfl rfl rfl ?_
  refine st_aload_n rfl rfl (by decide) ?_
  refine st_getR (kk := 2) rfl rfl rfl (pz_26_2 hP) rfl ?_
  refine st_iconst rfl ?_
  refine st_aload_n rfl rfl (by decide) ?_
  refine st_getR (kk := 2) rfl rfl rfl (pz_88_2 hB) rfl ?_
  refine st_iconst rfl ?_
  refine st_bipush rfl ?_
  refine st_copy rfl rfl rfl (Or.inl rfl) (by omega) (by omega) (by omega) (by omega) (by omega) (Nat.le_of_ble_eq_true rfl) ?_
  refine st_ret rfl ?_
  exact ⟨rfl, rfl⟩
theorem r_Catalogue_become_72_10 {d N : Nat} {P : am_P} {H : am_H}  (hP : PZ P) (hB : PB P 72) : am_R (d + 1) 149 [am_r 90, am_r 28] (N, P, H) none (N, P, bcCatalogue H 90 28) := by
  refine am_en1 (d := d + 0) (ml := 2) (ls := [_, _]) cq_Catalogue_become rfl (Nat.le_of_ble_eq_true rfl) rfl ?_
  refine st_aload_n rfl rfl (by decide) ?_
  refine st_aload_n rfl rfl (by decide) ?_
  refine st_getI (kk := 0) rfl rfl (by decide) rfl ?_
  refine st_putI (kk := 0) rfl rfl rfl rfl ?_
  refine st_aload_n rfl rfl (by decide) ?_
  refine st_getR (kk := 1) rfl rfl rfl (pz_28_1 hP) rfl ?_
  refine st_iconst rfl ?_
  refine st_aload_n rfl rfl (by decide) ?_
  refine st_getR (kk := 1) rfl rfl rfl (pz_90_1 hB) rfl ?_
  refine st_iconst rfl ?_
  refine st_sipush rfl ?_
  refine st_copy rfl rfl rfl (Or.inl rfl) (by omega) (by omega) (by omega) (by omega) (by omega) (Nat.le_of_ble_eq_true rfl) ?_
  refine st_aload_n rfl rfl (by decide) ?_
  refine st_getR (kk := 2) rfl rfl rfl (pz_28_2 hP) rfl ?_
  refine st_iconst rfl ?_
  refine st_aload_n rfl rfl (by decide) ?_
  refine st_getR (kk := 2) rfl rfl rfl (pz_90_2 hB) rfl ?_
  refine st_iconst rfl ?_
  refine st_sipush rfl ?_
  refine st_copy rfl rfl rfl (Or.inl rfl) (by omega) (by omega) (by omega) (by omega) (by omega) (Nat.le_of_ble_eq_true rfl) ?_
  refine st_aload_n rfl rfl (by decide) ?_
  refine st_getR (kk := 3) rfl rfl rfl (pz_28_3 hP) rfl ?_
  refine st_iconst rfl ?_
  refine st_aload_n rfl rfl (by decide) ?_
  refine st_getR (kk := 3) rfl rfl rfl (pz_90_3 hB) rfl ?_
  refine st_iconst rfl ?_
  refine st_bipush rfl ?_
  refine st_copy rfl rfl rfl (Or.inl rfl) (by omega) (by omega) (by omega) (by omega) (by omega) (Nat.le_of_ble_eq_true rfl) ?_
  refine st_aload_n rfl rfl (by decide) ?_
  refine st_getR (kk := 4) rfl rfl rfl (pz_28_4 hP) rfl ?_
  refine st_iconst rfl ?_
  refine st_aload_n rfl rfl (by decide) ?_
  refine st_getR (kk := 4) rfl rfl rfl (pz_90_4 hB) rfl ?_
  refine st_iconst rfl ?_
  refine st_sipush rfl ?_
  refine st_copy rfl rfl rfl (Or.inl rfl) (by omega) (by omega) (by omega) (by omega) (by omega) (Nat.le_of_ble_eq_true rfl) ?_
  refine st_ret rfl ?_
  exact ⟨rfl, rfl⟩
theorem r_Growths_become_72_10 {d N : Nat} {P : am_P} {H : am_H}  (hP : PZ P) (hB : PB P 72) : am_R (d + 1) 155 [am_r 95, am_r 33] (N, P, H) none (N, P, bcGrowths H 95 33) := by
  refine am_en1 (d := d + 0) (ml := 2) (ls := [_, _]) cq_Growths_become rfl (Nat.le_of_ble_eq_true rfl) rfl ?_
  refine st_aload_n rfl rfl (by decide) ?_
  refine st_aload_n rfl rfl (by decide) ?_
  refine st_getI (kk := 0) rfl rfl (by decide) rfl ?_
  refine st_putI (kk := 0) rfl rfl rfl rfl ?_
  refine st_aload_n rfl rfl (by decide) ?_
  refine st_getR (kk := 1) rfl rfl rfl (pz_33_1 hP) rfl ?_
  refine st_iconst rfl ?_
  refine st_aload_n rfl rfl (by decide) ?_
  refine st_getR (kk := 1) rfl rfl rfl (pz_95_1 hB) rfl ?_
  refine st_iconst rfl ?_
  refine st_bipush rfl ?_
  refine st_copy rfl rfl rfl (Or.inl rfl) (by omega) (by omega) (by omega) (by omega) (by omega) (Nat.le_of_ble_eq_true rfl) ?_
  refine st_aload_n rfl rfl (by decide) ?_
  refine st_getR (kk := 2) rfl rfl rfl (pz_33_2 hP) rfl ?_
  refine st_iconst rfl ?_
  refine st_aload_n rfl rfl (by decide) ?_
  refine st_getR (kk := 2) rfl rfl rfl (pz_95_2 hB) rfl ?_
  refine st_iconst rfl ?_
  refine st_bipush rfl ?_
  refine st_copy rfl rfl rfl (Or.inl rfl) (by omega) (by omega) (by omega) (by omega) (by omega) (Nat.le_of_ble_eq_true rfl) ?_
  refine st_aload_n rfl rfl (by decide) ?_
  refine st_getR (kk := 3) rfl rfl rfl (pz_33_3 hP) rfl ?_
  refine st_iconst rfl ?_
  refine st_aload_n rfl rfl (by decide) ?_
  refine st_getR (kk := 3) rfl rfl rfl (pz_95_3 hB) rfl ?_
  refine st_iconst rfl ?_
  refine st_bipush rfl ?_
  refine st_copy rfl rfl rfl (Or.inl rfl) (by omega) (by omega) (by omega) (by omega) (by omega) (Nat.le_of_ble_eq_true rfl) ?_
  refine st_ret rfl ?_
  exact ⟨rfl, rfl⟩
theorem r_State_become_72_10 {d N : Nat} {P : am_P} {H : am_H}  (hP : PZ P) (hB : PB P 72) : am_R (d + 2) 230 [am_r 72, am_r 10] (N, P, H) none (N, P, bcS H 72 10) := by
  refine am_en1 (d := d + 1) (ml := 2) (ls := [_, _]) cq_State_become rfl (Nat.le_of_ble_eq_true rfl) rfl ?_
  refine st_aload_n rfl rfl (by decide) ?_
  refine st_getR (kk := 0) rfl rfl rfl (pz_72_0 hB) rfl ?_
  refine st_aload_n rfl rfl (by decide) ?_
  refine st_getR (kk := 0) rfl rfl rfl (pz_10_0 hP) rfl ?_
  refine st_cv0 (w := []) rfl rfl rfl (Nat.le_of_ble_eq_true rfl) (Nat.le_of_ble_eq_true rfl) rfl rfl (r_Marks_become_72_10 hP hB) ?_
  refine st_aload_n rfl rfl (by decide) ?_
  refine st_getR (kk := 1) rfl rfl rfl (pz_72_1 hB) rfl ?_
  refine st_aload_n rfl rfl (by decide) ?_
  refine st_getR (kk := 1) rfl rfl rfl (pz_10_1 hP) rfl ?_
  refine st_cv0 (w := []) rfl rfl rfl (Nat.le_of_ble_eq_true rfl) (Nat.le_of_ble_eq_true rfl) rfl rfl (r_Stacks_become_72_10 hP hB) ?_
  refine st_aload_n rfl rfl (by decide) ?_
  refine st_getR (kk := 2) rfl rfl rfl (pz_72_2 hB) rfl ?_
  refine st_aload_n rfl rfl (by decide) ?_
  refine st_getR (kk := 2) rfl rfl rfl (pz_10_2 hP) rfl ?_
  refine st_cv0 (w := []) rfl rfl rfl (Nat.le_of_ble_eq_true rfl) (Nat.le_of_ble_eq_true rfl) rfl rfl (r_Reading_become_72_10 hP hB) ?_
  refine st_aload_n rfl rfl (by decide) ?_
  refine st_getR (kk := 3) rfl rfl rfl (pz_72_3 hB) rfl ?_
  refine st_aload_n rfl rfl (by decide) ?_
  refine st_getR (kk := 3) rfl rfl rfl (pz_10_3 hP) rfl ?_
  refine st_cv0 (w := []) rfl rfl rfl (Nat.le_of_ble_eq_true rfl) (Nat.le_of_ble_eq_true rfl) rfl rfl (r_Catalogue_become_72_10 hP hB) ?_
  refine st_aload_n rfl rfl (by decide) ?_
  refine st_getR (kk := 4) rfl rfl rfl (pz_72_4 hB) rfl ?_
  refine st_aload_n rfl rfl (by decide) ?_
  refine st_getR (kk := 4) rfl rfl rfl (pz_10_4 hP) rfl ?_
  refine st_cv0 (w := []) rfl rfl rfl (Nat.le_of_ble_eq_true rfl) (Nat.le_of_ble_eq_true rfl) rfl rfl (r_Growths_become_72_10 hP hB) ?_
  refine st_aload_n rfl rfl (by decide) ?_
  refine st_aload_n rfl rfl (by decide) ?_
  refine st_getI (kk := 5) rfl rfl (by decide) rfl ?_
  refine st_putI (kk := 5) rfl rfl rfl rfl ?_
  refine st_ret rfl ?_
  exact ⟨rfl, rfl⟩
theorem r_Marks_become_10_101 {d N : Nat} {P : am_P} {H : am_H}  (hP : PZ P) (hB : PB P 101) : am_R (d + 1) 168 [am_r 11, am_r 102] (N, P, H) none (N, P, bcMarks H 11 102) := by
  refine am_en1 (d := d + 0) (ml := 2) (ls := [_, _]) cq_Marks_become rfl (Nat.le_of_ble_eq_true rfl) rfl ?_
  refine st_aload_n rfl rfl (by decide) ?_
  refine st_aload_n rfl rfl (by decide) ?_
  refine st_getI (kk := 0) rfl rfl (by decide) rfl ?_
  refine st_putI (kk := 0) rfl rfl rfl rfl ?_
  refine st_aload_n rfl rfl (by decide) ?_
  refine st_getR (kk := 1) rfl rfl rfl (pz_102_1 hB) rfl ?_
  refine st_iconst rfl ?_
  refine st_aload_n rfl rfl (by decide) ?_
  refine st_getR (kk := 1) rfl rfl rfl (pz_11_1 hP) rfl ?_
  refine st_iconst rfl ?_
  refine st_sipush rfl ?_
  refine st_copy rfl rfl rfl (Or.inl rfl) (by omega) (by omega) (by omega) (by omega) (by omega) (Nat.le_of_ble_eq_true rfl) ?_
  refine st_aload_n rfl rfl (by decide) ?_
  refine st_getR (kk := 2) rfl rfl rfl (pz_102_2 hB) rfl ?_
  refine st_iconst rfl ?_
  refine st_aload_n rfl rfl (by decide) ?_
  refine st_getR (kk := 2) rfl rfl rfl (pz_11_2 hP) rfl ?_
  refine st_iconst rfl ?_
  refine st_sipush rfl ?_
  refine st_copy rfl rfl rfl (Or.inr rfl) (by omega) (by omega) (by omega) (by omega) (by omega) (Nat.le_of_ble_eq_true rfl) ?_
  refine st_ret rfl ?_
  exact ⟨rfl, rfl⟩
theorem r_Stacks_become_10_101 {d N : Nat} {P : am_P} {H : am_H}  (hP : PZ P) (hB : PB P 101) : am_R (d + 1) 227 [am_r 14, am_r 105] (N, P, H) none (N, P, bcStacks H 14 105) := by
  refine am_en1 (d := d + 0) (ml := 2) (ls := [_, _]) cq_Stacks_become rfl (Nat.le_of_ble_eq_true rfl) rfl ?_
  refine st_aload_n rfl rfl (by decide) ?_
  refine st_aload_n rfl rfl (by decide) ?_
  refine st_getI (kk := 0) rfl rfl (by decide) rfl ?_
  refine st_putI (kk := 0) rfl rfl rfl rfl ?_
  refine st_aload_n rfl rfl (by decide) ?_
  refine st_getR (kk := 1) rfl rfl rfl (pz_105_1 hB) rfl ?_
  refine st_iconst rfl ?_
  refine st_aload_n rfl rfl (by decide) ?_
  refine st_getR (kk := 1) rfl rfl rfl (pz_14_1 hP) rfl ?_
  refine st_iconst rfl ?_
  refine st_bipush rfl ?_
  refine st_copy rfl rfl rfl (Or.inl rfl) (by omega) (by omega) (by omega) (by omega) (by omega) (Nat.le_of_ble_eq_true rfl) ?_
  refine st_aload_n rfl rfl (by decide) ?_
  refine st_getR (kk := 2) rfl rfl rfl (pz_105_2 hB) rfl ?_
  refine st_iconst rfl ?_
  refine st_aload_n rfl rfl (by decide) ?_
  refine st_getR (kk := 2) rfl rfl rfl (pz_14_2 hP) rfl ?_
  refine st_iconst rfl ?_
  refine st_bipush rfl ?_
  refine st_copy rfl rfl rfl (Or.inl rfl) (by omega) (by omega) (by omega) (by omega) (by omega) (Nat.le_of_ble_eq_true rfl) ?_
  refine st_aload_n rfl rfl (by decide) ?_
  refine st_getR (kk := 3) rfl rfl rfl (pz_105_3 hB) rfl ?_
  refine st_iconst rfl ?_
  refine st_aload_n rfl rfl (by decide) ?_
  refine st_getR (kk := 3) rfl rfl rfl (pz_14_3 hP) rfl ?_
  refine st_iconst rfl ?_
  refine st_sipush rfl ?_
  refine st_copy rfl rfl rfl (Or.inl rfl) (by omega) (by omega) (by omega) (by omega) (by omega) (Nat.le_of_ble_eq_true rfl) ?_
  refine st_aload_n rfl rfl (by decide) ?_
  refine st_aload_n rfl rfl (by decide) ?_
  refine st_getI (kk := 4) rfl rfl (by decide) rfl ?_
  refine st_putI (kk := 4) rfl rfl rfl rfl ?_
  refine st_aload_n rfl rfl (by decide) ?_
  refine st_getR (kk := 5) rfl rfl rfl (pz_105_5 hB) rfl ?_
  refine st_iconst rfl ?_
  refine st_aload_n rfl rfl (by decide) ?_
  refine st_getR (kk := 5) rfl rfl rfl (pz_14_5 hP) rfl ?_
  refine st_iconst rfl ?_
  refine st_sipush rfl ?_
  refine st_copy rfl rfl rfl (Or.inl rfl) (by omega) (by omega) (by omega) (by omega) (by omega) (Nat.le_of_ble_eq_true rfl) ?_
  refine st_aload_n rfl rfl (by decide) ?_
  refine st_getR (kk := 6) rfl rfl rfl (pz_105_6 hB) rfl ?_
  refine st_iconst rfl ?_
  refine st_aload_n rfl rfl (by decide) ?_
  refine st_getR (kk := 6) rfl rfl rfl (pz_14_6 hP) rfl ?_
  refine st_iconst rfl ?_
  refine st_sipush rfl ?_
  refine st_copy rfl rfl rfl (Or.inl rfl) (by omega) (by omega) (by omega) (by omega) (by omega) (Nat.le_of_ble_eq_true rfl) ?_
  refine st_aload_n rfl rfl (by decide) ?_
  refine st_getR (kk := 7) rfl rfl rfl (pz_105_7 hB) rfl ?_
  refine st_iconst rfl ?_
  refine st_aload_n rfl rfl (by decide) ?_
  refine st_getR (kk := 7) rfl rfl rfl (pz_14_7 hP) rfl ?_
  refine st_iconst rfl ?_
  refine st_sipush rfl ?_
  refine st_copy rfl rfl rfl (Or.inl rfl) (by omega) (by omega) (by omega) (by omega) (by omega) (Nat.le_of_ble_eq_true rfl) ?_
  refine st_aload_n rfl rfl (by decide) ?_
  refine st_getR (kk := 8) rfl rfl rfl (pz_105_8 hB) rfl ?_
  refine st_iconst rfl ?_
  refine st_aload_n rfl rfl (by decide) ?_
  refine st_getR (kk := 8) rfl rfl rfl (pz_14_8 hP) rfl ?_
  refine st_iconst rfl ?_
  refine st_sipush rfl ?_
  refine st_copy rfl rfl rfl (Or.inl rfl) (by omega) (by omega) (by omega) (by omega) (by omega) (Nat.le_of_ble_eq_true rfl) ?_
  refine st_aload_n rfl rfl (by decide) ?_
  refine st_getR (kk := 9) rfl rfl rfl (pz_105_9 hB) rfl ?_
  refine st_iconst rfl ?_
  refine st_aload_n rfl rfl (by decide) ?_
  refine st_getR (kk := 9) rfl rfl rfl (pz_14_9 hP) rfl ?_
  refine st_iconst rfl ?_
  refine st_sipush rfl ?_
  refine st_copy rfl rfl rfl (Or.inl rfl) (by omega) (by omega) (by omega) (by omega) (by omega) (Nat.le_of_ble_eq_true rfl) ?_
  refine st_aload_n rfl rfl (by decide) ?_
  refine st_getR (kk := 10) rfl rfl rfl (pz_105_10 hB) rfl ?_
  refine st_iconst rfl ?_
  refine st_aload_n rfl rfl (by decide) ?_
  refine st_getR (kk := 10) rfl rfl rfl (pz_14_10 hP) rfl ?_
  refine st_iconst rfl ?_
  refine st_sipush rfl ?_
  refine st_copy rfl rfl rfl (Or.inl rfl) (by omega) (by omega) (by omega) (by omega) (by omega) (Nat.le_of_ble_eq_true rfl) ?_
  refine st_aload_n rfl rfl (by decide) ?_
  refine st_getR (kk := 11) rfl rfl rfl (pz_105_11 hB) rfl ?_
  refine st_iconst rfl ?_
  refine st_aload_n rfl rfl (by decide) ?_
  refine st_getR (kk := 11) rfl rfl rfl (pz_14_11 hP) rfl ?_
  refine st_iconst rfl ?_
  refine st_sipush rfl ?_
  refine st_copy rfl rfl rfl (Or.inl rfl) (by omega) (by omega) (by omega) (by omega) (by omega) (Nat.le_of_ble_eq_true rfl) ?_
  refine st_aload_n rfl rfl (by decide) ?_
  refine st_getR (kk := 12) rfl rfl rfl (pz_105_12 hB) rfl ?_
  refine st_iconst rfl ?_
  refine st_aload_n rfl rfl (by decide) ?_
  refine st_getR (kk := 12) rfl rfl rfl (pz_14_12 hP) rfl ?_
  refine st_iconst rfl ?_
  refine st_sipush rfl ?_
  refine st_copy rfl rfl rfl (Or.inl rfl) (by omega) (by omega) (by omega) (by omega) (by omega) (Nat.le_of_ble_eq_true rfl) ?_
  refine st_ret rfl ?_
  exact ⟨rfl, rfl⟩
theorem r_Reading_become_10_101 {d N : Nat} {P : am_P} {H : am_H}  (hP : PZ P) (hB : PB P 101) : am_R (d + 1) 189 [am_r 26, am_r 117] (N, P, H) none (N, P, bcReading H 26 117) := by
  refine am_en1 (d := d + 0) (ml := 2) (ls := [_, _]) cq_Reading_become rfl (Nat.le_of_ble_eq_true rfl) rfl ?_
  refine st_aload_n rfl rfl (by decide) ?_
  refine st_aload_n rfl rfl (by decide) ?_
  refine st_getI (kk := 0) rfl rfl (by decide) rfl ?_
  refine st_putI (kk := 0) rfl rfl rfl rfl ?_
  refine st_aload_n rfl rfl (by decide) ?_
  refine st_aload_n rfl rfl (by decide) ?_
  refine st_getI (kk := 1) rfl rfl (by decide) rfl ?_
  refine st_putI (kk := 1) rfl rfl rfl rfl ?_
  refine st_aload_n rfl rfl (by decide) ?_
  refine st_getR (kk := 2) rfl rfl rfl (pz_117_2 hB) rfl ?_
  refine st_iconst rfl ?_
  refine st_aload_n rfl rfl (by decide) ?_
  refine st_getR (kk := 2) rfl rfl rfl (pz_26_2 hP) rfl ?_
  refine st_iconst rfl ?_
  refine st_bipush rfl ?_
  refine st_copy rfl rfl rfl (Or.inl rfl) (by omega) (by omega) (by omega) (by omega) (by omega) (Nat.le_of_ble_eq_true rfl) ?_
  refine st_ret rfl ?_
  exact ⟨rfl, rfl⟩
theorem r_Catalogue_become_10_101 {d N : Nat} {P : am_P} {H : am_H}  (hP : PZ P) (hB : PB P 101) : am_R (d + 1) 149 [am_r 28, am_r 119] (N, P, H) none (N, P, bcCatalogue H 28 119) := by
  refine am_en1 (d := d + 0) (ml := 2) (ls := [_, _]) cq_Catalogue_become rfl (Nat.le_of_ble_eq_true rfl) rfl ?_
  refine st_aload_n rfl rfl (by decide) ?_
  refine st_aload_n rfl rfl (by decide) ?_
  refine st_getI (kk := 0) rfl rfl (by decide) rfl ?_
  refine st_putI (kk := 0) rfl rfl rfl rfl ?_
  refine st_aload_n rfl rfl (by decide) ?_
  refine st_getR (kk := 1) rfl rfl rfl (pz_119_1 hB) rfl ?_
  refine st_iconst rfl ?_
  refine st_aload_n rfl rfl (by decide) ?_
  refine st_getR (kk := 1) rfl rfl rfl (pz_28_1 hP) rfl ?_
  refine st_iconst rfl ?_
  refine st_sipush rfl ?_
  refine st_copy rfl rfl rfl (Or.inl rfl) (by omega) (by omega) (by omega) (by omega) (by omega) (Nat.le_of_ble_eq_true rfl) ?_
  refine st_aload_n rfl rfl (by decide) ?_
  refine st_getR (kk := 2) rfl rfl rfl (pz_119_2 hB) rfl ?_
  refine st_iconst rfl ?_
  refine st_aload_n rfl rfl (by decide) ?_
  refine st_getR (kk := 2) rfl rfl rfl (pz_28_2 hP) rfl ?_
  refine st_iconst rfl ?_
  refine st_sipush rfl ?_
  refine st_copy rfl rfl rfl (Or.inl rfl) (by omega) (by omega) (by omega) (by omega) (by omega) (Nat.le_of_ble_eq_true rfl) ?_
  refine st_aload_n rfl rfl (by decide) ?_
  refine st_getR (kk := 3) rfl rfl rfl (pz_119_3 hB) rfl ?_
  refine st_iconst rfl ?_
  refine st_aload_n rfl rfl (by decide) ?_
  refine st_getR (kk := 3) rfl rfl rfl (pz_28_3 hP) rfl ?_
  refine st_iconst rfl ?_
  refine st_bipush rfl ?_
  refine st_copy rfl rfl rfl (Or.inl rfl) (by omega) (by omega) (by omega) (by omega) (by omega) (Nat.le_of_ble_eq_true rfl) ?_
  refine st_aload_n rfl rfl (by decide) ?_
  refine st_getR (kk := 4) rfl rfl rfl (pz_119_4 hB) rfl ?_
  refine st_iconst rfl ?_
  refine st_aload_n rfl rfl (by decide) ?_
  refine st_getR (kk := 4) rfl rfl rfl (pz_28_4 hP) rfl ?_
  refine st_iconst rfl ?_
  refine st_sipush rfl ?_
  refine st_copy rfl rfl rfl (Or.inl rfl) (by omega) (by omega) (by omega) (by omega) (by omega) (Nat.le_of_ble_eq_true rfl) ?_
  refine st_ret rfl ?_
  exact ⟨rfl, rfl⟩
theorem r_Growths_become_10_101 {d N : Nat} {P : am_P} {H : am_H}  (hP : PZ P) (hB : PB P 101) : am_R (d + 1) 155 [am_r 33, am_r 124] (N, P, H) none (N, P, bcGrowths H 33 124) := by
  refine am_en1 (d := d + 0) (ml := 2) (ls := [_, _]) cq_Growths_become rfl (Nat.le_of_ble_eq_true rfl) rfl ?_
  refine st_aload_n rfl rfl (by decide) ?_
  refine st_aload_n rfl rfl (by decide) ?_
  refine st_getI (kk := 0) rfl rfl (by decide) rfl ?_
  refine st_putI (kk := 0) rfl rfl rfl rfl ?_
  refine st_aload_n rfl rfl (by decide) ?_
  refine st_getR (kk := 1) rfl rfl rfl (pz_124_1 hB) rfl ?_
  refine st_iconst rfl ?_
  refine st_aload_n rfl rfl (by decide) ?_
  refine st_getR (kk := 1) rfl rfl rfl (pz_33_1 hP) rfl ?_
  refine st_iconst rfl ?_
  refine st_bipush rfl ?_
  refine st_copy rfl rfl rfl (Or.inl rfl) (by omega) (by omega) (by omega) (by omega) (by omega) (Nat.le_of_ble_eq_true rfl) ?_
  refine st_aload_n rfl rfl (by decide) ?_
  refine st_getR (kk := 2) rfl rfl rfl (pz_124_2 hB) rfl ?_
  refine st_iconst rfl ?_
  refine st_aload_n rfl rfl (by decide) ?_
  refine st_getR (kk := 2) rfl rfl rfl (pz_33_2 hP) rfl ?_
  refine st_iconst rfl ?_
  refine st_bipush rfl ?_
  refine st_copy rfl rfl rfl (Or.inl rfl) (by omega) (by omega) (by omega) (by omega) (by omega) (Nat.le_of_ble_eq_true rfl) ?_
  refine st_aload_n rfl rfl (by decide) ?_
  refine st_getR (kk := 3) rfl rfl rfl (pz_124_3 hB) rfl ?_
  refine st_iconst rfl ?_
  refine st_aload_n rfl rfl (by decide) ?_
  refine st_getR (kk := 3) rfl rfl rfl (pz_33_3 hP) rfl ?_
  refine st_iconst rfl ?_
  refine st_bipush rfl ?_
  refine st_copy rfl rfl rfl (Or.inl rfl) (by omega) (by omega) (by omega) (by omega) (by omega) (Nat.le_of_ble_eq_true rfl) ?_
  refine st_ret rfl ?_
  exact ⟨rfl, rfl⟩
theorem r_State_become_10_101 {d N : Nat} {P : am_P} {H : am_H}  (hP : PZ P) (hB : PB P 101) : am_R (d + 2) 230 [am_r 10, am_r 101] (N, P, H) none (N, P, bcS H 10 101) := by
  refine am_en1 (d := d + 1) (ml := 2) (ls := [_, _]) cq_State_become rfl (Nat.le_of_ble_eq_true rfl) rfl ?_
  refine st_aload_n rfl rfl (by decide) ?_
  refine st_getR (kk := 0) rfl rfl rfl (pz_10_0 hP) rfl ?_
  refine st_aload_n rfl rfl (by decide) ?_
  refine st_getR (kk := 0) rfl rfl rfl (pz_101_0 hB) rfl ?_
  refine st_cv0 (w := []) rfl rfl rfl (Nat.le_of_ble_eq_true rfl) (Nat.le_of_ble_eq_true rfl) rfl rfl (r_Marks_become_10_101 hP hB) ?_
  refine st_aload_n rfl rfl (by decide) ?_
  refine st_getR (kk := 1) rfl rfl rfl (pz_10_1 hP) rfl ?_
  refine st_aload_n rfl rfl (by decide) ?_
  refine st_getR (kk := 1) rfl rfl rfl (pz_101_1 hB) rfl ?_
  refine st_cv0 (w := []) rfl rfl rfl (Nat.le_of_ble_eq_true rfl) (Nat.le_of_ble_eq_true rfl) rfl rfl (r_Stacks_become_10_101 hP hB) ?_
  refine st_aload_n rfl rfl (by decide) ?_
  refine st_getR (kk := 2) rfl rfl rfl (pz_10_2 hP) rfl ?_
  refine st_aload_n rfl rfl (by decide) ?_
  refine st_getR (kk := 2) rfl rfl rfl (pz_101_2 hB) rfl ?_
  refine st_cv0 (w := []) rfl rfl rfl (Nat.le_of_ble_eq_true rfl) (Nat.le_of_ble_eq_true rfl) rfl rfl (r_Reading_become_10_101 hP hB) ?_
  refine st_aload_n rfl rfl (by decide) ?_
  refine st_getR (kk := 3) rfl rfl rfl (pz_10_3 hP) rfl ?_
  refine st_aload_n rfl rfl (by decide) ?_
  refine st_getR (kk := 3) rfl rfl rfl (pz_101_3 hB) rfl ?_
  refine st_cv0 (w := []) rfl rfl rfl (Nat.le_of_ble_eq_true rfl) (Nat.le_of_ble_eq_true rfl) rfl rfl (r_Catalogue_become_10_101 hP hB) ?_
  refine st_aload_n rfl rfl (by decide) ?_
  refine st_getR (kk := 4) rfl rfl rfl (pz_10_4 hP) rfl ?_
  refine st_aload_n rfl rfl (by decide) ?_
  refine st_getR (kk := 4) rfl rfl rfl (pz_101_4 hB) rfl ?_
  refine st_cv0 (w := []) rfl rfl rfl (Nat.le_of_ble_eq_true rfl) (Nat.le_of_ble_eq_true rfl) rfl rfl (r_Growths_become_10_101 hP hB) ?_
  refine st_aload_n rfl rfl (by decide) ?_
  refine st_aload_n rfl rfl (by decide) ?_
  refine st_getI (kk := 5) rfl rfl (by decide) rfl ?_
  refine st_putI (kk := 5) rfl rfl rfl rfl ?_
  refine st_ret rfl ?_
  exact ⟨rfl, rfl⟩
theorem r_Marks_become_101_10 {d N : Nat} {P : am_P} {H : am_H}  (hP : PZ P) (hB : PB P 101) : am_R (d + 1) 168 [am_r 102, am_r 11] (N, P, H) none (N, P, bcMarks H 102 11) := by
  refine am_en1 (d := d + 0) (ml := 2) (ls := [_, _]) cq_Marks_become rfl (Nat.le_of_ble_eq_true rfl) rfl ?_
  refine st_aload_n rfl rfl (by decide) ?_
  refine st_aload_n rfl rfl (by decide) ?_
  refine st_getI (kk := 0) rfl rfl (by decide) rfl ?_
  refine st_putI (kk := 0) rfl rfl rfl rfl ?_
  refine st_aload_n rfl rfl (by decide) ?_
  refine st_getR (kk := 1) rfl rfl rfl (pz_11_1 hP) rfl ?_
  refine st_iconst rfl ?_
  refine st_aload_n rfl rfl (by decide) ?_
  refine st_getR (kk := 1) rfl rfl rfl (pz_102_1 hB) rfl ?_
  refine st_iconst rfl ?_
  refine st_sipush rfl ?_
  refine st_copy rfl rfl rfl (Or.inl rfl) (by omega) (by omega) (by omega) (by omega) (by omega) (Nat.le_of_ble_eq_true rfl) ?_
  refine st_aload_n rfl rfl (by decide) ?_
  refine st_getR (kk := 2) rfl rfl rfl (pz_11_2 hP) rfl ?_
  refine st_iconst rfl ?_
  refine st_aload_n rfl rfl (by decide) ?_
  refine st_getR (kk := 2) rfl rfl rfl (pz_102_2 hB) rfl ?_
  refine st_iconst rfl ?_
  refine st_sipush rfl ?_
  refine st_copy rfl rfl rfl (Or.inr rfl) (by omega) (by omega) (by omega) (by omega) (by omega) (Nat.le_of_ble_eq_true rfl) ?_
  refine st_ret rfl ?_
  exact ⟨rfl, rfl⟩
theorem r_Stacks_become_101_10 {d N : Nat} {P : am_P} {H : am_H}  (hP : PZ P) (hB : PB P 101) : am_R (d + 1) 227 [am_r 105, am_r 14] (N, P, H) none (N, P, bcStacks H 105 14) := by
  refine am_en1 (d := d + 0) (ml := 2) (ls := [_, _]) cq_Stacks_become rfl (Nat.le_of_ble_eq_true rfl) rfl ?_
  refine st_aload_n rfl rfl (by decide) ?_
  refine st_aload_n rfl rfl (by decide) ?_
  refine st_getI (kk := 0) rfl rfl (by decide) rfl ?_
  refine st_putI (kk := 0) rfl rfl rfl rfl ?_
  refine st_aload_n rfl rfl (by decide) ?_
  refine st_getR (kk := 1) rfl rfl rfl (pz_14_1 hP) rfl ?_
  refine st_iconst rfl ?_
  refine st_aload_n rfl rfl (by decide) ?_
  refine st_getR (kk := 1) rfl rfl rfl (pz_105_1 hB) rfl ?_
  refine st_iconst rfl ?_
  refine st_bipush rfl ?_
  refine st_copy rfl rfl rfl (Or.inl rfl) (by omega) (by omega) (by omega) (by omega) (by omega) (Nat.le_of_ble_eq_true rfl) ?_
  refine st_aload_n rfl rfl (by decide) ?_
  refine st_getR (kk := 2) rfl rfl rfl (pz_14_2 hP) rfl ?_
  refine st_iconst rfl ?_
  refine st_aload_n rfl rfl (by decide) ?_
  refine st_getR (kk := 2) rfl rfl rfl (pz_105_2 hB) rfl ?_
  refine st_iconst rfl ?_
  refine st_bipush rfl ?_
  refine st_copy rfl rfl rfl (Or.inl rfl) (by omega) (by omega) (by omega) (by omega) (by omega) (Nat.le_of_ble_eq_true rfl) ?_
  refine st_aload_n rfl rfl (by decide) ?_
  refine st_getR (kk := 3) rfl rfl rfl (pz_14_3 hP) rfl ?_
  refine st_iconst rfl ?_
  refine st_aload_n rfl rfl (by decide) ?_
  refine st_getR (kk := 3) rfl rfl rfl (pz_105_3 hB) rfl ?_
  refine st_iconst rfl ?_
  refine st_sipush rfl ?_
  refine st_copy rfl rfl rfl (Or.inl rfl) (by omega) (by omega) (by omega) (by omega) (by omega) (Nat.le_of_ble_eq_true rfl) ?_
  refine st_aload_n rfl rfl (by decide) ?_
  refine st_aload_n rfl rfl (by decide) ?_
  refine st_getI (kk := 4) rfl rfl (by decide) rfl ?_
  refine st_putI (kk := 4) rfl rfl rfl rfl ?_
  refine st_aload_n rfl rfl (by decide) ?_
  refine st_getR (kk := 5) rfl rfl rfl (pz_14_5 hP) rfl ?_
  refine st_iconst rfl ?_
  refine st_aload_n rfl rfl (by decide) ?_
  refine st_getR (kk := 5) rfl rfl rfl (pz_105_5 hB) rfl ?_
  refine st_iconst rfl ?_
  refine st_sipush rfl ?_
  refine st_copy rfl rfl rfl (Or.inl rfl) (by omega) (by omega) (by omega) (by omega) (by omega) (Nat.le_of_ble_eq_true rfl) ?_
  refine st_aload_n rfl rfl (by decide) ?_
  refine st_getR (kk := 6) rfl rfl rfl (pz_14_6 hP) rfl ?_
  refine st_iconst rfl ?_
  refine st_aload_n rfl rfl (by decide) ?_
  refine st_getR (kk := 6) rfl rfl rfl (pz_105_6 hB) rfl ?_
  refine st_iconst rfl ?_
  refine st_sipush rfl ?_
  refine st_copy rfl rfl rfl (Or.inl rfl) (by omega) (by omega) (by omega) (by omega) (by omega) (Nat.le_of_ble_eq_true rfl) ?_
  refine st_aload_n rfl rfl (by decide) ?_
  refine st_getR (kk := 7) rfl rfl rfl (pz_14_7 hP) rfl ?_
  refine st_iconst rfl ?_
  refine st_aload_n rfl rfl (by decide) ?_
  refine st_getR (kk := 7) rfl rfl rfl (pz_105_7 hB) rfl ?_
  refine st_iconst rfl ?_
  refine st_sipush rfl ?_
  refine st_copy rfl rfl rfl (Or.inl rfl) (by omega) (by omega) (by omega) (by omega) (by omega) (Nat.le_of_ble_eq_true rfl) ?_
  refine st_aload_n rfl rfl (by decide) ?_
  refine st_getR (kk := 8) rfl rfl rfl (pz_14_8 hP) rfl ?_
  refine st_iconst rfl ?_
  refine st_aload_n rfl rfl (by decide) ?_
  refine st_getR (kk := 8) rfl rfl rfl (pz_105_8 hB) rfl ?_
  refine st_iconst rfl ?_
  refine st_sipush rfl ?_
  refine st_copy rfl rfl rfl (Or.inl rfl) (by omega) (by omega) (by omega) (by omega) (by omega) (Nat.le_of_ble_eq_true rfl) ?_
  refine st_aload_n rfl rfl (by decide) ?_
  refine st_getR (kk := 9) rfl rfl rfl (pz_14_9 hP) rfl ?_
  refine st_iconst rfl ?_
  refine st_aload_n rfl rfl (by decide) ?_
  refine st_getR (kk := 9) rfl rfl rfl (pz_105_9 hB) rfl ?_
  refine st_iconst rfl ?_
  refine st_sipush rfl ?_
  refine st_copy rfl rfl rfl (Or.inl rfl) (by omega) (by omega) (by omega) (by omega) (by omega) (Nat.le_of_ble_eq_true rfl) ?_
  refine st_aload_n rfl rfl (by decide) ?_
  refine st_getR (kk := 10) rfl rfl rfl (pz_14_10 hP) rfl ?_
  refine st_iconst rfl ?_
  refine st_aload_n rfl rfl (by decide) ?_
  refine st_getR (kk := 10) rfl rfl rfl (pz_105_10 hB) rfl ?_
  refine st_iconst rfl ?_
  refine st_sipush rfl ?_
  refine st_copy rfl rfl rfl (Or.inl rfl) (by omega) (by omega) (by omega) (by omega) (by omega) (Nat.le_of_ble_eq_true rfl) ?_
  refine st_aload_n rfl rfl (by decide) ?_
  refine st_getR (kk := 11) rfl rfl rfl (pz_14_11 hP) rfl ?_
  refine st_iconst rfl ?_
  refine st_aload_n rfl rfl (by decide) ?_
  refine st_getR (kk := 11) rfl rfl rfl (pz_105_11 hB) rfl ?_
  refine st_iconst rfl ?_
  refine st_sipush rfl ?_
  refine st_copy rfl rfl rfl (Or.inl rfl) (by omega) (by omega) (by omega) (by omega) (by omega) (Nat.le_of_ble_eq_true rfl) ?_
  refine st_aload_n rfl rfl (by decide) ?_
  refine st_getR (kk := 12) rfl rfl rfl (pz_14_12 hP) rfl ?_
  refine st_iconst rfl ?_
  refine st_aload_n rfl rfl (by decide) ?_
  refine st_getR (kk := 12) rfl rfl rfl (pz_105_12 hB) rfl ?_
  refine st_iconst rfl ?_
  refine st_sipush rfl ?_
  refine st_copy rfl rfl rfl (Or.inl rfl) (by omega) (by omega) (by omega) (by omega) (by omega) (Nat.le_of_ble_eq_true rfl) ?_
  refine st_ret rfl ?_
  exact ⟨rfl, rfl⟩
theorem r_Reading_become_101_10 {d N : Nat} {P : am_P} {H : am_H}  (hP : PZ P) (hB : PB P 101) : am_R (d + 1) 189 [am_r 117, am_r 26] (N, P, H) none (N, P, bcReading H 117 26) := by
  refine am_en1 (d := d + 0) (ml := 2) (ls := [_, _]) cq_Reading_become rfl (Nat.le_of_ble_eq_true rfl) rfl ?_
  refine st_aload_n rfl rfl (by decide) ?_
  refine st_aload_n rfl rfl (by decide) ?_
  refine st_getI (kk := 0) rfl rfl (by decide) rfl ?_
  refine st_putI (kk := 0) rfl rfl rfl rfl ?_
  refine st_aload_n rfl rfl (by decide) ?_
  refine st_aload_n rfl rfl (by decide) ?_
  refine st_getI (kk := 1) rfl rfl (by decide) rfl ?_
  refine st_putI (kk := 1) rfl rfl rfl rfl ?_
  refine st_aload_n rfl rfl (by decide) ?_
  refine st_getR (kk := 2) rfl rfl rfl (pz_26_2 hP) rfl ?_
  refine st_iconst rfl ?_
  refine st_aload_n rfl rfl (by decide) ?_
  refine st_getR (kk := 2) rfl rfl rfl (pz_117_2 hB) rfl ?_
  refine st_iconst rfl ?_
  refine st_bipush rfl ?_
  refine st_copy rfl rfl rfl (Or.inl rfl) (by omega) (by omega) (by omega) (by omega) (by omega) (Nat.le_of_ble_eq_true rfl) ?_
  refine st_ret rfl ?_
  exact ⟨rfl, rfl⟩
theorem r_Catalogue_become_101_10 {d N : Nat} {P : am_P} {H : am_H}  (hP : PZ P) (hB : PB P 101) : am_R (d + 1) 149 [am_r 119, am_r 28] (N, P, H) none (N, P, bcCatalogue H 119 28) := by
  refine am_en1 (d := d + 0) (ml := 2) (ls := [_, _]) cq_Catalogue_become rfl (Nat.le_of_ble_eq_true rfl) rfl ?_
  refine st_aload_n rfl rfl (by decide) ?_
  refine st_aload_n rfl rfl (by decide) ?_
  refine st_getI (kk := 0) rfl rfl (by decide) rfl ?_
  refine st_putI (kk := 0) rfl rfl rfl rfl ?_
  refine st_aload_n rfl rfl (by decide) ?_
  refine st_getR (kk := 1) rfl rfl rfl (pz_28_1 hP) rfl ?_
  refine st_iconst rfl ?_
  refine st_aload_n rfl rfl (by decide) ?_
  refine st_getR (kk := 1) rfl rfl rfl (pz_119_1 hB) rfl ?_
  refine st_iconst rfl ?_
  refine st_sipush rfl ?_
  refine st_copy rfl rfl rfl (Or.inl rfl) (by omega) (by omega) (by omega) (by omega) (by omega) (Nat.le_of_ble_eq_true rfl) ?_
  refine st_aload_n rfl rfl (by decide) ?_
  refine st_getR (kk := 2) rfl rfl rfl (pz_28_2 hP) rfl ?_
  refine st_iconst rfl ?_
  refine st_aload_n rfl rfl (by decide) ?_
  refine st_getR (kk := 2) rfl rfl rfl (pz_119_2 hB) rfl ?_
  refine st_iconst rfl ?_
  refine st_sipush rfl ?_
  refine st_copy rfl rfl rfl (Or.inl rfl) (by omega) (by omega) (by omega) (by omega) (by omega) (Nat.le_of_ble_eq_true rfl) ?_
  refine st_aload_n rfl rfl (by decide) ?_
  refine st_getR (kk := 3) rfl rfl rfl (pz_28_3 hP) rfl ?_
  refine st_iconst rfl ?_
  refine st_aload_n rfl rfl (by decide) ?_
  refine st_getR (kk := 3) rfl rfl rfl (pz_119_3 hB) rfl ?_
  refine st_iconst rfl ?_
  refine st_bipush rfl ?_
  refine st_copy rfl rfl rfl (Or.inl rfl) (by omega) (by omega) (by omega) (by omega) (by omega) (Nat.le_of_ble_eq_true rfl) ?_
  refine st_aload_n rfl rfl (by decide) ?_
  refine st_getR (kk := 4) rfl rfl rfl (pz_28_4 hP) rfl ?_
  refine st_iconst rfl ?_
  refine st_aload_n rfl rfl (by decide) ?_
  refine st_getR (kk := 4) rfl rfl rfl (pz_119_4 hB) rfl ?_
  refine st_iconst rfl ?_
  refine st_sipush rfl ?_
  refine st_copy rfl rfl rfl (Or.inl rfl) (by omega) (by omega) (by omega) (by omega) (by omega) (Nat.le_of_ble_eq_true rfl) ?_
  refine st_ret rfl ?_
  exact ⟨rfl, rfl⟩
theorem r_Growths_become_101_10 {d N : Nat} {P : am_P} {H : am_H}  (hP : PZ P) (hB : PB P 101) : am_R (d + 1) 155 [am_r 124, am_r 33] (N, P, H) none (N, P, bcGrowths H 124 33) := by
  refine am_en1 (d := d + 0) (ml := 2) (ls := [_, _]) cq_Growths_become rfl (Nat.le_of_ble_eq_true rfl) rfl ?_
  refine st_aload_n rfl rfl (by decide) ?_
  refine st_aload_n rfl rfl (by decide) ?_
  refine st_getI (kk := 0) rfl rfl (by decide) rfl ?_
  refine st_putI (kk := 0) rfl rfl rfl rfl ?_
  refine st_aload_n rfl rfl (by decide) ?_
  refine st_getR (kk := 1) rfl rfl rfl (pz_33_1 hP) rfl ?_
  refine st_iconst rfl ?_
  refine st_aload_n rfl rfl (by decide) ?_
  refine st_getR (kk := 1) rfl rfl rfl (pz_124_1 hB) rfl ?_
  refine st_iconst rfl ?_
  refine st_bipush rfl ?_
  refine st_copy rfl rfl rfl (Or.inl rfl) (by omega) (by omega) (by omega) (by omega) (by omega) (Nat.le_of_ble_eq_true rfl) ?_
  refine st_aload_n rfl rfl (by decide) ?_
  refine st_getR (kk := 2) rfl rfl rfl (pz_33_2 hP) rfl ?_
  refine st_iconst rfl ?_
  refine st_aload_n rfl rfl (by decide) ?_
  refine st_getR (kk := 2) rfl rfl rfl (pz_124_2 hB) rfl ?_
  refine st_iconst rfl ?_
  refine st_bipush rfl ?_
  refine st_copy rfl rfl rfl (Or.inl rfl) (by omega) (by omega) (by omega) (by omega) (by omega) (Nat.le_of_ble_eq_true rfl) ?_
  refine st_aload_n rfl rfl (by decide) ?_
  refine st_getR (kk := 3) rfl rfl rfl (pz_33_3 hP) rfl ?_
  refine st_iconst rfl ?_
  refine st_aload_n rfl rfl (by decide) ?_
  refine st_getR (kk := 3) rfl rfl rfl (pz_124_3 hB) rfl ?_
  refine st_iconst rfl ?_
  refine st_bipush rfl ?_
  refine st_copy rfl rfl rfl (Or.inl rfl) (by omega) (by omega) (by omega) (by omega) (by omega) (Nat.le_of_ble_eq_true rfl) ?_
  refine st_ret rfl ?_
  exact ⟨rfl, rfl⟩
theorem r_State_become_101_10 {d N : Nat} {P : am_P} {H : am_H}  (hP : PZ P) (hB : PB P 101) : am_R (d + 2) 230 [am_r 101, am_r 10] (N, P, H) none (N, P, bcS H 101 10) := by
  refine am_en1 (d := d + 1) (ml := 2) (ls := [_, _]) cq_State_become rfl (Nat.le_of_ble_eq_true rfl) rfl ?_
  refine st_aload_n rfl rfl (by decide) ?_
  refine st_getR (kk := 0) rfl rfl rfl (pz_101_0 hB) rfl ?_
  refine st_aload_n rfl rfl (by decide) ?_
  refine st_getR (kk := 0) rfl rfl rfl (pz_10_0 hP) rfl ?_
  refine st_cv0 (w := []) rfl rfl rfl (Nat.le_of_ble_eq_true rfl) (Nat.le_of_ble_eq_true rfl) rfl rfl (r_Marks_become_101_10 hP hB) ?_
  refine st_aload_n rfl rfl (by decide) ?_
  refine st_getR (kk := 1) rfl rfl rfl (pz_101_1 hB) rfl ?_
  refine st_aload_n rfl rfl (by decide) ?_
  refine st_getR (kk := 1) rfl rfl rfl (pz_10_1 hP) rfl ?_
  refine st_cv0 (w := []) rfl rfl rfl (Nat.le_of_ble_eq_true rfl) (Nat.le_of_ble_eq_true rfl) rfl rfl (r_Stacks_become_101_10 hP hB) ?_
  refine st_aload_n rfl rfl (by decide) ?_
  refine st_getR (kk := 2) rfl rfl rfl (pz_101_2 hB) rfl ?_
  refine st_aload_n rfl rfl (by decide) ?_
  refine st_getR (kk := 2) rfl rfl rfl (pz_10_2 hP) rfl ?_
  refine st_cv0 (w := []) rfl rfl rfl (Nat.le_of_ble_eq_true rfl) (Nat.le_of_ble_eq_true rfl) rfl rfl (r_Reading_become_101_10 hP hB) ?_
  refine st_aload_n rfl rfl (by decide) ?_
  refine st_getR (kk := 3) rfl rfl rfl (pz_101_3 hB) rfl ?_
  refine st_aload_n rfl rfl (by decide) ?_
  refine st_getR (kk := 3) rfl rfl rfl (pz_10_3 hP) rfl ?_
  refine st_cv0 (w := []) rfl rfl rfl (Nat.le_of_ble_eq_true rfl) (Nat.le_of_ble_eq_true rfl) rfl rfl (r_Catalogue_become_101_10 hP hB) ?_
  refine st_aload_n rfl rfl (by decide) ?_
  refine st_getR (kk := 4) rfl rfl rfl (pz_101_4 hB) rfl ?_
  refine st_aload_n rfl rfl (by decide) ?_
  refine st_getR (kk := 4) rfl rfl rfl (pz_10_4 hP) rfl ?_
  refine st_cv0 (w := []) rfl rfl rfl (Nat.le_of_ble_eq_true rfl) (Nat.le_of_ble_eq_true rfl) rfl rfl (r_Growths_become_101_10 hP hB) ?_
  refine st_aload_n rfl rfl (by decide) ?_
  refine st_aload_n rfl rfl (by decide) ?_
  refine st_getI (kk := 5) rfl rfl (by decide) rfl ?_
  refine st_putI (kk := 5) rfl rfl rfl rfl ?_
  refine st_ret rfl ?_
  exact ⟨rfl, rfl⟩
theorem r_Marks_become_10_130 {d N : Nat} {P : am_P} {H : am_H}  (hP : PZ P) (hB : PB P 130) : am_R (d + 1) 168 [am_r 11, am_r 131] (N, P, H) none (N, P, bcMarks H 11 131) := by
  refine am_en1 (d := d + 0) (ml := 2) (ls := [_, _]) cq_Marks_become rfl (Nat.le_of_ble_eq_true rfl) rfl ?_
  refine st_aload_n rfl rfl (by decide) ?_
  refine st_aload_n rfl rfl (by decide) ?_
  refine st_getI (kk := 0) rfl rfl (by decide) rfl ?_
  refine st_putI (kk := 0) rfl rfl rfl rfl ?_
  refine st_aload_n rfl rfl (by decide) ?_
  refine st_getR (kk := 1) rfl rfl rfl (pz_131_1 hB) rfl ?_
  refine st_iconst rfl ?_
  refine st_aload_n rfl rfl (by decide) ?_
  refine st_getR (kk := 1) rfl rfl rfl (pz_11_1 hP) rfl ?_
  refine st_iconst rfl ?_
  refine st_sipush rfl ?_
  refine st_copy rfl rfl rfl (Or.inl rfl) (by omega) (by omega) (by omega) (by omega) (by omega) (Nat.le_of_ble_eq_true rfl) ?_
  refine st_aload_n rfl rfl (by decide) ?_
  refine st_getR (kk := 2) rfl rfl rfl (pz_131_2 hB) rfl ?_
  refine st_iconst rfl ?_
  refine st_aload_n rfl rfl (by decide) ?_
  refine st_getR (kk := 2) rfl rfl rfl (pz_11_2 hP) rfl ?_
  refine st_iconst rfl ?_
  refine st_sipush rfl ?_
  refine st_copy rfl rfl rfl (Or.inr rfl) (by omega) (by omega) (by omega) (by omega) (by omega) (Nat.le_of_ble_eq_true rfl) ?_
  refine st_ret rfl ?_
  exact ⟨rfl, rfl⟩
theorem r_Stacks_become_10_130 {d N : Nat} {P : am_P} {H : am_H}  (hP : PZ P) (hB : PB P 130) : am_R (d + 1) 227 [am_r 14, am_r 134] (N, P, H) none (N, P, bcStacks H 14 134) := by
  refine am_en1 (d := d + 0) (ml := 2) (ls := [_, _]) cq_Stacks_become rfl (Nat.le_of_ble_eq_true rfl) rfl ?_
  refine st_aload_n rfl rfl (by decide) ?_
  refine st_aload_n rfl rfl (by decide) ?_
  refine st_getI (kk := 0) rfl rfl (by decide) rfl ?_
  refine st_putI (kk := 0) rfl rfl rfl rfl ?_
  refine st_aload_n rfl rfl (by decide) ?_
  refine st_getR (kk := 1) rfl rfl rfl (pz_134_1 hB) rfl ?_
  refine st_iconst rfl ?_
  refine st_aload_n rfl rfl (by decide) ?_
  refine st_getR (kk := 1) rfl rfl rfl (pz_14_1 hP) rfl ?_
  refine st_iconst rfl ?_
  refine st_bipush rfl ?_
  refine st_copy rfl rfl rfl (Or.inl rfl) (by omega) (by omega) (by omega) (by omega) (by omega) (Nat.le_of_ble_eq_true rfl) ?_
  refine st_aload_n rfl rfl (by decide) ?_
  refine st_getR (kk := 2) rfl rfl rfl (pz_134_2 hB) rfl ?_
  refine st_iconst rfl ?_
  refine st_aload_n rfl rfl (by decide) ?_
  refine st_getR (kk := 2) rfl rfl rfl (pz_14_2 hP) rfl ?_
  refine st_iconst rfl ?_
  refine st_bipush rfl ?_
  refine st_copy rfl rfl rfl (Or.inl rfl) (by omega) (by omega) (by omega) (by omega) (by omega) (Nat.le_of_ble_eq_true rfl) ?_
  refine st_aload_n rfl rfl (by decide) ?_
  refine st_getR (kk := 3) rfl rfl rfl (pz_134_3 hB) rfl ?_
  refine st_iconst rfl ?_
  refine st_aload_n rfl rfl (by decide) ?_
  refine st_getR (kk := 3) rfl rfl rfl (pz_14_3 hP) rfl ?_
  refine st_iconst rfl ?_
  refine st_sipush rfl ?_
  refine st_copy rfl rfl rfl (Or.inl rfl) (by omega) (by omega) (by omega) (by omega) (by omega) (Nat.le_of_ble_eq_true rfl) ?_
  refine st_aload_n rfl rfl (by decide) ?_
  refine st_aload_n rfl rfl (by decide) ?_
  refine st_getI (kk := 4) rfl rfl (by decide) rfl ?_
  refine st_putI (kk := 4) rfl rfl rfl rfl ?_
  refine st_aload_n rfl rfl (by decide) ?_
  refine st_getR (kk := 5) rfl rfl rfl (pz_134_5 hB) rfl ?_
  refine st_iconst rfl ?_
  refine st_aload_n rfl rfl (by decide) ?_
  refine st_getR (kk := 5) rfl rfl rfl (pz_14_5 hP) rfl ?_
  refine st_iconst rfl ?_
  refine st_sipush rfl ?_
  refine st_copy rfl rfl rfl (Or.inl rfl) (by omega) (by omega) (by omega) (by omega) (by omega) (Nat.le_of_ble_eq_true rfl) ?_
  refine st_aload_n rfl rfl (by decide) ?_
  refine st_getR (kk := 6) rfl rfl rfl (pz_134_6 hB) rfl ?_
  refine st_iconst rfl ?_
  refine st_aload_n rfl rfl (by decide) ?_
  refine st_getR (kk := 6) rfl rfl rfl (pz_14_6 hP) rfl ?_
  refine st_iconst rfl ?_
  refine st_sipush rfl ?_
  refine st_copy rfl rfl rfl (Or.inl rfl) (by omega) (by omega) (by omega) (by omega) (by omega) (Nat.le_of_ble_eq_true rfl) ?_
  refine st_aload_n rfl rfl (by decide) ?_
  refine st_getR (kk := 7) rfl rfl rfl (pz_134_7 hB) rfl ?_
  refine st_iconst rfl ?_
  refine st_aload_n rfl rfl (by decide) ?_
  refine st_getR (kk := 7) rfl rfl rfl (pz_14_7 hP) rfl ?_
  refine st_iconst rfl ?_
  refine st_sipush rfl ?_
  refine st_copy rfl rfl rfl (Or.inl rfl) (by omega) (by omega) (by omega) (by omega) (by omega) (Nat.le_of_ble_eq_true rfl) ?_
  refine st_aload_n rfl rfl (by decide) ?_
  refine st_getR (kk := 8) rfl rfl rfl (pz_134_8 hB) rfl ?_
  refine st_iconst rfl ?_
  refine st_aload_n rfl rfl (by decide) ?_
  refine st_getR (kk := 8) rfl rfl rfl (pz_14_8 hP) rfl ?_
  refine st_iconst rfl ?_
  refine st_sipush rfl ?_
  refine st_copy rfl rfl rfl (Or.inl rfl) (by omega) (by omega) (by omega) (by omega) (by omega) (Nat.le_of_ble_eq_true rfl) ?_
  refine st_aload_n rfl rfl (by decide) ?_
  refine st_getR (kk := 9) rfl rfl rfl (pz_134_9 hB) rfl ?_
  refine st_iconst rfl ?_
  refine st_aload_n rfl rfl (by decide) ?_
  refine st_getR (kk := 9) rfl rfl rfl (pz_14_9 hP) rfl ?_
  refine st_iconst rfl ?_
  refine st_sipush rfl ?_
  refine st_copy rfl rfl rfl (Or.inl rfl) (by omega) (by omega) (by omega) (by omega) (by omega) (Nat.le_of_ble_eq_true rfl) ?_
  refine st_aload_n rfl rfl (by decide) ?_
  refine st_getR (kk := 10) rfl rfl rfl (pz_134_10 hB) rfl ?_
  refine st_iconst rfl ?_
  refine st_aload_n rfl rfl (by decide) ?_
  refine st_getR (kk := 10) rfl rfl rfl (pz_14_10 hP) rfl ?_
  refine st_iconst rfl ?_
  refine st_sipush rfl ?_
  refine st_copy rfl rfl rfl (Or.inl rfl) (by omega) (by omega) (by omega) (by omega) (by omega) (Nat.le_of_ble_eq_true rfl) ?_
  refine st_aload_n rfl rfl (by decide) ?_
  refine st_getR (kk := 11) rfl rfl rfl (pz_134_11 hB) rfl ?_
  refine st_iconst rfl ?_
  refine st_aload_n rfl rfl (by decide) ?_
  refine st_getR (kk := 11) rfl rfl rfl (pz_14_11 hP) rfl ?_
  refine st_iconst rfl ?_
  refine st_sipush rfl ?_
  refine st_copy rfl rfl rfl (Or.inl rfl) (by omega) (by omega) (by omega) (by omega) (by omega) (Nat.le_of_ble_eq_true rfl) ?_
  refine st_aload_n rfl rfl (by decide) ?_
  refine st_getR (kk := 12) rfl rfl rfl (pz_134_12 hB) rfl ?_
  refine st_iconst rfl ?_
  refine st_aload_n rfl rfl (by decide) ?_
  refine st_getR (kk := 12) rfl rfl rfl (pz_14_12 hP) rfl ?_
  refine st_iconst rfl ?_
  refine st_sipush rfl ?_
  refine st_copy rfl rfl rfl (Or.inl rfl) (by omega) (by omega) (by omega) (by omega) (by omega) (Nat.le_of_ble_eq_true rfl) ?_
  refine st_ret rfl ?_
  exact ⟨rfl, rfl⟩
theorem r_Reading_become_10_130 {d N : Nat} {P : am_P} {H : am_H}  (hP : PZ P) (hB : PB P 130) : am_R (d + 1) 189 [am_r 26, am_r 146] (N, P, H) none (N, P, bcReading H 26 146) := by
  refine am_en1 (d := d + 0) (ml := 2) (ls := [_, _]) cq_Reading_become rfl (Nat.le_of_ble_eq_true rfl) rfl ?_
  refine st_aload_n rfl rfl (by decide) ?_
  refine st_aload_n rfl rfl (by decide) ?_
  refine st_getI (kk := 0) rfl rfl (by decide) rfl ?_
  refine st_putI (kk := 0) rfl rfl rfl rfl ?_
  refine st_aload_n rfl rfl (by decide) ?_
  refine st_aload_n rfl rfl (by decide) ?_
  refine st_getI (kk := 1) rfl rfl (by decide) rfl ?_
  refine st_putI (kk := 1) rfl rfl rfl rfl ?_
  refine st_aload_n rfl rfl (by decide) ?_
  refine st_getR (kk := 2) rfl rfl rfl (pz_146_2 hB) rfl ?_
  refine st_iconst rfl ?_
  refine st_aload_n rfl rfl (by decide) ?_
  refine st_getR (kk := 2) rfl rfl rfl (pz_26_2 hP) rfl ?_
  refine st_iconst rfl ?_
  refine st_bipush rfl ?_
  refine st_copy rfl rfl rfl (Or.inl rfl) (by omega) (by omega) (by omega) (by omega) (by omega) (Nat.le_of_ble_eq_true rfl) ?_
  refine st_ret rfl ?_
  exact ⟨rfl, rfl⟩
theorem r_Catalogue_become_10_130 {d N : Nat} {P : am_P} {H : am_H}  (hP : PZ P) (hB : PB P 130) : am_R (d + 1) 149 [am_r 28, am_r 148] (N, P, H) none (N, P, bcCatalogue H 28 148) := by
  refine am_en1 (d := d + 0) (ml := 2) (ls := [_, _]) cq_Catalogue_become rfl (Nat.le_of_ble_eq_true rfl) rfl ?_
  refine st_aload_n rfl rfl (by decide) ?_
  refine st_aload_n rfl rfl (by decide) ?_
  refine st_getI (kk := 0) rfl rfl (by decide) rfl ?_
  refine st_putI (kk := 0) rfl rfl rfl rfl ?_
  refine st_aload_n rfl rfl (by decide) ?_
  refine st_getR (kk := 1) rfl rfl rfl (pz_148_1 hB) rfl ?_
  refine st_iconst rfl ?_
  refine st_aload_n rfl rfl (by decide) ?_
  refine st_getR (kk := 1) rfl rfl rfl (pz_28_1 hP) rfl ?_
  refine st_iconst rfl ?_
  refine st_sipush rfl ?_
  refine st_copy rfl rfl rfl (Or.inl rfl) (by omega) (by omega) (by omega) (by omega) (by omega) (Nat.le_of_ble_eq_true rfl) ?_
  refine st_aload_n rfl rfl (by decide) ?_
  refine st_getR (kk := 2) rfl rfl rfl (pz_148_2 hB) rfl ?_
  refine st_iconst rfl ?_
  refine st_aload_n rfl rfl (by decide) ?_
  refine st_getR (kk := 2) rfl rfl rfl (pz_28_2 hP) rfl ?_
  refine st_iconst rfl ?_
  refine st_sipush rfl ?_
  refine st_copy rfl rfl rfl (Or.inl rfl) (by omega) (by omega) (by omega) (by omega) (by omega) (Nat.le_of_ble_eq_true rfl) ?_
  refine st_aload_n rfl rfl (by decide) ?_
  refine st_getR (kk := 3) rfl rfl rfl (pz_148_3 hB) rfl ?_
  refine st_iconst rfl ?_
  refine st_aload_n rfl rfl (by decide) ?_
  refine st_getR (kk := 3) rfl rfl rfl (pz_28_3 hP) rfl ?_
  refine st_iconst rfl ?_
  refine st_bipush rfl ?_
  refine st_copy rfl rfl rfl (Or.inl rfl) (by omega) (by omega) (by omega) (by omega) (by omega) (Nat.le_of_ble_eq_true rfl) ?_
  refine st_aload_n rfl rfl (by decide) ?_
  refine st_getR (kk := 4) rfl rfl rfl (pz_148_4 hB) rfl ?_
  refine st_iconst rfl ?_
  refine st_aload_n rfl rfl (by decide) ?_
  refine st_getR (kk := 4) rfl rfl rfl (pz_28_4 hP) rfl ?_
  refine st_iconst rfl ?_
  refine st_sipush rfl ?_
  refine st_copy rfl rfl rfl (Or.inl rfl) (by omega) (by omega) (by omega) (by omega) (by omega) (Nat.le_of_ble_eq_true rfl) ?_
  refine st_ret rfl ?_
  exact ⟨rfl, rfl⟩
theorem r_Growths_become_10_130 {d N : Nat} {P : am_P} {H : am_H}  (hP : PZ P) (hB : PB P 130) : am_R (d + 1) 155 [am_r 33, am_r 153] (N, P, H) none (N, P, bcGrowths H 33 153) := by
  refine am_en1 (d := d + 0) (ml := 2) (ls := [_, _]) cq_Growths_become rfl (Nat.le_of_ble_eq_true rfl) rfl ?_
  refine st_aload_n rfl rfl (by decide) ?_
  refine st_aload_n rfl rfl (by decide) ?_
  refine st_getI (kk := 0) rfl rfl (by decide) rfl ?_
  refine st_putI (kk := 0) rfl rfl rfl rfl ?_
  refine st_aload_n rfl rfl (by decide) ?_
  refine st_getR (kk := 1) rfl rfl rfl (pz_153_1 hB) rfl ?_
  refine st_iconst rfl ?_
  refine st_aload_n rfl rfl (by decide) ?_
  refine st_getR (kk := 1) rfl rfl rfl (pz_33_1 hP) rfl ?_
  refine st_iconst rfl ?_
  refine st_bipush rfl ?_
  refine st_copy rfl rfl rfl (Or.inl rfl) (by omega) (by omega) (by omega) (by omega) (by omega) (Nat.le_of_ble_eq_true rfl) ?_
  refine st_aload_n rfl rfl (by decide) ?_
  refine st_getR (kk := 2) rfl rfl rfl (pz_153_2 hB) rfl ?_
  refine st_iconst rfl ?_
  refine st_aload_n rfl rfl (by decide) ?_
  refine st_getR (kk := 2) rfl rfl rfl (pz_33_2 hP) rfl ?_
  refine st_iconst rfl ?_
  refine st_bipush rfl ?_
  refine st_copy rfl rfl rfl (Or.inl rfl) (by omega) (by omega) (by omega) (by omega) (by omega) (Nat.le_of_ble_eq_true rfl) ?_
  refine st_aload_n rfl rfl (by decide) ?_
  refine st_getR (kk := 3) rfl rfl rfl (pz_153_3 hB) rfl ?_
  refine st_iconst rfl ?_
  refine st_aload_n rfl rfl (by decide) ?_
  refine st_getR (kk := 3) rfl rfl rfl (pz_33_3 hP) rfl ?_
  refine st_iconst rfl ?_
  refine st_bipush rfl ?_
  refine st_copy rfl rfl rfl (Or.inl rfl) (by omega) (by omega) (by omega) (by omega) (by omega) (Nat.le_of_ble_eq_true rfl) ?_
  refine st_ret rfl ?_
  exact ⟨rfl, rfl⟩
theorem r_State_become_10_130 {d N : Nat} {P : am_P} {H : am_H}  (hP : PZ P) (hB : PB P 130) : am_R (d + 2) 230 [am_r 10, am_r 130] (N, P, H) none (N, P, bcS H 10 130) := by
  refine am_en1 (d := d + 1) (ml := 2) (ls := [_, _]) cq_State_become rfl (Nat.le_of_ble_eq_true rfl) rfl ?_
  refine st_aload_n rfl rfl (by decide) ?_
  refine st_getR (kk := 0) rfl rfl rfl (pz_10_0 hP) rfl ?_
  refine st_aload_n rfl rfl (by decide) ?_
  refine st_getR (kk := 0) rfl rfl rfl (pz_130_0 hB) rfl ?_
  refine st_cv0 (w := []) rfl rfl rfl (Nat.le_of_ble_eq_true rfl) (Nat.le_of_ble_eq_true rfl) rfl rfl (r_Marks_become_10_130 hP hB) ?_
  refine st_aload_n rfl rfl (by decide) ?_
  refine st_getR (kk := 1) rfl rfl rfl (pz_10_1 hP) rfl ?_
  refine st_aload_n rfl rfl (by decide) ?_
  refine st_getR (kk := 1) rfl rfl rfl (pz_130_1 hB) rfl ?_
  refine st_cv0 (w := []) rfl rfl rfl (Nat.le_of_ble_eq_true rfl) (Nat.le_of_ble_eq_true rfl) rfl rfl (r_Stacks_become_10_130 hP hB) ?_
  refine st_aload_n rfl rfl (by decide) ?_
  refine st_getR (kk := 2) rfl rfl rfl (pz_10_2 hP) rfl ?_
  refine st_aload_n rfl rfl (by decide) ?_
  refine st_getR (kk := 2) rfl rfl rfl (pz_130_2 hB) rfl ?_
  refine st_cv0 (w := []) rfl rfl rfl (Nat.le_of_ble_eq_true rfl) (Nat.le_of_ble_eq_true rfl) rfl rfl (r_Reading_become_10_130 hP hB) ?_
  refine st_aload_n rfl rfl (by decide) ?_
  refine st_getR (kk := 3) rfl rfl rfl (pz_10_3 hP) rfl ?_
  refine st_aload_n rfl rfl (by decide) ?_
  refine st_getR (kk := 3) rfl rfl rfl (pz_130_3 hB) rfl ?_
  refine st_cv0 (w := []) rfl rfl rfl (Nat.le_of_ble_eq_true rfl) (Nat.le_of_ble_eq_true rfl) rfl rfl (r_Catalogue_become_10_130 hP hB) ?_
  refine st_aload_n rfl rfl (by decide) ?_
  refine st_getR (kk := 4) rfl rfl rfl (pz_10_4 hP) rfl ?_
  refine st_aload_n rfl rfl (by decide) ?_
  refine st_getR (kk := 4) rfl rfl rfl (pz_130_4 hB) rfl ?_
  refine st_cv0 (w := []) rfl rfl rfl (Nat.le_of_ble_eq_true rfl) (Nat.le_of_ble_eq_true rfl) rfl rfl (r_Growths_become_10_130 hP hB) ?_
  refine st_aload_n rfl rfl (by decide) ?_
  refine st_aload_n rfl rfl (by decide) ?_
  refine st_getI (kk := 5) rfl rfl (by decide) rfl ?_
  refine st_putI (kk := 5) rfl rfl rfl rfl ?_
  refine st_ret rfl ?_
  exact ⟨rfl, rfl⟩
theorem r_Marks_become_130_10 {d N : Nat} {P : am_P} {H : am_H}  (hP : PZ P) (hB : PB P 130) : am_R (d + 1) 168 [am_r 131, am_r 11] (N, P, H) none (N, P, bcMarks H 131 11) := by
  refine am_en1 (d := d + 0) (ml := 2) (ls := [_, _]) cq_Marks_become rfl (Nat.le_of_ble_eq_true rfl) rfl ?_
  refine st_aload_n rfl rfl (by decide) ?_
  refine st_aload_n rfl rfl (by decide) ?_
  refine st_getI (kk := 0) rfl rfl (by decide) rfl ?_
  refine st_putI (kk := 0) rfl rfl rfl rfl ?_
  refine st_aload_n rfl rfl (by decide) ?_
  refine st_getR (kk := 1) rfl rfl rfl (pz_11_1 hP) rfl ?_
  refine st_iconst rfl ?_
  refine st_aload_n rfl rfl (by decide) ?_
  refine st_getR (kk := 1) rfl rfl rfl (pz_131_1 hB) rfl ?_
  refine st_iconst rfl ?_
  refine st_sipush rfl ?_
  refine st_copy rfl rfl rfl (Or.inl rfl) (by omega) (by omega) (by omega) (by omega) (by omega) (Nat.le_of_ble_eq_true rfl) ?_
  refine st_aload_n rfl rfl (by decide) ?_
  refine st_getR (kk := 2) rfl rfl rfl (pz_11_2 hP) rfl ?_
  refine st_iconst rfl ?_
  refine st_aload_n rfl rfl (by decide) ?_
  refine st_getR (kk := 2) rfl rfl rfl (pz_131_2 hB) rfl ?_
  refine st_iconst rfl ?_
  refine st_sipush rfl ?_
  refine st_copy rfl rfl rfl (Or.inr rfl) (by omega) (by omega) (by omega) (by omega) (by omega) (Nat.le_of_ble_eq_true rfl) ?_
  refine st_ret rfl ?_
  exact ⟨rfl, rfl⟩
theorem r_Stacks_become_130_10 {d N : Nat} {P : am_P} {H : am_H}  (hP : PZ P) (hB : PB P 130) : am_R (d + 1) 227 [am_r 134, am_r 14] (N, P, H) none (N, P, bcStacks H 134 14) := by
  refine am_en1 (d := d + 0) (ml := 2) (ls := [_, _]) cq_Stacks_become rfl (Nat.le_of_ble_eq_true rfl) rfl ?_
  refine st_aload_n rfl rfl (by decide) ?_
  refine st_aload_n rfl rfl (by decide) ?_
  refine st_getI (kk := 0) rfl rfl (by decide) rfl ?_
  refine st_putI (kk := 0) rfl rfl rfl rfl ?_
  refine st_aload_n rfl rfl (by decide) ?_
  refine st_getR (kk := 1) rfl rfl rfl (pz_14_1 hP) rfl ?_
  refine st_iconst rfl ?_
  refine st_aload_n rfl rfl (by decide) ?_
  refine st_getR (kk := 1) rfl rfl rfl (pz_134_1 hB) rfl ?_
  refine st_iconst rfl ?_
  refine st_bipush rfl ?_
  refine st_copy rfl rfl rfl (Or.inl rfl) (by omega) (by omega) (by omega) (by omega) (by omega) (Nat.le_of_ble_eq_true rfl) ?_
  refine st_aload_n rfl rfl (by decide) ?_
  refine st_getR (kk := 2) rfl rfl rfl (pz_14_2 hP) rfl ?_
  refine st_iconst rfl ?_
  refine st_aload_n rfl rfl (by decide) ?_
  refine st_getR (kk := 2) rfl rfl rfl (pz_134_2 hB) rfl ?_
  refine st_iconst rfl ?_
  refine st_bipush rfl ?_
  refine st_copy rfl rfl rfl (Or.inl rfl) (by omega) (by omega) (by omega) (by omega) (by omega) (Nat.le_of_ble_eq_true rfl) ?_
  refine st_aload_n rfl rfl (by decide) ?_
  refine st_getR (kk := 3) rfl rfl rfl (pz_14_3 hP) rfl ?_
  refine st_iconst rfl ?_
  refine st_aload_n rfl rfl (by decide) ?_
  refine st_getR (kk := 3) rfl rfl rfl (pz_134_3 hB) rfl ?_
  refine st_iconst rfl ?_
  refine st_sipush rfl ?_
  refine st_copy rfl rfl rfl (Or.inl rfl) (by omega) (by omega) (by omega) (by omega) (by omega) (Nat.le_of_ble_eq_true rfl) ?_
  refine st_aload_n rfl rfl (by decide) ?_
  refine st_aload_n rfl rfl (by decide) ?_
  refine st_getI (kk := 4) rfl rfl (by decide) rfl ?_
  refine st_putI (kk := 4) rfl rfl rfl rfl ?_
  refine st_aload_n rfl rfl (by decide) ?_
  refine st_getR (kk := 5) rfl rfl rfl (pz_14_5 hP) rfl ?_
  refine st_iconst rfl ?_
  refine st_aload_n rfl rfl (by decide) ?_
  refine st_getR (kk := 5) rfl rfl rfl (pz_134_5 hB) rfl ?_
  refine st_iconst rfl ?_
  refine st_sipush rfl ?_
  refine st_copy rfl rfl rfl (Or.inl rfl) (by omega) (by omega) (by omega) (by omega) (by omega) (Nat.le_of_ble_eq_true rfl) ?_
  refine st_aload_n rfl rfl (by decide) ?_
  refine st_getR (kk := 6) rfl rfl rfl (pz_14_6 hP) rfl ?_
  refine st_iconst rfl ?_
  refine st_aload_n rfl rfl (by decide) ?_
  refine st_getR (kk := 6) rfl rfl rfl (pz_134_6 hB) rfl ?_
  refine st_iconst rfl ?_
  refine st_sipush rfl ?_
  refine st_copy rfl rfl rfl (Or.inl rfl) (by omega) (by omega) (by omega) (by omega) (by omega) (Nat.le_of_ble_eq_true rfl) ?_
  refine st_aload_n rfl rfl (by decide) ?_
  refine st_getR (kk := 7) rfl rfl rfl (pz_14_7 hP) rfl ?_
  refine st_iconst rfl ?_
  refine st_aload_n rfl rfl (by decide) ?_
  refine st_getR (kk := 7) rfl rfl rfl (pz_134_7 hB) rfl ?_
  refine st_iconst rfl ?_
  refine st_sipush rfl ?_
  refine st_copy rfl rfl rfl (Or.inl rfl) (by omega) (by omega) (by omega) (by omega) (by omega) (Nat.le_of_ble_eq_true rfl) ?_
  refine st_aload_n rfl rfl (by decide) ?_
  refine st_getR (kk := 8) rfl rfl rfl (pz_14_8 hP) rfl ?_
  refine st_iconst rfl ?_
  refine st_aload_n rfl rfl (by decide) ?_
  refine st_getR (kk := 8) rfl rfl rfl (pz_134_8 hB) rfl ?_
  refine st_iconst rfl ?_
  refine st_sipush rfl ?_
  refine st_copy rfl rfl rfl (Or.inl rfl) (by omega) (by omega) (by omega) (by omega) (by omega) (Nat.le_of_ble_eq_true rfl) ?_
  refine st_aload_n rfl rfl (by decide) ?_
  refine st_getR (kk := 9) rfl rfl rfl (pz_14_9 hP) rfl ?_
  refine st_iconst rfl ?_
  refine st_aload_n rfl rfl (by decide) ?_
  refine st_getR (kk := 9) rfl rfl rfl (pz_134_9 hB) rfl ?_
  refine st_iconst rfl ?_
  refine st_sipush rfl ?_
  refine st_copy rfl rfl rfl (Or.inl rfl) (by omega) (by omega) (by omega) (by omega) (by omega) (Nat.le_of_ble_eq_true rfl) ?_
  refine st_aload_n rfl rfl (by decide) ?_
  refine st_getR (kk := 10) rfl rfl rfl (pz_14_10 hP) rfl ?_
  refine st_iconst rfl ?_
  refine st_aload_n rfl rfl (by decide) ?_
  refine st_getR (kk := 10) rfl rfl rfl (pz_134_10 hB) rfl ?_
  refine st_iconst rfl ?_
  refine st_sipush rfl ?_
  refine st_copy rfl rfl rfl (Or.inl rfl) (by omega) (by omega) (by omega) (by omega) (by omega) (Nat.le_of_ble_eq_true rfl) ?_
  refine st_aload_n rfl rfl (by decide) ?_
  refine st_getR (kk := 11) rfl rfl rfl (pz_14_11 hP) rfl ?_
  refine st_iconst rfl ?_
  refine st_aload_n rfl rfl (by decide) ?_
  refine st_getR (kk := 11) rfl rfl rfl (pz_134_11 hB) rfl ?_
  refine st_iconst rfl ?_
  refine st_sipush rfl ?_
  refine st_copy rfl rfl rfl (Or.inl rfl) (by omega) (by omega) (by omega) (by omega) (by omega) (Nat.le_of_ble_eq_true rfl) ?_
  refine st_aload_n rfl rfl (by decide) ?_
  refine st_getR (kk := 12) rfl rfl rfl (pz_14_12 hP) rfl ?_
  refine st_iconst rfl ?_
  refine st_aload_n rfl rfl (by decide) ?_
  refine st_getR (kk := 12) rfl rfl rfl (pz_134_12 hB) rfl ?_
  refine st_iconst rfl ?_
  refine st_sipush rfl ?_
  refine st_copy rfl rfl rfl (Or.inl rfl) (by omega) (by omega) (by omega) (by omega) (by omega) (Nat.le_of_ble_eq_true rfl) ?_
  refine st_ret rfl ?_
  exact ⟨rfl, rfl⟩
theorem r_Reading_become_130_10 {d N : Nat} {P : am_P} {H : am_H}  (hP : PZ P) (hB : PB P 130) : am_R (d + 1) 189 [am_r 146, am_r 26] (N, P, H) none (N, P, bcReading H 146 26) := by
  refine am_en1 (d := d + 0) (ml := 2) (ls := [_, _]) cq_Reading_become rfl (Nat.le_of_ble_eq_true rfl) rfl ?_
  refine st_aload_n rfl rfl (by decide) ?_
  refine st_aload_n rfl rfl (by decide) ?_
  refine st_getI (kk := 0) rfl rfl (by decide) rfl ?_
  refine st_putI (kk := 0) rfl rfl rfl rfl ?_
  refine st_aload_n rfl rfl (by decide) ?_
  refine st_aload_n rfl rfl (by decide) ?_
  refine st_getI (kk := 1) rfl rfl (by decide) rfl ?_
  refine st_putI (kk := 1) rfl rfl rfl rfl ?_
  refine st_aload_n rfl rfl (by decide) ?_
  refine st_getR (kk := 2) rfl rfl rfl (pz_26_2 hP) rfl ?_
  refine st_iconst rfl ?_
  refine st_aload_n rfl rfl (by decide) ?_
  refine st_getR (kk := 2) rfl rfl rfl (pz_146_2 hB) rfl ?_
  refine st_iconst rfl ?_
  refine st_bipush rfl ?_
  refine st_copy rfl rfl rfl (Or.inl rfl) (by omega) (by omega) (by omega) (by omega) (by omega) (Nat.le_of_ble_eq_true rfl) ?_
  refine st_ret rfl ?_
  exact ⟨rfl, rfl⟩
theorem r_Catalogue_become_130_10 {d N : Nat} {P : am_P} {H : am_H}  (hP : PZ P) (hB : PB P 130) : am_R (d + 1) 149 [am_r 148, am_r 28] (N, P, H) none (N, P, bcCatalogue H 148 28) := by
  refine am_en1 (d := d + 0) (ml := 2) (ls := [_, _]) cq_Catalogue_become rfl (Nat.le_of_ble_eq_true rfl) rfl ?_
  refine st_aload_n rfl rfl (by decide) ?_
  refine st_aload_n rfl rfl (by decide) ?_
  refine st_getI (kk := 0) rfl rfl (by decide) rfl ?_
  refine st_putI (kk := 0) rfl rfl rfl rfl ?_
  refine st_aload_n rfl rfl (by decide) ?_
  refine st_getR (kk := 1) rfl rfl rfl (pz_28_1 hP) rfl ?_
  refine st_iconst rfl ?_
  refine st_aload_n rfl rfl (by decide) ?_
  refine st_getR (kk := 1) rfl rfl rfl (pz_148_1 hB) rfl ?_
  refine st_iconst rfl ?_
  refine st_sipush rfl ?_
  refine st_copy rfl rfl rfl (Or.inl rfl) (by omega) (by omega) (by omega) (by omega) (by omega) (Nat.le_of_ble_eq_true rfl) ?_
  refine st_aload_n rfl rfl (by decide) ?_
  refine st_getR (kk := 2) rfl rfl rfl (pz_28_2 hP) rfl ?_
  refine st_iconst rfl ?_
  refine st_aload_n rfl rfl (by decide) ?_
  refine st_getR (kk := 2) rfl rfl rfl (pz_148_2 hB) rfl ?_
  refine st_iconst rfl ?_
  refine st_sipush rfl ?_
  refine st_copy rfl rfl rfl (Or.inl rfl) (by omega) (by omega) (by omega) (by omega) (by omega) (Nat.le_of_ble_eq_true rfl) ?_
  refine st_aload_n rfl rfl (by decide) ?_
  refine st_getR (kk := 3) rfl rfl rfl (pz_28_3 hP) rfl ?_
  refine st_iconst rfl ?_
  refine st_aload_n rfl rfl (by decide) ?_
  refine st_getR (kk := 3) rfl rfl rfl (pz_148_3 hB) rfl ?_
  refine st_iconst rfl ?_
  refine st_bipush rfl ?_
  refine st_copy rfl rfl rfl (Or.inl rfl) (by omega) (by omega) (by omega) (by omega) (by omega) (Nat.le_of_ble_eq_true rfl) ?_
  refine st_aload_n rfl rfl (by decide) ?_
  refine st_getR (kk := 4) rfl rfl rfl (pz_28_4 hP) rfl ?_
  refine st_iconst rfl ?_
  refine st_aload_n rfl rfl (by decide) ?_
  refine st_getR (kk := 4) rfl rfl rfl (pz_148_4 hB) rfl ?_
  refine st_iconst rfl ?_
  refine st_sipush rfl ?_
  refine st_copy rfl rfl rfl (Or.inl rfl) (by omega) (by omega) (by omega) (by omega) (by omega) (Nat.le_of_ble_eq_true rfl) ?_
  refine st_ret rfl ?_
  exact ⟨rfl, rfl⟩
theorem r_Growths_become_130_10 {d N : Nat} {P : am_P} {H : am_H}  (hP : PZ P) (hB : PB P 130) : am_R (d + 1) 155 [am_r 153, am_r 33] (N, P, H) none (N, P, bcGrowths H 153 33) := by
  refine am_en1 (d := d + 0) (ml := 2) (ls := [_, _]) cq_Growths_become rfl (Nat.le_of_ble_eq_true rfl) rfl ?_
  refine st_aload_n rfl rfl (by decide) ?_
  refine st_aload_n rfl rfl (by decide) ?_
  refine st_getI (kk := 0) rfl rfl (by decide) rfl ?_
  refine st_putI (kk := 0) rfl rfl rfl rfl ?_
  refine st_aload_n rfl rfl (by decide) ?_
  refine st_getR (kk := 1) rfl rfl rfl (pz_33_1 hP) rfl ?_
  refine st_iconst rfl ?_
  refine st_aload_n rfl rfl (by decide) ?_
  refine st_getR (kk := 1) rfl rfl rfl (pz_153_1 hB) rfl ?_
  refine st_iconst rfl ?_
  refine st_bipush rfl ?_
  refine st_copy rfl rfl rfl (Or.inl rfl) (by omega) (by omega) (by omega) (by omega) (by omega) (Nat.le_of_ble_eq_true rfl) ?_
  refine st_aload_n rfl rfl (by decide) ?_
  refine st_getR (kk := 2) rfl rfl rfl (pz_33_2 hP) rfl ?_
  refine st_iconst rfl ?_
  refine st_aload_n rfl rfl (by decide) ?_
  refine st_getR (kk := 2) rfl rfl rfl (pz_153_2 hB) rfl ?_
  refine st_iconst rfl ?_
  refine st_bipush rfl ?_
  refine st_copy rfl rfl rfl (Or.inl rfl) (by omega) (by omega) (by omega) (by omega) (by omega) (Nat.le_of_ble_eq_true rfl) ?_
  refine st_aload_n rfl rfl (by decide) ?_
  refine st_getR (kk := 3) rfl rfl rfl (pz_33_3 hP) rfl ?_
  refine st_iconst rfl ?_
  refine st_aload_n rfl rfl (by decide) ?_
  refine st_getR (kk := 3) rfl rfl rfl (pz_153_3 hB) rfl ?_
  refine st_iconst rfl ?_
  refine st_bipush rfl ?_
  refine st_copy rfl rfl rfl (Or.inl rfl) (by omega) (by omega) (by omega) (by omega) (by omega) (Nat.le_of_ble_eq_true rfl) ?_
  refine st_ret rfl ?_
  exact ⟨rfl, rfl⟩
theorem r_State_become_130_10 {d N : Nat} {P : am_P} {H : am_H}  (hP : PZ P) (hB : PB P 130) : am_R (d + 2) 230 [am_r 130, am_r 10] (N, P, H) none (N, P, bcS H 130 10) := by
  refine am_en1 (d := d + 1) (ml := 2) (ls := [_, _]) cq_State_become rfl (Nat.le_of_ble_eq_true rfl) rfl ?_
  refine st_aload_n rfl rfl (by decide) ?_
  refine st_getR (kk := 0) rfl rfl rfl (pz_130_0 hB) rfl ?_
  refine st_aload_n rfl rfl (by decide) ?_
  refine st_getR (kk := 0) rfl rfl rfl (pz_10_0 hP) rfl ?_
  refine st_cv0 (w := []) rfl rfl rfl (Nat.le_of_ble_eq_true rfl) (Nat.le_of_ble_eq_true rfl) rfl rfl (r_Marks_become_130_10 hP hB) ?_
  refine st_aload_n rfl rfl (by decide) ?_
  refine st_getR (kk := 1) rfl rfl rfl (pz_130_1 hB) rfl ?_
  refine st_aload_n rfl rfl (by decide) ?_
  refine st_getR (kk := 1) rfl rfl rfl (pz_10_1 hP) rfl ?_
  refine st_cv0 (w := []) rfl rfl rfl (Nat.le_of_ble_eq_true rfl) (Nat.le_of_ble_eq_true rfl) rfl rfl (r_Stacks_become_130_10 hP hB) ?_
  refine st_aload_n rfl rfl (by decide) ?_
  refine st_getR (kk := 2) rfl rfl rfl (pz_130_2 hB) rfl ?_
  refine st_aload_n rfl rfl (by decide) ?_
  refine st_getR (kk := 2) rfl rfl rfl (pz_10_2 hP) rfl ?_
  refine st_cv0 (w := []) rfl rfl rfl (Nat.le_of_ble_eq_true rfl) (Nat.le_of_ble_eq_true rfl) rfl rfl (r_Reading_become_130_10 hP hB) ?_
  refine st_aload_n rfl rfl (by decide) ?_
  refine st_getR (kk := 3) rfl rfl rfl (pz_130_3 hB) rfl ?_
  refine st_aload_n rfl rfl (by decide) ?_
  refine st_getR (kk := 3) rfl rfl rfl (pz_10_3 hP) rfl ?_
  refine st_cv0 (w := []) rfl rfl rfl (Nat.le_of_ble_eq_true rfl) (Nat.le_of_ble_eq_true rfl) rfl rfl (r_Catalogue_become_130_10 hP hB) ?_
  refine st_aload_n rfl rfl (by decide) ?_
  refine st_getR (kk := 4) rfl rfl rfl (pz_130_4 hB) rfl ?_
  refine st_aload_n rfl rfl (by decide) ?_
  refine st_getR (kk := 4) rfl rfl rfl (pz_10_4 hP) rfl ?_
  refine st_cv0 (w := []) rfl rfl rfl (Nat.le_of_ble_eq_true rfl) (Nat.le_of_ble_eq_true rfl) rfl rfl (r_Growths_become_130_10 hP hB) ?_
  refine st_aload_n rfl rfl (by decide) ?_
  refine st_aload_n rfl rfl (by decide) ?_
  refine st_getI (kk := 5) rfl rfl (by decide) rfl ?_
  refine st_putI (kk := 5) rfl rfl rfl rfl ?_
  refine st_ret rfl ?_
  exact ⟨rfl, rfl⟩
theorem r_Marks_become_10_159 {d N : Nat} {P : am_P} {H : am_H}  (hP : PZ P) (hB : PB P 159) : am_R (d + 1) 168 [am_r 11, am_r 160] (N, P, H) none (N, P, bcMarks H 11 160) := by
  refine am_en1 (d := d + 0) (ml := 2) (ls := [_, _]) cq_Marks_become rfl (Nat.le_of_ble_eq_true rfl) rfl ?_
  refine st_aload_n rfl rfl (by decide) ?_
  refine st_aload_n rfl rfl (by decide) ?_
  refine st_getI (kk := 0) rfl rfl (by decide) rfl ?_
  refine st_putI (kk := 0) rfl rfl rfl rfl ?_
  refine st_aload_n rfl rfl (by decide) ?_
  refine st_getR (kk := 1) rfl rfl rfl (pz_160_1 hB) rfl ?_
  refine st_iconst rfl ?_
  refine st_aload_n rfl rfl (by decide) ?_
  refine st_getR (kk := 1) rfl rfl rfl (pz_11_1 hP) rfl ?_
  refine st_iconst rfl ?_
  refine st_sipush rfl ?_
  refine st_copy rfl rfl rfl (Or.inl rfl) (by omega) (by omega) (by omega) (by omega) (by omega) (Nat.le_of_ble_eq_true rfl) ?_
  refine st_aload_n rfl rfl (by decide) ?_
  refine st_getR (kk := 2) rfl rfl rfl (pz_160_2 hB) rfl ?_
  refine st_iconst rfl ?_
  refine st_aload_n rfl rfl (by decide) ?_
  refine st_getR (kk := 2) rfl rfl rfl (pz_11_2 hP) rfl ?_
  refine st_iconst rfl ?_
  refine st_sipush rfl ?_
  refine st_copy rfl rfl rfl (Or.inr rfl) (by omega) (by omega) (by omega) (by omega) (by omega) (Nat.le_of_ble_eq_true rfl) ?_
  refine st_ret rfl ?_
  exact ⟨rfl, rfl⟩
theorem r_Stacks_become_10_159 {d N : Nat} {P : am_P} {H : am_H}  (hP : PZ P) (hB : PB P 159) : am_R (d + 1) 227 [am_r 14, am_r 163] (N, P, H) none (N, P, bcStacks H 14 163) := by
  refine am_en1 (d := d + 0) (ml := 2) (ls := [_, _]) cq_Stacks_become rfl (Nat.le_of_ble_eq_true rfl) rfl ?_
  refine st_aload_n rfl rfl (by decide) ?_
  refine st_aload_n rfl rfl (by decide) ?_
  refine st_getI (kk := 0) rfl rfl (by decide) rfl ?_
  refine st_putI (kk := 0) rfl rfl rfl rfl ?_
  refine st_aload_n rfl rfl (by decide) ?_
  refine st_getR (kk := 1) rfl rfl rfl (pz_163_1 hB) rfl ?_
  refine st_iconst rfl ?_
  refine st_aload_n rfl rfl (by decide) ?_
  refine st_getR (kk := 1) rfl rfl rfl (pz_14_1 hP) rfl ?_
  refine st_iconst rfl ?_
  refine st_bipush rfl ?_
  refine st_copy rfl rfl rfl (Or.inl rfl) (by omega) (by omega) (by omega) (by omega) (by omega) (Nat.le_of_ble_eq_true rfl) ?_
  refine st_aload_n rfl rfl (by decide) ?_
  refine st_getR (kk := 2) rfl rfl rfl (pz_163_2 hB) rfl ?_
  refine st_iconst rfl ?_
  refine st_aload_n rfl rfl (by decide) ?_
  refine st_getR (kk := 2) rfl rfl rfl (pz_14_2 hP) rfl ?_
  refine st_iconst rfl ?_
  refine st_bipush rfl ?_
  refine st_copy rfl rfl rfl (Or.inl rfl) (by omega) (by omega) (by omega) (by omega) (by omega) (Nat.le_of_ble_eq_true rfl) ?_
  refine st_aload_n rfl rfl (by decide) ?_
  refine st_getR (kk := 3) rfl rfl rfl (pz_163_3 hB) rfl ?_
  refine st_iconst rfl ?_
  refine st_aload_n rfl rfl (by decide) ?_
  refine st_getR (kk := 3) rfl rfl rfl (pz_14_3 hP) rfl ?_
  refine st_iconst rfl ?_
  refine st_sipush rfl ?_
  refine st_copy rfl rfl rfl (Or.inl rfl) (by omega) (by omega) (by omega) (by omega) (by omega) (Nat.le_of_ble_eq_true rfl) ?_
  refine st_aload_n rfl rfl (by decide) ?_
  refine st_aload_n rfl rfl (by decide) ?_
  refine st_getI (kk := 4) rfl rfl (by decide) rfl ?_
  refine st_putI (kk := 4) rfl rfl rfl rfl ?_
  refine st_aload_n rfl rfl (by decide) ?_
  refine st_getR (kk := 5) rfl rfl rfl (pz_163_5 hB) rfl ?_
  refine st_iconst rfl ?_
  refine st_aload_n rfl rfl (by decide) ?_
  refine st_getR (kk := 5) rfl rfl rfl (pz_14_5 hP) rfl ?_
  refine st_iconst rfl ?_
  refine st_sipush rfl ?_
  refine st_copy rfl rfl rfl (Or.inl rfl) (by omega) (by omega) (by omega) (by omega) (by omega) (Nat.le_of_ble_eq_true rfl) ?_
  refine st_aload_n rfl rfl (by decide) ?_
  refine st_getR (kk := 6) rfl rfl rfl (pz_163_6 hB) rfl ?_
  refine st_iconst rfl ?_
  refine st_aload_n rfl rfl (by decide) ?_
  refine st_getR (kk := 6) rfl rfl rfl (pz_14_6 hP) rfl ?_
  refine st_iconst rfl ?_
  refine st_sipush rfl ?_
  refine st_copy rfl rfl rfl (Or.inl rfl) (by omega) (by omega) (by omega) (by omega) (by omega) (Nat.le_of_ble_eq_true rfl) ?_
  refine st_aload_n rfl rfl (by decide) ?_
  refine st_getR (kk := 7) rfl rfl rfl (pz_163_7 hB) rfl ?_
  refine st_iconst rfl ?_
  refine st_aload_n rfl rfl (by decide) ?_
  refine st_getR (kk := 7) rfl rfl rfl (pz_14_7 hP) rfl ?_
  refine st_iconst rfl ?_
  refine st_sipush rfl ?_
  refine st_copy rfl rfl rfl (Or.inl rfl) (by omega) (by omega) (by omega) (by omega) (by omega) (Nat.le_of_ble_eq_true rfl) ?_
  refine st_aload_n rfl rfl (by decide) ?_
  refine st_getR (kk := 8) rfl rfl rfl (pz_163_8 hB) rfl ?_
  refine st_iconst rfl ?_
  refine st_aload_n rfl rfl (by decide) ?_
  refine st_getR (kk := 8) rfl rfl rfl (pz_14_8 hP) rfl ?_
  refine st_iconst rfl ?_
  refine st_sipush rfl ?_
  refine st_copy rfl rfl rfl (Or.inl rfl) (by omega) (by omega) (by omega) (by omega) (by omega) (Nat.le_of_ble_eq_true rfl) ?_
  refine st_aload_n rfl rfl (by decide) ?_
  refine st_getR (kk := 9) rfl rfl rfl (pz_163_9 hB) rfl ?_
  refine st_iconst rfl ?_
  refine st_aload_n rfl rfl (by decide) ?_
  refine st_getR (kk := 9) rfl rfl rfl (pz_14_9 hP) rfl ?_
  refine st_iconst rfl ?_
  refine st_sipush rfl ?_
  refine st_copy rfl rfl rfl (Or.inl rfl) (by omega) (by omega) (by omega) (by omega) (by omega) (Nat.le_of_ble_eq_true rfl) ?_
  refine st_aload_n rfl rfl (by decide) ?_
  refine st_getR (kk := 10) rfl rfl rfl (pz_163_10 hB) rfl ?_
  refine st_iconst rfl ?_
  refine st_aload_n rfl rfl (by decide) ?_
  refine st_getR (kk := 10) rfl rfl rfl (pz_14_10 hP) rfl ?_
  refine st_iconst rfl ?_
  refine st_sipush rfl ?_
  refine st_copy rfl rfl rfl (Or.inl rfl) (by omega) (by omega) (by omega) (by omega) (by omega) (Nat.le_of_ble_eq_true rfl) ?_
  refine st_aload_n rfl rfl (by decide) ?_
  refine st_getR (kk := 11) rfl rfl rfl (pz_163_11 hB) rfl ?_
  refine st_iconst rfl ?_
  refine st_aload_n rfl rfl (by decide) ?_
  refine st_getR (kk := 11) rfl rfl rfl (pz_14_11 hP) rfl ?_
  refine st_iconst rfl ?_
  refine st_sipush rfl ?_
  refine st_copy rfl rfl rfl (Or.inl rfl) (by omega) (by omega) (by omega) (by omega) (by omega) (Nat.le_of_ble_eq_true rfl) ?_
  refine st_aload_n rfl rfl (by decide) ?_
  refine st_getR (kk := 12) rfl rfl rfl (pz_163_12 hB) rfl ?_
  refine st_iconst rfl ?_
  refine st_aload_n rfl rfl (by decide) ?_
  refine st_getR (kk := 12) rfl rfl rfl (pz_14_12 hP) rfl ?_
  refine st_iconst rfl ?_
  refine st_sipush rfl ?_
  refine st_copy rfl rfl rfl (Or.inl rfl) (by omega) (by omega) (by omega) (by omega) (by omega) (Nat.le_of_ble_eq_true rfl) ?_
  refine st_ret rfl ?_
  exact ⟨rfl, rfl⟩
theorem r_Reading_become_10_159 {d N : Nat} {P : am_P} {H : am_H}  (hP : PZ P) (hB : PB P 159) : am_R (d + 1) 189 [am_r 26, am_r 175] (N, P, H) none (N, P, bcReading H 26 175) := by
  refine am_en1 (d := d + 0) (ml := 2) (ls := [_, _]) cq_Reading_become rfl (Nat.le_of_ble_eq_true rfl) rfl ?_
  refine st_aload_n rfl rfl (by decide) ?_
  refine st_aload_n rfl rfl (by decide) ?_
  refine st_getI (kk := 0) rfl rfl (by decide) rfl ?_
  refine st_putI (kk := 0) rfl rfl rfl rfl ?_
  refine st_aload_n rfl rfl (by decide) ?_
  refine st_aload_n rfl rfl (by decide) ?_
  refine st_getI (kk := 1) rfl rfl (by decide) rfl ?_
  refine st_putI (kk := 1) rfl rfl rfl rfl ?_
  refine st_aload_n rfl rfl (by decide) ?_
  refine st_getR (kk := 2) rfl rfl rfl (pz_175_2 hB) rfl ?_
  refine st_iconst rfl ?_
  refine st_aload_n rfl rfl (by decide) ?_
  refine st_getR (kk := 2) rfl rfl rfl (pz_26_2 hP) rfl ?_
  refine st_iconst rfl ?_
  refine st_bipush rfl ?_
  refine st_copy rfl rfl rfl (Or.inl rfl) (by omega) (by omega) (by omega) (by omega) (by omega) (Nat.le_of_ble_eq_true rfl) ?_
  refine st_ret rfl ?_
  exact ⟨rfl, rfl⟩
theorem r_Catalogue_become_10_159 {d N : Nat} {P : am_P} {H : am_H}  (hP : PZ P) (hB : PB P 159) : am_R (d + 1) 149 [am_r 28, am_r 177] (N, P, H) none (N, P, bcCatalogue H 28 177) := by
  refine am_en1 (d := d + 0) (ml := 2) (ls := [_, _]) cq_Catalogue_become rfl (Nat.le_of_ble_eq_true rfl) rfl ?_
  refine st_aload_n rfl rfl (by decide) ?_
  refine st_aload_n rfl rfl (by decide) ?_
  refine st_getI (kk := 0) rfl rfl (by decide) rfl ?_
  refine st_putI (kk := 0) rfl rfl rfl rfl ?_
  refine st_aload_n rfl rfl (by decide) ?_
  refine st_getR (kk := 1) rfl rfl rfl (pz_177_1 hB) rfl ?_
  refine st_iconst rfl ?_
  refine st_aload_n rfl rfl (by decide) ?_
  refine st_getR (kk := 1) rfl rfl rfl (pz_28_1 hP) rfl ?_
  refine st_iconst rfl ?_
  refine st_sipush rfl ?_
  refine st_copy rfl rfl rfl (Or.inl rfl) (by omega) (by omega) (by omega) (by omega) (by omega) (Nat.le_of_ble_eq_true rfl) ?_
  refine st_aload_n rfl rfl (by decide) ?_
  refine st_getR (kk := 2) rfl rfl rfl (pz_177_2 hB) rfl ?_
  refine st_iconst rfl ?_
  refine st_aload_n rfl rfl (by decide) ?_
  refine st_getR (kk := 2) rfl rfl rfl (pz_28_2 hP) rfl ?_
  refine st_iconst rfl ?_
  refine st_sipush rfl ?_
  refine st_copy rfl rfl rfl (Or.inl rfl) (by omega) (by omega) (by omega) (by omega) (by omega) (Nat.le_of_ble_eq_true rfl) ?_
  refine st_aload_n rfl rfl (by decide) ?_
  refine st_getR (kk := 3) rfl rfl rfl (pz_177_3 hB) rfl ?_
  refine st_iconst rfl ?_
  refine st_aload_n rfl rfl (by decide) ?_
  refine st_getR (kk := 3) rfl rfl rfl (pz_28_3 hP) rfl ?_
  refine st_iconst rfl ?_
  refine st_bipush rfl ?_
  refine st_copy rfl rfl rfl (Or.inl rfl) (by omega) (by omega) (by omega) (by omega) (by omega) (Nat.le_of_ble_eq_true rfl) ?_
  refine st_aload_n rfl rfl (by decide) ?_
  refine st_getR (kk := 4) rfl rfl rfl (pz_177_4 hB) rfl ?_
  refine st_iconst rfl ?_
  refine st_aload_n rfl rfl (by decide) ?_
  refine st_getR (kk := 4) rfl rfl rfl (pz_28_4 hP) rfl ?_
  refine st_iconst rfl ?_
  refine st_sipush rfl ?_
  refine st_copy rfl rfl rfl (Or.inl rfl) (by omega) (by omega) (by omega) (by omega) (by omega) (Nat.le_of_ble_eq_true rfl) ?_
  refine st_ret rfl ?_
  exact ⟨rfl, rfl⟩
theorem r_Growths_become_10_159 {d N : Nat} {P : am_P} {H : am_H}  (hP : PZ P) (hB : PB P 159) : am_R (d + 1) 155 [am_r 33, am_r 182] (N, P, H) none (N, P, bcGrowths H 33 182) := by
  refine am_en1 (d := d + 0) (ml := 2) (ls := [_, _]) cq_Growths_become rfl (Nat.le_of_ble_eq_true rfl) rfl ?_
  refine st_aload_n rfl rfl (by decide) ?_
  refine st_aload_n rfl rfl (by decide) ?_
  refine st_getI (kk := 0) rfl rfl (by decide) rfl ?_
  refine st_putI (kk := 0) rfl rfl rfl rfl ?_
  refine st_aload_n rfl rfl (by decide) ?_
  refine st_getR (kk := 1) rfl rfl rfl (pz_182_1 hB) rfl ?_
  refine st_iconst rfl ?_
  refine st_aload_n rfl rfl (by decide) ?_
  refine st_getR (kk := 1) rfl rfl rfl (pz_33_1 hP) rfl ?_
  refine st_iconst rfl ?_
  refine st_bipush rfl ?_
  refine st_copy rfl rfl rfl (Or.inl rfl) (by omega) (by omega) (by omega) (by omega) (by omega) (Nat.le_of_ble_eq_true rfl) ?_
  refine st_aload_n rfl rfl (by decide) ?_
  refine st_getR (kk := 2) rfl rfl rfl (pz_182_2 hB) rfl ?_
  refine st_iconst rfl ?_
  refine st_aload_n rfl rfl (by decide) ?_
  refine st_getR (kk := 2) rfl rfl rfl (pz_33_2 hP) rfl ?_
  refine st_iconst rfl ?_
  refine st_bipush rfl ?_
  refine st_copy rfl rfl rfl (Or.inl rfl) (by omega) (by omega) (by omega) (by omega) (by omega) (Nat.le_of_ble_eq_true rfl) ?_
  refine st_aload_n rfl rfl (by decide) ?_
  refine st_getR (kk := 3) rfl rfl rfl (pz_182_3 hB) rfl ?_
  refine st_iconst rfl ?_
  refine st_aload_n rfl rfl (by decide) ?_
  refine st_getR (kk := 3) rfl rfl rfl (pz_33_3 hP) rfl ?_
  refine st_iconst rfl ?_
  refine st_bipush rfl ?_
  refine st_copy rfl rfl rfl (Or.inl rfl) (by omega) (by omega) (by omega) (by omega) (by omega) (Nat.le_of_ble_eq_true rfl) ?_
  refine st_ret rfl ?_
  exact ⟨rfl, rfl⟩
theorem r_State_become_10_159 {d N : Nat} {P : am_P} {H : am_H}  (hP : PZ P) (hB : PB P 159) : am_R (d + 2) 230 [am_r 10, am_r 159] (N, P, H) none (N, P, bcS H 10 159) := by
  refine am_en1 (d := d + 1) (ml := 2) (ls := [_, _]) cq_State_become rfl (Nat.le_of_ble_eq_true rfl) rfl ?_
  refine st_aload_n rfl rfl (by decide) ?_
  refine st_getR (kk := 0) rfl rfl rfl (pz_10_0 hP) rfl ?_
  refine st_aload_n rfl rfl (by decide) ?_
  refine st_getR (kk := 0) rfl rfl rfl (pz_159_0 hB) rfl ?_
  refine st_cv0 (w := []) rfl rfl rfl (Nat.le_of_ble_eq_true rfl) (Nat.le_of_ble_eq_true rfl) rfl rfl (r_Marks_become_10_159 hP hB) ?_
  refine st_aload_n rfl rfl (by decide) ?_
  refine st_getR (kk := 1) rfl rfl rfl (pz_10_1 hP) rfl ?_
  refine st_aload_n rfl rfl (by decide) ?_
  refine st_getR (kk := 1) rfl rfl rfl (pz_159_1 hB) rfl ?_
  refine st_cv0 (w := []) rfl rfl rfl (Nat.le_of_ble_eq_true rfl) (Nat.le_of_ble_eq_true rfl) rfl rfl (r_Stacks_become_10_159 hP hB) ?_
  refine st_aload_n rfl rfl (by decide) ?_
  refine st_getR (kk := 2) rfl rfl rfl (pz_10_2 hP) rfl ?_
  refine st_aload_n rfl rfl (by decide) ?_
  refine st_getR (kk := 2) rfl rfl rfl (pz_159_2 hB) rfl ?_
  refine st_cv0 (w := []) rfl rfl rfl (Nat.le_of_ble_eq_true rfl) (Nat.le_of_ble_eq_true rfl) rfl rfl (r_Reading_become_10_159 hP hB) ?_
  refine st_aload_n rfl rfl (by decide) ?_
  refine st_getR (kk := 3) rfl rfl rfl (pz_10_3 hP) rfl ?_
  refine st_aload_n rfl rfl (by decide) ?_
  refine st_getR (kk := 3) rfl rfl rfl (pz_159_3 hB) rfl ?_
  refine st_cv0 (w := []) rfl rfl rfl (Nat.le_of_ble_eq_true rfl) (Nat.le_of_ble_eq_true rfl) rfl rfl (r_Catalogue_become_10_159 hP hB) ?_
  refine st_aload_n rfl rfl (by decide) ?_
  refine st_getR (kk := 4) rfl rfl rfl (pz_10_4 hP) rfl ?_
  refine st_aload_n rfl rfl (by decide) ?_
  refine st_getR (kk := 4) rfl rfl rfl (pz_159_4 hB) rfl ?_
  refine st_cv0 (w := []) rfl rfl rfl (Nat.le_of_ble_eq_true rfl) (Nat.le_of_ble_eq_true rfl) rfl rfl (r_Growths_become_10_159 hP hB) ?_
  refine st_aload_n rfl rfl (by decide) ?_
  refine st_aload_n rfl rfl (by decide) ?_
  refine st_getI (kk := 5) rfl rfl (by decide) rfl ?_
  refine st_putI (kk := 5) rfl rfl rfl rfl ?_
  refine st_ret rfl ?_
  exact ⟨rfl, rfl⟩
theorem r_Marks_become_159_10 {d N : Nat} {P : am_P} {H : am_H}  (hP : PZ P) (hB : PB P 159) : am_R (d + 1) 168 [am_r 160, am_r 11] (N, P, H) none (N, P, bcMarks H 160 11) := by
  refine am_en1 (d := d + 0) (ml := 2) (ls := [_, _]) cq_Marks_become rfl (Nat.le_of_ble_eq_true rfl) rfl ?_
  refine st_aload_n rfl rfl (by decide) ?_
  refine st_aload_n rfl rfl (by decide) ?_
  refine st_getI (kk := 0) rfl rfl (by decide) rfl ?_
  refine st_putI (kk := 0) rfl rfl rfl rfl ?_
  refine st_aload_n rfl rfl (by decide) ?_
  refine st_getR (kk := 1) rfl rfl rfl (pz_11_1 hP) rfl ?_
  refine st_iconst rfl ?_
  refine st_aload_n rfl rfl (by decide) ?_
  refine st_getR (kk := 1) rfl rfl rfl (pz_160_1 hB) rfl ?_
  refine st_iconst rfl ?_
  refine st_sipush rfl ?_
  refine st_copy rfl rfl rfl (Or.inl rfl) (by omega) (by omega) (by omega) (by omega) (by omega) (Nat.le_of_ble_eq_true rfl) ?_
  refine st_aload_n rfl rfl (by decide) ?_
  refine st_getR (kk := 2) rfl rfl rfl (pz_11_2 hP) rfl ?_
  refine st_iconst rfl ?_
  refine st_aload_n rfl rfl (by decide) ?_
  refine st_getR (kk := 2) rfl rfl rfl (pz_160_2 hB) rfl ?_
  refine st_iconst rfl ?_
  refine st_sipush rfl ?_
  refine st_copy rfl rfl rfl (Or.inr rfl) (by omega) (by omega) (by omega) (by omega) (by omega) (Nat.le_of_ble_eq_true rfl) ?_
  refine st_ret rfl ?_
  exact ⟨rfl, rfl⟩
theorem r_Stacks_become_159_10 {d N : Nat} {P : am_P} {H : am_H}  (hP : PZ P) (hB : PB P 159) : am_R (d + 1) 227 [am_r 163, am_r 14] (N, P, H) none (N, P, bcStacks H 163 14) := by
  refine am_en1 (d := d + 0) (ml := 2) (ls := [_, _]) cq_Stacks_become rfl (Nat.le_of_ble_eq_true rfl) rfl ?_
  refine st_aload_n rfl rfl (by decide) ?_
  refine st_aload_n rfl rfl (by decide) ?_
  refine st_getI (kk := 0) rfl rfl (by decide) rfl ?_
  refine st_putI (kk := 0) rfl rfl rfl rfl ?_
  refine st_aload_n rfl rfl (by decide) ?_
  refine st_getR (kk := 1) rfl rfl rfl (pz_14_1 hP) rfl ?_
  refine st_iconst rfl ?_
  refine st_aload_n rfl rfl (by decide) ?_
  refine st_getR (kk := 1) rfl rfl rfl (pz_163_1 hB) rfl ?_
  refine st_iconst rfl ?_
  refine st_bipush rfl ?_
  refine st_copy rfl rfl rfl (Or.inl rfl) (by omega) (by omega) (by omega) (by omega) (by omega) (Nat.le_of_ble_eq_true rfl) ?_
  refine st_aload_n rfl rfl (by decide) ?_
  refine st_getR (kk := 2) rfl rfl rfl (pz_14_2 hP) rfl ?_
  refine st_iconst rfl ?_
  refine st_aload_n rfl rfl (by decide) ?_
  refine st_getR (kk := 2) rfl rfl rfl (pz_163_2 hB) rfl ?_
  refine st_iconst rfl ?_
  refine st_bipush rfl ?_
  refine st_copy rfl rfl rfl (Or.inl rfl) (by omega) (by omega) (by omega) (by omega) (by omega) (Nat.le_of_ble_eq_true rfl) ?_
  refine st_aload_n rfl rfl (by decide) ?_
  refine st_getR (kk := 3) rfl rfl rfl (pz_14_3 hP) rfl ?_
  refine st_iconst rfl ?_
  refine st_aload_n rfl rfl (by decide) ?_
  refine st_getR (kk := 3) rfl rfl rfl (pz_163_3 hB) rfl ?_
  refine st_iconst rfl ?_
  refine st_sipush rfl ?_
  refine st_copy rfl rfl rfl (Or.inl rfl) (by omega) (by omega) (by omega) (by omega) (by omega) (Nat.le_of_ble_eq_true rfl) ?_
  refine st_aload_n rfl rfl (by decide) ?_
  refine st_aload_n rfl rfl (by decide) ?_
  refine st_getI (kk := 4) rfl rfl (by decide) rfl ?_
  refine st_putI (kk := 4) rfl rfl rfl rfl ?_
  refine st_aload_n rfl rfl (by decide) ?_
  refine st_getR (kk := 5) rfl rfl rfl (pz_14_5 hP) rfl ?_
  refine st_iconst rfl ?_
  refine st_aload_n rfl rfl (by decide) ?_
  refine st_getR (kk := 5) rfl rfl rfl (pz_163_5 hB) rfl ?_
  refine st_iconst rfl ?_
  refine st_sipush rfl ?_
  refine st_copy rfl rfl rfl (Or.inl rfl) (by omega) (by omega) (by omega) (by omega) (by omega) (Nat.le_of_ble_eq_true rfl) ?_
  refine st_aload_n rfl rfl (by decide) ?_
  refine st_getR (kk := 6) rfl rfl rfl (pz_14_6 hP) rfl ?_
  refine st_iconst rfl ?_
  refine st_aload_n rfl rfl (by decide) ?_
  refine st_getR (kk := 6) rfl rfl rfl (pz_163_6 hB) rfl ?_
  refine st_iconst rfl ?_
  refine st_sipush rfl ?_
  refine st_copy rfl rfl rfl (Or.inl rfl) (by omega) (by omega) (by omega) (by omega) (by omega) (Nat.le_of_ble_eq_true rfl) ?_
  refine st_aload_n rfl rfl (by decide) ?_
  refine st_getR (kk := 7) rfl rfl rfl (pz_14_7 hP) rfl ?_
  refine st_iconst rfl ?_
  refine st_aload_n rfl rfl (by decide) ?_
  refine st_getR (kk := 7) rfl rfl rfl (pz_163_7 hB) rfl ?_
  refine st_iconst rfl ?_
  refine st_sipush rfl ?_
  refine st_copy rfl rfl rfl (Or.inl rfl) (by omega) (by omega) (by omega) (by omega) (by omega) (Nat.le_of_ble_eq_true rfl) ?_
  refine st_aload_n rfl rfl (by decide) ?_
  refine st_getR (kk := 8) rfl rfl rfl (pz_14_8 hP) rfl ?_
  refine st_iconst rfl ?_
  refine st_aload_n rfl rfl (by decide) ?_
  refine st_getR (kk := 8) rfl rfl rfl (pz_163_8 hB) rfl ?_
  refine st_iconst rfl ?_
  refine st_sipush rfl ?_
  refine st_copy rfl rfl rfl (Or.inl rfl) (by omega) (by omega) (by omega) (by omega) (by omega) (Nat.le_of_ble_eq_true rfl) ?_
  refine st_aload_n rfl rfl (by decide) ?_
  refine st_getR (kk := 9) rfl rfl rfl (pz_14_9 hP) rfl ?_
  refine st_iconst rfl ?_
  refine st_aload_n rfl rfl (by decide) ?_
  refine st_getR (kk := 9) rfl rfl rfl (pz_163_9 hB) rfl ?_
  refine st_iconst rfl ?_
  refine st_sipush rfl ?_
  refine st_copy rfl rfl rfl (Or.inl rfl) (by omega) (by omega) (by omega) (by omega) (by omega) (Nat.le_of_ble_eq_true rfl) ?_
  refine st_aload_n rfl rfl (by decide) ?_
  refine st_getR (kk := 10) rfl rfl rfl (pz_14_10 hP) rfl ?_
  refine st_iconst rfl ?_
  refine st_aload_n rfl rfl (by decide) ?_
  refine st_getR (kk := 10) rfl rfl rfl (pz_163_10 hB) rfl ?_
  refine st_iconst rfl ?_
  refine st_sipush rfl ?_
  refine st_copy rfl rfl rfl (Or.inl rfl) (by omega) (by omega) (by omega) (by omega) (by omega) (Nat.le_of_ble_eq_true rfl) ?_
  refine st_aload_n rfl rfl (by decide) ?_
  refine st_getR (kk := 11) rfl rfl rfl (pz_14_11 hP) rfl ?_
  refine st_iconst rfl ?_
  refine st_aload_n rfl rfl (by decide) ?_
  refine st_getR (kk := 11) rfl rfl rfl (pz_163_11 hB) rfl ?_
  refine st_iconst rfl ?_
  refine st_sipush rfl ?_
  refine st_copy rfl rfl rfl (Or.inl rfl) (by omega) (by omega) (by omega) (by omega) (by omega) (Nat.le_of_ble_eq_true rfl) ?_
  refine st_aload_n rfl rfl (by decide) ?_
  refine st_getR (kk := 12) rfl rfl rfl (pz_14_12 hP) rfl ?_
  refine st_iconst rfl ?_
  refine st_aload_n rfl rfl (by decide) ?_
  refine st_getR (kk := 12) rfl rfl rfl (pz_163_12 hB) rfl ?_
  refine st_iconst rfl ?_
  refine st_sipush rfl ?_
  refine st_copy rfl rfl rfl (Or.inl rfl) (by omega) (by omega) (by omega) (by omega) (by omega) (Nat.le_of_ble_eq_true rfl) ?_
  refine st_ret rfl ?_
  exact ⟨rfl, rfl⟩
theorem r_Reading_become_159_10 {d N : Nat} {P : am_P} {H : am_H}  (hP : PZ P) (hB : PB P 159) : am_R (d + 1) 189 [am_r 175, am_r 26] (N, P, H) none (N, P, bcReading H 175 26) := by
  refine am_en1 (d := d + 0) (ml := 2) (ls := [_, _]) cq_Reading_become rfl (Nat.le_of_ble_eq_true rfl) rfl ?_
  refine st_aload_n rfl rfl (by decide) ?_
  refine st_aload_n rfl rfl (by decide) ?_
  refine st_getI (kk := 0) rfl rfl (by decide) rfl ?_
  refine st_putI (kk := 0) rfl rfl rfl rfl ?_
  refine st_aload_n rfl rfl (by decide) ?_
  refine st_aload_n rfl rfl (by decide) ?_
  refine st_getI (kk := 1) rfl rfl (by decide) rfl ?_
  refine st_putI (kk := 1) rfl rfl rfl rfl ?_
  refine st_aload_n rfl rfl (by decide) ?_
  refine st_getR (kk := 2) rfl rfl rfl (pz_26_2 hP) rfl ?_
  refine st_iconst rfl ?_
  refine st_aload_n rfl rfl (by decide) ?_
  refine st_getR (kk := 2) rfl rfl rfl (pz_175_2 hB) rfl ?_
  refine st_iconst rfl ?_
  refine st_bipush rfl ?_
  refine st_copy rfl rfl rfl (Or.inl rfl) (by omega) (by omega) (by omega) (by omega) (by omega) (Nat.le_of_ble_eq_true rfl) ?_
  refine st_ret rfl ?_
  exact ⟨rfl, rfl⟩
theorem r_Catalogue_become_159_10 {d N : Nat} {P : am_P} {H : am_H}  (hP : PZ P) (hB : PB P 159) : am_R (d + 1) 149 [am_r 177, am_r 28] (N, P, H) none (N, P, bcCatalogue H 177 28) := by
  refine am_en1 (d := d + 0) (ml := 2) (ls := [_, _]) cq_Catalogue_become rfl (Nat.le_of_ble_eq_true rfl) rfl ?_
  refine st_aload_n rfl rfl (by decide) ?_
  refine st_aload_n rfl rfl (by decide) ?_
  refine st_getI (kk := 0) rfl rfl (by decide) rfl ?_
  refine st_putI (kk := 0) rfl rfl rfl rfl ?_
  refine st_aload_n rfl rfl (by decide) ?_
  refine st_getR (kk := 1) rfl rfl rfl (pz_28_1 hP) rfl ?_
  refine st_iconst rfl ?_
  refine st_aload_n rfl rfl (by decide) ?_
  refine st_getR (kk := 1) rfl rfl rfl (pz_177_1 hB) rfl ?_
  refine st_iconst rfl ?_
  refine st_sipush rfl ?_
  refine st_copy rfl rfl rfl (Or.inl rfl) (by omega) (by omega) (by omega) (by omega) (by omega) (Nat.le_of_ble_eq_true rfl) ?_
  refine st_aload_n rfl rfl (by decide) ?_
  refine st_getR (kk := 2) rfl rfl rfl (pz_28_2 hP) rfl ?_
  refine st_iconst rfl ?_
  refine st_aload_n rfl rfl (by decide) ?_
  refine st_getR (kk := 2) rfl rfl rfl (pz_177_2 hB) rfl ?_
  refine st_iconst rfl ?_
  refine st_sipush rfl ?_
  refine st_copy rfl rfl rfl (Or.inl rfl) (by omega) (by omega) (by omega) (by omega) (by omega) (Nat.le_of_ble_eq_true rfl) ?_
  refine st_aload_n rfl rfl (by decide) ?_
  refine st_getR (kk := 3) rfl rfl rfl (pz_28_3 hP) rfl ?_
  refine st_iconst rfl ?_
  refine st_aload_n rfl rfl (by decide) ?_
  refine st_getR (kk := 3) rfl rfl rfl (pz_177_3 hB) rfl ?_
  refine st_iconst rfl ?_
  refine st_bipush rfl ?_
  refine st_copy rfl rfl rfl (Or.inl rfl) (by omega) (by omega) (by omega) (by omega) (by omega) (Nat.le_of_ble_eq_true rfl) ?_
  refine st_aload_n rfl rfl (by decide) ?_
  refine st_getR (kk := 4) rfl rfl rfl (pz_28_4 hP) rfl ?_
  refine st_iconst rfl ?_
  refine st_aload_n rfl rfl (by decide) ?_
  refine st_getR (kk := 4) rfl rfl rfl (pz_177_4 hB) rfl ?_
  refine st_iconst rfl ?_
  refine st_sipush rfl ?_
  refine st_copy rfl rfl rfl (Or.inl rfl) (by omega) (by omega) (by omega) (by omega) (by omega) (Nat.le_of_ble_eq_true rfl) ?_
  refine st_ret rfl ?_
  exact ⟨rfl, rfl⟩
theorem r_Growths_become_159_10 {d N : Nat} {P : am_P} {H : am_H}  (hP : PZ P) (hB : PB P 159) : am_R (d + 1) 155 [am_r 182, am_r 33] (N, P, H) none (N, P, bcGrowths H 182 33) := by
  refine am_en1 (d := d + 0) (ml := 2) (ls := [_, _]) cq_Growths_become rfl (Nat.le_of_ble_eq_true rfl) rfl ?_
  refine st_aload_n rfl rfl (by decide) ?_
  refine st_aload_n rfl rfl (by decide) ?_
  refine st_getI (kk := 0) rfl rfl (by decide) rfl ?_
  refine st_putI (kk := 0) rfl rfl rfl rfl ?_
  refine st_aload_n rfl rfl (by decide) ?_
  refine st_getR (kk := 1) rfl rfl rfl (pz_33_1 hP) rfl ?_
  refine st_iconst rfl ?_
  refine st_aload_n rfl rfl (by decide) ?_
  refine st_getR (kk := 1) rfl rfl rfl (pz_182_1 hB) rfl ?_
  refine st_iconst rfl ?_
  refine st_bipush rfl ?_
  refine st_copy rfl rfl rfl (Or.inl rfl) (by omega) (by omega) (by omega) (by omega) (by omega) (Nat.le_of_ble_eq_true rfl) ?_
  refine st_aload_n rfl rfl (by decide) ?_
  refine st_getR (kk := 2) rfl rfl rfl (pz_33_2 hP) rfl ?_
  refine st_iconst rfl ?_
  refine st_aload_n rfl rfl (by decide) ?_
  refine st_getR (kk := 2) rfl rfl rfl (pz_182_2 hB) rfl ?_
  refine st_iconst rfl ?_
  refine st_bipush rfl ?_
  refine st_copy rfl rfl rfl (Or.inl rfl) (by omega) (by omega) (by omega) (by omega) (by omega) (Nat.le_of_ble_eq_true rfl) ?_
  refine st_aload_n rfl rfl (by decide) ?_
  refine st_getR (kk := 3) rfl rfl rfl (pz_33_3 hP) rfl ?_
  refine st_iconst rfl ?_
  refine st_aload_n rfl rfl (by decide) ?_
  refine st_getR (kk := 3) rfl rfl rfl (pz_182_3 hB) rfl ?_
  refine st_iconst rfl ?_
  refine st_bipush rfl ?_
  refine st_copy rfl rfl rfl (Or.inl rfl) (by omega) (by omega) (by omega) (by omega) (by omega) (Nat.le_of_ble_eq_true rfl) ?_
  refine st_ret rfl ?_
  exact ⟨rfl, rfl⟩
theorem r_State_become_159_10 {d N : Nat} {P : am_P} {H : am_H}  (hP : PZ P) (hB : PB P 159) : am_R (d + 2) 230 [am_r 159, am_r 10] (N, P, H) none (N, P, bcS H 159 10) := by
  refine am_en1 (d := d + 1) (ml := 2) (ls := [_, _]) cq_State_become rfl (Nat.le_of_ble_eq_true rfl) rfl ?_
  refine st_aload_n rfl rfl (by decide) ?_
  refine st_getR (kk := 0) rfl rfl rfl (pz_159_0 hB) rfl ?_
  refine st_aload_n rfl rfl (by decide) ?_
  refine st_getR (kk := 0) rfl rfl rfl (pz_10_0 hP) rfl ?_
  refine st_cv0 (w := []) rfl rfl rfl (Nat.le_of_ble_eq_true rfl) (Nat.le_of_ble_eq_true rfl) rfl rfl (r_Marks_become_159_10 hP hB) ?_
  refine st_aload_n rfl rfl (by decide) ?_
  refine st_getR (kk := 1) rfl rfl rfl (pz_159_1 hB) rfl ?_
  refine st_aload_n rfl rfl (by decide) ?_
  refine st_getR (kk := 1) rfl rfl rfl (pz_10_1 hP) rfl ?_
  refine st_cv0 (w := []) rfl rfl rfl (Nat.le_of_ble_eq_true rfl) (Nat.le_of_ble_eq_true rfl) rfl rfl (r_Stacks_become_159_10 hP hB) ?_
  refine st_aload_n rfl rfl (by decide) ?_
  refine st_getR (kk := 2) rfl rfl rfl (pz_159_2 hB) rfl ?_
  refine st_aload_n rfl rfl (by decide) ?_
  refine st_getR (kk := 2) rfl rfl rfl (pz_10_2 hP) rfl ?_
  refine st_cv0 (w := []) rfl rfl rfl (Nat.le_of_ble_eq_true rfl) (Nat.le_of_ble_eq_true rfl) rfl rfl (r_Reading_become_159_10 hP hB) ?_
  refine st_aload_n rfl rfl (by decide) ?_
  refine st_getR (kk := 3) rfl rfl rfl (pz_159_3 hB) rfl ?_
  refine st_aload_n rfl rfl (by decide) ?_
  refine st_getR (kk := 3) rfl rfl rfl (pz_10_3 hP) rfl ?_
  refine st_cv0 (w := []) rfl rfl rfl (Nat.le_of_ble_eq_true rfl) (Nat.le_of_ble_eq_true rfl) rfl rfl (r_Catalogue_become_159_10 hP hB) ?_
  refine st_aload_n rfl rfl (by decide) ?_
  refine st_getR (kk := 4) rfl rfl rfl (pz_159_4 hB) rfl ?_
  refine st_aload_n rfl rfl (by decide) ?_
  refine st_getR (kk := 4) rfl rfl rfl (pz_10_4 hP) rfl ?_
  refine st_cv0 (w := []) rfl rfl rfl (Nat.le_of_ble_eq_true rfl) (Nat.le_of_ble_eq_true rfl) rfl rfl (r_Growths_become_159_10 hP hB) ?_
  refine st_aload_n rfl rfl (by decide) ?_
  refine st_aload_n rfl rfl (by decide) ?_
  refine st_getI (kk := 5) rfl rfl (by decide) rfl ?_
  refine st_putI (kk := 5) rfl rfl rfl rfl ?_
  refine st_ret rfl ?_
  exact ⟨rfl, rfl⟩
theorem r_Cart_again_72 {d N : Nat} {P : am_P} {H : am_H} {k : Int} (hP : PZ P) (hB : PB P 72) (hk : 0 ≤ k ∧ k < 4) (hk2 : P 39 k = 72) : am_R (d + 3) 42 [am_r 3, am_i (k)] (N, P, H) (some (am_i (1))) (N, P, am_up (bcS H 10 72) 43 10 0) := by
  refine am_en1 (d := d + 2) (ml := 2) (ls := [_, _]) cq_Cart_again rfl (Nat.le_of_ble_eq_true rfl) rfl ?_
  refine st_iload_n rfl rfl ?_
  refine st_if_lt rfl (fun h1 => (by exfalso; omega)) (fun h1 => ?_)
  refine st_iload_n rfl rfl ?_
  refine st_iconst rfl ?_
  refine st_icmp_ge rfl (fun h4 => (by exfalso; omega)) (fun h4 => ?_)
  refine st_aload_n rfl rfl (by decide) ?_
  refine st_getR (kk := 4) rfl rfl rfl (pz_3_4 hP) rfl ?_
  refine st_iload_n rfl rfl ?_
  refine st_aaload rfl rfl (by omega) (by omega) hk2 ?_
  refine st_nonnull rfl (fun h9 => ?_) (fun h9 => ?_)
  · refine st_aload_n rfl rfl (by decide) ?_
    refine st_getR (kk := 3) rfl rfl rfl (pz_3_3 hP) rfl ?_
    refine st_aload_n rfl rfl (by decide) ?_
    refine st_getR (kk := 4) rfl rfl rfl (pz_3_4 hP) rfl ?_
    refine st_iload_n rfl rfl ?_
    refine st_aaload rfl rfl (by omega) (by omega) hk2 ?_
    refine st_cv0 (w := []) rfl rfl rfl (Nat.le_of_ble_eq_true rfl) (Nat.le_of_ble_eq_true rfl) rfl rfl (r_State_become_10_72 hP hB) ?_
    refine st_aload_n rfl rfl (by decide) ?_
    refine st_getR (kk := 6) rfl rfl rfl (pz_3_6 hP) rfl ?_
    refine st_cv0 (w := []) rfl rfl rfl (Nat.le_of_ble_eq_true rfl) (Nat.le_of_ble_eq_true rfl) rfl rfl (r_Shifter_dropPlan hP) ?_
    refine st_iconst rfl ?_
    refine st_iret rfl (fun z => by first | exact absurd z (by decide) | exact bi_01 _ | decide | omega) ?_
    exact ⟨rfl, rfl⟩
  · refine st_iconst rfl ?_
    refine st_iret rfl (fun z => by first | exact absurd z (by decide) | exact bi_01 _ | decide | omega) ?_
    exact absurd h9 (by decide)
theorem r_Cart_again_101 {d N : Nat} {P : am_P} {H : am_H} {k : Int} (hP : PZ P) (hB : PB P 101) (hk : 0 ≤ k ∧ k < 4) (hk2 : P 39 k = 101) : am_R (d + 3) 42 [am_r 3, am_i (k)] (N, P, H) (some (am_i (1))) (N, P, am_up (bcS H 10 101) 43 10 0) := by
  refine am_en1 (d := d + 2) (ml := 2) (ls := [_, _]) cq_Cart_again rfl (Nat.le_of_ble_eq_true rfl) rfl ?_
  refine st_iload_n rfl rfl ?_
  refine st_if_lt rfl (fun h1 => (by exfalso; omega)) (fun h1 => ?_)
  refine st_iload_n rfl rfl ?_
  refine st_iconst rfl ?_
  refine st_icmp_ge rfl (fun h4 => (by exfalso; omega)) (fun h4 => ?_)
  refine st_aload_n rfl rfl (by decide) ?_
  refine st_getR (kk := 4) rfl rfl rfl (pz_3_4 hP) rfl ?_
  refine st_iload_n rfl rfl ?_
  refine st_aaload rfl rfl (by omega) (by omega) hk2 ?_
  refine st_nonnull rfl (fun h9 => ?_) (fun h9 => ?_)
  · refine st_aload_n rfl rfl (by decide) ?_
    refine st_getR (kk := 3) rfl rfl rfl (pz_3_3 hP) rfl ?_
    refine st_aload_n rfl rfl (by decide) ?_
    refine st_getR (kk := 4) rfl rfl rfl (pz_3_4 hP) rfl ?_
    refine st_iload_n rfl rfl ?_
    refine st_aaload rfl rfl (by omega) (by omega) hk2 ?_
    refine st_cv0 (w := []) rfl rfl rfl (Nat.le_of_ble_eq_true rfl) (Nat.le_of_ble_eq_true rfl) rfl rfl (r_State_become_10_101 hP hB) ?_
    refine st_aload_n rfl rfl (by decide) ?_
    refine st_getR (kk := 6) rfl rfl rfl (pz_3_6 hP) rfl ?_
    refine st_cv0 (w := []) rfl rfl rfl (Nat.le_of_ble_eq_true rfl) (Nat.le_of_ble_eq_true rfl) rfl rfl (r_Shifter_dropPlan hP) ?_
    refine st_iconst rfl ?_
    refine st_iret rfl (fun z => by first | exact absurd z (by decide) | exact bi_01 _ | decide | omega) ?_
    exact ⟨rfl, rfl⟩
  · refine st_iconst rfl ?_
    refine st_iret rfl (fun z => by first | exact absurd z (by decide) | exact bi_01 _ | decide | omega) ?_
    exact absurd h9 (by decide)
theorem r_Cart_again_130 {d N : Nat} {P : am_P} {H : am_H} {k : Int} (hP : PZ P) (hB : PB P 130) (hk : 0 ≤ k ∧ k < 4) (hk2 : P 39 k = 130) : am_R (d + 3) 42 [am_r 3, am_i (k)] (N, P, H) (some (am_i (1))) (N, P, am_up (bcS H 10 130) 43 10 0) := by
  refine am_en1 (d := d + 2) (ml := 2) (ls := [_, _]) cq_Cart_again rfl (Nat.le_of_ble_eq_true rfl) rfl ?_
  refine st_iload_n rfl rfl ?_
  refine st_if_lt rfl (fun h1 => (by exfalso; omega)) (fun h1 => ?_)
  refine st_iload_n rfl rfl ?_
  refine st_iconst rfl ?_
  refine st_icmp_ge rfl (fun h4 => (by exfalso; omega)) (fun h4 => ?_)
  refine st_aload_n rfl rfl (by decide) ?_
  refine st_getR (kk := 4) rfl rfl rfl (pz_3_4 hP) rfl ?_
  refine st_iload_n rfl rfl ?_
  refine st_aaload rfl rfl (by omega) (by omega) hk2 ?_
  refine st_nonnull rfl (fun h9 => ?_) (fun h9 => ?_)
  · refine st_aload_n rfl rfl (by decide) ?_
    refine st_getR (kk := 3) rfl rfl rfl (pz_3_3 hP) rfl ?_
    refine st_aload_n rfl rfl (by decide) ?_
    refine st_getR (kk := 4) rfl rfl rfl (pz_3_4 hP) rfl ?_
    refine st_iload_n rfl rfl ?_
    refine st_aaload rfl rfl (by omega) (by omega) hk2 ?_
    refine st_cv0 (w := []) rfl rfl rfl (Nat.le_of_ble_eq_true rfl) (Nat.le_of_ble_eq_true rfl) rfl rfl (r_State_become_10_130 hP hB) ?_
    refine st_aload_n rfl rfl (by decide) ?_
    refine st_getR (kk := 6) rfl rfl rfl (pz_3_6 hP) rfl ?_
    refine st_cv0 (w := []) rfl rfl rfl (Nat.le_of_ble_eq_true rfl) (Nat.le_of_ble_eq_true rfl) rfl rfl (r_Shifter_dropPlan hP) ?_
    refine st_iconst rfl ?_
    refine st_iret rfl (fun z => by first | exact absurd z (by decide) | exact bi_01 _ | decide | omega) ?_
    exact ⟨rfl, rfl⟩
  · refine st_iconst rfl ?_
    refine st_iret rfl (fun z => by first | exact absurd z (by decide) | exact bi_01 _ | decide | omega) ?_
    exact absurd h9 (by decide)
theorem r_Cart_again_159 {d N : Nat} {P : am_P} {H : am_H} {k : Int} (hP : PZ P) (hB : PB P 159) (hk : 0 ≤ k ∧ k < 4) (hk2 : P 39 k = 159) : am_R (d + 3) 42 [am_r 3, am_i (k)] (N, P, H) (some (am_i (1))) (N, P, am_up (bcS H 10 159) 43 10 0) := by
  refine am_en1 (d := d + 2) (ml := 2) (ls := [_, _]) cq_Cart_again rfl (Nat.le_of_ble_eq_true rfl) rfl ?_
  refine st_iload_n rfl rfl ?_
  refine st_if_lt rfl (fun h1 => (by exfalso; omega)) (fun h1 => ?_)
  refine st_iload_n rfl rfl ?_
  refine st_iconst rfl ?_
  refine st_icmp_ge rfl (fun h4 => (by exfalso; omega)) (fun h4 => ?_)
  refine st_aload_n rfl rfl (by decide) ?_
  refine st_getR (kk := 4) rfl rfl rfl (pz_3_4 hP) rfl ?_
  refine st_iload_n rfl rfl ?_
  refine st_aaload rfl rfl (by omega) (by omega) hk2 ?_
  refine st_nonnull rfl (fun h9 => ?_) (fun h9 => ?_)
  · refine st_aload_n rfl rfl (by decide) ?_
    refine st_getR (kk := 3) rfl rfl rfl (pz_3_3 hP) rfl ?_
    refine st_aload_n rfl rfl (by decide) ?_
    refine st_getR (kk := 4) rfl rfl rfl (pz_3_4 hP) rfl ?_
    refine st_iload_n rfl rfl ?_
    refine st_aaload rfl rfl (by omega) (by omega) hk2 ?_
    refine st_cv0 (w := []) rfl rfl rfl (Nat.le_of_ble_eq_true rfl) (Nat.le_of_ble_eq_true rfl) rfl rfl (r_State_become_10_159 hP hB) ?_
    refine st_aload_n rfl rfl (by decide) ?_
    refine st_getR (kk := 6) rfl rfl rfl (pz_3_6 hP) rfl ?_
    refine st_cv0 (w := []) rfl rfl rfl (Nat.le_of_ble_eq_true rfl) (Nat.le_of_ble_eq_true rfl) rfl rfl (r_Shifter_dropPlan hP) ?_
    refine st_iconst rfl ?_
    refine st_iret rfl (fun z => by first | exact absurd z (by decide) | exact bi_01 _ | decide | omega) ?_
    exact ⟨rfl, rfl⟩
  · refine st_iconst rfl ?_
    refine st_iret rfl (fun z => by first | exact absurd z (by decide) | exact bi_01 _ | decide | omega) ?_
    exact absurd h9 (by decide)
theorem r_Cart_again_n {d N : Nat} {P : am_P} {H : am_H} {k : Int} (hP : PZ P) (hk : (0 ≤ k ∧ k < 4) → P 39 k = 0) : am_R (d + 3) 42 [am_r 3, am_i (k)] (N, P, H) (some (am_i (0))) (N, P, H) := by
  refine am_en1 (d := d + 2) (ml := 2) (ls := [_, _]) cq_Cart_again rfl (Nat.le_of_ble_eq_true rfl) rfl ?_
  refine st_iload_n rfl rfl ?_
  refine st_if_lt rfl (fun h1 => ?_) (fun h1 => ?_)
  · refine st_iconst rfl ?_
    refine st_iret rfl (fun z => by first | exact absurd z (by decide) | exact bi_01 _ | decide | omega) ?_
    exact ⟨rfl, rfl⟩
  · refine st_iload_n rfl rfl ?_
    refine st_iconst rfl ?_
    refine st_icmp_ge rfl (fun h4 => ?_) (fun h4 => ?_)
    · refine st_iconst rfl ?_
      refine st_iret rfl (fun z => by first | exact absurd z (by decide) | exact bi_01 _ | decide | omega) ?_
      exact ⟨rfl, rfl⟩
    · refine st_aload_n rfl rfl (by decide) ?_
      refine st_getR (kk := 4) rfl rfl rfl (pz_3_4 hP) rfl ?_
      refine st_iload_n rfl rfl ?_
      refine st_aaload rfl rfl (by omega) (by omega) (hk (by omega)) ?_
      refine st_nonnull rfl (fun h9 => ?_) (fun h9 => ?_)
      · exact absurd rfl h9
      · refine st_iconst rfl ?_
        refine st_iret rfl (fun z => by first | exact absurd z (by decide) | exact bi_01 _ | decide | omega) ?_
        exact ⟨rfl, rfl⟩
