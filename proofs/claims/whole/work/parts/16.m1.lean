/-! ===== the reference: its small methods ===== -/
/-- where the fixed references lead -/
def PZt : List (Nat × Int × Nat) := [(3, 0, 4), (3, 1, 8), (3, 3, 10), (3, 4, 39), (3, 5, 40), (3, 6, 43), (4, 0, 5), (4, 1, 7), (5, 0, 6), (8, 0, 9), (10, 0, 11), (10, 1, 14), (10, 2, 26), (10, 3, 28), (10, 4, 33), (11, 1, 12), (11, 2, 13), (14, 1, 15), (14, 2, 16), (14, 3, 17), (14, 5, 18), (14, 6, 19), (14, 7, 20), (14, 8, 21), (14, 9, 22), (14, 10, 23), (14, 11, 24), (14, 12, 25), (26, 2, 27), (28, 1, 29), (28, 2, 30), (28, 3, 31), (28, 4, 32), (33, 1, 34), (33, 2, 35), (33, 3, 36), (33, 4, 37), (33, 5, 38), (40, 2, 41), (40, 3, 42), (43, 1, 44), (43, 2, 45), (43, 3, 46), (43, 4, 47), (43, 5, 48), (43, 6, 49), (43, 7, 50), (43, 13, 51), (43, 14, 52), (53, 0, 54), (53, 1, 55), (53, 2, 56), (53, 8, 57), (53, 9, 58), (53, 10, 59), (53, 11, 60), (53, 12, 61), (53, 14, 62), (53, 15, 63), (53, 16, 64), (53, 17, 65), (53, 18, 66), (53, 20, 67), (53, 21, 68), (53, 25, 69), (53, 26, 70), (53, 28, 71)]
def PZ (P : am_P) : Prop := ∀ q ∈ PZt, P q.1 q.2.1 = q.2.2
theorem pz_3_0 {P : am_P} (h : PZ P) : P 3 0 = 4 := h (3, 0, 4) (by decide +kernel)
theorem pz_3_1 {P : am_P} (h : PZ P) : P 3 1 = 8 := h (3, 1, 8) (by decide +kernel)
theorem pz_3_3 {P : am_P} (h : PZ P) : P 3 3 = 10 := h (3, 3, 10) (by decide +kernel)
theorem pz_3_4 {P : am_P} (h : PZ P) : P 3 4 = 39 := h (3, 4, 39) (by decide +kernel)
theorem pz_3_5 {P : am_P} (h : PZ P) : P 3 5 = 40 := h (3, 5, 40) (by decide +kernel)
theorem pz_3_6 {P : am_P} (h : PZ P) : P 3 6 = 43 := h (3, 6, 43) (by decide +kernel)
theorem pz_4_0 {P : am_P} (h : PZ P) : P 4 0 = 5 := h (4, 0, 5) (by decide +kernel)
theorem pz_4_1 {P : am_P} (h : PZ P) : P 4 1 = 7 := h (4, 1, 7) (by decide +kernel)
theorem pz_5_0 {P : am_P} (h : PZ P) : P 5 0 = 6 := h (5, 0, 6) (by decide +kernel)
theorem pz_8_0 {P : am_P} (h : PZ P) : P 8 0 = 9 := h (8, 0, 9) (by decide +kernel)
theorem pz_10_0 {P : am_P} (h : PZ P) : P 10 0 = 11 := h (10, 0, 11) (by decide +kernel)
theorem pz_10_1 {P : am_P} (h : PZ P) : P 10 1 = 14 := h (10, 1, 14) (by decide +kernel)
theorem pz_10_2 {P : am_P} (h : PZ P) : P 10 2 = 26 := h (10, 2, 26) (by decide +kernel)
theorem pz_10_3 {P : am_P} (h : PZ P) : P 10 3 = 28 := h (10, 3, 28) (by decide +kernel)
theorem pz_10_4 {P : am_P} (h : PZ P) : P 10 4 = 33 := h (10, 4, 33) (by decide +kernel)
theorem pz_11_1 {P : am_P} (h : PZ P) : P 11 1 = 12 := h (11, 1, 12) (by decide +kernel)
theorem pz_11_2 {P : am_P} (h : PZ P) : P 11 2 = 13 := h (11, 2, 13) (by decide +kernel)
theorem pz_14_1 {P : am_P} (h : PZ P) : P 14 1 = 15 := h (14, 1, 15) (by decide +kernel)
theorem pz_14_2 {P : am_P} (h : PZ P) : P 14 2 = 16 := h (14, 2, 16) (by decide +kernel)
theorem pz_14_3 {P : am_P} (h : PZ P) : P 14 3 = 17 := h (14, 3, 17) (by decide +kernel)
theorem pz_14_5 {P : am_P} (h : PZ P) : P 14 5 = 18 := h (14, 5, 18) (by decide +kernel)
theorem pz_14_6 {P : am_P} (h : PZ P) : P 14 6 = 19 := h (14, 6, 19) (by decide +kernel)
theorem pz_14_7 {P : am_P} (h : PZ P) : P 14 7 = 20 := h (14, 7, 20) (by decide +kernel)
theorem pz_14_8 {P : am_P} (h : PZ P) : P 14 8 = 21 := h (14, 8, 21) (by decide +kernel)
theorem pz_14_9 {P : am_P} (h : PZ P) : P 14 9 = 22 := h (14, 9, 22) (by decide +kernel)
theorem pz_14_10 {P : am_P} (h : PZ P) : P 14 10 = 23 := h (14, 10, 23) (by decide +kernel)
theorem pz_14_11 {P : am_P} (h : PZ P) : P 14 11 = 24 := h (14, 11, 24) (by decide +kernel)
theorem pz_14_12 {P : am_P} (h : PZ P) : P 14 12 = 25 := h (14, 12, 25) (by decide +kernel)
theorem pz_26_2 {P : am_P} (h : PZ P) : P 26 2 = 27 := h (26, 2, 27) (by decide +kernel)
theorem pz_28_1 {P : am_P} (h : PZ P) : P 28 1 = 29 := h (28, 1, 29) (by decide +kernel)
theorem pz_28_2 {P : am_P} (h : PZ P) : P 28 2 = 30 := h (28, 2, 30) (by decide +kernel)
theorem pz_28_3 {P : am_P} (h : PZ P) : P 28 3 = 31 := h (28, 3, 31) (by decide +kernel)
theorem pz_28_4 {P : am_P} (h : PZ P) : P 28 4 = 32 := h (28, 4, 32) (by decide +kernel)
theorem pz_33_1 {P : am_P} (h : PZ P) : P 33 1 = 34 := h (33, 1, 34) (by decide +kernel)
theorem pz_33_2 {P : am_P} (h : PZ P) : P 33 2 = 35 := h (33, 2, 35) (by decide +kernel)
theorem pz_33_3 {P : am_P} (h : PZ P) : P 33 3 = 36 := h (33, 3, 36) (by decide +kernel)
theorem pz_33_4 {P : am_P} (h : PZ P) : P 33 4 = 37 := h (33, 4, 37) (by decide +kernel)
theorem pz_33_5 {P : am_P} (h : PZ P) : P 33 5 = 38 := h (33, 5, 38) (by decide +kernel)
theorem pz_40_2 {P : am_P} (h : PZ P) : P 40 2 = 41 := h (40, 2, 41) (by decide +kernel)
theorem pz_40_3 {P : am_P} (h : PZ P) : P 40 3 = 42 := h (40, 3, 42) (by decide +kernel)
theorem pz_43_1 {P : am_P} (h : PZ P) : P 43 1 = 44 := h (43, 1, 44) (by decide +kernel)
theorem pz_43_2 {P : am_P} (h : PZ P) : P 43 2 = 45 := h (43, 2, 45) (by decide +kernel)
theorem pz_43_3 {P : am_P} (h : PZ P) : P 43 3 = 46 := h (43, 3, 46) (by decide +kernel)
theorem pz_43_4 {P : am_P} (h : PZ P) : P 43 4 = 47 := h (43, 4, 47) (by decide +kernel)
theorem pz_43_5 {P : am_P} (h : PZ P) : P 43 5 = 48 := h (43, 5, 48) (by decide +kernel)
theorem pz_43_6 {P : am_P} (h : PZ P) : P 43 6 = 49 := h (43, 6, 49) (by decide +kernel)
theorem pz_43_7 {P : am_P} (h : PZ P) : P 43 7 = 50 := h (43, 7, 50) (by decide +kernel)
theorem pz_43_13 {P : am_P} (h : PZ P) : P 43 13 = 51 := h (43, 13, 51) (by decide +kernel)
theorem pz_43_14 {P : am_P} (h : PZ P) : P 43 14 = 52 := h (43, 14, 52) (by decide +kernel)
theorem pz_53_0 {P : am_P} (h : PZ P) : P 53 0 = 54 := h (53, 0, 54) (by decide +kernel)
theorem pz_53_1 {P : am_P} (h : PZ P) : P 53 1 = 55 := h (53, 1, 55) (by decide +kernel)
theorem pz_53_2 {P : am_P} (h : PZ P) : P 53 2 = 56 := h (53, 2, 56) (by decide +kernel)
theorem pz_53_8 {P : am_P} (h : PZ P) : P 53 8 = 57 := h (53, 8, 57) (by decide +kernel)
theorem pz_53_9 {P : am_P} (h : PZ P) : P 53 9 = 58 := h (53, 9, 58) (by decide +kernel)
theorem pz_53_10 {P : am_P} (h : PZ P) : P 53 10 = 59 := h (53, 10, 59) (by decide +kernel)
theorem pz_53_11 {P : am_P} (h : PZ P) : P 53 11 = 60 := h (53, 11, 60) (by decide +kernel)
theorem pz_53_12 {P : am_P} (h : PZ P) : P 53 12 = 61 := h (53, 12, 61) (by decide +kernel)
theorem pz_53_14 {P : am_P} (h : PZ P) : P 53 14 = 62 := h (53, 14, 62) (by decide +kernel)
theorem pz_53_15 {P : am_P} (h : PZ P) : P 53 15 = 63 := h (53, 15, 63) (by decide +kernel)
theorem pz_53_16 {P : am_P} (h : PZ P) : P 53 16 = 64 := h (53, 16, 64) (by decide +kernel)
theorem pz_53_17 {P : am_P} (h : PZ P) : P 53 17 = 65 := h (53, 17, 65) (by decide +kernel)
theorem pz_53_18 {P : am_P} (h : PZ P) : P 53 18 = 66 := h (53, 18, 66) (by decide +kernel)
theorem pz_53_20 {P : am_P} (h : PZ P) : P 53 20 = 67 := h (53, 20, 67) (by decide +kernel)
theorem pz_53_21 {P : am_P} (h : PZ P) : P 53 21 = 68 := h (53, 21, 68) (by decide +kernel)
theorem pz_53_25 {P : am_P} (h : PZ P) : P 53 25 = 69 := h (53, 25, 69) (by decide +kernel)
theorem pz_53_26 {P : am_P} (h : PZ P) : P 53 26 = 70 := h (53, 26, 70) (by decide +kernel)
theorem pz_53_28 {P : am_P} (h : PZ P) : P 53 28 = 71 := h (53, 28, 71) (by decide +kernel)
theorem r_Model_isIn {d N : Nat} {P : am_P} {H : am_H} {v m : Int}  : am_R (d + 1) 44 [am_i (v), am_i (m)] (N, P, H) (some (am_i (bi (0 ≤ v ∧ v < m)))) (N, P, H) := by
  refine am_en1 (d := d + 0) (ml := 2) (ls := [_, _]) cq_Model_isIn rfl (Nat.le_of_ble_eq_true rfl) rfl ?_
  refine st_iload_n rfl rfl ?_
  refine st_if_lt rfl (fun h1 => ?_) (fun h1 => ?_)
  · refine st_iconst rfl ?_
    refine st_iret rfl (fun z => by first | exact absurd z (by decide) | exact bi_01 _ | decide | omega) ?_
    exact ⟨am_ri (by first | rfl | exact bi_iff (by omega) | exact (bi_t (by omega)).symm | exact (bi_f (by omega)).symm), rfl⟩
  · refine st_iload_n rfl rfl ?_
    refine st_iload_n rfl rfl ?_
    refine st_icmp_ge rfl (fun h4 => ?_) (fun h4 => ?_)
    · refine st_iconst rfl ?_
      refine st_iret rfl (fun z => by first | exact absurd z (by decide) | exact bi_01 _ | decide | omega) ?_
      exact ⟨am_ri (by first | rfl | exact bi_iff (by omega) | exact (bi_t (by omega)).symm | exact (bi_f (by omega)).symm), rfl⟩
    · refine st_iconst rfl ?_
      refine st_goto rfl ?_
      refine st_iret rfl (fun z => by first | exact absurd z (by decide) | exact bi_01 _ | decide | omega) ?_
      exact ⟨am_ri (by first | rfl | exact bi_iff (by omega) | exact (bi_t (by omega)).symm | exact (bi_f (by omega)).symm), rfl⟩
theorem r_Model_isMark {d N : Nat} {P : am_P} {H : am_H} {v : Int} (hP : PZ P) : am_R (d + 2) 45 [am_r 53, am_i (v)] (N, P, H) (some (am_i (bi (0 ≤ v ∧ v < H 54 1)))) (N, P, H) := by
  refine am_en1 (d := d + 1) (ml := 2) (ls := [_, _]) cq_Model_isMark rfl (Nat.le_of_ble_eq_true rfl) rfl ?_
  refine st_iload_n rfl rfl ?_
  refine st_aload_n rfl rfl (by decide) ?_
  refine st_getR (kk := 0) rfl rfl rfl (pz_53_0 hP) rfl ?_
  refine st_iconst rfl ?_
  refine st_iaload rfl rfl (by omega) (by omega) ?_
  refine st_cs1 (w := []) rfl (by decide) (by decide) (by decide) (Nat.le_of_ble_eq_true rfl) (Nat.le_of_ble_eq_true rfl) rfl rfl (r_Model_isIn) ?_
  refine st_iret rfl (fun z => by first | exact absurd z (by decide) | exact bi_01 _ | decide | omega) ?_
  exact ⟨am_ri (by first | rfl | exact bi_iff (by omega) | exact (bi_t (by omega)).symm | exact (bi_f (by omega)).symm), rfl⟩
theorem r_Model_isShelf {d N : Nat} {P : am_P} {H : am_H} {v : Int} (hP : PZ P) : am_R (d + 2) 46 [am_r 53, am_i (v)] (N, P, H) (some (am_i (bi (0 ≤ v ∧ v < H 54 2)))) (N, P, H) := by
  refine am_en1 (d := d + 1) (ml := 2) (ls := [_, _]) cq_Model_isShelf rfl (Nat.le_of_ble_eq_true rfl) rfl ?_
  refine st_iload_n rfl rfl ?_
  refine st_aload_n rfl rfl (by decide) ?_
  refine st_getR (kk := 0) rfl rfl rfl (pz_53_0 hP) rfl ?_
  refine st_iconst rfl ?_
  refine st_iaload rfl rfl (by omega) (by omega) ?_
  refine st_cs1 (w := []) rfl (by decide) (by decide) (by decide) (Nat.le_of_ble_eq_true rfl) (Nat.le_of_ble_eq_true rfl) rfl rfl (r_Model_isIn) ?_
  refine st_iret rfl (fun z => by first | exact absurd z (by decide) | exact bi_01 _ | decide | omega) ?_
  exact ⟨am_ri (by first | rfl | exact bi_iff (by omega) | exact (bi_t (by omega)).symm | exact (bi_f (by omega)).symm), rfl⟩
theorem r_Model_isBook {d N : Nat} {P : am_P} {H : am_H} {v : Int} (hP : PZ P) : am_R (d + 2) 47 [am_r 53, am_i (v)] (N, P, H) (some (am_i (bi (0 ≤ v ∧ v < H 54 3)))) (N, P, H) := by
  refine am_en1 (d := d + 1) (ml := 2) (ls := [_, _]) cq_Model_isBook rfl (Nat.le_of_ble_eq_true rfl) rfl ?_
  refine st_iload_n rfl rfl ?_
  refine st_aload_n rfl rfl (by decide) ?_
  refine st_getR (kk := 0) rfl rfl rfl (pz_53_0 hP) rfl ?_
  refine st_iconst rfl ?_
  refine st_iaload rfl rfl (by omega) (by omega) ?_
  refine st_cs1 (w := []) rfl (by decide) (by decide) (by decide) (Nat.le_of_ble_eq_true rfl) (Nat.le_of_ble_eq_true rfl) rfl rfl (r_Model_isIn) ?_
  refine st_iret rfl (fun z => by first | exact absurd z (by decide) | exact bi_01 _ | decide | omega) ?_
  exact ⟨am_ri (by first | rfl | exact bi_iff (by omega) | exact (bi_t (by omega)).symm | exact (bi_f (by omega)).symm), rfl⟩
/-- the byte at the reading place, or -1 -/
def hereF (H : am_H) : Int := if H 53 6 < H 53 5 then am_and (H 56 (H 53 6)) 255 else -1
theorem r_Model_here {d N : Nat} {P : am_P} {H : am_H}  (hP : PZ P) (h1 : 0 ≤ H 53 6) (h2 : H 53 5 ≤ 80) : am_R (d + 1) 49 [am_r 53] (N, P, H) (some (am_i (hereF H))) (N, P, H) := by
  refine am_en1 (d := d + 0) (ml := 1) (ls := [_]) cq_Model_here rfl (Nat.le_of_ble_eq_true rfl) rfl ?_
  refine st_aload_n rfl rfl (by decide) ?_
  refine st_getI (kk := 6) rfl rfl (by decide) rfl ?_
  refine st_aload_n rfl rfl (by decide) ?_
  refine st_getI (kk := 5) rfl rfl (by decide) rfl ?_
  refine st_icmp_ge rfl (fun h4 => ?_) (fun h4 => ?_)
  · refine st_iconst rfl ?_
    refine st_iret rfl (fun z => by first | exact absurd z (by decide) | exact bi_01 _ | decide | omega) ?_
    exact ⟨am_ri (by unfold hereF; first | rw [if_pos (by omega)] | rw [if_neg (by omega)]), rfl⟩
  · refine st_aload_n rfl rfl (by decide) ?_
    refine st_getR (kk := 2) rfl rfl rfl (pz_53_2 hP) rfl ?_
    refine st_aload_n rfl rfl (by decide) ?_
    refine st_getI (kk := 6) rfl rfl (by decide) rfl ?_
    refine st_baload rfl rfl (Or.inl rfl) (by omega) (by omega) ?_
    refine st_sipush rfl ?_
    refine st_iand rfl rfl ?_
    refine st_goto rfl ?_
    refine st_iret rfl (fun z => by first | exact absurd z (by decide) | exact bi_01 _ | decide | omega) ?_
    exact ⟨am_ri (by unfold hereF; first | rw [if_pos (by omega)] | rw [if_neg (by omega)]), rfl⟩
theorem r_Model_isDigit {d N : Nat} {P : am_P} {H : am_H}  (hP : PZ P) (h1 : 0 ≤ H 53 6) (h2 : H 53 5 ≤ 80) : am_R (d + 2) 50 [am_r 53] (N, P, H) (some (am_i (bi (48 ≤ hereF H ∧ hereF H ≤ 57)))) (N, P, H) := by
  refine am_en1 (d := d + 1) (ml := 1) (ls := [_]) cq_Model_isDigit rfl (Nat.le_of_ble_eq_true rfl) rfl ?_
  refine st_aload_n rfl rfl (by decide) ?_
  refine st_cv1 (w := []) rfl rfl rfl (Nat.le_of_ble_eq_true rfl) (Nat.le_of_ble_eq_true rfl) rfl rfl (r_Model_here hP (by omega) (by omega)) ?_
  refine st_bipush rfl ?_
  refine st_icmp_lt rfl (fun h3 => ?_) (fun h3 => ?_)
  · refine st_iconst rfl ?_
    refine st_iret rfl (fun z => by first | exact absurd z (by decide) | exact bi_01 _ | decide | omega) ?_
    exact ⟨am_ri (by first | rfl | exact bi_iff (by omega) | exact (bi_t (by omega)).symm | exact (bi_f (by omega)).symm), rfl⟩
  · refine st_aload_n rfl rfl (by decide) ?_
    refine st_cv1 (w := []) rfl rfl rfl (Nat.le_of_ble_eq_true rfl) (Nat.le_of_ble_eq_true rfl) rfl rfl (r_Model_here hP (by omega) (by omega)) ?_
    refine st_bipush rfl ?_
    refine st_icmp_gt rfl (fun h7 => ?_) (fun h7 => ?_)
    · refine st_iconst rfl ?_
      refine st_iret rfl (fun z => by first | exact absurd z (by decide) | exact bi_01 _ | decide | omega) ?_
      exact ⟨am_ri (by first | rfl | exact bi_iff (by omega) | exact (bi_t (by omega)).symm | exact (bi_f (by omega)).symm), rfl⟩
    · refine st_iconst rfl ?_
      refine st_goto rfl ?_
      refine st_iret rfl (fun z => by first | exact absurd z (by decide) | exact bi_01 _ | decide | omega) ?_
      exact ⟨am_ri (by first | rfl | exact bi_iff (by omega) | exact (bi_t (by omega)).symm | exact (bi_f (by omega)).symm), rfl⟩
theorem r_Model_isLetter {d N : Nat} {P : am_P} {H : am_H}  (hP : PZ P) (h1 : 0 ≤ H 53 6) (h2 : H 53 5 ≤ 80) : am_R (d + 2) 51 [am_r 53] (N, P, H) (some (am_i (bi (65 ≤ hereF H ∧ hereF H ≤ 90)))) (N, P, H) := by
  refine am_en1 (d := d + 1) (ml := 1) (ls := [_]) cq_Model_isLetter rfl (Nat.le_of_ble_eq_true rfl) rfl ?_
  refine st_aload_n rfl rfl (by decide) ?_
  refine st_cv1 (w := []) rfl rfl rfl (Nat.le_of_ble_eq_true rfl) (Nat.le_of_ble_eq_true rfl) rfl rfl (r_Model_here hP (by omega) (by omega)) ?_
  refine st_bipush rfl ?_
  refine st_icmp_lt rfl (fun h3 => ?_) (fun h3 => ?_)
  · refine st_iconst rfl ?_
    refine st_iret rfl (fun z => by first | exact absurd z (by decide) | exact bi_01 _ | decide | omega) ?_
    exact ⟨am_ri (by first | rfl | exact bi_iff (by omega) | exact (bi_t (by omega)).symm | exact (bi_f (by omega)).symm), rfl⟩
  · refine st_aload_n rfl rfl (by decide) ?_
    refine st_cv1 (w := []) rfl rfl rfl (Nat.le_of_ble_eq_true rfl) (Nat.le_of_ble_eq_true rfl) rfl rfl (r_Model_here hP (by omega) (by omega)) ?_
    refine st_bipush rfl ?_
    refine st_icmp_gt rfl (fun h7 => ?_) (fun h7 => ?_)
    · refine st_iconst rfl ?_
      refine st_iret rfl (fun z => by first | exact absurd z (by decide) | exact bi_01 _ | decide | omega) ?_
      exact ⟨am_ri (by first | rfl | exact bi_iff (by omega) | exact (bi_t (by omega)).symm | exact (bi_f (by omega)).symm), rfl⟩
    · refine st_iconst rfl ?_
      refine st_goto rfl ?_
      refine st_iret rfl (fun z => by first | exact absurd z (by decide) | exact bi_01 _ | decide | omega) ?_
      exact ⟨am_ri (by first | rfl | exact bi_iff (by omega) | exact (bi_t (by omega)).symm | exact (bi_f (by omega)).symm), rfl⟩
theorem r_Model_partsOf {d N : Nat} {P : am_P} {H : am_H} {m : Int} (hP : PZ P) (h1 : 0 ≤ m) (h2 : m < 200) : am_R (d + 1) 67 [am_r 53, am_i (m)] (N, P, H) (some (am_i (H 54 (70 + 33 * m)))) (N, P, H) := by
  refine am_en1 (d := d + 0) (ml := 2) (ls := [_, _]) cq_Model_partsOf rfl (Nat.le_of_ble_eq_true rfl) rfl ?_
  refine st_aload_n rfl rfl (by decide) ?_
  refine st_getR (kk := 0) rfl rfl rfl (pz_53_0 hP) rfl ?_
  refine st_bipush rfl ?_
  refine st_bipush rfl ?_
  refine st_iload_n rfl rfl ?_
  refine st_imul rfl (by omega) ?_
  refine st_iadd rfl (by omega) ?_
  refine st_iaload rfl rfl (by omega) (by omega) ?_
  refine st_iret rfl (fun z => by first | exact absurd z (by decide) | exact bi_01 _ | decide | omega) ?_
  exact ⟨am_ri (by first | rfl | omega | (split <;> omega) | (split <;> (try split) <;> omega)), rfl⟩
theorem r_Model_partOf {d N : Nat} {P : am_P} {H : am_H} {m k w : Int} (hP : PZ P) (h1 : 0 ≤ m) (h2 : m < 200) (h3 : 0 ≤ k) (h4 : k < 8) (h5 : 0 ≤ w) (h6 : w < 4) : am_R (d + 1) 68 [am_r 53, am_i (m), am_i (k), am_i (w)] (N, P, H) (some (am_i (H 54 (70 + 33 * m + 1 + 4 * k + w)))) (N, P, H) := by
  refine am_en1 (d := d + 0) (ml := 4) (ls := [_, _, _, _]) cq_Model_partOf rfl (Nat.le_of_ble_eq_true rfl) rfl ?_
  refine st_aload_n rfl rfl (by decide) ?_
  refine st_getR (kk := 0) rfl rfl rfl (pz_53_0 hP) rfl ?_
  refine st_bipush rfl ?_
  refine st_bipush rfl ?_
  refine st_iload_n rfl rfl ?_
  refine st_imul rfl (by omega) ?_
  refine st_iadd rfl (by omega) ?_
  refine st_iconst rfl ?_
  refine st_iadd rfl (by omega) ?_
  refine st_iconst rfl ?_
  refine st_iload_n rfl rfl ?_
  refine st_imul rfl (by omega) ?_
  refine st_iadd rfl (by omega) ?_
  refine st_iload_n rfl rfl ?_
  refine st_iadd rfl (by omega) ?_
  refine st_iaload rfl rfl (by omega) (by omega) ?_
  refine st_iret rfl (fun z => by first | exact absurd z (by decide) | exact bi_01 _ | decide | omega) ?_
  exact ⟨am_ri (by first | rfl | omega | (split <;> omega) | (split <;> (try split) <;> omega)), rfl⟩
def sgn (v : Int) : Int := if v < 0 then -1 else if 0 < v then 1 else 0
theorem r_Model_sign {d N : Nat} {P : am_P} {H : am_H} {v : Int}  : am_R (d + 1) 77 [am_i (v)] (N, P, H) (some (am_i (sgn v))) (N, P, H) := by
  refine am_en1 (d := d + 0) (ml := 1) (ls := [_]) cq_Model_sign rfl (Nat.le_of_ble_eq_true rfl) rfl ?_
  refine st_iload_n rfl rfl ?_
  refine st_if_ge rfl (fun h1 => ?_) (fun h1 => ?_)
  · refine st_iload_n rfl rfl ?_
    refine st_if_le rfl (fun h5 => ?_) (fun h5 => ?_)
    · refine st_iconst rfl ?_
      refine st_iret rfl (fun z => by first | exact absurd z (by decide) | exact bi_01 _ | decide | omega) ?_
      exact ⟨am_ri (by unfold sgn; (repeat' split) <;> omega), rfl⟩
    · refine st_iconst rfl ?_
      refine st_goto rfl ?_
      refine st_iret rfl (fun z => by first | exact absurd z (by decide) | exact bi_01 _ | decide | omega) ?_
      exact ⟨am_ri (by unfold sgn; (repeat' split) <;> omega), rfl⟩
  · refine st_iconst rfl ?_
    refine st_goto rfl ?_
    refine st_iret rfl (fun z => by first | exact absurd z (by decide) | exact bi_01 _ | decide | omega) ?_
    exact ⟨am_ri (by unfold sgn; (repeat' split) <;> omega), rfl⟩
def letN (v : Int) : Int := if v < 27 then 1 else if v < 729 then 2 else 3
theorem r_Model_lettersIn {d N : Nat} {P : am_P} {H : am_H} {v : Int}  : am_R (d + 1) 79 [am_i (v)] (N, P, H) (some (am_i (letN v))) (N, P, H) := by
  refine am_en1 (d := d + 0) (ml := 1) (ls := [_]) cq_Model_lettersIn rfl (Nat.le_of_ble_eq_true rfl) rfl ?_
  refine st_iload_n rfl rfl ?_
  refine st_bipush rfl ?_
  refine st_icmp_ge rfl (fun h2 => ?_) (fun h2 => ?_)
  · refine st_iload_n rfl rfl ?_
    refine st_sipush rfl ?_
    refine st_icmp_ge rfl (fun h7 => ?_) (fun h7 => ?_)
    · refine st_iconst rfl ?_
      refine st_iret rfl (fun z => by first | exact absurd z (by decide) | exact bi_01 _ | decide | omega) ?_
      exact ⟨am_ri (by unfold letN; (repeat' split) <;> omega), rfl⟩
    · refine st_iconst rfl ?_
      refine st_goto rfl ?_
      refine st_iret rfl (fun z => by first | exact absurd z (by decide) | exact bi_01 _ | decide | omega) ?_
      exact ⟨am_ri (by unfold letN; (repeat' split) <;> omega), rfl⟩
  · refine st_iconst rfl ?_
    refine st_goto rfl ?_
    refine st_iret rfl (fun z => by first | exact absurd z (by decide) | exact bi_01 _ | decide | omega) ?_
    exact ⟨am_ri (by unfold letN; (repeat' split) <;> omega), rfl⟩
theorem r_Model_of {d N : Nat} {P : am_P} {H : am_H} {b w : Int} (hP : PZ P) (h1 : 0 ≤ b) (h2 : b < 200) (h3 : 0 ≤ w) (h4 : w < 8) : am_R (d + 1) 87 [am_r 53, am_i (b), am_i (w)] (N, P, H) (some (am_i (H 54 (7182 + 8 * b + w)))) (N, P, H) := by
  refine am_en1 (d := d + 0) (ml := 3) (ls := [_, _, _]) cq_Model_of rfl (Nat.le_of_ble_eq_true rfl) rfl ?_
  refine st_aload_n rfl rfl (by decide) ?_
  refine st_getR (kk := 0) rfl rfl rfl (pz_53_0 hP) rfl ?_
  refine st_sipush rfl ?_
  refine st_bipush rfl ?_
  refine st_iload_n rfl rfl ?_
  refine st_imul rfl (by omega) ?_
  refine st_iadd rfl (by omega) ?_
  refine st_iload_n rfl rfl ?_
  refine st_iadd rfl (by omega) ?_
  refine st_iaload rfl rfl (by omega) (by omega) ?_
  refine st_iret rfl (fun z => by first | exact absurd z (by decide) | exact bi_01 _ | decide | omega) ?_
  exact ⟨am_ri (by first | rfl | omega | (split <;> omega) | (split <;> (try split) <;> omega)), rfl⟩
theorem r_Model_placeOf {d N : Nat} {P : am_P} {H : am_H} {s p : Int} (h1 : 0 ≤ s) (h2 : s < 16) (h3 : 0 ≤ p) (h4 : p < 30) : am_R (d + 1) 88 [am_r 53, am_i (s), am_i (p)] (N, P, H) (some (am_i (6670 + 32 * s + 2 + p))) (N, P, H) := by
  refine am_en1 (d := d + 0) (ml := 3) (ls := [_, _, _]) cq_Model_placeOf rfl (Nat.le_of_ble_eq_true rfl) rfl ?_
  refine st_sipush rfl ?_
  refine st_bipush rfl ?_
  refine st_iload_n rfl rfl ?_
  refine st_imul rfl (by omega) ?_
  refine st_iadd rfl (by omega) ?_
  refine st_iconst rfl ?_
  refine st_iadd rfl (by omega) ?_
  refine st_iload_n rfl rfl ?_
  refine st_iadd rfl (by omega) ?_
  refine st_iret rfl (fun z => by first | exact absurd z (by decide) | exact bi_01 _ | decide | omega) ?_
  exact ⟨am_ri (by first | rfl | omega | (split <;> omega) | (split <;> (try split) <;> omega)), rfl⟩
theorem r_Model_isHigh {d N : Nat} {P : am_P} {H : am_H} {s : Int} (hP : PZ P) (h1 : 0 ≤ s) (h2 : s < 16) : am_R (d + 1) 91 [am_r 53, am_i (s)] (N, P, H) (some (am_i (bi (H 54 (6670 + 32 * s + 1) = 1)))) (N, P, H) := by
  refine am_en1 (d := d + 0) (ml := 2) (ls := [_, _]) cq_Model_isHigh rfl (Nat.le_of_ble_eq_true rfl) rfl ?_
  refine st_aload_n rfl rfl (by decide) ?_
  refine st_getR (kk := 0) rfl rfl rfl (pz_53_0 hP) rfl ?_
  refine st_sipush rfl ?_
  refine st_bipush rfl ?_
  refine st_iload_n rfl rfl ?_
  refine st_imul rfl (by omega) ?_
  refine st_iadd rfl (by omega) ?_
  refine st_iconst rfl ?_
  refine st_iadd rfl (by omega) ?_
  refine st_iaload rfl rfl (by omega) (by omega) ?_
  refine st_iconst rfl ?_
  refine st_icmp_ne rfl (fun h11 => ?_) (fun h11 => ?_)
  · refine st_iconst rfl ?_
    refine st_iret rfl (fun z => by first | exact absurd z (by decide) | exact bi_01 _ | decide | omega) ?_
    exact ⟨am_ri (by first | rfl | exact bi_iff (by omega) | exact (bi_t (by omega)).symm | exact (bi_f (by omega)).symm), rfl⟩
  · refine st_iconst rfl ?_
    refine st_goto rfl ?_
    refine st_iret rfl (fun z => by first | exact absurd z (by decide) | exact bi_01 _ | decide | omega) ?_
    exact ⟨am_ri (by first | rfl | exact bi_iff (by omega) | exact (bi_t (by omega)).symm | exact (bi_f (by omega)).symm), rfl⟩
theorem r_Model_seenAt {d N : Nat} {P : am_P} {H : am_H} {k : Int} (hP : PZ P) (h1 : 0 ≤ k) (h2 : k < 60) : am_R (d + 1) 104 [am_r 53, am_i (k)] (N, P, H) (some (am_i (H 54 (5 + 2 + k)))) (N, P, H) := by
  refine am_en1 (d := d + 0) (ml := 2) (ls := [_, _]) cq_Model_seenAt rfl (Nat.le_of_ble_eq_true rfl) rfl ?_
  refine st_aload_n rfl rfl (by decide) ?_
  refine st_getR (kk := 0) rfl rfl rfl (pz_53_0 hP) rfl ?_
  refine st_bipush rfl ?_
  refine st_iload_n rfl rfl ?_
  refine st_iadd rfl (by omega) ?_
  refine st_iaload rfl rfl (by omega) (by omega) ?_
  refine st_iret rfl (fun z => by first | exact absurd z (by decide) | exact bi_01 _ | decide | omega) ?_
  exact ⟨am_ri (by first | rfl | omega | (split <;> omega) | (split <;> (try split) <;> omega)), rfl⟩
theorem r_Model_many {d N : Nat} {P : am_P} {H : am_H}  (hP : PZ P) : am_R (d + 1) 105 [am_r 53] (N, P, H) (some (am_i (if H 54 5 < 0 then 0 else H 54 6))) (N, P, H) := by
  refine am_en1 (d := d + 0) (ml := 1) (ls := [_]) cq_Model_many rfl (Nat.le_of_ble_eq_true rfl) rfl ?_
  refine st_aload_n rfl rfl (by decide) ?_
  refine st_getR (kk := 0) rfl rfl rfl (pz_53_0 hP) rfl ?_
  refine st_iconst rfl ?_
  refine st_iaload rfl rfl (by omega) (by omega) ?_
  refine st_if_ge rfl (fun h4 => ?_) (fun h4 => ?_)
  · refine st_aload_n rfl rfl (by decide) ?_
    refine st_getR (kk := 0) rfl rfl rfl (pz_53_0 hP) rfl ?_
    refine st_bipush rfl ?_
    refine st_iaload rfl rfl (by omega) (by omega) ?_
    refine st_iret rfl (fun z => by first | exact absurd z (by decide) | exact bi_01 _ | decide | omega) ?_
    exact ⟨am_ri (by first | rfl | omega | (split <;> omega) | (split <;> (try split) <;> omega)), rfl⟩
  · refine st_iconst rfl ?_
    refine st_goto rfl ?_
    refine st_iret rfl (fun z => by first | exact absurd z (by decide) | exact bi_01 _ | decide | omega) ?_
    exact ⟨am_ri (by first | rfl | omega | (split <;> omega) | (split <;> (try split) <;> omega)), rfl⟩
theorem r_Model_fault {d N : Nat} {P : am_P} {H : am_H}  (hP : PZ P) : am_R (d + 1) 65 [am_r 53] (N, P, H) (some (am_i (H 53 4))) (N, P, H) := by
  refine am_en1 (d := d + 0) (ml := 1) (ls := [_]) cq_Model_fault rfl (Nat.le_of_ble_eq_true rfl) rfl ?_
  refine st_aload_n rfl rfl (by decide) ?_
  refine st_getI (kk := 4) rfl rfl (by decide) rfl ?_
  refine st_iret rfl (fun z => by first | exact absurd z (by decide) | exact bi_01 _ | decide | omega) ?_
  exact ⟨am_ri (by first | rfl | omega | (split <;> omega) | (split <;> (try split) <;> omega)), rfl⟩
theorem r_Integer_compare {d N : Nat} {P : am_P} {H : am_H} {x y : Int}  : am_R (d + 1) 248 [am_i (x), am_i (y)] (N, P, H) (some (am_i (if x < y then -1 else if x = y then 0 else 1))) (N, P, H) := by
  refine am_en1 (d := d + 0) (ml := 2) (ls := [_, _]) cq_Integer_compare rfl (Nat.le_of_ble_eq_true rfl) rfl ?_
  refine st_iload_n rfl rfl ?_
  refine st_iload_n rfl rfl ?_
  refine st_icmp_ge rfl (fun h2 => ?_) (fun h2 => ?_)
  · refine st_iload_n rfl rfl ?_
    refine st_iload_n rfl rfl ?_
    refine st_icmp_ne rfl (fun h7 => ?_) (fun h7 => ?_)
    · refine st_iconst rfl ?_
      refine st_iret rfl (fun z => by first | exact absurd z (by decide) | exact bi_01 _ | decide | omega) ?_
      exact ⟨am_ri (by first | rfl | omega | (split <;> omega) | (split <;> (try split) <;> omega)), rfl⟩
    · refine st_iconst rfl ?_
      refine st_goto rfl ?_
      refine st_iret rfl (fun z => by first | exact absurd z (by decide) | exact bi_01 _ | decide | omega) ?_
      exact ⟨am_ri (by first | rfl | omega | (split <;> omega) | (split <;> (try split) <;> omega)), rfl⟩
  · refine st_iconst rfl ?_
    refine st_goto rfl ?_
    refine st_iret rfl (fun z => by first | exact absurd z (by decide) | exact bi_01 _ | decide | omega) ?_
    exact ⟨am_ri (by first | rfl | omega | (split <;> omega) | (split <;> (try split) <;> omega)), rfl⟩
