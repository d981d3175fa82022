/-! ===== the class: marks ===== -/
abbrev pkA (a : Int → Int) (m k : Int) : Int := pkF (prtF a m k 0) (prtF a m k 1) (prtF a m k 2) (prtF a m k 3)
def lnA (a : Int → Int) (m : Int) : Int := if 0 ≤ m ∧ m < a 1 then lenF a m else 0
theorem lnA_p {a : Int → Int} {m : Int} (h0 : 0 ≤ m) (h1 : m < a 1) : lnA a m = lenF a m := if_pos ⟨h0, h1⟩

theorem r_Marks_has {d N : Nat} {P : am_P} {H : am_H} {m : Int} {a : Int → Int} (hP : PZ P) (hI : Inv a) (hM : RM H 10 a) : am_R (d + 1) 157 [am_r 11, am_i (m)] (N, P, H) (some (am_i (bi (0 ≤ m ∧ m < a 1)))) (N, P, H) := by
  refine am_en1 (d := d + 0) (ml := 2) (ls := [_, _]) cq_Marks_has rfl (Nat.le_of_ble_eq_true rfl) rfl ?_
  have hn := hI.n
  have m0 : H 11 0 = a 1 := hM.1
  have ml : ∀ m, 0 ≤ m → m < a 1 → H 12 m = lenF a m := hM.2.1
  have mp : ∀ m k, 0 ≤ m → m < a 1 → 0 ≤ k → k < lenF a m → H 13 (m * 8 + k) = pkF (prtF a m k 0) (prtF a m k 1) (prtF a m k 2) (prtF a m k 3) := hM.2.2
  refine st_iload_n rfl rfl ?_
  refine st_if_lt rfl (fun h1 => ?_) (fun h1 => ?_)
  · refine st_iconst rfl ?_
    refine st_iret rfl (fun z => by first | exact absurd z (by decide) | exact bi_01 _ | decide | omega) ?_
    exact ⟨am_ri (by first | rfl | exact bi_iff (by omega) | exact (bi_t (by omega)).symm | exact (bi_f (by omega)).symm), rfl⟩
  · refine st_iload_n rfl rfl ?_
    refine st_aload_n rfl rfl (by decide) ?_
    refine st_getI (kk := 0) rfl rfl (by decide) rfl ?_
    refine st_icmp_ge rfl (fun h5 => ?_) (fun h5 => ?_)
    · refine st_iconst rfl ?_
      refine st_iret rfl (fun z => by first | exact absurd z (by decide) | exact bi_01 _ | decide | omega) ?_
      exact ⟨am_ri (by first | rfl | exact bi_iff (by omega) | exact (bi_t (by omega)).symm | exact (bi_f (by omega)).symm), rfl⟩
    · refine st_iconst rfl ?_
      refine st_goto rfl ?_
      refine st_iret rfl (fun z => by first | exact absurd z (by decide) | exact bi_01 _ | decide | omega) ?_
      exact ⟨am_ri (by first | rfl | exact bi_iff (by omega) | exact (bi_t (by omega)).symm | exact (bi_f (by omega)).symm), rfl⟩
theorem r_Marks_lengthOf {d N : Nat} {P : am_P} {H : am_H} {m : Int} {a : Int → Int} (hP : PZ P) (hI : Inv a) (hM : RM H 10 a) : am_R (d + 2) 158 [am_r 11, am_i (m)] (N, P, H) (some (am_i (lnA a m))) (N, P, H) := by
  refine am_en1 (d := d + 1) (ml := 2) (ls := [_, _]) cq_Marks_lengthOf rfl (Nat.le_of_ble_eq_true rfl) rfl ?_
  have hn := hI.n
  have m0 : H 11 0 = a 1 := hM.1
  have ml : ∀ m, 0 ≤ m → m < a 1 → H 12 m = lenF a m := hM.2.1
  have mp : ∀ m k, 0 ≤ m → m < a 1 → 0 ≤ k → k < lenF a m → H 13 (m * 8 + k) = pkF (prtF a m k 0) (prtF a m k 1) (prtF a m k 2) (prtF a m k 3) := hM.2.2
  refine st_aload_n rfl rfl (by decide) ?_
  refine st_iload_n rfl rfl ?_
  refine st_cv1 (w := []) rfl rfl rfl (Nat.le_of_ble_eq_true rfl) (Nat.le_of_ble_eq_true rfl) rfl rfl (r_Marks_has hP hI hM) ?_
  refine st_if_eq_b rfl (fun h3 => ?_) (fun h3 => ?_)
  · refine st_iconst rfl ?_
    refine st_iret rfl (fun z => by first | exact absurd z (by decide) | exact bi_01 _ | decide | omega) ?_
    exact ⟨am_ri (by unfold lnA; first | rw [if_pos h3] | rw [if_neg h3]), rfl⟩
  · refine st_aload_n rfl rfl (by decide) ?_
    refine st_getR (kk := 1) rfl rfl rfl (pz_11_1 hP) rfl ?_
    refine st_iload_n rfl rfl ?_
    refine st_iaload rfl rfl (by omega) (by omega) ?_
    rw [ml m h3.1 h3.2]
    refine st_goto rfl ?_
    refine st_iret rfl (fun z => by first | exact absurd z (by decide) | exact bi_01 _ | decide | omega) ?_
    exact ⟨am_ri (by unfold lnA; first | rw [if_pos h3] | rw [if_neg h3]), rfl⟩
theorem r_Marks_partOf {d N : Nat} {P : am_P} {H : am_H} {m k : Int} {a : Int → Int} (hP : PZ P) (hI : Inv a) (hM : RM H 10 a) (h0 : 0 ≤ m ∧ m < a 1) (h1 : 0 ≤ k ∧ k < lenF a m) : am_R (d + 2) 159 [am_r 11, am_i (m), am_i (k)] (N, P, H) (some (am_l (pkA a m k))) (N, P, H) := by
  refine am_en1 (d := d + 1) (ml := 3) (ls := [_, _, _]) cq_Marks_partOf rfl (Nat.le_of_ble_eq_true rfl) rfl ?_
  have hn := hI.n
  have m0 : H 11 0 = a 1 := hM.1
  have ml : ∀ m, 0 ≤ m → m < a 1 → H 12 m = lenF a m := hM.2.1
  have mp : ∀ m k, 0 ≤ m → m < a 1 → 0 ≤ k → k < lenF a m → H 13 (m * 8 + k) = pkF (prtF a m k 0) (prtF a m k 1) (prtF a m k 2) (prtF a m k 3) := hM.2.2
  have hl := (hI.mv h0.1 h0.2).2.1
  refine st_aload_n rfl rfl (by decide) ?_
  refine st_iload_n rfl rfl ?_
  refine st_cv1 (w := []) rfl rfl rfl (Nat.le_of_ble_eq_true rfl) (Nat.le_of_ble_eq_true rfl) rfl rfl (r_Marks_has hP hI hM) ?_
  refine st_if_eq_b rfl (fun h3 => (by exfalso; omega)) (fun h3 => ?_)
  refine st_iload_n rfl rfl ?_
  refine st_if_lt rfl (fun h5 => (by exfalso; omega)) (fun h5 => ?_)
  refine st_iload_n rfl rfl ?_
  refine st_bipush rfl ?_
  refine st_icmp_ge rfl (fun h8 => (by exfalso; omega)) (fun h8 => ?_)
  refine st_aload_n rfl rfl (by decide) ?_
  refine st_getR (kk := 2) rfl rfl rfl (pz_11_2 hP) rfl ?_
  refine st_iload_n rfl rfl ?_
  refine st_bipush rfl ?_
  refine st_imul rfl (by omega) ?_
  refine st_iload_n rfl rfl ?_
  refine st_iadd rfl (by omega) ?_
  refine st_laload rfl rfl (by omega) (by omega) ?_
  rw [mp m k h0.1 h0.2 h1.1 h1.2]
  refine st_goto rfl ?_
  refine st_lret rfl ?_
  exact ⟨rfl, rfl⟩
theorem sgn_mul {x t : Int} (ht : 0 < t) : sgn (x * t) = sgn x := by
  unfold sgn
  by_cases h1 : x < 0
  · have : x * t < 0 := Int.mul_neg_of_neg_of_pos h1 ht
    rw [if_pos this, if_pos h1]
  · by_cases h2 : 0 < x
    · have : 0 < x * t := Int.mul_pos h2 ht
      rw [if_neg (by omega), if_pos this, if_neg h1, if_pos h2]
    · have : x = 0 := by omega
      subst this
      rw [Int.zero_mul]
theorem pa_tol {a : Int → Int} {x y w k : Int} (hw : w = 0 ∨ w = 1) (hx : k < lenF a x) (hy : k < lenF a y) : paF (prtF a x k 0) (prtF a x k 1) (prtF a x k 2) (prtF a x k 3) (prtF a y k 0) (prtF a y k 1) (prtF a y k 2) (prtF a y k 3) w = tolF a x y w k := by
  unfold tolF paF heldF
  rw [if_neg (show ¬ lenF a x ≤ k by omega), if_neg (show ¬ lenF a y ≤ k by omega)]
  by_cases h0 : prtF a x k 0 = prtF a y k 0
  · rw [if_neg (show ¬ (prtF a x k 0 ≠ prtF a y k 0) by omega), if_neg (show ¬ (prtF a x k 0 ≠ prtF a y k 0) by omega)]
    by_cases h1 : prtF a x k 0 = 0
    · rw [if_pos h1, if_pos h1, wky_fil, wky_fil]
    · rw [if_neg h1, if_neg h1]
      by_cases h2 : prtF a x k 1 = prtF a y k 1
      · rw [if_neg (show ¬ (prtF a x k 1 ≠ prtF a y k 1) by omega), if_neg (show ¬ (prtF a x k 1 ≠ prtF a y k 1) by omega)]
        rcases hw with rfl | rfl
        · rw [if_pos rfl, if_neg (by omega)]
        · rw [if_neg (show ¬ ((1 : Int) = 0) by omega)]
          by_cases h3 : prtF a x k 3 = prtF a y k 3
          · rw [if_neg (show ¬ (prtF a x k 3 ≠ prtF a y k 3) by omega), if_neg (by omega), h3]
            unfold filF
            rw [← Int.sub_mul, sgn_mul (Int.pow_pos (by omega))]
          · rw [if_pos (show prtF a x k 3 ≠ prtF a y k 3 by omega), if_pos (by omega)]
      · rw [if_pos (show prtF a x k 1 ≠ prtF a y k 1 by omega), if_pos (show prtF a x k 1 ≠ prtF a y k 1 by omega)]
  · rw [if_pos (show prtF a x k 0 ≠ prtF a y k 0 by omega), if_pos (show prtF a x k 0 ≠ prtF a y k 0 by omega)]

theorem r_Marks_compare {d N : Nat} {P : am_P} {H : am_H} {x y w : Int} {a : Int → Int} (hP : PZ P) (hI : Inv a) (hM : RM H 10 a) (hx : 0 ≤ x ∧ x < a 1) (hy : 0 ≤ y ∧ y < a 1) (hw : w = 0 ∨ w = 1) : am_R (d + 3) 163 [am_r 11, am_i (x), am_i (y), am_i (w)] (N, P, H) (some (am_i (cmpF a x y w))) (N, P, H) := by
  refine am_en1 (d := d + 2) (ml := 7) (ls := [_, _, _, _, _, _, _]) cq_Marks_compare rfl (Nat.le_of_ble_eq_true rfl) rfl ?_
  have hn := hI.n
  have m0 : H 11 0 = a 1 := hM.1
  have ml : ∀ m, 0 ≤ m → m < a 1 → H 12 m = lenF a m := hM.2.1
  have mp : ∀ m k, 0 ≤ m → m < a 1 → 0 ≤ k → k < lenF a m → H 13 (m * 8 + k) = pkF (prtF a m k 0) (prtF a m k 1) (prtF a m k 2) (prtF a m k 3) := hM.2.2
  have hX := hI.mv hx.1 hx.2
  have hY := hI.mv hy.1 hy.2
  have hX1 := hX.2.1
  have hY1 := hY.2.1
  refine st_aload_n rfl rfl (by decide) ?_
  refine st_iload_n rfl rfl ?_
  refine st_cv1 (w := []) rfl rfl rfl (Nat.le_of_ble_eq_true rfl) (Nat.le_of_ble_eq_true rfl) rfl rfl (r_Marks_lengthOf hP hI hM) ?_
  refine st_aload_n rfl rfl (by decide) ?_
  refine st_iload_n rfl rfl ?_
  refine st_cv1 (w := [_]) rfl rfl rfl (Nat.le_of_ble_eq_true rfl) (Nat.le_of_ble_eq_true rfl) rfl rfl (r_Marks_lengthOf hP hI hM) ?_
  rw [lnA_p hx.1 hx.2, lnA_p hy.1 hy.2]
  refine st_min rfl (Nat.le_of_ble_eq_true rfl) ?_
  refine st_istore (ls' := [_, _, _, _, _, _, _]) rfl (Nat.le_of_ble_eq_true rfl) rfl ?_
  refine st_iconst rfl ?_
  refine st_istore (ls' := [_, _, _, _, _, _, _]) rfl (Nat.le_of_ble_eq_true rfl) rfl ?_
  have hmn : ∃ mn, (if lenF a y < lenF a x then lenF a y else lenF a x) = mn := ⟨_, rfl⟩
  obtain ⟨mn, hmn⟩ := hmn
  have hmn1 : mn ≤ lenF a x ∧ mn ≤ lenF a y ∧ (mn = lenF a x ∨ mn = lenF a y) := by split at hmn <;> omega
  suffices hlo : ∀ (f : Nat) (k : Int), k + f = 8 → 0 ≤ k → k ≤ mn → cmpL a x y w f k = cmpF a x y w → ∀ t, am_WP (am_R (d + 2)) cd_Marks_compare (fun v' s' => v' = some (am_i (cmpF a x y w)) ∧ s' = (N, P, H)) 10 [some (am_r 11), some (am_i x), some (am_i y), some (am_i w), some (am_i mn), some (am_i k), t] [] (N, P, H) from by
    have h0 := hlo 8 0 (by omega) (by omega) (by omega) rfl none
    rw [← hmn] at h0
    exact h0
  intro f
  induction f with
  | zero =>
    intro k e h0 h1 hc t
    rw [← hc]
    refine st_iload rfl rfl ?_
    refine st_iload rfl rfl ?_
    refine st_icmp_ge rfl (fun h12 => ?_) (fun h12 => (by exfalso; omega))
    refine st_aload_n rfl rfl (by decide) ?_
    refine st_iload_n rfl rfl ?_
    refine st_cv1 (w := []) rfl rfl rfl (Nat.le_of_ble_eq_true rfl) (Nat.le_of_ble_eq_true rfl) rfl rfl (r_Marks_lengthOf hP hI hM) ?_
    refine st_aload_n rfl rfl (by decide) ?_
    refine st_iload_n rfl rfl ?_
    refine st_cv1 (w := [_]) rfl rfl rfl (Nat.le_of_ble_eq_true rfl) (Nat.le_of_ble_eq_true rfl) rfl rfl (r_Marks_lengthOf hP hI hM) ?_
    rw [lnA_p hx.1 hx.2, lnA_p hy.1 hy.2]
    refine st_cs1 (w := []) rfl (by decide) (by decide) (by decide) (Nat.le_of_ble_eq_true rfl) (Nat.le_of_ble_eq_true rfl) rfl rfl (r_Integer_compare) ?_
    refine st_iret rfl (fun z => by first | exact absurd z (by decide) | exact bi_01 _ | decide | omega) ?_
    refine ⟨am_ri ?_, rfl⟩
    rw [cmp_sgn, show lenF a x - lenF a y = 0 by omega]
    rfl
  | succ f ih =>
    intro k e h0 h1 hc t
    simp only [cmpL] at hc
    refine st_iload rfl rfl ?_
    refine st_iload rfl rfl ?_
    refine st_icmp_ge rfl (fun h12 => ?_) (fun h12 => ?_)
    · refine st_aload_n rfl rfl (by decide) ?_
      refine st_iload_n rfl rfl ?_
      refine st_cv1 (w := []) rfl rfl rfl (Nat.le_of_ble_eq_true rfl) (Nat.le_of_ble_eq_true rfl) rfl rfl (r_Marks_lengthOf hP hI hM) ?_
      refine st_aload_n rfl rfl (by decide) ?_
      refine st_iload_n rfl rfl ?_
      refine st_cv1 (w := [_]) rfl rfl rfl (Nat.le_of_ble_eq_true rfl) (Nat.le_of_ble_eq_true rfl) rfl rfl (r_Marks_lengthOf hP hI hM) ?_
      rw [lnA_p hx.1 hx.2, lnA_p hy.1 hy.2]
      refine st_cs1 (w := []) rfl (by decide) (by decide) (by decide) (Nat.le_of_ble_eq_true rfl) (Nat.le_of_ble_eq_true rfl) rfl rfl (r_Integer_compare) ?_
      refine st_iret rfl (fun z => by first | exact absurd z (by decide) | exact bi_01 _ | decide | omega) ?_
      refine ⟨am_ri ?_, rfl⟩
      rw [cmp_sgn, ← hc]
      unfold tolF sgn
      (repeat' split) <;> omega
    · refine st_aload_n rfl rfl (by decide) ?_
      refine st_iload_n rfl rfl ?_
      refine st_iload rfl rfl ?_
      refine st_cv1 (w := []) rfl rfl rfl (Nat.le_of_ble_eq_true rfl) (Nat.le_of_ble_eq_true rfl) rfl rfl (r_Marks_partOf hP hI hM hx (by omega)) ?_
      refine st_aload_n rfl rfl (by decide) ?_
      refine st_iload_n rfl rfl ?_
      refine st_iload rfl rfl ?_
      refine st_cv1 (w := [_]) rfl rfl rfl (Nat.le_of_ble_eq_true rfl) (Nat.le_of_ble_eq_true rfl) rfl rfl (r_Marks_partOf hP hI hM hy (by omega)) ?_
      refine st_iload_n rfl rfl ?_
      refine st_cs1 (w := []) rfl (by decide) (by decide) (by decide) (Nat.le_of_ble_eq_true rfl) (Nat.le_of_ble_eq_true rfl) rfl rfl (r_Part_compare (hX.2.2 k (by omega) (by omega)) (hY.2.2 k (by omega) (by omega))) ?_
      rw [pa_tol hw (by omega) (by omega)]
      refine st_istore (ls' := [_, _, _, _, _, _, _]) rfl (Nat.le_of_ble_eq_true rfl) rfl ?_
      refine st_iload rfl rfl ?_
      refine st_if_eq rfl (fun h25 => ?_) (fun h25 => ?_)
      · refine st_iinc (ls' := [_, _, _, _, _, _, _]) rfl rfl (by omega) rfl ?_
        refine st_goto rfl ?_
        rw [if_neg (by omega), if_neg (by omega)] at hc
        exact ih (k + 1) (by omega) (by omega) (by omega) hc _
      · refine st_iload rfl rfl ?_
        refine st_iret rfl (fun z => by first | exact absurd z (by decide) | exact bi_01 _ | decide | omega) ?_
        refine ⟨am_ri ?_, rfl⟩
        rw [if_neg (by omega), if_pos h25] at hc
        exact hc
