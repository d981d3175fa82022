/-! ===== the class: marks ===== -/
abbrev pkA (a : Int → Int) (m k : Int) : Int := pkF (prtF a m k 0) (prtF a m k 1) (prtF a m k 2) (prtF a m k 3)
def lnA (a : Int → Int) (m : Int) : Int := if 0 ≤ m ∧ m < a 1 then lenF a m else 0
theorem lnA_p {a : Int → Int} {m : Int} (h0 : 0 ≤ m) (h1 : m < a 1) : lnA a m = lenF a m := if_pos ⟨h0, h1⟩

theorem r_Marks_has {d N : Nat} {P : am_P} {H : am_H} {m : Int} {a : Int → Int} (hP : PZ P) (hI : Inv a) (hM : RM H 10 a) : am_R (d + 1) 157 [am_r 11, am_i (m)] (N, P, H) (some (am_i (bi (0 ≤ m ∧ m < a 1)))) (N, P, H) := by
  refine am_en1 (d := d + 0) (ml := 2) (ls := [_, _]) cq_Marks_has rfl (Nat.le_of_ble_eq_true rfl) rfl ?_
  have hn := hI.n
  have m0 : H 11 0 = a 1 := hM.1
  have ml : ∀ m, 0 ≤ m → m < a 1 → H 12 m = lenF a m := hM.2.1
  have mp : ∀ m k, 0 ≤ m → m < a 1 → 0 ≤ k → k < lenF a m → H 13 (m * 8 + k) = pkF (prtF a m k 0) (prtF a m k 1) (prtF a m k 2) (prtF a m k 3) := hM.2.2
  refine st_iload_n rfl rfl ?_
  refine st_if_lt rfl (fun h1 => ?_) (fun h1 => ?_)
  · refine st_iconst rfl ?_
    refine st_iret rfl (fun z => by first | exact absurd z (by decide) | exact bi_01 _ | decide | omega) ?_
    exact ⟨am_ri (by first | rfl | exact bi_iff (by omega) | exact (bi_t (by omega)).symm | exact (bi_f (by omega)).symm), rfl⟩
  · refine st_iload_n rfl rfl ?_
    refine st_aload_n rfl rfl (by decide) ?_
    refine st_getI (kk := 0) rfl rfl (by decide) rfl ?_
    refine st_icmp_ge rfl (fun h5 => ?_) (fun h5 => ?_)
    · refine st_iconst rfl ?_
      refine st_iret rfl (fun z => by first | exact absurd z (by decide) | exact bi_01 _ | decide | omega) ?_
      exact ⟨am_ri (by first | rfl | exact bi_iff (by omega) | exact (bi_t (by omega)).symm | exact (bi_f (by omega)).symm), rfl⟩
    · refine st_iconst rfl ?_
      refine st_goto rfl ?_
      refine st_iret rfl (fun z => by first | exact absurd z (by decide) | exact bi_01 _ | decide | omega) ?_
      exact ⟨am_ri (by first | rfl | exact bi_iff (by omega) | exact (bi_t (by omega)).symm | exact (bi_f (by omega)).symm), rfl⟩
theorem r_Marks_lengthOf {d N : Nat} {P : am_P} {H : am_H} {m : Int} {a : Int → Int} (hP : PZ P) (hI : Inv a) (hM : RM H 10 a) : am_R (d + 2) 158 [am_r 11, am_i (m)] (N, P, H) (some (am_i (lnA a m))) (N, P, H) := by
  refine am_en1 (d := d + 1) (ml := 2) (ls := [_, _]) cq_Marks_lengthOf rfl (Nat.le_of_ble_eq_true rfl) rfl ?_
  have hn := hI.n
  have m0 : H 11 0 = a 1 := hM.1
  have ml : ∀ m, 0 ≤ m → m < a 1 → H 12 m = lenF a m := hM.2.1
  have mp : ∀ m k, 0 ≤ m → m < a 1 → 0 ≤ k → k < lenF a m → H 13 (m * 8 + k) = pkF (prtF a m k 0) (prtF a m k 1) (prtF a m k 2) (prtF a m k 3) := hM.2.2
  refine st_aload_n rfl rfl (by decide) ?_
  refine st_iload_n rfl rfl ?_
  refine st_cv1 (w := []) rfl rfl rfl (Nat.le_of_ble_eq_true rfl) (Nat.le_of_ble_eq_true rfl) rfl rfl (r_Marks_has hP hI hM) ?_
  refine st_if_eq_b rfl (fun h3 => ?_) (fun h3 => ?_)
  · refine st_iconst rfl ?_
    refine st_iret rfl (fun z => by first | exact absurd z (by decide) | exact bi_01 _ | decide | omega) ?_
    exact ⟨am_ri (by unfold lnA; first | rw [if_pos h3] | rw [if_neg h3]), rfl⟩
  · refine st_aload_n rfl rfl (by decide) ?_
    refine st_getR (kk := 1) rfl rfl rfl (pz_11_1 hP) rfl ?_
    refine st_iload_n rfl rfl ?_
    refine st_iaload rfl rfl (by omega) (by omega) ?_
    rw [ml m h3.1 h3.2]
    refine st_goto rfl ?_
    refine st_iret rfl (fun z => by first | exact absurd z (by decide) | exact bi_01 _ | decide | omega) ?_
    exact ⟨am_ri (by unfold lnA; first | rw [if_pos h3] | rw [if_neg h3]), rfl⟩
theorem r_Marks_partOf {d N : Nat} {P : am_P} {H : am_H} {m k : Int} {a : Int → Int} (hP : PZ P) (hI : Inv a) (hM : RM H 10 a) (h0 : 0 ≤ m ∧ m < a 1) (h1 : 0 ≤ k ∧ k < lenF a m) : am_R (d + 2) 159 [am_r 11, am_i (m), am_i (k)] (N, P, H) (some (am_l (pkA a m k))) (N, P, H) := by
  refine am_en1 (d := d + 1) (ml := 3) (ls := [_, _, _]) cq_Marks_partOf rfl (Nat.le_of_ble_eq_true rfl) rfl ?_
  have hn := hI.n
  have m0 : H 11 0 = a 1 := hM.1
  have ml : ∀ m, 0 ≤ m → m < a 1 → H 12 m = lenF a m := hM.2.1
  have mp : ∀ m k, 0 ≤ m → m < a 1 → 0 ≤ k → k < lenF a m → H 13 (m * 8 + k) = pkF (prtF a m k 0) (prtF a m k 1) (prtF a m k 2) (prtF a m k 3) := hM.2.2
  have hl := (hI.mv h0.1 h0.2).2.1
  refine st_aload_n rfl rfl (by decide) ?_
  refine st_iload_n rfl rfl ?_
  refine st_cv1 (w := []) rfl rfl rfl (Nat.le_of_ble_eq_true rfl) (Nat.le_of_ble_eq_true rfl) rfl rfl (r_Marks_has hP hI hM) ?_
  refine st_if_eq_b rfl (fun h3 => (by exfalso; omega)) (fun h3 => ?_)
  refine st_iload_n rfl rfl ?_
  refine st_if_lt rfl (fun h5 => (by exfalso; omega)) (fun h5 => ?_)
  refine st_iload_n rfl rfl ?_
  refine st_bipush rfl ?_
  refine st_icmp_ge rfl (fun h8 => (by exfalso; omega)) (fun h8 => ?_)
  refine st_aload_n rfl rfl (by decide) ?_
  refine st_getR (kk := 2) rfl rfl rfl (pz_11_2 hP) rfl ?_
  refine st_iload_n rfl rfl ?_
  refine st_bipush rfl ?_
  refine st_imul rfl (by omega) ?_
  refine st_iload_n rfl rfl ?_
  refine st_iadd rfl (by omega) ?_
  refine st_laload rfl rfl (by omega) (by omega) ?_
  rw [mp m k h0.1 h0.2 h1.1 h1.2]
  refine st_goto rfl ?_
  refine st_lret rfl ?_
  exact ⟨rfl, rfl⟩
