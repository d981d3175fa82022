/-! ===== the reference: books, readings, images ===== -/
theorem r_Model_plan {d N : Nat} {P : am_P} {H : am_H} {k : Int} (hP : PZ P) (h1 : H 53 22 = 1 → 0 ≤ H 53 24 - H 53 23 ∧ H 53 24 - H 53 23 < 16 ∧ 0 ≤ H 53 23 ∧ H 53 23 < 16) (h0 : H 53 22 = 0 ∨ H 53 22 = 1) : am_R (d + 2) 128 [am_r 53, am_i (k)] (N, P, H) (some (am_i (if H 53 22 = 1 ∧ 0 ≤ k ∧ k < H 53 24 - H 53 23 + 1 then H 69 k else -1))) (N, P, H) := by
  refine am_en1 (d := d + 1) (ml := 2) (ls := [_, _]) cq_Model_plan rfl (Nat.le_of_ble_eq_true rfl) rfl ?_
  refine st_aload_n rfl rfl (by decide) ?_
  refine st_getI (kk := 22) rfl rfl (by decide) rfl ?_
  refine st_if_eq rfl (fun h2 => ?_) (fun h2 => ?_)
  · refine st_iconst rfl ?_
    refine st_iret rfl (fun z => by first | exact absurd z (by decide) | exact bi_01 _ | decide | omega) ?_
    exact ⟨am_ri (by first | rw [if_pos (by omega)] | rw [if_neg (by omega)]), rfl⟩
  · have h1 := h1 (by omega)
    refine st_iload_n rfl rfl ?_
    refine st_aload_n rfl rfl (by decide) ?_
    refine st_getI (kk := 24) rfl rfl (by decide) rfl ?_
    refine st_aload_n rfl rfl (by decide) ?_
    refine st_getI (kk := 23) rfl rfl (by decide) rfl ?_
    refine st_isub rfl (by omega) ?_
    refine st_iconst rfl ?_
    refine st_iadd rfl (by omega) ?_
    refine st_cs1 (w := []) rfl (by decide) (by decide) (by decide) (Nat.le_of_ble_eq_true rfl) (Nat.le_of_ble_eq_true rfl) rfl rfl (r_Model_isIn) ?_
    refine st_if_eq_b rfl (fun h12 => ?_) (fun h12 => ?_)
    · refine st_iconst rfl ?_
      refine st_iret rfl (fun z => by first | exact absurd z (by decide) | exact bi_01 _ | decide | omega) ?_
      exact ⟨am_ri (by first | rw [if_pos (by omega)] | rw [if_neg (by omega)]), rfl⟩
    · refine st_aload_n rfl rfl (by decide) ?_
      refine st_getR (kk := 25) rfl rfl rfl (pz_53_25 hP) rfl ?_
      refine st_iload_n rfl rfl ?_
      refine st_iaload rfl rfl (by omega) (by omega) ?_
      refine st_goto rfl ?_
      refine st_iret rfl (fun z => by first | exact absurd z (by decide) | exact bi_01 _ | decide | omega) ?_
      exact ⟨am_ri (by first | rw [if_pos (by omega)] | rw [if_neg (by omega)]), rfl⟩
def cpF (a : Int → Int) (s t n : Int) : Int → Int := fun k => if t ≤ k ∧ k < t + n then a (s + (k - t)) else a k
theorem cpF_0 (a : Int → Int) (s t : Int) : cpF a s t 0 = a := by
  funext k; exact if_neg (by omega)
theorem cpF_s (a : Int → Int) {s t n : Int} (h : s + n ≤ t ∨ t + n ≤ s) (j : Nat) (hj : (j : Int) < n) : am_uf (cpF a s t (j : Int)) (t + (j : Int)) (cpF a s t (j : Int) (s + (j : Int))) = cpF a s t ((j + 1 : Nat) : Int) := by
  funext k
  unfold am_uf cpF
  by_cases h1 : k = t + (j : Int)
  · rw [if_pos h1, if_neg (by omega), if_pos (by omega)]
    congr 1
    omega
  · rw [if_neg h1]
    by_cases h2 : t ≤ k ∧ k < t + (j : Int)
    · rw [if_pos h2, if_pos (by omega)]
    · rw [if_neg h2, if_neg (by omega)]

theorem r_Model_image {d N : Nat} {P : am_P} {H : am_H} {k : Int} (hP : PZ P) : am_R (d + 2) 130 [am_r 53, am_i (k)] (N, P, H) (some (am_i (bi (0 ≤ k ∧ k < 4)))) (N, P, if 0 ≤ k ∧ k < 4 then am_so (am_so H 55 (am_uf (H 55) k 1)) 54 (cpF (H 54) 0 (10410 * (k + 1)) 10410) else H) := by
  refine am_en1 (d := d + 1) (ml := 3) (ls := [_, _, _]) cq_Model_image rfl (Nat.le_of_ble_eq_true rfl) rfl ?_
  refine st_iload_n rfl rfl ?_
  refine st_iconst rfl ?_
  refine st_cs1 (w := []) rfl (by decide) (by decide) (by decide) (Nat.le_of_ble_eq_true rfl) (Nat.le_of_ble_eq_true rfl) rfl rfl (r_Model_isIn) ?_
  refine st_if_ne_b rfl (fun h3 => ?_) (fun h3 => ?_)
  · refine st_aload_n rfl rfl (by decide) ?_
    refine st_getR (kk := 1) rfl rfl rfl (pz_53_1 hP) rfl ?_
    refine st_iload_n rfl rfl ?_
    refine st_iconst rfl ?_
    refine st_bastoreZ rfl rfl (by first | exact bi_01 _ | decide | omega) (by omega) (by omega) ?_
    refine st_iconst rfl ?_
    refine st_istore_n (ls' := [_, _, _]) rfl (Nat.le_of_ble_eq_true rfl) rfl ?_
    rw [show am_up H 55 k 1 = am_so (am_so H 55 (am_uf (H 55) k 1)) 54 (cpF (H 54) 0 (10410 * (k + 1)) ((0 : Nat) : Int)) by rw [show ((0 : Nat) : Int) = 0 from rfl, cpF_0]; exact (am_so_self (am_up H 55 k 1) 54).symm]
    refine up_ind (n := 10410) (p := fun j => am_WP (am_R (d + 1)) cd_Model_image _ 13 [some (am_r 53), some (am_i k), some (am_i (j : Int))] [] (N, P, am_so (am_so H 55 (am_uf (H 55) k 1)) 54 (cpF (H 54) 0 (10410 * (k + 1)) (j : Int)))) ?_ ?_ 0 (Nat.zero_le _)
    · show am_WP _ _ _ _ _ _ _
      refine st_iload_n rfl rfl ?_
      refine st_sipush rfl ?_
      refine st_icmp_ge rfl (fun h15 => ?_) (fun h15 => (by exfalso; omega))
      refine st_iconst rfl ?_
      refine st_iret rfl (fun z => by first | exact absurd z (by decide) | exact bi_01 _ | decide | omega) ?_
      exact ⟨am_ri (bi_t h3).symm, by rw [if_pos h3]; rfl⟩
    · intro j hj ih
      have ih : am_WP _ _ _ _ _ _ _ := ih
      show am_WP _ _ _ _ _ _ _
      refine st_iload_n rfl rfl ?_
      refine st_sipush rfl ?_
      refine st_icmp_ge rfl (fun h15 => (by exfalso; omega)) (fun h15 => ?_)
      refine st_aload_n rfl rfl (by decide) ?_
      refine st_getR (kk := 0) rfl rfl rfl (pz_53_0 hP) rfl ?_
      refine st_sipush rfl ?_
      refine st_iload_n rfl rfl ?_
      refine st_iconst rfl ?_
      refine st_iadd rfl (by omega) ?_
      refine st_imul rfl (by omega) ?_
      refine st_iload_n rfl rfl ?_
      refine st_iadd rfl (by omega) ?_
      refine st_aload_n rfl rfl (by decide) ?_
      refine st_getR (kk := 0) rfl rfl rfl (pz_53_0 hP) rfl ?_
      refine st_iload_n rfl rfl ?_
      refine st_iaload rfl rfl (by omega) (by omega) ?_
      rw [am_so_at]
      refine st_iastore rfl rfl (by omega) (by omega) ?_
      refine st_iinc (ls' := [_, _, _]) rfl rfl (by omega) rfl ?_
      refine st_goto rfl ?_
      rw [show am_up (am_so (am_so H 55 (am_uf (H 55) k 1)) 54 (cpF (H 54) 0 (10410 * (k + 1)) (j : Int))) 54 (10410 * (k + 1) + (j : Int)) (cpF (H 54) 0 (10410 * (k + 1)) (j : Int) (j : Int)) = am_so (am_so H 55 (am_uf (H 55) k 1)) 54 (cpF (H 54) 0 (10410 * (k + 1)) ((j + 1 : Nat) : Int)) by rw [← cpF_s (H 54) (s := 0) (n := 10410) (by omega) j (by omega)]; simp only [am_up, am_so_so, am_so_at, Int.zero_add]]
      exact ih
  · refine st_iconst rfl ?_
    refine st_iret rfl (fun z => by first | exact absurd z (by decide) | exact bi_01 _ | decide | omega) ?_
    exact ⟨am_ri (bi_f h3).symm, by rw [if_neg h3]⟩
theorem r_Model_again {d N : Nat} {P : am_P} {H : am_H} {k : Int} (hP : PZ P) (h5 : 0 ≤ k → k < 4 → H 55 k = 0 ∨ H 55 k = 1) : am_R (d + 2) 131 [am_r 53, am_i (k)] (N, P, H) (some (am_i (bi ((0 ≤ k ∧ k < 4) ∧ H 55 k = 1)))) (N, P, if (0 ≤ k ∧ k < 4) ∧ H 55 k = 1 then am_up (am_so H 54 (cpF (H 54) (10410 * (k + 1)) 0 10410)) 53 22 0 else H) := by
  refine am_en1 (d := d + 1) (ml := 3) (ls := [_, _, _]) cq_Model_again rfl (Nat.le_of_ble_eq_true rfl) rfl ?_
  refine st_iload_n rfl rfl ?_
  refine st_iconst rfl ?_
  refine st_cs1 (w := []) rfl (by decide) (by decide) (by decide) (Nat.le_of_ble_eq_true rfl) (Nat.le_of_ble_eq_true rfl) rfl rfl (r_Model_isIn) ?_
  refine st_if_eq_b rfl (fun h3 => ?_) (fun h3 => ?_)
  · refine st_iconst rfl ?_
    refine st_iret rfl (fun z => by first | exact absurd z (by decide) | exact bi_01 _ | decide | omega) ?_
    exact ⟨am_ri (bi_f (by omega)).symm, by rw [if_neg (by omega)]⟩
  · have h5 := h5 (by omega) (by omega)
    refine st_aload_n rfl rfl (by decide) ?_
    refine st_getR (kk := 1) rfl rfl rfl (pz_53_1 hP) rfl ?_
    refine st_iload_n rfl rfl ?_
    refine st_baload rfl rfl (Or.inr rfl) (by omega) (by omega) ?_
    refine st_if_ne rfl (fun h8 => ?_) (fun h8 => ?_)
    · refine st_iconst rfl ?_
      refine st_istore_n (ls' := [_, _, _]) rfl (Nat.le_of_ble_eq_true rfl) rfl ?_
      rw [show (N, P, H) = (N, P, am_so H 54 (cpF (H 54) (10410 * (k + 1)) 0 ((0 : Nat) : Int))) by rw [show ((0 : Nat) : Int) = 0 from rfl, cpF_0, am_so_self]]
      refine up_ind (n := 10410) (p := fun j => am_WP (am_R (d + 1)) cd_Model_again _ 13 [some (am_r 53), some (am_i k), some (am_i (j : Int))] [] (N, P, am_so H 54 (cpF (H 54) (10410 * (k + 1)) 0 (j : Int)))) ?_ ?_ 0 (Nat.zero_le _)
      · show am_WP _ _ _ _ _ _ _
        refine st_iload_n rfl rfl ?_
        refine st_sipush rfl ?_
        refine st_icmp_ge rfl (fun h15 => ?_) (fun h15 => (by exfalso; omega))
        refine st_aload_n rfl rfl (by decide) ?_
        refine st_iconst rfl ?_
        refine st_putZ (kk := 22) rfl rfl rfl (by first | exact bi_01 _ | decide | omega) rfl ?_
        refine st_iconst rfl ?_
        refine st_iret rfl (fun z => by first | exact absurd z (by decide) | exact bi_01 _ | decide | omega) ?_
        exact ⟨am_ri (bi_t (by omega)).symm, by rw [if_pos (by omega)]; rfl⟩
      · intro j hj ih
        have ih : am_WP _ _ _ _ _ _ _ := ih
        show am_WP _ _ _ _ _ _ _
        refine st_iload_n rfl rfl ?_
        refine st_sipush rfl ?_
        refine st_icmp_ge rfl (fun h15 => (by exfalso; omega)) (fun h15 => ?_)
        refine st_aload_n rfl rfl (by decide) ?_
        refine st_getR (kk := 0) rfl rfl rfl (pz_53_0 hP) rfl ?_
        refine st_iload_n rfl rfl ?_
        refine st_aload_n rfl rfl (by decide) ?_
        refine st_getR (kk := 0) rfl rfl rfl (pz_53_0 hP) rfl ?_
        refine st_sipush rfl ?_
        refine st_iload_n rfl rfl ?_
        refine st_iconst rfl ?_
        refine st_iadd rfl (by omega) ?_
        refine st_imul rfl (by omega) ?_
        refine st_iload_n rfl rfl ?_
        refine st_iadd rfl (by omega) ?_
        refine st_iaload rfl rfl (by omega) (by omega) ?_
        rw [am_so_at]
        refine st_iastore rfl rfl (by omega) (by omega) ?_
        refine st_iinc (ls' := [_, _, _]) rfl rfl (by omega) rfl ?_
        refine st_goto rfl ?_
        rw [show am_up (am_so H 54 (cpF (H 54) (10410 * (k + 1)) 0 (j : Int))) 54 (j : Int) (cpF (H 54) (10410 * (k + 1)) 0 (j : Int) (10410 * (k + 1) + (j : Int))) = am_so H 54 (cpF (H 54) (10410 * (k + 1)) 0 ((j + 1 : Nat) : Int)) by rw [← cpF_s (H 54) (t := 0) (n := 10410) (by omega) j (by omega)]; simp only [am_up, am_so_so, am_so_at, Int.zero_add]]
        exact ih
    · refine st_iconst rfl ?_
      refine st_iret rfl (fun z => by first | exact absurd z (by decide) | exact bi_01 _ | decide | omega) ?_
      exact ⟨am_ri (bi_f (by omega)).symm, by rw [if_neg (by omega)]⟩
abbrev bkO (a : Int → Int) (kd m w l : Int) : Prop := a 3 ≠ 200 ∧ (0 ≤ m ∧ m < a 1) ∧ (0 ≤ kd ∧ kd < 4) ∧ (1 ≤ w ∧ w ≤ 200) ∧ (kd = 2 → 0 ≤ volF a m ∧ volF a m ≤ l ∧ l ≤ 999)
def bkN (a : Int → Int) (kd m w l : Int) : Int → Int := am_uf (am_uf (am_uf (am_uf a (7182 + 8 * a 3) kd) (7182 + 8 * a 3 + 1) m) (7182 + 8 * a 3 + 2) w) (7182 + 8 * a 3 + 3) l
def bkG (a : Int → Int) (kd m w l : Int) : Int → Int := am_uf (fillF (bkN a kd m w (if kd = 2 then l else 0)) (7182 + 8 * a 3 + 4) 4 (-1)) 3 (a 3 + 1)

theorem r_Model_book {d N : Nat} {P : am_P} {H : am_H} {kd m w l : Int} (hP : PZ P) (hI : Inv (H 54)) : am_R (d + 3) 86 [am_r 53, am_i (kd), am_i (m), am_i (w), am_i (l)] (N, P, H) (some (am_i (if bkO (H 54) kd m w l then H 54 3 else -1))) (N, P, am_so H 54 (if bkO (H 54) kd m w l then bkG (H 54) kd m w l else H 54)) := by
  refine am_en1 (d := d + 2) (ml := 7) (ls := [_, _, _, _, _, _, _]) cq_Model_book rfl (Nat.le_of_ble_eq_true rfl) rfl ?_
  have hn := hI.n
  refine st_aload_n rfl rfl (by decide) ?_
  refine st_getR (kk := 0) rfl rfl rfl (pz_53_0 hP) rfl ?_
  refine st_iconst rfl ?_
  refine st_iaload rfl rfl (by omega) (by omega) ?_
  refine st_sipush rfl ?_
  refine st_icmp_eq rfl (fun h5 => ?_) (fun h5 => ?_)
  · refine st_iconst rfl ?_
    refine st_iret rfl (fun z => by first | exact absurd z (by decide) | exact bi_01 _ | decide | omega) ?_
    refine ⟨am_ri (by rw [if_neg (by unfold bkO; omega)]), ?_⟩
    rw [if_neg (by unfold bkO; omega), am_so_self]
  · refine st_aload_n rfl rfl (by decide) ?_
    refine st_iload_n rfl rfl ?_
    refine st_cv1 (w := []) rfl rfl rfl (Nat.le_of_ble_eq_true rfl) (Nat.le_of_ble_eq_true rfl) rfl rfl (r_Model_isMark hP) ?_
    refine st_if_eq_b rfl (fun h9 => ?_) (fun h9 => ?_)
    · refine st_iconst rfl ?_
      refine st_iret rfl (fun z => by first | exact absurd z (by decide) | exact bi_01 _ | decide | omega) ?_
      refine ⟨am_ri (by rw [if_neg (by unfold bkO; omega)]), ?_⟩
      rw [if_neg (by unfold bkO; omega), am_so_self]
    · refine st_iload_n rfl rfl ?_
      refine st_iconst rfl ?_
      refine st_cs1 (w := []) rfl (by decide) (by decide) (by decide) (Nat.le_of_ble_eq_true rfl) (Nat.le_of_ble_eq_true rfl) rfl rfl (r_Model_isIn) ?_
      refine st_if_eq_b rfl (fun h13 => ?_) (fun h13 => ?_)
      · refine st_iconst rfl ?_
        refine st_iret rfl (fun z => by first | exact absurd z (by decide) | exact bi_01 _ | decide | omega) ?_
        refine ⟨am_ri (by rw [if_neg (by unfold bkO; omega)]), ?_⟩
        rw [if_neg (by unfold bkO; omega), am_so_self]
      · refine st_iload_n rfl rfl ?_
        refine st_iconst rfl ?_
        refine st_icmp_lt rfl (fun h16 => ?_) (fun h16 => ?_)
        · refine st_iconst rfl ?_
          refine st_iret rfl (fun z => by first | exact absurd z (by decide) | exact bi_01 _ | decide | omega) ?_
          refine ⟨am_ri (by rw [if_neg (by unfold bkO; omega)]), ?_⟩
          rw [if_neg (by unfold bkO; omega), am_so_self]
        · refine st_iload_n rfl rfl ?_
          refine st_sipush rfl ?_
          refine st_icmp_le rfl (fun h19 => ?_) (fun h19 => ?_)
          · refine st_iload_n rfl rfl ?_
            refine st_iconst rfl ?_
            refine st_icmp_ne rfl (fun h24 => ?_) (fun h24 => ?_)
            · refine st_sipush rfl ?_
              refine st_bipush rfl ?_
              refine st_aload_n rfl rfl (by decide) ?_
              refine st_getR (kk := 0) rfl rfl rfl (pz_53_0 hP) rfl ?_
              refine st_iconst rfl ?_
              refine st_iaload rfl rfl (by omega) (by omega) ?_
              refine st_imul rfl (by omega) ?_
              refine st_iadd rfl (by omega) ?_
              refine st_istore (ls' := [_, _, _, _, _, _, _]) rfl (Nat.le_of_ble_eq_true rfl) rfl ?_
              refine st_aload_n rfl rfl (by decide) ?_
              refine st_getR (kk := 0) rfl rfl rfl (pz_53_0 hP) rfl ?_
              refine st_iload rfl rfl ?_
              refine st_iload_n rfl rfl ?_
              refine st_iastore rfl rfl (by omega) (by omega) ?_
              refine st_aload_n rfl rfl (by decide) ?_
              refine st_getR (kk := 0) rfl rfl rfl (pz_53_0 hP) rfl ?_
              refine st_iload rfl rfl ?_
              refine st_iconst rfl ?_
              refine st_iadd rfl (by omega) ?_
              refine st_iload_n rfl rfl ?_
              refine st_iastore rfl rfl (by omega) (by omega) ?_
              refine st_aload_n rfl rfl (by decide) ?_
              refine st_getR (kk := 0) rfl rfl rfl (pz_53_0 hP) rfl ?_
              refine st_iload rfl rfl ?_
              refine st_iconst rfl ?_
              refine st_iadd rfl (by omega) ?_
              refine st_iload_n rfl rfl ?_
              refine st_iastore rfl rfl (by omega) (by omega) ?_
              refine st_aload_n rfl rfl (by decide) ?_
              refine st_getR (kk := 0) rfl rfl rfl (pz_53_0 hP) rfl ?_
              refine st_iload rfl rfl ?_
              refine st_iconst rfl ?_
              refine st_iadd rfl (by omega) ?_
              refine st_iload_n rfl rfl ?_
              refine st_iconst rfl ?_
              refine st_icmp_ne rfl (fun h74 => ?_) (fun h74 => (by exfalso; omega))
              refine st_iconst rfl ?_
              refine st_iastore rfl rfl (by omega) (by omega) ?_
              refine st_iconst rfl ?_
              refine st_istore (ls' := [_, _, _, _, _, _, _]) rfl (Nat.le_of_ble_eq_true rfl) rfl ?_
              first
              | (have hk2 : kd = 2 := by omega
                 rw [show am_up (am_up (am_up (am_up H 54 (7182 + 8 * H 54 3) kd) 54 (7182 + 8 * H 54 3 + 1) m) 54 (7182 + 8 * H 54 3 + 2) w) 54 (7182 + 8 * H 54 3 + 3) l = am_so H 54 (fillF (bkN (H 54) kd m w l) (7182 + 8 * H 54 3 + 4) ((0 : Nat) : Int) (-1)) by rw [show ((0 : Nat) : Int) = 0 from rfl, fillF_0]; unfold bkN; simp only [am_up, am_so_so, am_so_at]]
                 have ez : fillF (bkN (H 54) kd m w l) (7182 + 8 * H 54 3 + 4) 4 (-1) 3 = H 54 3 := by
                   unfold fillF bkN
                   rw [if_neg (by omega), am_uf_ne _ _ (by omega), am_uf_ne _ _ (by omega), am_uf_ne _ _ (by omega), am_uf_ne _ _ (by omega)]
                 refine up_ind (n := 4) (p := fun j => am_WP (am_R (d + 2)) cd_Model_book _ 81 [some (am_r 53), some (am_i kd), some (am_i m), some (am_i w), some (am_i l), some (am_i (7182 + 8 * H 54 3)), some (am_i (4 + (j : Int)))] [] (N, P, am_so H 54 (fillF (bkN (H 54) kd m w l) (7182 + 8 * H 54 3 + 4) (j : Int) (-1)))) ?_ ?_ 0 (Nat.zero_le _)
                 · show am_WP _ _ _ _ _ _ _
                   refine st_iload rfl rfl ?_
                   refine st_bipush rfl ?_
                   refine st_icmp_ge rfl (fun h83 => ?_) (fun h83 => (by exfalso; omega))
                   refine st_aload_n rfl rfl (by decide) ?_
                   refine st_getR (kk := 0) rfl rfl rfl (pz_53_0 hP) rfl ?_
                   refine st_iconst rfl ?_
                   refine st_dup2 rfl rfl rfl ?_
                   refine st_iaload rfl rfl (by omega) (by omega) ?_
                   rw [am_so_at, show fillF (bkN (H 54) kd m w l) (7182 + 8 * H 54 3 + 4) ((4 : Nat) : Int) (-1) 3 = H 54 3 from ez]
                   refine st_iconst rfl ?_
                   refine st_iadd rfl (by omega) ?_
                   refine st_iastore rfl rfl (by omega) (by omega) ?_
                   refine st_aload_n rfl rfl (by decide) ?_
                   refine st_getR (kk := 0) rfl rfl rfl (pz_53_0 hP) rfl ?_
                   refine st_iconst rfl ?_
                   refine st_iaload rfl rfl (by omega) (by omega) ?_
                   rw [am_up_eq, am_uf_eq]
                   refine st_iconst rfl ?_
                   refine st_isub rfl (by omega) ?_
                   refine st_iret rfl (fun z => by first | exact absurd z (by decide) | exact bi_01 _ | decide | omega) ?_
                   refine ⟨am_ri (by rw [if_pos (by unfold bkO; omega)]; omega), ?_⟩
                   rw [if_pos (by unfold bkO; omega)]
                   unfold bkG
                   first | rw [if_pos (by omega)] | rw [if_neg (by omega)]
                   simp only [am_up, am_so_so, am_so_at]
                   rfl
                 · intro j hj ih
                   have ih : am_WP _ _ _ _ _ _ _ := ih
                   show am_WP _ _ _ _ _ _ _
                   refine st_iload rfl rfl ?_
                   refine st_bipush rfl ?_
                   refine st_icmp_ge rfl (fun h83 => (by exfalso; omega)) (fun h83 => ?_)
                   refine st_aload_n rfl rfl (by decide) ?_
                   refine st_getR (kk := 0) rfl rfl rfl (pz_53_0 hP) rfl ?_
                   refine st_iload rfl rfl ?_
                   refine st_iload rfl rfl ?_
                   refine st_iadd rfl (by omega) ?_
                   refine st_iconst rfl ?_
                   refine st_iastore rfl rfl (by omega) (by omega) ?_
                   refine st_iinc (ls' := [_, _, _, _, _, _, _]) rfl rfl (by omega) rfl ?_
                   refine st_goto rfl ?_
                   rw [show am_up (am_so H 54 (fillF (bkN (H 54) kd m w l) (7182 + 8 * H 54 3 + 4) (j : Int) (-1))) 54 (7182 + 8 * H 54 3 + (4 + (j : Int))) (-1) = am_so H 54 (fillF (bkN (H 54) kd m w l) (7182 + 8 * H 54 3 + 4) ((j + 1 : Nat) : Int) (-1)) by rw [← fillF_s, show 7182 + 8 * H 54 3 + (4 + (j : Int)) = 7182 + 8 * H 54 3 + 4 + (j : Int) by omega]; simp only [am_up, am_so_so, am_so_at]]
                   have e4 : 4 + ((j + 1 : Nat) : Int) = 4 + (j : Int) + 1 := by omega
                   rw [e4] at ih
                   exact ih)
              | (have hk2 : ¬ kd = 2 := by omega
                 rw [show am_up (am_up (am_up (am_up H 54 (7182 + 8 * H 54 3) kd) 54 (7182 + 8 * H 54 3 + 1) m) 54 (7182 + 8 * H 54 3 + 2) w) 54 (7182 + 8 * H 54 3 + 3) 0 = am_so H 54 (fillF (bkN (H 54) kd m w 0) (7182 + 8 * H 54 3 + 4) ((0 : Nat) : Int) (-1)) by rw [show ((0 : Nat) : Int) = 0 from rfl, fillF_0]; unfold bkN; simp only [am_up, am_so_so, am_so_at]]
                 have ez : fillF (bkN (H 54) kd m w 0) (7182 + 8 * H 54 3 + 4) 4 (-1) 3 = H 54 3 := by
                   unfold fillF bkN
                   rw [if_neg (by omega), am_uf_ne _ _ (by omega), am_uf_ne _ _ (by omega), am_uf_ne _ _ (by omega), am_uf_ne _ _ (by omega)]
                 refine up_ind (n := 4) (p := fun j => am_WP (am_R (d + 2)) cd_Model_book _ 81 [some (am_r 53), some (am_i kd), some (am_i m), some (am_i w), some (am_i l), some (am_i (7182 + 8 * H 54 3)), some (am_i (4 + (j : Int)))] [] (N, P, am_so H 54 (fillF (bkN (H 54) kd m w 0) (7182 + 8 * H 54 3 + 4) (j : Int) (-1)))) ?_ ?_ 0 (Nat.zero_le _)
                 · show am_WP _ _ _ _ _ _ _
                   refine st_iload rfl rfl ?_
                   refine st_bipush rfl ?_
                   refine st_icmp_ge rfl (fun h83 => ?_) (fun h83 => (by exfalso; omega))
                   refine st_aload_n rfl rfl (by decide) ?_
                   refine st_getR (kk := 0) rfl rfl rfl (pz_53_0 hP) rfl ?_
                   refine st_iconst rfl ?_
                   refine st_dup2 rfl rfl rfl ?_
                   refine st_iaload rfl rfl (by omega) (by omega) ?_
                   rw [am_so_at, show fillF (bkN (H 54) kd m w 0) (7182 + 8 * H 54 3 + 4) ((4 : Nat) : Int) (-1) 3 = H 54 3 from ez]
                   refine st_iconst rfl ?_
                   refine st_iadd rfl (by omega) ?_
                   refine st_iastore rfl rfl (by omega) (by omega) ?_
                   refine st_aload_n rfl rfl (by decide) ?_
                   refine st_getR (kk := 0) rfl rfl rfl (pz_53_0 hP) rfl ?_
                   refine st_iconst rfl ?_
                   refine st_iaload rfl rfl (by omega) (by omega) ?_
                   rw [am_up_eq, am_uf_eq]
                   refine st_iconst rfl ?_
                   refine st_isub rfl (by omega) ?_
                   refine st_iret rfl (fun z => by first | exact absurd z (by decide) | exact bi_01 _ | decide | omega) ?_
                   refine ⟨am_ri (by rw [if_pos (by unfold bkO; omega)]; omega), ?_⟩
                   rw [if_pos (by unfold bkO; omega)]
                   unfold bkG
                   first | rw [if_pos (by omega)] | rw [if_neg (by omega)]
                   simp only [am_up, am_so_so, am_so_at]
                   rfl
                 · intro j hj ih
                   have ih : am_WP _ _ _ _ _ _ _ := ih
                   show am_WP _ _ _ _ _ _ _
                   refine st_iload rfl rfl ?_
                   refine st_bipush rfl ?_
                   refine st_icmp_ge rfl (fun h83 => (by exfalso; omega)) (fun h83 => ?_)
                   refine st_aload_n rfl rfl (by decide) ?_
                   refine st_getR (kk := 0) rfl rfl rfl (pz_53_0 hP) rfl ?_
                   refine st_iload rfl rfl ?_
                   refine st_iload rfl rfl ?_
                   refine st_iadd rfl (by omega) ?_
                   refine st_iconst rfl ?_
                   refine st_iastore rfl rfl (by omega) (by omega) ?_
                   refine st_iinc (ls' := [_, _, _, _, _, _, _]) rfl rfl (by omega) rfl ?_
                   refine st_goto rfl ?_
                   rw [show am_up (am_so H 54 (fillF (bkN (H 54) kd m w 0) (7182 + 8 * H 54 3 + 4) (j : Int) (-1))) 54 (7182 + 8 * H 54 3 + (4 + (j : Int))) (-1) = am_so H 54 (fillF (bkN (H 54) kd m w 0) (7182 + 8 * H 54 3 + 4) ((j + 1 : Nat) : Int) (-1)) by rw [← fillF_s, show 7182 + 8 * H 54 3 + (4 + (j : Int)) = 7182 + 8 * H 54 3 + 4 + (j : Int) by omega]; simp only [am_up, am_so_so, am_so_at]]
                   have e4 : 4 + ((j + 1 : Nat) : Int) = 4 + (j : Int) + 1 := by omega
                   rw [e4] at ih
                   exact ih)
            · have hmv := (hI.mv (m := m) (by omega) (by omega))
              have hmv0 := hmv.1
              have hmv1 := hmv.2.1
              refine st_aload_n rfl rfl (by decide) ?_
              refine st_iload_n rfl rfl ?_
              refine st_cv1 (w := []) rfl rfl rfl (Nat.le_of_ble_eq_true rfl) (Nat.le_of_ble_eq_true rfl) rfl rfl (r_Model_volumeOf hP (by omega) (by omega) (by omega) (by omega)) ?_
              refine st_if_lt rfl (fun h28 => ?_) (fun h28 => ?_)
              · refine st_iconst rfl ?_
                refine st_iret rfl (fun z => by first | exact absurd z (by decide) | exact bi_01 _ | decide | omega) ?_
                refine ⟨am_ri (by rw [if_neg (by unfold bkO; omega)]), ?_⟩
                rw [if_neg (by unfold bkO; omega), am_so_self]
              · refine st_iload rfl rfl ?_
                refine st_aload_n rfl rfl (by decide) ?_
                refine st_iload_n rfl rfl ?_
                refine st_cv1 (w := [_]) rfl rfl rfl (Nat.le_of_ble_eq_true rfl) (Nat.le_of_ble_eq_true rfl) rfl rfl (r_Model_volumeOf hP (by omega) (by omega) (by omega) (by omega)) ?_
                refine st_icmp_lt rfl (fun h33 => ?_) (fun h33 => ?_)
                · refine st_iconst rfl ?_
                  refine st_iret rfl (fun z => by first | exact absurd z (by decide) | exact bi_01 _ | decide | omega) ?_
                  refine ⟨am_ri (by rw [if_neg (by unfold bkO; omega)]), ?_⟩
                  rw [if_neg (by unfold bkO; omega), am_so_self]
                · refine st_iload rfl rfl ?_
                  refine st_sipush rfl ?_
                  refine st_icmp_le rfl (fun h36 => ?_) (fun h36 => ?_)
                  · refine st_sipush rfl ?_
                    refine st_bipush rfl ?_
                    refine st_aload_n rfl rfl (by decide) ?_
                    refine st_getR (kk := 0) rfl rfl rfl (pz_53_0 hP) rfl ?_
                    refine st_iconst rfl ?_
                    refine st_iaload rfl rfl (by omega) (by omega) ?_
                    refine st_imul rfl (by omega) ?_
                    refine st_iadd rfl (by omega) ?_
                    refine st_istore (ls' := [_, _, _, _, _, _, _]) rfl (Nat.le_of_ble_eq_true rfl) rfl ?_
                    refine st_aload_n rfl rfl (by decide) ?_
                    refine st_getR (kk := 0) rfl rfl rfl (pz_53_0 hP) rfl ?_
                    refine st_iload rfl rfl ?_
                    refine st_iload_n rfl rfl ?_
                    refine st_iastore rfl rfl (by omega) (by omega) ?_
                    refine st_aload_n rfl rfl (by decide) ?_
                    refine st_getR (kk := 0) rfl rfl rfl (pz_53_0 hP) rfl ?_
                    refine st_iload rfl rfl ?_
                    refine st_iconst rfl ?_
                    refine st_iadd rfl (by omega) ?_
                    refine st_iload_n rfl rfl ?_
                    refine st_iastore rfl rfl (by omega) (by omega) ?_
                    refine st_aload_n rfl rfl (by decide) ?_
                    refine st_getR (kk := 0) rfl rfl rfl (pz_53_0 hP) rfl ?_
                    refine st_iload rfl rfl ?_
                    refine st_iconst rfl ?_
                    refine st_iadd rfl (by omega) ?_
                    refine st_iload_n rfl rfl ?_
                    refine st_iastore rfl rfl (by omega) (by omega) ?_
                    refine st_aload_n rfl rfl (by decide) ?_
                    refine st_getR (kk := 0) rfl rfl rfl (pz_53_0 hP) rfl ?_
                    refine st_iload rfl rfl ?_
                    refine st_iconst rfl ?_
                    refine st_iadd rfl (by omega) ?_
                    refine st_iload_n rfl rfl ?_
                    refine st_iconst rfl ?_
                    refine st_icmp_ne rfl (fun h74 => (by exfalso; omega)) (fun h74 => ?_)
                    refine st_iload rfl rfl ?_
                    refine st_goto rfl ?_
                    refine st_iastore rfl rfl (by omega) (by omega) ?_
                    refine st_iconst rfl ?_
                    refine st_istore (ls' := [_, _, _, _, _, _, _]) rfl (Nat.le_of_ble_eq_true rfl) rfl ?_
                    first
                    | (have hk2 : kd = 2 := by omega
                       rw [show am_up (am_up (am_up (am_up H 54 (7182 + 8 * H 54 3) kd) 54 (7182 + 8 * H 54 3 + 1) m) 54 (7182 + 8 * H 54 3 + 2) w) 54 (7182 + 8 * H 54 3 + 3) l = am_so H 54 (fillF (bkN (H 54) kd m w l) (7182 + 8 * H 54 3 + 4) ((0 : Nat) : Int) (-1)) by rw [show ((0 : Nat) : Int) = 0 from rfl, fillF_0]; unfold bkN; simp only [am_up, am_so_so, am_so_at]]
                       have ez : fillF (bkN (H 54) kd m w l) (7182 + 8 * H 54 3 + 4) 4 (-1) 3 = H 54 3 := by
                         unfold fillF bkN
                         rw [if_neg (by omega), am_uf_ne _ _ (by omega), am_uf_ne _ _ (by omega), am_uf_ne _ _ (by omega), am_uf_ne _ _ (by omega)]
                       refine up_ind (n := 4) (p := fun j => am_WP (am_R (d + 2)) cd_Model_book _ 81 [some (am_r 53), some (am_i kd), some (am_i m), some (am_i w), some (am_i l), some (am_i (7182 + 8 * H 54 3)), some (am_i (4 + (j : Int)))] [] (N, P, am_so H 54 (fillF (bkN (H 54) kd m w l) (7182 + 8 * H 54 3 + 4) (j : Int) (-1)))) ?_ ?_ 0 (Nat.zero_le _)
                       · show am_WP _ _ _ _ _ _ _
                         refine st_iload rfl rfl ?_
                         refine st_bipush rfl ?_
                         refine st_icmp_ge rfl (fun h83 => ?_) (fun h83 => (by exfalso; omega))
                         refine st_aload_n rfl rfl (by decide) ?_
                         refine st_getR (kk := 0) rfl rfl rfl (pz_53_0 hP) rfl ?_
                         refine st_iconst rfl ?_
                         refine st_dup2 rfl rfl rfl ?_
                         refine st_iaload rfl rfl (by omega) (by omega) ?_
                         rw [am_so_at, show fillF (bkN (H 54) kd m w l) (7182 + 8 * H 54 3 + 4) ((4 : Nat) : Int) (-1) 3 = H 54 3 from ez]
                         refine st_iconst rfl ?_
                         refine st_iadd rfl (by omega) ?_
                         refine st_iastore rfl rfl (by omega) (by omega) ?_
                         refine st_aload_n rfl rfl (by decide) ?_
                         refine st_getR (kk := 0) rfl rfl rfl (pz_53_0 hP) rfl ?_
                         refine st_iconst rfl ?_
                         refine st_iaload rfl rfl (by omega) (by omega) ?_
                         rw [am_up_eq, am_uf_eq]
                         refine st_iconst rfl ?_
                         refine st_isub rfl (by omega) ?_
                         refine st_iret rfl (fun z => by first | exact absurd z (by decide) | exact bi_01 _ | decide | omega) ?_
                         refine ⟨am_ri (by rw [if_pos (by unfold bkO; omega)]; omega), ?_⟩
                         rw [if_pos (by unfold bkO; omega)]
                         unfold bkG
                         first | rw [if_pos (by omega)] | rw [if_neg (by omega)]
                         simp only [am_up, am_so_so, am_so_at]
                         rfl
                       · intro j hj ih
                         have ih : am_WP _ _ _ _ _ _ _ := ih
                         show am_WP _ _ _ _ _ _ _
                         refine st_iload rfl rfl ?_
                         refine st_bipush rfl ?_
                         refine st_icmp_ge rfl (fun h83 => (by exfalso; omega)) (fun h83 => ?_)
                         refine st_aload_n rfl rfl (by decide) ?_
                         refine st_getR (kk := 0) rfl rfl rfl (pz_53_0 hP) rfl ?_
                         refine st_iload rfl rfl ?_
                         refine st_iload rfl rfl ?_
                         refine st_iadd rfl (by omega) ?_
                         refine st_iconst rfl ?_
                         refine st_iastore rfl rfl (by omega) (by omega) ?_
                         refine st_iinc (ls' := [_, _, _, _, _, _, _]) rfl rfl (by omega) rfl ?_
                         refine st_goto rfl ?_
                         rw [show am_up (am_so H 54 (fillF (bkN (H 54) kd m w l) (7182 + 8 * H 54 3 + 4) (j : Int) (-1))) 54 (7182 + 8 * H 54 3 + (4 + (j : Int))) (-1) = am_so H 54 (fillF (bkN (H 54) kd m w l) (7182 + 8 * H 54 3 + 4) ((j + 1 : Nat) : Int) (-1)) by rw [← fillF_s, show 7182 + 8 * H 54 3 + (4 + (j : Int)) = 7182 + 8 * H 54 3 + 4 + (j : Int) by omega]; simp only [am_up, am_so_so, am_so_at]]
                         have e4 : 4 + ((j + 1 : Nat) : Int) = 4 + (j : Int) + 1 := by omega
                         rw [e4] at ih
                         exact ih)
                    | (have hk2 : ¬ kd = 2 := by omega
                       rw [show am_up (am_up (am_up (am_up H 54 (7182 + 8 * H 54 3) kd) 54 (7182 + 8 * H 54 3 + 1) m) 54 (7182 + 8 * H 54 3 + 2) w) 54 (7182 + 8 * H 54 3 + 3) 0 = am_so H 54 (fillF (bkN (H 54) kd m w 0) (7182 + 8 * H 54 3 + 4) ((0 : Nat) : Int) (-1)) by rw [show ((0 : Nat) : Int) = 0 from rfl, fillF_0]; unfold bkN; simp only [am_up, am_so_so, am_so_at]]
                       have ez : fillF (bkN (H 54) kd m w 0) (7182 + 8 * H 54 3 + 4) 4 (-1) 3 = H 54 3 := by
                         unfold fillF bkN
                         rw [if_neg (by omega), am_uf_ne _ _ (by omega), am_uf_ne _ _ (by omega), am_uf_ne _ _ (by omega), am_uf_ne _ _ (by omega)]
                       refine up_ind (n := 4) (p := fun j => am_WP (am_R (d + 2)) cd_Model_book _ 81 [some (am_r 53), some (am_i kd), some (am_i m), some (am_i w), some (am_i l), some (am_i (7182 + 8 * H 54 3)), some (am_i (4 + (j : Int)))] [] (N, P, am_so H 54 (fillF (bkN (H 54) kd m w 0) (7182 + 8 * H 54 3 + 4) (j : Int) (-1)))) ?_ ?_ 0 (Nat.zero_le _)
                       · show am_WP _ _ _ _ _ _ _
                         refine st_iload rfl rfl ?_
                         refine st_bipush rfl ?_
                         refine st_icmp_ge rfl (fun h83 => ?_) (fun h83 => (by exfalso; omega))
                         refine st_aload_n rfl rfl (by decide) ?_
                         refine st_getR (kk := 0) rfl rfl rfl (pz_53_0 hP) rfl ?_
                         refine st_iconst rfl ?_
                         refine st_dup2 rfl rfl rfl ?_
                         refine st_iaload rfl rfl (by omega) (by omega) ?_
                         rw [am_so_at, show fillF (bkN (H 54) kd m w 0) (7182 + 8 * H 54 3 + 4) ((4 : Nat) : Int) (-1) 3 = H 54 3 from ez]
                         refine st_iconst rfl ?_
                         refine st_iadd rfl (by omega) ?_
                         refine st_iastore rfl rfl (by omega) (by omega) ?_
                         refine st_aload_n rfl rfl (by decide) ?_
                         refine st_getR (kk := 0) rfl rfl rfl (pz_53_0 hP) rfl ?_
                         refine st_iconst rfl ?_
                         refine st_iaload rfl rfl (by omega) (by omega) ?_
                         rw [am_up_eq, am_uf_eq]
                         refine st_iconst rfl ?_
                         refine st_isub rfl (by omega) ?_
                         refine st_iret rfl (fun z => by first | exact absurd z (by decide) | exact bi_01 _ | decide | omega) ?_
                         refine ⟨am_ri (by rw [if_pos (by unfold bkO; omega)]; omega), ?_⟩
                         rw [if_pos (by unfold bkO; omega)]
                         unfold bkG
                         first | rw [if_pos (by omega)] | rw [if_neg (by omega)]
                         simp only [am_up, am_so_so, am_so_at]
                         rfl
                       · intro j hj ih
                         have ih : am_WP _ _ _ _ _ _ _ := ih
                         show am_WP _ _ _ _ _ _ _
                         refine st_iload rfl rfl ?_
                         refine st_bipush rfl ?_
                         refine st_icmp_ge rfl (fun h83 => (by exfalso; omega)) (fun h83 => ?_)
                         refine st_aload_n rfl rfl (by decide) ?_
                         refine st_getR (kk := 0) rfl rfl rfl (pz_53_0 hP) rfl ?_
                         refine st_iload rfl rfl ?_
                         refine st_iload rfl rfl ?_
                         refine st_iadd rfl (by omega) ?_
                         refine st_iconst rfl ?_
                         refine st_iastore rfl rfl (by omega) (by omega) ?_
                         refine st_iinc (ls' := [_, _, _, _, _, _, _]) rfl rfl (by omega) rfl ?_
                         refine st_goto rfl ?_
                         rw [show am_up (am_so H 54 (fillF (bkN (H 54) kd m w 0) (7182 + 8 * H 54 3 + 4) (j : Int) (-1))) 54 (7182 + 8 * H 54 3 + (4 + (j : Int))) (-1) = am_so H 54 (fillF (bkN (H 54) kd m w 0) (7182 + 8 * H 54 3 + 4) ((j + 1 : Nat) : Int) (-1)) by rw [← fillF_s, show 7182 + 8 * H 54 3 + (4 + (j : Int)) = 7182 + 8 * H 54 3 + 4 + (j : Int) by omega]; simp only [am_up, am_so_so, am_so_at]]
                         have e4 : 4 + ((j + 1 : Nat) : Int) = 4 + (j : Int) + 1 := by omega
                         rw [e4] at ih
                         exact ih)
                  · refine st_iconst rfl ?_
                    refine st_iret rfl (fun z => by first | exact absurd z (by decide) | exact bi_01 _ | decide | omega) ?_
                    refine ⟨am_ri (by rw [if_neg (by unfold bkO; omega)]), ?_⟩
                    rw [if_neg (by unfold bkO; omega), am_so_self]
          · refine st_iconst rfl ?_
            refine st_iret rfl (fun z => by first | exact absurd z (by decide) | exact bi_01 _ | decide | omega) ?_
            refine ⟨am_ri (by rw [if_neg (by unfold bkO; omega)]), ?_⟩
            rw [if_neg (by unfold bkO; omega), am_so_self]
