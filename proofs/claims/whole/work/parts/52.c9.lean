/-! ===== the class: which are right ===== -/
def sqH (H : am_H) (n b : Int) (T R : Int → Int) : am_H := am_so (am_so (am_so H 40 (am_uf (am_uf (H 40) 1 n) 0 b)) 41 T) 42 R
theorem sq_o (H : am_H) (n b : Int) (T R : Int → Int) {o : Nat} (h : o < 40 ∨ 42 < o) : sqH H n b T R o = H o := by
  unfold sqH
  rw [am_so_ne _ _ (by omega), am_so_ne _ _ (by omega), am_so_ne _ _ (by omega)]
theorem sq_n (H : am_H) (n b : Int) (T R : Int → Int) : sqH H n b T R 40 1 = n := by
  unfold sqH
  rw [am_so_ne _ _ (by decide), am_so_ne _ _ (by decide), am_so_at, am_uf_ne _ _ (by decide), am_uf_eq]
theorem sq_b (H : am_H) (n b : Int) (T R : Int → Int) : sqH H n b T R 40 0 = b := by
  unfold sqH
  rw [am_so_ne _ _ (by decide), am_so_ne _ _ (by decide), am_so_at, am_uf_eq]
theorem sq_T (H : am_H) (n b : Int) (T R : Int → Int) : sqH H n b T R 41 = T := by
  unfold sqH
  rw [am_so_ne _ _ (by decide), am_so_at]
theorem sq_R (H : am_H) (n b : Int) (T R : Int → Int) : sqH H n b T R 42 = R := by
  unfold sqH
  rw [am_so_at]
theorem sq_uT (H : am_H) (n b : Int) (T R : Int → Int) (i v : Int) : am_up (sqH H n b T R) 41 i v = sqH H n b (am_uf T i v) R := by
  unfold sqH
  exact am_up2a (by decide)
theorem sq_uR (H : am_H) (n b : Int) (T R : Int → Int) (i v : Int) : am_up (sqH H n b T R) 42 i v = sqH H n b T (am_uf R i v) := by
  unfold sqH
  exact am_up2b
theorem sq_ub (H : am_H) (n b : Int) (T R : Int → Int) (v : Int) : am_up (sqH H n b T R) 40 0 v = sqH H n v T R := by
  have e40 : sqH H n b T R 40 = am_uf (am_uf (H 40) 1 n) 0 b := by
    unfold sqH
    rw [am_so_ne _ _ (by decide), am_so_ne _ _ (by decide), am_so_at]
  unfold am_up
  rw [e40]
  funext o
  by_cases h0 : o = 40
  · subst h0
    rw [am_so_at]
    unfold sqH
    rw [am_so_ne _ _ (by decide), am_so_ne _ _ (by decide), am_so_at]
    funext k
    unfold am_uf
    split <;> rfl
  · rw [am_so_ne _ _ h0]
    unfold sqH
    by_cases h2 : o = 42
    · subst h2; rw [am_so_at, am_so_at]
    · rw [am_so_ne _ _ h2, am_so_ne _ _ h2]
      by_cases h1 : o = 41
      · subst h1; rw [am_so_at, am_so_at]
      · rw [am_so_ne _ _ h1, am_so_ne _ _ h1, am_so_ne _ _ h0, am_so_ne _ _ h0]
theorem RM.sq {H : am_H} {a : Int → Int} {n b : Int} {T R : Int → Int} (h : RM H 10 a) : RM (sqH H n b T R) 10 a := RM.so (RM.so (RM.so h (by decide)) (by decide)) (by decide)
theorem RR.sq {H : am_H} {a : Int → Int} {n b : Int} {T R : Int → Int} (h : RR H 10 a) : RR (sqH H n b T R) 10 a := RR.so (RR.so (RR.so h (by decide)) (by decide)) (by decide)

theorem r_Sequence_follows {d N : Nat} {P : am_P} {H : am_H} {x y : Int} {a : Int → Int} (hP : PZ P) (hI : Inv a) (hM : RM H 10 a) (hR : RR H 10 a) (h0 : H 10 5 = a 0) (h5 : 0 ≤ a 5) (hx : 0 ≤ x ∧ x < a 6) (hy : 0 ≤ y ∧ y < a 6) : am_R (d + 4) 193 [am_i (x), am_i (y), am_r 10] (N, P, H) (some (am_i (bi (folF a x y ≤ 0)))) (N, P, H) := by
  refine am_en1 (d := d + 3) (ml := 3) (ls := [_, _, _]) cq_Sequence_follows rfl (Nat.le_of_ble_eq_true rfl) rfl ?_
  have hn := hI.n
  have hh := hI.h
  have hh2 := hh.2.1
  have hrd : ∀ k, 0 ≤ k → k < a 6 → rdA a k = seeF a k := fun k k0 k1 => if_pos ⟨k0, k1⟩
  have hmn : manF a = a 6 := if_neg (by omega)
  have mx := hh.2.2 x hx.1 hx.2
  have my := hh.2.2 y hy.1 hy.2
  refine st_aload_n rfl rfl (by decide) ?_
  refine st_getR (kk := 0) rfl rfl rfl (pz_10_0 hP) rfl ?_
  refine st_aload_n rfl rfl (by decide) ?_
  refine st_getR (kk := 2) rfl rfl rfl (pz_10_2 hP) rfl ?_
  refine st_iload_n rfl rfl ?_
  refine st_cv1 (w := [_]) rfl rfl rfl (Nat.le_of_ble_eq_true rfl) (Nat.le_of_ble_eq_true rfl) rfl rfl (r_Reading_markAt hP hI hR h5) ?_
  rw [hrd x hx.1 hx.2]
  refine st_aload_n rfl rfl (by decide) ?_
  refine st_getR (kk := 2) rfl rfl rfl (pz_10_2 hP) rfl ?_
  refine st_iload_n rfl rfl ?_
  refine st_cv1 (w := [_, _]) rfl rfl rfl (Nat.le_of_ble_eq_true rfl) (Nat.le_of_ble_eq_true rfl) rfl rfl (r_Reading_markAt hP hI hR h5) ?_
  rw [hrd y hy.1 hy.2]
  refine st_aload_n rfl rfl (by decide) ?_
  refine st_getI (kk := 5) rfl rfl (by decide) rfl ?_
  rw [h0]
  refine st_cv1 (w := []) rfl rfl rfl (Nat.le_of_ble_eq_true rfl) (Nat.le_of_ble_eq_true rfl) rfl rfl (r_Marks_compare hP hI hM mx my hI.1) ?_
  rw [show cmpF a (seeF a x) (seeF a y) (a 0) = folF a x y from rfl]
  refine st_if_gt rfl (fun h13 => ?_) (fun h13 => ?_)
  · refine st_iconst rfl ?_
    refine st_iret rfl (fun z => by first | exact absurd z (by decide) | exact bi_01 _ | decide | omega) ?_
    exact ⟨am_ri (by first | rfl | exact bi_iff (by omega) | exact (bi_t (by omega)).symm | exact (bi_f (by omega)).symm), rfl⟩
  · refine st_iconst rfl ?_
    refine st_goto rfl ?_
    refine st_iret rfl (fun z => by first | exact absurd z (by decide) | exact bi_01 _ | decide | omega) ?_
    exact ⟨am_ri (by first | rfl | exact bi_iff (by omega) | exact (bi_t (by omega)).symm | exact (bi_f (by omega)).symm), rfl⟩
theorem r_Sequence_longestFrom {d N : Nat} {P : am_P} {H : am_H} {i b : Int} {T R : Int → Int} {a : Int → Int} (hP : PZ P) (hI : Inv a) (hM : RM H 10 a) (hR : RR H 10 a) (h0 : H 10 5 = a 0) (h5 : 0 ≤ a 5) (hi : 0 ≤ i ∧ i < a 6) (hT : ∀ k, i < k → k < a 6 → 1 ≤ T k ∧ T k ≤ 60) : am_R (d + 5) 192 [am_r 40, am_i (i), am_r 10] (N, P, sqH H (a 6) b T R) (some (am_i (lgI a T i (a 6 - 1 - i).toNat))) (N, P, sqH H (a 6) b T R) := by
  refine am_en1 (d := d + 4) (ml := 5) (ls := [_, _, _, _, _]) cq_Sequence_longestFrom rfl (Nat.le_of_ble_eq_true rfl) rfl ?_
  have hn := hI.n
  have hh := hI.h
  have hh2 := hh.2.1
  have hrd : ∀ k, 0 ≤ k → k < a 6 → rdA a k = seeF a k := fun k k0 k1 => if_pos ⟨k0, k1⟩
  have hmn : manF a = a 6 := if_neg (by omega)
  refine st_iconst rfl ?_
  refine st_istore_n (ls' := [_, _, _, _, _]) rfl (Nat.le_of_ble_eq_true rfl) rfl ?_
  refine st_iload_n rfl rfl ?_
  refine st_iconst rfl ?_
  refine st_iadd rfl (by omega) ?_
  refine st_istore (ls' := [_, _, _, _, _]) rfl (Nat.le_of_ble_eq_true rfl) rfl ?_
  suffices hz : ∀ m, m ≤ (a 6 - 1 - i).toNat → am_WP (am_R (d + 4)) cd_Sequence_longestFrom (fun v' s' => v' = some (am_i (lgI a T i (a 6 - 1 - i).toNat)) ∧ s' = (N, P, sqH H (a 6) b T R)) 6 [some (am_r 40), some (am_i i), some (am_r 10), some (am_i (lgI a T i m - 1)), some (am_i (i + 1 + (m : Int)))] [] (N, P, sqH H (a 6) b T R) by
    have := hz 0 (Nat.zero_le _)
    rw [show i + 1 + ((0 : Nat) : Int) = i + 1 by omega, show lgI a T i 0 - 1 = 0 from rfl] at this
    exact this
  refine up_ind (n := (a 6 - 1 - i).toNat) ?_ ?_
  · have hl := lgI_r (a := a) (T := T) (i := i) (B := 60) (by omega) (a 6 - 1 - i).toNat (fun q hq => by have := hT (i + 1 + (q : Int)) (by omega) (by omega); omega)
    refine st_iload rfl rfl ?_
    refine st_aload_n rfl rfl (by decide) ?_
    refine st_getI (kk := 1) rfl rfl (by decide) rfl ?_
    rw [sq_n]
    refine st_icmp_ge rfl (fun h9 => ?_) (fun h9 => (by exfalso; omega))
    refine st_iload_n rfl rfl ?_
    refine st_iconst rfl ?_
    refine st_iadd rfl (by omega) ?_
    refine st_iret rfl (fun z => by first | exact absurd z (by decide) | exact bi_01 _ | decide | omega) ?_
    exact ⟨am_ri (by omega), rfl⟩
  · intro j hj ih
    have hTk := hT (i + 1 + (j : Int)) (by omega) (by omega)
    have hl := lgI_r (a := a) (T := T) (i := i) (B := 60) (by omega) j (fun q hq => by have := hT (i + 1 + (q : Int)) (by omega) (by omega); omega)
    refine st_iload rfl rfl ?_
    refine st_aload_n rfl rfl (by decide) ?_
    refine st_getI (kk := 1) rfl rfl (by decide) rfl ?_
    rw [sq_n]
    refine st_icmp_ge rfl (fun h9 => (by exfalso; omega)) (fun h9 => ?_)
    refine st_aload_n rfl rfl (by decide) ?_
    refine st_getR (kk := 2) rfl rfl rfl (pz_40_2 hP) rfl ?_
    refine st_iload rfl rfl ?_
    refine st_iaload rfl rfl (by omega) (by omega) ?_
    rw [sq_T]
    refine st_iload_n rfl rfl ?_
    refine st_icmp_le rfl (fun h15 => ?_) (fun h15 => ?_)
    · refine st_iinc (ls' := [_, _, _, _, _]) rfl rfl (by omega) rfl ?_
      refine st_goto rfl ?_
      rw [show i + 1 + (j : Int) + 1 = i + 1 + ((j + 1 : Nat) : Int) by omega]
      first
      | (rw [show lgI a T i (j + 1) = lgI a T i j by simp only [lgI]; rw [if_neg (by omega)]] at ih; exact ih)
      | (rw [show lgI a T i (j + 1) = T (i + 1 + (j : Int)) + 1 by simp only [lgI]; rw [if_pos (by omega)], Int.add_sub_cancel] at ih
         exact ih)
    · refine st_iload_n rfl rfl ?_
      refine st_iload rfl rfl ?_
      refine st_aload_n rfl rfl (by decide) ?_
      refine st_cs1 (w := []) rfl (by decide) (by decide) (by decide) (Nat.le_of_ble_eq_true rfl) (Nat.le_of_ble_eq_true rfl) rfl rfl (r_Sequence_follows hP hI hM.sq hR.sq (by rw [sq_o _ _ _ _ _ (by decide)]; exact h0) h5 (by omega) (by omega)) ?_
      refine st_if_eq_b rfl (fun h20 => ?_) (fun h20 => ?_)
      · refine st_iinc (ls' := [_, _, _, _, _]) rfl rfl (by omega) rfl ?_
        refine st_goto rfl ?_
        rw [show i + 1 + (j : Int) + 1 = i + 1 + ((j + 1 : Nat) : Int) by omega]
        first
        | (rw [show lgI a T i (j + 1) = lgI a T i j by simp only [lgI]; rw [if_neg (by omega)]] at ih; exact ih)
        | (rw [show lgI a T i (j + 1) = T (i + 1 + (j : Int)) + 1 by simp only [lgI]; rw [if_pos (by omega)], Int.add_sub_cancel] at ih
           exact ih)
      · refine st_aload_n rfl rfl (by decide) ?_
        refine st_getR (kk := 2) rfl rfl rfl (pz_40_2 hP) rfl ?_
        refine st_iload rfl rfl ?_
        refine st_iaload rfl rfl (by omega) (by omega) ?_
        rw [sq_T]
        refine st_istore_n (ls' := [_, _, _, _, _]) rfl (Nat.le_of_ble_eq_true rfl) rfl ?_
        refine st_iinc (ls' := [_, _, _, _, _]) rfl rfl (by omega) rfl ?_
        refine st_goto rfl ?_
        rw [show i + 1 + (j : Int) + 1 = i + 1 + ((j + 1 : Nat) : Int) by omega]
        first
        | (rw [show lgI a T i (j + 1) = lgI a T i j by simp only [lgI]; rw [if_neg (by omega)]] at ih; exact ih)
        | (rw [show lgI a T i (j + 1) = T (i + 1 + (j : Int)) + 1 by simp only [lgI]; rw [if_pos (by omega)], Int.add_sub_cancel] at ih
           exact ih)
theorem rgS_stop {a T R : Int → Int} {b : Int} {j : Nat} (h : (rgS a T R b j).1 = 0) : ∀ m : Nat, rgS a T R b (j + m) = rgS a T R b j
  | 0 => rfl
  | m + 1 => by
    have ih := rgS_stop h m
    show rgS a T R b (j + m + 1) = _
    simp only [rgS]
    rw [ih, if_pos (Or.inl h)]

theorem r_Sequence_chooseRights {d N : Nat} {P : am_P} {H : am_H} {b : Int} {T R : Int → Int} {a : Int → Int} (hP : PZ P) (hI : Inv a) (hM : RM H 10 a) (hR : RR H 10 a) (h0 : H 10 5 = a 0) (h5 : 0 ≤ a 5) (hb : 0 ≤ b ∧ b ≤ 60) : am_R (d + 5) 194 [am_r 40, am_r 10] (N, P, sqH H (a 6) b T R) none (N, P, sqH H (a 6) b T (rgS a T R b (a 6).toNat).2.2) := by
  refine am_en1 (d := d + 4) (ml := 5) (ls := [_, _, _, _, _]) cq_Sequence_chooseRights rfl (Nat.le_of_ble_eq_true rfl) rfl ?_
  have hn := hI.n
  have hh := hI.h
  have hh2 := hh.2.1
  have hrd : ∀ k, 0 ≤ k → k < a 6 → rdA a k = seeF a k := fun k k0 k1 => if_pos ⟨k0, k1⟩
  have hmn : manF a = a 6 := if_neg (by omega)
  have hb60 := hb.2
  have hb := hb.1
  refine st_aload_n rfl rfl (by decide) ?_
  refine st_getI (kk := 0) rfl rfl (by decide) rfl ?_
  rw [sq_b]
  refine st_istore_n (ls' := [_, _, _, _, _]) rfl (Nat.le_of_ble_eq_true rfl) rfl ?_
  refine st_iconst rfl ?_
  refine st_istore_n (ls' := [_, _, _, _, _]) rfl (Nat.le_of_ble_eq_true rfl) rfl ?_
  refine st_iconst rfl ?_
  refine st_istore (ls' := [_, _, _, _, _]) rfl (Nat.le_of_ble_eq_true rfl) rfl ?_
  suffices hz : ∀ j, j ≤ (a 6).toNat → am_WP (am_R (d + 4)) cd_Sequence_chooseRights (fun v' s' => v' = none ∧ s' = (N, P, sqH H (a 6) b T (rgS a T R b (a 6).toNat).2.2)) 7 [some (am_r 40), some (am_r 10), some (am_i (rgS a T R b j).1), some (am_i (rgS a T R b j).2.1), some (am_i (j : Int))] [] (N, P, sqH H (a 6) b T (rgS a T R b j).2.2) from hz 0 (Nat.zero_le _)
  refine up_ind (n := (a 6).toNat) ?_ ?_
  · refine st_iload rfl rfl ?_
    refine st_aload_n rfl rfl (by decide) ?_
    refine st_getI (kk := 1) rfl rfl (by decide) rfl ?_
    rw [sq_n]
    refine st_icmp_ge rfl (fun h10 => ?_) (fun h10 => (by exfalso; omega))
    refine st_ret rfl ?_
    exact ⟨rfl, rfl⟩
  · intro j hj ih
    have hr := rgS_r (a := a) (T := T) (R := R) hb j
    have hs : rgS a T R b (j + 1) = if (rgS a T R b j).1 = 0 ∨ T (j : Int) ≠ (rgS a T R b j).1 ∨ (0 ≤ (rgS a T R b j).2.1 ∧ 0 < folF a (rgS a T R b j).2.1 (j : Int)) then rgS a T R b j else ((rgS a T R b j).1 - 1, (j : Int), am_uf (rgS a T R b j).2.2 (j : Int) 1) := rfl
    refine st_iload rfl rfl ?_
    refine st_aload_n rfl rfl (by decide) ?_
    refine st_getI (kk := 1) rfl rfl (by decide) rfl ?_
    rw [sq_n]
    refine st_icmp_ge rfl (fun h10 => (by exfalso; omega)) (fun h10 => ?_)
    refine st_iload_n rfl rfl ?_
    refine st_if_le rfl (fun h12 => ?_) (fun h12 => ?_)
    · refine st_ret rfl ?_
      refine ⟨rfl, ?_⟩
      have hst := rgS_stop (a := a) (T := T) (R := R) (b := b) (j := j) (by omega) ((a 6).toNat - j)
      rw [show j + ((a 6).toNat - j) = (a 6).toNat by omega] at hst
      rw [hst]
    · refine st_aload_n rfl rfl (by decide) ?_
      refine st_getR (kk := 2) rfl rfl rfl (pz_40_2 hP) rfl ?_
      refine st_iload rfl rfl ?_
      refine st_iaload rfl rfl (by omega) (by omega) ?_
      rw [sq_T]
      refine st_iload_n rfl rfl ?_
      refine st_icmp_ne rfl (fun h18 => ?_) (fun h18 => ?_)
      · refine st_iinc (ls' := [_, _, _, _, _]) rfl rfl (by omega) rfl ?_
        refine st_goto rfl ?_
        first
        | (rw [if_pos (by omega)] at hs; rw [hs] at ih; exact ih)
        | (rw [if_neg (by omega)] at hs; rw [hs] at ih; rw [sq_uR]; exact ih)
      · refine st_iload_n rfl rfl ?_
        refine st_iconst rfl ?_
        refine st_icmp_eq rfl (fun h21 => ?_) (fun h21 => ?_)
        · refine st_aload_n rfl rfl (by decide) ?_
          refine st_getR (kk := 3) rfl rfl rfl (pz_40_3 hP) rfl ?_
          refine st_iload rfl rfl ?_
          refine st_iconst rfl ?_
          refine st_iastore rfl rfl (by omega) (by omega) ?_
          refine st_iload rfl rfl ?_
          refine st_istore_n (ls' := [_, _, _, _, _]) rfl (Nat.le_of_ble_eq_true rfl) rfl ?_
          refine st_iinc (ls' := [_, _, _, _, _]) rfl rfl (by omega) rfl ?_
          refine st_iinc (ls' := [_, _, _, _, _]) rfl rfl (by omega) rfl ?_
          refine st_goto rfl ?_
          first
          | (rw [if_pos (by omega)] at hs; rw [hs] at ih; exact ih)
          | (rw [if_neg (by omega)] at hs; rw [hs] at ih; rw [sq_uR]; exact ih)
        · refine st_iload_n rfl rfl ?_
          refine st_iload rfl rfl ?_
          refine st_aload_n rfl rfl (by decide) ?_
          refine st_cs1 (w := []) rfl (by decide) (by decide) (by decide) (Nat.le_of_ble_eq_true rfl) (Nat.le_of_ble_eq_true rfl) rfl rfl (r_Sequence_follows hP hI hM.sq hR.sq (by rw [sq_o _ _ _ _ _ (by decide)]; exact h0) h5 (by omega) (by omega)) ?_
          refine st_if_eq_b rfl (fun h26 => ?_) (fun h26 => ?_)
          · refine st_iinc (ls' := [_, _, _, _, _]) rfl rfl (by omega) rfl ?_
            refine st_goto rfl ?_
            first
            | (rw [if_pos (by omega)] at hs; rw [hs] at ih; exact ih)
            | (rw [if_neg (by omega)] at hs; rw [hs] at ih; rw [sq_uR]; exact ih)
          · refine st_aload_n rfl rfl (by decide) ?_
            refine st_getR (kk := 3) rfl rfl rfl (pz_40_3 hP) rfl ?_
            refine st_iload rfl rfl ?_
            refine st_iconst rfl ?_
            refine st_iastore rfl rfl (by omega) (by omega) ?_
            refine st_iload rfl rfl ?_
            refine st_istore_n (ls' := [_, _, _, _, _]) rfl (Nat.le_of_ble_eq_true rfl) rfl ?_
            refine st_iinc (ls' := [_, _, _, _, _]) rfl rfl (by omega) rfl ?_
            refine st_iinc (ls' := [_, _, _, _, _]) rfl rfl (by omega) rfl ?_
            refine st_goto rfl ?_
            first
            | (rw [if_pos (by omega)] at hs; rw [hs] at ih; exact ih)
            | (rw [if_neg (by omega)] at hs; rw [hs] at ih; rw [sq_uR]; exact ih)
theorem r_Sequence_study {d N : Nat} {P : am_P} {H : am_H}  {a : Int → Int} (hP : PZ P) (hI : Inv a) (hM : RM H 10 a) (hR : RR H 10 a) (h0 : H 10 5 = a 0) (h5 : 0 ≤ a 5) : am_R (d + 6) 191 [am_r 40, am_r 10] (N, P, H) none (N, P, sqH H (a 6) (bsF a (H 41)) (lgF a (H 41)) (rgF a (H 41) (H 42))) := by
  refine am_en1 (d := d + 5) (ml := 3) (ls := [_, _, _]) cq_Sequence_study rfl (Nat.le_of_ble_eq_true rfl) rfl ?_
  have hn := hI.n
  have hh := hI.h
  have hh2 := hh.2.1
  have hrd : ∀ k, 0 ≤ k → k < a 6 → rdA a k = seeF a k := fun k k0 k1 => if_pos ⟨k0, k1⟩
  have hmn : manF a = a 6 := if_neg (by omega)
  have r1 : H 26 1 = a 6 := (hR.2 h5).1
  refine st_aload_n rfl rfl (by decide) ?_
  refine st_aload_n rfl rfl (by decide) ?_
  refine st_getR (kk := 2) rfl rfl rfl (pz_10_2 hP) rfl ?_
  refine st_getI (kk := 1) rfl rfl (by decide) rfl ?_
  refine st_bipush rfl ?_
  refine st_min rfl (Nat.le_of_ble_eq_true rfl) ?_
  refine st_putI (kk := 1) rfl rfl rfl rfl ?_
  refine st_aload_n rfl rfl (by decide) ?_
  refine st_iconst rfl ?_
  refine st_putI (kk := 0) rfl rfl rfl rfl ?_
  rw [show am_up (am_up H 40 1 (if 60 < H 26 1 then 60 else H 26 1)) 40 0 0 = sqH H (a 6) 0 (H 41) (H 42) by
    rw [show (if 60 < H 26 1 then 60 else H 26 1) = a 6 by rw [r1]; split <;> omega]
    unfold am_up sqH
    rw [am_so_so, am_so_at]
    funext o
    by_cases h2 : o = 42
    · subst h2; rw [am_so_at, am_so_ne _ _ (by decide)]
    · rw [am_so_ne _ _ h2]
      by_cases h1 : o = 41
      · subst h1; rw [am_so_at, am_so_ne _ _ (by decide)]
      · rw [am_so_ne _ _ h1]]
  refine st_aload_n rfl rfl (by decide) ?_
  refine st_getI (kk := 1) rfl rfl (by decide) rfl ?_
  rw [sq_n]
  refine st_iconst rfl ?_
  refine st_isub rfl (by omega) ?_
  refine st_istore_n (ls' := [_, _, _]) rfl (Nat.le_of_ble_eq_true rfl) rfl ?_
  suffices hz : ∀ r, r ≤ (a 6).toNat → am_WP (am_R (d + 5)) cd_Sequence_study (fun v' s' => v' = none ∧ s' = (N, P, sqH H (a 6) (bsF a (H 41)) (lgF a (H 41)) (rgF a (H 41) (H 42)))) 15 [some (am_r 40), some (am_r 10), some (am_i (a 6 - 1 - (r : Int)))] [] (N, P, sqH H (a 6) (bsT a (H 41) (a 6) r) (lgT a (H 41) (a 6) r) (zrT (H 42) (a 6) r)) by
    have := hz 0 (Nat.zero_le _)
    rw [show a 6 - 1 - ((0 : Nat) : Int) = a 6 - 1 by omega] at this
    exact this
  refine up_ind (n := (a 6).toNat) ?_ ?_
  · have hbs := bsT_r (a := a) (T0 := H 41) (n := a 6) (a 6).toNat (by omega)
    refine st_iload_n rfl rfl ?_
    refine st_if_lt rfl (fun h16 => ?_) (fun h16 => (by exfalso; omega))
    refine st_aload_n rfl rfl (by decide) ?_
    refine st_aload_n rfl rfl (by decide) ?_
    refine st_cv0 (w := []) rfl rfl rfl (Nat.le_of_ble_eq_true rfl) (Nat.le_of_ble_eq_true rfl) rfl rfl (r_Sequence_chooseRights hP hI hM hR h0 h5 (by omega)) ?_
    refine st_ret rfl ?_
    refine ⟨rfl, ?_⟩
    unfold rgF bsF lgF
    rw [hmn]
  · intro r hr ih
    have hl := lgT_r (a := a) (T0 := H 41) (n := a 6) r (by omega)
    have elg : lgT a (H 41) (a 6) (r + 1) (a 6 - 1 - (r : Int)) = lgI a (lgT a (H 41) (a 6) r) (a 6 - 1 - (r : Int)) r := by simp only [lgT]; rw [am_uf_eq]
    have els : lgT a (H 41) (a 6) (r + 1) = am_uf (lgT a (H 41) (a 6) r) (a 6 - 1 - (r : Int)) (lgI a (lgT a (H 41) (a 6) r) (a 6 - 1 - (r : Int)) r) := rfl
    have ebs : bsT a (H 41) (a 6) (r + 1) = if bsT a (H 41) (a 6) r < lgT a (H 41) (a 6) (r + 1) (a 6 - 1 - (r : Int)) then lgT a (H 41) (a 6) (r + 1) (a 6 - 1 - (r : Int)) else bsT a (H 41) (a 6) r := rfl
    refine st_iload_n rfl rfl ?_
    refine st_if_lt rfl (fun h16 => (by exfalso; omega)) (fun h16 => ?_)
    refine st_aload_n rfl rfl (by decide) ?_
    refine st_getR (kk := 2) rfl rfl rfl (pz_40_2 hP) rfl ?_
    refine st_iload_n rfl rfl ?_
    refine st_aload_n rfl rfl (by decide) ?_
    refine st_iload_n rfl rfl ?_
    refine st_aload_n rfl rfl (by decide) ?_
    refine st_cv1 (w := [_, _]) rfl rfl rfl (Nat.le_of_ble_eq_true rfl) (Nat.le_of_ble_eq_true rfl) rfl rfl (r_Sequence_longestFrom hP hI hM hR h0 h5 (by omega) (fun k q1 q2 => by have := hl k (by omega) q2; omega)) ?_
    rw [show (a 6 - 1 - (a 6 - 1 - (r : Int))).toNat = r by omega]
    refine st_iastore rfl rfl (by omega) (by omega) ?_
    rw [sq_uT, ← els]
    refine st_aload_n rfl rfl (by decide) ?_
    refine st_aload_n rfl rfl (by decide) ?_
    refine st_getI (kk := 0) rfl rfl (by decide) rfl ?_
    rw [sq_b]
    refine st_aload_n rfl rfl (by decide) ?_
    refine st_getR (kk := 2) rfl rfl rfl (pz_40_2 hP) rfl ?_
    refine st_iload_n rfl rfl ?_
    refine st_iaload rfl rfl (by omega) (by omega) ?_
    rw [sq_T]
    refine st_max rfl (Nat.le_of_ble_eq_true rfl) ?_
    refine st_putI (kk := 0) rfl rfl rfl rfl ?_
    rw [← ebs, sq_ub]
    refine st_aload_n rfl rfl (by decide) ?_
    refine st_getR (kk := 3) rfl rfl rfl (pz_40_3 hP) rfl ?_
    refine st_iload_n rfl rfl ?_
    refine st_iconst rfl ?_
    refine st_iastore rfl rfl (by omega) (by omega) ?_
    rw [sq_uR]
    refine st_iinc (ls' := [_, _, _]) rfl rfl (by omega) rfl ?_
    refine st_goto rfl ?_
    rw [show a 6 - 1 - (r : Int) + -1 = a 6 - 1 - ((r + 1 : Nat) : Int) by omega]
    exact ih
theorem lgI_cg {a T T' : Int → Int} {i : Int} : ∀ m : Nat, (∀ k : Nat, k < m → T (i + 1 + (k : Int)) = T' (i + 1 + (k : Int))) → lgI a T i m = lgI a T' i m
  | 0, _ => rfl
  | m + 1, h => by
    simp only [lgI]
    rw [lgI_cg m (fun k hk => h k (by omega)), h m (by omega)]
theorem lgT_cg {a T0 T1 : Int → Int} {n : Int} : ∀ r : Nat, (r : Int) ≤ n → ∀ k : Int, n - r ≤ k → k < n → lgT a T0 n r k = lgT a T1 n r k
  | 0, _, k, h1, h2 => by omega
  | r + 1, h, k, h1, h2 => by
    have ih := lgT_cg (a := a) (T0 := T0) (T1 := T1) (n := n) r (by omega)
    simp only [lgT]
    by_cases hk : k = n - 1 - (r : Int)
    · rw [hk, am_uf_eq, am_uf_eq]
      exact lgI_cg r (fun q hq => ih _ (by omega) (by omega))
    · rw [am_uf_ne _ _ hk, am_uf_ne _ _ hk]
      exact ih k (by omega) h2
theorem bsT_cg {a T0 T1 : Int → Int} {n : Int} : ∀ r : Nat, (r : Int) ≤ n → bsT a T0 n r = bsT a T1 n r
  | 0, _ => rfl
  | r + 1, h => by
    simp only [bsT]
    rw [bsT_cg (T0 := T0) (T1 := T1) r (by omega), lgT_cg (T0 := T0) (T1 := T1) (r + 1) h _ (by omega) (by omega)]
theorem rgS_cg {a T T' R R' : Int → Int} {b n : Int} (hT : ∀ k, 0 ≤ k → k < n → T k = T' k) (hR : ∀ k, 0 ≤ k → k < n → R k = R' k) : ∀ j : Nat, (j : Int) ≤ n → (rgS a T R b j).1 = (rgS a T' R' b j).1 ∧ (rgS a T R b j).2.1 = (rgS a T' R' b j).2.1 ∧ ∀ k, 0 ≤ k → k < n → (rgS a T R b j).2.2 k = (rgS a T' R' b j).2.2 k
  | 0, _ => ⟨rfl, rfl, hR⟩
  | j + 1, h => by
    obtain ⟨i1, i2, i3⟩ := rgS_cg (a := a) (b := b) hT hR j (by omega)
    have ht := hT (j : Int) (by omega) (by omega)
    simp only [rgS]
    rw [← i1, ← i2, ← ht]
    split
    · exact ⟨i1, i2, i3⟩
    · refine ⟨rfl, rfl, fun k k0 k1 => ?_⟩
      show am_uf _ _ _ _ = am_uf _ _ _ _
      by_cases hk : k = (j : Int)
      · rw [hk, am_uf_eq, am_uf_eq]
      · rw [am_uf_ne _ _ hk, am_uf_ne _ _ hk]
        exact i3 k k0 k1
theorem bsF_cg {a T0 T1 : Int → Int} (hI : Inv a) : bsF a T0 = bsF a T1 := by
  have := man_r hI
  exact bsT_cg _ (by omega)
theorem rgF_cg {a T0 T1 R0 R1 : Int → Int} (hI : Inv a) {k : Int} (k0 : 0 ≤ k) (k1 : k < manF a) : rgF a T0 R0 k = rgF a T1 R1 k := by
  have hm := man_r hI
  unfold rgF
  rw [bsF_cg (T0 := T0) (T1 := T1) hI]
  exact (rgS_cg (n := manF a) (fun k k0 k1 => lgT_cg _ (by omega) k (by omega) k1) (fun k k0 k1 => by rw [zrT_r _ (by omega) k (by omega) k1, zrT_r _ (by omega) k (by omega) k1]) (manF a).toNat (by omega)).2.2 k k0 k1

theorem l_placeOf {d N : Nat} {P : am_P} {H : am_H} {R : Int → Int} {w k n : Int} {Q : Option am_V → am_S → Prop} (hP : PZ P) (h1 : H 40 1 = n) (hn : 0 ≤ n ∧ n ≤ 60) (hR : ∀ k, 0 ≤ k → k < n → H 42 k = R k ∧ (R k = 0 ∨ R k = 1)) (hw : w = 0 ∨ w = 1) : ∀ (f : Nat) (i l : Int), i + f = n → 0 ≤ i → 0 ≤ l → l ≤ 2147483647 → Q (some (am_i (orL R w f i l))) (N, P, H) → am_WP (am_R (d + 0)) cd_Sequence_placeOf Q 4 [some (am_r 40), some (am_i w), some (am_i k), some (am_i l), some (am_i i)] [] (N, P, H) := by
  intro f
  induction f with
  | zero =>
    intro i l e hi hl hl2 hq
    refine st_iload rfl rfl ?_
    refine st_aload_n rfl rfl (by decide) ?_
    refine st_getI (kk := 1) rfl rfl (by decide) rfl ?_
    refine st_icmp_ge rfl (fun h7 => ?_) (fun h7 => (by exfalso; omega))
    refine st_iconst rfl ?_
    refine st_iret rfl (fun z => by first | exact absurd z (by decide) | exact bi_01 _ | decide | omega) ?_
    exact hq
  | succ f ih =>
    intro i l e hi hl hl2 hq
    have hs : orL R w (f + 1) i l = if R i = w then (if l = 0 then i else orL R w f (i + 1) (l - 1)) else orL R w f (i + 1) l := rfl
    rw [hs] at hq
    have hRi := hR i hi (by omega)
    refine st_iload rfl rfl ?_
    refine st_aload_n rfl rfl (by decide) ?_
    refine st_getI (kk := 1) rfl rfl (by decide) rfl ?_
    refine st_icmp_ge rfl (fun h7 => (by exfalso; omega)) (fun h7 => ?_)
    refine st_iload_n rfl rfl ?_
    refine st_if_lt rfl (fun h9 => (by exfalso; omega)) (fun h9 => ?_)
    refine st_aload_n rfl rfl (by decide) ?_
    refine st_getR (kk := 3) rfl rfl rfl (pz_40_3 hP) rfl ?_
    refine st_iload rfl rfl ?_
    refine st_iaload rfl rfl (by omega) (by omega) ?_
    rw [hRi.1]
    refine st_iconst rfl ?_
    refine st_icmp_ne rfl (fun h15 => ?_) (fun h15 => ?_)
    · refine st_iconst rfl ?_
      refine st_iload_n rfl rfl ?_
      refine st_icmp_ne rfl (fun h20 => ?_) (fun h20 => ?_)
      · refine st_iinc (ls' := [_, _, _, _, _]) rfl rfl (by omega) rfl ?_
        refine st_goto rfl ?_
        first
        | (rw [if_neg (by omega)] at hq; exact ih (i + 1) l (by omega) (by omega) hl hl2 hq)
        | (rw [if_pos (by omega), if_neg (by omega)] at hq; exact ih (i + 1) (l - 1) (by omega) (by omega) (by omega) (by omega) hq)
      · refine st_iload_n rfl rfl ?_
        refine st_if_ne rfl (fun h22 => ?_) (fun h22 => ?_)
        · refine st_iinc (ls' := [_, _, _, _, _]) rfl rfl (by omega) rfl ?_
          refine st_iinc (ls' := [_, _, _, _, _]) rfl rfl (by omega) rfl ?_
          refine st_goto rfl ?_
          first
          | (rw [if_neg (by omega)] at hq; exact ih (i + 1) l (by omega) (by omega) hl hl2 hq)
          | (rw [if_pos (by omega), if_neg (by omega)] at hq; exact ih (i + 1) (l - 1) (by omega) (by omega) (by omega) (by omega) hq)
        · refine st_iload rfl rfl ?_
          refine st_iret rfl (fun z => by first | exact absurd z (by decide) | exact bi_01 _ | decide | omega) ?_
          rw [if_pos (by omega), if_pos (by omega)] at hq; exact hq
    · refine st_iconst rfl ?_
      refine st_goto rfl ?_
      refine st_iload_n rfl rfl ?_
      refine st_icmp_ne rfl (fun h20 => ?_) (fun h20 => ?_)
      · refine st_iinc (ls' := [_, _, _, _, _]) rfl rfl (by omega) rfl ?_
        refine st_goto rfl ?_
        first
        | (rw [if_neg (by omega)] at hq; exact ih (i + 1) l (by omega) (by omega) hl hl2 hq)
        | (rw [if_pos (by omega), if_neg (by omega)] at hq; exact ih (i + 1) (l - 1) (by omega) (by omega) (by omega) (by omega) hq)
      · refine st_iload_n rfl rfl ?_
        refine st_if_ne rfl (fun h22 => ?_) (fun h22 => ?_)
        · refine st_iinc (ls' := [_, _, _, _, _]) rfl rfl (by omega) rfl ?_
          refine st_iinc (ls' := [_, _, _, _, _]) rfl rfl (by omega) rfl ?_
          refine st_goto rfl ?_
          first
          | (rw [if_neg (by omega)] at hq; exact ih (i + 1) l (by omega) (by omega) hl hl2 hq)
          | (rw [if_pos (by omega), if_neg (by omega)] at hq; exact ih (i + 1) (l - 1) (by omega) (by omega) (by omega) (by omega) hq)
        · refine st_iload rfl rfl ?_
          refine st_iret rfl (fun z => by first | exact absurd z (by decide) | exact bi_01 _ | decide | omega) ?_
          rw [if_pos (by omega), if_pos (by omega)] at hq; exact hq
theorem r_Sequence_placeOf {d N : Nat} {P : am_P} {H : am_H} {R : Int → Int} {w k n : Int} (hP : PZ P) (h1 : H 40 1 = n) (hn : 0 ≤ n ∧ n ≤ 60) (hR : ∀ k, 0 ≤ k → k < n → H 42 k = R k ∧ (R k = 0 ∨ R k = 1)) (hw : w = 0 ∨ w = 1) (hk : k ≤ 2147483647) : am_R (d + 1) 195 [am_r 40, am_i (w), am_i (k)] (N, P, H) (some (am_i (if 0 ≤ k then orL R w n.toNat 0 k else -1))) (N, P, H) := by
  refine am_en1 (d := d + 0) (ml := 5) (ls := [_, _, _, _, _]) cq_Sequence_placeOf rfl (Nat.le_of_ble_eq_true rfl) rfl ?_
  refine st_iload_n rfl rfl ?_
  refine st_istore_n (ls' := [_, _, _, _, _]) rfl (Nat.le_of_ble_eq_true rfl) rfl ?_
  refine st_iconst rfl ?_
  refine st_istore (ls' := [_, _, _, _, _]) rfl (Nat.le_of_ble_eq_true rfl) rfl ?_
  by_cases hk0 : 0 ≤ k
  · exact l_placeOf hP h1 hn hR hw n.toNat 0 k (by omega) (by omega) hk0 hk ⟨am_ri (by rw [if_pos hk0]), rfl⟩
  · refine st_iload rfl rfl ?_
    refine st_aload_n rfl rfl (by decide) ?_
    refine st_getI (kk := 1) rfl rfl (by decide) rfl ?_
    refine st_icmp_ge rfl (fun h7 => ?_) (fun h7 => ?_)
    · refine st_iconst rfl ?_
      refine st_iret rfl (fun z => by first | exact absurd z (by decide) | exact bi_01 _ | decide | omega) ?_
      exact ⟨am_ri (by rw [if_neg hk0]), rfl⟩
    · refine st_iload_n rfl rfl ?_
      refine st_if_lt rfl (fun h9 => ?_) (fun h9 => (by exfalso; omega))
      refine st_iconst rfl ?_
      refine st_iret rfl (fun z => by first | exact absurd z (by decide) | exact bi_01 _ | decide | omega) ?_
      exact ⟨am_ri (by rw [if_neg hk0]), rfl⟩
theorem r_Sequence_newPlaceOf {d N : Nat} {P : am_P} {H : am_H} {R : Int → Int} {x : Int} {a : Int → Int} (hP : PZ P) (hI : Inv a) (hM : RM H 10 a) (hR : RR H 10 a) (h0 : H 10 5 = a 0) (h5 : 0 ≤ a 5) (h1 : H 40 1 = a 6) (hRR : ∀ k, 0 ≤ k → k < a 6 → H 42 k = R k ∧ (R k = 0 ∨ R k = 1)) (hx : 0 ≤ x ∧ x < a 6) (hRx : R x = 0) : am_R (d + 5) 196 [am_r 40, am_i (x), am_r 10] (N, P, H) (some (am_i (toL a R (seeF a x) x (a 6).toNat))) (N, P, H) := by
  refine am_en1 (d := d + 4) (ml := 5) (ls := [_, _, _, _, _]) cq_Sequence_newPlaceOf rfl (Nat.le_of_ble_eq_true rfl) rfl ?_
  have hn := hI.n
  have hh := hI.h
  have hh2 := hh.2.1
  have hrd : ∀ k, 0 ≤ k → k < a 6 → rdA a k = seeF a k := fun k k0 k1 => if_pos ⟨k0, k1⟩
  have hmn : manF a = a 6 := if_neg (by omega)
  refine st_iconst rfl ?_
  refine st_istore_n (ls' := [_, _, _, _, _]) rfl (Nat.le_of_ble_eq_true rfl) rfl ?_
  refine st_iconst rfl ?_
  refine st_istore (ls' := [_, _, _, _, _]) rfl (Nat.le_of_ble_eq_true rfl) rfl ?_
  suffices hz : ∀ j, j ≤ (a 6).toNat → am_WP (am_R (d + 4)) cd_Sequence_newPlaceOf (fun v' s' => v' = some (am_i (toL a R (seeF a x) x (a 6).toNat)) ∧ s' = (N, P, H)) 4 [some (am_r 40), some (am_i x), some (am_r 10), some (am_i (toL a R (seeF a x) x j)), some (am_i (j : Int))] [] (N, P, H) from hz 0 (Nat.zero_le _)
  refine up_ind (n := (a 6).toNat) ?_ ?_
  · refine st_iload rfl rfl ?_
    refine st_aload_n rfl rfl (by decide) ?_
    refine st_getI (kk := 1) rfl rfl (by decide) rfl ?_
    rw [h1]
    refine st_icmp_ge rfl (fun h7 => ?_) (fun h7 => (by exfalso; omega))
    refine st_iload_n rfl rfl ?_
    refine st_iret rfl (fun z => by first | exact absurd z (by decide) | exact bi_01 _ | decide | omega) ?_
    exact ⟨rfl, rfl⟩
  · intro j hj ih
    have hRj := hRR (j : Int) (by omega) (by omega)
    have hs : toL a R (seeF a x) x (j + 1) = if R (j : Int) ≠ 0 ∧ 0 ≤ cmpF a (seeF a x) (seeF a (j : Int)) (a 0) then (if x < (j : Int) then (j : Int) else (j : Int) + 1) else toL a R (seeF a x) x j := rfl
    have hng := cmp_neg (a := a) (x := seeF a x) (y := seeF a (j : Int)) (w := a 0)
    have hfo : folF a (j : Int) x = cmpF a (seeF a (j : Int)) (seeF a x) (a 0) := rfl
    have hne : R (j : Int) = 1 → (j : Int) ≠ x := fun q z => by rw [z] at q; omega
    refine st_iload rfl rfl ?_
    refine st_aload_n rfl rfl (by decide) ?_
    refine st_getI (kk := 1) rfl rfl (by decide) rfl ?_
    rw [h1]
    refine st_icmp_ge rfl (fun h7 => (by exfalso; omega)) (fun h7 => ?_)
    refine st_aload_n rfl rfl (by decide) ?_
    refine st_getR (kk := 3) rfl rfl rfl (pz_40_3 hP) rfl ?_
    refine st_iload rfl rfl ?_
    refine st_iaload rfl rfl (by omega) (by omega) ?_
    rw [hRj.1]
    refine st_iconst rfl ?_
    refine st_icmp_ne rfl (fun h13 => ?_) (fun h13 => ?_)
    · refine st_iinc (ls' := [_, _, _, _, _]) rfl rfl (by omega) rfl ?_
      refine st_goto rfl ?_
      first
      | (rw [if_neg (by omega)] at hs; rw [hs] at ih; exact ih)
      | (rw [if_pos (by omega), if_neg (by omega)] at hs; rw [hs] at ih; exact ih)
      | (rw [if_pos (by omega), if_pos (by omega)] at hs; rw [hs] at ih; exact ih)
    · refine st_iload rfl rfl ?_
      refine st_iload_n rfl rfl ?_
      refine st_aload_n rfl rfl (by decide) ?_
      refine st_cs1 (w := []) rfl (by decide) (by decide) (by decide) (Nat.le_of_ble_eq_true rfl) (Nat.le_of_ble_eq_true rfl) rfl rfl (r_Sequence_follows hP hI hM hR h0 h5 (by omega) hx) ?_
      refine st_if_eq_b rfl (fun h18 => ?_) (fun h18 => ?_)
      · refine st_iinc (ls' := [_, _, _, _, _]) rfl rfl (by omega) rfl ?_
        refine st_goto rfl ?_
        first
        | (rw [if_neg (by omega)] at hs; rw [hs] at ih; exact ih)
        | (rw [if_pos (by omega), if_neg (by omega)] at hs; rw [hs] at ih; exact ih)
        | (rw [if_pos (by omega), if_pos (by omega)] at hs; rw [hs] at ih; exact ih)
      · refine st_iload rfl rfl ?_
        refine st_iload_n rfl rfl ?_
        refine st_icmp_ge rfl (fun h21 => ?_) (fun h21 => ?_)
        · refine st_iload rfl rfl ?_
          refine st_istore_n (ls' := [_, _, _, _, _]) rfl (Nat.le_of_ble_eq_true rfl) rfl ?_
          refine st_iinc (ls' := [_, _, _, _, _]) rfl rfl (by omega) rfl ?_
          refine st_goto rfl ?_
          first
          | (rw [if_neg (by omega)] at hs; rw [hs] at ih; exact ih)
          | (rw [if_pos (by omega), if_neg (by omega)] at hs; rw [hs] at ih; exact ih)
          | (rw [if_pos (by omega), if_pos (by omega)] at hs; rw [hs] at ih; exact ih)
        · refine st_iload rfl rfl ?_
          refine st_iconst rfl ?_
          refine st_iadd rfl (by omega) ?_
          refine st_goto rfl ?_
          refine st_istore_n (ls' := [_, _, _, _, _]) rfl (Nat.le_of_ble_eq_true rfl) rfl ?_
          refine st_iinc (ls' := [_, _, _, _, _]) rfl rfl (by omega) rfl ?_
          refine st_goto rfl ?_
          first
          | (rw [if_neg (by omega)] at hs; rw [hs] at ih; exact ih)
          | (rw [if_pos (by omega), if_neg (by omega)] at hs; rw [hs] at ih; exact ih)
          | (rw [if_pos (by omega), if_pos (by omega)] at hs; rw [hs] at ih; exact ih)
