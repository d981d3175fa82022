/-! ===== the class: the reading and the list ===== -/
theorem r_Reading_isThere {d N : Nat} {P : am_P} {H : am_H}  {a : Int → Int} (hP : PZ P) (hI : Inv a) (hR : RR H 10 a) : am_R (d + 1) 183 [am_r 26] (N, P, H) (some (am_i (bi (0 ≤ a 5)))) (N, P, H) := by
  refine am_en1 (d := d + 0) (ml := 1) (ls := [_]) cq_Reading_isThere rfl (Nat.le_of_ble_eq_true rfl) rfl ?_
  have hn := hI.n
  have hh := hI.h.1
  have hh2 := hI.h.2.1
  have r0 : H 26 0 = a 5 := hR.1
  refine st_aload_n rfl rfl (by decide) ?_
  refine st_getI (kk := 0) rfl rfl (by decide) rfl ?_
  refine st_iconst rfl ?_
  refine st_icmp_eq rfl (fun h3 => ?_) (fun h3 => ?_)
  · refine st_iconst rfl ?_
    refine st_iret rfl (fun z => by first | exact absurd z (by decide) | exact bi_01 _ | decide | omega) ?_
    exact ⟨am_ri (by first | rfl | exact bi_iff (by omega) | exact (bi_t (by omega)).symm | exact (bi_f (by omega)).symm), rfl⟩
  · refine st_iconst rfl ?_
    refine st_goto rfl ?_
    refine st_iret rfl (fun z => by first | exact absurd z (by decide) | exact bi_01 _ | decide | omega) ?_
    exact ⟨am_ri (by first | rfl | exact bi_iff (by omega) | exact (bi_t (by omega)).symm | exact (bi_f (by omega)).symm), rfl⟩
theorem r_Reading_begin {d N : Nat} {P : am_P} {H : am_H} {s : Int} (hP : PZ P) : am_R (d + 1) 184 [am_r 26, am_i (s)] (N, P, H) none (N, P, am_up (am_up H 26 0 s) 26 1 0) := by
  refine am_en1 (d := d + 0) (ml := 2) (ls := [_, _]) cq_Reading_begin rfl (Nat.le_of_ble_eq_true rfl) rfl ?_
  refine st_aload_n rfl rfl (by decide) ?_
  refine st_iload_n rfl rfl ?_
  refine st_putI (kk := 0) rfl rfl rfl rfl ?_
  refine st_aload_n rfl rfl (by decide) ?_
  refine st_iconst rfl ?_
  refine st_putI (kk := 1) rfl rfl rfl rfl ?_
  refine st_ret rfl ?_
  exact ⟨rfl, rfl⟩
theorem r_Reading_end {d N : Nat} {P : am_P} {H : am_H}  (hP : PZ P) : am_R (d + 1) 185 [am_r 26] (N, P, H) none (N, P, am_up (am_up H 26 0 (-1)) 26 1 0) := by
  refine am_en1 (d := d + 0) (ml := 1) (ls := [_]) cq_Reading_end rfl (Nat.le_of_ble_eq_true rfl) rfl ?_
  refine st_aload_n rfl rfl (by decide) ?_
  refine st_iconst rfl ?_
  refine st_putI (kk := 0) rfl rfl rfl rfl ?_
  refine st_aload_n rfl rfl (by decide) ?_
  refine st_iconst rfl ?_
  refine st_putI (kk := 1) rfl rfl rfl rfl ?_
  refine st_ret rfl ?_
  exact ⟨rfl, rfl⟩
theorem r_Reading_add {d N : Nat} {P : am_P} {H : am_H} {m n : Int} (hP : PZ P) (h1 : H 26 1 = n) (hn : 0 ≤ n ∧ n ≤ 60) : am_R (d + 1) 186 [am_r 26, am_i (m)] (N, P, H) (some (am_i (bi (n < 60)))) (N, P, if n < 60 then am_up (am_up H 27 n m) 26 1 (n + 1) else H) := by
  refine am_en1 (d := d + 0) (ml := 2) (ls := [_, _]) cq_Reading_add rfl (Nat.le_of_ble_eq_true rfl) rfl ?_
  refine st_aload_n rfl rfl (by decide) ?_
  refine st_getI (kk := 1) rfl rfl (by decide) rfl ?_
  refine st_if_lt rfl (fun h2 => (by exfalso; omega)) (fun h2 => ?_)
  refine st_aload_n rfl rfl (by decide) ?_
  refine st_getI (kk := 1) rfl rfl (by decide) rfl ?_
  refine st_bipush rfl ?_
  refine st_icmp_lt rfl (fun h6 => ?_) (fun h6 => ?_)
  · refine st_aload_n rfl rfl (by decide) ?_
    refine st_getR (kk := 2) rfl rfl rfl (pz_26_2 hP) rfl ?_
    refine st_aload_n rfl rfl (by decide) ?_
    refine st_getI (kk := 1) rfl rfl (by decide) rfl ?_
    refine st_iload_n rfl rfl ?_
    rw [h1]
    refine st_iastore rfl rfl (by omega) (by omega) ?_
    refine st_aload_n rfl rfl (by decide) ?_
    refine st_dup rfl rfl ?_
    refine st_getI (kk := 1) rfl rfl (by decide) rfl ?_
    rw [show am_up H 27 n m 26 1 = n from h1]
    refine st_iconst rfl ?_
    refine st_iadd rfl (by omega) ?_
    refine st_putI (kk := 1) rfl rfl rfl rfl ?_
    refine st_iconst rfl ?_
    refine st_iret rfl (fun z => by first | exact absurd z (by decide) | exact bi_01 _ | decide | omega) ?_
    exact ⟨am_ri (by first | exact (bi_t (by omega)).symm | exact (bi_f (by omega)).symm), by first | rw [if_pos (by omega)] | rw [if_neg (by omega)]⟩
  · refine st_iconst rfl ?_
    refine st_iret rfl (fun z => by first | exact absurd z (by decide) | exact bi_01 _ | decide | omega) ?_
    exact ⟨am_ri (by first | exact (bi_t (by omega)).symm | exact (bi_f (by omega)).symm), by first | rw [if_pos (by omega)] | rw [if_neg (by omega)]⟩
def rdA (a : Int → Int) (k : Int) : Int := if 0 ≤ k ∧ k < a 6 then a (7 + k) else -1
theorem r_Reading_markAt {d N : Nat} {P : am_P} {H : am_H} {k : Int} {a : Int → Int} (hP : PZ P) (hI : Inv a) (hR : RR H 10 a) (h5 : 0 ≤ a 5) : am_R (d + 1) 187 [am_r 26, am_i (k)] (N, P, H) (some (am_i (rdA a k))) (N, P, H) := by
  refine am_en1 (d := d + 0) (ml := 2) (ls := [_, _]) cq_Reading_markAt rfl (Nat.le_of_ble_eq_true rfl) rfl ?_
  have hn := hI.n
  have hh := hI.h.1
  have hh2 := hI.h.2.1
  have r0 : H 26 0 = a 5 := hR.1
  have r1 : H 26 1 = a 6 := (hR.2 h5).1
  have rr : ∀ k, 0 ≤ k → k < a 6 → H 27 k = a (7 + k) := (hR.2 h5).2
  refine st_iload_n rfl rfl ?_
  refine st_if_lt rfl (fun h1 => ?_) (fun h1 => ?_)
  · refine st_iconst rfl ?_
    refine st_iret rfl (fun z => by first | exact absurd z (by decide) | exact bi_01 _ | decide | omega) ?_
    exact ⟨am_ri (by unfold rdA; first | rw [if_pos (by omega)] | rw [if_neg (by omega)]), rfl⟩
  · refine st_iload_n rfl rfl ?_
    refine st_aload_n rfl rfl (by decide) ?_
    refine st_getI (kk := 1) rfl rfl (by decide) rfl ?_
    refine st_icmp_ge rfl (fun h5 => ?_) (fun h5 => ?_)
    · refine st_iconst rfl ?_
      refine st_iret rfl (fun z => by first | exact absurd z (by decide) | exact bi_01 _ | decide | omega) ?_
      exact ⟨am_ri (by unfold rdA; first | rw [if_pos (by omega)] | rw [if_neg (by omega)]), rfl⟩
    · refine st_aload_n rfl rfl (by decide) ?_
      refine st_getR (kk := 2) rfl rfl rfl (pz_26_2 hP) rfl ?_
      refine st_iload_n rfl rfl ?_
      refine st_iaload rfl rfl (by omega) (by omega) ?_
      rw [rr k (by omega) (by omega)]
      refine st_goto rfl ?_
      refine st_iret rfl (fun z => by first | exact absurd z (by decide) | exact bi_01 _ | decide | omega) ?_
      exact ⟨am_ri (by unfold rdA; first | rw [if_pos (by omega)] | rw [if_neg (by omega)]), rfl⟩
theorem r_Reading_shiftOne {d N : Nat} {P : am_P} {H : am_H} {x y n : Int} (hP : PZ P) (h1 : H 26 1 = n) (hn : n ≤ 60) (hx : 0 ≤ x ∧ x < n) (hy : 0 ≤ y ∧ y < n) : am_R (d + 1) 188 [am_r 26, am_i (x), am_i (y)] (N, P, H) none (N, P, am_so H 27 (am_uf (if x < y then am_cpy (H 27) (H 27) (x + 1) x (y - x) else am_cpy (H 27) (H 27) y (y + 1) (x - y)) y (H 27 x))) := by
  refine am_en1 (d := d + 0) (ml := 4) (ls := [_, _, _, _]) cq_Reading_shiftOne rfl (Nat.le_of_ble_eq_true rfl) rfl ?_
  refine st_iload_n rfl rfl ?_
  refine st_if_lt rfl (fun h1 => (by exfalso; omega)) (fun h1 => ?_)
  refine st_iload_n rfl rfl ?_
  refine st_aload_n rfl rfl (by decide) ?_
  refine st_getI (kk := 1) rfl rfl (by decide) rfl ?_
  refine st_icmp_ge rfl (fun h5 => (by exfalso; omega)) (fun h5 => ?_)
  refine st_iload_n rfl rfl ?_
  refine st_if_lt rfl (fun h7 => (by exfalso; omega)) (fun h7 => ?_)
  refine st_iload_n rfl rfl ?_
  refine st_aload_n rfl rfl (by decide) ?_
  refine st_getI (kk := 1) rfl rfl (by decide) rfl ?_
  refine st_icmp_lt rfl (fun h11 => ?_) (fun h11 => (by exfalso; omega))
  refine st_aload_n rfl rfl (by decide) ?_
  refine st_getR (kk := 2) rfl rfl rfl (pz_26_2 hP) rfl ?_
  refine st_iload_n rfl rfl ?_
  refine st_iaload rfl rfl (by omega) (by omega) ?_
  refine st_istore_n (ls' := [_, _, _, _]) rfl (Nat.le_of_ble_eq_true rfl) rfl ?_
  refine st_iload_n rfl rfl ?_
  refine st_iload_n rfl rfl ?_
  refine st_icmp_ge rfl (fun h20 => ?_) (fun h20 => ?_)
  · refine st_aload_n rfl rfl (by decide) ?_
    refine st_getR (kk := 2) rfl rfl rfl (pz_26_2 hP) rfl ?_
    refine st_iload_n rfl rfl ?_
    refine st_aload_n rfl rfl (by decide) ?_
    refine st_getR (kk := 2) rfl rfl rfl (pz_26_2 hP) rfl ?_
    refine st_iload_n rfl rfl ?_
    refine st_iconst rfl ?_
    refine st_iadd rfl (by omega) ?_
    refine st_iload_n rfl rfl ?_
    refine st_iload_n rfl rfl ?_
    refine st_isub rfl (by omega) ?_
    refine st_copy rfl rfl rfl (Or.inl rfl) (by omega) (by omega) (by omega) (by omega) (by omega) (Nat.le_of_ble_eq_true rfl) ?_
    refine st_aload_n rfl rfl (by decide) ?_
    refine st_getR (kk := 2) rfl rfl rfl (pz_26_2 hP) rfl ?_
    refine st_iload_n rfl rfl ?_
    refine st_iload_n rfl rfl ?_
    refine st_iastore rfl rfl (by omega) (by omega) ?_
    refine st_ret rfl ?_
    exact ⟨rfl, by first | rw [if_pos (by omega), am_up, am_so_so, am_so_at] | rw [if_neg (by omega), am_up, am_so_so, am_so_at]⟩
  · refine st_aload_n rfl rfl (by decide) ?_
    refine st_getR (kk := 2) rfl rfl rfl (pz_26_2 hP) rfl ?_
    refine st_iload_n rfl rfl ?_
    refine st_iconst rfl ?_
    refine st_iadd rfl (by omega) ?_
    refine st_aload_n rfl rfl (by decide) ?_
    refine st_getR (kk := 2) rfl rfl rfl (pz_26_2 hP) rfl ?_
    refine st_iload_n rfl rfl ?_
    refine st_iload_n rfl rfl ?_
    refine st_iload_n rfl rfl ?_
    refine st_isub rfl (by omega) ?_
    refine st_copy rfl rfl rfl (Or.inl rfl) (by omega) (by omega) (by omega) (by omega) (by omega) (Nat.le_of_ble_eq_true rfl) ?_
    refine st_goto rfl ?_
    refine st_aload_n rfl rfl (by decide) ?_
    refine st_getR (kk := 2) rfl rfl rfl (pz_26_2 hP) rfl ?_
    refine st_iload_n rfl rfl ?_
    refine st_iload_n rfl rfl ?_
    refine st_iastore rfl rfl (by omega) (by omega) ?_
    refine st_ret rfl ?_
    exact ⟨rfl, by first | rw [if_pos (by omega), am_up, am_so_so, am_so_at] | rw [if_neg (by omega), am_up, am_so_so, am_so_at]⟩
theorem r_Catalogue_isMark {d N : Nat} {P : am_P} {H : am_H} {m : Int}  : am_R (d + 1) 138 [am_i (m)] (N, P, H) (some (am_i (bi (0 ≤ m ∧ m < 200)))) (N, P, H) := by
  refine am_en1 (d := d + 0) (ml := 1) (ls := [_]) cq_Catalogue_isMark rfl (Nat.le_of_ble_eq_true rfl) rfl ?_
  refine st_iload_n rfl rfl ?_
  refine st_if_lt rfl (fun h1 => ?_) (fun h1 => ?_)
  · refine st_iconst rfl ?_
    refine st_iret rfl (fun z => by first | exact absurd z (by decide) | exact bi_01 _ | decide | omega) ?_
    exact ⟨am_ri (by first | rfl | exact bi_iff (by omega) | exact (bi_t (by omega)).symm | exact (bi_f (by omega)).symm), rfl⟩
  · refine st_iload_n rfl rfl ?_
    refine st_sipush rfl ?_
    refine st_icmp_ge rfl (fun h4 => ?_) (fun h4 => ?_)
    · refine st_iconst rfl ?_
      refine st_iret rfl (fun z => by first | exact absurd z (by decide) | exact bi_01 _ | decide | omega) ?_
      exact ⟨am_ri (by first | rfl | exact bi_iff (by omega) | exact (bi_t (by omega)).symm | exact (bi_f (by omega)).symm), rfl⟩
    · refine st_iconst rfl ?_
      refine st_goto rfl ?_
      refine st_iret rfl (fun z => by first | exact absurd z (by decide) | exact bi_01 _ | decide | omega) ?_
      exact ⟨am_ri (by first | rfl | exact bi_iff (by omega) | exact (bi_t (by omega)).symm | exact (bi_f (by omega)).symm), rfl⟩
def lsA (a : Int → Int) (m : Int) : Int := if 0 ≤ m ∧ m < 200 then a (8782 + m) else -1
theorem r_Catalogue_shelfOf {d N : Nat} {P : am_P} {H : am_H} {m : Int} {a : Int → Int} (hP : PZ P) (hL : InvL a) (hC : RC H 10 a) : am_R (d + 2) 139 [am_r 28, am_i (m)] (N, P, H) (some (am_i (lsA a m))) (N, P, H) := by
  refine am_en1 (d := d + 1) (ml := 2) (ls := [_, _]) cq_Catalogue_shelfOf rfl (Nat.le_of_ble_eq_true rfl) rfl ?_
  have c1 : ∀ m, 0 ≤ m → m < 200 → H 29 m = a (8782 + m) ∧ H 30 m = a (8982 + m) + a (9182 + m) := hC.2.1
  have c2 : ∀ s, 0 ≤ s → s < 16 → H 31 s = (if a (9382 + 62 * s) = 0 then -1 else a (9382 + 62 * s + 1)) := fun s s0 s1 => (hC.2.2 s s0 s1).1
  have c3 : ∀ s, 0 ≤ s → s < 16 → a (9382 + 62 * s) ≠ 0 → ∀ k, 0 ≤ k → k < a (9382 + 62 * s + 1) → H 32 (s * 60 + k) = a (9382 + 62 * s + 2 + k) := fun s s0 s1 => (hC.2.2 s s0 s1).2
  refine st_iload_n rfl rfl ?_
  refine st_cs1 (w := []) rfl (by decide) (by decide) (by decide) (Nat.le_of_ble_eq_true rfl) (Nat.le_of_ble_eq_true rfl) rfl rfl (r_Catalogue_isMark) ?_
  refine st_if_eq_b rfl (fun h2 => ?_) (fun h2 => ?_)
  · refine st_iconst rfl ?_
    refine st_iret rfl (fun z => by first | exact absurd z (by decide) | exact bi_01 _ | decide | omega) ?_
    exact ⟨am_ri (by unfold lsA; first | rw [if_pos h2] | rw [if_neg h2]), rfl⟩
  · refine st_aload_n rfl rfl (by decide) ?_
    refine st_getR (kk := 1) rfl rfl rfl (pz_28_1 hP) rfl ?_
    refine st_iload_n rfl rfl ?_
    refine st_iaload rfl rfl (by omega) (by omega) ?_
    rw [(c1 m h2.1 h2.2).1]
    refine st_goto rfl ?_
    refine st_iret rfl (fun z => by first | exact absurd z (by decide) | exact bi_01 _ | decide | omega) ?_
    exact ⟨am_ri (by unfold lsA; first | rw [if_pos h2] | rw [if_neg h2]), rfl⟩
theorem r_Catalogue_isRead {d N : Nat} {P : am_P} {H : am_H} {s : Int} {a : Int → Int} (hP : PZ P) (hL : InvL a) (hC : RC H 10 a) : am_R (d + 1) 142 [am_r 28, am_i (s)] (N, P, H) (some (am_i (bi ((0 ≤ s ∧ s < 16) ∧ a (9382 + 62 * s) ≠ 0)))) (N, P, H) := by
  refine am_en1 (d := d + 0) (ml := 2) (ls := [_, _]) cq_Catalogue_isRead rfl (Nat.le_of_ble_eq_true rfl) rfl ?_
  have c1 : ∀ m, 0 ≤ m → m < 200 → H 29 m = a (8782 + m) ∧ H 30 m = a (8982 + m) + a (9182 + m) := hC.2.1
  have c2 : ∀ s, 0 ≤ s → s < 16 → H 31 s = (if a (9382 + 62 * s) = 0 then -1 else a (9382 + 62 * s + 1)) := fun s s0 s1 => (hC.2.2 s s0 s1).1
  have c3 : ∀ s, 0 ≤ s → s < 16 → a (9382 + 62 * s) ≠ 0 → ∀ k, 0 ≤ k → k < a (9382 + 62 * s + 1) → H 32 (s * 60 + k) = a (9382 + 62 * s + 2 + k) := fun s s0 s1 => (hC.2.2 s s0 s1).2
  refine st_iload_n rfl rfl ?_
  refine st_if_lt rfl (fun h1 => ?_) (fun h1 => ?_)
  · refine st_iconst rfl ?_
    refine st_iret rfl (fun z => by first | exact absurd z (by decide) | exact bi_01 _ | decide | omega) ?_
    exact ⟨am_ri (by first | exact (bi_f (by omega)).symm | (split at h10 <;> first | exact (bi_t (by omega)).symm | exact (bi_f (by omega)).symm)), rfl⟩
  · refine st_iload_n rfl rfl ?_
    refine st_bipush rfl ?_
    refine st_icmp_ge rfl (fun h4 => ?_) (fun h4 => ?_)
    · refine st_iconst rfl ?_
      refine st_iret rfl (fun z => by first | exact absurd z (by decide) | exact bi_01 _ | decide | omega) ?_
      exact ⟨am_ri (by first | exact (bi_f (by omega)).symm | (split at h10 <;> first | exact (bi_t (by omega)).symm | exact (bi_f (by omega)).symm)), rfl⟩
    · refine st_aload_n rfl rfl (by decide) ?_
      refine st_getR (kk := 3) rfl rfl rfl (pz_28_3 hP) rfl ?_
      refine st_iload_n rfl rfl ?_
      refine st_iaload rfl rfl (by omega) (by omega) ?_
      have hl := hL.2 s (by omega) (by omega)
      rw [c2 s (by omega) (by omega)]
      refine st_iconst rfl ?_
      refine st_icmp_eq rfl (fun h10 => ?_) (fun h10 => ?_)
      · refine st_iconst rfl ?_
        refine st_iret rfl (fun z => by first | exact absurd z (by decide) | exact bi_01 _ | decide | omega) ?_
        exact ⟨am_ri (by first | exact (bi_f (by omega)).symm | (split at h10 <;> first | exact (bi_t (by omega)).symm | exact (bi_f (by omega)).symm)), rfl⟩
      · refine st_iconst rfl ?_
        refine st_goto rfl ?_
        refine st_iret rfl (fun z => by first | exact absurd z (by decide) | exact bi_01 _ | decide | omega) ?_
        exact ⟨am_ri (by first | exact (bi_f (by omega)).symm | (split at h10 <;> first | exact (bi_t (by omega)).symm | exact (bi_f (by omega)).symm)), rfl⟩
def ofA (a : Int → Int) (s m : Int) : Int := if (0 ≤ s ∧ s < 16) ∧ a (9382 + 62 * s) ≠ 0 then ofF a s m else 0
theorem r_Catalogue_timesRead {d N : Nat} {P : am_P} {H : am_H} {s m : Int} {a : Int → Int} (hP : PZ P) (hL : InvL a) (hC : RC H 10 a) : am_R (d + 2) 143 [am_r 28, am_i (s), am_i (m)] (N, P, H) (some (am_i (ofA a s m))) (N, P, H) := by
  refine am_en1 (d := d + 1) (ml := 5) (ls := [_, _, _, _, _]) cq_Catalogue_timesRead rfl (Nat.le_of_ble_eq_true rfl) rfl ?_
  have c1 : ∀ m, 0 ≤ m → m < 200 → H 29 m = a (8782 + m) ∧ H 30 m = a (8982 + m) + a (9182 + m) := hC.2.1
  have c2 : ∀ s, 0 ≤ s → s < 16 → H 31 s = (if a (9382 + 62 * s) = 0 then -1 else a (9382 + 62 * s + 1)) := fun s s0 s1 => (hC.2.2 s s0 s1).1
  have c3 : ∀ s, 0 ≤ s → s < 16 → a (9382 + 62 * s) ≠ 0 → ∀ k, 0 ≤ k → k < a (9382 + 62 * s + 1) → H 32 (s * 60 + k) = a (9382 + 62 * s + 2 + k) := fun s s0 s1 => (hC.2.2 s s0 s1).2
  refine st_iconst rfl ?_
  refine st_istore_n (ls' := [_, _, _, _, _]) rfl (Nat.le_of_ble_eq_true rfl) rfl ?_
  refine st_iconst rfl ?_
  refine st_istore (ls' := [_, _, _, _, _]) rfl (Nat.le_of_ble_eq_true rfl) rfl ?_
  by_cases hr : (0 ≤ s ∧ s < 16) ∧ a (9382 + 62 * s) ≠ 0
  · have hl := hL.2 s (by omega) (by omega)
    have hc2 := c2 s (by omega) (by omega)
    rw [if_neg hr.2] at hc2
    suffices hz : ∀ j, j ≤ (a (9382 + 62 * s + 1)).toNat → am_WP (am_R (d + 1)) cd_Catalogue_timesRead (fun v' s' => v' = some (am_i (ofA a s m)) ∧ s' = (N, P, H)) 4 [some (am_r 28), some (am_i s), some (am_i m), some (am_i (ofL a s m j)), some (am_i (j : Int))] [] (N, P, H) from hz 0 (Nat.zero_le _)
    refine up_ind (n := (a (9382 + 62 * s + 1)).toNat) ?_ ?_
    · refine st_aload_n rfl rfl (by decide) ?_
      refine st_iload_n rfl rfl ?_
      refine st_cv1 (w := []) rfl rfl rfl (Nat.le_of_ble_eq_true rfl) (Nat.le_of_ble_eq_true rfl) rfl rfl (r_Catalogue_isRead hP hL hC) ?_
      refine st_if_eq_b rfl (fun h7 => (by exfalso; omega)) (fun h7 => ?_)
      refine st_iload rfl rfl ?_
      refine st_aload_n rfl rfl (by decide) ?_
      refine st_getR (kk := 3) rfl rfl rfl (pz_28_3 hP) rfl ?_
      refine st_iload_n rfl rfl ?_
      refine st_iaload rfl rfl (by omega) (by omega) ?_
      rw [hc2]
      refine st_icmp_ge rfl (fun h13 => ?_) (fun h13 => (by exfalso; omega))
      refine st_iload_n rfl rfl ?_
      refine st_iret rfl (fun z => by first | exact absurd z (by decide) | exact bi_01 _ | decide | omega) ?_
      exact ⟨am_ri (by unfold ofA; rw [if_pos hr]; rfl), rfl⟩
    · intro j hj ih
      have hj1 := ofL_r a s m j
      refine st_aload_n rfl rfl (by decide) ?_
      refine st_iload_n rfl rfl ?_
      refine st_cv1 (w := []) rfl rfl rfl (Nat.le_of_ble_eq_true rfl) (Nat.le_of_ble_eq_true rfl) rfl rfl (r_Catalogue_isRead hP hL hC) ?_
      refine st_if_eq_b rfl (fun h7 => (by exfalso; omega)) (fun h7 => ?_)
      refine st_iload rfl rfl ?_
      refine st_aload_n rfl rfl (by decide) ?_
      refine st_getR (kk := 3) rfl rfl rfl (pz_28_3 hP) rfl ?_
      refine st_iload_n rfl rfl ?_
      refine st_iaload rfl rfl (by omega) (by omega) ?_
      rw [hc2]
      refine st_icmp_ge rfl (fun h13 => (by exfalso; omega)) (fun h13 => ?_)
      refine st_iload rfl rfl ?_
      refine st_bipush rfl ?_
      refine st_icmp_ge rfl (fun h16 => (by exfalso; omega)) (fun h16 => ?_)
      refine st_aload_n rfl rfl (by decide) ?_
      refine st_getR (kk := 4) rfl rfl rfl (pz_28_4 hP) rfl ?_
      refine st_iload_n rfl rfl ?_
      refine st_bipush rfl ?_
      refine st_imul rfl (by omega) ?_
      refine st_iload rfl rfl ?_
      refine st_iadd rfl (by omega) ?_
      refine st_iaload rfl rfl (by omega) (by omega) ?_
      rw [c3 s (by omega) (by omega) hr.2 (j : Int) (by omega) (by omega)]
      refine st_iload_n rfl rfl ?_
      refine st_icmp_ne rfl (fun h26 => ?_) (fun h26 => ?_)
      · refine st_iinc (ls' := [_, _, _, _, _]) rfl rfl (by omega) rfl ?_
        refine st_goto rfl ?_
        have hofs : ofL a s m (j + 1) = ofL a s m j + bi (a (9382 + 62 * s + 2 + (j : Int)) = m) := rfl
        first
        | (rw [bi_t (by omega)] at hofs; rw [hofs] at ih; exact ih)
        | (rw [bi_f (by omega), Int.add_zero] at hofs; rw [hofs] at ih; exact ih)
      · refine st_iinc (ls' := [_, _, _, _, _]) rfl rfl (by omega) rfl ?_
        refine st_iinc (ls' := [_, _, _, _, _]) rfl rfl (by omega) rfl ?_
        refine st_goto rfl ?_
        have hofs : ofL a s m (j + 1) = ofL a s m j + bi (a (9382 + 62 * s + 2 + (j : Int)) = m) := rfl
        first
        | (rw [bi_t (by omega)] at hofs; rw [hofs] at ih; exact ih)
        | (rw [bi_f (by omega), Int.add_zero] at hofs; rw [hofs] at ih; exact ih)
  · refine st_aload_n rfl rfl (by decide) ?_
    refine st_iload_n rfl rfl ?_
    refine st_cv1 (w := []) rfl rfl rfl (Nat.le_of_ble_eq_true rfl) (Nat.le_of_ble_eq_true rfl) rfl rfl (r_Catalogue_isRead hP hL hC) ?_
    refine st_if_eq_b rfl (fun h7 => ?_) (fun h7 => (by exfalso; omega))
    refine st_iload_n rfl rfl ?_
    refine st_iret rfl (fun z => by first | exact absurd z (by decide) | exact bi_01 _ | decide | omega) ?_
    exact ⟨am_ri (by unfold ofA; rw [if_neg hr]), rfl⟩
theorem r_Catalogue_isGone {d N : Nat} {P : am_P} {H : am_H} {s m : Int} {a : Int → Int} (hP : PZ P) (hL : InvL a) (hC : RC H 10 a) : am_R (d + 3) 144 [am_r 28, am_i (s), am_i (m)] (N, P, H) (some (am_i (bi (lsA a m = s ∧ ((0 ≤ s ∧ s < 16) ∧ a (9382 + 62 * s) ≠ 0) ∧ ofA a s m = 0)))) (N, P, H) := by
  refine am_en1 (d := d + 2) (ml := 3) (ls := [_, _, _]) cq_Catalogue_isGone rfl (Nat.le_of_ble_eq_true rfl) rfl ?_
  have c1 : ∀ m, 0 ≤ m → m < 200 → H 29 m = a (8782 + m) ∧ H 30 m = a (8982 + m) + a (9182 + m) := hC.2.1
  have c2 : ∀ s, 0 ≤ s → s < 16 → H 31 s = (if a (9382 + 62 * s) = 0 then -1 else a (9382 + 62 * s + 1)) := fun s s0 s1 => (hC.2.2 s s0 s1).1
  have c3 : ∀ s, 0 ≤ s → s < 16 → a (9382 + 62 * s) ≠ 0 → ∀ k, 0 ≤ k → k < a (9382 + 62 * s + 1) → H 32 (s * 60 + k) = a (9382 + 62 * s + 2 + k) := fun s s0 s1 => (hC.2.2 s s0 s1).2
  refine st_aload_n rfl rfl (by decide) ?_
  refine st_iload_n rfl rfl ?_
  refine st_cv1 (w := []) rfl rfl rfl (Nat.le_of_ble_eq_true rfl) (Nat.le_of_ble_eq_true rfl) rfl rfl (r_Catalogue_shelfOf hP hL hC) ?_
  refine st_iload_n rfl rfl ?_
  refine st_icmp_ne rfl (fun h4 => ?_) (fun h4 => ?_)
  · refine st_iconst rfl ?_
    refine st_iret rfl (fun z => by first | exact absurd z (by decide) | exact bi_01 _ | decide | omega) ?_
    exact ⟨am_ri (by first | rfl | exact bi_iff (by omega) | exact (bi_t (by omega)).symm | exact (bi_f (by omega)).symm), rfl⟩
  · refine st_aload_n rfl rfl (by decide) ?_
    refine st_iload_n rfl rfl ?_
    refine st_cv1 (w := []) rfl rfl rfl (Nat.le_of_ble_eq_true rfl) (Nat.le_of_ble_eq_true rfl) rfl rfl (r_Catalogue_isRead hP hL hC) ?_
    refine st_if_eq_b rfl (fun h8 => ?_) (fun h8 => ?_)
    · refine st_iconst rfl ?_
      refine st_iret rfl (fun z => by first | exact absurd z (by decide) | exact bi_01 _ | decide | omega) ?_
      exact ⟨am_ri (by first | rfl | exact bi_iff (by omega) | exact (bi_t (by omega)).symm | exact (bi_f (by omega)).symm), rfl⟩
    · refine st_aload_n rfl rfl (by decide) ?_
      refine st_iload_n rfl rfl ?_
      refine st_iload_n rfl rfl ?_
      refine st_cv1 (w := []) rfl rfl rfl (Nat.le_of_ble_eq_true rfl) (Nat.le_of_ble_eq_true rfl) rfl rfl (r_Catalogue_timesRead hP hL hC) ?_
      refine st_if_ne rfl (fun h13 => ?_) (fun h13 => ?_)
      · refine st_iconst rfl ?_
        refine st_iret rfl (fun z => by first | exact absurd z (by decide) | exact bi_01 _ | decide | omega) ?_
        exact ⟨am_ri (by first | rfl | exact bi_iff (by omega) | exact (bi_t (by omega)).symm | exact (bi_f (by omega)).symm), rfl⟩
      · refine st_iconst rfl ?_
        refine st_goto rfl ?_
        refine st_iret rfl (fun z => by first | exact absurd z (by decide) | exact bi_01 _ | decide | omega) ?_
        exact ⟨am_ri (by first | rfl | exact bi_iff (by omega) | exact (bi_t (by omega)).symm | exact (bi_f (by omega)).symm), rfl⟩
theorem r_Catalogue_enter {d N : Nat} {P : am_P} {H : am_H} {m s : Int} {a : Int → Int} (hP : PZ P) (hL : InvL a) (hC : RC H 10 a) (hm : 0 ≤ m ∧ m < 200) (he : 0 ≤ H 28 0 ∧ H 28 0 ≤ 200) : am_R (d + 2) 140 [am_r 28, am_i (m), am_i (s)] (N, P, H) none (N, P, am_up (if a (8782 + m) = -1 then am_up H 28 0 (H 28 0 + 1) else H) 29 m s) := by
  refine am_en1 (d := d + 1) (ml := 3) (ls := [_, _, _]) cq_Catalogue_enter rfl (Nat.le_of_ble_eq_true rfl) rfl ?_
  have c1 : ∀ m, 0 ≤ m → m < 200 → H 29 m = a (8782 + m) ∧ H 30 m = a (8982 + m) + a (9182 + m) := hC.2.1
  have c2 : ∀ s, 0 ≤ s → s < 16 → H 31 s = (if a (9382 + 62 * s) = 0 then -1 else a (9382 + 62 * s + 1)) := fun s s0 s1 => (hC.2.2 s s0 s1).1
  have c3 : ∀ s, 0 ≤ s → s < 16 → a (9382 + 62 * s) ≠ 0 → ∀ k, 0 ≤ k → k < a (9382 + 62 * s + 1) → H 32 (s * 60 + k) = a (9382 + 62 * s + 2 + k) := fun s s0 s1 => (hC.2.2 s s0 s1).2
  refine st_iload_n rfl rfl ?_
  refine st_cs1 (w := []) rfl (by decide) (by decide) (by decide) (Nat.le_of_ble_eq_true rfl) (Nat.le_of_ble_eq_true rfl) rfl rfl (r_Catalogue_isMark) ?_
  refine st_if_ne_b rfl (fun h2 => ?_) (fun h2 => (by exfalso; omega))
  refine st_aload_n rfl rfl (by decide) ?_
  refine st_getR (kk := 1) rfl rfl rfl (pz_28_1 hP) rfl ?_
  refine st_iload_n rfl rfl ?_
  refine st_iaload rfl rfl (by omega) (by omega) ?_
  rw [(c1 m hm.1 hm.2).1]
  refine st_iconst rfl ?_
  refine st_icmp_ne rfl (fun h9 => ?_) (fun h9 => ?_)
  · refine st_aload_n rfl rfl (by decide) ?_
    refine st_getR (kk := 1) rfl rfl rfl (pz_28_1 hP) rfl ?_
    refine st_iload_n rfl rfl ?_
    refine st_iload_n rfl rfl ?_
    refine st_iastore rfl rfl (by omega) (by omega) ?_
    refine st_ret rfl ?_
    exact ⟨rfl, by first | rw [if_pos h9] | rw [if_neg h9] | rw [if_pos (by omega)] | rw [if_neg (by omega)]⟩
  · refine st_aload_n rfl rfl (by decide) ?_
    refine st_dup rfl rfl ?_
    refine st_getI (kk := 0) rfl rfl (by decide) rfl ?_
    refine st_iconst rfl ?_
    refine st_iadd rfl (by omega) ?_
    refine st_putI (kk := 0) rfl rfl rfl rfl ?_
    refine st_aload_n rfl rfl (by decide) ?_
    refine st_getR (kk := 1) rfl rfl rfl (pz_28_1 hP) rfl ?_
    refine st_iload_n rfl rfl ?_
    refine st_iload_n rfl rfl ?_
    refine st_iastore rfl rfl (by omega) (by omega) ?_
    refine st_ret rfl ?_
    exact ⟨rfl, by first | rw [if_pos h9] | rw [if_neg h9] | rw [if_pos (by omega)] | rw [if_neg (by omega)]⟩
theorem r_Catalogue_strike {d N : Nat} {P : am_P} {H : am_H} {m : Int} {a : Int → Int} (hP : PZ P) (hL : InvL a) (hC : RC H 10 a) (hm : 0 ≤ m ∧ m < 200) (he : 0 ≤ H 28 0 ∧ H 28 0 ≤ 200) : am_R (d + 3) 141 [am_r 28, am_i (m)] (N, P, H) (some (am_i (bi (a (8782 + m) ≠ -1)))) (N, P, if a (8782 + m) ≠ -1 then am_up (am_up (am_up H 29 m (-1)) 30 m 0) 28 0 (H 28 0 - 1) else H) := by
  refine am_en1 (d := d + 2) (ml := 2) (ls := [_, _]) cq_Catalogue_strike rfl (Nat.le_of_ble_eq_true rfl) rfl ?_
  have c1 : ∀ m, 0 ≤ m → m < 200 → H 29 m = a (8782 + m) ∧ H 30 m = a (8982 + m) + a (9182 + m) := hC.2.1
  have c2 : ∀ s, 0 ≤ s → s < 16 → H 31 s = (if a (9382 + 62 * s) = 0 then -1 else a (9382 + 62 * s + 1)) := fun s s0 s1 => (hC.2.2 s s0 s1).1
  have c3 : ∀ s, 0 ≤ s → s < 16 → a (9382 + 62 * s) ≠ 0 → ∀ k, 0 ≤ k → k < a (9382 + 62 * s + 1) → H 32 (s * 60 + k) = a (9382 + 62 * s + 2 + k) := fun s s0 s1 => (hC.2.2 s s0 s1).2
  refine st_aload_n rfl rfl (by decide) ?_
  refine st_iload_n rfl rfl ?_
  refine st_cv1 (w := []) rfl rfl rfl (Nat.le_of_ble_eq_true rfl) (Nat.le_of_ble_eq_true rfl) rfl rfl (r_Catalogue_shelfOf hP hL hC) ?_
  rw [show lsA a m = a (8782 + m) from if_pos hm]
  refine st_iconst rfl ?_
  refine st_icmp_ne rfl (fun h4 => ?_) (fun h4 => ?_)
  · refine st_aload_n rfl rfl (by decide) ?_
    refine st_getR (kk := 1) rfl rfl rfl (pz_28_1 hP) rfl ?_
    refine st_iload_n rfl rfl ?_
    refine st_iconst rfl ?_
    refine st_iastore rfl rfl (by omega) (by omega) ?_
    refine st_aload_n rfl rfl (by decide) ?_
    refine st_getR (kk := 2) rfl rfl rfl (pz_28_2 hP) rfl ?_
    refine st_iload_n rfl rfl ?_
    refine st_iconst rfl ?_
    refine st_iastore rfl rfl (by omega) (by omega) ?_
    refine st_aload_n rfl rfl (by decide) ?_
    refine st_dup rfl rfl ?_
    refine st_getI (kk := 0) rfl rfl (by decide) rfl ?_
    rw [show am_up (am_up H 29 m (-1)) 30 m 0 28 0 = H 28 0 from rfl]
    refine st_iconst rfl ?_
    refine st_isub rfl (by omega) ?_
    refine st_putI (kk := 0) rfl rfl rfl rfl ?_
    refine st_iconst rfl ?_
    refine st_iret rfl (fun z => by first | exact absurd z (by decide) | exact bi_01 _ | decide | omega) ?_
    exact ⟨am_ri (by first | exact (bi_t (by omega)).symm | exact (bi_f (by omega)).symm), by first | rw [if_pos (by omega)] | rw [if_neg (by omega)]⟩
  · refine st_iconst rfl ?_
    refine st_iret rfl (fun z => by first | exact absurd z (by decide) | exact bi_01 _ | decide | omega) ?_
    exact ⟨am_ri (by first | exact (bi_t (by omega)).symm | exact (bi_f (by omega)).symm), by first | rw [if_pos (by omega)] | rw [if_neg (by omega)]⟩
