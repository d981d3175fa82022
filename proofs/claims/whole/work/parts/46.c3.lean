/-! ===== the class: shelves and books ===== -/
theorem r_Stacks_hasShelf {d N : Nat} {P : am_P} {H : am_H} {s : Int} {n : Int} (hP : PZ P) (h0 : H 14 0 = n) : am_R (d + 1) 209 [am_r 14, am_i (s)] (N, P, H) (some (am_i (bi (0 ≤ s ∧ s < n)))) (N, P, H) := by
  refine am_en1 (d := d + 0) (ml := 2) (ls := [_, _]) cq_Stacks_hasShelf rfl (Nat.le_of_ble_eq_true rfl) rfl ?_
  refine st_iload_n rfl rfl ?_
  refine st_if_lt rfl (fun h1 => ?_) (fun h1 => ?_)
  · refine st_iconst rfl ?_
    refine st_iret rfl (fun z => by first | exact absurd z (by decide) | exact bi_01 _ | decide | omega) ?_
    exact ⟨am_ri (by first | rfl | exact bi_iff (by omega) | exact (bi_t (by omega)).symm | exact (bi_f (by omega)).symm), rfl⟩
  · refine st_iload_n rfl rfl ?_
    refine st_aload_n rfl rfl (by decide) ?_
    refine st_getI (kk := 0) rfl rfl (by decide) rfl ?_
    refine st_icmp_ge rfl (fun h5 => ?_) (fun h5 => ?_)
    · refine st_iconst rfl ?_
      refine st_iret rfl (fun z => by first | exact absurd z (by decide) | exact bi_01 _ | decide | omega) ?_
      exact ⟨am_ri (by first | rfl | exact bi_iff (by omega) | exact (bi_t (by omega)).symm | exact (bi_f (by omega)).symm), rfl⟩
    · refine st_iconst rfl ?_
      refine st_goto rfl ?_
      refine st_iret rfl (fun z => by first | exact absurd z (by decide) | exact bi_01 _ | decide | omega) ?_
      exact ⟨am_ri (by first | rfl | exact bi_iff (by omega) | exact (bi_t (by omega)).symm | exact (bi_f (by omega)).symm), rfl⟩
theorem r_Stacks_hasBook {d N : Nat} {P : am_P} {H : am_H} {x : Int} {n : Int} (hP : PZ P) (h4 : H 14 4 = n) : am_R (d + 1) 210 [am_r 14, am_i (x)] (N, P, H) (some (am_i (bi (0 ≤ x ∧ x < n)))) (N, P, H) := by
  refine am_en1 (d := d + 0) (ml := 2) (ls := [_, _]) cq_Stacks_hasBook rfl (Nat.le_of_ble_eq_true rfl) rfl ?_
  refine st_iload_n rfl rfl ?_
  refine st_if_lt rfl (fun h1 => ?_) (fun h1 => ?_)
  · refine st_iconst rfl ?_
    refine st_iret rfl (fun z => by first | exact absurd z (by decide) | exact bi_01 _ | decide | omega) ?_
    exact ⟨am_ri (by first | rfl | exact bi_iff (by omega) | exact (bi_t (by omega)).symm | exact (bi_f (by omega)).symm), rfl⟩
  · refine st_iload_n rfl rfl ?_
    refine st_aload_n rfl rfl (by decide) ?_
    refine st_getI (kk := 4) rfl rfl (by decide) rfl ?_
    refine st_icmp_ge rfl (fun h5 => ?_) (fun h5 => ?_)
    · refine st_iconst rfl ?_
      refine st_iret rfl (fun z => by first | exact absurd z (by decide) | exact bi_01 _ | decide | omega) ?_
      exact ⟨am_ri (by first | rfl | exact bi_iff (by omega) | exact (bi_t (by omega)).symm | exact (bi_f (by omega)).symm), rfl⟩
    · refine st_iconst rfl ?_
      refine st_goto rfl ?_
      refine st_iret rfl (fun z => by first | exact absurd z (by decide) | exact bi_01 _ | decide | omega) ?_
      exact ⟨am_ri (by first | rfl | exact bi_iff (by omega) | exact (bi_t (by omega)).symm | exact (bi_f (by omega)).symm), rfl⟩
theorem r_Stacks_isHigh {d N : Nat} {P : am_P} {H : am_H} {s : Int} {a : Int → Int} (hP : PZ P) (hI : Inv a) (hT : RT H 10 a) : am_R (d + 2) 211 [am_r 14, am_i (s)] (N, P, H) (some (am_i (bi ((0 ≤ s ∧ s < a 2) ∧ a (6670 + 32 * s + 1) = 1)))) (N, P, H) := by
  refine am_en1 (d := d + 1) (ml := 2) (ls := [_, _]) cq_Stacks_isHigh rfl (Nat.le_of_ble_eq_true rfl) rfl ?_
  have hn := hI.n
  have t0 : H 14 0 = a 2 := hT.1
  have t4 : H 14 4 = a 3 := hT.2.1
  have tw : ∀ s, 0 ≤ s → s < a 2 → H 15 s = a (6670 + 32 * s) ∧ H 16 s = a (6670 + 32 * s + 1) := hT.2.2.1
  have tt : ∀ s p, 0 ≤ s → s < a 2 → 0 ≤ p → p < 30 → H 17 (s * 30 + p) = thgF a s p := hT.2.2.2.1
  have tb : ∀ x, 0 ≤ x → x < a 3 → H 18 x = bkF a x 0 ∧ H 19 x = bkF a x 1 ∧ H 20 x = bkF a x 2 ∧ H 21 x = bkF a x 3 ∧ H 22 x = bkF a x 4 ∧ H 23 x = bkF a x 5 ∧ H 24 x = bkF a x 6 ∧ H 25 x = bkF a x 7 := hT.2.2.2.2
  refine st_aload_n rfl rfl (by decide) ?_
  refine st_iload_n rfl rfl ?_
  refine st_cv1 (w := []) rfl rfl rfl (Nat.le_of_ble_eq_true rfl) (Nat.le_of_ble_eq_true rfl) rfl rfl (r_Stacks_hasShelf hP t0) ?_
  refine st_if_eq_b rfl (fun h3 => ?_) (fun h3 => ?_)
  · refine st_iconst rfl ?_
    refine st_iret rfl (fun z => by first | exact absurd z (by decide) | exact bi_01 _ | decide | omega) ?_
    exact ⟨am_ri (by first | rfl | exact bi_iff (by omega) | exact (bi_t (by omega)).symm | exact (bi_f (by omega)).symm), rfl⟩
  · refine st_aload_n rfl rfl (by decide) ?_
    refine st_getR (kk := 2) rfl rfl rfl (pz_14_2 hP) rfl ?_
    refine st_iload_n rfl rfl ?_
    refine st_iaload rfl rfl (by omega) (by omega) ?_
    rw [(tw s h3.1 h3.2).2]
    refine st_iconst rfl ?_
    refine st_icmp_ne rfl (fun h9 => ?_) (fun h9 => ?_)
    · refine st_iconst rfl ?_
      refine st_iret rfl (fun z => by first | exact absurd z (by decide) | exact bi_01 _ | decide | omega) ?_
      exact ⟨am_ri (by first | rfl | exact bi_iff (by omega) | exact (bi_t (by omega)).symm | exact (bi_f (by omega)).symm), rfl⟩
    · refine st_iconst rfl ?_
      refine st_goto rfl ?_
      refine st_iret rfl (fun z => by first | exact absurd z (by decide) | exact bi_01 _ | decide | omega) ?_
      exact ⟨am_ri (by first | rfl | exact bi_iff (by omega) | exact (bi_t (by omega)).symm | exact (bi_f (by omega)).symm), rfl⟩
def swA (a : Int → Int) (s : Int) : Int := if 0 ≤ s ∧ s < a 2 then a (6670 + 32 * s) else 0
theorem r_Stacks_widthOf {d N : Nat} {P : am_P} {H : am_H} {s : Int} {a : Int → Int} (hP : PZ P) (hI : Inv a) (hT : RT H 10 a) : am_R (d + 2) 212 [am_r 14, am_i (s)] (N, P, H) (some (am_i (swA a s))) (N, P, H) := by
  refine am_en1 (d := d + 1) (ml := 2) (ls := [_, _]) cq_Stacks_widthOf rfl (Nat.le_of_ble_eq_true rfl) rfl ?_
  have hn := hI.n
  have t0 : H 14 0 = a 2 := hT.1
  have t4 : H 14 4 = a 3 := hT.2.1
  have tw : ∀ s, 0 ≤ s → s < a 2 → H 15 s = a (6670 + 32 * s) ∧ H 16 s = a (6670 + 32 * s + 1) := hT.2.2.1
  have tt : ∀ s p, 0 ≤ s → s < a 2 → 0 ≤ p → p < 30 → H 17 (s * 30 + p) = thgF a s p := hT.2.2.2.1
  have tb : ∀ x, 0 ≤ x → x < a 3 → H 18 x = bkF a x 0 ∧ H 19 x = bkF a x 1 ∧ H 20 x = bkF a x 2 ∧ H 21 x = bkF a x 3 ∧ H 22 x = bkF a x 4 ∧ H 23 x = bkF a x 5 ∧ H 24 x = bkF a x 6 ∧ H 25 x = bkF a x 7 := hT.2.2.2.2
  refine st_aload_n rfl rfl (by decide) ?_
  refine st_iload_n rfl rfl ?_
  refine st_cv1 (w := []) rfl rfl rfl (Nat.le_of_ble_eq_true rfl) (Nat.le_of_ble_eq_true rfl) rfl rfl (r_Stacks_hasShelf hP t0) ?_
  refine st_if_eq_b rfl (fun h3 => ?_) (fun h3 => ?_)
  · refine st_iconst rfl ?_
    refine st_iret rfl (fun z => by first | exact absurd z (by decide) | exact bi_01 _ | decide | omega) ?_
    exact ⟨am_ri (by unfold swA; first | rw [if_pos h3] | rw [if_neg h3]), rfl⟩
  · refine st_aload_n rfl rfl (by decide) ?_
    refine st_getR (kk := 1) rfl rfl rfl (pz_14_1 hP) rfl ?_
    refine st_iload_n rfl rfl ?_
    refine st_iaload rfl rfl (by omega) (by omega) ?_
    rw [(tw s h3.1 h3.2).1]
    refine st_goto rfl ?_
    refine st_iret rfl (fun z => by first | exact absurd z (by decide) | exact bi_01 _ | decide | omega) ?_
    exact ⟨am_ri (by unfold swA; first | rw [if_pos h3] | rw [if_neg h3]), rfl⟩
theorem r_Stacks_hasPlace {d N : Nat} {P : am_P} {H : am_H} {s p : Int} {n : Int} (hP : PZ P) (h0 : H 14 0 = n) : am_R (d + 2) 213 [am_r 14, am_i (s), am_i (p)] (N, P, H) (some (am_i (bi ((0 ≤ s ∧ s < n) ∧ 0 ≤ p ∧ p < 30)))) (N, P, H) := by
  refine am_en1 (d := d + 1) (ml := 3) (ls := [_, _, _]) cq_Stacks_hasPlace rfl (Nat.le_of_ble_eq_true rfl) rfl ?_
  refine st_aload_n rfl rfl (by decide) ?_
  refine st_iload_n rfl rfl ?_
  refine st_cv1 (w := []) rfl rfl rfl (Nat.le_of_ble_eq_true rfl) (Nat.le_of_ble_eq_true rfl) rfl rfl (r_Stacks_hasShelf hP h0) ?_
  refine st_if_eq_b rfl (fun h3 => ?_) (fun h3 => ?_)
  · refine st_iconst rfl ?_
    refine st_iret rfl (fun z => by first | exact absurd z (by decide) | exact bi_01 _ | decide | omega) ?_
    exact ⟨am_ri (by first | rfl | exact bi_iff (by omega) | exact (bi_t (by omega)).symm | exact (bi_f (by omega)).symm), rfl⟩
  · refine st_iload_n rfl rfl ?_
    refine st_if_lt rfl (fun h5 => ?_) (fun h5 => ?_)
    · refine st_iconst rfl ?_
      refine st_iret rfl (fun z => by first | exact absurd z (by decide) | exact bi_01 _ | decide | omega) ?_
      exact ⟨am_ri (by first | rfl | exact bi_iff (by omega) | exact (bi_t (by omega)).symm | exact (bi_f (by omega)).symm), rfl⟩
    · refine st_iload_n rfl rfl ?_
      refine st_bipush rfl ?_
      refine st_icmp_ge rfl (fun h8 => ?_) (fun h8 => ?_)
      · refine st_iconst rfl ?_
        refine st_iret rfl (fun z => by first | exact absurd z (by decide) | exact bi_01 _ | decide | omega) ?_
        exact ⟨am_ri (by first | rfl | exact bi_iff (by omega) | exact (bi_t (by omega)).symm | exact (bi_f (by omega)).symm), rfl⟩
      · refine st_iconst rfl ?_
        refine st_goto rfl ?_
        refine st_iret rfl (fun z => by first | exact absurd z (by decide) | exact bi_01 _ | decide | omega) ?_
        exact ⟨am_ri (by first | rfl | exact bi_iff (by omega) | exact (bi_t (by omega)).symm | exact (bi_f (by omega)).symm), rfl⟩
def tgA (a : Int → Int) (s p : Int) : Int := if (0 ≤ s ∧ s < a 2) ∧ 0 ≤ p ∧ p < 30 then thgF a s p else -1
theorem r_Stacks_thingAt {d N : Nat} {P : am_P} {H : am_H} {s p : Int} {a : Int → Int} (hP : PZ P) (hI : Inv a) (hT : RT H 10 a) : am_R (d + 3) 214 [am_r 14, am_i (s), am_i (p)] (N, P, H) (some (am_i (tgA a s p))) (N, P, H) := by
  refine am_en1 (d := d + 2) (ml := 3) (ls := [_, _, _]) cq_Stacks_thingAt rfl (Nat.le_of_ble_eq_true rfl) rfl ?_
  have hn := hI.n
  have t0 : H 14 0 = a 2 := hT.1
  have t4 : H 14 4 = a 3 := hT.2.1
  have tw : ∀ s, 0 ≤ s → s < a 2 → H 15 s = a (6670 + 32 * s) ∧ H 16 s = a (6670 + 32 * s + 1) := hT.2.2.1
  have tt : ∀ s p, 0 ≤ s → s < a 2 → 0 ≤ p → p < 30 → H 17 (s * 30 + p) = thgF a s p := hT.2.2.2.1
  have tb : ∀ x, 0 ≤ x → x < a 3 → H 18 x = bkF a x 0 ∧ H 19 x = bkF a x 1 ∧ H 20 x = bkF a x 2 ∧ H 21 x = bkF a x 3 ∧ H 22 x = bkF a x 4 ∧ H 23 x = bkF a x 5 ∧ H 24 x = bkF a x 6 ∧ H 25 x = bkF a x 7 := hT.2.2.2.2
  refine st_aload_n rfl rfl (by decide) ?_
  refine st_iload_n rfl rfl ?_
  refine st_iload_n rfl rfl ?_
  refine st_cv1 (w := []) rfl rfl rfl (Nat.le_of_ble_eq_true rfl) (Nat.le_of_ble_eq_true rfl) rfl rfl (r_Stacks_hasPlace hP t0) ?_
  refine st_if_eq_b rfl (fun h4 => ?_) (fun h4 => ?_)
  · refine st_iconst rfl ?_
    refine st_iret rfl (fun z => by first | exact absurd z (by decide) | exact bi_01 _ | decide | omega) ?_
    exact ⟨am_ri (by unfold tgA; first | rw [if_pos h4] | rw [if_neg h4]), rfl⟩
  · refine st_aload_n rfl rfl (by decide) ?_
    refine st_getR (kk := 3) rfl rfl rfl (pz_14_3 hP) rfl ?_
    refine st_iload_n rfl rfl ?_
    refine st_bipush rfl ?_
    refine st_imul rfl (by omega) ?_
    refine st_iload_n rfl rfl ?_
    refine st_iadd rfl (by omega) ?_
    refine st_iaload rfl rfl (by omega) (by omega) ?_
    rw [tt s p h4.1.1 h4.1.2 h4.2.1 h4.2.2]
    refine st_goto rfl ?_
    refine st_iret rfl (fun z => by first | exact absurd z (by decide) | exact bi_01 _ | decide | omega) ?_
    exact ⟨am_ri (by unfold tgA; first | rw [if_pos h4] | rw [if_neg h4]), rfl⟩
theorem r_Stacks_isFree {d N : Nat} {P : am_P} {H : am_H} {s p : Int} {a : Int → Int} (hP : PZ P) (hI : Inv a) (hT : RT H 10 a) : am_R (d + 4) 215 [am_r 14, am_i (s), am_i (p)] (N, P, H) (some (am_i (bi (((0 ≤ s ∧ s < a 2) ∧ 0 ≤ p ∧ p < 30) ∧ thgF a s p = -1)))) (N, P, H) := by
  refine am_en1 (d := d + 3) (ml := 3) (ls := [_, _, _]) cq_Stacks_isFree rfl (Nat.le_of_ble_eq_true rfl) rfl ?_
  have hn := hI.n
  have t0 : H 14 0 = a 2 := hT.1
  have t4 : H 14 4 = a 3 := hT.2.1
  have tw : ∀ s, 0 ≤ s → s < a 2 → H 15 s = a (6670 + 32 * s) ∧ H 16 s = a (6670 + 32 * s + 1) := hT.2.2.1
  have tt : ∀ s p, 0 ≤ s → s < a 2 → 0 ≤ p → p < 30 → H 17 (s * 30 + p) = thgF a s p := hT.2.2.2.1
  have tb : ∀ x, 0 ≤ x → x < a 3 → H 18 x = bkF a x 0 ∧ H 19 x = bkF a x 1 ∧ H 20 x = bkF a x 2 ∧ H 21 x = bkF a x 3 ∧ H 22 x = bkF a x 4 ∧ H 23 x = bkF a x 5 ∧ H 24 x = bkF a x 6 ∧ H 25 x = bkF a x 7 := hT.2.2.2.2
  refine st_aload_n rfl rfl (by decide) ?_
  refine st_iload_n rfl rfl ?_
  refine st_iload_n rfl rfl ?_
  refine st_cv1 (w := []) rfl rfl rfl (Nat.le_of_ble_eq_true rfl) (Nat.le_of_ble_eq_true rfl) rfl rfl (r_Stacks_hasPlace hP t0) ?_
  refine st_if_eq_b rfl (fun h4 => ?_) (fun h4 => ?_)
  · refine st_iconst rfl ?_
    refine st_iret rfl (fun z => by first | exact absurd z (by decide) | exact bi_01 _ | decide | omega) ?_
    exact ⟨am_ri (by first | rfl | exact bi_iff (by omega) | exact (bi_t (by omega)).symm | exact (bi_f (by omega)).symm), rfl⟩
  · refine st_aload_n rfl rfl (by decide) ?_
    refine st_iload_n rfl rfl ?_
    refine st_iload_n rfl rfl ?_
    refine st_cv1 (w := []) rfl rfl rfl (Nat.le_of_ble_eq_true rfl) (Nat.le_of_ble_eq_true rfl) rfl rfl (r_Stacks_thingAt hP hI hT) ?_
    rw [show tgA a s p = thgF a s p from if_pos h4]
    refine st_iconst rfl ?_
    refine st_icmp_ne rfl (fun h10 => ?_) (fun h10 => ?_)
    · refine st_iconst rfl ?_
      refine st_iret rfl (fun z => by first | exact absurd z (by decide) | exact bi_01 _ | decide | omega) ?_
      exact ⟨am_ri (by first | rfl | exact bi_iff (by omega) | exact (bi_t (by omega)).symm | exact (bi_f (by omega)).symm), rfl⟩
    · refine st_iconst rfl ?_
      refine st_goto rfl ?_
      refine st_iret rfl (fun z => by first | exact absurd z (by decide) | exact bi_01 _ | decide | omega) ?_
      exact ⟨am_ri (by first | rfl | exact bi_iff (by omega) | exact (bi_t (by omega)).symm | exact (bi_f (by omega)).symm), rfl⟩
def stH (H : am_H) (s p t : Int) : am_H := am_up H 17 (s * 30 + p) t
theorem r_Stacks_setThing {d N : Nat} {P : am_P} {H : am_H} {s p t : Int} {n : Int} (hP : PZ P) (h0 : H 14 0 = n) (hn : n ≤ 16) : am_R (d + 3) 216 [am_r 14, am_i (s), am_i (p), am_i (t)] (N, P, H) none (N, P, if (0 ≤ s ∧ s < n) ∧ 0 ≤ p ∧ p < 30 then stH H s p t else H) := by
  refine am_en1 (d := d + 2) (ml := 4) (ls := [_, _, _, _]) cq_Stacks_setThing rfl (Nat.le_of_ble_eq_true rfl) rfl ?_
  refine st_aload_n rfl rfl (by decide) ?_
  refine st_iload_n rfl rfl ?_
  refine st_iload_n rfl rfl ?_
  refine st_cv1 (w := []) rfl rfl rfl (Nat.le_of_ble_eq_true rfl) (Nat.le_of_ble_eq_true rfl) rfl rfl (r_Stacks_hasPlace hP h0) ?_
  refine st_if_eq_b rfl (fun h4 => ?_) (fun h4 => ?_)
  · refine st_ret rfl ?_
    exact ⟨rfl, by first | rw [if_pos h4]; rfl | rw [if_neg h4]⟩
  · refine st_aload_n rfl rfl (by decide) ?_
    refine st_getR (kk := 3) rfl rfl rfl (pz_14_3 hP) rfl ?_
    refine st_iload_n rfl rfl ?_
    refine st_bipush rfl ?_
    refine st_imul rfl (by omega) ?_
    refine st_iload_n rfl rfl ?_
    refine st_iadd rfl (by omega) ?_
    refine st_iload_n rfl rfl ?_
    refine st_iastore rfl rfl (by omega) (by omega) ?_
    refine st_ret rfl ?_
    exact ⟨rfl, by first | rw [if_pos h4]; rfl | rw [if_neg h4]⟩
def boF (t : Int) : Int := if 1000 ≤ t then t - 1000 else t
theorem r_Stacks_bookOf {d N : Nat} {P : am_P} {H : am_H} {t : Int} (h : -1000 ≤ t ∧ t ≤ 100000) : am_R (d + 1) 217 [am_i (t)] (N, P, H) (some (am_i (boF t))) (N, P, H) := by
  refine am_en1 (d := d + 0) (ml := 1) (ls := [_]) cq_Stacks_bookOf rfl (Nat.le_of_ble_eq_true rfl) rfl ?_
  refine st_iload_n rfl rfl ?_
  refine st_sipush rfl ?_
  refine st_icmp_lt rfl (fun h2 => ?_) (fun h2 => ?_)
  · refine st_iload_n rfl rfl ?_
    refine st_iret rfl (fun z => by first | exact absurd z (by decide) | exact bi_01 _ | decide | omega) ?_
    exact ⟨am_ri (by unfold boF; first | rw [if_pos (by omega)] | rw [if_neg (by omega)]), rfl⟩
  · refine st_iload_n rfl rfl ?_
    refine st_sipush rfl ?_
    refine st_isub rfl (by omega) ?_
    refine st_goto rfl ?_
    refine st_iret rfl (fun z => by first | exact absurd z (by decide) | exact bi_01 _ | decide | omega) ?_
    exact ⟨am_ri (by unfold boF; first | rw [if_pos (by omega)] | rw [if_neg (by omega)]), rfl⟩
theorem bo_mod {a : Int → Int} {t : Int} (h : TH a t) (h0 : 0 ≤ t) (h3 : a 3 ≤ 200) : boF t = t % 1000 ∧ 0 ≤ boF t ∧ boF t < a 3 := by
  unfold boF
  unfold TH at h
  split <;> omega
theorem th_r {a : Int → Int} {t : Int} (h : TH a t) (h3 : a 3 ≤ 200) : -1 ≤ t ∧ t < 1200 := by
  unfold TH at h
  omega

theorem r_Stacks_markOf {d N : Nat} {P : am_P} {H : am_H} {t : Int} {a : Int → Int} (hP : PZ P) (hI : Inv a) (hT : RT H 10 a) (hth : TH a t) (h0 : 0 ≤ t) : am_R (d + 2) 218 [am_r 14, am_i (t)] (N, P, H) (some (am_i (mkF a t))) (N, P, H) := by
  refine am_en1 (d := d + 1) (ml := 3) (ls := [_, _, _]) cq_Stacks_markOf rfl (Nat.le_of_ble_eq_true rfl) rfl ?_
  have hn := hI.n
  have t0 : H 14 0 = a 2 := hT.1
  have t4 : H 14 4 = a 3 := hT.2.1
  have tw : ∀ s, 0 ≤ s → s < a 2 → H 15 s = a (6670 + 32 * s) ∧ H 16 s = a (6670 + 32 * s + 1) := hT.2.2.1
  have tt : ∀ s p, 0 ≤ s → s < a 2 → 0 ≤ p → p < 30 → H 17 (s * 30 + p) = thgF a s p := hT.2.2.2.1
  have tb : ∀ x, 0 ≤ x → x < a 3 → H 18 x = bkF a x 0 ∧ H 19 x = bkF a x 1 ∧ H 20 x = bkF a x 2 ∧ H 21 x = bkF a x 3 ∧ H 22 x = bkF a x 4 ∧ H 23 x = bkF a x 5 ∧ H 24 x = bkF a x 6 ∧ H 25 x = bkF a x 7 := hT.2.2.2.2
  have hbo := bo_mod hth h0 hn.2.2.1.2
  have htr := th_r hth hn.2.2.1.2
  have hb := tb (boF t) hbo.2.1 hbo.2.2
  have hbw := hI.bw.2 (boF t) hbo.2.1 hbo.2.2
  refine st_iload_n rfl rfl ?_
  refine st_cs1 (w := []) rfl (by decide) (by decide) (by decide) (Nat.le_of_ble_eq_true rfl) (Nat.le_of_ble_eq_true rfl) rfl rfl (r_Stacks_bookOf (by omega)) ?_
  refine st_istore_n (ls' := [_, _, _]) rfl (Nat.le_of_ble_eq_true rfl) rfl ?_
  refine st_aload_n rfl rfl (by decide) ?_
  refine st_iload_n rfl rfl ?_
  refine st_cv1 (w := []) rfl rfl rfl (Nat.le_of_ble_eq_true rfl) (Nat.le_of_ble_eq_true rfl) rfl rfl (r_Stacks_hasBook hP t4) ?_
  refine st_if_eq_b rfl (fun h6 => (by exfalso; omega)) (fun h6 => ?_)
  refine st_aload_n rfl rfl (by decide) ?_
  refine st_getR (kk := 6) rfl rfl rfl (pz_14_6 hP) rfl ?_
  refine st_iload_n rfl rfl ?_
  refine st_iaload rfl rfl (by omega) (by omega) ?_
  rw [hb.2.1]
  refine st_goto rfl ?_
  refine st_iret rfl (fun z => by first | exact absurd z (by decide) | exact bi_01 _ | decide | omega) ?_
  exact ⟨am_ri (by unfold mkF; rw [← hbo.1]), rfl⟩
theorem r_Stacks_widthTaken {d N : Nat} {P : am_P} {H : am_H} {t : Int} {a : Int → Int} (hP : PZ P) (hI : Inv a) (hT : RT H 10 a) (hth : TH a t) (h0 : 0 ≤ t) : am_R (d + 2) 219 [am_r 14, am_i (t)] (N, P, H) (some (am_i (widF a t))) (N, P, H) := by
  refine am_en1 (d := d + 1) (ml := 3) (ls := [_, _, _]) cq_Stacks_widthTaken rfl (Nat.le_of_ble_eq_true rfl) rfl ?_
  have hn := hI.n
  have t0 : H 14 0 = a 2 := hT.1
  have t4 : H 14 4 = a 3 := hT.2.1
  have tw : ∀ s, 0 ≤ s → s < a 2 → H 15 s = a (6670 + 32 * s) ∧ H 16 s = a (6670 + 32 * s + 1) := hT.2.2.1
  have tt : ∀ s p, 0 ≤ s → s < a 2 → 0 ≤ p → p < 30 → H 17 (s * 30 + p) = thgF a s p := hT.2.2.2.1
  have tb : ∀ x, 0 ≤ x → x < a 3 → H 18 x = bkF a x 0 ∧ H 19 x = bkF a x 1 ∧ H 20 x = bkF a x 2 ∧ H 21 x = bkF a x 3 ∧ H 22 x = bkF a x 4 ∧ H 23 x = bkF a x 5 ∧ H 24 x = bkF a x 6 ∧ H 25 x = bkF a x 7 := hT.2.2.2.2
  have hbo := bo_mod hth h0 hn.2.2.1.2
  have htr := th_r hth hn.2.2.1.2
  have hb := tb (boF t) hbo.2.1 hbo.2.2
  have hbw := hI.bw.2 (boF t) hbo.2.1 hbo.2.2
  refine st_iload_n rfl rfl ?_
  refine st_cs1 (w := []) rfl (by decide) (by decide) (by decide) (Nat.le_of_ble_eq_true rfl) (Nat.le_of_ble_eq_true rfl) rfl rfl (r_Stacks_bookOf (by omega)) ?_
  refine st_istore_n (ls' := [_, _, _]) rfl (Nat.le_of_ble_eq_true rfl) rfl ?_
  refine st_aload_n rfl rfl (by decide) ?_
  refine st_iload_n rfl rfl ?_
  refine st_cv1 (w := []) rfl rfl rfl (Nat.le_of_ble_eq_true rfl) (Nat.le_of_ble_eq_true rfl) rfl rfl (r_Stacks_hasBook hP t4) ?_
  refine st_if_ne_b rfl (fun h6 => ?_) (fun h6 => (by exfalso; omega))
  refine st_iload_n rfl rfl ?_
  refine st_sipush rfl ?_
  refine st_icmp_lt rfl (fun h11 => ?_) (fun h11 => ?_)
  · have e : boF t = t := if_neg (by omega)
    rw [e] at hb hbw
    rw [e]
    refine st_aload_n rfl rfl (by decide) ?_
    refine st_getR (kk := 5) rfl rfl rfl (pz_14_5 hP) rfl ?_
    refine st_iload_n rfl rfl ?_
    refine st_iaload rfl rfl (by omega) (by omega) ?_
    rw [hb.1]
    refine st_iconst rfl ?_
    refine st_icmp_ne rfl (fun h19 => ?_) (fun h19 => ?_)
    · refine st_aload_n rfl rfl (by decide) ?_
      refine st_getR (kk := 7) rfl rfl rfl (pz_14_7 hP) rfl ?_
      refine st_iload_n rfl rfl ?_
      refine st_iaload rfl rfl (by omega) (by omega) ?_
      try rw [hb.2.2.1]
      refine st_iret rfl (fun z => by first | exact absurd z (by decide) | exact bi_01 _ | decide | omega) ?_
      exact ⟨am_ri (by unfold widF; rw [if_neg (show ¬ 1000 ≤ t by omega)]; first | rw [if_pos (by omega)] | (rw [if_neg (by omega)]; omega)), rfl⟩
    · refine st_aload_n rfl rfl (by decide) ?_
      refine st_getR (kk := 7) rfl rfl rfl (pz_14_7 hP) rfl ?_
      refine st_iload_n rfl rfl ?_
      refine st_iaload rfl rfl (by omega) (by omega) ?_
      rw [hb.2.2.1]
      refine st_bipush rfl ?_
      refine st_iadd rfl (by omega) ?_
      refine st_goto rfl ?_
      try rw [hb.2.2.1]
      refine st_iret rfl (fun z => by first | exact absurd z (by decide) | exact bi_01 _ | decide | omega) ?_
      exact ⟨am_ri (by unfold widF; rw [if_neg (show ¬ 1000 ≤ t by omega)]; first | rw [if_pos (by omega)] | (rw [if_neg (by omega)]; omega)), rfl⟩
  · refine st_iconst rfl ?_
    refine st_iret rfl (fun z => by first | exact absurd z (by decide) | exact bi_01 _ | decide | omega) ?_
    exact ⟨am_ri (by unfold widF; rw [if_pos (by omega)]), rfl⟩
def ntH (H : am_H) (o : Nat) (b s p : Int) : am_H := am_up (am_up H o b s) (o + 1) b p
theorem r_Stacks_notePlaceB {d N : Nat} {P : am_P} {H : am_H} {b s p : Int} {n : Int} (hP : PZ P) (h4 : H 14 4 = n) (hn : n ≤ 200) (hb : 0 ≤ b ∧ b < n) : am_R (d + 2) 223 [am_r 14, am_i (b), am_i (s), am_i (p)] (N, P, H) none (N, P, ntH H 22 b s p) := by
  refine am_en1 (d := d + 1) (ml := 5) (ls := [_, _, _, _, _]) cq_Stacks_notePlace rfl (Nat.le_of_ble_eq_true rfl) rfl ?_
  have hbo : boF b = b := if_neg (by omega)
  refine st_iload_n rfl rfl ?_
  refine st_cs1 (w := []) rfl (by decide) (by decide) (by decide) (Nat.le_of_ble_eq_true rfl) (Nat.le_of_ble_eq_true rfl) rfl rfl (r_Stacks_bookOf (by omega)) ?_
  rw [hbo]
  refine st_istore (ls' := [_, _, _, _, _]) rfl (Nat.le_of_ble_eq_true rfl) rfl ?_
  refine st_aload_n rfl rfl (by decide) ?_
  refine st_iload rfl rfl ?_
  refine st_cv1 (w := []) rfl rfl rfl (Nat.le_of_ble_eq_true rfl) (Nat.le_of_ble_eq_true rfl) rfl rfl (r_Stacks_hasBook hP h4) ?_
  refine st_if_ne_b rfl (fun h6 => ?_) (fun h6 => (by exfalso; omega))
  refine st_iload_n rfl rfl ?_
  refine st_sipush rfl ?_
  refine st_icmp_lt rfl (fun h10 => ?_) (fun h10 => (by exfalso; omega))
  refine st_aload_n rfl rfl (by decide) ?_
  refine st_getR (kk := 9) rfl rfl rfl (pz_14_9 hP) rfl ?_
  refine st_iload rfl rfl ?_
  refine st_iload_n rfl rfl ?_
  refine st_iastore rfl rfl (by omega) (by omega) ?_
  refine st_aload_n rfl rfl (by decide) ?_
  refine st_getR (kk := 10) rfl rfl rfl (pz_14_10 hP) rfl ?_
  refine st_iload rfl rfl ?_
  refine st_iload_n rfl rfl ?_
  refine st_iastore rfl rfl (by omega) (by omega) ?_
  refine st_ret rfl ?_
  exact ⟨rfl, rfl⟩
theorem r_Stacks_notePlaceD {d N : Nat} {P : am_P} {H : am_H} {b s p : Int} {n : Int} (hP : PZ P) (h4 : H 14 4 = n) (hn : n ≤ 200) (hb : 0 ≤ b ∧ b < n) : am_R (d + 2) 223 [am_r 14, am_i (1000 + b), am_i (s), am_i (p)] (N, P, H) none (N, P, ntH H 24 b s p) := by
  refine am_en1 (d := d + 1) (ml := 5) (ls := [_, _, _, _, _]) cq_Stacks_notePlace rfl (Nat.le_of_ble_eq_true rfl) rfl ?_
  have hbo : boF (1000 + b) = b := by unfold boF; rw [if_pos (by omega)]; omega
  refine st_iload_n rfl rfl ?_
  refine st_cs1 (w := []) rfl (by decide) (by decide) (by decide) (Nat.le_of_ble_eq_true rfl) (Nat.le_of_ble_eq_true rfl) rfl rfl (r_Stacks_bookOf (by omega)) ?_
  rw [hbo]
  refine st_istore (ls' := [_, _, _, _, _]) rfl (Nat.le_of_ble_eq_true rfl) rfl ?_
  refine st_aload_n rfl rfl (by decide) ?_
  refine st_iload rfl rfl ?_
  refine st_cv1 (w := []) rfl rfl rfl (Nat.le_of_ble_eq_true rfl) (Nat.le_of_ble_eq_true rfl) rfl rfl (r_Stacks_hasBook hP h4) ?_
  refine st_if_ne_b rfl (fun h6 => ?_) (fun h6 => (by exfalso; omega))
  refine st_iload_n rfl rfl ?_
  refine st_sipush rfl ?_
  refine st_icmp_lt rfl (fun h10 => (by exfalso; omega)) (fun h10 => ?_)
  refine st_aload_n rfl rfl (by decide) ?_
  refine st_getR (kk := 11) rfl rfl rfl (pz_14_11 hP) rfl ?_
  refine st_iload rfl rfl ?_
  refine st_iload_n rfl rfl ?_
  refine st_iastore rfl rfl (by omega) (by omega) ?_
  refine st_aload_n rfl rfl (by decide) ?_
  refine st_getR (kk := 12) rfl rfl rfl (pz_14_12 hP) rfl ?_
  refine st_iload rfl rfl ?_
  refine st_iload_n rfl rfl ?_
  refine st_iastore rfl rfl (by omega) (by omega) ?_
  refine st_goto rfl ?_
  refine st_ret rfl ?_
  exact ⟨rfl, rfl⟩
theorem stH14 (H : am_H) (s p t : Int) : stH H s p t 14 = H 14 := rfl
def slH (H : am_H) (n s p t : Int) : am_H := if (0 ≤ s ∧ s < n) ∧ 0 ≤ p ∧ p < 30 then stH H s p t else H
theorem slH14 (H : am_H) (n s p t : Int) : slH H n s p t 14 = H 14 := by unfold slH; split <;> rfl

theorem r_Stacks_takeThingB {d N : Nat} {P : am_P} {H : am_H} {b : Int} {n : Int} (hP : PZ P) (h4 : H 14 4 = n) {n0 : Int} (h0 : H 14 0 = n0) (hn : n ≤ 200) (hn0 : n0 ≤ 16) (hb : 0 ≤ b ∧ b < n) : am_R (d + 4) 224 [am_r 14, am_i (b)] (N, P, H) none (N, P, ntH (slH H n0 (H 22 b) (H 23 b) (-1)) 22 b (-1) (-1)) := by
  refine am_en1 (d := d + 3) (ml := 3) (ls := [_, _, _]) cq_Stacks_takeThing rfl (Nat.le_of_ble_eq_true rfl) rfl ?_
  have hbo : boF (b) = b := by unfold boF; first | rw [if_pos (by omega)]; omega | rw [if_neg (by omega)]
  refine st_iload_n rfl rfl ?_
  refine st_cs1 (w := []) rfl (by decide) (by decide) (by decide) (Nat.le_of_ble_eq_true rfl) (Nat.le_of_ble_eq_true rfl) rfl rfl (r_Stacks_bookOf (by omega)) ?_
  rw [hbo]
  refine st_istore_n (ls' := [_, _, _]) rfl (Nat.le_of_ble_eq_true rfl) rfl ?_
  refine st_aload_n rfl rfl (by decide) ?_
  refine st_iload_n rfl rfl ?_
  refine st_cv1 (w := []) rfl rfl rfl (Nat.le_of_ble_eq_true rfl) (Nat.le_of_ble_eq_true rfl) rfl rfl (r_Stacks_hasBook hP h4) ?_
  refine st_if_ne_b rfl (fun h6 => ?_) (fun h6 => (by exfalso; omega))
  refine st_iload_n rfl rfl ?_
  refine st_sipush rfl ?_
  refine st_icmp_lt rfl (fun h10 => ?_) (fun h10 => (by exfalso; omega))
  refine st_aload_n rfl rfl (by decide) ?_
  refine st_aload_n rfl rfl (by decide) ?_
  refine st_getR (kk := 9) rfl rfl rfl (pz_14_9 hP) rfl ?_
  refine st_iload_n rfl rfl ?_
  refine st_iaload rfl rfl (by omega) (by omega) ?_
  refine st_aload_n rfl rfl (by decide) ?_
  refine st_getR (kk := 10) rfl rfl rfl (pz_14_10 hP) rfl ?_
  refine st_iload_n rfl rfl ?_
  refine st_iaload rfl rfl (by omega) (by omega) ?_
  refine st_iconst rfl ?_
  refine st_cv0 (w := []) rfl rfl rfl (Nat.le_of_ble_eq_true rfl) (Nat.le_of_ble_eq_true rfl) rfl rfl (r_Stacks_setThing hP h0 hn0) ?_
  refine st_aload_n rfl rfl (by decide) ?_
  refine st_iload_n rfl rfl ?_
  refine st_iconst rfl ?_
  refine st_iconst rfl ?_
  refine st_cv0 (w := []) rfl rfl rfl (Nat.le_of_ble_eq_true rfl) (Nat.le_of_ble_eq_true rfl) rfl rfl (r_Stacks_notePlaceB (H := slH H n0 (H 22 b) (H 23 b) (-1)) hP (by rw [slH14]; exact h4) hn hb) ?_
  refine st_ret rfl ?_
  exact ⟨rfl, rfl⟩
theorem r_Stacks_putThingB {d N : Nat} {P : am_P} {H : am_H} {b s p : Int} {n : Int} (hP : PZ P) (h4 : H 14 4 = n) {n0 : Int} (h0 : H 14 0 = n0) (hn : n ≤ 200) (hn0 : n0 ≤ 16) (hb : 0 ≤ b ∧ b < n) (hs : 0 ≤ s ∧ s < n0) (hq : 0 ≤ p ∧ p < 30) : am_R (d + 5) 225 [am_r 14, am_i (b), am_i (s), am_i (p)] (N, P, H) none (N, P, ntH (stH (ntH (slH H n0 (H 22 b) (H 23 b) (-1)) 22 b (-1) (-1)) s p (b)) 22 b s p) := by
  refine am_en1 (d := d + 4) (ml := 4) (ls := [_, _, _, _]) cq_Stacks_putThing rfl (Nat.le_of_ble_eq_true rfl) rfl ?_
  have e14 : ntH (slH H n0 (H 22 b) (H 23 b) (-1)) 22 b (-1) (-1) 14 = H 14 := by rw [← slH14 H n0 (H 22 b) (H 23 b) (-1)]; rfl
  refine st_aload_n rfl rfl (by decide) ?_
  refine st_iload_n rfl rfl ?_
  refine st_cv0 (w := []) rfl rfl rfl (Nat.le_of_ble_eq_true rfl) (Nat.le_of_ble_eq_true rfl) rfl rfl (r_Stacks_takeThingB hP h4 h0 hn hn0 hb) ?_
  refine st_aload_n rfl rfl (by decide) ?_
  refine st_iload_n rfl rfl ?_
  refine st_iload_n rfl rfl ?_
  refine st_iload_n rfl rfl ?_
  refine st_cv0 (w := []) rfl rfl rfl (Nat.le_of_ble_eq_true rfl) (Nat.le_of_ble_eq_true rfl) rfl rfl (r_Stacks_setThing (n := n0) hP (by rw [e14]; exact h0) hn0) ?_
  rw [if_pos ⟨hs, hq⟩]
  refine st_aload_n rfl rfl (by decide) ?_
  refine st_iload_n rfl rfl ?_
  refine st_iload_n rfl rfl ?_
  refine st_iload_n rfl rfl ?_
  refine st_cv0 (w := []) rfl rfl rfl (Nat.le_of_ble_eq_true rfl) (Nat.le_of_ble_eq_true rfl) rfl rfl (r_Stacks_notePlaceB (n := n) hP (by rw [stH14, e14]; exact h4) hn hb) ?_
  refine st_ret rfl ?_
  exact ⟨rfl, rfl⟩
theorem r_Stacks_takeThingD {d N : Nat} {P : am_P} {H : am_H} {b : Int} {n : Int} (hP : PZ P) (h4 : H 14 4 = n) {n0 : Int} (h0 : H 14 0 = n0) (hn : n ≤ 200) (hn0 : n0 ≤ 16) (hb : 0 ≤ b ∧ b < n) : am_R (d + 4) 224 [am_r 14, am_i (1000 + b)] (N, P, H) none (N, P, ntH (slH H n0 (H 24 b) (H 25 b) (-1)) 24 b (-1) (-1)) := by
  refine am_en1 (d := d + 3) (ml := 3) (ls := [_, _, _]) cq_Stacks_takeThing rfl (Nat.le_of_ble_eq_true rfl) rfl ?_
  have hbo : boF (1000 + b) = b := by unfold boF; first | rw [if_pos (by omega)]; omega | rw [if_neg (by omega)]
  refine st_iload_n rfl rfl ?_
  refine st_cs1 (w := []) rfl (by decide) (by decide) (by decide) (Nat.le_of_ble_eq_true rfl) (Nat.le_of_ble_eq_true rfl) rfl rfl (r_Stacks_bookOf (by omega)) ?_
  rw [hbo]
  refine st_istore_n (ls' := [_, _, _]) rfl (Nat.le_of_ble_eq_true rfl) rfl ?_
  refine st_aload_n rfl rfl (by decide) ?_
  refine st_iload_n rfl rfl ?_
  refine st_cv1 (w := []) rfl rfl rfl (Nat.le_of_ble_eq_true rfl) (Nat.le_of_ble_eq_true rfl) rfl rfl (r_Stacks_hasBook hP h4) ?_
  refine st_if_ne_b rfl (fun h6 => ?_) (fun h6 => (by exfalso; omega))
  refine st_iload_n rfl rfl ?_
  refine st_sipush rfl ?_
  refine st_icmp_lt rfl (fun h10 => (by exfalso; omega)) (fun h10 => ?_)
  refine st_aload_n rfl rfl (by decide) ?_
  refine st_aload_n rfl rfl (by decide) ?_
  refine st_getR (kk := 11) rfl rfl rfl (pz_14_11 hP) rfl ?_
  refine st_iload_n rfl rfl ?_
  refine st_iaload rfl rfl (by omega) (by omega) ?_
  refine st_aload_n rfl rfl (by decide) ?_
  refine st_getR (kk := 12) rfl rfl rfl (pz_14_12 hP) rfl ?_
  refine st_iload_n rfl rfl ?_
  refine st_iaload rfl rfl (by omega) (by omega) ?_
  refine st_iconst rfl ?_
  refine st_cv0 (w := []) rfl rfl rfl (Nat.le_of_ble_eq_true rfl) (Nat.le_of_ble_eq_true rfl) rfl rfl (r_Stacks_setThing hP h0 hn0) ?_
  refine st_goto rfl ?_
  refine st_aload_n rfl rfl (by decide) ?_
  refine st_iload_n rfl rfl ?_
  refine st_iconst rfl ?_
  refine st_iconst rfl ?_
  refine st_cv0 (w := []) rfl rfl rfl (Nat.le_of_ble_eq_true rfl) (Nat.le_of_ble_eq_true rfl) rfl rfl (r_Stacks_notePlaceD (H := slH H n0 (H 24 b) (H 25 b) (-1)) hP (by rw [slH14]; exact h4) hn hb) ?_
  refine st_ret rfl ?_
  exact ⟨rfl, rfl⟩
theorem r_Stacks_putThingD {d N : Nat} {P : am_P} {H : am_H} {b s p : Int} {n : Int} (hP : PZ P) (h4 : H 14 4 = n) {n0 : Int} (h0 : H 14 0 = n0) (hn : n ≤ 200) (hn0 : n0 ≤ 16) (hb : 0 ≤ b ∧ b < n) (hs : 0 ≤ s ∧ s < n0) (hq : 0 ≤ p ∧ p < 30) : am_R (d + 5) 225 [am_r 14, am_i (1000 + b), am_i (s), am_i (p)] (N, P, H) none (N, P, ntH (stH (ntH (slH H n0 (H 24 b) (H 25 b) (-1)) 24 b (-1) (-1)) s p (1000 + b)) 24 b s p) := by
  refine am_en1 (d := d + 4) (ml := 4) (ls := [_, _, _, _]) cq_Stacks_putThing rfl (Nat.le_of_ble_eq_true rfl) rfl ?_
  have e14 : ntH (slH H n0 (H 24 b) (H 25 b) (-1)) 24 b (-1) (-1) 14 = H 14 := by rw [← slH14 H n0 (H 24 b) (H 25 b) (-1)]; rfl
  refine st_aload_n rfl rfl (by decide) ?_
  refine st_iload_n rfl rfl ?_
  refine st_cv0 (w := []) rfl rfl rfl (Nat.le_of_ble_eq_true rfl) (Nat.le_of_ble_eq_true rfl) rfl rfl (r_Stacks_takeThingD hP h4 h0 hn hn0 hb) ?_
  refine st_aload_n rfl rfl (by decide) ?_
  refine st_iload_n rfl rfl ?_
  refine st_iload_n rfl rfl ?_
  refine st_iload_n rfl rfl ?_
  refine st_cv0 (w := []) rfl rfl rfl (Nat.le_of_ble_eq_true rfl) (Nat.le_of_ble_eq_true rfl) rfl rfl (r_Stacks_setThing (n := n0) hP (by rw [e14]; exact h0) hn0) ?_
  rw [if_pos ⟨hs, hq⟩]
  refine st_aload_n rfl rfl (by decide) ?_
  refine st_iload_n rfl rfl ?_
  refine st_iload_n rfl rfl ?_
  refine st_iload_n rfl rfl ?_
  refine st_cv0 (w := []) rfl rfl rfl (Nat.le_of_ble_eq_true rfl) (Nat.le_of_ble_eq_true rfl) rfl rfl (r_Stacks_notePlaceD (n := n) hP (by rw [stH14, e14]; exact h4) hn hb) ?_
  refine st_ret rfl ?_
  exact ⟨rfl, rfl⟩
theorem r_Stacks_roomNow {d N : Nat} {P : am_P} {H : am_H} {s : Int} {a : Int → Int} (hP : PZ P) (hI : Inv a) (hT : RT H 10 a) (hs : 0 ≤ s ∧ s < a 2) : am_R (d + 4) 226 [am_r 14, am_i (s)] (N, P, H) (some (am_i (rmF a s))) (N, P, H) := by
  refine am_en1 (d := d + 3) (ml := 5) (ls := [_, _, _, _, _]) cq_Stacks_roomNow rfl (Nat.le_of_ble_eq_true rfl) rfl ?_
  have hn := hI.n
  have t0 : H 14 0 = a 2 := hT.1
  have t4 : H 14 4 = a 3 := hT.2.1
  have tw : ∀ s, 0 ≤ s → s < a 2 → H 15 s = a (6670 + 32 * s) ∧ H 16 s = a (6670 + 32 * s + 1) := hT.2.2.1
  have tt : ∀ s p, 0 ≤ s → s < a 2 → 0 ≤ p → p < 30 → H 17 (s * 30 + p) = thgF a s p := hT.2.2.2.1
  have tb : ∀ x, 0 ≤ x → x < a 3 → H 18 x = bkF a x 0 ∧ H 19 x = bkF a x 1 ∧ H 20 x = bkF a x 2 ∧ H 21 x = bkF a x 3 ∧ H 22 x = bkF a x 4 ∧ H 23 x = bkF a x 5 ∧ H 24 x = bkF a x 6 ∧ H 25 x = bkF a x 7 := hT.2.2.2.2
  have hth := fun p (q0 : 0 ≤ p) (q1 : p < 30) => hI.th hs.1 hs.2 q0 q1
  have hsw := (hI.s.2.1 s hs.1 hs.2).1
  refine st_aload_n rfl rfl (by decide) ?_
  refine st_iload_n rfl rfl ?_
  refine st_cv1 (w := []) rfl rfl rfl (Nat.le_of_ble_eq_true rfl) (Nat.le_of_ble_eq_true rfl) rfl rfl (r_Stacks_widthOf hP hI hT) ?_
  rw [show swA a s = rmL a s 0 from if_pos hs]
  refine st_istore_n (ls' := [_, _, _, _, _]) rfl (Nat.le_of_ble_eq_true rfl) rfl ?_
  refine st_iconst rfl ?_
  refine st_istore_n (ls' := [_, _, _, _, _]) rfl (Nat.le_of_ble_eq_true rfl) rfl ?_
  suffices hz : ∀ j, j ≤ 30 → ∀ w, am_WP (am_R (d + 3)) cd_Stacks_roomNow (fun v' s' => v' = some (am_i (rmF a s)) ∧ s' = (N, P, H)) 6 [some (am_r 14), some (am_i s), some (am_i (rmL a s j)), some (am_i (j : Int)), w] [] (N, P, H) from hz 0 (Nat.zero_le _) _
  refine up_ind (n := 30) ?_ ?_
  · intro w
    refine st_iload_n rfl rfl ?_
    refine st_bipush rfl ?_
    refine st_icmp_ge rfl (fun h8 => ?_) (fun h8 => (by exfalso; omega))
    refine st_iload_n rfl rfl ?_
    refine st_iret rfl (fun z => by first | exact absurd z (by decide) | exact bi_01 _ | decide | omega) ?_
    exact ⟨rfl, rfl⟩
  · intro j hj ih w
    have hr := rmL_r hI.bw hth j (by omega)
    have hj1 := hth j (by omega) (by omega)
    refine st_iload_n rfl rfl ?_
    refine st_bipush rfl ?_
    refine st_icmp_ge rfl (fun h8 => (by exfalso; omega)) (fun h8 => ?_)
    refine st_aload_n rfl rfl (by decide) ?_
    refine st_iload_n rfl rfl ?_
    refine st_iload_n rfl rfl ?_
    refine st_cv1 (w := []) rfl rfl rfl (Nat.le_of_ble_eq_true rfl) (Nat.le_of_ble_eq_true rfl) rfl rfl (r_Stacks_thingAt hP hI hT) ?_
    rw [show tgA a s (j : Int) = thgF a s (j : Int) from if_pos ⟨hs, by omega, by omega⟩]
    refine st_istore (ls' := [_, _, _, _, _]) rfl (Nat.le_of_ble_eq_true rfl) rfl ?_
    refine st_iload rfl rfl ?_
    refine st_iconst rfl ?_
    refine st_icmp_eq rfl (fun h16 => ?_) (fun h16 => ?_)
    · refine st_iinc (ls' := [_, _, _, _, _]) rfl rfl (by omega) rfl ?_
      refine st_goto rfl ?_
      have ih := ih (some (am_i (thgF a s j)))
      first
      | (rw [show rmL a s (j + 1) = rmL a s j from if_neg (by omega)] at ih; exact ih)
      | (rw [show rmL a s (j + 1) = rmL a s j - widF a (thgF a s j) from if_pos (by omega)] at ih; exact ih)
    · have h0 : 0 ≤ thgF a s (j : Int) := by unfold TH at hj1; omega
      have hwd := widF_r hI.bw hj1 h0
      refine st_iload_n rfl rfl ?_
      refine st_aload_n rfl rfl (by decide) ?_
      refine st_iload rfl rfl ?_
      refine st_cv1 (w := [_]) rfl rfl rfl (Nat.le_of_ble_eq_true rfl) (Nat.le_of_ble_eq_true rfl) rfl rfl (r_Stacks_widthTaken hP hI hT hj1 h0) ?_
      refine st_isub rfl (by omega) ?_
      refine st_istore_n (ls' := [_, _, _, _, _]) rfl (Nat.le_of_ble_eq_true rfl) rfl ?_
      refine st_iinc (ls' := [_, _, _, _, _]) rfl rfl (by omega) rfl ?_
      refine st_goto rfl ?_
      have ih := ih (some (am_i (thgF a s j)))
      first
      | (rw [show rmL a s (j + 1) = rmL a s j from if_neg (by omega)] at ih; exact ih)
      | (rw [show rmL a s (j + 1) = rmL a s j - widF a (thgF a s j) from if_pos (by omega)] at ih; exact ih)
