/-! ===== the class: growths ===== -/
theorem sgn_neg (x y : Int) : sgn (x - y) = - sgn (y - x) := by
  unfold sgn
  (repeat' split) <;> omega
theorem held_neg {a : Int → Int} {x y k w : Int} (h0 : prtF a x k 0 = prtF a y k 0) : heldF a x y k w = - heldF a y x k w := by
  unfold heldF
  rw [← h0]
  by_cases h1 : prtF a x k 0 = 0
  · rw [if_pos h1, if_pos h1]
    exact sgn_neg _ _
  · rw [if_neg h1, if_neg h1]
    by_cases h2 : prtF a x k 1 = prtF a y k 1
    · rw [if_neg (show ¬ (prtF a x k 1 ≠ prtF a y k 1) by omega), if_neg (show ¬ (prtF a y k 1 ≠ prtF a x k 1) by omega)]
      by_cases h3 : w = 1 ∧ prtF a x k 3 ≠ prtF a y k 3
      · rw [if_pos h3, if_pos (show w = 1 ∧ prtF a y k 3 ≠ prtF a x k 3 by omega)]
        exact sgn_neg _ _
      · rw [if_neg h3, if_neg (show ¬ (w = 1 ∧ prtF a y k 3 ≠ prtF a x k 3) by omega)]
        exact sgn_neg _ _
    · rw [if_pos (show prtF a x k 1 ≠ prtF a y k 1 by omega), if_pos (show prtF a y k 1 ≠ prtF a x k 1 by omega)]
      exact sgn_neg _ _
theorem tol_neg {a : Int → Int} {x y w k : Int} : tolF a x y w k = - tolF a y x w k := by
  unfold tolF
  by_cases h1 : lenF a x ≤ k
  · by_cases h2 : lenF a y ≤ k
    · rw [if_pos h1, if_pos h2, if_pos h2, if_pos h1]; omega
    · rw [if_pos h1, if_neg h2, if_neg h2, if_pos h1]
  · by_cases h2 : lenF a y ≤ k
    · rw [if_neg h1, if_pos h2, if_pos h2, if_neg h1]; omega
    · rw [if_neg h1, if_neg h2, if_neg h2, if_neg h1]
      by_cases h0 : prtF a x k 0 = prtF a y k 0
      · rw [if_neg (show ¬ (prtF a x k 0 ≠ prtF a y k 0) by omega), if_neg (show ¬ (prtF a y k 0 ≠ prtF a x k 0) by omega)]
        exact held_neg h0
      · rw [if_pos (show prtF a x k 0 ≠ prtF a y k 0 by omega), if_pos (show prtF a y k 0 ≠ prtF a x k 0 by omega)]
        exact sgn_neg _ _
theorem cmpL_neg {a : Int → Int} {x y w : Int} : ∀ (n : Nat) (k : Int), cmpL a x y w n k = - cmpL a y x w n k
  | 0, _ => rfl
  | n + 1, k => by
    have ih := cmpL_neg (a := a) (x := x) (y := y) (w := w) n (k + 1)
    have ht := tol_neg (a := a) (x := x) (y := y) (w := w) (k := k)
    simp only [cmpL]
    by_cases h1 : lenF a x ≤ k ∧ lenF a y ≤ k
    · rw [if_pos h1, if_pos ⟨h1.2, h1.1⟩]; omega
    · rw [if_neg h1, if_neg (show ¬ (lenF a y ≤ k ∧ lenF a x ≤ k) by omega)]
      by_cases h2 : tolF a x y w k = 0
      · rw [if_neg (show ¬ (tolF a x y w k ≠ 0) by omega), if_neg (show ¬ (tolF a y x w k ≠ 0) by omega)]
        exact ih
      · rw [if_pos (show tolF a x y w k ≠ 0 by omega), if_pos (show tolF a y x w k ≠ 0 by omega)]
        exact ht
theorem cmp_neg {a : Int → Int} {x y w : Int} : cmpF a x y w = - cmpF a y x w := cmpL_neg 8 0

theorem r_Growths_make {d N : Nat} {P : am_P} {H : am_H} {x y z n : Int} (hP : PZ P) (h0 : H 33 0 = n) (hn : 0 ≤ n ∧ n ≤ 12) : am_R (d + 1) 151 [am_r 33, am_i (x), am_i (y), am_i (z)] (N, P, H) (some (am_i (if n ≠ 12 then n + 1 else -1))) (N, P, if n ≠ 12 then am_up (am_up (am_up (am_up H 34 n x) 35 n y) 36 n z) 33 0 (n + 1) else H) := by
  refine am_en1 (d := d + 0) (ml := 4) (ls := [_, _, _, _]) cq_Growths_make rfl (Nat.le_of_ble_eq_true rfl) rfl ?_
  refine st_aload_n rfl rfl (by decide) ?_
  refine st_getI (kk := 0) rfl rfl (by decide) rfl ?_
  refine st_bipush rfl ?_
  refine st_icmp_lt rfl (fun h3 => ?_) (fun h3 => ?_)
  · refine st_aload_n rfl rfl (by decide) ?_
    refine st_getR (kk := 1) rfl rfl rfl (pz_33_1 hP) rfl ?_
    refine st_aload_n rfl rfl (by decide) ?_
    refine st_getI (kk := 0) rfl rfl (by decide) rfl ?_
    rw [h0]
    refine st_iload_n rfl rfl ?_
    refine st_iastore rfl rfl (by omega) (by omega) ?_
    refine st_aload_n rfl rfl (by decide) ?_
    refine st_getR (kk := 2) rfl rfl rfl (pz_33_2 hP) rfl ?_
    refine st_aload_n rfl rfl (by decide) ?_
    refine st_getI (kk := 0) rfl rfl (by decide) rfl ?_
    rw [show am_up H 34 n x 33 0 = n from h0]
    refine st_iload_n rfl rfl ?_
    refine st_iastore rfl rfl (by omega) (by omega) ?_
    refine st_aload_n rfl rfl (by decide) ?_
    refine st_getR (kk := 3) rfl rfl rfl (pz_33_3 hP) rfl ?_
    refine st_aload_n rfl rfl (by decide) ?_
    refine st_getI (kk := 0) rfl rfl (by decide) rfl ?_
    rw [show am_up (am_up H 34 n x) 35 n y 33 0 = n from h0]
    refine st_iload_n rfl rfl ?_
    refine st_iastore rfl rfl (by omega) (by omega) ?_
    refine st_aload_n rfl rfl (by decide) ?_
    refine st_dup rfl rfl ?_
    refine st_getI (kk := 0) rfl rfl (by decide) rfl ?_
    rw [show am_up (am_up (am_up H 34 n x) 35 n y) 36 n z 33 0 = n from h0]
    refine st_iconst rfl ?_
    refine st_iadd rfl (by omega) ?_
    refine st_putI (kk := 0) rfl rfl rfl rfl ?_
    refine st_aload_n rfl rfl (by decide) ?_
    refine st_getI (kk := 0) rfl rfl (by decide) rfl ?_
    rw [show am_up (am_up (am_up (am_up H 34 n x) 35 n y) 36 n z) 33 0 (n + 1) 33 0 = n + 1 by rw [am_up_eq, am_uf_eq]]
    refine st_iret rfl (fun z => by first | exact absurd z (by decide) | exact bi_01 _ | decide | omega) ?_
    exact ⟨am_ri (by first | rw [if_pos (by omega)] | rw [if_neg (by omega)]), by first | rw [if_pos (by omega)] | rw [if_neg (by omega)]⟩
  · refine st_iconst rfl ?_
    refine st_iret rfl (fun z => by first | exact absurd z (by decide) | exact bi_01 _ | decide | omega) ?_
    exact ⟨am_ri (by first | rw [if_pos (by omega)] | rw [if_neg (by omega)]), by first | rw [if_pos (by omega)] | rw [if_neg (by omega)]⟩
theorem r_Growths_isOf {d N : Nat} {P : am_P} {H : am_H} {g m : Int} {a : Int → Int} (hP : PZ P) (hI : Inv a) (hM : RM H 10 a) (hG : RG H 10 a) (hg : 0 ≤ g ∧ g < a 4) (hm : 0 ≤ m ∧ m < a 1) : am_R (d + 4) 153 [am_r 33, am_i (g), am_i (m), am_r 11] (N, P, H) (some (am_i (bi (cmpF a (a (10374 + 3 * g)) m 0 ≤ 0 ∧ cmpF a m (a (10374 + 3 * g + 1)) 0 ≤ 0)))) (N, P, H) := by
  refine am_en1 (d := d + 3) (ml := 4) (ls := [_, _, _, _]) cq_Growths_isOf rfl (Nat.le_of_ble_eq_true rfl) rfl ?_
  have hn := hI.n
  have g0 : H 33 0 = a 4 := hG.1
  have g1 : ∀ g, 0 ≤ g → g < a 4 → H 34 g = a (10374 + 3 * g) ∧ H 35 g = a (10374 + 3 * g + 1) ∧ H 36 g = a (10374 + 3 * g + 2) := hG.2
  have hgg := hI.g.2 g hg.1 hg.2
  have gg := g1 g hg.1 hg.2
  have hng := cmp_neg (a := a) (x := m) (y := a (10374 + 3 * g)) (w := 0)
  refine st_aload_n rfl rfl (by decide) ?_
  refine st_iload_n rfl rfl ?_
  refine st_aload_n rfl rfl (by decide) ?_
  refine st_getR (kk := 1) rfl rfl rfl (pz_33_1 hP) rfl ?_
  refine st_iload_n rfl rfl ?_
  refine st_iaload rfl rfl (by omega) (by omega) ?_
  rw [gg.1]
  refine st_iconst rfl ?_
  refine st_cv1 (w := []) rfl rfl rfl (Nat.le_of_ble_eq_true rfl) (Nat.le_of_ble_eq_true rfl) rfl rfl (r_Marks_compare hP hI hM hm hgg.1 (Or.inl rfl)) ?_
  refine st_if_lt rfl (fun h8 => ?_) (fun h8 => ?_)
  · refine st_iconst rfl ?_
    refine st_iret rfl (fun z => by first | exact absurd z (by decide) | exact bi_01 _ | decide | omega) ?_
    exact ⟨am_ri (by first | rfl | exact bi_iff (by omega) | exact (bi_t (by omega)).symm | exact (bi_f (by omega)).symm), rfl⟩
  · refine st_aload_n rfl rfl (by decide) ?_
    refine st_iload_n rfl rfl ?_
    refine st_aload_n rfl rfl (by decide) ?_
    refine st_getR (kk := 2) rfl rfl rfl (pz_33_2 hP) rfl ?_
    refine st_iload_n rfl rfl ?_
    refine st_iaload rfl rfl (by omega) (by omega) ?_
    rw [gg.2.1]
    refine st_iconst rfl ?_
    refine st_cv1 (w := []) rfl rfl rfl (Nat.le_of_ble_eq_true rfl) (Nat.le_of_ble_eq_true rfl) rfl rfl (r_Marks_compare hP hI hM hm hgg.2.1 (Or.inl rfl)) ?_
    refine st_if_gt rfl (fun h17 => ?_) (fun h17 => ?_)
    · refine st_iconst rfl ?_
      refine st_iret rfl (fun z => by first | exact absurd z (by decide) | exact bi_01 _ | decide | omega) ?_
      exact ⟨am_ri (by first | rfl | exact bi_iff (by omega) | exact (bi_t (by omega)).symm | exact (bi_f (by omega)).symm), rfl⟩
    · refine st_iconst rfl ?_
      refine st_goto rfl ?_
      refine st_iret rfl (fun z => by first | exact absurd z (by decide) | exact bi_01 _ | decide | omega) ?_
      exact ⟨am_ri (by first | rfl | exact bi_iff (by omega) | exact (bi_t (by omega)).symm | exact (bi_f (by omega)).symm), rfl⟩
theorem RG.so {H : am_H} {a : Int → Int} {o : Nat} {f : Int → Int} (h : RG H 10 a) (ho : o < 33 ∨ 36 < o) : RG (am_so H o f) 10 a := by
  have e : ∀ k, 33 ≤ k → k ≤ 36 → am_so H o f k = H k := fun k _ _ => am_so_ne _ _ (by omega)
  exact ⟨by rw [e _ (by decide) (by decide)]; exact h.1, fun g g0 g1 => by rw [e (10 + 24) (by decide) (by decide), e (10 + 25) (by decide) (by decide), e (10 + 26) (by decide) (by decide)]; exact h.2 g g0 g1⟩
theorem gr_s (a : Int → Int) (g s : Int) (b : Nat) : grL a g s (b + 1) = grL a g s b + bi (isGr a g s (b : Int)) := rfl

theorem l3_count {d N : Nat} {P : am_P} {H : am_H} {a : Int → Int} {Q : Option am_V → am_S → Prop} (hP : PZ P) (hI : Inv a) (hM : RM H 10 a) (hT : RT H 10 a) (hG : RG H 10 a) {g : Nat} (hg : (g : Int) < a 4) (hx : ∀ X Y w5, ((∀ q, 0 ≤ q → q < ((g : Int) + 1) → X q = grF a q (-1)) ∧ (∀ q s, 0 ≤ q → q < ((g : Int) + 1) → 0 ≤ s → s < 16 → Y (q * 16 + s) = grF a q s)) → am_WP (am_R (d + 4)) cd_Growths_countBooks Q 79 [some (am_r 33), some (am_r 11), some (am_r 14), some (am_i (g : Int)), (some (am_i (a 3))), w5] [] (N, P, am_so (am_so H 37 X) 38 Y)) : ∀ b : Nat, b ≤ (a 3).toNat → ∀ (X Y : Int → Int) w5, ((∀ q, 0 ≤ q → q < (g : Int) → X q = grF a q (-1)) ∧ (∀ q s, 0 ≤ q → q < (g : Int) → 0 ≤ s → s < 16 → Y (q * 16 + s) = grF a q s)) → X (g : Int) = grL a (g : Int) (-1) b → (∀ s, 0 ≤ s → s < 16 → Y ((g : Int) * 16 + s) = grL a (g : Int) s b) → am_WP (am_R (d + 4)) cd_Growths_countBooks Q 32 [some (am_r 33), some (am_r 11), some (am_r 14), some (am_i (g : Int)), some (am_i (b : Int)), w5] [] (N, P, am_so (am_so H 37 X) 38 Y) := by
  have hn := hI.n
  have hMx : ∀ X Y : Int → Int, RM (am_so (am_so H 37 X) 38 Y) 10 a := fun X Y => RM.so (RM.so hM (by decide)) (by decide)
  have hTx : ∀ X Y : Int → Int, RT (am_so (am_so H 37 X) 38 Y) 10 a := fun X Y => RT.so (RT.so hT (by decide)) (by decide)
  have hGx : ∀ X Y : Int → Int, RG (am_so (am_so H 37 X) 38 Y) 10 a := fun X Y => RG.so (RG.so hG (by decide)) (by decide)
  have e33 : ∀ X Y : Int → Int, am_so (am_so H 37 X) 38 Y 33 0 = a 4 := fun X Y => hG.1
  have e14 : ∀ X Y : Int → Int, am_so (am_so H 37 X) 38 Y 14 4 = a 3 := fun X Y => hT.2.1
  have e140 : ∀ X Y : Int → Int, am_so (am_so H 37 X) 38 Y 14 0 = a 2 := fun X Y => hT.1
  have tb := hT.2.2.2.2
  have e22 : ∀ (X Y : Int → Int) (x : Int), 0 ≤ x → x < a 3 → am_so (am_so H 37 X) 38 Y 22 x = bkF a x 4 := fun X Y x x0 x1 => (tb x x0 x1).2.2.2.2.1
  have e19 : ∀ (X Y : Int → Int) (x : Int), 0 ≤ x → x < a 3 → am_so (am_so H 37 X) 38 Y 19 x = bkF a x 1 := fun X Y x x0 x1 => (tb x x0 x1).2.1
  have e37 : ∀ X Y : Int → Int, am_so (am_so H 37 X) 38 Y 37 = X := fun X Y => by rw [am_so_ne _ _ (by decide), am_so_at]
  have e38 : ∀ X Y : Int → Int, am_so (am_so H 37 X) 38 Y 38 = Y := fun X Y => am_so_at _ _ _
  refine up_ind (n := (a 3).toNat) ?_ ?_
  · intro X Y w5 hk hX hY
    have hb3 : (((a 3).toNat : Nat) : Int) = a 3 := by omega
    rw [hb3]
    refine st_iload rfl rfl ?_
    refine st_aload_n rfl rfl (by decide) ?_
    refine st_getI (kk := 4) rfl rfl (by decide) rfl ?_
    rw [e14]
    refine st_icmp_ge rfl (fun h35 => ?_) (fun h35 => (by exfalso; omega))
    refine hx X Y w5 ⟨fun q q0 q1 => ?_, fun q s q0 q1 s0 s1 => ?_⟩
    · by_cases hq : q = (g : Int)
      · rw [hq, hX]; rfl
      · exact hk.1 q q0 (by omega)
    · by_cases hq : q = (g : Int)
      · rw [hq, hY s s0 s1]; rfl
      · exact hk.2 q s q0 (by omega) s0 s1
  · intro b hb ih X Y w5 hk hX hY
    have hbb : (b : Int) < a 3 := by omega
    have hB := hI.b.2 (b : Int) (by omega) hbb
    have hB4 := hB.2.2.2.1
    have hgr := grL_r a (g : Int) (-1) b
    have hgm := g
    refine st_iload rfl rfl ?_
    refine st_aload_n rfl rfl (by decide) ?_
    refine st_getI (kk := 4) rfl rfl (by decide) rfl ?_
    rw [e14]
    refine st_icmp_ge rfl (fun h35 => (by exfalso; omega)) (fun h35 => ?_)
    refine st_iload rfl rfl ?_
    refine st_sipush rfl ?_
    refine st_icmp_ge rfl (fun h38 => (by exfalso; omega)) (fun h38 => ?_)
    refine st_aload_n rfl rfl (by decide) ?_
    refine st_getR (kk := 9) rfl rfl rfl (pz_14_9 hP) rfl ?_
    refine st_iload rfl rfl ?_
    refine st_iaload rfl rfl (by omega) (by omega) ?_
    rw [e22 _ _ _ (by omega) hbb]
    refine st_istore (ls' := [_, _, _, _, _, _]) rfl (Nat.le_of_ble_eq_true rfl) rfl ?_
    refine st_aload_n rfl rfl (by decide) ?_
    refine st_iload rfl rfl ?_
    refine st_cv1 (w := []) rfl rfl rfl (Nat.le_of_ble_eq_true rfl) (Nat.le_of_ble_eq_true rfl) rfl rfl (r_Stacks_hasShelf hP (e140 X Y)) ?_
    refine st_if_eq_b rfl (fun h47 => ?_) (fun h47 => ?_)
    · refine st_iinc (ls' := [_, _, _, _, _, _]) rfl rfl (by omega) rfl ?_
      refine st_goto rfl ?_
      first
      | (
        refine ih X Y _ hk ?_ (fun s s0 s1 => ?_)
        · rw [gr_s, bi_f (by omega), Int.add_zero]; exact hX
        · rw [gr_s, bi_f (by omega), Int.add_zero]; exact hY s s0 s1)
      | (
        rw [am_up2b]
        refine ih _ _ _ ⟨fun q q0 q1 => ?_, fun q s q0 q1 s0 s1 => ?_⟩ ?_ (fun s s0 s1 => ?_)
        · rw [am_uf_ne _ _ (by omega)]; exact hk.1 q q0 q1
        · rw [am_uf_ne _ _ (by omega)]; exact hk.2 q s q0 q1 s0 s1
        · rw [am_uf_eq, hX, gr_s, bi_t (by omega)]
        · by_cases hs : s = bkF a (b : Int) 4
          · rw [hs, am_uf_eq, hY _ (by omega) (by omega), gr_s, bi_t (by omega)]
          · rw [am_uf_ne _ _ (by omega), hY s s0 s1, gr_s, bi_f (by omega), Int.add_zero])
    · refine st_aload_n rfl rfl (by decide) ?_
      refine st_iload_n rfl rfl ?_
      refine st_aload_n rfl rfl (by decide) ?_
      refine st_getR (kk := 6) rfl rfl rfl (pz_14_6 hP) rfl ?_
      refine st_iload rfl rfl ?_
      refine st_iaload rfl rfl (by omega) (by omega) ?_
      rw [e19 _ _ _ (by omega) hbb]
      refine st_aload_n rfl rfl (by decide) ?_
      refine st_cv1 (w := []) rfl rfl rfl (Nat.le_of_ble_eq_true rfl) (Nat.le_of_ble_eq_true rfl) rfl rfl (r_Growths_isOf hP hI (hMx X Y) (hGx X Y) ⟨by omega, hg⟩ hB.2.1) ?_
      refine st_if_eq_b rfl (fun h56 => ?_) (fun h56 => ?_)
      · refine st_iinc (ls' := [_, _, _, _, _, _]) rfl rfl (by omega) rfl ?_
        refine st_goto rfl ?_
        first
        | (
          refine ih X Y _ hk ?_ (fun s s0 s1 => ?_)
          · rw [gr_s, bi_f (by omega), Int.add_zero]; exact hX
          · rw [gr_s, bi_f (by omega), Int.add_zero]; exact hY s s0 s1)
        | (
          rw [am_up2b]
          refine ih _ _ _ ⟨fun q q0 q1 => ?_, fun q s q0 q1 s0 s1 => ?_⟩ ?_ (fun s s0 s1 => ?_)
          · rw [am_uf_ne _ _ (by omega)]; exact hk.1 q q0 q1
          · rw [am_uf_ne _ _ (by omega)]; exact hk.2 q s q0 q1 s0 s1
          · rw [am_uf_eq, hX, gr_s, bi_t (by omega)]
          · by_cases hs : s = bkF a (b : Int) 4
            · rw [hs, am_uf_eq, hY _ (by omega) (by omega), gr_s, bi_t (by omega)]
            · rw [am_uf_ne _ _ (by omega), hY s s0 s1, gr_s, bi_f (by omega), Int.add_zero])
      · refine st_aload_n rfl rfl (by decide) ?_
        refine st_getR (kk := 4) rfl rfl rfl (pz_33_4 hP) rfl ?_
        refine st_iload_n rfl rfl ?_
        refine st_dup2 rfl rfl rfl ?_
        refine st_iaload rfl rfl (by omega) (by omega) ?_
        rw [e37]
        refine st_iconst rfl ?_
        refine st_iadd rfl (by omega) ?_
        refine st_iastore rfl rfl (by omega) (by omega) ?_
        refine st_aload_n rfl rfl (by decide) ?_
        refine st_getR (kk := 5) rfl rfl rfl (pz_33_5 hP) rfl ?_
        refine st_iload_n rfl rfl ?_
        refine st_bipush rfl ?_
        refine st_imul rfl (by omega) ?_
        refine st_iload rfl rfl ?_
        refine st_iadd rfl (by omega) ?_
        refine st_dup2 rfl rfl rfl ?_
        refine st_iaload rfl rfl (by omega) (by omega) ?_
        rw [am_up2a (by decide), e38]
        have hgs := grL_r a (g : Int) (bkF a (b : Int) 4) b
        have hYs := hY (bkF a (b : Int) 4) (by omega) (by omega)
        refine st_iconst rfl ?_
        refine st_iadd rfl (by omega) ?_
        refine st_iastore rfl rfl (by omega) (by omega) ?_
        refine st_iinc (ls' := [_, _, _, _, _, _]) rfl rfl (by omega) rfl ?_
        refine st_goto rfl ?_
        first
        | (
          refine ih X Y _ hk ?_ (fun s s0 s1 => ?_)
          · rw [gr_s, bi_f (by omega), Int.add_zero]; exact hX
          · rw [gr_s, bi_f (by omega), Int.add_zero]; exact hY s s0 s1)
        | (
          rw [am_up2b]
          refine ih _ _ _ ⟨fun q q0 q1 => ?_, fun q s q0 q1 s0 s1 => ?_⟩ ?_ (fun s s0 s1 => ?_)
          · rw [am_uf_ne _ _ (by omega)]; exact hk.1 q q0 q1
          · rw [am_uf_ne _ _ (by omega)]; exact hk.2 q s q0 q1 s0 s1
          · rw [am_uf_eq, hX, gr_s, bi_t (by omega)]
          · by_cases hs : s = bkF a (b : Int) 4
            · rw [hs, am_uf_eq, hY _ (by omega) (by omega), gr_s, bi_t (by omega)]
            · rw [am_uf_ne _ _ (by omega), hY s s0 s1, gr_s, bi_f (by omega), Int.add_zero])
theorem l2_count {d N : Nat} {P : am_P} {H : am_H} {a : Int → Int} {Q : Option am_V → am_S → Prop} (hP : PZ P) (hI : Inv a) (hM : RM H 10 a) (hT : RT H 10 a) (hG : RG H 10 a) {g : Nat} (hg : (g : Int) < a 4) {X : Int → Int} (hx : ∀ Y w5, ((∀ q, 0 ≤ q → q < (g : Int) → X q = grF a q (-1)) ∧ (∀ q s, 0 ≤ q → q < (g : Int) → 0 ≤ s → s < 16 → Y (q * 16 + s) = grF a q s)) → (∀ s, 0 ≤ s → s < 16 → Y ((g : Int) * 16 + s) = 0) → am_WP (am_R (d + 4)) cd_Growths_countBooks Q 32 [some (am_r 33), some (am_r 11), some (am_r 14), some (am_i (g : Int)), (some (am_i 0)), w5] [] (N, P, am_so (am_so H 37 X) 38 Y)) : ∀ i : Nat, i ≤ 16 → ∀ (Y : Int → Int) w5, ((∀ q, 0 ≤ q → q < (g : Int) → X q = grF a q (-1)) ∧ (∀ q s, 0 ≤ q → q < (g : Int) → 0 ≤ s → s < 16 → Y (q * 16 + s) = grF a q s)) → (∀ s, 0 ≤ s → s < (i : Int) → Y ((g : Int) * 16 + s) = 0) → am_WP (am_R (d + 4)) cd_Growths_countBooks Q 16 [some (am_r 33), some (am_r 11), some (am_r 14), some (am_i (g : Int)), some (am_i (i : Int)), w5] [] (N, P, am_so (am_so H 37 X) 38 Y) := by
  have hn := hI.n
  have hMx : ∀ X Y : Int → Int, RM (am_so (am_so H 37 X) 38 Y) 10 a := fun X Y => RM.so (RM.so hM (by decide)) (by decide)
  have hTx : ∀ X Y : Int → Int, RT (am_so (am_so H 37 X) 38 Y) 10 a := fun X Y => RT.so (RT.so hT (by decide)) (by decide)
  have hGx : ∀ X Y : Int → Int, RG (am_so (am_so H 37 X) 38 Y) 10 a := fun X Y => RG.so (RG.so hG (by decide)) (by decide)
  have e33 : ∀ X Y : Int → Int, am_so (am_so H 37 X) 38 Y 33 0 = a 4 := fun X Y => hG.1
  have e14 : ∀ X Y : Int → Int, am_so (am_so H 37 X) 38 Y 14 4 = a 3 := fun X Y => hT.2.1
  have e140 : ∀ X Y : Int → Int, am_so (am_so H 37 X) 38 Y 14 0 = a 2 := fun X Y => hT.1
  have tb := hT.2.2.2.2
  have e22 : ∀ (X Y : Int → Int) (x : Int), 0 ≤ x → x < a 3 → am_so (am_so H 37 X) 38 Y 22 x = bkF a x 4 := fun X Y x x0 x1 => (tb x x0 x1).2.2.2.2.1
  have e19 : ∀ (X Y : Int → Int) (x : Int), 0 ≤ x → x < a 3 → am_so (am_so H 37 X) 38 Y 19 x = bkF a x 1 := fun X Y x x0 x1 => (tb x x0 x1).2.1
  have e37 : ∀ X Y : Int → Int, am_so (am_so H 37 X) 38 Y 37 = X := fun X Y => by rw [am_so_ne _ _ (by decide), am_so_at]
  have e38 : ∀ X Y : Int → Int, am_so (am_so H 37 X) 38 Y 38 = Y := fun X Y => am_so_at _ _ _
  refine up_ind (n := 16) ?_ ?_
  · intro Y w5 hk hY
    refine st_iload rfl rfl ?_
    refine st_bipush rfl ?_
    refine st_icmp_ge rfl (fun h18 => ?_) (fun h18 => (by exfalso; omega))
    refine st_iconst rfl ?_
    refine st_istore (ls' := [_, _, _, _, _, _]) rfl (Nat.le_of_ble_eq_true rfl) rfl ?_
    exact hx Y w5 hk hY
  · intro i hi ih Y w5 hk hY
    refine st_iload rfl rfl ?_
    refine st_bipush rfl ?_
    refine st_icmp_ge rfl (fun h18 => (by exfalso; omega)) (fun h18 => ?_)
    refine st_aload_n rfl rfl (by decide) ?_
    refine st_getR (kk := 5) rfl rfl rfl (pz_33_5 hP) rfl ?_
    refine st_iload_n rfl rfl ?_
    refine st_bipush rfl ?_
    refine st_imul rfl (by omega) ?_
    refine st_iload rfl rfl ?_
    refine st_iadd rfl (by omega) ?_
    refine st_iconst rfl ?_
    refine st_iastore rfl rfl (by omega) (by omega) ?_
    refine st_iinc (ls' := [_, _, _, _, _, _]) rfl rfl (by omega) rfl ?_
    refine st_goto rfl ?_
    rw [am_up2b]
    refine ih _ _ ⟨hk.1, fun q s q0 q1 s0 s1 => ?_⟩ (fun s s0 s1 => ?_)
    · rw [am_uf_ne _ _ (by omega)]; exact hk.2 q s q0 q1 s0 s1
    · by_cases hs : s = (i : Int)
      · rw [hs, am_uf_eq]
      · rw [am_uf_ne _ _ (by omega)]; exact hY s s0 (by omega)
theorem l1_count {d N : Nat} {P : am_P} {H : am_H} {a : Int → Int} {Q : Option am_V → am_S → Prop} (hP : PZ P) (hI : Inv a) (hM : RM H 10 a) (hT : RT H 10 a) (hG : RG H 10 a) (hx : ∀ X Y, ((∀ q, 0 ≤ q → q < a 4 → X q = grF a q (-1)) ∧ (∀ q s, 0 ≤ q → q < a 4 → 0 ≤ s → s < 16 → Y (q * 16 + s) = grF a q s)) → Q none (N, P, am_so (am_so H 37 X) 38 Y)) : ∀ g : Nat, g ≤ (a 4).toNat → ∀ (X Y : Int → Int) w4 w5, ((∀ q, 0 ≤ q → q < (g : Int) → X q = grF a q (-1)) ∧ (∀ q s, 0 ≤ q → q < (g : Int) → 0 ≤ s → s < 16 → Y (q * 16 + s) = grF a q s)) → am_WP (am_R (d + 4)) cd_Growths_countBooks Q 2 [some (am_r 33), some (am_r 11), some (am_r 14), some (am_i (g : Int)), w4, w5] [] (N, P, am_so (am_so H 37 X) 38 Y) := by
  have hn := hI.n
  have hMx : ∀ X Y : Int → Int, RM (am_so (am_so H 37 X) 38 Y) 10 a := fun X Y => RM.so (RM.so hM (by decide)) (by decide)
  have hTx : ∀ X Y : Int → Int, RT (am_so (am_so H 37 X) 38 Y) 10 a := fun X Y => RT.so (RT.so hT (by decide)) (by decide)
  have hGx : ∀ X Y : Int → Int, RG (am_so (am_so H 37 X) 38 Y) 10 a := fun X Y => RG.so (RG.so hG (by decide)) (by decide)
  have e33 : ∀ X Y : Int → Int, am_so (am_so H 37 X) 38 Y 33 0 = a 4 := fun X Y => hG.1
  have e14 : ∀ X Y : Int → Int, am_so (am_so H 37 X) 38 Y 14 4 = a 3 := fun X Y => hT.2.1
  have e140 : ∀ X Y : Int → Int, am_so (am_so H 37 X) 38 Y 14 0 = a 2 := fun X Y => hT.1
  have tb := hT.2.2.2.2
  have e22 : ∀ (X Y : Int → Int) (x : Int), 0 ≤ x → x < a 3 → am_so (am_so H 37 X) 38 Y 22 x = bkF a x 4 := fun X Y x x0 x1 => (tb x x0 x1).2.2.2.2.1
  have e19 : ∀ (X Y : Int → Int) (x : Int), 0 ≤ x → x < a 3 → am_so (am_so H 37 X) 38 Y 19 x = bkF a x 1 := fun X Y x x0 x1 => (tb x x0 x1).2.1
  have e37 : ∀ X Y : Int → Int, am_so (am_so H 37 X) 38 Y 37 = X := fun X Y => by rw [am_so_ne _ _ (by decide), am_so_at]
  have e38 : ∀ X Y : Int → Int, am_so (am_so H 37 X) 38 Y 38 = Y := fun X Y => am_so_at _ _ _
  refine up_ind (n := (a 4).toNat) ?_ ?_
  · intro X Y w4 w5 hk
    have hb3 : (((a 4).toNat : Nat) : Int) = a 4 := by omega
    rw [hb3]
    refine st_iload_n rfl rfl ?_
    refine st_aload_n rfl rfl (by decide) ?_
    refine st_getI (kk := 0) rfl rfl (by decide) rfl ?_
    rw [e33]
    refine st_icmp_ge rfl (fun h5 => ?_) (fun h5 => (by exfalso; omega))
    refine st_ret rfl ?_
    rw [hb3] at hk
    exact hx X Y hk
  · intro g hg ih X Y w4 w5 hk
    refine st_iload_n rfl rfl ?_
    refine st_aload_n rfl rfl (by decide) ?_
    refine st_getI (kk := 0) rfl rfl (by decide) rfl ?_
    rw [e33]
    refine st_icmp_ge rfl (fun h5 => (by exfalso; omega)) (fun h5 => ?_)
    refine st_iload_n rfl rfl ?_
    refine st_bipush rfl ?_
    refine st_icmp_ge rfl (fun h8 => (by exfalso; omega)) (fun h8 => ?_)
    refine st_aload_n rfl rfl (by decide) ?_
    refine st_getR (kk := 4) rfl rfl rfl (pz_33_4 hP) rfl ?_
    refine st_iload_n rfl rfl ?_
    refine st_iconst rfl ?_
    refine st_iastore rfl rfl (by omega) (by omega) ?_
    refine st_iconst rfl ?_
    refine st_istore (ls' := [_, _, _, _, _, _]) rfl (Nat.le_of_ble_eq_true rfl) rfl ?_
    rw [am_up2a (by decide)]
    refine l2_count hP hI hM hT hG (g := g) (by omega) (fun Y w5 hk2 hz => ?_) 0 (Nat.zero_le _) Y _ ⟨fun q q0 q1 => by rw [am_uf_ne _ _ (by omega)]; exact hk.1 q q0 q1, hk.2⟩ (fun s s0 s1 => by omega)
    refine l3_count hP hI hM hT hG (g := g) (by omega) (fun X Y w5 hk3 => ?_) 0 (Nat.zero_le _) _ Y w5 hk2 (by rw [am_uf_eq]; rfl) (fun s s0 s1 => hz s s0 s1)
    refine st_iinc (ls' := [_, _, _, _, _, _]) rfl rfl (by omega) rfl ?_
    refine st_goto rfl ?_
    exact ih X Y _ _ hk3
theorem c_countBooks {d N : Nat} {P : am_P} {H : am_H} {a : Int → Int} (hP : PZ P) (hI : Inv a) (hM : RM H 10 a) (hT : RT H 10 a) (hG : RG H 10 a) : am_C (d + 5) 152 [am_r 33, am_r 11, am_r 14] (N, P, H) (fun v σ => v = none ∧ ∃ X Y : Int → Int, σ = (N, P, am_so (am_so H 37 X) 38 Y) ∧ ((∀ q, 0 ≤ q → q < a 4 → X q = grF a q (-1)) ∧ (∀ q s, 0 ≤ q → q < a 4 → 0 ≤ s → s < 16 → Y (q * 16 + s) = grF a q s))) := by
  refine am_enC (d := d + 4) (ml := 6) (ls := [_, _, _, _, _, _]) cq_Growths_countBooks rfl (Nat.le_of_ble_eq_true rfl) rfl ?_
  refine st_iconst rfl ?_
  refine st_istore_n (ls' := [_, _, _, _, _, _]) rfl (Nat.le_of_ble_eq_true rfl) rfl ?_
  have hz := l1_count (d := d) (N := N) hP hI hM hT hG (Q := fun v σ => v = none ∧ ∃ X Y : Int → Int, σ = (N, P, am_so (am_so H 37 X) 38 Y) ∧ ((∀ q, 0 ≤ q → q < a 4 → X q = grF a q (-1)) ∧ (∀ q s, 0 ≤ q → q < a 4 → 0 ≤ s → s < 16 → Y (q * 16 + s) = grF a q s))) (fun X Y hk => ⟨rfl, X, Y, rfl, hk⟩) 0 (Nat.zero_le _) (H 37) (H 38) none none ⟨fun q q0 q1 => by omega, fun q s q0 q1 => by omega⟩
  rw [am_so_self, am_so_self] at hz
  exact hz
def lsL (a : Int → Int) (s y : Int) : Nat → Int
  | 0 => 0
  | g + 1 => if 0 < grF a (g : Int) (-1) then lsL a s y g + (y * a (10374 + 3 * (g : Int) + 2) * grF a (g : Int) s + grF a (g : Int) (-1) - 1) / grF a (g : Int) (-1) else lsL a s y g
def lsF (a : Int → Int) (s y : Int) : Int := lsL a s y (a 4).toNat
theorem lsL_ri (a : Int → Int) (s y : Int) : ∀ g : Nat, riL a s y g = rmF a s - lsL a s y g
  | 0 => by simp only [riL, lsL]; omega
  | g + 1 => by
    have ih := lsL_ri a s y g
    simp only [riL, lsL]
    split <;> omega
theorem lsF_ri (a : Int → Int) (s y : Int) : riF a s y = rmF a s - lsF a s y := lsL_ri a s y _
theorem lsL_r {a : Int → Int} (hI : Inv a) {s y : Int} (h0 : 0 ≤ s) (h1 : s < a 2) (h2 : 0 ≤ y) (h3 : y ≤ 60) (j : Nat) (h : (j : Int) ≤ a 4) : -11000 ≤ lsL a s y j ∧ lsL a s y j ≤ 11000 + 13000000 * (j : Int) := by
  have := riL_r hI h0 h1 h2 h3 j h
  have := lsL_ri a s y j
  have hw := hI.s.2.1 s h0 h1
  have := rmL_r hI.bw (fun p q1 q2 => hI.th h0 h1 q1 q2) 30 (Nat.le_refl _)
  have : rmF a s = rmL a s 30 := rfl
  omega

theorem r_Growths_lossOf {d N : Nat} {P : am_P} {H : am_H} {s y : Int} {a : Int → Int} (hP : PZ P) (hI : Inv a) (hG : RG H 10 a) (hX : ∀ q, 0 ≤ q → q < a 4 → H 37 q = grF a q (-1)) (hY : ∀ q s, 0 ≤ q → q < a 4 → 0 ≤ s → s < 16 → H 38 (q * 16 + s) = grF a q s) (hs : 0 ≤ s ∧ s < a 2) (hy : 0 ≤ y ∧ y ≤ 60) : am_R (d + 1) 154 [am_r 33, am_i (s), am_i (y)] (N, P, H) (some (am_i (lsF a s y))) (N, P, H) := by
  refine am_en1 (d := d + 0) (ml := 7) (ls := [_, _, _, _, _, _, _]) cq_Growths_lossOf rfl (Nat.le_of_ble_eq_true rfl) rfl ?_
  have hn := hI.n
  have g0 : H 33 0 = a 4 := hG.1
  have g1 : ∀ g, 0 ≤ g → g < a 4 → H 34 g = a (10374 + 3 * g) ∧ H 35 g = a (10374 + 3 * g + 1) ∧ H 36 g = a (10374 + 3 * g + 2) := hG.2
  refine st_iconst rfl ?_
  refine st_istore_n (ls' := [_, _, _, _, _, _, _]) rfl (Nat.le_of_ble_eq_true rfl) rfl ?_
  refine st_iconst rfl ?_
  refine st_istore (ls' := [_, _, _, _, _, _, _]) rfl (Nat.le_of_ble_eq_true rfl) rfl ?_
  suffices hz : ∀ j, j ≤ (a 4).toNat → ∀ w1 w2, am_WP (am_R (d + 0)) cd_Growths_lossOf (fun v' s' => v' = some (am_i (lsF a s y)) ∧ s' = (N, P, H)) 4 [some (am_r 33), some (am_i s), some (am_i y), some (am_i (lsL a s y j)), some (am_i (j : Int)), w1, w2] [] (N, P, H) from hz 0 (Nat.zero_le _) _ _
  refine up_ind (n := (a 4).toNat) ?_ ?_
  · intro w1 w2
    have hb3 : (((a 4).toNat : Nat) : Int) = a 4 := by omega
    rw [hb3]
    refine st_iload rfl rfl ?_
    refine st_aload_n rfl rfl (by decide) ?_
    refine st_getI (kk := 0) rfl rfl (by decide) rfl ?_
    refine st_icmp_ge rfl (fun h7 => ?_) (fun h7 => (by exfalso; omega))
    refine st_iload_n rfl rfl ?_
    refine st_iret rfl (fun z => by first | exact absurd z (by decide) | exact bi_01 _ | decide | omega) ?_
    exact ⟨rfl, rfl⟩
  · intro j hj ih w1 w2
    have hr := lsL_r hI hs.1 hs.2 hy.1 hy.2 j (by omega)
    have hg := hI.g.2 (j : Int) (by omega) (by omega)
    have k1 := grF_r hI.b.1 (j : Int) s
    have k2 := grF_r hI.b.1 (j : Int) (-1)
    have m1 := mulb hy.1 hy.2 (by omega : 0 ≤ a (10374 + 3 * (j : Int) + 2)) hg.2.2.2
    have m2 := mulb m1.1 m1.2 k1.1 k1.2
    have d1 := fun (q : 0 < grF a (j : Int) (-1)) => Int.ediv_nonneg (a := y * a (10374 + 3 * (j : Int) + 2) * grF a (j : Int) s + grF a (j : Int) (-1) - 1) (b := grF a (j : Int) (-1)) (by omega) (by omega)
    have d2 := fun (q : 0 < grF a (j : Int) (-1)) => Int.ediv_le_self (a := y * a (10374 + 3 * (j : Int) + 2) * grF a (j : Int) s + grF a (j : Int) (-1) - 1) (grF a (j : Int) (-1)) (by omega)
    refine st_iload rfl rfl ?_
    refine st_aload_n rfl rfl (by decide) ?_
    refine st_getI (kk := 0) rfl rfl (by decide) rfl ?_
    refine st_icmp_ge rfl (fun h7 => (by exfalso; omega)) (fun h7 => ?_)
    refine st_iload rfl rfl ?_
    refine st_bipush rfl ?_
    refine st_icmp_ge rfl (fun h10 => (by exfalso; omega)) (fun h10 => ?_)
    refine st_aload_n rfl rfl (by decide) ?_
    refine st_getR (kk := 4) rfl rfl rfl (pz_33_4 hP) rfl ?_
    refine st_iload rfl rfl ?_
    refine st_iaload rfl rfl (by omega) (by omega) ?_
    rw [hX _ (by omega) (by omega)]
    refine st_istore (ls' := [_, _, _, _, _, _, _]) rfl (Nat.le_of_ble_eq_true rfl) rfl ?_
    refine st_iload rfl rfl ?_
    refine st_if_le rfl (fun h17 => ?_) (fun h17 => ?_)
    · refine st_iinc (ls' := [_, _, _, _, _, _, _]) rfl rfl (by omega) rfl ?_
      refine st_goto rfl ?_
      first
      | (rw [show lsL a s y (j + 1) = lsL a s y j by simp only [lsL]; rw [if_neg (by omega)]] at ih; exact ih _ _)
      | (rw [show lsL a s y (j + 1) = lsL a s y j + (y * a (10374 + 3 * (j : Int) + 2) * grF a (j : Int) s + grF a (j : Int) (-1) - 1) / grF a (j : Int) (-1) by simp only [lsL]; rw [if_pos (by omega)]] at ih; exact ih _ _)
    · have d1 := d1 (by omega)
      have d2 := d2 (by omega)
      refine st_iload_n rfl rfl ?_
      refine st_if_lt rfl (fun h19 => (by exfalso; omega)) (fun h19 => ?_)
      refine st_iload_n rfl rfl ?_
      refine st_bipush rfl ?_
      refine st_icmp_ge rfl (fun h22 => (by exfalso; omega)) (fun h22 => ?_)
      refine st_iload_n rfl rfl ?_
      refine st_aload_n rfl rfl (by decide) ?_
      refine st_getR (kk := 3) rfl rfl rfl (pz_33_3 hP) rfl ?_
      refine st_iload rfl rfl ?_
      refine st_iaload rfl rfl (by omega) (by omega) ?_
      rw [(g1 _ (by omega) (by omega)).2.2]
      refine st_imul rfl (by omega) ?_
      refine st_aload_n rfl rfl (by decide) ?_
      refine st_getR (kk := 5) rfl rfl rfl (pz_33_5 hP) rfl ?_
      refine st_iload rfl rfl ?_
      refine st_bipush rfl ?_
      refine st_imul rfl (by omega) ?_
      refine st_iload_n rfl rfl ?_
      refine st_iadd rfl (by omega) ?_
      refine st_iaload rfl rfl (by omega) (by omega) ?_
      rw [hY _ _ (by omega) (by omega) hs.1 (by omega)]
      refine st_imul rfl (by omega) ?_
      refine st_istore (ls' := [_, _, _, _, _, _, _]) rfl (Nat.le_of_ble_eq_true rfl) rfl ?_
      refine st_iload_n rfl rfl ?_
      refine st_iload rfl rfl ?_
      refine st_iload rfl rfl ?_
      refine st_iadd rfl (by omega) ?_
      refine st_iconst rfl ?_
      refine st_isub rfl (by omega) ?_
      refine st_iload rfl rfl ?_
      refine st_idiv rfl (by omega) (by omega) (by omega) ?_
      refine st_iadd rfl (by omega) ?_
      refine st_istore_n (ls' := [_, _, _, _, _, _, _]) rfl (Nat.le_of_ble_eq_true rfl) rfl ?_
      refine st_iinc (ls' := [_, _, _, _, _, _, _]) rfl rfl (by omega) rfl ?_
      refine st_goto rfl ?_
      first
      | (rw [show lsL a s y (j + 1) = lsL a s y j by simp only [lsL]; rw [if_neg (by omega)]] at ih; exact ih _ _)
      | (rw [show lsL a s y (j + 1) = lsL a s y j + (y * a (10374 + 3 * (j : Int) + 2) * grF a (j : Int) s + grF a (j : Int) (-1) - 1) / grF a (j : Int) (-1) by simp only [lsL]; rw [if_pos (by omega)]] at ih; exact ih _ _)
