/-! ===== the class: its calls, the rest of the readings ===== -/
theorem r_State_compare {d N : Nat} {P : am_P} {H : am_H} {x y : Int} {a : Int → Int} (hP : PZ P) (hI : Inv a) (hM : RM H 10 a) (h0 : H 10 5 = a 0) (hx : 0 ≤ x ∧ x < a 1) (hy : 0 ≤ y ∧ y < a 1) : am_R (d + 4) 229 [am_r 10, am_i (x), am_i (y)] (N, P, H) (some (am_i (cmpF a x y (a 0)))) (N, P, H) := by
  refine am_en1 (d := d + 3) (ml := 3) (ls := [_, _, _]) cq_State_compare rfl (Nat.le_of_ble_eq_true rfl) rfl ?_
  refine st_aload_n rfl rfl (by decide) ?_
  refine st_getR (kk := 0) rfl rfl rfl (pz_10_0 hP) rfl ?_
  refine st_iload_n rfl rfl ?_
  refine st_iload_n rfl rfl ?_
  refine st_aload_n rfl rfl (by decide) ?_
  refine st_getI (kk := 5) rfl rfl (by decide) rfl ?_
  rw [h0]
  refine st_cv1 (w := []) rfl rfl rfl (Nat.le_of_ble_eq_true rfl) (Nat.le_of_ble_eq_true rfl) rfl rfl (r_Marks_compare hP hI hM hx hy hI.1) ?_
  refine st_iret rfl (fun z => by first | exact absurd z (by decide) | exact bi_01 _ | decide | omega) ?_
  exact ⟨rfl, rfl⟩
theorem r_Cart_isInOrder {d N : Nat} {P : am_P} {H : am_H} {T0 : Int → Int} {a : Int → Int} (hP : PZ P) (hI : Inv a) (hM : RM H 10 a) (hR : RR H 10 a) (h0 : H 10 5 = a 0) (hh5 : 0 ≤ a 5) : am_R (d + 5) 26 [am_r 3, am_r 26] (N, P, H) (some (am_i (bi (manF a ≤ bsF a T0)))) (N, P, H) := by
  refine am_en1 (d := d + 4) (ml := 3) (ls := [_, _, _]) cq_Cart_isInOrder rfl (Nat.le_of_ble_eq_true rfl) rfl ?_
  have hn := hI.n
  have hh := hI.h
  have hh2 := hh.2.1
  have hmn : manF a = a 6 := if_neg (by omega)
  have r1 : H 26 1 = a 6 := (hR.2 hh5).1
  refine st_iconst rfl ?_
  refine st_istore_n (ls' := [_, _, _]) rfl (Nat.le_of_ble_eq_true rfl) rfl ?_
  suffices hz : ∀ j, j ≤ (a 6 - 1).toNat → (∀ i : Nat, i < j → folF a (i : Int) ((i : Int) + 1) ≤ 0) → am_WP (am_R (d + 4)) cd_Cart_isInOrder (fun v' s' => v' = some (am_i (bi (manF a ≤ bsF a T0))) ∧ s' = (N, P, H)) 2 [some (am_r 3), some (am_r 26), some (am_i ((j : Int) + 1))] [] (N, P, H) from hz 0 (Nat.zero_le _) (fun i hi => by omega)
  refine up_ind (n := (a 6 - 1).toNat) ?_ ?_
  · intro hf
    refine st_iload_n rfl rfl ?_
    refine st_aload_n rfl rfl (by decide) ?_
    refine st_getI (kk := 1) rfl rfl (by decide) rfl ?_
    rw [r1]
    refine st_icmp_ge rfl (fun h5 => ?_) (fun h5 => (by exfalso; omega))
    refine st_iconst rfl ?_
    refine st_iret rfl (fun z => by first | exact absurd z (by decide) | exact bi_01 _ | decide | omega) ?_
    refine ⟨am_ri (bi_t ?_).symm, rfl⟩
    rw [ord_to hI (T0 := T0) (fun i i0 i1 => by
      have := hf i.toNat (by omega)
      rw [show ((i.toNat : Nat) : Int) = i by omega] at this
      exact this)]
    exact Int.le_refl _
  · intro j hj ih hf
    have m1 := hh.2.2 (j : Int) (by omega) (by omega)
    have m2 := hh.2.2 ((j : Int) + 1) (by omega) (by omega)
    refine st_iload_n rfl rfl ?_
    refine st_aload_n rfl rfl (by decide) ?_
    refine st_getI (kk := 1) rfl rfl (by decide) rfl ?_
    rw [r1]
    refine st_icmp_ge rfl (fun h5 => (by exfalso; omega)) (fun h5 => ?_)
    refine st_aload_n rfl rfl (by decide) ?_
    refine st_getR (kk := 3) rfl rfl rfl (pz_3_3 hP) rfl ?_
    refine st_aload_n rfl rfl (by decide) ?_
    refine st_iload_n rfl rfl ?_
    refine st_iconst rfl ?_
    refine st_isub rfl (by omega) ?_
    rw [show (j : Int) + 1 - 1 = (j : Int) by omega]
    refine st_cv1 (w := [_]) rfl rfl rfl (Nat.le_of_ble_eq_true rfl) (Nat.le_of_ble_eq_true rfl) rfl rfl (r_Reading_markAt hP hI hR hh5) ?_
    rw [show rdA a ((j : Int)) = seeF a ((j : Int)) from if_pos ⟨by omega, by omega⟩]
    refine st_aload_n rfl rfl (by decide) ?_
    refine st_iload_n rfl rfl ?_
    refine st_cv1 (w := [_, _]) rfl rfl rfl (Nat.le_of_ble_eq_true rfl) (Nat.le_of_ble_eq_true rfl) rfl rfl (r_Reading_markAt hP hI hR hh5) ?_
    rw [show rdA a ((j : Int) + 1) = seeF a ((j : Int) + 1) from if_pos ⟨by omega, by omega⟩]
    refine st_cv1 (w := []) rfl rfl rfl (Nat.le_of_ble_eq_true rfl) (Nat.le_of_ble_eq_true rfl) rfl rfl (r_State_compare hP hI hM h0 m1 m2) ?_
    rw [show cmpF a (seeF a (j : Int)) (seeF a ((j : Int) + 1)) (a 0) = folF a (j : Int) ((j : Int) + 1) from rfl]
    refine st_if_le rfl (fun h17 => ?_) (fun h17 => ?_)
    · refine st_iinc (ls' := [_, _, _]) rfl rfl (by omega) rfl ?_
      refine st_goto rfl ?_
      rw [show (j : Int) + 1 + 1 = ((j + 1 : Nat) : Int) + 1 by omega]
      exact ih (fun i hi => by
        by_cases hij : i = j
        · rw [hij]; omega
        · exact hf i (by omega))
    · refine st_iconst rfl ?_
      refine st_iret rfl (fun z => by first | exact absurd z (by decide) | exact bi_01 _ | decide | omega) ?_
      refine ⟨am_ri (bi_f (fun z => ?_)).symm, rfl⟩
      have hbr := bsT_r (a := a) (T0 := T0) (n := manF a) (manF a).toNat (by omega)
      have hbe : bsF a T0 = bsT a T0 (manF a) (manF a).toNat := rfl
      have := (ord_of hI (T0 := T0) (by omega) (j + 1) (by omega)).2 j (by omega)
      omega
theorem c_Cart_where {d N : Nat} {P : am_P} {H : am_H} {m : Int} {T0 : Int → Int} {a : Int → Int} (hP : PZ P) (hI : Inv a) (hW : InvW a) (hS : RS H 10 a)  : am_C (d + 6) 25 [am_r 3, am_i (m)] (N, P, H) (CQ N P H (if 0 ≤ a 5 ∧ (0 ≤ m ∧ m < a 1) ∧ manF a ≤ bsF a T0 then whL a m (manF a).toNat else -1) (a)) := by
  refine am_enC (d := d + 5) (ml := 4) (ls := [_, _, _, _]) cq_Cart_where rfl (Nat.le_of_ble_eq_true rfl) rfl ?_
  have hn := hI.n
  have hM := hS.m
  have hT := hS.t
  have hR := hS.r
  have hC := hS.c
  have hG := hS.g
  have t0 : H 14 0 = a 2 := hT.1
  have t4 : H 14 4 = a 3 := hT.2.1
  have hm := man_r hI
  have hh2 := hI.h.2.1
  refine st_aload_n rfl rfl (by decide) ?_
  refine st_getR (kk := 3) rfl rfl rfl (pz_3_3 hP) rfl ?_
  refine st_getR (kk := 2) rfl rfl rfl (pz_10_2 hP) rfl ?_
  refine st_cv1 (w := []) rfl rfl rfl (Nat.le_of_ble_eq_true rfl) (Nat.le_of_ble_eq_true rfl) rfl rfl (r_Reading_isThere hP hI hR) ?_
  refine st_if_eq_b rfl (fun h4 => ?_) (fun h4 => ?_)
  · refine st_iconst rfl ?_
    refine st_iret rfl (fun z => by first | exact absurd z (by decide) | exact bi_01 _ | decide | omega) ?_
    exact ⟨am_ri (by rw [if_neg (by omega)]), H, rfl, fun _ _ => rfl, hS⟩
  · refine st_aload_n rfl rfl (by decide) ?_
    refine st_getR (kk := 3) rfl rfl rfl (pz_3_3 hP) rfl ?_
    refine st_getR (kk := 0) rfl rfl rfl (pz_10_0 hP) rfl ?_
    refine st_iload_n rfl rfl ?_
    refine st_cv1 (w := []) rfl rfl rfl (Nat.le_of_ble_eq_true rfl) (Nat.le_of_ble_eq_true rfl) rfl rfl (r_Marks_has hP hI hM) ?_
    refine st_if_eq_b rfl (fun h10 => ?_) (fun h10 => ?_)
    · refine st_iconst rfl ?_
      refine st_iret rfl (fun z => by first | exact absurd z (by decide) | exact bi_01 _ | decide | omega) ?_
      exact ⟨am_ri (by rw [if_neg (by omega)]), H, rfl, fun _ _ => rfl, hS⟩
    · refine st_aload_n rfl rfl (by decide) ?_
      refine st_aload_n rfl rfl (by decide) ?_
      refine st_getR (kk := 3) rfl rfl rfl (pz_3_3 hP) rfl ?_
      refine st_getR (kk := 2) rfl rfl rfl (pz_10_2 hP) rfl ?_
      refine st_cv1 (w := []) rfl rfl rfl (Nat.le_of_ble_eq_true rfl) (Nat.le_of_ble_eq_true rfl) rfl rfl (r_Cart_isInOrder (T0 := T0) hP hI hM hR hS.way h4) ?_
      refine st_if_ne_b rfl (fun h16 => ?_) (fun h16 => ?_)
      · have hmn : manF a = a 6 := if_neg (by omega)
        have r1 : H 26 1 = a 6 := (hR.2 h4).1
        refine st_iconst rfl ?_
        refine st_istore_n (ls' := [_, _, _, _]) rfl (Nat.le_of_ble_eq_true rfl) rfl ?_
        refine st_iconst rfl ?_
        refine st_istore_n (ls' := [_, _, _, _]) rfl (Nat.le_of_ble_eq_true rfl) rfl ?_
        suffices hz : ∀ j, j ≤ (a 6).toNat → am_WP (am_R (d + 5)) cd_Cart_where (CQ N P H (if 0 ≤ a 5 ∧ (0 ≤ m ∧ m < a 1) ∧ manF a ≤ bsF a T0 then whL a m (manF a).toNat else -1) a) 23 [some (am_r 3), some (am_i m), some (am_i (whL a m j)), some (am_i (j : Int))] [] (N, P, H) from hz 0 (Nat.zero_le _)
        refine up_ind (n := (a 6).toNat) ?_ ?_
        · refine st_iload_n rfl rfl ?_
          refine st_aload_n rfl rfl (by decide) ?_
          refine st_getR (kk := 3) rfl rfl rfl (pz_3_3 hP) rfl ?_
          refine st_getR (kk := 2) rfl rfl rfl (pz_10_2 hP) rfl ?_
          refine st_getI (kk := 1) rfl rfl (by decide) rfl ?_
          rw [r1]
          refine st_icmp_ge rfl (fun h28 => ?_) (fun h28 => (by exfalso; omega))
          refine st_iload_n rfl rfl ?_
          refine st_iret rfl (fun z => by first | exact absurd z (by decide) | exact bi_01 _ | decide | omega) ?_
          exact ⟨am_ri (by rw [if_pos ⟨h4, h10, h16⟩, hmn]), H, rfl, fun _ _ => rfl, hS⟩
        · intro j hj ih
          have m1 := hI.h.2.2 (j : Int) (by omega) (by omega)
          have hw := whL_r a m j
          have hng := cmp_neg (a := a) (x := m) (y := seeF a (j : Int)) (w := a 0)
          have hs : whL a m (j + 1) = whL a m j + bi (0 ≤ cmpF a m (seeF a (j : Int)) (a 0)) := rfl
          refine st_iload_n rfl rfl ?_
          refine st_aload_n rfl rfl (by decide) ?_
          refine st_getR (kk := 3) rfl rfl rfl (pz_3_3 hP) rfl ?_
          refine st_getR (kk := 2) rfl rfl rfl (pz_10_2 hP) rfl ?_
          refine st_getI (kk := 1) rfl rfl (by decide) rfl ?_
          rw [r1]
          refine st_icmp_ge rfl (fun h28 => (by exfalso; omega)) (fun h28 => ?_)
          refine st_aload_n rfl rfl (by decide) ?_
          refine st_getR (kk := 3) rfl rfl rfl (pz_3_3 hP) rfl ?_
          refine st_aload_n rfl rfl (by decide) ?_
          refine st_getR (kk := 3) rfl rfl rfl (pz_3_3 hP) rfl ?_
          refine st_getR (kk := 2) rfl rfl rfl (pz_10_2 hP) rfl ?_
          refine st_iload_n rfl rfl ?_
          refine st_cv1 (w := [_]) rfl rfl rfl (Nat.le_of_ble_eq_true rfl) (Nat.le_of_ble_eq_true rfl) rfl rfl (r_Reading_markAt hP hI hR h4) ?_
          rw [show rdA a ((j : Int)) = seeF a ((j : Int)) from if_pos ⟨by omega, by omega⟩]
          refine st_iload_n rfl rfl ?_
          refine st_cv1 (w := []) rfl rfl rfl (Nat.le_of_ble_eq_true rfl) (Nat.le_of_ble_eq_true rfl) rfl rfl (r_State_compare hP hI hM hS.way m1 h10) ?_
          refine st_if_gt rfl (fun h38 => ?_) (fun h38 => ?_)
          · refine st_iinc (ls' := [_, _, _, _]) rfl rfl (by omega) rfl ?_
            refine st_goto rfl ?_
            first
            | (rw [bi_t (by omega)] at hs; rw [hs] at ih; exact ih)
            | (rw [bi_f (by omega), Int.add_zero] at hs; rw [hs] at ih; exact ih)
          · refine st_iinc (ls' := [_, _, _, _]) rfl rfl (by omega) rfl ?_
            refine st_iinc (ls' := [_, _, _, _]) rfl rfl (by omega) rfl ?_
            refine st_goto rfl ?_
            first
            | (rw [bi_t (by omega)] at hs; rw [hs] at ih; exact ih)
            | (rw [bi_f (by omega), Int.add_zero] at hs; rw [hs] at ih; exact ih)
      · refine st_iconst rfl ?_
        refine st_iret rfl (fun z => by first | exact absurd z (by decide) | exact bi_01 _ | decide | omega) ?_
        exact ⟨am_ri (by rw [if_neg (by omega)]), H, rfl, fun _ _ => rfl, hS⟩
theorem c_Cart_between {d N : Nat} {P : am_P} {H : am_H} {m w : Int} {T0 : Int → Int} {a : Int → Int} (hP : PZ P) (hI : Inv a) (hW : InvW a) (hS : RS H 10 a)  : am_C (d + 7) 27 [am_r 3, am_i (m), am_i (w)] (N, P, H) (CQ N P H (if (0 ≤ a 5 ∧ (0 ≤ m ∧ m < a 1) ∧ manF a ≤ bsF a T0) ∧ (0 ≤ w ∧ w < 2) then (if 0 ≤ whL a m (manF a).toNat - (if w = 0 then 1 else 0) ∧ whL a m (manF a).toNat - (if w = 0 then 1 else 0) < manF a then seeF a (whL a m (manF a).toNat - (if w = 0 then 1 else 0)) else -1) else -1) (a)) := by
  refine am_enC (d := d + 6) (ml := 4) (ls := [_, _, _, _]) cq_Cart_between rfl (Nat.le_of_ble_eq_true rfl) rfl ?_
  have hn := hI.n
  have hM := hS.m
  have hT := hS.t
  have hR := hS.r
  have hC := hS.c
  have hG := hS.g
  have t0 : H 14 0 = a 2 := hT.1
  have t4 : H 14 4 = a 3 := hT.2.1
  have hm := man_r hI
  have hh2 := hI.h.2.1
  have hw := whL_r a m (manF a).toNat
  refine st_aload_n rfl rfl (by decide) ?_
  refine st_iload_n rfl rfl ?_
  refine st_cvC (w := []) rfl rfl rfl (Nat.le_of_ble_eq_true rfl) (Nat.le_of_ble_eq_true rfl) rfl rfl (c_Cart_where (m := m) (T0 := T0) hP hI hW hS) ?_
  rintro v σ ⟨rfl, H1, rfl, hf1, hS1⟩
  show am_WP _ _ _ _ _ [am_i (if 0 ≤ a 5 ∧ (0 ≤ m ∧ m < a 1) ∧ manF a ≤ bsF a T0 then whL a m (manF a).toNat else -1)] _
  by_cases hc : 0 ≤ a 5 ∧ (0 ≤ m ∧ m < a 1) ∧ manF a ≤ bsF a T0
  case neg =>
    rw [if_neg hc]
    refine st_istore_n (ls' := [_, _, _, _]) rfl (Nat.le_of_ble_eq_true rfl) rfl ?_
    refine st_iload_n rfl rfl ?_
    refine st_iconst rfl ?_
    refine st_icmp_eq rfl (fun h6 => ?_) (fun h6 => (by exfalso; omega))
    refine st_iconst rfl ?_
    refine st_iret rfl (fun z => by first | exact absurd z (by decide) | exact bi_01 _ | decide | omega) ?_
    exact ⟨am_ri (by rw [if_neg (fun z => hc z.1)]), H1, rfl, hf1, hS1⟩
  rw [if_pos hc]
  have hmn : manF a = a 6 := if_neg (by omega)
  refine st_istore_n (ls' := [_, _, _, _]) rfl (Nat.le_of_ble_eq_true rfl) rfl ?_
  refine st_iload_n rfl rfl ?_
  refine st_iconst rfl ?_
  refine st_icmp_eq rfl (fun h6 => (by exfalso; omega)) (fun h6 => ?_)
  refine st_iload_n rfl rfl ?_
  refine st_if_lt rfl (fun h8 => ?_) (fun h8 => ?_)
  · refine st_iconst rfl ?_
    refine st_iret rfl (fun z => by first | exact absurd z (by decide) | exact bi_01 _ | decide | omega) ?_
    exact ⟨am_ri (by rw [if_neg (fun z => by have := z.2; omega)]), H1, rfl, hf1, hS1⟩
  · refine st_iload_n rfl rfl ?_
    refine st_iconst rfl ?_
    refine st_icmp_le rfl (fun h11 => ?_) (fun h11 => ?_)
    · refine st_aload_n rfl rfl (by decide) ?_
      refine st_getR (kk := 3) rfl rfl rfl (pz_3_3 hP) rfl ?_
      refine st_getR (kk := 2) rfl rfl rfl (pz_10_2 hP) rfl ?_
      refine st_iload_n rfl rfl ?_
      refine st_if_ne rfl (fun h18 => ?_) (fun h18 => ?_)
      · refine st_iload_n rfl rfl ?_
        refine st_cv1 (w := []) rfl rfl rfl (Nat.le_of_ble_eq_true rfl) (Nat.le_of_ble_eq_true rfl) rfl rfl (r_Reading_markAt hP hI hS1.r hc.1) ?_
        refine st_iret rfl (fun z => by first | exact absurd z (by decide) | exact bi_01 _ | decide | omega) ?_
        refine ⟨am_ri ?_, H1, rfl, hf1, hS1⟩
        rw [if_pos ⟨hc, by omega⟩]
        first
        | rw [if_pos (show w = 0 by omega)]
        | rw [if_neg (show ¬ (w = 0) by omega), Int.sub_zero]
        unfold rdA
        rw [hmn]
        rfl
      · refine st_iload_n rfl rfl ?_
        refine st_iconst rfl ?_
        refine st_isub rfl (by omega) ?_
        refine st_goto rfl ?_
        refine st_cv1 (w := []) rfl rfl rfl (Nat.le_of_ble_eq_true rfl) (Nat.le_of_ble_eq_true rfl) rfl rfl (r_Reading_markAt hP hI hS1.r hc.1) ?_
        refine st_iret rfl (fun z => by first | exact absurd z (by decide) | exact bi_01 _ | decide | omega) ?_
        refine ⟨am_ri ?_, H1, rfl, hf1, hS1⟩
        rw [if_pos ⟨hc, by omega⟩]
        first
        | rw [if_pos (show w = 0 by omega)]
        | rw [if_neg (show ¬ (w = 0) by omega), Int.sub_zero]
        unfold rdA
        rw [hmn]
        rfl
    · refine st_iconst rfl ?_
      refine st_iret rfl (fun z => by first | exact absurd z (by decide) | exact bi_01 _ | decide | omega) ?_
      exact ⟨am_ri (by rw [if_neg (fun z => by have := z.2; omega)]), H1, rfl, hf1, hS1⟩
theorem RC.cgh {H H' : am_H} {a : Int → Int} (h : RC H 10 a) (hh : ∀ k, 28 ≤ k → k ≤ 32 → H' k = H k) : RC H' 10 a := by
  obtain ⟨q0, q1, q2⟩ := h
  refine ⟨by rw [hh _ (by decide) (by decide)]; exact q0, fun m m0 m1 => ?_, fun s s0 s1 => ?_⟩
  · rw [hh (10 + 19) (by decide) (by decide), hh (10 + 20) (by decide) (by decide)]; exact q1 m m0 m1
  · rw [hh (10 + 21) (by decide) (by decide), hh (10 + 22) (by decide) (by decide)]; exact q2 s s0 s1
theorem c_Cart_done {d N : Nat} {P : am_P} {H : am_H}  {a : Int → Int} (hP : PZ P) (hI : Inv a) (hW : InvW a) (hS : RS H 10 a)  : am_C (d + 6) 28 [am_r 3] (N, P, H) (CQ N P H (if 0 ≤ a 5 then goL (dn2 a) (a 5) (a 1).toNat else -1) (if 0 ≤ a 5 then dnS (dn2 a) (a 5) (a 1) else a)) := by
  refine am_enC (d := d + 5) (ml := 2) (ls := [_, _]) cq_Cart_done rfl (Nat.le_of_ble_eq_true rfl) rfl ?_
  have hn := hI.n
  have hM := hS.m
  have hT := hS.t
  have hR := hS.r
  have hC := hS.c
  have hG := hS.g
  have t0 : H 14 0 = a 2 := hT.1
  have t4 : H 14 4 = a 3 := hT.2.1
  have hh := hI.h.1
  refine st_aload_n rfl rfl (by decide) ?_
  refine st_getR (kk := 3) rfl rfl rfl (pz_3_3 hP) rfl ?_
  refine st_getR (kk := 2) rfl rfl rfl (pz_10_2 hP) rfl ?_
  refine st_cv1 (w := []) rfl rfl rfl (Nat.le_of_ble_eq_true rfl) (Nat.le_of_ble_eq_true rfl) rfl rfl (r_Reading_isThere hP hI hR) ?_
  refine st_if_ne_b rfl (fun h4 => ?_) (fun h4 => ?_)
  · refine st_aload_n rfl rfl (by decide) ?_
    refine st_getR (kk := 3) rfl rfl rfl (pz_3_3 hP) rfl ?_
    refine st_getR (kk := 2) rfl rfl rfl (pz_10_2 hP) rfl ?_
    refine st_getI (kk := 0) rfl rfl (by decide) rfl ?_
    rw [show H 26 0 = a 5 from hR.1]
    refine st_istore_n (ls' := [_, _]) rfl (Nat.le_of_ble_eq_true rfl) rfl ?_
    refine st_aload_n rfl rfl (by decide) ?_
    refine st_getR (kk := 3) rfl rfl rfl (pz_3_3 hP) rfl ?_
    refine st_getR (kk := 3) rfl rfl rfl (pz_10_3 hP) rfl ?_
    refine st_aload_n rfl rfl (by decide) ?_
    refine st_getR (kk := 3) rfl rfl rfl (pz_3_3 hP) rfl ?_
    refine st_getR (kk := 2) rfl rfl rfl (pz_10_2 hP) rfl ?_
    refine st_cvC (w := []) rfl rfl rfl (Nat.le_of_ble_eq_true rfl) (Nat.le_of_ble_eq_true rfl) rfl rfl (c_keep hP hI hR hC h4) ?_
    rintro v σ ⟨rfl, H1, rfl, hf, hC1⟩
    show am_WP _ _ _ _ _ [] _
    have hL2 := InvL_dn2 hI h4
    have hL3 : InvL (dnS (dn2 a) (a 5) 200) := InvL_dn hL2 200 (Nat.le_refl _)
    have hC2 : RC (am_up (am_up H1 26 0 (-1)) 26 1 0) 10 (dnS (dn2 a) (a 5) 200) := hC1.cgh (fun k k0 k1 => by rw [am_up_ne (by omega), am_up_ne (by omega)])
    have hrd : dn2 a (9382 + 62 * a 5) = 1 := by unfold dn2 cpF dn1; rw [am_uf_ne _ _ (by omega), if_neg (by omega), am_uf_ne _ _ (by omega), am_uf_eq]
    refine st_aload_n rfl rfl (by decide) ?_
    refine st_getR (kk := 3) rfl rfl rfl (pz_3_3 hP) rfl ?_
    refine st_getR (kk := 2) rfl rfl rfl (pz_10_2 hP) rfl ?_
    refine st_cv0 (w := []) rfl rfl rfl (Nat.le_of_ble_eq_true rfl) (Nat.le_of_ble_eq_true rfl) rfl rfl (r_Reading_end hP) ?_
    refine st_aload_n rfl rfl (by decide) ?_
    refine st_getR (kk := 3) rfl rfl rfl (pz_3_3 hP) rfl ?_
    refine st_getR (kk := 3) rfl rfl rfl (pz_10_3 hP) rfl ?_
    refine st_iload_n rfl rfl ?_
    refine st_cv1 (w := []) rfl rfl rfl (Nat.le_of_ble_eq_true rfl) (Nat.le_of_ble_eq_true rfl) rfl rfl (r_Catalogue_countGone hP hL3 hC2 (by omega) (by rw [dnS_k _ _ _ (by omega) (by omega), hrd]; omega)) ?_
    refine st_iret rfl (fun z => by first | exact absurd z (by decide) | exact bi_01 _ | decide | omega) ?_
    have hl60 := (hL2.2 (a 5) h4 (by omega)).2.1
    have e1 : dn2 a 1 = a 1 := dn2_o hI h4 (by omega) (by omega)
    refine ⟨am_ri ?_, _, rfl, fun o ho => by rw [am_up_ne (by omega), am_up_ne (by omega), hf o (by omega)], ?_⟩
    · rw [if_pos h4, goL_cg (a := dn2 a) (by omega) hl60.2 (fun k hk => dnS_k _ _ _ (by omega) (by omega)) 200 (Nat.le_refl _)]
      have := goL_ext (a := dn2 a) (s := a 5) h4 (fun m m0 m1 => (hL2.1 m (by omega) m1).2.1 m0) (by omega) (200 - (a 1).toNat) (by rw [e1]; omega)
      rw [e1, show (a 1).toNat + (200 - (a 1).toNat) = 200 by omega] at this
      exact this
    · rw [if_pos h4, ← dnS_ext hI h4]
      have hfr : ∀ k : Nat, k ≠ 26 → (k < 30 ∨ 32 < k) → am_up (am_up H1 26 0 (-1)) 26 1 0 k = H k := fun k k1 k2 => by rw [am_up_ne k1, am_up_ne k1, hf k k2]
      have e : ∀ k, k ≠ 5 → k < 8782 ∨ 10374 ≤ k → dnS (dn2 a) (a 5) 200 k = a k := fun k k1 k2 => by rw [dnS_k _ _ _ (by omega) (by omega), dn2_o hI h4 k1 (by omega)]
      have e5 : dnS (dn2 a) (a 5) 200 5 = -1 := by rw [dnS_k _ _ _ (by omega) (by omega)]; unfold dn2; rw [am_uf_eq]
      refine ⟨by rw [hfr _ (by decide) (by decide), e 0 (by omega) (by omega)]; exact hS.way, hM.cg hI (hfr _ (by decide) (by decide)) (hfr _ (by decide) (by decide)) (hfr _ (by decide) (by decide)) (e 1 (by omega) (by omega)) (fun k k0 k1 => e k (by omega) (by omega)), hT.cg hI (fun k k0 k1 => hfr _ (by omega) (by omega)) (e 2 (by omega) (by omega)) (e 3 (by omega) (by omega)) (fun k k0 k1 => e k (by omega) (by omega)), ⟨?_, fun z => ?_⟩, hC2, hG.cg hI (fun k k0 k1 => hfr _ (by omega) (by omega)) (e 4 (by omega) (by omega)) (fun k k0 k1 => e k (by omega) (by omega))⟩
      · rw [e5, show (10 + 16 : Nat) = 26 from rfl, am_up_eq, am_uf_ne _ _ (by omega), am_up_eq, am_uf_eq]
      · rw [e5] at z; omega
  · refine st_iconst rfl ?_
    refine st_iret rfl (fun z => by first | exact absurd z (by decide) | exact bi_01 _ | decide | omega) ?_
    exact ⟨am_ri (by rw [if_neg h4]), H, rfl, fun _ _ => rfl, by rw [if_neg h4]; exact hS⟩
theorem fdL_bad {a : Int → Int} {s w : Int} (hw : ¬ (0 ≤ w ∧ w < 3)) : ∀ (f : Nat) (m k : Int), fdL a s w f m k = -1
  | 0, _, _ => rfl
  | f + 1, m, k => by
    simp only [fdL]
    rw [if_neg (by unfold isS; omega)]
    exact fdL_bad hw f (m + 1) k

theorem l_Cart_found {d N : Nat} {P : am_P} {H : am_H} {s w k : Int} {a : Int → Int} {Q : Option am_V → am_S → Prop} (hP : PZ P) (hI : Inv a) (hS : RS H 10 a) (hs : 0 ≤ s ∧ s < 16) (hr : a (9382 + 62 * s) ≠ 0) : ∀ (f : Nat) (m l : Int), m + f = a 1 → 0 ≤ m → 0 ≤ l → l ≤ 2147483647 → Q (some (am_i (fdL a s w f m l))) (N, P, H) → am_WP (am_R (d + 4)) cd_Cart_found Q 20 [some (am_r 3), some (am_i s), some (am_i w), some (am_i k), some (am_i l), some (am_i m)] [] (N, P, H) := by
  have hn := hI.n
  have m0 : H 11 0 = a 1 := hS.m.1
  intro f
  induction f with
  | zero =>
    intro m l e hm hl0 hl1 hq
    refine st_iload rfl rfl ?_
    refine st_aload_n rfl rfl (by decide) ?_
    refine st_getR (kk := 3) rfl rfl rfl (pz_3_3 hP) rfl ?_
    refine st_getR (kk := 0) rfl rfl rfl (pz_10_0 hP) rfl ?_
    refine st_getI (kk := 0) rfl rfl (by decide) rfl ?_
    rw [m0]
    refine st_icmp_ge rfl (fun h25 => ?_) (fun h25 => (by exfalso; omega))
    refine st_iconst rfl ?_
    refine st_iret rfl (fun z => by first | exact absurd z (by decide) | exact bi_01 _ | decide | omega) ?_
    exact hq
  | succ f ih =>
    intro m l e hm hl0 hl1 hq
    have hs2 : fdL a s w (f + 1) m l = if isS a s w m then (if l = 0 then m else fdL a s w f (m + 1) (l - 1)) else fdL a s w f (m + 1) l := rfl
    rw [hs2] at hq
    refine st_iload rfl rfl ?_
    refine st_aload_n rfl rfl (by decide) ?_
    refine st_getR (kk := 3) rfl rfl rfl (pz_3_3 hP) rfl ?_
    refine st_getR (kk := 0) rfl rfl rfl (pz_10_0 hP) rfl ?_
    refine st_getI (kk := 0) rfl rfl (by decide) rfl ?_
    rw [m0]
    refine st_icmp_ge rfl (fun h25 => (by exfalso; omega)) (fun h25 => ?_)
    refine st_aload_n rfl rfl (by decide) ?_
    refine st_getR (kk := 3) rfl rfl rfl (pz_3_3 hP) rfl ?_
    refine st_getR (kk := 3) rfl rfl rfl (pz_10_3 hP) rfl ?_
    refine st_iload_n rfl rfl ?_
    refine st_iload_n rfl rfl ?_
    refine st_iload rfl rfl ?_
    refine st_cv1 (w := []) rfl rfl rfl (Nat.le_of_ble_eq_true rfl) (Nat.le_of_ble_eq_true rfl) rfl rfl (r_Catalogue_isSuch hP hI.l hS.c hs hr (by omega)) ?_
    refine st_if_eq_b rfl (fun h33 => ?_) (fun h33 => ?_)
    · refine st_iinc (ls' := [_, _, _, _, _, _]) rfl rfl (by omega) rfl ?_
      refine st_goto rfl ?_
      first
      | (rw [if_neg h33] at hq; exact ih (m + 1) l (by omega) (by omega) hl0 hl1 hq)
      | (rw [if_pos h33, if_neg (by omega)] at hq; exact ih (m + 1) (l - 1) (by omega) (by omega) (by omega) (by omega) hq)
    · refine st_iload rfl rfl ?_
      refine st_if_ne rfl (fun h35 => ?_) (fun h35 => ?_)
      · refine st_iinc (ls' := [_, _, _, _, _, _]) rfl rfl (by omega) rfl ?_
        refine st_iinc (ls' := [_, _, _, _, _, _]) rfl rfl (by omega) rfl ?_
        refine st_goto rfl ?_
        first
        | (rw [if_neg h33] at hq; exact ih (m + 1) l (by omega) (by omega) hl0 hl1 hq)
        | (rw [if_pos h33, if_neg (by omega)] at hq; exact ih (m + 1) (l - 1) (by omega) (by omega) (by omega) (by omega) hq)
      · refine st_iload rfl rfl ?_
        refine st_iret rfl (fun z => by first | exact absurd z (by decide) | exact bi_01 _ | decide | omega) ?_
        rw [if_pos h33, if_pos (by omega)] at hq; exact hq
theorem c_Cart_found {d N : Nat} {P : am_P} {H : am_H} {s w k : Int} {a : Int → Int} (hP : PZ P) (hI : Inv a) (hW : InvW a) (hS : RS H 10 a) (hk : k ≤ 2147483647) : am_C (d + 5) 32 [am_r 3, am_i (s), am_i (w), am_i (k)] (N, P, H) (CQ N P H (fdF a s w k) (a)) := by
  refine am_enC (d := d + 4) (ml := 6) (ls := [_, _, _, _, _, _]) cq_Cart_found rfl (Nat.le_of_ble_eq_true rfl) rfl ?_
  have hn := hI.n
  have hM := hS.m
  have hT := hS.t
  have hR := hS.r
  have hC := hS.c
  have hG := hS.g
  have t0 : H 14 0 = a 2 := hT.1
  have t4 : H 14 4 = a 3 := hT.2.1
  refine st_aload_n rfl rfl (by decide) ?_
  refine st_getR (kk := 3) rfl rfl rfl (pz_3_3 hP) rfl ?_
  refine st_getR (kk := 1) rfl rfl rfl (pz_10_1 hP) rfl ?_
  refine st_iload_n rfl rfl ?_
  refine st_cv1 (w := []) rfl rfl rfl (Nat.le_of_ble_eq_true rfl) (Nat.le_of_ble_eq_true rfl) rfl rfl (r_Stacks_hasShelf hP t0) ?_
  refine st_if_eq_b rfl (fun h5 => ?_) (fun h5 => ?_)
  · refine st_iconst rfl ?_
    refine st_iret rfl (fun z => by first | exact absurd z (by decide) | exact bi_01 _ | decide | omega) ?_
    exact ⟨am_ri (by unfold fdF; rw [if_neg (by omega)]), H, rfl, fun _ _ => rfl, hS⟩
  · refine st_aload_n rfl rfl (by decide) ?_
    refine st_getR (kk := 3) rfl rfl rfl (pz_3_3 hP) rfl ?_
    refine st_getR (kk := 3) rfl rfl rfl (pz_10_3 hP) rfl ?_
    refine st_iload_n rfl rfl ?_
    refine st_cv1 (w := []) rfl rfl rfl (Nat.le_of_ble_eq_true rfl) (Nat.le_of_ble_eq_true rfl) rfl rfl (r_Catalogue_isRead hP hI.l hC) ?_
    refine st_if_eq_b rfl (fun h11 => ?_) (fun h11 => ?_)
    · refine st_iconst rfl ?_
      refine st_iret rfl (fun z => by first | exact absurd z (by decide) | exact bi_01 _ | decide | omega) ?_
      exact ⟨am_ri (by unfold fdF; rw [if_neg (by omega)]), H, rfl, fun _ _ => rfl, hS⟩
    · refine st_iload_n rfl rfl ?_
      refine st_if_ge rfl (fun h13 => ?_) (fun h13 => ?_)
      · refine st_iload_n rfl rfl ?_
        refine st_istore (ls' := [_, _, _, _, _, _]) rfl (Nat.le_of_ble_eq_true rfl) rfl ?_
        refine st_iconst rfl ?_
        refine st_istore (ls' := [_, _, _, _, _, _]) rfl (Nat.le_of_ble_eq_true rfl) rfl ?_
        refine l_Cart_found hP hI hS (by omega) h11.2 (a 1).toNat 0 k (by omega) (by omega) (by omega) hk ⟨am_ri ?_, H, rfl, fun _ _ => rfl, hS⟩
        unfold fdF
        by_cases hw : 0 ≤ w ∧ w < 3
        · rw [if_pos ⟨h5, h11.2, hw, by omega⟩]
        · rw [if_neg (fun z => hw z.2.2.1), fdL_bad hw]
      · refine st_iconst rfl ?_
        refine st_iret rfl (fun z => by first | exact absurd z (by decide) | exact bi_01 _ | decide | omega) ?_
        exact ⟨am_ri (by unfold fdF; rw [if_neg (by omega)]), H, rfl, fun _ _ => rfl, hS⟩
theorem l_Cart_check {d N : Nat} {P : am_P} {H : am_H} {s : Int} {a : Int → Int} {Q : Option am_V → am_S → Prop} (hP : PZ P) (hI : Inv a) (hS : RS H 10 a) (hs : 0 ≤ s ∧ s < a 2) : ∀ (f : Nat) (p b : Int) w4 w5, p + f = 30 → 0 ≤ p → (b = -1 ∨ (0 ≤ b ∧ b < a 1)) → Q (some (am_i (ckL a s f p b))) (N, P, H) → am_WP (am_R (d + 4)) cd_Cart_check Q 12 [some (am_r 3), some (am_i s), some (am_i b), some (am_i p), w4, w5] [] (N, P, H) := by
  have hn := hI.n
  have hM := hS.m
  have hT := hS.t
  intro f
  induction f with
  | zero =>
    intro p b w4 w5 e hp hb hq
    refine st_iload_n rfl rfl ?_
    refine st_bipush rfl ?_
    refine st_icmp_ge rfl (fun h14 => ?_) (fun h14 => (by exfalso; omega))
    refine st_iconst rfl ?_
    refine st_iret rfl (fun z => by first | exact absurd z (by decide) | exact bi_01 _ | decide | omega) ?_
    exact hq
  | succ f ih =>
    intro p b w4 w5 e hp hb hq
    have hs2 : ckL a s (f + 1) p b = if thgF a s p < 0 then ckL a s f (p + 1) b else if 0 ≤ b ∧ cmpF a (mkF a (thgF a s p)) b (a 0) < 0 then p else ckL a s f (p + 1) (mkF a (thgF a s p)) := rfl
    rw [hs2] at hq
    have hth := hI.th hs.1 hs.2 hp (by omega : p < 30)
    have hth2 := hth
    unfold TH at hth2
    refine st_iload_n rfl rfl ?_
    refine st_bipush rfl ?_
    refine st_icmp_ge rfl (fun h14 => (by exfalso; omega)) (fun h14 => ?_)
    refine st_aload_n rfl rfl (by decide) ?_
    refine st_getR (kk := 3) rfl rfl rfl (pz_3_3 hP) rfl ?_
    refine st_getR (kk := 1) rfl rfl rfl (pz_10_1 hP) rfl ?_
    refine st_iload_n rfl rfl ?_
    refine st_iload_n rfl rfl ?_
    refine st_cv1 (w := []) rfl rfl rfl (Nat.le_of_ble_eq_true rfl) (Nat.le_of_ble_eq_true rfl) rfl rfl (r_Stacks_thingAt hP hI hT) ?_
    rw [show tgA a s p = thgF a s p from if_pos ⟨hs, by omega, by omega⟩]
    refine st_istore (ls' := [_, _, _, _, _, _]) rfl (Nat.le_of_ble_eq_true rfl) rfl ?_
    refine st_iload rfl rfl ?_
    refine st_iconst rfl ?_
    refine st_icmp_eq rfl (fun h24 => ?_) (fun h24 => ?_)
    · refine st_iinc (ls' := [_, _, _, _, _, _]) rfl rfl (by omega) rfl ?_
      refine st_goto rfl ?_
      first
      | (rw [if_pos (by omega)] at hq; exact ih (p + 1) b _ _ (by omega) (by omega) hb hq)
      | (rw [if_neg (by omega), if_neg (by omega)] at hq; exact ih (p + 1) (mkF a (thgF a s p)) _ _ (by omega) (by omega) (Or.inr hmk) hq)
    · have h00 : 0 ≤ thgF a s p := by omega
      have hbm := bo_mod hth h00 (by omega)
      have hmk := (hI.b.2 _ hbm.2.1 hbm.2.2).2.1
      have hmk : 0 ≤ mkF a (thgF a s p) ∧ mkF a (thgF a s p) < a 1 := by unfold mkF; rw [← hbm.1]; exact hmk
      refine st_aload_n rfl rfl (by decide) ?_
      refine st_getR (kk := 3) rfl rfl rfl (pz_3_3 hP) rfl ?_
      refine st_getR (kk := 1) rfl rfl rfl (pz_10_1 hP) rfl ?_
      refine st_iload rfl rfl ?_
      refine st_cv1 (w := []) rfl rfl rfl (Nat.le_of_ble_eq_true rfl) (Nat.le_of_ble_eq_true rfl) rfl rfl (r_Stacks_markOf hP hI hT hth h00) ?_
      refine st_istore (ls' := [_, _, _, _, _, _]) rfl (Nat.le_of_ble_eq_true rfl) rfl ?_
      refine st_iload_n rfl rfl ?_
      refine st_iconst rfl ?_
      refine st_icmp_eq rfl (fun h33 => ?_) (fun h33 => ?_)
      · refine st_iload rfl rfl ?_
        refine st_istore_n (ls' := [_, _, _, _, _, _]) rfl (Nat.le_of_ble_eq_true rfl) rfl ?_
        refine st_iinc (ls' := [_, _, _, _, _, _]) rfl rfl (by omega) rfl ?_
        refine st_goto rfl ?_
        first
        | (rw [if_pos (by omega)] at hq; exact ih (p + 1) b _ _ (by omega) (by omega) hb hq)
        | (rw [if_neg (by omega), if_neg (by omega)] at hq; exact ih (p + 1) (mkF a (thgF a s p)) _ _ (by omega) (by omega) (Or.inr hmk) hq)
      · refine st_aload_n rfl rfl (by decide) ?_
        refine st_getR (kk := 3) rfl rfl rfl (pz_3_3 hP) rfl ?_
        refine st_iload rfl rfl ?_
        refine st_iload_n rfl rfl ?_
        refine st_cv1 (w := []) rfl rfl rfl (Nat.le_of_ble_eq_true rfl) (Nat.le_of_ble_eq_true rfl) rfl rfl (r_State_compare hP hI hM hS.way hmk (by omega)) ?_
        refine st_if_ge rfl (fun h39 => ?_) (fun h39 => ?_)
        · refine st_iload rfl rfl ?_
          refine st_istore_n (ls' := [_, _, _, _, _, _]) rfl (Nat.le_of_ble_eq_true rfl) rfl ?_
          refine st_iinc (ls' := [_, _, _, _, _, _]) rfl rfl (by omega) rfl ?_
          refine st_goto rfl ?_
          first
          | (rw [if_pos (by omega)] at hq; exact ih (p + 1) b _ _ (by omega) (by omega) hb hq)
          | (rw [if_neg (by omega), if_neg (by omega)] at hq; exact ih (p + 1) (mkF a (thgF a s p)) _ _ (by omega) (by omega) (Or.inr hmk) hq)
        · refine st_iload_n rfl rfl ?_
          refine st_iret rfl (fun z => by first | exact absurd z (by decide) | exact bi_01 _ | decide | omega) ?_
          rw [if_neg (by omega), if_pos (by omega)] at hq; exact hq
theorem c_Cart_check {d N : Nat} {P : am_P} {H : am_H} {s : Int} {a : Int → Int} (hP : PZ P) (hI : Inv a) (hW : InvW a) (hS : RS H 10 a)  : am_C (d + 5) 33 [am_r 3, am_i (s)] (N, P, H) (CQ N P H (if 0 ≤ s ∧ s < a 2 then ckL a s 30 0 (-1) else -2) (a)) := by
  refine am_enC (d := d + 4) (ml := 6) (ls := [_, _, _, _, _, _]) cq_Cart_check rfl (Nat.le_of_ble_eq_true rfl) rfl ?_
  have hn := hI.n
  have hM := hS.m
  have hT := hS.t
  have hR := hS.r
  have hC := hS.c
  have hG := hS.g
  have t0 : H 14 0 = a 2 := hT.1
  have t4 : H 14 4 = a 3 := hT.2.1
  refine st_aload_n rfl rfl (by decide) ?_
  refine st_getR (kk := 3) rfl rfl rfl (pz_3_3 hP) rfl ?_
  refine st_getR (kk := 1) rfl rfl rfl (pz_10_1 hP) rfl ?_
  refine st_iload_n rfl rfl ?_
  refine st_cv1 (w := []) rfl rfl rfl (Nat.le_of_ble_eq_true rfl) (Nat.le_of_ble_eq_true rfl) rfl rfl (r_Stacks_hasShelf hP t0) ?_
  refine st_if_ne_b rfl (fun h5 => ?_) (fun h5 => ?_)
  · refine st_iconst rfl ?_
    refine st_istore_n (ls' := [_, _, _, _, _, _]) rfl (Nat.le_of_ble_eq_true rfl) rfl ?_
    refine st_iconst rfl ?_
    refine st_istore_n (ls' := [_, _, _, _, _, _]) rfl (Nat.le_of_ble_eq_true rfl) rfl ?_
    exact l_Cart_check hP hI hS h5 30 0 (-1) _ _ (by omega) (by omega) (Or.inl rfl) ⟨am_ri (by rw [if_pos h5]), H, rfl, fun _ _ => rfl, hS⟩
  · refine st_bipush rfl ?_
    refine st_iret rfl (fun z => by first | exact absurd z (by decide) | exact bi_01 _ | decide | omega) ?_
    exact ⟨am_ri (by rw [if_neg (by omega)]), H, rfl, fun _ _ => rfl, hS⟩
/-- the least 100 * year + shelf without room, or -1 -/
def isFl (a : Int → Int) (n : Int) (v : Int) : Prop := (v = -1 ∧ ∀ y s, 0 ≤ y → y ≤ 60 → 0 ≤ s → s < n → 0 ≤ riF a s y) ∨ ∃ y s, (0 ≤ y ∧ y ≤ 60) ∧ (0 ≤ s ∧ s < n) ∧ v = 100 * y + s ∧ riF a s y < 0 ∧ ∀ y' s', 0 ≤ y' → y' ≤ 60 → 0 ≤ s' → s' < n → riF a s' y' < 0 → v ≤ 100 * y' + s'
theorem isFl_u {a : Int → Int} {n v v' : Int} (h : isFl a n v) (h' : isFl a n v') : v = v' := by
  rcases h with ⟨h1, h2⟩ | ⟨y, s, g1, g2, g3, g4, g5⟩
  · rcases h' with ⟨h1', h2'⟩ | ⟨y', s', g1', g2', g3', g4', g5'⟩
    · omega
    · have := h2 y' s' g1'.1 g1'.2 g2'.1 g2'.2
      omega
  · rcases h' with ⟨h1', h2'⟩ | ⟨y', s', g1', g2', g3', g4', g5'⟩
    · have := h2' y s g1.1 g1.2 g2.1 g2.2
      omega
    · have := g5 y' s' g1'.1 g1'.2 g2'.1 g2'.2 g4'
      have := g5' y s g1.1 g1.2 g2.1 g2.2 g4
      omega
theorem flS_c {a : Int → Int} {y n : Int} : ∀ (f : Nat) (s : Int), 0 ≤ s → s + f = n → (flS a y f s = -1 ∧ ∀ s', s ≤ s' → s' < n → 0 ≤ riF a s' y) ∨ ∃ t, s ≤ t ∧ t < n ∧ flS a y f s = 100 * y + t ∧ riF a t y < 0 ∧ ∀ s', s ≤ s' → s' < t → 0 ≤ riF a s' y
  | 0, s, h0, h1 => Or.inl ⟨rfl, fun s' q0 q1 => by omega⟩
  | f + 1, s, h0, h1 => by
    have ih := flS_c (a := a) (y := y) (n := n) f (s + 1) (by omega) (by omega)
    simp only [flS]
    split
    · rename_i hz
      exact Or.inr ⟨s, by omega, by omega, rfl, hz, fun s' q0 q1 => by omega⟩
    · rename_i hz
      rcases ih with ⟨i1, i2⟩ | ⟨t, t0, t1, t2, t3, t4⟩
      · refine Or.inl ⟨i1, fun s' q0 q1 => ?_⟩
        by_cases hs : s' = s
        · rw [hs]; omega
        · exact i2 s' (by omega) q1
      · refine Or.inr ⟨t, by omega, t1, t2, t3, fun s' q0 q1 => ?_⟩
        by_cases hs : s' = s
        · rw [hs]; omega
        · exact t4 s' (by omega) q1
theorem flY_c {a : Int → Int} (h2 : 0 ≤ a 2 ∧ a 2 ≤ 16) : ∀ (f : Nat) (y : Int), 0 ≤ y → y + f = 61 → (∀ y' s', 0 ≤ y' → y' < y → 0 ≤ s' → s' < a 2 → 0 ≤ riF a s' y') → isFl a (a 2) (flY a f y)
  | 0, y, h0, h1, h => Or.inl ⟨rfl, fun y' s' q0 q1 q2 q3 => h y' s' q0 (by omega) q2 q3⟩
  | f + 1, y, h0, h1, h => by
    have hc := flS_c (a := a) (y := y) (n := a 2) (a 2).toNat 0 (by omega) (by omega)
    have hs : flY a (f + 1) y = if 0 ≤ flS a y (a 2).toNat 0 then flS a y (a 2).toNat 0 else flY a f (y + 1) := rfl
    rw [hs]
    rcases hc with ⟨c1, c2⟩ | ⟨t, t0, t1, t2, t3, t4⟩
    · rw [if_neg (by omega)]
      refine flY_c h2 f (y + 1) (by omega) (by omega) (fun y' s' q0 q1 q2 q3 => ?_)
      by_cases hy : y' = y
      · rw [hy]; exact c2 s' q2 q3
      · exact h y' s' q0 (by omega) q2 q3
    · rw [if_pos (by omega)]
      refine Or.inr ⟨y, t, by omega, by omega, t2, t3, fun y' s' q0 q1 q2 q3 q4 => ?_⟩
      by_cases hy : y' < y
      · have := h y' s' q0 hy q2 q3
        omega
      · by_cases hy2 : y' = y
        · by_cases hs2 : s' < t
          · have := t4 s' q2 hs2
            rw [hy2] at q4
            omega
          · omega
        · omega
/-- the first year without room, or -1 -/
def isFy (a : Int → Int) (s v : Int) : Prop := (v = -1 ∧ ∀ y, 0 ≤ y → y ≤ 60 → 0 ≤ riF a s y) ∨ ((0 ≤ v ∧ v ≤ 60) ∧ riF a s v < 0 ∧ ∀ y, 0 ≤ y → y < v → 0 ≤ riF a s y)
theorem isFl_s {a : Int → Int} {n v f : Int} (hn : 0 ≤ n ∧ n < 16) (h : isFl a n v) (hf : isFy a n f) : isFl a (n + 1) (if f ≠ -1 ∧ (v = -1 ∨ 100 * f + n < v) then 100 * f + n else v) := by
  rcases hf with ⟨f1, f2⟩ | ⟨f1, f2, f3⟩
  · rw [if_neg (by omega)]
    rcases h with ⟨h1, h2⟩ | ⟨y, s, g1, g2, g3, g4, g5⟩
    · refine Or.inl ⟨h1, fun y s q0 q1 q2 q3 => ?_⟩
      by_cases hs : s = n
      · rw [hs]; exact f2 y q0 q1
      · exact h2 y s q0 q1 q2 (by omega)
    · refine Or.inr ⟨y, s, g1, by omega, g3, g4, fun y' s' q0 q1 q2 q3 q4 => ?_⟩
      by_cases hs : s' = n
      · have := f2 y' q0 q1
        rw [hs] at q4
        omega
      · exact g5 y' s' q0 q1 q2 (by omega) q4
  · have key : ∀ y', 0 ≤ y' → y' ≤ 60 → riF a n y' < 0 → f ≤ y' := fun y' q0 q1 q2 => by
      by_cases hy : y' < f
      · have := f3 y' q0 hy
        omega
      · omega
    rcases h with ⟨h1, h2⟩ | ⟨y, s, g1, g2, g3, g4, g5⟩
    · rw [if_pos (by omega)]
      refine Or.inr ⟨f, n, f1, by omega, rfl, f2, fun y' s' q0 q1 q2 q3 q4 => ?_⟩
      by_cases hs : s' = n
      · rw [hs] at q4
        have := key y' q0 q1 q4
        omega
      · have := h2 y' s' q0 q1 q2 (by omega)
        omega
    · by_cases hlt : 100 * f + n < v
      · rw [if_pos (by omega)]
        refine Or.inr ⟨f, n, f1, by omega, rfl, f2, fun y' s' q0 q1 q2 q3 q4 => ?_⟩
        by_cases hs : s' = n
        · rw [hs] at q4
          have := key y' q0 q1 q4
          omega
        · have := g5 y' s' q0 q1 q2 (by omega) q4
          omega
      · rw [if_neg (by omega)]
        refine Or.inr ⟨y, s, g1, by omega, g3, g4, fun y' s' q0 q1 q2 q3 q4 => ?_⟩
        by_cases hs : s' = n
        · rw [hs] at q4
          have := key y' q0 q1 q4
          omega
        · exact g5 y' s' q0 q1 q2 (by omega) q4

theorem c_firstFull {d N : Nat} {P : am_P} {H : am_H} {s : Int} {a : Int → Int} (hP : PZ P) (hI : Inv a) (hS : RS H 10 a) (hX : ∀ q, 0 ≤ q → q < a 4 → H 37 q = grF a q (-1)) (hY : ∀ q s, 0 ≤ q → q < a 4 → 0 ≤ s → s < 16 → H 38 (q * 16 + s) = grF a q s) (hs : 0 ≤ s ∧ s < a 2) : am_C (d + 5) 36 [am_r 3, am_i s] (N, P, H) (fun v σ => ∃ f, v = some (am_i f) ∧ σ = (N, P, H) ∧ isFy a s f) := by
  refine am_enC (d := d + 4) (ml := 4) (ls := [_, _, _, _]) cq_Cart_firstFullYear rfl (Nat.le_of_ble_eq_true rfl) rfl ?_
  have hn := hI.n
  refine st_aload_n rfl rfl (by decide) ?_
  refine st_getR (kk := 3) rfl rfl rfl (pz_3_3 hP) rfl ?_
  refine st_getR (kk := 1) rfl rfl rfl (pz_10_1 hP) rfl ?_
  refine st_iload_n rfl rfl ?_
  refine st_cv1 (w := []) rfl rfl rfl (Nat.le_of_ble_eq_true rfl) (Nat.le_of_ble_eq_true rfl) rfl rfl (r_Stacks_roomNow hP hI hS.t hs) ?_
  refine st_istore_n (ls' := [_, _, _, _]) rfl (Nat.le_of_ble_eq_true rfl) rfl ?_
  refine st_iconst rfl ?_
  refine st_istore_n (ls' := [_, _, _, _]) rfl (Nat.le_of_ble_eq_true rfl) rfl ?_
  suffices hz : ∀ j : Nat, j ≤ 61 → (∀ y, 0 ≤ y → y < (j : Int) → 0 ≤ riF a s y) → am_WP (am_R (d + 4)) cd_Cart_firstFullYear (fun v σ => ∃ f, v = some (am_i f) ∧ σ = (N, P, H) ∧ isFy a s f) 8 [some (am_r 3), some (am_i s), some (am_i (rmF a s)), some (am_i (j : Int))] [] (N, P, H) from hz 0 (Nat.zero_le _) (fun y y0 y1 => by omega)
  refine up_ind (n := 61) ?_ ?_
  · intro hf
    refine st_iload_n rfl rfl ?_
    refine st_bipush rfl ?_
    refine st_icmp_gt rfl (fun h10 => ?_) (fun h10 => (by exfalso; omega))
    refine st_iconst rfl ?_
    refine st_iret rfl (fun z => by first | exact absurd z (by decide) | exact bi_01 _ | decide | omega) ?_
    exact ⟨-1, rfl, rfl, Or.inl ⟨rfl, fun y y0 y1 => hf y y0 (by omega)⟩⟩
  · intro j hj ih hf
    have hri := lsF_ri a s (j : Int)
    refine st_iload_n rfl rfl ?_
    refine st_bipush rfl ?_
    refine st_icmp_gt rfl (fun h10 => (by exfalso; omega)) (fun h10 => ?_)
    refine st_iload_n rfl rfl ?_
    refine st_aload_n rfl rfl (by decide) ?_
    refine st_getR (kk := 3) rfl rfl rfl (pz_3_3 hP) rfl ?_
    refine st_getR (kk := 4) rfl rfl rfl (pz_10_4 hP) rfl ?_
    refine st_iload_n rfl rfl ?_
    refine st_iload_n rfl rfl ?_
    refine st_cv1 (w := [_]) rfl rfl rfl (Nat.le_of_ble_eq_true rfl) (Nat.le_of_ble_eq_true rfl) rfl rfl (r_Growths_lossOf hP hI hS.g hX hY hs (by omega)) ?_
    refine st_icmp_ge rfl (fun h18 => ?_) (fun h18 => ?_)
    · refine st_iinc (ls' := [_, _, _, _]) rfl rfl (by omega) rfl ?_
      refine st_goto rfl ?_
      exact ih (fun y y0 y1 => by
        by_cases hy : y = (j : Int)
        · rw [hy]; omega
        · exact hf y y0 (by omega))
    · refine st_iload_n rfl rfl ?_
      refine st_iret rfl (fun z => by first | exact absurd z (by decide) | exact bi_01 _ | decide | omega) ?_
      exact ⟨(j : Int), rfl, rfl, Or.inr ⟨by omega, by omega, hf⟩⟩
theorem c_Cart_full {d N : Nat} {P : am_P} {H : am_H}  {a : Int → Int} (hP : PZ P) (hI : Inv a) (hW : InvW a) (hS : RS H 10 a)  : am_C (d + 6) 35 [am_r 3] (N, P, H) (CQ N P H (flY a 61 0) (a)) := by
  refine am_enC (d := d + 5) (ml := 4) (ls := [_, _, _, _]) cq_Cart_full rfl (Nat.le_of_ble_eq_true rfl) rfl ?_
  have hn := hI.n
  have hM := hS.m
  have hT := hS.t
  have hR := hS.r
  have hC := hS.c
  have hG := hS.g
  have t0 : H 14 0 = a 2 := hT.1
  have t4 : H 14 4 = a 3 := hT.2.1
  refine st_aload_n rfl rfl (by decide) ?_
  refine st_getR (kk := 3) rfl rfl rfl (pz_3_3 hP) rfl ?_
  refine st_getR (kk := 4) rfl rfl rfl (pz_10_4 hP) rfl ?_
  refine st_aload_n rfl rfl (by decide) ?_
  refine st_getR (kk := 3) rfl rfl rfl (pz_3_3 hP) rfl ?_
  refine st_getR (kk := 0) rfl rfl rfl (pz_10_0 hP) rfl ?_
  refine st_aload_n rfl rfl (by decide) ?_
  refine st_getR (kk := 3) rfl rfl rfl (pz_3_3 hP) rfl ?_
  refine st_getR (kk := 1) rfl rfl rfl (pz_10_1 hP) rfl ?_
  refine st_cvC (w := []) rfl rfl rfl (Nat.le_of_ble_eq_true rfl) (Nat.le_of_ble_eq_true rfl) rfl rfl (c_countBooks hP hI hM hT hG) ?_
  rintro v σ ⟨rfl, X, Y, rfl, hX, hY⟩
  show am_WP _ _ _ _ _ [] _
  have hS1 : RS (am_so (am_so H 37 X) 38 Y) 10 a := hS.cnt hI
  refine st_iconst rfl ?_
  refine st_istore_n (ls' := [_, _, _, _]) rfl (Nat.le_of_ble_eq_true rfl) rfl ?_
  refine st_iconst rfl ?_
  refine st_istore_n (ls' := [_, _, _, _]) rfl (Nat.le_of_ble_eq_true rfl) rfl ?_
  suffices hz : ∀ j, j ≤ (a 2).toNat → ∀ (v : Int) w3, isFl a (j : Int) v → am_WP (am_R (d + 5)) cd_Cart_full (CQ N P H (flY a 61 0) a) 14 [some (am_r 3), some (am_i v), some (am_i (j : Int)), w3] [] (N, P, am_so (am_so H 37 X) 38 Y) from hz 0 (Nat.zero_le _) (-1) _ (Or.inl ⟨rfl, fun y s q0 q1 q2 q3 => by omega⟩)
  refine up_ind (n := (a 2).toNat) ?_ ?_
  · intro v w3 hv
    rw [show (((a 2).toNat : Nat) : Int) = a 2 by omega] at hv ⊢
    refine st_iload_n rfl rfl ?_
    refine st_aload_n rfl rfl (by decide) ?_
    refine st_getR (kk := 3) rfl rfl rfl (pz_3_3 hP) rfl ?_
    refine st_getR (kk := 1) rfl rfl rfl (pz_10_1 hP) rfl ?_
    refine st_getI (kk := 0) rfl rfl (by decide) rfl ?_
    rw [show (am_so (am_so H 37 X) 38 Y) 14 0 = a 2 from t0]
    refine st_icmp_ge rfl (fun h19 => ?_) (fun h19 => (by exfalso; omega))
    refine st_iload_n rfl rfl ?_
    refine st_iret rfl (fun z => by first | exact absurd z (by decide) | exact bi_01 _ | decide | omega) ?_
    exact ⟨am_ri (isFl_u hv (flY_c (by omega) 61 0 (by omega) (by omega) (fun y s q0 q1 => by omega))), _, rfl, fun o ho => by rw [am_so_ne _ _ (by omega), am_so_ne _ _ (by omega)], hS1⟩
  · intro j hj ih v w3 hv
    refine st_iload_n rfl rfl ?_
    refine st_aload_n rfl rfl (by decide) ?_
    refine st_getR (kk := 3) rfl rfl rfl (pz_3_3 hP) rfl ?_
    refine st_getR (kk := 1) rfl rfl rfl (pz_10_1 hP) rfl ?_
    refine st_getI (kk := 0) rfl rfl (by decide) rfl ?_
    rw [show (am_so (am_so H 37 X) 38 Y) 14 0 = a 2 from t0]
    refine st_icmp_ge rfl (fun h19 => (by exfalso; omega)) (fun h19 => ?_)
    refine st_aload_n rfl rfl (by decide) ?_
    refine st_iload_n rfl rfl ?_
    refine st_cvC (w := []) rfl rfl rfl (Nat.le_of_ble_eq_true rfl) (Nat.le_of_ble_eq_true rfl) rfl rfl (c_firstFull (s := (j : Int)) hP hI hS1 (fun q q0 q1 => by rw [am_so_ne _ _ (by decide), am_so_at]; exact hX q q0 q1) (fun q s q0 q1 s0 s1 => by rw [am_so_at]; exact hY q s q0 q1 s0 s1) (by omega)) ?_
    rintro v1 σ ⟨fy, rfl, rfl, hfy⟩
    show am_WP _ _ _ _ _ [am_i fy] _
    have hst := isFl_s (by omega) hv hfy
    have hfr : -1 ≤ fy ∧ fy ≤ 60 := by rcases hfy with z | z <;> omega
    refine st_istore_n (ls' := [_, _, _, _]) rfl (Nat.le_of_ble_eq_true rfl) rfl ?_
    refine st_iload_n rfl rfl ?_
    refine st_iconst rfl ?_
    refine st_icmp_eq rfl (fun h26 => ?_) (fun h26 => ?_)
    · refine st_iinc (ls' := [_, _, _, _]) rfl rfl (by omega) rfl ?_
      refine st_goto rfl ?_
      rw [show (j : Int) + 1 = ((j + 1 : Nat) : Int) by omega] at hst ⊢
      first
      | (rw [if_pos (by omega)] at hst; exact ih _ _ hst)
      | (rw [if_neg (by omega)] at hst; exact ih _ _ hst)
    · refine st_iload_n rfl rfl ?_
      refine st_iconst rfl ?_
      refine st_icmp_eq rfl (fun h29 => ?_) (fun h29 => ?_)
      · refine st_bipush rfl ?_
        refine st_iload_n rfl rfl ?_
        refine st_imul rfl (by omega) ?_
        refine st_iload_n rfl rfl ?_
        refine st_iadd rfl (by omega) ?_
        refine st_istore_n (ls' := [_, _, _, _]) rfl (Nat.le_of_ble_eq_true rfl) rfl ?_
        refine st_iinc (ls' := [_, _, _, _]) rfl rfl (by omega) rfl ?_
        refine st_goto rfl ?_
        rw [show (j : Int) + 1 = ((j + 1 : Nat) : Int) by omega] at hst ⊢
        first
        | (rw [if_pos (by omega)] at hst; exact ih _ _ hst)
        | (rw [if_neg (by omega)] at hst; exact ih _ _ hst)
      · refine st_bipush rfl ?_
        refine st_iload_n rfl rfl ?_
        refine st_imul rfl (by omega) ?_
        refine st_iload_n rfl rfl ?_
        refine st_iadd rfl (by omega) ?_
        refine st_iload_n rfl rfl ?_
        refine st_icmp_ge rfl (fun h36 => ?_) (fun h36 => ?_)
        · refine st_iinc (ls' := [_, _, _, _]) rfl rfl (by omega) rfl ?_
          refine st_goto rfl ?_
          rw [show (j : Int) + 1 = ((j + 1 : Nat) : Int) by omega] at hst ⊢
          first
          | (rw [if_pos (by omega)] at hst; exact ih _ _ hst)
          | (rw [if_neg (by omega)] at hst; exact ih _ _ hst)
        · refine st_bipush rfl ?_
          refine st_iload_n rfl rfl ?_
          refine st_imul rfl (by omega) ?_
          refine st_iload_n rfl rfl ?_
          refine st_iadd rfl (by omega) ?_
          refine st_istore_n (ls' := [_, _, _, _]) rfl (Nat.le_of_ble_eq_true rfl) rfl ?_
          refine st_iinc (ls' := [_, _, _, _]) rfl rfl (by omega) rfl ?_
          refine st_goto rfl ?_
          rw [show (j : Int) + 1 = ((j + 1 : Nat) : Int) by omega] at hst ⊢
          first
          | (rw [if_pos (by omega)] at hst; exact ih _ _ hst)
          | (rw [if_neg (by omega)] at hst; exact ih _ _ hst)
theorem RT.cgh {H H' : am_H} {a : Int → Int} (h : RT H 10 a) (hh : ∀ k, 14 ≤ k → k ≤ 25 → H' k = H k) : RT H' 10 a := by
  obtain ⟨q0, q1, q2, q3, q4⟩ := h
  refine ⟨by rw [hh _ (by decide) (by decide)]; exact q0, by rw [hh _ (by decide) (by decide)]; exact q1, fun s s0 s1 => ?_, fun s p s0 s1 p0 p1 => ?_, fun x x0 x1 => ?_⟩
  · rw [hh (10 + 5) (by decide) (by decide), hh (10 + 6) (by decide) (by decide)]; exact q2 s s0 s1
  · rw [hh (10 + 7) (by decide) (by decide)]; exact q3 s p s0 s1 p0 p1
  · rw [hh (10 + 8) (by decide) (by decide), hh (10 + 9) (by decide) (by decide), hh (10 + 10) (by decide) (by decide), hh (10 + 11) (by decide) (by decide), hh (10 + 12) (by decide) (by decide), hh (10 + 13) (by decide) (by decide), hh (10 + 14) (by decide) (by decide), hh (10 + 15) (by decide) (by decide)]; exact q4 x x0 x1

theorem c_Cart_run {d N : Nat} {P : am_P} {H : am_H} {s w : Int} {a : Int → Int} (hP : PZ P) (hI : Inv a) (hW : InvW a) (hS : RS H 10 a)  : am_C (d + 4) 19 [am_r 3, am_i (s), am_i (w)] (N, P, H) (CQ N P H (bi (0 ≤ s ∧ s < a 2)) (if 0 ≤ s ∧ s < a 2 then rnF a s w else a)) := by
  refine am_enC (d := d + 3) (ml := 5) (ls := [_, _, _, _, _]) cq_Cart_run rfl (Nat.le_of_ble_eq_true rfl) rfl ?_
  have hn := hI.n
  have hM := hS.m
  have hT := hS.t
  have hR := hS.r
  have hC := hS.c
  have hG := hS.g
  have t0 : H 14 0 = a 2 := hT.1
  have t4 : H 14 4 = a 3 := hT.2.1
  refine st_aload_n rfl rfl (by decide) ?_
  refine st_getR (kk := 3) rfl rfl rfl (pz_3_3 hP) rfl ?_
  refine st_getR (kk := 1) rfl rfl rfl (pz_10_1 hP) rfl ?_
  refine st_iload_n rfl rfl ?_
  refine st_cv1 (w := []) rfl rfl rfl (Nat.le_of_ble_eq_true rfl) (Nat.le_of_ble_eq_true rfl) rfl rfl (r_Stacks_hasShelf hP t0) ?_
  refine st_if_ne_b rfl (fun h5 => ?_) (fun h5 => ?_)
  · refine st_aload_n rfl rfl (by decide) ?_
    refine st_getR (kk := 3) rfl rfl rfl (pz_3_3 hP) rfl ?_
    refine st_getR (kk := 2) rfl rfl rfl (pz_10_2 hP) rfl ?_
    refine st_iload_n rfl rfl ?_
    refine st_cv0 (w := []) rfl rfl rfl (Nat.le_of_ble_eq_true rfl) (Nat.le_of_ble_eq_true rfl) rfl rfl (r_Reading_begin hP) ?_
    refine st_iconst rfl ?_
    refine st_istore_n (ls' := [_, _, _, _, _]) rfl (Nat.le_of_ble_eq_true rfl) rfl ?_
    by_cases hw : w = 0
    case pos =>
      subst hw
      refine st_iload_n rfl rfl ?_
      refine st_if_eq rfl (fun h16 => ?_) (fun h16 => (by exfalso; omega))
      refine st_iconst rfl ?_
      refine st_iret rfl (fun z => by first | exact absurd z (by decide) | exact bi_01 _ | decide | omega) ?_
      refine ⟨am_ri (bi_t h5).symm, _, rfl, fun o ho => by rw [am_up_ne (by omega), am_up_ne (by omega)], ?_⟩
      rw [if_pos h5, show rnF a s 0 = am_uf (am_uf a 5 s) 6 0 from if_pos rfl]
      refine RS_hd hI hS (by rw [am_up_ne (by decide), am_up_ne (by decide), am_uf_ne _ _ (by omega), am_uf_ne _ _ (by omega)]; exact hS.way) (fun k hk => by rw [am_up_ne (by omega), am_up_ne (by omega)]) ⟨?_, fun _ => ⟨?_, fun k k0 k1 => ?_⟩⟩ (fun k hk => by rw [am_uf_ne _ _ (by omega), am_uf_ne _ _ (by omega)])
      · rw [show (10 + 16 : Nat) = 26 from rfl, am_up_eq, am_uf_ne _ _ (by omega), am_up_eq, am_uf_eq, am_uf_ne _ _ (by omega), am_uf_eq]
      · rw [show (10 + 16 : Nat) = 26 from rfl, am_up_eq, am_uf_eq, am_uf_eq]
      · rw [am_uf_eq] at k1; omega
    suffices hz : ∀ j, j ≤ 30 → ∀ (H' : am_H) w4, (∀ o, o ≠ 26 → o ≠ 27 → H' o = H o) → H' 26 0 = s → H' 26 1 = (rnL a s j).1 → (∀ k, 0 ≤ k → k < (rnL a s j).1 → H' 27 k = (rnL a s j).2 (7 + k)) → am_WP (am_R (d + 3)) cd_Cart_run (CQ N P H (bi (0 ≤ s ∧ s < a 2)) (if 0 ≤ s ∧ s < a 2 then rnF a s w else a)) 15 [some (am_r 3), some (am_i s), some (am_i w), some (am_i (j : Int)), w4] [] (N, P, H') from hz 0 (Nat.zero_le _) _ _ (fun o o1 o2 => by rw [am_up_ne o1, am_up_ne o1]) (by rw [am_up_eq, am_uf_ne _ _ (by omega), am_up_eq, am_uf_eq]) (by rw [am_up_eq, am_uf_eq]; rfl) (fun k k0 k1 => by have : k < 0 := k1; omega)
    refine up_ind (n := 30) ?_ ?_
    · intro H' w4 hf q0 q1 q2
      refine st_iload_n rfl rfl ?_
      refine st_if_eq rfl (fun h16 => (by exfalso; omega)) (fun h16 => ?_)
      refine st_iload_n rfl rfl ?_
      refine st_bipush rfl ?_
      refine st_icmp_ge rfl (fun h19 => ?_) (fun h19 => (by exfalso; omega))
      refine st_iconst rfl ?_
      refine st_iret rfl (fun z => by first | exact absurd z (by decide) | exact bi_01 _ | decide | omega) ?_
      have hr := rnL_r a s 30
      refine ⟨am_ri (bi_t h5).symm, H', rfl, fun o ho => hf o (by omega) (by omega), ?_⟩
      rw [if_pos h5, show rnF a s w = am_uf (rnL a s 30).2 6 (rnL a s 30).1 from if_neg hw]
      refine RS_hd hI hS (by rw [hf _ (by decide) (by decide), am_uf_ne _ _ (by omega), rnL_o a s (by omega) 30 (Nat.le_refl _)]; exact hS.way) (fun k hk => hf k (by omega) (by omega)) ⟨?_, fun _ => ⟨?_, fun k k0 k1 => ?_⟩⟩ (fun k hk => by rw [am_uf_ne _ _ (by omega), rnL_o a s (by omega) 30 (Nat.le_refl _)])
      · rw [am_uf_ne _ _ (by omega), rnL_5]; exact q0
      · rw [am_uf_eq]; exact q1
      · rw [am_uf_eq] at k1
        rw [am_uf_ne _ _ (by omega)]
        exact q2 k k0 k1
    · intro j hj ih H' w4 hf q0 q1 q2
      have hr := rnL_r a s j
      have hT' : RT H' 10 a := hT.cgh (fun k k0 k1 => hf k (by omega) (by omega))
      have hth := hI.th h5.1 h5.2 (p := (j : Int)) (by omega) (by omega)
      have hth2 := hth
      unfold TH at hth2
      have hsp : rnL a s (j + 1) = if thgF a s (j : Int) < 0 then rnL a s j else ((rnL a s j).1 + 1, am_uf (rnL a s j).2 (7 + (rnL a s j).1) (mkF a (thgF a s (j : Int)))) := rfl
      refine st_iload_n rfl rfl ?_
      refine st_if_eq rfl (fun h16 => (by exfalso; omega)) (fun h16 => ?_)
      refine st_iload_n rfl rfl ?_
      refine st_bipush rfl ?_
      refine st_icmp_ge rfl (fun h19 => (by exfalso; omega)) (fun h19 => ?_)
      refine st_aload_n rfl rfl (by decide) ?_
      refine st_getR (kk := 3) rfl rfl rfl (pz_3_3 hP) rfl ?_
      refine st_getR (kk := 1) rfl rfl rfl (pz_10_1 hP) rfl ?_
      refine st_iload_n rfl rfl ?_
      refine st_iload_n rfl rfl ?_
      refine st_cv1 (w := []) rfl rfl rfl (Nat.le_of_ble_eq_true rfl) (Nat.le_of_ble_eq_true rfl) rfl rfl (r_Stacks_thingAt hP hI hT') ?_
      rw [show tgA a s (j : Int) = thgF a s (j : Int) from if_pos ⟨h5, by omega, by omega⟩]
      refine st_istore (ls' := [_, _, _, _, _]) rfl (Nat.le_of_ble_eq_true rfl) rfl ?_
      refine st_iload rfl rfl ?_
      refine st_iconst rfl ?_
      refine st_icmp_eq rfl (fun h29 => ?_) (fun h29 => ?_)
      · refine st_iinc (ls' := [_, _, _, _, _]) rfl rfl (by omega) rfl ?_
        refine st_goto rfl ?_
        first
        | (rw [if_pos (by omega)] at hsp
           rw [hsp] at ih
           exact ih H' _ hf q0 q1 q2)
        | (rw [if_neg (by omega)] at hsp
           rw [hsp] at ih
           refine ih _ _ (fun o o1 o2 => by rw [am_up_ne o1, am_up_ne o2, hf o o1 o2]) ?_ ?_ (fun k k0 k1 => ?_)
           · rw [am_up_eq, am_uf_ne _ _ (by omega), am_up_ne (by decide)]; exact q0
           · rw [am_up_eq, am_uf_eq]
           · rw [am_up_ne (by decide), am_up_eq]
             have k1 : k < (rnL a s j).1 + 1 := k1
             show am_uf _ _ _ _ = am_uf _ _ _ _
             by_cases hk : k = (rnL a s j).1
             · rw [hk, am_uf_eq, am_uf_eq]
             · rw [am_uf_ne _ _ hk, am_uf_ne _ _ (by omega)]
               exact q2 k k0 (by omega))
      · refine st_aload_n rfl rfl (by decide) ?_
        refine st_getR (kk := 3) rfl rfl rfl (pz_3_3 hP) rfl ?_
        refine st_getR (kk := 2) rfl rfl rfl (pz_10_2 hP) rfl ?_
        refine st_aload_n rfl rfl (by decide) ?_
        refine st_getR (kk := 3) rfl rfl rfl (pz_3_3 hP) rfl ?_
        refine st_getR (kk := 1) rfl rfl rfl (pz_10_1 hP) rfl ?_
        refine st_iload rfl rfl ?_
        refine st_cv1 (w := [_]) rfl rfl rfl (Nat.le_of_ble_eq_true rfl) (Nat.le_of_ble_eq_true rfl) rfl rfl (r_Stacks_markOf hP hI hT' hth (by omega)) ?_
        refine st_cv1 (w := []) rfl rfl rfl (Nat.le_of_ble_eq_true rfl) (Nat.le_of_ble_eq_true rfl) rfl rfl (r_Reading_add hP q1 (by omega)) ?_
        rw [if_pos (show (rnL a s j).1 < 60 by omega)]
        refine st_pop rfl rfl ?_
        refine st_iinc (ls' := [_, _, _, _, _]) rfl rfl (by omega) rfl ?_
        refine st_goto rfl ?_
        first
        | (rw [if_pos (by omega)] at hsp
           rw [hsp] at ih
           exact ih H' _ hf q0 q1 q2)
        | (rw [if_neg (by omega)] at hsp
           rw [hsp] at ih
           refine ih _ _ (fun o o1 o2 => by rw [am_up_ne o1, am_up_ne o2, hf o o1 o2]) ?_ ?_ (fun k k0 k1 => ?_)
           · rw [am_up_eq, am_uf_ne _ _ (by omega), am_up_ne (by decide)]; exact q0
           · rw [am_up_eq, am_uf_eq]
           · rw [am_up_ne (by decide), am_up_eq]
             have k1 : k < (rnL a s j).1 + 1 := k1
             show am_uf _ _ _ _ = am_uf _ _ _ _
             by_cases hk : k = (rnL a s j).1
             · rw [hk, am_uf_eq, am_uf_eq]
             · rw [am_uf_ne _ _ hk, am_uf_ne _ _ (by omega)]
               exact q2 k k0 (by omega))
  · refine st_iconst rfl ?_
    refine st_iret rfl (fun z => by first | exact absurd z (by decide) | exact bi_01 _ | decide | omega) ?_
    exact ⟨am_ri (bi_f (by omega)).symm, H, rfl, fun _ _ => rfl, by rw [if_neg (by omega)]; exact hS⟩
