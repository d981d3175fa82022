/-! ===== the class: its calls ===== -/
/-- what a call leaves that changes the state alone -/
def CQ (N : Nat) (P : am_P) (H : am_H) (v0 : Int) (A : Int → Int) (v : Option am_V) (σ : am_S) : Prop := v = some (am_i v0) ∧ ∃ H' : am_H, σ = (N, P, H') ∧ (∀ o, o < 10 ∨ 42 < o → H' o = H o) ∧ RS H' 10 A
theorem RS.way {H : am_H} {b : Nat} {a : Int → Int} (h : RS H b a) : H b 5 = a 0 := h.1
theorem RS.m {H : am_H} {b : Nat} {a : Int → Int} (h : RS H b a) : RM H b a := h.2.1
theorem RS.t {H : am_H} {b : Nat} {a : Int → Int} (h : RS H b a) : RT H b a := h.2.2.1
theorem RS.r {H : am_H} {b : Nat} {a : Int → Int} (h : RS H b a) : RR H b a := h.2.2.2.1
theorem RS.c {H : am_H} {b : Nat} {a : Int → Int} (h : RS H b a) : RC H b a := h.2.2.2.2.1
theorem RS.g {H : am_H} {b : Nat} {a : Int → Int} (h : RS H b a) : RG H b a := h.2.2.2.2.2

theorem c_Cart_count {d N : Nat} {P : am_P} {H : am_H} {w : Int} {a : Int → Int} (hP : PZ P) (hI : Inv a) (hW : InvW a) (hS : RS H 10 a)  : am_C (d + 2) 5 [am_r 3, am_i (w)] (N, P, H) (CQ N P H (cotF a w) (a)) := by
  refine am_enC (d := d + 1) (ml := 2) (ls := [_, _]) cq_Cart_count rfl (Nat.le_of_ble_eq_true rfl) rfl ?_
  have hn := hI.n
  have hM := hS.m
  have hT := hS.t
  have hR := hS.r
  have hC := hS.c
  have hG := hS.g
  have t0 : H 14 0 = a 2 := hT.1
  have t4 : H 14 4 = a 3 := hT.2.1
  refine st_iload_n rfl rfl ?_
  by_cases h1_0 : w = 0
  · refine st_swC (c := 0) rfl h1_0 (t := 2) (by decide +kernel) ?_
    refine st_aload_n rfl rfl (by decide) ?_
    refine st_getR (kk := 3) rfl rfl rfl (pz_3_3 hP) rfl ?_
    refine st_getR (kk := 0) rfl rfl rfl (pz_10_0 hP) rfl ?_
    refine st_getI (kk := 0) rfl rfl (by decide) rfl ?_
    refine st_iret rfl (fun z => by first | exact absurd z (by decide) | exact bi_01 _ | decide | omega) ?_
    exact ⟨am_ri (by rw [h1_0]; exact hM.1), H, rfl, fun _ _ => rfl, hS⟩
  by_cases h1_1 : w = 1
  · refine st_swC (c := 1) rfl h1_1 (t := 7) (by decide +kernel) ?_
    refine st_aload_n rfl rfl (by decide) ?_
    refine st_getR (kk := 3) rfl rfl rfl (pz_3_3 hP) rfl ?_
    refine st_getR (kk := 1) rfl rfl rfl (pz_10_1 hP) rfl ?_
    refine st_getI (kk := 0) rfl rfl (by decide) rfl ?_
    refine st_iret rfl (fun z => by first | exact absurd z (by decide) | exact bi_01 _ | decide | omega) ?_
    exact ⟨am_ri (by rw [h1_1]; exact t0), H, rfl, fun _ _ => rfl, hS⟩
  by_cases h1_2 : w = 2
  · refine st_swC (c := 2) rfl h1_2 (t := 12) (by decide +kernel) ?_
    refine st_aload_n rfl rfl (by decide) ?_
    refine st_getR (kk := 3) rfl rfl rfl (pz_3_3 hP) rfl ?_
    refine st_getR (kk := 1) rfl rfl rfl (pz_10_1 hP) rfl ?_
    refine st_getI (kk := 4) rfl rfl (by decide) rfl ?_
    refine st_iret rfl (fun z => by first | exact absurd z (by decide) | exact bi_01 _ | decide | omega) ?_
    exact ⟨am_ri (by rw [h1_2]; exact t4), H, rfl, fun _ _ => rfl, hS⟩
  by_cases h1_3 : w = 3
  · refine st_swC (c := 3) rfl h1_3 (t := 17) (by decide +kernel) ?_
    refine st_aload_n rfl rfl (by decide) ?_
    refine st_getR (kk := 3) rfl rfl rfl (pz_3_3 hP) rfl ?_
    refine st_getR (kk := 3) rfl rfl rfl (pz_10_3 hP) rfl ?_
    refine st_getI (kk := 0) rfl rfl (by decide) rfl ?_
    refine st_iret rfl (fun z => by first | exact absurd z (by decide) | exact bi_01 _ | decide | omega) ?_
    exact ⟨am_ri (by rw [h1_3]; exact hC.1), H, rfl, fun _ _ => rfl, hS⟩
  by_cases h1_4 : w = 4
  · refine st_swC (c := 4) rfl h1_4 (t := 22) (by decide +kernel) ?_
    refine st_aload_n rfl rfl (by decide) ?_
    refine st_getR (kk := 3) rfl rfl rfl (pz_3_3 hP) rfl ?_
    refine st_getR (kk := 4) rfl rfl rfl (pz_10_4 hP) rfl ?_
    refine st_getI (kk := 0) rfl rfl (by decide) rfl ?_
    refine st_iret rfl (fun z => by first | exact absurd z (by decide) | exact bi_01 _ | decide | omega) ?_
    exact ⟨am_ri (by rw [h1_4]; exact hG.1), H, rfl, fun _ _ => rfl, hS⟩
  by_cases h1_5 : w = 5
  · refine st_swC (c := 5) rfl h1_5 (t := 27) (by decide +kernel) ?_
    refine st_aload_n rfl rfl (by decide) ?_
    refine st_getR (kk := 3) rfl rfl rfl (pz_3_3 hP) rfl ?_
    refine st_getR (kk := 2) rfl rfl rfl (pz_10_2 hP) rfl ?_
    refine st_cv1 (w := []) rfl rfl rfl (Nat.le_of_ble_eq_true rfl) (Nat.le_of_ble_eq_true rfl) rfl rfl (r_Reading_isThere hP hI hR) ?_
    refine st_if_eq_b rfl (fun h31 => ?_) (fun h31 => ?_)
    · refine st_iconst rfl ?_
      refine st_iret rfl (fun z => by first | exact absurd z (by decide) | exact bi_01 _ | decide | omega) ?_
      exact ⟨am_ri (by rw [h1_5]; show _ = (if a 5 < 0 then -1 else a 6); first | (rw [if_neg (by omega)]; exact (hR.2 (by omega)).1) | rw [if_pos (by omega)]), H, rfl, fun _ _ => rfl, hS⟩
    · refine st_aload_n rfl rfl (by decide) ?_
      refine st_getR (kk := 3) rfl rfl rfl (pz_3_3 hP) rfl ?_
      refine st_getR (kk := 2) rfl rfl rfl (pz_10_2 hP) rfl ?_
      refine st_getI (kk := 1) rfl rfl (by decide) rfl ?_
      refine st_goto rfl ?_
      refine st_iret rfl (fun z => by first | exact absurd z (by decide) | exact bi_01 _ | decide | omega) ?_
      exact ⟨am_ri (by rw [h1_5]; show _ = (if a 5 < 0 then -1 else a 6); first | (rw [if_neg (by omega)]; exact (hR.2 (by omega)).1) | rw [if_pos (by omega)]), H, rfl, fun _ _ => rfl, hS⟩
  by_cases h1_6 : w = 6
  · refine st_swC (c := 6) rfl h1_6 (t := 39) (by decide +kernel) ?_
    refine st_aload_n rfl rfl (by decide) ?_
    refine st_getR (kk := 3) rfl rfl rfl (pz_3_3 hP) rfl ?_
    refine st_getR (kk := 2) rfl rfl rfl (pz_10_2 hP) rfl ?_
    refine st_getI (kk := 0) rfl rfl (by decide) rfl ?_
    refine st_iret rfl (fun z => by first | exact absurd z (by decide) | exact bi_01 _ | decide | omega) ?_
    exact ⟨am_ri (by rw [h1_6]; exact hR.1), H, rfl, fun _ _ => rfl, hS⟩
  by_cases h1_7 : w = 7
  · refine st_swC (c := 7) rfl h1_7 (t := 44) (by decide +kernel) ?_
    refine st_aload_n rfl rfl (by decide) ?_
    refine st_getR (kk := 3) rfl rfl rfl (pz_3_3 hP) rfl ?_
    refine st_getI (kk := 5) rfl rfl (by decide) rfl ?_
    refine st_iret rfl (fun z => by first | exact absurd z (by decide) | exact bi_01 _ | decide | omega) ?_
    exact ⟨am_ri (by rw [h1_7]; exact hS.1), H, rfl, fun _ _ => rfl, hS⟩
  refine st_swD rfl (by omega) (t := 48) (by decide +kernel) ?_
  refine st_iconst rfl ?_
  refine st_iret rfl (fun z => by first | exact absurd z (by decide) | exact bi_01 _ | decide | omega) ?_
  exact ⟨am_ri (by unfold cotF; rw [if_neg (show ¬ (w = 0) by omega), if_neg (show ¬ (w = 1) by omega), if_neg (show ¬ (w = 2) by omega), if_neg (show ¬ (w = 3) by omega), if_neg (show ¬ (w = 4) by omega), if_neg (show ¬ (w = 5) by omega), if_neg (show ¬ (w = 6) by omega), if_neg (show ¬ (w = 7) by omega)]), H, rfl, fun _ _ => rfl, hS⟩
theorem c_Cart_part {d N : Nat} {P : am_P} {H : am_H} {m k w : Int} {a : Int → Int} (hP : PZ P) (hI : Inv a) (hW : InvW a) (hS : RS H 10 a)  : am_C (d + 3) 6 [am_r 3, am_i (m), am_i (k), am_i (w)] (N, P, H) (CQ N P H (if (0 ≤ m ∧ m < a 1) ∧ (0 ≤ k ∧ k < lenF a m) ∧ 0 ≤ w ∧ w < 4 then prtF a m k w else -1) (a)) := by
  refine am_enC (d := d + 2) (ml := 6) (ls := [_, _, _, _, _, _]) cq_Cart_part rfl (Nat.le_of_ble_eq_true rfl) rfl ?_
  have hn := hI.n
  have hM := hS.m
  have hT := hS.t
  have hR := hS.r
  have hC := hS.c
  have hG := hS.g
  have t0 : H 14 0 = a 2 := hT.1
  have t4 : H 14 4 = a 3 := hT.2.1
  refine st_aload_n rfl rfl (by decide) ?_
  refine st_getR (kk := 3) rfl rfl rfl (pz_3_3 hP) rfl ?_
  refine st_getR (kk := 0) rfl rfl rfl (pz_10_0 hP) rfl ?_
  refine st_iload_n rfl rfl ?_
  refine st_cv1 (w := []) rfl rfl rfl (Nat.le_of_ble_eq_true rfl) (Nat.le_of_ble_eq_true rfl) rfl rfl (r_Marks_has hP hI hM) ?_
  refine st_if_eq_b rfl (fun h5 => ?_) (fun h5 => ?_)
  · refine st_iconst rfl ?_
    refine st_iret rfl (fun z => by first | exact absurd z (by decide) | exact bi_01 _ | decide | omega) ?_
    exact ⟨am_ri (by rw [if_neg (by omega)]), H, rfl, fun _ _ => rfl, hS⟩
  · refine st_iload_n rfl rfl ?_
    refine st_if_lt rfl (fun h7 => ?_) (fun h7 => ?_)
    · refine st_iconst rfl ?_
      refine st_iret rfl (fun z => by first | exact absurd z (by decide) | exact bi_01 _ | decide | omega) ?_
      exact ⟨am_ri (by rw [if_neg (by omega)]), H, rfl, fun _ _ => rfl, hS⟩
    · refine st_iload_n rfl rfl ?_
      refine st_aload_n rfl rfl (by decide) ?_
      refine st_getR (kk := 3) rfl rfl rfl (pz_3_3 hP) rfl ?_
      refine st_getR (kk := 0) rfl rfl rfl (pz_10_0 hP) rfl ?_
      refine st_iload_n rfl rfl ?_
      refine st_cv1 (w := [_]) rfl rfl rfl (Nat.le_of_ble_eq_true rfl) (Nat.le_of_ble_eq_true rfl) rfl rfl (r_Marks_lengthOf hP hI hM) ?_
      rw [lnA_p h5.1 h5.2]
      refine st_icmp_lt rfl (fun h14 => ?_) (fun h14 => ?_)
      · have hpv := ((hI.mv h5.1 h5.2).2.2 k (by omega) (by omega)).pk
        refine st_aload_n rfl rfl (by decide) ?_
        refine st_getR (kk := 3) rfl rfl rfl (pz_3_3 hP) rfl ?_
        refine st_getR (kk := 0) rfl rfl rfl (pz_10_0 hP) rfl ?_
        refine st_iload_n rfl rfl ?_
        refine st_iload_n rfl rfl ?_
        refine st_cv1 (w := []) rfl rfl rfl (Nat.le_of_ble_eq_true rfl) (Nat.le_of_ble_eq_true rfl) rfl rfl (r_Marks_partOf hP hI hM h5 (by omega)) ?_
        refine st_lstore (ls' := [_, _, _, _, _, _]) rfl (Nat.le_of_ble_eq_true rfl) rfl ?_
        refine st_iload_n rfl rfl ?_
        by_cases h25_0 : w = 0
        · refine st_swC (c := 0) rfl h25_0 (t := 26) (by decide +kernel) ?_
          refine st_lload rfl rfl ?_
          refine st_cs1 (w := []) rfl (by decide) (by decide) (by decide) (Nat.le_of_ble_eq_true rfl) (Nat.le_of_ble_eq_true rfl) rfl rfl (r_Part_kindOf hpv) ?_
          refine st_iret rfl (fun z => by first | exact absurd z (by decide) | exact bi_01 _ | decide | omega) ?_
          exact ⟨am_ri (by rw [if_pos (by omega), h25_0]), H, rfl, fun _ _ => rfl, hS⟩
        by_cases h25_1 : w = 1
        · refine st_swC (c := 1) rfl h25_1 (t := 29) (by decide +kernel) ?_
          refine st_lload rfl rfl ?_
          refine st_cs1 (w := []) rfl (by decide) (by decide) (by decide) (Nat.le_of_ble_eq_true rfl) (Nat.le_of_ble_eq_true rfl) rfl rfl (r_Part_valueOf hpv) ?_
          refine st_iret rfl (fun z => by first | exact absurd z (by decide) | exact bi_01 _ | decide | omega) ?_
          exact ⟨am_ri (by rw [if_pos (by omega), h25_1]), H, rfl, fun _ _ => rfl, hS⟩
        by_cases h25_2 : w = 2
        · refine st_swC (c := 2) rfl h25_2 (t := 32) (by decide +kernel) ?_
          refine st_lload rfl rfl ?_
          refine st_cs1 (w := []) rfl (by decide) (by decide) (by decide) (Nat.le_of_ble_eq_true rfl) (Nat.le_of_ble_eq_true rfl) rfl rfl (r_Part_digitsOf hpv) ?_
          refine st_iret rfl (fun z => by first | exact absurd z (by decide) | exact bi_01 _ | decide | omega) ?_
          exact ⟨am_ri (by rw [if_pos (by omega), h25_2]), H, rfl, fun _ _ => rfl, hS⟩
        by_cases h25_3 : w = 3
        · refine st_swC (c := 3) rfl h25_3 (t := 35) (by decide +kernel) ?_
          refine st_lload rfl rfl ?_
          refine st_cs1 (w := []) rfl (by decide) (by decide) (by decide) (Nat.le_of_ble_eq_true rfl) (Nat.le_of_ble_eq_true rfl) rfl rfl (r_Part_placesOf hpv) ?_
          refine st_iret rfl (fun z => by first | exact absurd z (by decide) | exact bi_01 _ | decide | omega) ?_
          exact ⟨am_ri (by rw [if_pos (by omega), h25_3]), H, rfl, fun _ _ => rfl, hS⟩
        refine st_swD rfl (by omega) (t := 38) (by decide +kernel) ?_
        refine st_iconst rfl ?_
        refine st_iret rfl (fun z => by first | exact absurd z (by decide) | exact bi_01 _ | decide | omega) ?_
        exact ⟨am_ri (by rw [if_neg (by omega)]), H, rfl, fun _ _ => rfl, hS⟩
      · refine st_iconst rfl ?_
        refine st_iret rfl (fun z => by first | exact absurd z (by decide) | exact bi_01 _ | decide | omega) ?_
        exact ⟨am_ri (by rw [if_neg (by omega)]), H, rfl, fun _ _ => rfl, hS⟩
theorem c_Cart_sorts {d N : Nat} {P : am_P} {H : am_H} {x y : Int} {a : Int → Int} (hP : PZ P) (hI : Inv a) (hW : InvW a) (hS : RS H 10 a)  : am_C (d + 4) 10 [am_r 3, am_i (x), am_i (y)] (N, P, H) (CQ N P H (if (0 ≤ x ∧ x < a 1) ∧ 0 ≤ y ∧ y < a 1 then cmpF a x y (a 0) else -2) (a)) := by
  refine am_enC (d := d + 3) (ml := 3) (ls := [_, _, _]) cq_Cart_sorts rfl (Nat.le_of_ble_eq_true rfl) rfl ?_
  have hn := hI.n
  have hM := hS.m
  have hT := hS.t
  have hR := hS.r
  have hC := hS.c
  have hG := hS.g
  have t0 : H 14 0 = a 2 := hT.1
  have t4 : H 14 4 = a 3 := hT.2.1
  refine st_aload_n rfl rfl (by decide) ?_
  refine st_getR (kk := 3) rfl rfl rfl (pz_3_3 hP) rfl ?_
  refine st_getR (kk := 0) rfl rfl rfl (pz_10_0 hP) rfl ?_
  refine st_iload_n rfl rfl ?_
  refine st_cv1 (w := []) rfl rfl rfl (Nat.le_of_ble_eq_true rfl) (Nat.le_of_ble_eq_true rfl) rfl rfl (r_Marks_has hP hI hM) ?_
  refine st_if_eq_b rfl (fun h5 => ?_) (fun h5 => ?_)
  · refine st_bipush rfl ?_
    refine st_iret rfl (fun z => by first | exact absurd z (by decide) | exact bi_01 _ | decide | omega) ?_
    exact ⟨am_ri (by rw [if_neg (by omega)]), H, rfl, fun _ _ => rfl, hS⟩
  · refine st_aload_n rfl rfl (by decide) ?_
    refine st_getR (kk := 3) rfl rfl rfl (pz_3_3 hP) rfl ?_
    refine st_getR (kk := 0) rfl rfl rfl (pz_10_0 hP) rfl ?_
    refine st_iload_n rfl rfl ?_
    refine st_cv1 (w := []) rfl rfl rfl (Nat.le_of_ble_eq_true rfl) (Nat.le_of_ble_eq_true rfl) rfl rfl (r_Marks_has hP hI hM) ?_
    refine st_if_ne_b rfl (fun h11 => ?_) (fun h11 => ?_)
    · refine st_aload_n rfl rfl (by decide) ?_
      refine st_getR (kk := 3) rfl rfl rfl (pz_3_3 hP) rfl ?_
      refine st_getR (kk := 0) rfl rfl rfl (pz_10_0 hP) rfl ?_
      refine st_iload_n rfl rfl ?_
      refine st_iload_n rfl rfl ?_
      refine st_aload_n rfl rfl (by decide) ?_
      refine st_getR (kk := 3) rfl rfl rfl (pz_3_3 hP) rfl ?_
      refine st_getI (kk := 5) rfl rfl (by decide) rfl ?_
      rw [hS.way]
      refine st_cv1 (w := []) rfl rfl rfl (Nat.le_of_ble_eq_true rfl) (Nat.le_of_ble_eq_true rfl) rfl rfl (r_Marks_compare hP hI hM h5 h11 hI.1) ?_
      refine st_iret rfl (fun z => by first | exact absurd z (by decide) | exact bi_01 _ | decide | omega) ?_
      exact ⟨am_ri (by rw [if_pos ⟨h5, h11⟩]), H, rfl, fun _ _ => rfl, hS⟩
    · refine st_bipush rfl ?_
      refine st_iret rfl (fun z => by first | exact absurd z (by decide) | exact bi_01 _ | decide | omega) ?_
      exact ⟨am_ri (by rw [if_neg (by omega)]), H, rfl, fun _ _ => rfl, hS⟩
theorem c_Cart_tell {d N : Nat} {P : am_P} {H : am_H} {b w : Int} {a : Int → Int} (hP : PZ P) (hI : Inv a) (hW : InvW a) (hS : RS H 10 a)  : am_C (d + 2) 16 [am_r 3, am_i (b), am_i (w)] (N, P, H) (CQ N P H (if (0 ≤ b ∧ b < a 3) ∧ 0 ≤ w ∧ w < 8 then bkF a b w else -1) (a)) := by
  refine am_enC (d := d + 1) (ml := 4) (ls := [_, _, _, _]) cq_Cart_tell rfl (Nat.le_of_ble_eq_true rfl) rfl ?_
  have hn := hI.n
  have hM := hS.m
  have hT := hS.t
  have hR := hS.r
  have hC := hS.c
  have hG := hS.g
  have t0 : H 14 0 = a 2 := hT.1
  have t4 : H 14 4 = a 3 := hT.2.1
  have tb := hT.2.2.2.2
  refine st_aload_n rfl rfl (by decide) ?_
  refine st_getR (kk := 3) rfl rfl rfl (pz_3_3 hP) rfl ?_
  refine st_getR (kk := 1) rfl rfl rfl (pz_10_1 hP) rfl ?_
  refine st_astore_n (ls' := [_, _, _, _]) rfl (by decide) (Nat.le_of_ble_eq_true rfl) rfl ?_
  refine st_aload_n rfl rfl (by decide) ?_
  refine st_iload_n rfl rfl ?_
  refine st_cv1 (w := []) rfl rfl rfl (Nat.le_of_ble_eq_true rfl) (Nat.le_of_ble_eq_true rfl) rfl rfl (r_Stacks_hasBook hP t4) ?_
  refine st_if_ne_b rfl (fun h7 => ?_) (fun h7 => ?_)
  · refine st_iload_n rfl rfl ?_
    by_cases h11_0 : w = 0
    · refine st_swC (c := 0) rfl h11_0 (t := 12) (by decide +kernel) ?_
      refine st_aload_n rfl rfl (by decide) ?_
      refine st_getR (kk := 5) rfl rfl rfl (pz_14_5 hP) rfl ?_
      refine st_iload_n rfl rfl ?_
      refine st_iaload rfl rfl (by omega) (by omega) ?_
      refine st_iret rfl (fun z => by first | exact absurd z (by decide) | exact bi_01 _ | decide | omega) ?_
      exact ⟨am_ri (by rw [if_pos (by omega), h11_0]; exact (tb b h7.1 h7.2).1), H, rfl, fun _ _ => rfl, hS⟩
    by_cases h11_1 : w = 1
    · refine st_swC (c := 1) rfl h11_1 (t := 17) (by decide +kernel) ?_
      refine st_aload_n rfl rfl (by decide) ?_
      refine st_getR (kk := 6) rfl rfl rfl (pz_14_6 hP) rfl ?_
      refine st_iload_n rfl rfl ?_
      refine st_iaload rfl rfl (by omega) (by omega) ?_
      refine st_iret rfl (fun z => by first | exact absurd z (by decide) | exact bi_01 _ | decide | omega) ?_
      exact ⟨am_ri (by rw [if_pos (by omega), h11_1]; exact (tb b h7.1 h7.2).2.1), H, rfl, fun _ _ => rfl, hS⟩
    by_cases h11_2 : w = 2
    · refine st_swC (c := 2) rfl h11_2 (t := 22) (by decide +kernel) ?_
      refine st_aload_n rfl rfl (by decide) ?_
      refine st_getR (kk := 7) rfl rfl rfl (pz_14_7 hP) rfl ?_
      refine st_iload_n rfl rfl ?_
      refine st_iaload rfl rfl (by omega) (by omega) ?_
      refine st_iret rfl (fun z => by first | exact absurd z (by decide) | exact bi_01 _ | decide | omega) ?_
      exact ⟨am_ri (by rw [if_pos (by omega), h11_2]; exact (tb b h7.1 h7.2).2.2.1), H, rfl, fun _ _ => rfl, hS⟩
    by_cases h11_3 : w = 3
    · refine st_swC (c := 3) rfl h11_3 (t := 27) (by decide +kernel) ?_
      refine st_aload_n rfl rfl (by decide) ?_
      refine st_getR (kk := 8) rfl rfl rfl (pz_14_8 hP) rfl ?_
      refine st_iload_n rfl rfl ?_
      refine st_iaload rfl rfl (by omega) (by omega) ?_
      refine st_iret rfl (fun z => by first | exact absurd z (by decide) | exact bi_01 _ | decide | omega) ?_
      exact ⟨am_ri (by rw [if_pos (by omega), h11_3]; exact (tb b h7.1 h7.2).2.2.2.1), H, rfl, fun _ _ => rfl, hS⟩
    by_cases h11_4 : w = 4
    · refine st_swC (c := 4) rfl h11_4 (t := 32) (by decide +kernel) ?_
      refine st_aload_n rfl rfl (by decide) ?_
      refine st_getR (kk := 9) rfl rfl rfl (pz_14_9 hP) rfl ?_
      refine st_iload_n rfl rfl ?_
      refine st_iaload rfl rfl (by omega) (by omega) ?_
      refine st_iret rfl (fun z => by first | exact absurd z (by decide) | exact bi_01 _ | decide | omega) ?_
      exact ⟨am_ri (by rw [if_pos (by omega), h11_4]; exact (tb b h7.1 h7.2).2.2.2.2.1), H, rfl, fun _ _ => rfl, hS⟩
    by_cases h11_5 : w = 5
    · refine st_swC (c := 5) rfl h11_5 (t := 37) (by decide +kernel) ?_
      refine st_aload_n rfl rfl (by decide) ?_
      refine st_getR (kk := 10) rfl rfl rfl (pz_14_10 hP) rfl ?_
      refine st_iload_n rfl rfl ?_
      refine st_iaload rfl rfl (by omega) (by omega) ?_
      refine st_iret rfl (fun z => by first | exact absurd z (by decide) | exact bi_01 _ | decide | omega) ?_
      exact ⟨am_ri (by rw [if_pos (by omega), h11_5]; exact (tb b h7.1 h7.2).2.2.2.2.2.1), H, rfl, fun _ _ => rfl, hS⟩
    by_cases h11_6 : w = 6
    · refine st_swC (c := 6) rfl h11_6 (t := 42) (by decide +kernel) ?_
      refine st_aload_n rfl rfl (by decide) ?_
      refine st_getR (kk := 11) rfl rfl rfl (pz_14_11 hP) rfl ?_
      refine st_iload_n rfl rfl ?_
      refine st_iaload rfl rfl (by omega) (by omega) ?_
      refine st_iret rfl (fun z => by first | exact absurd z (by decide) | exact bi_01 _ | decide | omega) ?_
      exact ⟨am_ri (by rw [if_pos (by omega), h11_6]; exact (tb b h7.1 h7.2).2.2.2.2.2.2.1), H, rfl, fun _ _ => rfl, hS⟩
    by_cases h11_7 : w = 7
    · refine st_swC (c := 7) rfl h11_7 (t := 47) (by decide +kernel) ?_
      refine st_aload_n rfl rfl (by decide) ?_
      refine st_getR (kk := 12) rfl rfl rfl (pz_14_12 hP) rfl ?_
      refine st_iload_n rfl rfl ?_
      refine st_iaload rfl rfl (by omega) (by omega) ?_
      refine st_iret rfl (fun z => by first | exact absurd z (by decide) | exact bi_01 _ | decide | omega) ?_
      exact ⟨am_ri (by rw [if_pos (by omega), h11_7]; exact (tb b h7.1 h7.2).2.2.2.2.2.2.2), H, rfl, fun _ _ => rfl, hS⟩
    refine st_swD rfl (by omega) (t := 52) (by decide +kernel) ?_
    refine st_iconst rfl ?_
    refine st_iret rfl (fun z => by first | exact absurd z (by decide) | exact bi_01 _ | decide | omega) ?_
    exact ⟨am_ri (by rw [if_neg (by omega)]), H, rfl, fun _ _ => rfl, hS⟩
  · refine st_iconst rfl ?_
    refine st_iret rfl (fun z => by first | exact absurd z (by decide) | exact bi_01 _ | decide | omega) ?_
    exact ⟨am_ri (by rw [if_neg (by omega)]), H, rfl, fun _ _ => rfl, hS⟩
theorem c_Cart_place {d N : Nat} {P : am_P} {H : am_H} {s p : Int} {a : Int → Int} (hP : PZ P) (hI : Inv a) (hW : InvW a) (hS : RS H 10 a)  : am_C (d + 4) 17 [am_r 3, am_i (s), am_i (p)] (N, P, H) (CQ N P H (if (0 ≤ s ∧ s < a 2) ∧ 0 ≤ p ∧ p < 30 then thgF a s p else -1) (a)) := by
  refine am_enC (d := d + 3) (ml := 3) (ls := [_, _, _]) cq_Cart_place rfl (Nat.le_of_ble_eq_true rfl) rfl ?_
  have hn := hI.n
  have hM := hS.m
  have hT := hS.t
  have hR := hS.r
  have hC := hS.c
  have hG := hS.g
  have t0 : H 14 0 = a 2 := hT.1
  have t4 : H 14 4 = a 3 := hT.2.1
  refine st_aload_n rfl rfl (by decide) ?_
  refine st_getR (kk := 3) rfl rfl rfl (pz_3_3 hP) rfl ?_
  refine st_getR (kk := 1) rfl rfl rfl (pz_10_1 hP) rfl ?_
  refine st_iload_n rfl rfl ?_
  refine st_iload_n rfl rfl ?_
  refine st_cv1 (w := []) rfl rfl rfl (Nat.le_of_ble_eq_true rfl) (Nat.le_of_ble_eq_true rfl) rfl rfl (r_Stacks_thingAt hP hI hT) ?_
  refine st_iret rfl (fun z => by first | exact absurd z (by decide) | exact bi_01 _ | decide | omega) ?_
  exact ⟨am_ri (rfl), H, rfl, fun _ _ => rfl, hS⟩
theorem RS_hd {H H' : am_H} {a a' : Int → Int} (hI : Inv a) (hS : RS H 10 a) (h0 : H' 10 5 = a' 0) (hh : ∀ k, (11 ≤ k ∧ k ≤ 25) ∨ (28 ≤ k ∧ k ≤ 36) → H' k = H k) (hr : RR H' 10 a') (e : ∀ k, (1 ≤ k ∧ k ≤ 4) ∨ 67 ≤ k → a' k = a k) : RS H' 10 a' :=
  ⟨h0, hS.m.cg hI (hh _ (by omega)) (hh _ (by omega)) (hh _ (by omega)) (e 1 (by omega)) (fun k k0 k1 => e k (by omega)), hS.t.cg hI (fun k k0 k1 => hh _ (by omega)) (e 2 (by omega)) (e 3 (by omega)) (fun k k0 k1 => e k (by omega)), hr, hS.c.cg hI (fun k k0 k1 => hh _ (by omega)) (e 1 (by omega)) (fun k k0 k1 => e k (by omega)), hS.g.cg hI (fun k k0 k1 => hh _ (by omega)) (e 4 (by omega)) (fun k k0 k1 => e k (by omega))⟩
theorem RS_st {H H' : am_H} {a a' : Int → Int} (hI : Inv a) (hS : RS H 10 a) (hh : ∀ k, k < 14 ∨ 25 < k → H' k = H k) (ht : RT H' 10 a') (e : ∀ k, (k < 6670 ∧ k ≠ 2 ∧ k ≠ 3) ∨ 8782 ≤ k → a' k = a k) : RS H' 10 a' :=
  ⟨by rw [hh _ (by omega), e 0 (by omega)]; exact hS.way, hS.m.cg hI (hh _ (by omega)) (hh _ (by omega)) (hh _ (by omega)) (e 1 (by omega)) (fun k k0 k1 => e k (by omega)), ht, hS.r.cg hI (hh _ (by omega)) (hh _ (by omega)) (fun k k0 k1 => e k (by omega)), hS.c.cg hI (fun k k0 k1 => hh _ (by omega)) (e 1 (by omega)) (fun k k0 k1 => e k (by omega)), hS.g.cg hI (fun k k0 k1 => hh _ (by omega)) (e 4 (by omega)) (fun k k0 k1 => e k (by omega))⟩

theorem c_Cart_way {d N : Nat} {P : am_P} {H : am_H} {w : Int} {a : Int → Int} (hP : PZ P) (hI : Inv a) (hW : InvW a) (hS : RS H 10 a)  : am_C (d + 1) 9 [am_r 3, am_i (w)] (N, P, H) (CQ N P H (bi (0 ≤ w ∧ w < 2)) (if 0 ≤ w ∧ w < 2 then am_uf a 0 w else a)) := by
  refine am_enC (d := d + 0) (ml := 2) (ls := [_, _]) cq_Cart_way rfl (Nat.le_of_ble_eq_true rfl) rfl ?_
  have hn := hI.n
  have hM := hS.m
  have hT := hS.t
  have hR := hS.r
  have hC := hS.c
  have hG := hS.g
  have t0 : H 14 0 = a 2 := hT.1
  have t4 : H 14 4 = a 3 := hT.2.1
  refine st_iload_n rfl rfl ?_
  refine st_if_eq rfl (fun h1 => ?_) (fun h1 => ?_)
  · refine st_aload_n rfl rfl (by decide) ?_
    refine st_getR (kk := 3) rfl rfl rfl (pz_3_3 hP) rfl ?_
    refine st_iload_n rfl rfl ?_
    refine st_putI (kk := 5) rfl rfl rfl rfl ?_
    refine st_iconst rfl ?_
    refine st_iret rfl (fun z => by first | exact absurd z (by decide) | exact bi_01 _ | decide | omega) ?_
    refine ⟨am_ri (bi_t (by omega)).symm, _, rfl, fun o ho => am_up_ne (by omega), ?_⟩
    rw [if_pos (by omega)]
    exact RS_hd hI hS (by rw [am_up_eq, am_uf_eq, am_uf_eq]) (fun k hk => am_up_ne (by omega)) (hR.cg hI (am_up_ne (by decide)) (am_up_ne (by decide)) (fun k k0 k1 => am_uf_ne _ _ (by omega))) (fun k hk => am_uf_ne _ _ (by omega))
  · refine st_iload_n rfl rfl ?_
    refine st_iconst rfl ?_
    refine st_icmp_eq rfl (fun h4 => ?_) (fun h4 => ?_)
    · refine st_aload_n rfl rfl (by decide) ?_
      refine st_getR (kk := 3) rfl rfl rfl (pz_3_3 hP) rfl ?_
      refine st_iload_n rfl rfl ?_
      refine st_putI (kk := 5) rfl rfl rfl rfl ?_
      refine st_iconst rfl ?_
      refine st_iret rfl (fun z => by first | exact absurd z (by decide) | exact bi_01 _ | decide | omega) ?_
      refine ⟨am_ri (bi_t (by omega)).symm, _, rfl, fun o ho => am_up_ne (by omega), ?_⟩
      rw [if_pos (by omega)]
      exact RS_hd hI hS (by rw [am_up_eq, am_uf_eq, am_uf_eq]) (fun k hk => am_up_ne (by omega)) (hR.cg hI (am_up_ne (by decide)) (am_up_ne (by decide)) (fun k k0 k1 => am_uf_ne _ _ (by omega))) (fun k hk => am_uf_ne _ _ (by omega))
    · refine st_iconst rfl ?_
      refine st_iret rfl (fun z => by first | exact absurd z (by decide) | exact bi_01 _ | decide | omega) ?_
      exact ⟨am_ri (bi_f (by omega)).symm, H, rfl, fun _ _ => rfl, by rw [if_neg (by omega)]; exact hS⟩
theorem r_Stacks_clearShelf {d N : Nat} {P : am_P} {H : am_H} {s n : Int} (hP : PZ P) (h0 : H 14 0 = n) (hn : n ≤ 16) (hs : 0 ≤ s ∧ s < n) : am_R (d + 4) 221 [am_r 14, am_i (s)] (N, P, H) none (N, P, am_so H 17 (fillF (H 17) (s * 30) 30 (-1))) := by
  refine am_en1 (d := d + 3) (ml := 3) (ls := [_, _, _]) cq_Stacks_clearShelf rfl (Nat.le_of_ble_eq_true rfl) rfl ?_
  refine st_iconst rfl ?_
  refine st_istore_n (ls' := [_, _, _]) rfl (Nat.le_of_ble_eq_true rfl) rfl ?_
  suffices hz : ∀ j : Nat, j ≤ 30 → am_WP (am_R (d + 3)) cd_Stacks_clearShelf (fun v' s' => v' = none ∧ s' = (N, P, am_so H 17 (fillF (H 17) (s * 30) 30 (-1)))) 2 [some (am_r 14), some (am_i s), some (am_i (j : Int))] [] (N, P, am_so H 17 (fillF (H 17) (s * 30) (j : Int) (-1))) by
    have := hz 0 (Nat.zero_le _)
    rw [show ((0 : Nat) : Int) = 0 from rfl, fillF_0, am_so_self] at this
    exact this
  refine up_ind (n := 30) ?_ ?_
  · refine st_iload_n rfl rfl ?_
    refine st_bipush rfl ?_
    refine st_icmp_ge rfl (fun h4 => ?_) (fun h4 => (by exfalso; omega))
    refine st_ret rfl ?_
    exact ⟨rfl, rfl⟩
  · intro j hj ih
    refine st_iload_n rfl rfl ?_
    refine st_bipush rfl ?_
    refine st_icmp_ge rfl (fun h4 => (by exfalso; omega)) (fun h4 => ?_)
    refine st_aload_n rfl rfl (by decide) ?_
    refine st_iload_n rfl rfl ?_
    refine st_iload_n rfl rfl ?_
    refine st_iconst rfl ?_
    refine st_cv0 (w := []) rfl rfl rfl (Nat.le_of_ble_eq_true rfl) (Nat.le_of_ble_eq_true rfl) rfl rfl (r_Stacks_setThing (n := n) hP (by rw [am_so_ne _ _ (by decide)]; exact h0) hn) ?_
    rw [if_pos (by omega), stH, am_up, am_so_so, am_so_at, fillF_s]
    refine st_iinc (ls' := [_, _, _]) rfl rfl (by omega) rfl ?_
    refine st_goto rfl ?_
    exact ih
theorem r_Stacks_makeShelf {d N : Nat} {P : am_P} {H : am_H} {w h n : Int} (hP : PZ P) (h0 : H 14 0 = n) (hn : 0 ≤ n ∧ n ≤ 16) : am_R (d + 5) 220 [am_r 14, am_i (w), am_i (h)] (N, P, H) (some (am_i (if n ≠ 16 then n else -1))) (N, P, if n ≠ 16 then am_so (am_up (am_up (am_up H 14 0 (n + 1)) 15 n w) 16 n (bi (h ≠ 0))) 17 (fillF (H 17) (n * 30) 30 (-1)) else H) := by
  refine am_en1 (d := d + 4) (ml := 4) (ls := [_, _, _, _]) cq_Stacks_makeShelf rfl (Nat.le_of_ble_eq_true rfl) rfl ?_
  refine st_aload_n rfl rfl (by decide) ?_
  refine st_getI (kk := 0) rfl rfl (by decide) rfl ?_
  refine st_bipush rfl ?_
  refine st_icmp_lt rfl (fun h3 => ?_) (fun h3 => ?_)
  · refine st_aload_n rfl rfl (by decide) ?_
    refine st_getI (kk := 0) rfl rfl (by decide) rfl ?_
    rw [h0]
    refine st_istore_n (ls' := [_, _, _, _]) rfl (Nat.le_of_ble_eq_true rfl) rfl ?_
    refine st_aload_n rfl rfl (by decide) ?_
    refine st_dup rfl rfl ?_
    refine st_getI (kk := 0) rfl rfl (by decide) rfl ?_
    rw [h0]
    refine st_iconst rfl ?_
    refine st_iadd rfl (by omega) ?_
    refine st_putI (kk := 0) rfl rfl rfl rfl ?_
    refine st_aload_n rfl rfl (by decide) ?_
    refine st_getR (kk := 1) rfl rfl rfl (pz_14_1 hP) rfl ?_
    refine st_iload_n rfl rfl ?_
    refine st_iload_n rfl rfl ?_
    refine st_iastore rfl rfl (by omega) (by omega) ?_
    refine st_aload_n rfl rfl (by decide) ?_
    refine st_getR (kk := 2) rfl rfl rfl (pz_14_2 hP) rfl ?_
    refine st_iload_n rfl rfl ?_
    refine st_iload_n rfl rfl ?_
    refine st_if_eq rfl (fun h24 => ?_) (fun h24 => ?_)
    · refine st_iconst rfl ?_
      refine st_iastore rfl rfl (by omega) (by omega) ?_
      first | rw [show am_up (am_up (am_up H 14 0 (n + 1)) 15 n w) 16 n 1 = am_up (am_up (am_up H 14 0 (n + 1)) 15 n w) 16 n (bi (h ≠ 0)) by rw [bi_t (show h ≠ 0 by omega)]] | rw [show am_up (am_up (am_up H 14 0 (n + 1)) 15 n w) 16 n 0 = am_up (am_up (am_up H 14 0 (n + 1)) 15 n w) 16 n (bi (h ≠ 0)) by rw [bi_f (show ¬ (h ≠ 0) by omega)]]
      refine st_aload_n rfl rfl (by decide) ?_
      refine st_iload_n rfl rfl ?_
      refine st_cv0 (w := []) rfl rfl rfl (Nat.le_of_ble_eq_true rfl) (Nat.le_of_ble_eq_true rfl) rfl rfl (r_Stacks_clearShelf (n := n + 1) (s := n) (H := am_up (am_up (am_up H 14 0 (n + 1)) 15 n w) 16 n (bi (h ≠ 0))) hP (by rw [am_up_ne (by decide), am_up_ne (by decide), am_up_eq, am_uf_eq]) (by omega) (by omega)) ?_
      refine st_iload_n rfl rfl ?_
      refine st_iret rfl (fun z => by first | exact absurd z (by decide) | exact bi_01 _ | decide | omega) ?_
      exact ⟨am_ri (by first | rw [if_pos (by omega)] | rw [if_neg (by omega)]), by first | (rw [if_pos (by omega)]; rfl) | rw [if_neg (by omega)]⟩
    · refine st_iconst rfl ?_
      refine st_goto rfl ?_
      refine st_iastore rfl rfl (by omega) (by omega) ?_
      first | rw [show am_up (am_up (am_up H 14 0 (n + 1)) 15 n w) 16 n 1 = am_up (am_up (am_up H 14 0 (n + 1)) 15 n w) 16 n (bi (h ≠ 0)) by rw [bi_t (show h ≠ 0 by omega)]] | rw [show am_up (am_up (am_up H 14 0 (n + 1)) 15 n w) 16 n 0 = am_up (am_up (am_up H 14 0 (n + 1)) 15 n w) 16 n (bi (h ≠ 0)) by rw [bi_f (show ¬ (h ≠ 0) by omega)]]
      refine st_aload_n rfl rfl (by decide) ?_
      refine st_iload_n rfl rfl ?_
      refine st_cv0 (w := []) rfl rfl rfl (Nat.le_of_ble_eq_true rfl) (Nat.le_of_ble_eq_true rfl) rfl rfl (r_Stacks_clearShelf (n := n + 1) (s := n) (H := am_up (am_up (am_up H 14 0 (n + 1)) 15 n w) 16 n (bi (h ≠ 0))) hP (by rw [am_up_ne (by decide), am_up_ne (by decide), am_up_eq, am_uf_eq]) (by omega) (by omega)) ?_
      refine st_iload_n rfl rfl ?_
      refine st_iret rfl (fun z => by first | exact absurd z (by decide) | exact bi_01 _ | decide | omega) ?_
      exact ⟨am_ri (by first | rw [if_pos (by omega)] | rw [if_neg (by omega)]), by first | (rw [if_pos (by omega)]; rfl) | rw [if_neg (by omega)]⟩
  · refine st_iconst rfl ?_
    refine st_iret rfl (fun z => by first | exact absurd z (by decide) | exact bi_01 _ | decide | omega) ?_
    exact ⟨am_ri (by first | rw [if_pos (by omega)] | rw [if_neg (by omega)]), by first | (rw [if_pos (by omega)]; rfl) | rw [if_neg (by omega)]⟩
theorem RT_sh {H : am_H} {a : Int → Int} {w h : Int} (hI : Inv a) (hT : RT H 10 a) (h16 : a 2 ≠ 16) : RT (am_so (am_up (am_up (am_up H 14 0 (a 2 + 1)) 15 (a 2) w) 16 (a 2) h) 17 (fillF (H 17) (a 2 * 30) 30 (-1))) 10 (shF a w h) := by
  have hn := hI.n
  have h2 : 0 ≤ a 2 ∧ a 2 < 16 := by omega
  have e : ∀ k, k ≠ 2 → (k < 6670 + 32 * a 2 ∨ 6670 + 32 * a 2 + 32 ≤ k) → shF a w h k = a k := fun k k1 k2 => sh_k h2 k1 k2
  obtain ⟨q0, q1, q2, q3, q4⟩ := hT
  have hE : ∀ k : Nat, k ≠ 14 → k ≠ 15 → k ≠ 16 → k ≠ 17 → am_so (am_up (am_up (am_up H 14 0 (a 2 + 1)) 15 (a 2) w) 16 (a 2) h) 17 (fillF (H 17) (a 2 * 30) 30 (-1)) k = H k := fun k k1 k2 k3 k4 => by rw [am_so_ne _ _ k4, am_up_ne k3, am_up_ne k2, am_up_ne k1]
  have h14 : am_so (am_up (am_up (am_up H 14 0 (a 2 + 1)) 15 (a 2) w) 16 (a 2) h) 17 (fillF (H 17) (a 2 * 30) 30 (-1)) 14 = am_uf (H 14) 0 (a 2 + 1) := rfl
  have h15 : am_so (am_up (am_up (am_up H 14 0 (a 2 + 1)) 15 (a 2) w) 16 (a 2) h) 17 (fillF (H 17) (a 2 * 30) 30 (-1)) 15 = am_uf (H 15) (a 2) w := rfl
  have h16' : am_so (am_up (am_up (am_up H 14 0 (a 2 + 1)) 15 (a 2) w) 16 (a 2) h) 17 (fillF (H 17) (a 2 * 30) 30 (-1)) 16 = am_uf (H 16) (a 2) h := rfl
  have h17 : am_so (am_up (am_up (am_up H 14 0 (a 2 + 1)) 15 (a 2) w) 16 (a 2) h) 17 (fillF (H 17) (a 2 * 30) 30 (-1)) 17 = fillF (H 17) (a 2 * 30) 30 (-1) := rfl
  refine ⟨?_, ?_, fun s s0 s1 => ?_, fun s p s0 s1 p0 p1 => ?_, fun x x0 x1 => ?_⟩
  · rw [show (10 + 4 : Nat) = 14 from rfl, h14, am_uf_eq, sh_2]
  · rw [show (10 + 4 : Nat) = 14 from rfl, h14, am_uf_ne _ _ (by omega), e 3 (by omega) (by omega)]; exact q1
  · rw [show (10 + 5 : Nat) = 15 from rfl, show (10 + 6 : Nat) = 16 from rfl, h15, h16']
    rw [sh_2] at s1
    by_cases hs : s = a 2
    · rw [hs, am_uf_eq, am_uf_eq, (sh_w h2).1, (sh_w h2).2]; exact ⟨rfl, rfl⟩
    · rw [am_uf_ne _ _ hs, am_uf_ne _ _ hs, e _ (by omega) (by omega), e _ (by omega) (by omega)]
      exact q2 s s0 (by omega)
  · rw [show (10 + 7 : Nat) = 17 from rfl, h17]
    rw [sh_2] at s1
    unfold fillF
    by_cases hs : s = a 2
    · rw [hs, if_pos (by omega), sh_t h2 ⟨p0, p1⟩]
    · rw [if_neg (by omega), show thgF (shF a w h) s p = thgF a s p from e _ (by omega) (by omega)]
      exact q3 s p s0 (by omega) p0 p1
  · rw [e 3 (by omega) (by omega)] at x1
    have eb : ∀ v, 0 ≤ v → v < 8 → bkF (shF a w h) x v = bkF a x v := fun v v0 v1 => e _ (by omega) (by omega)
    rw [hE (10 + 8) (by decide) (by decide) (by decide) (by decide), hE (10 + 9) (by decide) (by decide) (by decide) (by decide), hE (10 + 10) (by decide) (by decide) (by decide) (by decide), hE (10 + 11) (by decide) (by decide) (by decide) (by decide), hE (10 + 12) (by decide) (by decide) (by decide) (by decide), hE (10 + 13) (by decide) (by decide) (by decide) (by decide), hE (10 + 14) (by decide) (by decide) (by decide) (by decide), hE (10 + 15) (by decide) (by decide) (by decide) (by decide)]
    rw [eb 0 (by omega) (by omega), eb 1 (by omega) (by omega), eb 2 (by omega) (by omega), eb 3 (by omega) (by omega), eb 4 (by omega) (by omega), eb 5 (by omega) (by omega), eb 6 (by omega) (by omega), eb 7 (by omega) (by omega)]
    exact q4 x x0 x1

theorem c_Cart_shelf {d N : Nat} {P : am_P} {H : am_H} {w h : Int} {a : Int → Int} (hP : PZ P) (hI : Inv a) (hW : InvW a) (hS : RS H 10 a)  : am_C (d + 6) 11 [am_r 3, am_i (w), am_i (h)] (N, P, H) (CQ N P H (if a 2 ≠ 16 ∧ 100 ≤ w ∧ w ≤ 2000 then a 2 else -1) (if a 2 ≠ 16 ∧ 100 ≤ w ∧ w ≤ 2000 then shF a w (bi (h ≠ 0)) else a)) := by
  refine am_enC (d := d + 5) (ml := 3) (ls := [_, _, _]) cq_Cart_shelf rfl (Nat.le_of_ble_eq_true rfl) rfl ?_
  have hn := hI.n
  have hM := hS.m
  have hT := hS.t
  have hR := hS.r
  have hC := hS.c
  have hG := hS.g
  have t0 : H 14 0 = a 2 := hT.1
  have t4 : H 14 4 = a 3 := hT.2.1
  refine st_iload_n rfl rfl ?_
  refine st_bipush rfl ?_
  refine st_icmp_lt rfl (fun h2 => ?_) (fun h2 => ?_)
  · refine st_iconst rfl ?_
    refine st_iret rfl (fun z => by first | exact absurd z (by decide) | exact bi_01 _ | decide | omega) ?_
    exact ⟨am_ri (by rw [if_neg (by omega)]), H, rfl, fun _ _ => rfl, by rw [if_neg (by omega)]; exact hS⟩
  · refine st_iload_n rfl rfl ?_
    refine st_sipush rfl ?_
    refine st_icmp_le rfl (fun h5 => ?_) (fun h5 => ?_)
    · refine st_aload_n rfl rfl (by decide) ?_
      refine st_getR (kk := 3) rfl rfl rfl (pz_3_3 hP) rfl ?_
      refine st_getR (kk := 1) rfl rfl rfl (pz_10_1 hP) rfl ?_
      refine st_iload_n rfl rfl ?_
      refine st_iload_n rfl rfl ?_
      refine st_cv1 (w := []) rfl rfl rfl (Nat.le_of_ble_eq_true rfl) (Nat.le_of_ble_eq_true rfl) rfl rfl (r_Stacks_makeShelf hP t0 hn.2.1) ?_
      refine st_iret rfl (fun z => by first | exact absurd z (by decide) | exact bi_01 _ | decide | omega) ?_
      by_cases h16 : a 2 = 16
      · rw [if_neg (by omega), if_neg (by omega), if_neg (by omega), if_neg (by omega)]
        exact ⟨rfl, H, rfl, fun _ _ => rfl, hS⟩
      · rw [if_pos h16, if_pos h16, if_pos (by omega), if_pos (by omega)]
        refine ⟨rfl, _, rfl, fun o ho => by rw [am_so_ne _ _ (by omega), am_up_ne (by omega), am_up_ne (by omega), am_up_ne (by omega)], ?_⟩
        exact RS_st hI hS (fun o ho => by rw [am_so_ne _ _ (by omega), am_up_ne (by omega), am_up_ne (by omega), am_up_ne (by omega)]) (RT_sh hI hT h16) (fun k hk => sh_k (by omega) (by omega) (by omega))
    · refine st_iconst rfl ?_
      refine st_iret rfl (fun z => by first | exact absurd z (by decide) | exact bi_01 _ | decide | omega) ?_
      exact ⟨am_ri (by rw [if_neg (by omega)]), H, rfl, fun _ _ => rfl, by rw [if_neg (by omega)]; exact hS⟩
theorem r_Stacks_makeBook {d N : Nat} {P : am_P} {H : am_H} {kd m w l n : Int} (hP : PZ P) (h4 : H 14 4 = n) (hn : 0 ≤ n ∧ n ≤ 200) : am_R (d + 3) 222 [am_r 14, am_i (kd), am_i (m), am_i (w), am_i (l)] (N, P, H) (some (am_i (if n ≠ 200 then n else -1))) (N, P, if n ≠ 200 then ntH (ntH (am_up (am_up (am_up (am_up (am_up H 14 4 (n + 1)) 18 n kd) 19 n m) 20 n w) 21 n l) 22 n (-1) (-1)) 24 n (-1) (-1) else H) := by
  refine am_en1 (d := d + 2) (ml := 6) (ls := [_, _, _, _, _, _]) cq_Stacks_makeBook rfl (Nat.le_of_ble_eq_true rfl) rfl ?_
  refine st_aload_n rfl rfl (by decide) ?_
  refine st_getI (kk := 4) rfl rfl (by decide) rfl ?_
  refine st_sipush rfl ?_
  refine st_icmp_lt rfl (fun h3 => ?_) (fun h3 => ?_)
  · refine st_aload_n rfl rfl (by decide) ?_
    refine st_getI (kk := 4) rfl rfl (by decide) rfl ?_
    rw [h4]
    refine st_istore (ls' := [_, _, _, _, _, _]) rfl (Nat.le_of_ble_eq_true rfl) rfl ?_
    refine st_aload_n rfl rfl (by decide) ?_
    refine st_dup rfl rfl ?_
    refine st_getI (kk := 4) rfl rfl (by decide) rfl ?_
    rw [h4]
    refine st_iconst rfl ?_
    refine st_iadd rfl (by omega) ?_
    refine st_putI (kk := 4) rfl rfl rfl rfl ?_
    refine st_aload_n rfl rfl (by decide) ?_
    refine st_getR (kk := 5) rfl rfl rfl (pz_14_5 hP) rfl ?_
    refine st_iload rfl rfl ?_
    refine st_iload_n rfl rfl ?_
    refine st_iastore rfl rfl (by omega) (by omega) ?_
    refine st_aload_n rfl rfl (by decide) ?_
    refine st_getR (kk := 6) rfl rfl rfl (pz_14_6 hP) rfl ?_
    refine st_iload rfl rfl ?_
    refine st_iload_n rfl rfl ?_
    refine st_iastore rfl rfl (by omega) (by omega) ?_
    refine st_aload_n rfl rfl (by decide) ?_
    refine st_getR (kk := 7) rfl rfl rfl (pz_14_7 hP) rfl ?_
    refine st_iload rfl rfl ?_
    refine st_iload_n rfl rfl ?_
    refine st_iastore rfl rfl (by omega) (by omega) ?_
    refine st_aload_n rfl rfl (by decide) ?_
    refine st_getR (kk := 8) rfl rfl rfl (pz_14_8 hP) rfl ?_
    refine st_iload rfl rfl ?_
    refine st_iload rfl rfl ?_
    refine st_iastore rfl rfl (by omega) (by omega) ?_
    refine st_aload_n rfl rfl (by decide) ?_
    refine st_iload rfl rfl ?_
    refine st_iconst rfl ?_
    refine st_iconst rfl ?_
    refine st_cv0 (w := []) rfl rfl rfl (Nat.le_of_ble_eq_true rfl) (Nat.le_of_ble_eq_true rfl) rfl rfl (r_Stacks_notePlaceB (n := n + 1) (H := am_up (am_up (am_up (am_up (am_up H 14 4 (n + 1)) 18 n kd) 19 n m) 20 n w) 21 n l) hP (by rw [am_up_ne (by decide), am_up_ne (by decide), am_up_ne (by decide), am_up_ne (by decide), am_up_eq, am_uf_eq]) (by omega) (by omega)) ?_
    refine st_aload_n rfl rfl (by decide) ?_
    refine st_sipush rfl ?_
    refine st_iload rfl rfl ?_
    refine st_iadd rfl (by omega) ?_
    refine st_iconst rfl ?_
    refine st_iconst rfl ?_
    refine st_cv0 (w := []) rfl rfl rfl (Nat.le_of_ble_eq_true rfl) (Nat.le_of_ble_eq_true rfl) rfl rfl (r_Stacks_notePlaceD (n := n + 1) (H := ntH (am_up (am_up (am_up (am_up (am_up H 14 4 (n + 1)) 18 n kd) 19 n m) 20 n w) 21 n l) 22 n (-1) (-1)) hP (by unfold ntH; rw [am_up_ne (by decide), am_up_ne (by decide), am_up_ne (by decide), am_up_ne (by decide), am_up_ne (by decide), am_up_ne (by decide), am_up_eq, am_uf_eq]) (by omega) (by omega)) ?_
    refine st_iload rfl rfl ?_
    refine st_iret rfl (fun z => by first | exact absurd z (by decide) | exact bi_01 _ | decide | omega) ?_
    exact ⟨am_ri (by first | rw [if_pos (by omega)] | rw [if_neg (by omega)]), by first | rw [if_pos (by omega)] | rw [if_neg (by omega)]⟩
  · refine st_iconst rfl ?_
    refine st_iret rfl (fun z => by first | exact absurd z (by decide) | exact bi_01 _ | decide | omega) ?_
    exact ⟨am_ri (by first | rw [if_pos (by omega)] | rw [if_neg (by omega)]), by first | rw [if_pos (by omega)] | rw [if_neg (by omega)]⟩
theorem RT_bk {H : am_H} {a : Int → Int} {kd m w l l0 : Int} (hI : Inv a) (hT : RT H 10 a) (h2 : a 3 ≠ 200) (hl : l = if kd = 2 then l0 else 0) : RT (ntH (ntH (am_up (am_up (am_up (am_up (am_up H 14 4 (a 3 + 1)) 18 (a 3) kd) 19 (a 3) m) 20 (a 3) w) 21 (a 3) l) 22 (a 3) (-1) (-1)) 24 (a 3) (-1) (-1)) 10 (bkG a kd m w l0) := by
  have hn := hI.n
  have h3 : 0 ≤ a 3 ∧ a 3 < 200 := by omega
  have e : ∀ k, k ≠ 3 → (k < 7182 + 8 * a 3 ∨ 7182 + 8 * a 3 + 8 ≤ k) → bkG a kd m w l0 k = a k := fun k k1 k2 => bg_k h3 k1 k2
  obtain ⟨n0, n1, n2, n3, n4⟩ := bg_n (kd := kd) (m := m) (w := w) (l := l0) h3
  obtain ⟨q0, q1, q2, q3, q4⟩ := hT
  refine ⟨?_, ?_, fun s s0 s1 => ?_, fun s p s0 s1 p0 p1 => ?_, fun x x0 x1 => ?_⟩
  · show am_uf (H 14) 4 (a 3 + 1) 0 = _
    rw [am_uf_ne _ _ (by omega), e 2 (by omega) (by omega)]; exact q0
  · show am_uf (H 14) 4 (a 3 + 1) 4 = _
    rw [am_uf_eq, bg_3]
  · rw [e 2 (by omega) (by omega)] at s1
    rw [e _ (by omega) (by omega), e _ (by omega) (by omega)]
    exact q2 s s0 s1
  · rw [e 2 (by omega) (by omega)] at s1
    rw [show thgF (bkG a kd m w l0) s p = thgF a s p from e _ (by omega) (by omega)]
    exact q3 s p s0 s1 p0 p1
  · rw [bg_3] at x1
    show am_uf (H 18) (a 3) kd x = _ ∧ am_uf (H 19) (a 3) m x = _ ∧ am_uf (H 20) (a 3) w x = _ ∧ am_uf (H 21) (a 3) l x = _ ∧ am_uf (H 22) (a 3) (-1) x = _ ∧ am_uf (H 23) (a 3) (-1) x = _ ∧ am_uf (H 24) (a 3) (-1) x = _ ∧ am_uf (H 25) (a 3) (-1) x = _
    by_cases hx : x = a 3
    · rw [hx, am_uf_eq, am_uf_eq, am_uf_eq, am_uf_eq, am_uf_eq, am_uf_eq, am_uf_eq, am_uf_eq, n0, n1, n2, n3, n4 4 (by omega) (by omega), n4 5 (by omega) (by omega), n4 6 (by omega) (by omega), n4 7 (by omega) (by omega)]
      exact ⟨rfl, rfl, rfl, hl, rfl, rfl, rfl, rfl⟩
    · have eb : ∀ v, 0 ≤ v → v < 8 → bkF (bkG a kd m w l0) x v = bkF a x v := fun v v0 v1 => e _ (by omega) (by omega)
      rw [am_uf_ne _ _ hx, am_uf_ne _ _ hx, am_uf_ne _ _ hx, am_uf_ne _ _ hx, am_uf_ne _ _ hx, am_uf_ne _ _ hx, am_uf_ne _ _ hx, am_uf_ne _ _ hx, eb 0 (by omega) (by omega), eb 1 (by omega) (by omega), eb 2 (by omega) (by omega), eb 3 (by omega) (by omega), eb 4 (by omega) (by omega), eb 5 (by omega) (by omega), eb 6 (by omega) (by omega), eb 7 (by omega) (by omega)]
      exact q4 x x0 (by omega)
theorem volF_r {a : Int → Int} (hI : Inv a) {m : Int} (hm : 0 ≤ m ∧ m < a 1) : -1 ≤ volF a m := by
  have hv := (hI.mv hm.1 hm.2).2.2
  have : ∀ j : Nat, (j : Int) ≤ lenF a m → -1 ≤ volL a m j := by
    intro j
    induction j with
    | zero => intro _; simp only [volL]; omega
    | succ j ih =>
      intro hj
      have := (hv (j : Int) (by omega) (by omega)).2.1
      have ih := ih (by omega)
      rw [vol_s]
      split <;> omega
  have hl := (hI.mv hm.1 hm.2).2.1
  exact this _ (by omega)

theorem c_Cart_book {d N : Nat} {P : am_P} {H : am_H} {kd m w l : Int} {a : Int → Int} (hP : PZ P) (hI : Inv a) (hW : InvW a) (hS : RS H 10 a)  : am_C (d + 4) 12 [am_r 3, am_i (kd), am_i (m), am_i (w), am_i (l)] (N, P, H) (CQ N P H (if bkO a kd m w l then a 3 else -1) (if bkO a kd m w l then bkG a kd m w l else a)) := by
  refine am_enC (d := d + 3) (ml := 6) (ls := [_, _, _, _, _, _]) cq_Cart_book rfl (Nat.le_of_ble_eq_true rfl) rfl ?_
  have hn := hI.n
  have hM := hS.m
  have hT := hS.t
  have hR := hS.r
  have hC := hS.c
  have hG := hS.g
  have t0 : H 14 0 = a 2 := hT.1
  have t4 : H 14 4 = a 3 := hT.2.1
  refine st_aload_n rfl rfl (by decide) ?_
  refine st_getR (kk := 3) rfl rfl rfl (pz_3_3 hP) rfl ?_
  refine st_getR (kk := 0) rfl rfl rfl (pz_10_0 hP) rfl ?_
  refine st_iload_n rfl rfl ?_
  refine st_cv1 (w := []) rfl rfl rfl (Nat.le_of_ble_eq_true rfl) (Nat.le_of_ble_eq_true rfl) rfl rfl (r_Marks_has hP hI hM) ?_
  refine st_if_eq_b rfl (fun h5 => ?_) (fun h5 => ?_)
  · refine st_iconst rfl ?_
    refine st_iret rfl (fun z => by first | exact absurd z (by decide) | exact bi_01 _ | decide | omega) ?_
    exact ⟨am_ri (by rw [if_neg (fun z => by have := z.2; omega)]), H, rfl, fun _ _ => rfl, by rw [if_neg (fun z => by have := z.2; omega)]; exact hS⟩
  · refine st_iload_n rfl rfl ?_
    refine st_if_lt rfl (fun h7 => ?_) (fun h7 => ?_)
    · refine st_iconst rfl ?_
      refine st_iret rfl (fun z => by first | exact absurd z (by decide) | exact bi_01 _ | decide | omega) ?_
      exact ⟨am_ri (by rw [if_neg (fun z => by have := z.2; omega)]), H, rfl, fun _ _ => rfl, by rw [if_neg (fun z => by have := z.2; omega)]; exact hS⟩
    · refine st_iload_n rfl rfl ?_
      refine st_iconst rfl ?_
      refine st_icmp_gt rfl (fun h10 => ?_) (fun h10 => ?_)
      · refine st_iconst rfl ?_
        refine st_iret rfl (fun z => by first | exact absurd z (by decide) | exact bi_01 _ | decide | omega) ?_
        exact ⟨am_ri (by rw [if_neg (fun z => by have := z.2; omega)]), H, rfl, fun _ _ => rfl, by rw [if_neg (fun z => by have := z.2; omega)]; exact hS⟩
      · refine st_iload_n rfl rfl ?_
        refine st_iconst rfl ?_
        refine st_icmp_lt rfl (fun h13 => ?_) (fun h13 => ?_)
        · refine st_iconst rfl ?_
          refine st_iret rfl (fun z => by first | exact absurd z (by decide) | exact bi_01 _ | decide | omega) ?_
          exact ⟨am_ri (by rw [if_neg (fun z => by have := z.2; omega)]), H, rfl, fun _ _ => rfl, by rw [if_neg (fun z => by have := z.2; omega)]; exact hS⟩
        · refine st_iload_n rfl rfl ?_
          refine st_sipush rfl ?_
          refine st_icmp_le rfl (fun h16 => ?_) (fun h16 => ?_)
          · refine st_iload_n rfl rfl ?_
            refine st_iconst rfl ?_
            refine st_icmp_eq rfl (fun h21 => ?_) (fun h21 => ?_)
            · have hvr := volF_r hI h5
              refine st_aload_n rfl rfl (by decide) ?_
              refine st_getR (kk := 3) rfl rfl rfl (pz_3_3 hP) rfl ?_
              refine st_getR (kk := 0) rfl rfl rfl (pz_10_0 hP) rfl ?_
              refine st_iload_n rfl rfl ?_
              refine st_cv1 (w := []) rfl rfl rfl (Nat.le_of_ble_eq_true rfl) (Nat.le_of_ble_eq_true rfl) rfl rfl (r_Marks_volumeOf hP hI hW hM h5) ?_
              refine st_istore (ls' := [_, _, _, _, _, _]) rfl (Nat.le_of_ble_eq_true rfl) rfl ?_
              refine st_iload rfl rfl ?_
              refine st_iconst rfl ?_
              refine st_icmp_eq rfl (fun h39 => ?_) (fun h39 => ?_)
              · refine st_iconst rfl ?_
                refine st_iret rfl (fun z => by first | exact absurd z (by decide) | exact bi_01 _ | decide | omega) ?_
                exact ⟨am_ri (by rw [if_neg (fun z => by have := z.2; omega)]), H, rfl, fun _ _ => rfl, by rw [if_neg (fun z => by have := z.2; omega)]; exact hS⟩
              · refine st_iload rfl rfl ?_
                refine st_iload rfl rfl ?_
                refine st_icmp_lt rfl (fun h42 => ?_) (fun h42 => ?_)
                · refine st_iconst rfl ?_
                  refine st_iret rfl (fun z => by first | exact absurd z (by decide) | exact bi_01 _ | decide | omega) ?_
                  exact ⟨am_ri (by rw [if_neg (fun z => by have := z.2; omega)]), H, rfl, fun _ _ => rfl, by rw [if_neg (fun z => by have := z.2; omega)]; exact hS⟩
                · refine st_iload rfl rfl ?_
                  refine st_sipush rfl ?_
                  refine st_icmp_le rfl (fun h45 => ?_) (fun h45 => ?_)
                  · refine st_aload_n rfl rfl (by decide) ?_
                    refine st_getR (kk := 3) rfl rfl rfl (pz_3_3 hP) rfl ?_
                    refine st_getR (kk := 1) rfl rfl rfl (pz_10_1 hP) rfl ?_
                    refine st_iload_n rfl rfl ?_
                    refine st_iload_n rfl rfl ?_
                    refine st_iload_n rfl rfl ?_
                    refine st_iload rfl rfl ?_
                    refine st_cv1 (w := []) rfl rfl rfl (Nat.le_of_ble_eq_true rfl) (Nat.le_of_ble_eq_true rfl) rfl rfl (r_Stacks_makeBook hP t4 hn.2.2.1) ?_
                    refine st_iret rfl (fun z => by first | exact absurd z (by decide) | exact bi_01 _ | decide | omega) ?_
                    by_cases h200 : a 3 = 200
                    · rw [if_neg (show ¬ (a 3 ≠ 200) by omega), if_neg (show ¬ (a 3 ≠ 200) by omega), if_neg (fun z => z.1 h200), if_neg (fun z => z.1 h200)]
                      exact ⟨rfl, H, rfl, fun _ _ => rfl, hS⟩
                    · have hO : bkO a kd m w l := ⟨h200, by omega, by omega, by omega, by omega⟩
                      rw [if_pos h200, if_pos h200, if_pos hO, if_pos hO]
                      refine ⟨rfl, _, rfl, fun o ho => by unfold ntH; rw [am_up_ne (by omega), am_up_ne (by omega), am_up_ne (by omega), am_up_ne (by omega), am_up_ne (by omega), am_up_ne (by omega), am_up_ne (by omega), am_up_ne (by omega), am_up_ne (by omega)], ?_⟩
                      exact RS_st hI hS (fun o ho => by unfold ntH; rw [am_up_ne (by omega), am_up_ne (by omega), am_up_ne (by omega), am_up_ne (by omega), am_up_ne (by omega), am_up_ne (by omega), am_up_ne (by omega), am_up_ne (by omega), am_up_ne (by omega)]) (RT_bk hI hT h200 (by rw [if_pos (by omega)])) (fun k hk => bg_k (by omega) (by omega) (by omega))
                  · refine st_iconst rfl ?_
                    refine st_iret rfl (fun z => by first | exact absurd z (by decide) | exact bi_01 _ | decide | omega) ?_
                    exact ⟨am_ri (by rw [if_neg (fun z => by have := z.2; omega)]), H, rfl, fun _ _ => rfl, by rw [if_neg (fun z => by have := z.2; omega)]; exact hS⟩
            · refine st_aload_n rfl rfl (by decide) ?_
              refine st_getR (kk := 3) rfl rfl rfl (pz_3_3 hP) rfl ?_
              refine st_getR (kk := 1) rfl rfl rfl (pz_10_1 hP) rfl ?_
              refine st_iload_n rfl rfl ?_
              refine st_iload_n rfl rfl ?_
              refine st_iload_n rfl rfl ?_
              refine st_iconst rfl ?_
              refine st_cv1 (w := []) rfl rfl rfl (Nat.le_of_ble_eq_true rfl) (Nat.le_of_ble_eq_true rfl) rfl rfl (r_Stacks_makeBook hP t4 hn.2.2.1) ?_
              refine st_iret rfl (fun z => by first | exact absurd z (by decide) | exact bi_01 _ | decide | omega) ?_
              by_cases h200 : a 3 = 200
              · rw [if_neg (show ¬ (a 3 ≠ 200) by omega), if_neg (show ¬ (a 3 ≠ 200) by omega), if_neg (fun z => z.1 h200), if_neg (fun z => z.1 h200)]
                exact ⟨rfl, H, rfl, fun _ _ => rfl, hS⟩
              · have hO : bkO a kd m w l := ⟨h200, by omega, by omega, by omega, by omega⟩
                rw [if_pos h200, if_pos h200, if_pos hO, if_pos hO]
                refine ⟨rfl, _, rfl, fun o ho => by unfold ntH; rw [am_up_ne (by omega), am_up_ne (by omega), am_up_ne (by omega), am_up_ne (by omega), am_up_ne (by omega), am_up_ne (by omega), am_up_ne (by omega), am_up_ne (by omega), am_up_ne (by omega)], ?_⟩
                exact RS_st hI hS (fun o ho => by unfold ntH; rw [am_up_ne (by omega), am_up_ne (by omega), am_up_ne (by omega), am_up_ne (by omega), am_up_ne (by omega), am_up_ne (by omega), am_up_ne (by omega), am_up_ne (by omega), am_up_ne (by omega)]) (RT_bk hI hT h200 (by rw [if_neg (by omega)])) (fun k hk => bg_k (by omega) (by omega) (by omega))
          · refine st_iconst rfl ?_
            refine st_iret rfl (fun z => by first | exact absurd z (by decide) | exact bi_01 _ | decide | omega) ?_
            exact ⟨am_ri (by rw [if_neg (fun z => by have := z.2; omega)]), H, rfl, fun _ _ => rfl, by rw [if_neg (fun z => by have := z.2; omega)]; exact hS⟩
