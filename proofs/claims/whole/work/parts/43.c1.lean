/-! ===== the class: parts ===== -/
theorem r_Part_of {d N : Nat} {P : am_P} {H : am_H} {kd v g c : Int} (h : (0 ≤ kd ∧ kd ≤ 6) ∧ (0 ≤ v ∧ v < 65536) ∧ (0 ≤ g ∧ g < 1048576) ∧ (0 ≤ c ∧ c < 16)) : am_R (d + 1) 169 [am_i (kd), am_i (v), am_i (g), am_i (c)] (N, P, H) (some (am_l (pkF kd v g c))) (N, P, H) := by
  refine am_en1 (d := d + 0) (ml := 4) (ls := [_, _, _, _]) cq_Part_of rfl (Nat.le_of_ble_eq_true rfl) rfl ?_
  refine st_iload_n rfl rfl ?_
  refine st_i2l rfl ?_
  refine st_bipush rfl ?_
  refine st_lshl rfl (lb_shl 40 (by decide) (by decide) (by omega) (by omega) : _ = kd * 2 ^ 40) ?_
  refine st_iload_n rfl rfl ?_
  refine st_i2l rfl ?_
  refine st_bipush rfl ?_
  refine st_lshl rfl (lb_shl 24 (by decide) (by decide) (by omega) (by omega) : _ = v * 2 ^ 24) ?_
  refine st_lor rfl (lb_or 40 (by omega) (by omega) (by omega) (by omega)) ?_
  refine st_iload_n rfl rfl ?_
  refine st_i2l rfl ?_
  refine st_iconst rfl ?_
  refine st_lshl rfl (lb_shl 4 (by decide) (by decide) (by omega) (by omega) : _ = g * 2 ^ 4) ?_
  refine st_lor rfl (lb_or 24 (by omega) (by omega) (by omega) (by omega)) ?_
  refine st_iload_n rfl rfl ?_
  refine st_i2l rfl ?_
  refine st_lor rfl (lb_or 4 (by omega) (by omega) (by omega) (by omega)) ?_
  refine st_lret rfl ?_
  exact ⟨by unfold pkF; rfl, rfl⟩
theorem r_Part_kindOf {d N : Nat} {P : am_P} {H : am_H} {kd v g c : Int} (h : (0 ≤ kd ∧ kd ≤ 6) ∧ (0 ≤ v ∧ v < 65536) ∧ (0 ≤ g ∧ g < 1048576) ∧ (0 ≤ c ∧ c < 16)) : am_R (d + 1) 170 [am_l (pkF kd v g c)] (N, P, H) (some (am_i (kd))) (N, P, H) := by
  refine am_en1 (d := d + 0) (ml := 2) (ls := [_, _]) cq_Part_kindOf rfl (Nat.le_of_ble_eq_true rfl) rfl ?_
  have hpk : pkF kd v g c = kd * 1099511627776 + v * 16777216 + g * 16 + c := rfl
  refine st_lload_n rfl rfl ?_
  refine st_bipush rfl ?_
  refine st_lshr rfl (lb_shr (n := 40) (by omega) (by decide) (by decide)) ?_
  refine st_l2i rfl rfl ?_
  refine st_iret rfl (fun z => by first | exact absurd z (by decide) | exact bi_01 _ | decide | omega) ?_
  refine ⟨am_ri ?_, rfl⟩
  unfold w32
  omega
theorem r_Part_valueOf {d N : Nat} {P : am_P} {H : am_H} {kd v g c : Int} (h : (0 ≤ kd ∧ kd ≤ 6) ∧ (0 ≤ v ∧ v < 65536) ∧ (0 ≤ g ∧ g < 1048576) ∧ (0 ≤ c ∧ c < 16)) : am_R (d + 1) 171 [am_l (pkF kd v g c)] (N, P, H) (some (am_i (v))) (N, P, H) := by
  refine am_en1 (d := d + 0) (ml := 2) (ls := [_, _]) cq_Part_valueOf rfl (Nat.le_of_ble_eq_true rfl) rfl ?_
  have hpk : pkF kd v g c = kd * 1099511627776 + v * 16777216 + g * 16 + c := rfl
  refine st_lload_n rfl rfl ?_
  refine st_bipush rfl ?_
  refine st_lshr rfl (lb_shr (n := 24) (by omega) (by decide) (by decide)) ?_
  refine st_l2i rfl rfl ?_
  refine st_ldc rfl ?_
  refine st_iand rfl rfl ?_
  refine st_iret rfl (fun z => by first | exact absurd z (by decide) | exact bi_01 _ | decide | omega) ?_
  refine ⟨am_ri ?_, rfl⟩
  rw [bt_m16]
  unfold w32
  omega
theorem r_Part_digitsOf {d N : Nat} {P : am_P} {H : am_H} {kd v g c : Int} (h : (0 ≤ kd ∧ kd ≤ 6) ∧ (0 ≤ v ∧ v < 65536) ∧ (0 ≤ g ∧ g < 1048576) ∧ (0 ≤ c ∧ c < 16)) : am_R (d + 1) 172 [am_l (pkF kd v g c)] (N, P, H) (some (am_i (g))) (N, P, H) := by
  refine am_en1 (d := d + 0) (ml := 2) (ls := [_, _]) cq_Part_digitsOf rfl (Nat.le_of_ble_eq_true rfl) rfl ?_
  have hpk : pkF kd v g c = kd * 1099511627776 + v * 16777216 + g * 16 + c := rfl
  refine st_lload_n rfl rfl ?_
  refine st_iconst rfl ?_
  refine st_lshr rfl (lb_shr (n := 4) (by omega) (by decide) (by decide)) ?_
  refine st_l2i rfl rfl ?_
  refine st_ldc rfl ?_
  refine st_iand rfl rfl ?_
  refine st_iret rfl (fun z => by first | exact absurd z (by decide) | exact bi_01 _ | decide | omega) ?_
  refine ⟨am_ri ?_, rfl⟩
  rw [bt_m20]
  unfold w32
  omega
theorem r_Part_placesOf {d N : Nat} {P : am_P} {H : am_H} {kd v g c : Int} (h : (0 ≤ kd ∧ kd ≤ 6) ∧ (0 ≤ v ∧ v < 65536) ∧ (0 ≤ g ∧ g < 1048576) ∧ (0 ≤ c ∧ c < 16)) : am_R (d + 1) 173 [am_l (pkF kd v g c)] (N, P, H) (some (am_i (c))) (N, P, H) := by
  refine am_en1 (d := d + 0) (ml := 2) (ls := [_, _]) cq_Part_placesOf rfl (Nat.le_of_ble_eq_true rfl) rfl ?_
  have hpk : pkF kd v g c = kd * 1099511627776 + v * 16777216 + g * 16 + c := rfl
  refine st_lload_n rfl rfl ?_
  refine st_l2i rfl rfl ?_
  refine st_bipush rfl ?_
  refine st_iand rfl rfl ?_
  refine st_iret rfl (fun z => by first | exact absurd z (by decide) | exact bi_01 _ | decide | omega) ?_
  refine ⟨am_ri ?_, rfl⟩
  rw [bt_m4]
  unfold w32
  omega
def wkyF (v : Int) : Int := if v < 27 then v * 27 * 27 else if v < 729 then v * 27 else v
theorem wky_fil {v : Int} : wkyF v = filF v (letN v) 3 27 := by
  unfold wkyF filF letN
  split
  · rw [show ((3 : Int) - 1).toNat = 2 by decide, show (27 : Int) ^ 2 = 729 by decide]; omega
  · split
    · rw [show ((3 : Int) - 2).toNat = 1 by decide, show (27 : Int) ^ 1 = 27 by decide]
    · rw [show ((3 : Int) - 3).toNat = 0 by decide, show (27 : Int) ^ 0 = 1 by decide]; omega
theorem tn_pow {c : Int} (h : 0 ≤ c ∧ c ≤ 6) : am_tn c.toNat = 10 ^ c.toNat := by
  have : c = 0 ∨ c = 1 ∨ c = 2 ∨ c = 3 ∨ c = 4 ∨ c = 5 ∨ c = 6 := by omega
  rcases this with rfl | rfl | rfl | rfl | rfl | rfl | rfl <;> decide

theorem r_Part_wordKey {d N : Nat} {P : am_P} {H : am_H} {v : Int} (h : 0 ≤ v ∧ v ≤ 65536) : am_R (d + 1) 175 [am_i (v)] (N, P, H) (some (am_i (wkyF v))) (N, P, H) := by
  refine am_en1 (d := d + 0) (ml := 1) (ls := [_]) cq_Part_wordKey rfl (Nat.le_of_ble_eq_true rfl) rfl ?_
  refine st_iload_n rfl rfl ?_
  refine st_bipush rfl ?_
  refine st_icmp_ge rfl (fun h2 => ?_) (fun h2 => ?_)
  · refine st_iload_n rfl rfl ?_
    refine st_sipush rfl ?_
    refine st_icmp_ge rfl (fun h11 => ?_) (fun h11 => ?_)
    · refine st_iload_n rfl rfl ?_
      refine st_iret rfl (fun z => by first | exact absurd z (by decide) | exact bi_01 _ | decide | omega) ?_
      exact ⟨am_ri (by unfold wkyF; first | rw [if_pos (by omega)] | rw [if_neg (by omega), if_pos (by omega)] | rw [if_neg (by omega), if_neg (by omega)]), rfl⟩
    · refine st_iload_n rfl rfl ?_
      refine st_bipush rfl ?_
      refine st_imul rfl (by omega) ?_
      refine st_goto rfl ?_
      refine st_iret rfl (fun z => by first | exact absurd z (by decide) | exact bi_01 _ | decide | omega) ?_
      exact ⟨am_ri (by unfold wkyF; first | rw [if_pos (by omega)] | rw [if_neg (by omega), if_pos (by omega)] | rw [if_neg (by omega), if_neg (by omega)]), rfl⟩
  · refine st_iload_n rfl rfl ?_
    refine st_bipush rfl ?_
    refine st_imul rfl (by omega) ?_
    refine st_bipush rfl ?_
    refine st_imul rfl (by omega) ?_
    refine st_iret rfl (fun z => by first | exact absurd z (by decide) | exact bi_01 _ | decide | omega) ?_
    exact ⟨am_ri (by unfold wkyF; first | rw [if_pos (by omega)] | rw [if_neg (by omega), if_pos (by omega)] | rw [if_neg (by omega), if_neg (by omega)]), rfl⟩
theorem r_Part_digitKey {d N : Nat} {P : am_P} {H : am_H} {g c : Int} (h : 0 ≤ c ∧ c ≤ 6) (h1 : 0 ≤ g ∧ filF g c 6 10 < 1000000) : am_R (d + 1) 176 [am_i (g), am_i (c)] (N, P, H) (some (am_i (filF g c 6 10))) (N, P, H) := by
  refine am_en1 (d := d + 0) (ml := 3) (ls := [_, _, _]) cq_Part_digitKey rfl (Nat.le_of_ble_eq_true rfl) rfl ?_
  have htn := tn_pow (c := 6 - c) (by omega)
  have hfl : filF g c 6 10 = g * am_tn (6 - c).toNat := by unfold filF; rw [htn]
  have hpos : 0 ≤ g * am_tn (6 - c).toNat := Int.mul_nonneg h1.1 (by rw [htn]; exact Int.pow_nonneg (by omega))
  refine st_getstatic rfl ?_
  refine st_alenT rfl ?_
  refine st_iconst rfl ?_
  refine st_isub rfl (by omega) ?_
  rw [show (7 : Int) - 1 = 6 from rfl]
  refine st_iload_n rfl rfl ?_
  refine st_isub rfl (by omega) ?_
  refine st_istore_n (ls' := [_, _, _]) rfl (Nat.le_of_ble_eq_true rfl) rfl ?_
  refine st_iload_n rfl rfl ?_
  refine st_if_lt rfl (fun h8 => (by exfalso; omega)) (fun h8 => ?_)
  refine st_iload_n rfl rfl ?_
  refine st_getstatic rfl ?_
  refine st_alenT rfl ?_
  refine st_icmp_ge rfl (fun h12 => (by exfalso; omega)) (fun h12 => ?_)
  refine st_iload_n rfl rfl ?_
  refine st_getstatic rfl ?_
  refine st_iload_n rfl rfl ?_
  refine st_iatens rfl (by omega) (by omega) ?_
  refine st_imul rfl (by omega) ?_
  refine st_goto rfl ?_
  refine st_iret rfl (fun z => by first | exact absurd z (by decide) | exact bi_01 _ | decide | omega) ?_
  exact ⟨am_ri (by rw [hfl]), rfl⟩
theorem cmp_sgn (x y : Int) : (if x < y then (-1 : Int) else if x = y then 0 else 1) = sgn (x - y) := by
  unfold sgn
  repeat' split
  all_goals omega
def paF (kd v g c kd' v' g' c' w : Int) : Int := if kd ≠ kd' then sgn (kd - kd') else if kd = 0 then sgn (wkyF v - wkyF v') else if v ≠ v' then sgn (v - v') else if w = 0 then sgn (filF g c 6 10 - filF g' c' 6 10) else if c ≠ c' then sgn (c - c') else sgn (g - g')
theorem PVal.pk {kd v g c : Int} (h : PVal kd v g c) : (0 ≤ kd ∧ kd ≤ 6) ∧ (0 ≤ v ∧ v < 65536) ∧ (0 ≤ g ∧ g < 1048576) ∧ (0 ≤ c ∧ c < 16) := by
  have := h.g
  obtain ⟨h1, h2, h3, h4, h5⟩ := h
  omega

theorem r_Part_compare {d N : Nat} {P : am_P} {H : am_H} {kd v g c kd' v' g' c' w : Int} (hx : PVal kd v g c) (hy : PVal kd' v' g' c') : am_R (d + 2) 174 [am_l (pkF kd v g c), am_l (pkF kd' v' g' c'), am_i (w)] (N, P, H) (some (am_i (paF kd v g c kd' v' g' c' w))) (N, P, H) := by
  refine am_en1 (d := d + 1) (ml := 5) (ls := [_, _, _, _, _]) cq_Part_compare rfl (Nat.le_of_ble_eq_true rfl) rfl ?_
  have hxp := hx.pk
  have hyp := hy.pk
  refine st_lload_n rfl rfl ?_
  refine st_cs1 (w := []) rfl (by decide) (by decide) (by decide) (Nat.le_of_ble_eq_true rfl) (Nat.le_of_ble_eq_true rfl) rfl rfl (r_Part_kindOf (kd := kd) (v := v) (g := g) (c := c) hx.pk) ?_
  refine st_lload_n rfl rfl ?_
  refine st_cs1 (w := [_]) rfl (by decide) (by decide) (by decide) (Nat.le_of_ble_eq_true rfl) (Nat.le_of_ble_eq_true rfl) rfl rfl (r_Part_kindOf (kd := kd') (v := v') (g := g') (c := c') hy.pk) ?_
  refine st_icmp_eq rfl (fun h4 => ?_) (fun h4 => ?_)
  · refine st_lload_n rfl rfl ?_
    refine st_cs1 (w := []) rfl (by decide) (by decide) (by decide) (Nat.le_of_ble_eq_true rfl) (Nat.le_of_ble_eq_true rfl) rfl rfl (r_Part_kindOf (kd := kd) (v := v) (g := g) (c := c) hx.pk) ?_
    refine st_if_ne rfl (fun h13 => ?_) (fun h13 => ?_)
    · refine st_lload_n rfl rfl ?_
      refine st_cs1 (w := []) rfl (by decide) (by decide) (by decide) (Nat.le_of_ble_eq_true rfl) (Nat.le_of_ble_eq_true rfl) rfl rfl (r_Part_valueOf (kd := kd) (v := v) (g := g) (c := c) hx.pk) ?_
      refine st_lload_n rfl rfl ?_
      refine st_cs1 (w := [_]) rfl (by decide) (by decide) (by decide) (Nat.le_of_ble_eq_true rfl) (Nat.le_of_ble_eq_true rfl) rfl rfl (r_Part_valueOf (kd := kd') (v := v') (g := g') (c := c') hy.pk) ?_
      refine st_icmp_eq rfl (fun h26 => ?_) (fun h26 => ?_)
      · refine st_iload rfl rfl ?_
        refine st_if_ne rfl (fun h34 => ?_) (fun h34 => ?_)
        · refine st_lload_n rfl rfl ?_
          refine st_cs1 (w := []) rfl (by decide) (by decide) (by decide) (Nat.le_of_ble_eq_true rfl) (Nat.le_of_ble_eq_true rfl) rfl rfl (r_Part_placesOf (kd := kd) (v := v) (g := g) (c := c) hx.pk) ?_
          refine st_lload_n rfl rfl ?_
          refine st_cs1 (w := [_]) rfl (by decide) (by decide) (by decide) (Nat.le_of_ble_eq_true rfl) (Nat.le_of_ble_eq_true rfl) rfl rfl (r_Part_placesOf (kd := kd') (v := v') (g := g') (c := c') hy.pk) ?_
          refine st_icmp_eq rfl (fun h51 => ?_) (fun h51 => ?_)
          · refine st_lload_n rfl rfl ?_
            refine st_cs1 (w := []) rfl (by decide) (by decide) (by decide) (Nat.le_of_ble_eq_true rfl) (Nat.le_of_ble_eq_true rfl) rfl rfl (r_Part_digitsOf (kd := kd) (v := v) (g := g) (c := c) hx.pk) ?_
            refine st_lload_n rfl rfl ?_
            refine st_cs1 (w := [_]) rfl (by decide) (by decide) (by decide) (Nat.le_of_ble_eq_true rfl) (Nat.le_of_ble_eq_true rfl) rfl rfl (r_Part_digitsOf (kd := kd') (v := v') (g := g') (c := c') hy.pk) ?_
            refine st_cs1 (w := []) rfl (by decide) (by decide) (by decide) (Nat.le_of_ble_eq_true rfl) (Nat.le_of_ble_eq_true rfl) rfl rfl (r_Integer_compare) ?_
            refine st_iret rfl (fun z => by first | exact absurd z (by decide) | exact bi_01 _ | decide | omega) ?_
            refine ⟨am_ri ?_, rfl⟩
            rw [cmp_sgn]
            unfold paF
            first
            | rw [if_pos (by omega)]
            | rw [if_neg (by omega), if_pos (by omega)]
            | rw [if_neg (by omega), if_neg (by omega), if_pos (by omega)]
            | rw [if_neg (by omega), if_neg (by omega), if_neg (by omega), if_pos (by omega)]
            | rw [if_neg (by omega), if_neg (by omega), if_neg (by omega), if_neg (by omega), if_pos (by omega)]
            | rw [if_neg (by omega), if_neg (by omega), if_neg (by omega), if_neg (by omega), if_neg (by omega)]
          · refine st_lload_n rfl rfl ?_
            refine st_cs1 (w := []) rfl (by decide) (by decide) (by decide) (Nat.le_of_ble_eq_true rfl) (Nat.le_of_ble_eq_true rfl) rfl rfl (r_Part_placesOf (kd := kd) (v := v) (g := g) (c := c) hx.pk) ?_
            refine st_lload_n rfl rfl ?_
            refine st_cs1 (w := [_]) rfl (by decide) (by decide) (by decide) (Nat.le_of_ble_eq_true rfl) (Nat.le_of_ble_eq_true rfl) rfl rfl (r_Part_placesOf (kd := kd') (v := v') (g := g') (c := c') hy.pk) ?_
            refine st_cs1 (w := []) rfl (by decide) (by decide) (by decide) (Nat.le_of_ble_eq_true rfl) (Nat.le_of_ble_eq_true rfl) rfl rfl (r_Integer_compare) ?_
            refine st_iret rfl (fun z => by first | exact absurd z (by decide) | exact bi_01 _ | decide | omega) ?_
            refine ⟨am_ri ?_, rfl⟩
            rw [cmp_sgn]
            unfold paF
            first
            | rw [if_pos (by omega)]
            | rw [if_neg (by omega), if_pos (by omega)]
            | rw [if_neg (by omega), if_neg (by omega), if_pos (by omega)]
            | rw [if_neg (by omega), if_neg (by omega), if_neg (by omega), if_pos (by omega)]
            | rw [if_neg (by omega), if_neg (by omega), if_neg (by omega), if_neg (by omega), if_pos (by omega)]
            | rw [if_neg (by omega), if_neg (by omega), if_neg (by omega), if_neg (by omega), if_neg (by omega)]
        · refine st_lload_n rfl rfl ?_
          refine st_cs1 (w := []) rfl (by decide) (by decide) (by decide) (Nat.le_of_ble_eq_true rfl) (Nat.le_of_ble_eq_true rfl) rfl rfl (r_Part_digitsOf (kd := kd) (v := v) (g := g) (c := c) hx.pk) ?_
          refine st_lload_n rfl rfl ?_
          refine st_cs1 (w := [_]) rfl (by decide) (by decide) (by decide) (Nat.le_of_ble_eq_true rfl) (Nat.le_of_ble_eq_true rfl) rfl rfl (r_Part_placesOf (kd := kd) (v := v) (g := g) (c := c) hx.pk) ?_
          refine st_cs1 (w := []) rfl (by decide) (by decide) (by decide) (Nat.le_of_ble_eq_true rfl) (Nat.le_of_ble_eq_true rfl) rfl rfl (r_Part_digitKey hx.2.2.1 hx.2.2.2.1) ?_
          refine st_lload_n rfl rfl ?_
          refine st_cs1 (w := [_]) rfl (by decide) (by decide) (by decide) (Nat.le_of_ble_eq_true rfl) (Nat.le_of_ble_eq_true rfl) rfl rfl (r_Part_digitsOf (kd := kd') (v := v') (g := g') (c := c') hy.pk) ?_
          refine st_lload_n rfl rfl ?_
          refine st_cs1 (w := [_, _]) rfl (by decide) (by decide) (by decide) (Nat.le_of_ble_eq_true rfl) (Nat.le_of_ble_eq_true rfl) rfl rfl (r_Part_placesOf (kd := kd') (v := v') (g := g') (c := c') hy.pk) ?_
          refine st_cs1 (w := [_]) rfl (by decide) (by decide) (by decide) (Nat.le_of_ble_eq_true rfl) (Nat.le_of_ble_eq_true rfl) rfl rfl (r_Part_digitKey hy.2.2.1 hy.2.2.2.1) ?_
          refine st_cs1 (w := []) rfl (by decide) (by decide) (by decide) (Nat.le_of_ble_eq_true rfl) (Nat.le_of_ble_eq_true rfl) rfl rfl (r_Integer_compare) ?_
          refine st_iret rfl (fun z => by first | exact absurd z (by decide) | exact bi_01 _ | decide | omega) ?_
          refine ⟨am_ri ?_, rfl⟩
          rw [cmp_sgn]
          unfold paF
          first
          | rw [if_pos (by omega)]
          | rw [if_neg (by omega), if_pos (by omega)]
          | rw [if_neg (by omega), if_neg (by omega), if_pos (by omega)]
          | rw [if_neg (by omega), if_neg (by omega), if_neg (by omega), if_pos (by omega)]
          | rw [if_neg (by omega), if_neg (by omega), if_neg (by omega), if_neg (by omega), if_pos (by omega)]
          | rw [if_neg (by omega), if_neg (by omega), if_neg (by omega), if_neg (by omega), if_neg (by omega)]
      · refine st_lload_n rfl rfl ?_
        refine st_cs1 (w := []) rfl (by decide) (by decide) (by decide) (Nat.le_of_ble_eq_true rfl) (Nat.le_of_ble_eq_true rfl) rfl rfl (r_Part_valueOf (kd := kd) (v := v) (g := g) (c := c) hx.pk) ?_
        refine st_lload_n rfl rfl ?_
        refine st_cs1 (w := [_]) rfl (by decide) (by decide) (by decide) (Nat.le_of_ble_eq_true rfl) (Nat.le_of_ble_eq_true rfl) rfl rfl (r_Part_valueOf (kd := kd') (v := v') (g := g') (c := c') hy.pk) ?_
        refine st_cs1 (w := []) rfl (by decide) (by decide) (by decide) (Nat.le_of_ble_eq_true rfl) (Nat.le_of_ble_eq_true rfl) rfl rfl (r_Integer_compare) ?_
        refine st_iret rfl (fun z => by first | exact absurd z (by decide) | exact bi_01 _ | decide | omega) ?_
        refine ⟨am_ri ?_, rfl⟩
        rw [cmp_sgn]
        unfold paF
        first
        | rw [if_pos (by omega)]
        | rw [if_neg (by omega), if_pos (by omega)]
        | rw [if_neg (by omega), if_neg (by omega), if_pos (by omega)]
        | rw [if_neg (by omega), if_neg (by omega), if_neg (by omega), if_pos (by omega)]
        | rw [if_neg (by omega), if_neg (by omega), if_neg (by omega), if_neg (by omega), if_pos (by omega)]
        | rw [if_neg (by omega), if_neg (by omega), if_neg (by omega), if_neg (by omega), if_neg (by omega)]
    · refine st_lload_n rfl rfl ?_
      refine st_cs1 (w := []) rfl (by decide) (by decide) (by decide) (Nat.le_of_ble_eq_true rfl) (Nat.le_of_ble_eq_true rfl) rfl rfl (r_Part_valueOf (kd := kd) (v := v) (g := g) (c := c) hx.pk) ?_
      refine st_cs1 (w := []) rfl (by decide) (by decide) (by decide) (Nat.le_of_ble_eq_true rfl) (Nat.le_of_ble_eq_true rfl) rfl rfl (r_Part_wordKey (by omega)) ?_
      refine st_lload_n rfl rfl ?_
      refine st_cs1 (w := [_]) rfl (by decide) (by decide) (by decide) (Nat.le_of_ble_eq_true rfl) (Nat.le_of_ble_eq_true rfl) rfl rfl (r_Part_valueOf (kd := kd') (v := v') (g := g') (c := c') hy.pk) ?_
      refine st_cs1 (w := [_]) rfl (by decide) (by decide) (by decide) (Nat.le_of_ble_eq_true rfl) (Nat.le_of_ble_eq_true rfl) rfl rfl (r_Part_wordKey (by omega)) ?_
      refine st_cs1 (w := []) rfl (by decide) (by decide) (by decide) (Nat.le_of_ble_eq_true rfl) (Nat.le_of_ble_eq_true rfl) rfl rfl (r_Integer_compare) ?_
      refine st_iret rfl (fun z => by first | exact absurd z (by decide) | exact bi_01 _ | decide | omega) ?_
      refine ⟨am_ri ?_, rfl⟩
      rw [cmp_sgn]
      unfold paF
      first
      | rw [if_pos (by omega)]
      | rw [if_neg (by omega), if_pos (by omega)]
      | rw [if_neg (by omega), if_neg (by omega), if_pos (by omega)]
      | rw [if_neg (by omega), if_neg (by omega), if_neg (by omega), if_pos (by omega)]
      | rw [if_neg (by omega), if_neg (by omega), if_neg (by omega), if_neg (by omega), if_pos (by omega)]
      | rw [if_neg (by omega), if_neg (by omega), if_neg (by omega), if_neg (by omega), if_neg (by omega)]
  · refine st_lload_n rfl rfl ?_
    refine st_cs1 (w := []) rfl (by decide) (by decide) (by decide) (Nat.le_of_ble_eq_true rfl) (Nat.le_of_ble_eq_true rfl) rfl rfl (r_Part_kindOf (kd := kd) (v := v) (g := g) (c := c) hx.pk) ?_
    refine st_lload_n rfl rfl ?_
    refine st_cs1 (w := [_]) rfl (by decide) (by decide) (by decide) (Nat.le_of_ble_eq_true rfl) (Nat.le_of_ble_eq_true rfl) rfl rfl (r_Part_kindOf (kd := kd') (v := v') (g := g') (c := c') hy.pk) ?_
    refine st_cs1 (w := []) rfl (by decide) (by decide) (by decide) (Nat.le_of_ble_eq_true rfl) (Nat.le_of_ble_eq_true rfl) rfl rfl (r_Integer_compare) ?_
    refine st_iret rfl (fun z => by first | exact absurd z (by decide) | exact bi_01 _ | decide | omega) ?_
    refine ⟨am_ri ?_, rfl⟩
    rw [cmp_sgn]
    unfold paF
    first
    | rw [if_pos (by omega)]
    | rw [if_neg (by omega), if_pos (by omega)]
    | rw [if_neg (by omega), if_neg (by omega), if_pos (by omega)]
    | rw [if_neg (by omega), if_neg (by omega), if_neg (by omega), if_pos (by omega)]
    | rw [if_neg (by omega), if_neg (by omega), if_neg (by omega), if_neg (by omega), if_pos (by omega)]
    | rw [if_neg (by omega), if_neg (by omega), if_neg (by omega), if_neg (by omega), if_neg (by omega)]
