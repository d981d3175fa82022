/-! ===== the class: parts ===== -/
theorem r_Part_of {d N : Nat} {P : am_P} {H : am_H} {kd v g c : Int} (h : (0 ≤ kd ∧ kd ≤ 6) ∧ (0 ≤ v ∧ v < 65536) ∧ (0 ≤ g ∧ g < 1048576) ∧ (0 ≤ c ∧ c < 16)) : am_R (d + 1) 169 [am_i (kd), am_i (v), am_i (g), am_i (c)] (N, P, H) (some (am_l (pkF kd v g c))) (N, P, H) := by
  refine am_en1 (d := d + 0) (ml := 4) (ls := [_, _, _, _]) cq_Part_of rfl (Nat.le_of_ble_eq_true rfl) rfl ?_
  refine st_iload_n rfl rfl ?_
  refine st_i2l rfl ?_
  refine st_bipush rfl ?_
  refine st_lshl rfl (lb_shl 40 (by decide) (by decide) (by omega) (by omega) : _ = kd * 2 ^ 40) ?_
  refine st_iload_n rfl rfl ?_
  refine st_i2l rfl ?_
  refine st_bipush rfl ?_
  refine st_lshl rfl (lb_shl 24 (by decide) (by decide) (by omega) (by omega) : _ = v * 2 ^ 24) ?_
  refine st_lor rfl (lb_or 40 (by omega) (by omega) (by omega) (by omega)) ?_
  refine st_iload_n rfl rfl ?_
  refine st_i2l rfl ?_
  refine st_iconst rfl ?_
  refine st_lshl rfl (lb_shl 4 (by decide) (by decide) (by omega) (by omega) : _ = g * 2 ^ 4) ?_
  refine st_lor rfl (lb_or 24 (by omega) (by omega) (by omega) (by omega)) ?_
  refine st_iload_n rfl rfl ?_
  refine st_i2l rfl ?_
  refine st_lor rfl (lb_or 4 (by omega) (by omega) (by omega) (by omega)) ?_
  refine st_lret rfl ?_
  exact ⟨by unfold pkF; rfl, rfl⟩
theorem r_Part_kindOf {d N : Nat} {P : am_P} {H : am_H} {kd v g c : Int} (h : (0 ≤ kd ∧ kd ≤ 6) ∧ (0 ≤ v ∧ v < 65536) ∧ (0 ≤ g ∧ g < 1048576) ∧ (0 ≤ c ∧ c < 16)) : am_R (d + 1) 170 [am_l (pkF kd v g c)] (N, P, H) (some (am_i (kd))) (N, P, H) := by
  refine am_en1 (d := d + 0) (ml := 2) (ls := [_, _]) cq_Part_kindOf rfl (Nat.le_of_ble_eq_true rfl) rfl ?_
  have hpk : pkF kd v g c = kd * 1099511627776 + v * 16777216 + g * 16 + c := rfl
  refine st_lload_n rfl rfl ?_
  refine st_bipush rfl ?_
  refine st_lshr rfl (lb_shr (n := 40) (by omega) (by decide) (by decide)) ?_
  refine st_l2i rfl rfl ?_
  refine st_iret rfl (fun z => by first | exact absurd z (by decide) | exact bi_01 _ | decide | omega) ?_
  refine ⟨am_ri ?_, rfl⟩
  unfold w32
  omega
theorem r_Part_valueOf {d N : Nat} {P : am_P} {H : am_H} {kd v g c : Int} (h : (0 ≤ kd ∧ kd ≤ 6) ∧ (0 ≤ v ∧ v < 65536) ∧ (0 ≤ g ∧ g < 1048576) ∧ (0 ≤ c ∧ c < 16)) : am_R (d + 1) 171 [am_l (pkF kd v g c)] (N, P, H) (some (am_i (v))) (N, P, H) := by
  refine am_en1 (d := d + 0) (ml := 2) (ls := [_, _]) cq_Part_valueOf rfl (Nat.le_of_ble_eq_true rfl) rfl ?_
  have hpk : pkF kd v g c = kd * 1099511627776 + v * 16777216 + g * 16 + c := rfl
  refine st_lload_n rfl rfl ?_
  refine st_bipush rfl ?_
  refine st_lshr rfl (lb_shr (n := 24) (by omega) (by decide) (by decide)) ?_
  refine st_l2i rfl rfl ?_
  refine st_ldc rfl ?_
  refine st_iand rfl rfl ?_
  refine st_iret rfl (fun z => by first | exact absurd z (by decide) | exact bi_01 _ | decide | omega) ?_
  refine ⟨am_ri ?_, rfl⟩
  rw [bt_m16]
  unfold w32
  omega
theorem r_Part_digitsOf {d N : Nat} {P : am_P} {H : am_H} {kd v g c : Int} (h : (0 ≤ kd ∧ kd ≤ 6) ∧ (0 ≤ v ∧ v < 65536) ∧ (0 ≤ g ∧ g < 1048576) ∧ (0 ≤ c ∧ c < 16)) : am_R (d + 1) 172 [am_l (pkF kd v g c)] (N, P, H) (some (am_i (g))) (N, P, H) := by
  refine am_en1 (d := d + 0) (ml := 2) (ls := [_, _]) cq_Part_digitsOf rfl (Nat.le_of_ble_eq_true rfl) rfl ?_
  have hpk : pkF kd v g c = kd * 1099511627776 + v * 16777216 + g * 16 + c := rfl
  refine st_lload_n rfl rfl ?_
  refine st_iconst rfl ?_
  refine st_lshr rfl (lb_shr (n := 4) (by omega) (by decide) (by decide)) ?_
  refine st_l2i rfl rfl ?_
  refine st_ldc rfl ?_
  refine st_iand rfl rfl ?_
  refine st_iret rfl (fun z => by first | exact absurd z (by decide) | exact bi_01 _ | decide | omega) ?_
  refine ⟨am_ri ?_, rfl⟩
  rw [bt_m20]
  unfold w32
  omega
theorem r_Part_placesOf {d N : Nat} {P : am_P} {H : am_H} {kd v g c : Int} (h : (0 ≤ kd ∧ kd ≤ 6) ∧ (0 ≤ v ∧ v < 65536) ∧ (0 ≤ g ∧ g < 1048576) ∧ (0 ≤ c ∧ c < 16)) : am_R (d + 1) 173 [am_l (pkF kd v g c)] (N, P, H) (some (am_i (c))) (N, P, H) := by
  refine am_en1 (d := d + 0) (ml := 2) (ls := [_, _]) cq_Part_placesOf rfl (Nat.le_of_ble_eq_true rfl) rfl ?_
  have hpk : pkF kd v g c = kd * 1099511627776 + v * 16777216 + g * 16 + c := rfl
  refine st_lload_n rfl rfl ?_
  refine st_l2i rfl rfl ?_
  refine st_bipush rfl ?_
  refine st_iand rfl rfl ?_
  refine st_iret rfl (fun z => by first | exact absurd z (by decide) | exact bi_01 _ | decide | omega) ?_
  refine ⟨am_ri ?_, rfl⟩
  rw [bt_m4]
  unfold w32
  omega
