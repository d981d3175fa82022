/-! ===== the class: marks written ===== -/
theorem nd_pl {kd v g c : Int} (h : PVal kd v g c) (hc : 1 ≤ c) : (ndF g c : Int) = c ∧ ndF g c = c.toNat := by
  obtain ⟨-, -, h3, h4, -⟩ := h
  have hcc : c = 1 ∨ c = 2 ∨ c = 3 ∨ c = 4 ∨ c = 5 ∨ c = 6 := by omega
  have h4 := h4
  have p : ∀ n : Nat, (10 : Int) ^ n = (10 : Int) ^ n := fun _ => rfl
  unfold ndF
  rcases hcc with rfl | rfl | rfl | rfl | rfl | rfl
  · rw [show ((6 : Int) - 1).toNat = 5 by decide, show (10 : Int) ^ 5 = 100000 by decide] at h4
    (repeat' split) <;> omega
  · rw [show ((6 : Int) - 2).toNat = 4 by decide, show (10 : Int) ^ 4 = 10000 by decide] at h4
    (repeat' split) <;> omega
  · rw [show ((6 : Int) - 3).toNat = 3 by decide, show (10 : Int) ^ 3 = 1000 by decide] at h4
    (repeat' split) <;> omega
  · rw [show ((6 : Int) - 4).toNat = 2 by decide, show (10 : Int) ^ 2 = 100 by decide] at h4
    (repeat' split) <;> omega
  · rw [show ((6 : Int) - 5).toNat = 1 by decide, show (10 : Int) ^ 1 = 10 by decide] at h4
    (repeat' split) <;> omega
  · rw [show ((6 : Int) - 6).toNat = 0 by decide, show (10 : Int) ^ 0 = 1 by decide] at h4
    (repeat' split) <;> omega

theorem r_Part_spellNumber {d N : Nat} {P : am_P} {H : am_H} {s : OS} {v c : Int} (hP : PZ P) (hv : 0 ≤ v ∧ v < 1000000) (hc : 0 ≤ c ∧ c < 256) (h0 : 0 ≤ s.2) (h1 : s.2 + 1 + (ndF v 1 : Int) ≤ 60) : am_R (d + 3) 180 [am_i (c), am_i (v), am_r 8] (N, P, wH H s) none (N, P, wH H (nbF v (ndF v 1) (inkF s c))) := by
  refine am_en1 (d := d + 2) (ml := 3) (ls := [_, _, _]) cq_Part_spellNumber rfl (Nat.le_of_ble_eq_true rfl) rfl ?_
  have hnd := nd_c hv.1 hv.2
  refine st_aload_n rfl rfl (by decide) ?_
  refine st_iload_n rfl rfl ?_
  refine st_cv0 (w := []) rfl rfl rfl (Nat.le_of_ble_eq_true rfl) (Nat.le_of_ble_eq_true rfl) rfl rfl (r_add_w hP h0 (by omega)) ?_
  rw [show c % 256 = c by omega]
  refine st_aload_n rfl rfl (by decide) ?_
  refine st_iload_n rfl rfl ?_
  refine st_iload_n rfl rfl ?_
  refine st_cs1 (w := [_, _]) rfl (by decide) (by decide) (by decide) (Nat.le_of_ble_eq_true rfl) (Nat.le_of_ble_eq_true rfl) rfl rfl (r_Part_lengthOfNumber hv) ?_
  refine st_cv0 (w := []) rfl rfl rfl (Nat.le_of_ble_eq_true rfl) (Nat.le_of_ble_eq_true rfl) rfl rfl (r_ByteRow_addDigits (s := inkF s c) hP hv (by omega) (by rw [inkF_2]; omega) (by rw [inkF_2]; omega)) ?_
  refine st_ret rfl ?_
  exact ⟨rfl, rfl⟩
theorem r_spellDigits1 {d N : Nat} {P : am_P} {H : am_H} {s : OS} {kd v g c : Int} (hP : PZ P) (hp : PVal kd v g c) (hc : 1 ≤ c) (h0 : 0 ≤ s.2) (h1 : s.2 + 1 + c ≤ 60) : am_R (d + 3) 179 [am_i (46), am_i (-1), am_l (pkF kd v g c), am_r 8] (N, P, wH H s) none (N, P, wH H (nbF g (ndF g c) (inkF s 46))) := by
  refine am_en1 (d := d + 2) (ml := 5) (ls := [_, _, _, _, _]) cq_Part_spellDigits rfl (Nat.le_of_ble_eq_true rfl) rfl ?_
  have hnd := nd_pl hp hc
  have hg := hp.g
  have hc6 := hp.2.2.1
  refine st_aload rfl rfl (by decide) ?_
  refine st_iload_n rfl rfl ?_
  refine st_cv0 (w := []) rfl rfl rfl (Nat.le_of_ble_eq_true rfl) (Nat.le_of_ble_eq_true rfl) rfl rfl (r_add_w hP h0 (by omega)) ?_
  rw [show (46 : Int) % 256 = 46 from rfl]
  refine st_iload_n rfl rfl ?_
  refine st_iconst rfl ?_
  refine st_icmp_eq rfl (fun h5 => ?_) (fun h5 => (by exfalso; omega))
  refine st_aload rfl rfl (by decide) ?_
  refine st_lload_n rfl rfl ?_
  refine st_cs1 (w := [_]) rfl (by decide) (by decide) (by decide) (Nat.le_of_ble_eq_true rfl) (Nat.le_of_ble_eq_true rfl) rfl rfl (r_Part_digitsOf hp.pk) ?_
  refine st_lload_n rfl rfl ?_
  refine st_cs1 (w := [_, _]) rfl (by decide) (by decide) (by decide) (Nat.le_of_ble_eq_true rfl) (Nat.le_of_ble_eq_true rfl) rfl rfl (r_Part_placesOf hp.pk) ?_
  refine st_cv0 (w := []) rfl rfl rfl (Nat.le_of_ble_eq_true rfl) (Nat.le_of_ble_eq_true rfl) rfl rfl ((show am_R _ _ [am_r 8, am_i g, am_i c] _ _ _ from by have hz := r_ByteRow_addDigits (d := d) (N := N) (P := P) (H := H) (s := inkF s 46) (v := g) (n := ndF g c) hP hg (by omega) (by simp only [inkF_2]; omega) (by simp only [inkF_2]; omega); rw [hnd.1] at hz; exact hz)) ?_
  refine st_ret rfl ?_
  exact ⟨rfl, rfl⟩
theorem r_spellDigits2 {d N : Nat} {P : am_P} {H : am_H} {s : OS} {kd v g c lt : Int} (hP : PZ P) (hp : PVal kd v g c) (hc : 1 ≤ c) (h0 : 0 ≤ s.2) (hl : 0 ≤ lt ∧ lt < 256) (h1 : s.2 + 2 + c ≤ 60) : am_R (d + 3) 179 [am_i (46), am_i (lt), am_l (pkF kd v g c), am_r 8] (N, P, wH H s) none (N, P, wH H (nbF g (ndF g c) (inkF (inkF s 46) lt))) := by
  refine am_en1 (d := d + 2) (ml := 5) (ls := [_, _, _, _, _]) cq_Part_spellDigits rfl (Nat.le_of_ble_eq_true rfl) rfl ?_
  have hnd := nd_pl hp hc
  have hg := hp.g
  have hc6 := hp.2.2.1
  refine st_aload rfl rfl (by decide) ?_
  refine st_iload_n rfl rfl ?_
  refine st_cv0 (w := []) rfl rfl rfl (Nat.le_of_ble_eq_true rfl) (Nat.le_of_ble_eq_true rfl) rfl rfl (r_add_w hP h0 (by omega)) ?_
  rw [show (46 : Int) % 256 = 46 from rfl]
  refine st_iload_n rfl rfl ?_
  refine st_iconst rfl ?_
  refine st_icmp_eq rfl (fun h5 => (by exfalso; omega)) (fun h5 => ?_)
  refine st_aload rfl rfl (by decide) ?_
  refine st_iload_n rfl rfl ?_
  refine st_cv0 (w := []) rfl rfl rfl (Nat.le_of_ble_eq_true rfl) (Nat.le_of_ble_eq_true rfl) rfl rfl (r_add_w (s := inkF s 46) hP (by rw [inkF_2]; omega) (by rw [inkF_2]; omega)) ?_
  rw [show lt % 256 = lt by omega]
  refine st_aload rfl rfl (by decide) ?_
  refine st_lload_n rfl rfl ?_
  refine st_cs1 (w := [_]) rfl (by decide) (by decide) (by decide) (Nat.le_of_ble_eq_true rfl) (Nat.le_of_ble_eq_true rfl) rfl rfl (r_Part_digitsOf hp.pk) ?_
  refine st_lload_n rfl rfl ?_
  refine st_cs1 (w := [_, _]) rfl (by decide) (by decide) (by decide) (Nat.le_of_ble_eq_true rfl) (Nat.le_of_ble_eq_true rfl) rfl rfl (r_Part_placesOf hp.pk) ?_
  refine st_cv0 (w := []) rfl rfl rfl (Nat.le_of_ble_eq_true rfl) (Nat.le_of_ble_eq_true rfl) rfl rfl ((show am_R _ _ [am_r 8, am_i g, am_i c] _ _ _ from by have hz := r_ByteRow_addDigits (d := d) (N := N) (P := P) (H := H) (s := inkF (inkF s 46) lt) (v := g) (n := ndF g c) hP hg (by omega) (by simp only [inkF_2]; omega) (by simp only [inkF_2]; omega); rw [hnd.1] at hz; exact hz)) ?_
  refine st_ret rfl ?_
  exact ⟨rfl, rfl⟩
theorem r_Part_spell {d N : Nat} {P : am_P} {H : am_H} {s : OS} {kd v g c : Int} (hP : PZ P) (hp : PVal kd v g c) (h4 : kd = 4 → v ≤ 26) (h0 : 0 ≤ s.2) (h1 : s.2 + pwL kd v g c ≤ 60) : am_R (d + 4) 177 [am_l (pkF kd v g c), am_r 8] (N, P, wH H s) none (N, P, wH H (pwF kd v g c s)) := by
  refine am_en1 (d := d + 3) (ml := 4) (ls := [_, _, _, _]) cq_Part_spell rfl (Nat.le_of_ble_eq_true rfl) rfl ?_
  have hv := hp.2.1
  have hk := hp.1
  have h5 := hp.2.2.2.2
  have hnd := nd_c (v := v) (by omega) (by omega)
  refine st_lload_n rfl rfl ?_
  refine st_cs1 (w := []) rfl (by decide) (by decide) (by decide) (Nat.le_of_ble_eq_true rfl) (Nat.le_of_ble_eq_true rfl) rfl rfl (r_Part_valueOf hp.pk) ?_
  refine st_istore_n (ls' := [_, _, _, _]) rfl (Nat.le_of_ble_eq_true rfl) rfl ?_
  refine st_lload_n rfl rfl ?_
  refine st_cs1 (w := []) rfl (by decide) (by decide) (by decide) (Nat.le_of_ble_eq_true rfl) (Nat.le_of_ble_eq_true rfl) rfl rfl (r_Part_kindOf hp.pk) ?_
  by_cases h5_0 : kd = 0
  · refine st_swC (c := 0) rfl h5_0 (t := 6) (by decide +kernel) ?_
    have hw : s.2 + letN v ≤ 60 := by rw [h5_0] at h1; exact h1
    refine st_iload_n rfl rfl ?_
    refine st_aload_n rfl rfl (by decide) ?_
    refine st_cs0 (w := []) rfl (by decide) (by decide) (by decide) (Nat.le_of_ble_eq_true rfl) (Nat.le_of_ble_eq_true rfl) rfl rfl (r_Part_spellLetters hP hv h0 hw) ?_
    refine st_goto rfl ?_
    refine st_ret rfl ?_
    refine ⟨rfl, ?_⟩
    unfold pwF
    first
    | rw [if_pos (by omega)]
    | rw [if_neg (show ¬ kd = 0 by omega), if_pos (by omega)]
    | rw [if_neg (show ¬ kd = 0 by omega), if_neg (show ¬ kd = 1 by omega), if_pos (by omega)]
    | rw [if_neg (show ¬ kd = 0 by omega), if_neg (show ¬ kd = 1 by omega), if_neg (show ¬ kd = 2 by omega), if_pos (show kd = 4 by omega), show 65 + v - 1 = 64 + v by omega]
    | rw [if_neg (show ¬ kd = 0 by omega), if_neg (show ¬ kd = 1 by omega), if_neg (show ¬ kd = 2 by omega), if_neg (show ¬ kd = 4 by omega), if_pos (show kd = 3 by omega)]
    | rw [if_neg (show ¬ kd = 0 by omega), if_neg (show ¬ kd = 1 by omega), if_neg (show ¬ kd = 2 by omega), if_neg (show ¬ kd = 4 by omega), if_neg (show ¬ kd = 3 by omega), if_pos (show kd = 5 by omega)]
    | rw [if_neg (show ¬ kd = 0 by omega), if_neg (show ¬ kd = 1 by omega), if_neg (show ¬ kd = 2 by omega), if_neg (show ¬ kd = 4 by omega), if_neg (show ¬ kd = 3 by omega), if_neg (show ¬ kd = 5 by omega)]
  by_cases h5_1 : kd = 1
  · refine st_swC (c := 1) rfl h5_1 (t := 10) (by decide +kernel) ?_
    have hw : s.2 + (ndF v 1 : Int) ≤ 60 := by rw [h5_1] at h1; exact h1
    refine st_aload_n rfl rfl (by decide) ?_
    refine st_iload_n rfl rfl ?_
    refine st_iload_n rfl rfl ?_
    refine st_cs1 (w := [_, _]) rfl (by decide) (by decide) (by decide) (Nat.le_of_ble_eq_true rfl) (Nat.le_of_ble_eq_true rfl) rfl rfl (r_Part_lengthOfNumber (by omega)) ?_
    refine st_cv0 (w := []) rfl rfl rfl (Nat.le_of_ble_eq_true rfl) (Nat.le_of_ble_eq_true rfl) rfl rfl (r_ByteRow_addDigits hP (by omega) hnd.2.2.2 h0 hw) ?_
    refine st_goto rfl ?_
    refine st_ret rfl ?_
    refine ⟨rfl, ?_⟩
    unfold pwF
    first
    | rw [if_pos (by omega)]
    | rw [if_neg (show ¬ kd = 0 by omega), if_pos (by omega)]
    | rw [if_neg (show ¬ kd = 0 by omega), if_neg (show ¬ kd = 1 by omega), if_pos (by omega)]
    | rw [if_neg (show ¬ kd = 0 by omega), if_neg (show ¬ kd = 1 by omega), if_neg (show ¬ kd = 2 by omega), if_pos (show kd = 4 by omega), show 65 + v - 1 = 64 + v by omega]
    | rw [if_neg (show ¬ kd = 0 by omega), if_neg (show ¬ kd = 1 by omega), if_neg (show ¬ kd = 2 by omega), if_neg (show ¬ kd = 4 by omega), if_pos (show kd = 3 by omega)]
    | rw [if_neg (show ¬ kd = 0 by omega), if_neg (show ¬ kd = 1 by omega), if_neg (show ¬ kd = 2 by omega), if_neg (show ¬ kd = 4 by omega), if_neg (show ¬ kd = 3 by omega), if_pos (show kd = 5 by omega)]
    | rw [if_neg (show ¬ kd = 0 by omega), if_neg (show ¬ kd = 1 by omega), if_neg (show ¬ kd = 2 by omega), if_neg (show ¬ kd = 4 by omega), if_neg (show ¬ kd = 3 by omega), if_neg (show ¬ kd = 5 by omega)]
  by_cases h5_2 : kd = 2
  · refine st_swC (c := 2) rfl h5_2 (t := 16) (by decide +kernel) ?_
    have hw : s.2 + (1 + (ndF g c : Int)) ≤ 60 := by rw [h5_2] at h1; exact h1
    refine st_bipush rfl ?_
    refine st_iconst rfl ?_
    refine st_lload_n rfl rfl ?_
    refine st_aload_n rfl rfl (by decide) ?_
    refine st_cs0 (w := []) rfl (by decide) (by decide) (by decide) (Nat.le_of_ble_eq_true rfl) (Nat.le_of_ble_eq_true rfl) rfl rfl (r_spellDigits1 hP hp (h5 (by omega)) h0 (by have := nd_pl hp (h5 (by omega)); omega)) ?_
    refine st_goto rfl ?_
    refine st_ret rfl ?_
    refine ⟨rfl, ?_⟩
    unfold pwF
    first
    | rw [if_pos (by omega)]
    | rw [if_neg (show ¬ kd = 0 by omega), if_pos (by omega)]
    | rw [if_neg (show ¬ kd = 0 by omega), if_neg (show ¬ kd = 1 by omega), if_pos (by omega)]
    | rw [if_neg (show ¬ kd = 0 by omega), if_neg (show ¬ kd = 1 by omega), if_neg (show ¬ kd = 2 by omega), if_pos (show kd = 4 by omega), show 65 + v - 1 = 64 + v by omega]
    | rw [if_neg (show ¬ kd = 0 by omega), if_neg (show ¬ kd = 1 by omega), if_neg (show ¬ kd = 2 by omega), if_neg (show ¬ kd = 4 by omega), if_pos (show kd = 3 by omega)]
    | rw [if_neg (show ¬ kd = 0 by omega), if_neg (show ¬ kd = 1 by omega), if_neg (show ¬ kd = 2 by omega), if_neg (show ¬ kd = 4 by omega), if_neg (show ¬ kd = 3 by omega), if_pos (show kd = 5 by omega)]
    | rw [if_neg (show ¬ kd = 0 by omega), if_neg (show ¬ kd = 1 by omega), if_neg (show ¬ kd = 2 by omega), if_neg (show ¬ kd = 4 by omega), if_neg (show ¬ kd = 3 by omega), if_neg (show ¬ kd = 5 by omega)]
  by_cases h5_3 : kd = 3
  · refine st_swC (c := 3) rfl h5_3 (t := 22) (by decide +kernel) ?_
    have hw : s.2 + (1 + (ndF v 1 : Int)) ≤ 60 := by rw [h5_3] at h1; exact h1
    refine st_bipush rfl ?_
    refine st_iload_n rfl rfl ?_
    refine st_aload_n rfl rfl (by decide) ?_
    refine st_cs0 (w := []) rfl (by decide) (by decide) (by decide) (Nat.le_of_ble_eq_true rfl) (Nat.le_of_ble_eq_true rfl) rfl rfl (r_Part_spellNumber hP (by omega) (by omega) h0 (by omega)) ?_
    refine st_goto rfl ?_
    refine st_ret rfl ?_
    refine ⟨rfl, ?_⟩
    unfold pwF
    first
    | rw [if_pos (by omega)]
    | rw [if_neg (show ¬ kd = 0 by omega), if_pos (by omega)]
    | rw [if_neg (show ¬ kd = 0 by omega), if_neg (show ¬ kd = 1 by omega), if_pos (by omega)]
    | rw [if_neg (show ¬ kd = 0 by omega), if_neg (show ¬ kd = 1 by omega), if_neg (show ¬ kd = 2 by omega), if_pos (show kd = 4 by omega), show 65 + v - 1 = 64 + v by omega]
    | rw [if_neg (show ¬ kd = 0 by omega), if_neg (show ¬ kd = 1 by omega), if_neg (show ¬ kd = 2 by omega), if_neg (show ¬ kd = 4 by omega), if_pos (show kd = 3 by omega)]
    | rw [if_neg (show ¬ kd = 0 by omega), if_neg (show ¬ kd = 1 by omega), if_neg (show ¬ kd = 2 by omega), if_neg (show ¬ kd = 4 by omega), if_neg (show ¬ kd = 3 by omega), if_pos (show kd = 5 by omega)]
    | rw [if_neg (show ¬ kd = 0 by omega), if_neg (show ¬ kd = 1 by omega), if_neg (show ¬ kd = 2 by omega), if_neg (show ¬ kd = 4 by omega), if_neg (show ¬ kd = 3 by omega), if_neg (show ¬ kd = 5 by omega)]
  by_cases h5_4 : kd = 4
  · refine st_swC (c := 4) rfl h5_4 (t := 27) (by decide +kernel) ?_
    have hw : s.2 + (2 + (ndF g c : Int)) ≤ 60 := by rw [h5_4] at h1; exact h1
    have h26 := h4 h5_4
    refine st_bipush rfl ?_
    refine st_bipush rfl ?_
    refine st_iload_n rfl rfl ?_
    refine st_iadd rfl (by omega) ?_
    refine st_iconst rfl ?_
    refine st_isub rfl (by omega) ?_
    refine st_lload_n rfl rfl ?_
    refine st_aload_n rfl rfl (by decide) ?_
    refine st_cs0 (w := []) rfl (by decide) (by decide) (by decide) (Nat.le_of_ble_eq_true rfl) (Nat.le_of_ble_eq_true rfl) rfl rfl (r_spellDigits2 (lt := 65 + v - 1) hP hp (h5 (by omega)) h0 (by omega) (by have := nd_pl hp (h5 (by omega)); omega)) ?_
    refine st_goto rfl ?_
    refine st_ret rfl ?_
    refine ⟨rfl, ?_⟩
    unfold pwF
    first
    | rw [if_pos (by omega)]
    | rw [if_neg (show ¬ kd = 0 by omega), if_pos (by omega)]
    | rw [if_neg (show ¬ kd = 0 by omega), if_neg (show ¬ kd = 1 by omega), if_pos (by omega)]
    | rw [if_neg (show ¬ kd = 0 by omega), if_neg (show ¬ kd = 1 by omega), if_neg (show ¬ kd = 2 by omega), if_pos (show kd = 4 by omega), show 65 + v - 1 = 64 + v by omega]
    | rw [if_neg (show ¬ kd = 0 by omega), if_neg (show ¬ kd = 1 by omega), if_neg (show ¬ kd = 2 by omega), if_neg (show ¬ kd = 4 by omega), if_pos (show kd = 3 by omega)]
    | rw [if_neg (show ¬ kd = 0 by omega), if_neg (show ¬ kd = 1 by omega), if_neg (show ¬ kd = 2 by omega), if_neg (show ¬ kd = 4 by omega), if_neg (show ¬ kd = 3 by omega), if_pos (show kd = 5 by omega)]
    | rw [if_neg (show ¬ kd = 0 by omega), if_neg (show ¬ kd = 1 by omega), if_neg (show ¬ kd = 2 by omega), if_neg (show ¬ kd = 4 by omega), if_neg (show ¬ kd = 3 by omega), if_neg (show ¬ kd = 5 by omega)]
  by_cases h5_5 : kd = 5
  · refine st_swC (c := 5) rfl h5_5 (t := 37) (by decide +kernel) ?_
    have hw : s.2 + (1 + (ndF v 1 : Int)) ≤ 60 := by rw [h5_5] at h1; exact h1
    refine st_bipush rfl ?_
    refine st_iload_n rfl rfl ?_
    refine st_aload_n rfl rfl (by decide) ?_
    refine st_cs0 (w := []) rfl (by decide) (by decide) (by decide) (Nat.le_of_ble_eq_true rfl) (Nat.le_of_ble_eq_true rfl) rfl rfl (r_Part_spellNumber hP (by omega) (by omega) h0 (by omega)) ?_
    refine st_goto rfl ?_
    refine st_ret rfl ?_
    refine ⟨rfl, ?_⟩
    unfold pwF
    first
    | rw [if_pos (by omega)]
    | rw [if_neg (show ¬ kd = 0 by omega), if_pos (by omega)]
    | rw [if_neg (show ¬ kd = 0 by omega), if_neg (show ¬ kd = 1 by omega), if_pos (by omega)]
    | rw [if_neg (show ¬ kd = 0 by omega), if_neg (show ¬ kd = 1 by omega), if_neg (show ¬ kd = 2 by omega), if_pos (show kd = 4 by omega), show 65 + v - 1 = 64 + v by omega]
    | rw [if_neg (show ¬ kd = 0 by omega), if_neg (show ¬ kd = 1 by omega), if_neg (show ¬ kd = 2 by omega), if_neg (show ¬ kd = 4 by omega), if_pos (show kd = 3 by omega)]
    | rw [if_neg (show ¬ kd = 0 by omega), if_neg (show ¬ kd = 1 by omega), if_neg (show ¬ kd = 2 by omega), if_neg (show ¬ kd = 4 by omega), if_neg (show ¬ kd = 3 by omega), if_pos (show kd = 5 by omega)]
    | rw [if_neg (show ¬ kd = 0 by omega), if_neg (show ¬ kd = 1 by omega), if_neg (show ¬ kd = 2 by omega), if_neg (show ¬ kd = 4 by omega), if_neg (show ¬ kd = 3 by omega), if_neg (show ¬ kd = 5 by omega)]
  refine st_swD rfl (by omega) (t := 42) (by decide +kernel) ?_
  have h6 : kd = 6 := by omega
  have hw : s.2 + (1 + (ndF v 1 : Int)) ≤ 60 := by rw [h6] at h1; exact h1
  refine st_bipush rfl ?_
  refine st_iload_n rfl rfl ?_
  refine st_aload_n rfl rfl (by decide) ?_
  refine st_cs0 (w := []) rfl (by decide) (by decide) (by decide) (Nat.le_of_ble_eq_true rfl) (Nat.le_of_ble_eq_true rfl) rfl rfl (r_Part_spellNumber hP (by omega) (by omega) h0 (by omega)) ?_
  refine st_ret rfl ?_
  refine ⟨rfl, ?_⟩
  unfold pwF
  first
  | rw [if_pos (by omega)]
  | rw [if_neg (show ¬ kd = 0 by omega), if_pos (by omega)]
  | rw [if_neg (show ¬ kd = 0 by omega), if_neg (show ¬ kd = 1 by omega), if_pos (by omega)]
  | rw [if_neg (show ¬ kd = 0 by omega), if_neg (show ¬ kd = 1 by omega), if_neg (show ¬ kd = 2 by omega), if_pos (show kd = 4 by omega), show 65 + v - 1 = 64 + v by omega]
  | rw [if_neg (show ¬ kd = 0 by omega), if_neg (show ¬ kd = 1 by omega), if_neg (show ¬ kd = 2 by omega), if_neg (show ¬ kd = 4 by omega), if_pos (show kd = 3 by omega)]
  | rw [if_neg (show ¬ kd = 0 by omega), if_neg (show ¬ kd = 1 by omega), if_neg (show ¬ kd = 2 by omega), if_neg (show ¬ kd = 4 by omega), if_neg (show ¬ kd = 3 by omega), if_pos (show kd = 5 by omega)]
  | rw [if_neg (show ¬ kd = 0 by omega), if_neg (show ¬ kd = 1 by omega), if_neg (show ¬ kd = 2 by omega), if_neg (show ¬ kd = 4 by omega), if_neg (show ¬ kd = 3 by omega), if_neg (show ¬ kd = 5 by omega)]
theorem wl_mo {a : Int → Int} {m : Int} (hmv : MV a m) (k : Nat) : ∀ x : Nat, ((k + x : Nat) : Int) ≤ lenF a m → wlF a m k ≤ wlF a m (k + x)
  | 0, _ => Int.le_refl _
  | x + 1, h => by
    have ih := wl_mo hmv k x (by omega)
    have hp := pwL_r (hmv.2.2 ((k + x : Nat) : Int) (by omega) (by omega))
    show wlF a m k ≤ wlF a m (k + x + 1)
    simp only [wlF]
    split <;> omega
theorem wl_s (a : Int → Int) (m : Int) (k : Nat) : wlF a m (k + 1) = wlF a m k + (if 0 < k ∧ ¬ jnF a m (k : Int) then 1 else 0) + pwL (prtF a m (k : Int) 0) (prtF a m (k : Int) 1) (prtF a m (k : Int) 2) (prtF a m (k : Int) 3) := rfl
theorem wt_s (a : Int → Int) (m : Int) (s : OS) (k : Nat) : wtF a m s (k + 1) = pwF (prtF a m (k : Int) 0) (prtF a m (k : Int) 1) (prtF a m (k : Int) 2) (prtF a m (k : Int) 3) (if 0 < k ∧ ¬ jnF a m (k : Int) then inkF (wtF a m s k) 32 else wtF a m s k) := rfl
theorem RM.wr {H : am_H} {a : Int → Int} {s : OS} (h : RM H 10 a) : RM (wH H s) 10 a := RM.so (RM.so h (by decide)) (by decide)

theorem r_Marks_spell {d N : Nat} {P : am_P} {H : am_H} {s : OS} {m : Int} {a : Int → Int} (hP : PZ P) (hI : Inv a) (hM : RM H 10 a) (hm : 0 ≤ m ∧ m < a 1) (hwk : WKv a m) (h0 : s.2 = 0) (h60 : wlF a m (lenF a m).toNat ≤ 60) : am_R (d + 5) 167 [am_r 11, am_i (m), am_r 8] (N, P, wH H s) none (N, P, wH H (wtF a m s (lenF a m).toNat)) := by
  refine am_en1 (d := d + 4) (ml := 7) (ls := [_, _, _, _, _, _, _]) cq_Marks_spell rfl (Nat.le_of_ble_eq_true rfl) rfl ?_
  have hn := hI.n
  have hmv := hI.mv hm.1 hm.2
  have hl := hmv.2.1
  refine st_iconst rfl ?_
  refine st_istore_n (ls' := [_, _, _, _, _, _, _]) rfl (Nat.le_of_ble_eq_true rfl) rfl ?_
  refine st_iconst rfl ?_
  refine st_istore (ls' := [_, _, _, _, _, _, _]) rfl (Nat.le_of_ble_eq_true rfl) rfl ?_
  suffices hz : ∀ j, j ≤ (lenF a m).toNat → ∀ w5 w6, am_WP (am_R (d + 4)) cd_Marks_spell (fun v' s' => v' = none ∧ s' = (N, P, wH H (wtF a m s (lenF a m).toNat))) 4 [some (am_r 11), some (am_i m), some (am_r 8), some (am_i (if j = 0 then -1 else prtF a m ((j : Int) - 1) 0)), some (am_i (j : Int)), w5, w6] [] (N, P, wH H (wtF a m s j)) from hz 0 (Nat.zero_le _) _ _
  refine up_ind (n := (lenF a m).toNat) ?_ ?_
  · intro w5 w6
    refine st_iload rfl rfl ?_
    refine st_aload_n rfl rfl (by decide) ?_
    refine st_iload_n rfl rfl ?_
    refine st_cv1 (w := [_]) rfl rfl rfl (Nat.le_of_ble_eq_true rfl) (Nat.le_of_ble_eq_true rfl) rfl rfl (r_Marks_lengthOf hP hI hM.wr) ?_
    rw [lnA_p hm.1 hm.2]
    refine st_icmp_ge rfl (fun h8 => ?_) (fun h8 => (by exfalso; omega))
    refine st_ret rfl ?_
    exact ⟨rfl, rfl⟩
  · intro j hj ih w5 w6
    have hpv := hmv.2.2 (j : Int) (by omega) (by omega)
    have hw0 := wlF_r hmv j (by omega)
    have hmo := wl_mo hmv (j + 1) ((lenF a m).toNat - (j + 1)) (by omega)
    rw [show j + 1 + ((lenF a m).toNat - (j + 1)) = (lenF a m).toNat by omega] at hmo
    have hws := wl_s a m j
    have hpw := pwL_r hpv
    have hw2 := wtF_2 a m s j
    have hts := wt_s a m s j
    have hah : (if j + 1 = 0 then (-1 : Int) else prtF a m (((j + 1 : Nat) : Int) - 1) 0) = prtF a m (j : Int) 0 := by rw [if_neg (by omega), show ((j + 1 : Nat) : Int) - 1 = (j : Int) by omega]
    have hjn : jnF a m (j : Int) ↔ ((prtF a m ((j : Int) - 1) 0 = 0 ∧ prtF a m (j : Int) 0 = 1) ∨ (prtF a m ((j : Int) - 1) 0 = 1 ∧ prtF a m (j : Int) 0 = 2)) := Iff.rfl
    have hk0 := hpv.1
    have hkx : 0 < j → (if j = 0 then (-1 : Int) else prtF a m ((j : Int) - 1) 0) = prtF a m ((j : Int) - 1) 0 := fun z => if_neg (by omega)
    refine st_iload rfl rfl ?_
    refine st_aload_n rfl rfl (by decide) ?_
    refine st_iload_n rfl rfl ?_
    refine st_cv1 (w := [_]) rfl rfl rfl (Nat.le_of_ble_eq_true rfl) (Nat.le_of_ble_eq_true rfl) rfl rfl (r_Marks_lengthOf hP hI hM.wr) ?_
    rw [lnA_p hm.1 hm.2]
    refine st_icmp_ge rfl (fun h8 => (by exfalso; omega)) (fun h8 => ?_)
    refine st_aload_n rfl rfl (by decide) ?_
    refine st_iload_n rfl rfl ?_
    refine st_iload rfl rfl ?_
    refine st_cv1 (w := []) rfl rfl rfl (Nat.le_of_ble_eq_true rfl) (Nat.le_of_ble_eq_true rfl) rfl rfl (r_Marks_partOf hP hI hM.wr hm (by omega)) ?_
    refine st_cs1 (w := []) rfl (by decide) (by decide) (by decide) (Nat.le_of_ble_eq_true rfl) (Nat.le_of_ble_eq_true rfl) rfl rfl (r_Part_kindOf hpv.pk) ?_
    refine st_istore (ls' := [_, _, _, _, _, _, _]) rfl (Nat.le_of_ble_eq_true rfl) rfl ?_
    refine st_iload_n rfl rfl ?_
    refine st_if_ne rfl (fun h16 => ?_) (fun h16 => ?_)
    · refine st_iload_n rfl rfl ?_
      refine st_iconst rfl ?_
      refine st_icmp_ne rfl (fun h22 => ?_) (fun h22 => ?_)
      · refine st_iconst rfl ?_
        refine st_istore (ls' := [_, _, _, _, _, _, _]) rfl (Nat.le_of_ble_eq_true rfl) rfl ?_
        refine st_iload rfl rfl ?_
        refine st_if_le rfl (fun h31 => ?_) (fun h31 => ?_)
        · first
          | (have hbl : 0 < j ∧ ¬ jnF a m (j : Int) := ⟨by omega, by have hkx := hkx (by omega); rw [hkx] at *; rw [hjn]; omega⟩
             rw [if_pos hbl] at hws hts
             rw [show (32 : Int) % 256 = 32 from rfl, show wH H (inkF (wtF a m s j) 32) = wH H (if 0 < j ∧ ¬ jnF a m (j : Int) then inkF (wtF a m s j) 32 else wtF a m s j) by rw [if_pos hbl]])
          | (have hbl : ¬ (0 < j ∧ ¬ jnF a m (j : Int)) := fun z => by have hkx := hkx z.1; rw [hkx] at *; have := z.2; rw [hjn] at this; omega
             rw [show wH H (wtF a m s j) = wH H (if 0 < j ∧ ¬ jnF a m (j : Int) then inkF (wtF a m s j) 32 else wtF a m s j) by rw [if_neg hbl]])
          generalize hgs : (if 0 < j ∧ ¬ jnF a m (j : Int) then inkF (wtF a m s j) 32 else wtF a m s j) = s1
          have hs1 : s1.2 = s.2 + wlF a m j + (if 0 < j ∧ ¬ jnF a m (j : Int) then 1 else 0) := by
            rw [← hgs]
            by_cases hb2 : 0 < j ∧ ¬ jnF a m (j : Int)
            · rw [if_pos hb2, if_pos hb2, inkF_2, hw2]
            · rw [if_neg hb2, if_neg hb2, hw2]; omega
          refine st_aload_n rfl rfl (by decide) ?_
          refine st_iload_n rfl rfl ?_
          refine st_iload rfl rfl ?_
          refine st_cv1 (w := []) rfl rfl rfl (Nat.le_of_ble_eq_true rfl) (Nat.le_of_ble_eq_true rfl) rfl rfl (r_Marks_partOf hP hI hM.wr hm (by omega)) ?_
          refine st_aload_n rfl rfl (by decide) ?_
          refine st_cs0 (w := []) rfl (by decide) (by decide) (by decide) (Nat.le_of_ble_eq_true rfl) (Nat.le_of_ble_eq_true rfl) rfl rfl (r_Part_spell (s := s1) hP hpv (hwk (j : Int) (by omega) (by omega)) (by rw [hs1]; split <;> omega) (by rw [hs1]; omega)) ?_
          refine st_iload rfl rfl ?_
          refine st_istore_n (ls' := [_, _, _, _, _, _, _]) rfl (Nat.le_of_ble_eq_true rfl) rfl ?_
          refine st_iinc (ls' := [_, _, _, _, _, _, _]) rfl rfl (by omega) rfl ?_
          refine st_goto rfl ?_
          have ih := ih (some (am_i (prtF a m (j : Int) 0)))
          rw [hah, wt_s, hgs] at ih
          exact ih _
        · refine st_iload rfl rfl ?_
          refine st_if_ne rfl (fun h33 => (by exfalso; omega)) (fun h33 => ?_)
          refine st_aload_n rfl rfl (by decide) ?_
          refine st_bipush rfl ?_
          refine st_cv0 (w := []) rfl rfl rfl (Nat.le_of_ble_eq_true rfl) (Nat.le_of_ble_eq_true rfl) rfl rfl (r_add_w hP (by rw [hw2]; omega) (by rw [hw2]; split at hws <;> omega)) ?_
          first
          | (have hbl : 0 < j ∧ ¬ jnF a m (j : Int) := ⟨by omega, by have hkx := hkx (by omega); rw [hkx] at *; rw [hjn]; omega⟩
             rw [if_pos hbl] at hws hts
             rw [show (32 : Int) % 256 = 32 from rfl, show wH H (inkF (wtF a m s j) 32) = wH H (if 0 < j ∧ ¬ jnF a m (j : Int) then inkF (wtF a m s j) 32 else wtF a m s j) by rw [if_pos hbl]])
          | (have hbl : ¬ (0 < j ∧ ¬ jnF a m (j : Int)) := fun z => by have hkx := hkx z.1; rw [hkx] at *; have := z.2; rw [hjn] at this; omega
             rw [show wH H (wtF a m s j) = wH H (if 0 < j ∧ ¬ jnF a m (j : Int) then inkF (wtF a m s j) 32 else wtF a m s j) by rw [if_neg hbl]])
          generalize hgs : (if 0 < j ∧ ¬ jnF a m (j : Int) then inkF (wtF a m s j) 32 else wtF a m s j) = s1
          have hs1 : s1.2 = s.2 + wlF a m j + (if 0 < j ∧ ¬ jnF a m (j : Int) then 1 else 0) := by
            rw [← hgs]
            by_cases hb2 : 0 < j ∧ ¬ jnF a m (j : Int)
            · rw [if_pos hb2, if_pos hb2, inkF_2, hw2]
            · rw [if_neg hb2, if_neg hb2, hw2]; omega
          refine st_aload_n rfl rfl (by decide) ?_
          refine st_iload_n rfl rfl ?_
          refine st_iload rfl rfl ?_
          refine st_cv1 (w := []) rfl rfl rfl (Nat.le_of_ble_eq_true rfl) (Nat.le_of_ble_eq_true rfl) rfl rfl (r_Marks_partOf hP hI hM.wr hm (by omega)) ?_
          refine st_aload_n rfl rfl (by decide) ?_
          refine st_cs0 (w := []) rfl (by decide) (by decide) (by decide) (Nat.le_of_ble_eq_true rfl) (Nat.le_of_ble_eq_true rfl) rfl rfl (r_Part_spell (s := s1) hP hpv (hwk (j : Int) (by omega) (by omega)) (by rw [hs1]; split <;> omega) (by rw [hs1]; omega)) ?_
          refine st_iload rfl rfl ?_
          refine st_istore_n (ls' := [_, _, _, _, _, _, _]) rfl (Nat.le_of_ble_eq_true rfl) rfl ?_
          refine st_iinc (ls' := [_, _, _, _, _, _, _]) rfl rfl (by omega) rfl ?_
          refine st_goto rfl ?_
          have ih := ih (some (am_i (prtF a m (j : Int) 0)))
          rw [hah, wt_s, hgs] at ih
          exact ih _
      · refine st_iload rfl rfl ?_
        refine st_iconst rfl ?_
        refine st_icmp_ne rfl (fun h25 => ?_) (fun h25 => ?_)
        · refine st_iconst rfl ?_
          refine st_istore (ls' := [_, _, _, _, _, _, _]) rfl (Nat.le_of_ble_eq_true rfl) rfl ?_
          refine st_iload rfl rfl ?_
          refine st_if_le rfl (fun h31 => ?_) (fun h31 => ?_)
          · first
            | (have hbl : 0 < j ∧ ¬ jnF a m (j : Int) := ⟨by omega, by have hkx := hkx (by omega); rw [hkx] at *; rw [hjn]; omega⟩
               rw [if_pos hbl] at hws hts
               rw [show (32 : Int) % 256 = 32 from rfl, show wH H (inkF (wtF a m s j) 32) = wH H (if 0 < j ∧ ¬ jnF a m (j : Int) then inkF (wtF a m s j) 32 else wtF a m s j) by rw [if_pos hbl]])
            | (have hbl : ¬ (0 < j ∧ ¬ jnF a m (j : Int)) := fun z => by have hkx := hkx z.1; rw [hkx] at *; have := z.2; rw [hjn] at this; omega
               rw [show wH H (wtF a m s j) = wH H (if 0 < j ∧ ¬ jnF a m (j : Int) then inkF (wtF a m s j) 32 else wtF a m s j) by rw [if_neg hbl]])
            generalize hgs : (if 0 < j ∧ ¬ jnF a m (j : Int) then inkF (wtF a m s j) 32 else wtF a m s j) = s1
            have hs1 : s1.2 = s.2 + wlF a m j + (if 0 < j ∧ ¬ jnF a m (j : Int) then 1 else 0) := by
              rw [← hgs]
              by_cases hb2 : 0 < j ∧ ¬ jnF a m (j : Int)
              · rw [if_pos hb2, if_pos hb2, inkF_2, hw2]
              · rw [if_neg hb2, if_neg hb2, hw2]; omega
            refine st_aload_n rfl rfl (by decide) ?_
            refine st_iload_n rfl rfl ?_
            refine st_iload rfl rfl ?_
            refine st_cv1 (w := []) rfl rfl rfl (Nat.le_of_ble_eq_true rfl) (Nat.le_of_ble_eq_true rfl) rfl rfl (r_Marks_partOf hP hI hM.wr hm (by omega)) ?_
            refine st_aload_n rfl rfl (by decide) ?_
            refine st_cs0 (w := []) rfl (by decide) (by decide) (by decide) (Nat.le_of_ble_eq_true rfl) (Nat.le_of_ble_eq_true rfl) rfl rfl (r_Part_spell (s := s1) hP hpv (hwk (j : Int) (by omega) (by omega)) (by rw [hs1]; split <;> omega) (by rw [hs1]; omega)) ?_
            refine st_iload rfl rfl ?_
            refine st_istore_n (ls' := [_, _, _, _, _, _, _]) rfl (Nat.le_of_ble_eq_true rfl) rfl ?_
            refine st_iinc (ls' := [_, _, _, _, _, _, _]) rfl rfl (by omega) rfl ?_
            refine st_goto rfl ?_
            have ih := ih (some (am_i (prtF a m (j : Int) 0)))
            rw [hah, wt_s, hgs] at ih
            exact ih _
          · refine st_iload rfl rfl ?_
            refine st_if_ne rfl (fun h33 => (by exfalso; omega)) (fun h33 => ?_)
            refine st_aload_n rfl rfl (by decide) ?_
            refine st_bipush rfl ?_
            refine st_cv0 (w := []) rfl rfl rfl (Nat.le_of_ble_eq_true rfl) (Nat.le_of_ble_eq_true rfl) rfl rfl (r_add_w hP (by rw [hw2]; omega) (by rw [hw2]; split at hws <;> omega)) ?_
            first
            | (have hbl : 0 < j ∧ ¬ jnF a m (j : Int) := ⟨by omega, by have hkx := hkx (by omega); rw [hkx] at *; rw [hjn]; omega⟩
               rw [if_pos hbl] at hws hts
               rw [show (32 : Int) % 256 = 32 from rfl, show wH H (inkF (wtF a m s j) 32) = wH H (if 0 < j ∧ ¬ jnF a m (j : Int) then inkF (wtF a m s j) 32 else wtF a m s j) by rw [if_pos hbl]])
            | (have hbl : ¬ (0 < j ∧ ¬ jnF a m (j : Int)) := fun z => by have hkx := hkx z.1; rw [hkx] at *; have := z.2; rw [hjn] at this; omega
               rw [show wH H (wtF a m s j) = wH H (if 0 < j ∧ ¬ jnF a m (j : Int) then inkF (wtF a m s j) 32 else wtF a m s j) by rw [if_neg hbl]])
            generalize hgs : (if 0 < j ∧ ¬ jnF a m (j : Int) then inkF (wtF a m s j) 32 else wtF a m s j) = s1
            have hs1 : s1.2 = s.2 + wlF a m j + (if 0 < j ∧ ¬ jnF a m (j : Int) then 1 else 0) := by
              rw [← hgs]
              by_cases hb2 : 0 < j ∧ ¬ jnF a m (j : Int)
              · rw [if_pos hb2, if_pos hb2, inkF_2, hw2]
              · rw [if_neg hb2, if_neg hb2, hw2]; omega
            refine st_aload_n rfl rfl (by decide) ?_
            refine st_iload_n rfl rfl ?_
            refine st_iload rfl rfl ?_
            refine st_cv1 (w := []) rfl rfl rfl (Nat.le_of_ble_eq_true rfl) (Nat.le_of_ble_eq_true rfl) rfl rfl (r_Marks_partOf hP hI hM.wr hm (by omega)) ?_
            refine st_aload_n rfl rfl (by decide) ?_
            refine st_cs0 (w := []) rfl (by decide) (by decide) (by decide) (Nat.le_of_ble_eq_true rfl) (Nat.le_of_ble_eq_true rfl) rfl rfl (r_Part_spell (s := s1) hP hpv (hwk (j : Int) (by omega) (by omega)) (by rw [hs1]; split <;> omega) (by rw [hs1]; omega)) ?_
            refine st_iload rfl rfl ?_
            refine st_istore_n (ls' := [_, _, _, _, _, _, _]) rfl (Nat.le_of_ble_eq_true rfl) rfl ?_
            refine st_iinc (ls' := [_, _, _, _, _, _, _]) rfl rfl (by omega) rfl ?_
            refine st_goto rfl ?_
            have ih := ih (some (am_i (prtF a m (j : Int) 0)))
            rw [hah, wt_s, hgs] at ih
            exact ih _
        · refine st_iconst rfl ?_
          refine st_goto rfl ?_
          refine st_istore (ls' := [_, _, _, _, _, _, _]) rfl (Nat.le_of_ble_eq_true rfl) rfl ?_
          refine st_iload rfl rfl ?_
          refine st_if_le rfl (fun h31 => ?_) (fun h31 => ?_)
          · first
            | (have hbl : 0 < j ∧ ¬ jnF a m (j : Int) := ⟨by omega, by have hkx := hkx (by omega); rw [hkx] at *; rw [hjn]; omega⟩
               rw [if_pos hbl] at hws hts
               rw [show (32 : Int) % 256 = 32 from rfl, show wH H (inkF (wtF a m s j) 32) = wH H (if 0 < j ∧ ¬ jnF a m (j : Int) then inkF (wtF a m s j) 32 else wtF a m s j) by rw [if_pos hbl]])
            | (have hbl : ¬ (0 < j ∧ ¬ jnF a m (j : Int)) := fun z => by have hkx := hkx z.1; rw [hkx] at *; have := z.2; rw [hjn] at this; omega
               rw [show wH H (wtF a m s j) = wH H (if 0 < j ∧ ¬ jnF a m (j : Int) then inkF (wtF a m s j) 32 else wtF a m s j) by rw [if_neg hbl]])
            generalize hgs : (if 0 < j ∧ ¬ jnF a m (j : Int) then inkF (wtF a m s j) 32 else wtF a m s j) = s1
            have hs1 : s1.2 = s.2 + wlF a m j + (if 0 < j ∧ ¬ jnF a m (j : Int) then 1 else 0) := by
              rw [← hgs]
              by_cases hb2 : 0 < j ∧ ¬ jnF a m (j : Int)
              · rw [if_pos hb2, if_pos hb2, inkF_2, hw2]
              · rw [if_neg hb2, if_neg hb2, hw2]; omega
            refine st_aload_n rfl rfl (by decide) ?_
            refine st_iload_n rfl rfl ?_
            refine st_iload rfl rfl ?_
            refine st_cv1 (w := []) rfl rfl rfl (Nat.le_of_ble_eq_true rfl) (Nat.le_of_ble_eq_true rfl) rfl rfl (r_Marks_partOf hP hI hM.wr hm (by omega)) ?_
            refine st_aload_n rfl rfl (by decide) ?_
            refine st_cs0 (w := []) rfl (by decide) (by decide) (by decide) (Nat.le_of_ble_eq_true rfl) (Nat.le_of_ble_eq_true rfl) rfl rfl (r_Part_spell (s := s1) hP hpv (hwk (j : Int) (by omega) (by omega)) (by rw [hs1]; split <;> omega) (by rw [hs1]; omega)) ?_
            refine st_iload rfl rfl ?_
            refine st_istore_n (ls' := [_, _, _, _, _, _, _]) rfl (Nat.le_of_ble_eq_true rfl) rfl ?_
            refine st_iinc (ls' := [_, _, _, _, _, _, _]) rfl rfl (by omega) rfl ?_
            refine st_goto rfl ?_
            have ih := ih (some (am_i (prtF a m (j : Int) 0)))
            rw [hah, wt_s, hgs] at ih
            exact ih _
          · refine st_iload rfl rfl ?_
            refine st_if_ne rfl (fun h33 => ?_) (fun h33 => (by exfalso; omega))
            first
            | (have hbl : 0 < j ∧ ¬ jnF a m (j : Int) := ⟨by omega, by have hkx := hkx (by omega); rw [hkx] at *; rw [hjn]; omega⟩
               rw [if_pos hbl] at hws hts
               rw [show (32 : Int) % 256 = 32 from rfl, show wH H (inkF (wtF a m s j) 32) = wH H (if 0 < j ∧ ¬ jnF a m (j : Int) then inkF (wtF a m s j) 32 else wtF a m s j) by rw [if_pos hbl]])
            | (have hbl : ¬ (0 < j ∧ ¬ jnF a m (j : Int)) := fun z => by have hkx := hkx z.1; rw [hkx] at *; have := z.2; rw [hjn] at this; omega
               rw [show wH H (wtF a m s j) = wH H (if 0 < j ∧ ¬ jnF a m (j : Int) then inkF (wtF a m s j) 32 else wtF a m s j) by rw [if_neg hbl]])
            generalize hgs : (if 0 < j ∧ ¬ jnF a m (j : Int) then inkF (wtF a m s j) 32 else wtF a m s j) = s1
            have hs1 : s1.2 = s.2 + wlF a m j + (if 0 < j ∧ ¬ jnF a m (j : Int) then 1 else 0) := by
              rw [← hgs]
              by_cases hb2 : 0 < j ∧ ¬ jnF a m (j : Int)
              · rw [if_pos hb2, if_pos hb2, inkF_2, hw2]
              · rw [if_neg hb2, if_neg hb2, hw2]; omega
            refine st_aload_n rfl rfl (by decide) ?_
            refine st_iload_n rfl rfl ?_
            refine st_iload rfl rfl ?_
            refine st_cv1 (w := []) rfl rfl rfl (Nat.le_of_ble_eq_true rfl) (Nat.le_of_ble_eq_true rfl) rfl rfl (r_Marks_partOf hP hI hM.wr hm (by omega)) ?_
            refine st_aload_n rfl rfl (by decide) ?_
            refine st_cs0 (w := []) rfl (by decide) (by decide) (by decide) (Nat.le_of_ble_eq_true rfl) (Nat.le_of_ble_eq_true rfl) rfl rfl (r_Part_spell (s := s1) hP hpv (hwk (j : Int) (by omega) (by omega)) (by rw [hs1]; split <;> omega) (by rw [hs1]; omega)) ?_
            refine st_iload rfl rfl ?_
            refine st_istore_n (ls' := [_, _, _, _, _, _, _]) rfl (Nat.le_of_ble_eq_true rfl) rfl ?_
            refine st_iinc (ls' := [_, _, _, _, _, _, _]) rfl rfl (by omega) rfl ?_
            refine st_goto rfl ?_
            have ih := ih (some (am_i (prtF a m (j : Int) 0)))
            rw [hah, wt_s, hgs] at ih
            exact ih _
    · refine st_iload rfl rfl ?_
      refine st_iconst rfl ?_
      refine st_icmp_eq rfl (fun h19 => ?_) (fun h19 => ?_)
      · refine st_iconst rfl ?_
        refine st_goto rfl ?_
        refine st_istore (ls' := [_, _, _, _, _, _, _]) rfl (Nat.le_of_ble_eq_true rfl) rfl ?_
        refine st_iload rfl rfl ?_
        refine st_if_le rfl (fun h31 => ?_) (fun h31 => ?_)
        · first
          | (have hbl : 0 < j ∧ ¬ jnF a m (j : Int) := ⟨by omega, by have hkx := hkx (by omega); rw [hkx] at *; rw [hjn]; omega⟩
             rw [if_pos hbl] at hws hts
             rw [show (32 : Int) % 256 = 32 from rfl, show wH H (inkF (wtF a m s j) 32) = wH H (if 0 < j ∧ ¬ jnF a m (j : Int) then inkF (wtF a m s j) 32 else wtF a m s j) by rw [if_pos hbl]])
          | (have hbl : ¬ (0 < j ∧ ¬ jnF a m (j : Int)) := fun z => by have hkx := hkx z.1; rw [hkx] at *; have := z.2; rw [hjn] at this; omega
             rw [show wH H (wtF a m s j) = wH H (if 0 < j ∧ ¬ jnF a m (j : Int) then inkF (wtF a m s j) 32 else wtF a m s j) by rw [if_neg hbl]])
          generalize hgs : (if 0 < j ∧ ¬ jnF a m (j : Int) then inkF (wtF a m s j) 32 else wtF a m s j) = s1
          have hs1 : s1.2 = s.2 + wlF a m j + (if 0 < j ∧ ¬ jnF a m (j : Int) then 1 else 0) := by
            rw [← hgs]
            by_cases hb2 : 0 < j ∧ ¬ jnF a m (j : Int)
            · rw [if_pos hb2, if_pos hb2, inkF_2, hw2]
            · rw [if_neg hb2, if_neg hb2, hw2]; omega
          refine st_aload_n rfl rfl (by decide) ?_
          refine st_iload_n rfl rfl ?_
          refine st_iload rfl rfl ?_
          refine st_cv1 (w := []) rfl rfl rfl (Nat.le_of_ble_eq_true rfl) (Nat.le_of_ble_eq_true rfl) rfl rfl (r_Marks_partOf hP hI hM.wr hm (by omega)) ?_
          refine st_aload_n rfl rfl (by decide) ?_
          refine st_cs0 (w := []) rfl (by decide) (by decide) (by decide) (Nat.le_of_ble_eq_true rfl) (Nat.le_of_ble_eq_true rfl) rfl rfl (r_Part_spell (s := s1) hP hpv (hwk (j : Int) (by omega) (by omega)) (by rw [hs1]; split <;> omega) (by rw [hs1]; omega)) ?_
          refine st_iload rfl rfl ?_
          refine st_istore_n (ls' := [_, _, _, _, _, _, _]) rfl (Nat.le_of_ble_eq_true rfl) rfl ?_
          refine st_iinc (ls' := [_, _, _, _, _, _, _]) rfl rfl (by omega) rfl ?_
          refine st_goto rfl ?_
          have ih := ih (some (am_i (prtF a m (j : Int) 0)))
          rw [hah, wt_s, hgs] at ih
          exact ih _
        · refine st_iload rfl rfl ?_
          refine st_if_ne rfl (fun h33 => ?_) (fun h33 => (by exfalso; omega))
          first
          | (have hbl : 0 < j ∧ ¬ jnF a m (j : Int) := ⟨by omega, by have hkx := hkx (by omega); rw [hkx] at *; rw [hjn]; omega⟩
             rw [if_pos hbl] at hws hts
             rw [show (32 : Int) % 256 = 32 from rfl, show wH H (inkF (wtF a m s j) 32) = wH H (if 0 < j ∧ ¬ jnF a m (j : Int) then inkF (wtF a m s j) 32 else wtF a m s j) by rw [if_pos hbl]])
          | (have hbl : ¬ (0 < j ∧ ¬ jnF a m (j : Int)) := fun z => by have hkx := hkx z.1; rw [hkx] at *; have := z.2; rw [hjn] at this; omega
             rw [show wH H (wtF a m s j) = wH H (if 0 < j ∧ ¬ jnF a m (j : Int) then inkF (wtF a m s j) 32 else wtF a m s j) by rw [if_neg hbl]])
          generalize hgs : (if 0 < j ∧ ¬ jnF a m (j : Int) then inkF (wtF a m s j) 32 else wtF a m s j) = s1
          have hs1 : s1.2 = s.2 + wlF a m j + (if 0 < j ∧ ¬ jnF a m (j : Int) then 1 else 0) := by
            rw [← hgs]
            by_cases hb2 : 0 < j ∧ ¬ jnF a m (j : Int)
            · rw [if_pos hb2, if_pos hb2, inkF_2, hw2]
            · rw [if_neg hb2, if_neg hb2, hw2]; omega
          refine st_aload_n rfl rfl (by decide) ?_
          refine st_iload_n rfl rfl ?_
          refine st_iload rfl rfl ?_
          refine st_cv1 (w := []) rfl rfl rfl (Nat.le_of_ble_eq_true rfl) (Nat.le_of_ble_eq_true rfl) rfl rfl (r_Marks_partOf hP hI hM.wr hm (by omega)) ?_
          refine st_aload_n rfl rfl (by decide) ?_
          refine st_cs0 (w := []) rfl (by decide) (by decide) (by decide) (Nat.le_of_ble_eq_true rfl) (Nat.le_of_ble_eq_true rfl) rfl rfl (r_Part_spell (s := s1) hP hpv (hwk (j : Int) (by omega) (by omega)) (by rw [hs1]; split <;> omega) (by rw [hs1]; omega)) ?_
          refine st_iload rfl rfl ?_
          refine st_istore_n (ls' := [_, _, _, _, _, _, _]) rfl (Nat.le_of_ble_eq_true rfl) rfl ?_
          refine st_iinc (ls' := [_, _, _, _, _, _, _]) rfl rfl (by omega) rfl ?_
          refine st_goto rfl ?_
          have ih := ih (some (am_i (prtF a m (j : Int) 0)))
          rw [hah, wt_s, hgs] at ih
          exact ih _
      · refine st_iload_n rfl rfl ?_
        refine st_iconst rfl ?_
        refine st_icmp_ne rfl (fun h22 => ?_) (fun h22 => (by exfalso; omega))
        refine st_iconst rfl ?_
        refine st_istore (ls' := [_, _, _, _, _, _, _]) rfl (Nat.le_of_ble_eq_true rfl) rfl ?_
        refine st_iload rfl rfl ?_
        refine st_if_le rfl (fun h31 => ?_) (fun h31 => ?_)
        · first
          | (have hbl : 0 < j ∧ ¬ jnF a m (j : Int) := ⟨by omega, by have hkx := hkx (by omega); rw [hkx] at *; rw [hjn]; omega⟩
             rw [if_pos hbl] at hws hts
             rw [show (32 : Int) % 256 = 32 from rfl, show wH H (inkF (wtF a m s j) 32) = wH H (if 0 < j ∧ ¬ jnF a m (j : Int) then inkF (wtF a m s j) 32 else wtF a m s j) by rw [if_pos hbl]])
          | (have hbl : ¬ (0 < j ∧ ¬ jnF a m (j : Int)) := fun z => by have hkx := hkx z.1; rw [hkx] at *; have := z.2; rw [hjn] at this; omega
             rw [show wH H (wtF a m s j) = wH H (if 0 < j ∧ ¬ jnF a m (j : Int) then inkF (wtF a m s j) 32 else wtF a m s j) by rw [if_neg hbl]])
          generalize hgs : (if 0 < j ∧ ¬ jnF a m (j : Int) then inkF (wtF a m s j) 32 else wtF a m s j) = s1
          have hs1 : s1.2 = s.2 + wlF a m j + (if 0 < j ∧ ¬ jnF a m (j : Int) then 1 else 0) := by
            rw [← hgs]
            by_cases hb2 : 0 < j ∧ ¬ jnF a m (j : Int)
            · rw [if_pos hb2, if_pos hb2, inkF_2, hw2]
            · rw [if_neg hb2, if_neg hb2, hw2]; omega
          refine st_aload_n rfl rfl (by decide) ?_
          refine st_iload_n rfl rfl ?_
          refine st_iload rfl rfl ?_
          refine st_cv1 (w := []) rfl rfl rfl (Nat.le_of_ble_eq_true rfl) (Nat.le_of_ble_eq_true rfl) rfl rfl (r_Marks_partOf hP hI hM.wr hm (by omega)) ?_
          refine st_aload_n rfl rfl (by decide) ?_
          refine st_cs0 (w := []) rfl (by decide) (by decide) (by decide) (Nat.le_of_ble_eq_true rfl) (Nat.le_of_ble_eq_true rfl) rfl rfl (r_Part_spell (s := s1) hP hpv (hwk (j : Int) (by omega) (by omega)) (by rw [hs1]; split <;> omega) (by rw [hs1]; omega)) ?_
          refine st_iload rfl rfl ?_
          refine st_istore_n (ls' := [_, _, _, _, _, _, _]) rfl (Nat.le_of_ble_eq_true rfl) rfl ?_
          refine st_iinc (ls' := [_, _, _, _, _, _, _]) rfl rfl (by omega) rfl ?_
          refine st_goto rfl ?_
          have ih := ih (some (am_i (prtF a m (j : Int) 0)))
          rw [hah, wt_s, hgs] at ih
          exact ih _
        · refine st_iload rfl rfl ?_
          refine st_if_ne rfl (fun h33 => (by exfalso; omega)) (fun h33 => ?_)
          refine st_aload_n rfl rfl (by decide) ?_
          refine st_bipush rfl ?_
          refine st_cv0 (w := []) rfl rfl rfl (Nat.le_of_ble_eq_true rfl) (Nat.le_of_ble_eq_true rfl) rfl rfl (r_add_w hP (by rw [hw2]; omega) (by rw [hw2]; split at hws <;> omega)) ?_
          first
          | (have hbl : 0 < j ∧ ¬ jnF a m (j : Int) := ⟨by omega, by have hkx := hkx (by omega); rw [hkx] at *; rw [hjn]; omega⟩
             rw [if_pos hbl] at hws hts
             rw [show (32 : Int) % 256 = 32 from rfl, show wH H (inkF (wtF a m s j) 32) = wH H (if 0 < j ∧ ¬ jnF a m (j : Int) then inkF (wtF a m s j) 32 else wtF a m s j) by rw [if_pos hbl]])
          | (have hbl : ¬ (0 < j ∧ ¬ jnF a m (j : Int)) := fun z => by have hkx := hkx z.1; rw [hkx] at *; have := z.2; rw [hjn] at this; omega
             rw [show wH H (wtF a m s j) = wH H (if 0 < j ∧ ¬ jnF a m (j : Int) then inkF (wtF a m s j) 32 else wtF a m s j) by rw [if_neg hbl]])
          generalize hgs : (if 0 < j ∧ ¬ jnF a m (j : Int) then inkF (wtF a m s j) 32 else wtF a m s j) = s1
          have hs1 : s1.2 = s.2 + wlF a m j + (if 0 < j ∧ ¬ jnF a m (j : Int) then 1 else 0) := by
            rw [← hgs]
            by_cases hb2 : 0 < j ∧ ¬ jnF a m (j : Int)
            · rw [if_pos hb2, if_pos hb2, inkF_2, hw2]
            · rw [if_neg hb2, if_neg hb2, hw2]; omega
          refine st_aload_n rfl rfl (by decide) ?_
          refine st_iload_n rfl rfl ?_
          refine st_iload rfl rfl ?_
          refine st_cv1 (w := []) rfl rfl rfl (Nat.le_of_ble_eq_true rfl) (Nat.le_of_ble_eq_true rfl) rfl rfl (r_Marks_partOf hP hI hM.wr hm (by omega)) ?_
          refine st_aload_n rfl rfl (by decide) ?_
          refine st_cs0 (w := []) rfl (by decide) (by decide) (by decide) (Nat.le_of_ble_eq_true rfl) (Nat.le_of_ble_eq_true rfl) rfl rfl (r_Part_spell (s := s1) hP hpv (hwk (j : Int) (by omega) (by omega)) (by rw [hs1]; split <;> omega) (by rw [hs1]; omega)) ?_
          refine st_iload rfl rfl ?_
          refine st_istore_n (ls' := [_, _, _, _, _, _, _]) rfl (Nat.le_of_ble_eq_true rfl) rfl ?_
          refine st_iinc (ls' := [_, _, _, _, _, _, _]) rfl rfl (by omega) rfl ?_
          refine st_goto rfl ?_
          have ih := ih (some (am_i (prtF a m (j : Int) 0)))
          rw [hah, wt_s, hgs] at ih
          exact ih _
theorem r_Cart_write {d N : Nat} {P : am_P} {H : am_H} {m : Int} {a : Int → Int} (hP : PZ P) (hI : Inv a) (hW : InvW a) (hM : RM H 10 a) : am_R (d + 6) 7 [am_r 3, am_i (m)] (N, P, H) (some (am_i (if 0 ≤ m ∧ m < a 1 then wlF a m (lenF a m).toNat else -1))) (N, P, if 0 ≤ m ∧ m < a 1 then wH H (wtF a m (H 9, 0) (lenF a m).toNat) else H) := by
  refine am_en1 (d := d + 5) (ml := 2) (ls := [_, _]) cq_Cart_write rfl (Nat.le_of_ble_eq_true rfl) rfl ?_
  refine st_aload_n rfl rfl (by decide) ?_
  refine st_getR (kk := 3) rfl rfl rfl (pz_3_3 hP) rfl ?_
  refine st_getR (kk := 0) rfl rfl rfl (pz_10_0 hP) rfl ?_
  refine st_iload_n rfl rfl ?_
  refine st_cv1 (w := []) rfl rfl rfl (Nat.le_of_ble_eq_true rfl) (Nat.le_of_ble_eq_true rfl) rfl rfl (r_Marks_has hP hI hM) ?_
  refine st_if_ne_b rfl (fun h5 => ?_) (fun h5 => ?_)
  · refine st_aload_n rfl rfl (by decide) ?_
    refine st_getR (kk := 1) rfl rfl rfl (pz_3_1 hP) rfl ?_
    refine st_iconst rfl ?_
    refine st_putI (kk := 1) rfl rfl rfl rfl ?_
    rw [← wH_0]
    refine st_aload_n rfl rfl (by decide) ?_
    refine st_getR (kk := 3) rfl rfl rfl (pz_3_3 hP) rfl ?_
    refine st_getR (kk := 0) rfl rfl rfl (pz_10_0 hP) rfl ?_
    refine st_iload_n rfl rfl ?_
    refine st_aload_n rfl rfl (by decide) ?_
    refine st_getR (kk := 1) rfl rfl rfl (pz_3_1 hP) rfl ?_
    refine st_cv0 (w := []) rfl rfl rfl (Nat.le_of_ble_eq_true rfl) (Nat.le_of_ble_eq_true rfl) rfl rfl (r_Marks_spell (s := (H 9, 0)) hP hI hM h5 (hW m h5.1 h5.2).1 rfl (hW m h5.1 h5.2).2.1) ?_
    refine st_aload_n rfl rfl (by decide) ?_
    refine st_getR (kk := 1) rfl rfl rfl (pz_3_1 hP) rfl ?_
    refine st_getI (kk := 1) rfl rfl (by decide) rfl ?_
    rw [wH_1, wtF_2]
    refine st_iret rfl (fun z => by first | exact absurd z (by decide) | exact bi_01 _ | decide | omega) ?_
    exact ⟨am_ri (by rw [if_pos h5]; show 0 + _ = _; omega), by rw [if_pos h5]⟩
  · refine st_iconst rfl ?_
    refine st_iret rfl (fun z => by first | exact absurd z (by decide) | exact bi_01 _ | decide | omega) ?_
    exact ⟨am_ri (by rw [if_neg (by omega)]), by rw [if_neg (by omega)]⟩
theorem r_ByteRow_byteAt {d N : Nat} {P : am_P} {H : am_H} {i : Int} (hP : PZ P) (h1 : H 8 1 ≤ 60) : am_R (d + 1) 136 [am_r 8, am_i (i)] (N, P, H) (some (am_i (if 0 ≤ i ∧ i < H 8 1 then H 9 i else -1))) (N, P, H) := by
  refine am_en1 (d := d + 0) (ml := 2) (ls := [_, _]) cq_ByteRow_byteAt rfl (Nat.le_of_ble_eq_true rfl) rfl ?_
  refine st_iload_n rfl rfl ?_
  refine st_if_lt rfl (fun h1 => ?_) (fun h1 => ?_)
  · refine st_iconst rfl ?_
    refine st_iret rfl (fun z => by first | exact absurd z (by decide) | exact bi_01 _ | decide | omega) ?_
    exact ⟨am_ri (by first | rw [if_pos (by omega)] | rw [if_neg (by omega)]), rfl⟩
  · refine st_iload_n rfl rfl ?_
    refine st_aload_n rfl rfl (by decide) ?_
    refine st_getI (kk := 1) rfl rfl (by decide) rfl ?_
    refine st_icmp_ge rfl (fun h5 => ?_) (fun h5 => ?_)
    · refine st_iconst rfl ?_
      refine st_iret rfl (fun z => by first | exact absurd z (by decide) | exact bi_01 _ | decide | omega) ?_
      exact ⟨am_ri (by first | rw [if_pos (by omega)] | rw [if_neg (by omega)]), rfl⟩
    · refine st_aload_n rfl rfl (by decide) ?_
      refine st_getR (kk := 0) rfl rfl rfl (pz_8_0 hP) rfl ?_
      refine st_iload_n rfl rfl ?_
      refine st_iaload rfl rfl (by omega) (by omega) ?_
      refine st_goto rfl ?_
      refine st_iret rfl (fun z => by first | exact absurd z (by decide) | exact bi_01 _ | decide | omega) ?_
      exact ⟨am_ri (by first | rw [if_pos (by omega)] | rw [if_neg (by omega)]), rfl⟩
theorem r_Cart_out {d N : Nat} {P : am_P} {H : am_H} {i : Int} (hP : PZ P) (h1 : H 8 1 ≤ 60) : am_R (d + 2) 8 [am_r 3, am_i (i)] (N, P, H) (some (am_i (if 0 ≤ i ∧ i < H 8 1 then H 9 i else -1))) (N, P, H) := by
  refine am_en1 (d := d + 1) (ml := 2) (ls := [_, _]) cq_Cart_out rfl (Nat.le_of_ble_eq_true rfl) rfl ?_
  refine st_aload_n rfl rfl (by decide) ?_
  refine st_getR (kk := 1) rfl rfl rfl (pz_3_1 hP) rfl ?_
  refine st_iload_n rfl rfl ?_
  refine st_cv1 (w := []) rfl rfl rfl (Nat.le_of_ble_eq_true rfl) (Nat.le_of_ble_eq_true rfl) rfl rfl (r_ByteRow_byteAt hP h1) ?_
  refine st_iret rfl (fun z => by first | exact absurd z (by decide) | exact bi_01 _ | decide | omega) ?_
  exact ⟨rfl, rfl⟩
/-- two rows of bytes alike as far as they go -/
def OQ (s s' : OS) : Prop := s.2 = s'.2 ∧ ∀ k, 0 ≤ k → k < s.2 → s.1 k = s'.1 k
theorem OQ.ink {s s' : OS} (h : OQ s s') (c : Int) : OQ (inkF s c) (inkF s' c) := by
  refine ⟨by rw [inkF_2, inkF_2, h.1], fun k k0 k1 => ?_⟩
  rw [inkF_2] at k1
  show am_uf s.1 s.2 c k = am_uf s'.1 s'.2 c k
  rw [← h.1]
  by_cases hk : k = s.2
  · rw [hk, am_uf_eq, am_uf_eq]
  · rw [am_uf_ne _ _ hk, am_uf_ne _ _ hk]
    exact h.2 k k0 (by omega)
theorem OQ.nb {v : Int} : ∀ (n : Nat) {s s' : OS}, OQ s s' → OQ (nbF v n s) (nbF v n s')
  | 0, _, _, h => h
  | n + 1, _, _, h => OQ.nb n (h.ink _)
theorem OQ.pw {kd v g c : Int} {s s' : OS} (h : OQ s s') : OQ (pwF kd v g c s) (pwF kd v g c s') := by
  unfold pwF
  by_cases h0 : kd = 0
  · rw [if_pos h0, if_pos h0]
    unfold lwF
    refine OQ.ink ?_ _
    have h1 : OQ (lw1 v s) (lw1 v s') := by
      unfold lw1
      split
      · exact h.ink _
      · exact h
    unfold lw2
    split
    · exact h1.ink _
    · exact h1
  · rw [if_neg h0, if_neg h0]
    by_cases h1 : kd = 1
    · rw [if_pos h1, if_pos h1]; exact OQ.nb _ h
    · rw [if_neg h1, if_neg h1]
      by_cases h2 : kd = 2
      · rw [if_pos h2, if_pos h2]; exact OQ.nb _ (h.ink _)
      · rw [if_neg h2, if_neg h2]
        by_cases h4 : kd = 4
        · rw [if_pos h4, if_pos h4]; exact OQ.nb _ ((h.ink _).ink _)
        · rw [if_neg h4, if_neg h4]; exact OQ.nb _ (h.ink _)
theorem OQ.wt {a : Int → Int} {m : Int} {s s' : OS} (h : OQ s s') : ∀ n : Nat, OQ (wtF a m s n) (wtF a m s' n)
  | 0 => h
  | n + 1 => by
    have ih := OQ.wt (a := a) (m := m) h n
    rw [wt_s, wt_s]
    refine OQ.pw ?_
    split
    · exact ih.ink _
    · exact ih

