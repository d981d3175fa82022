/-! ===== the class: volumes, works ===== -/
/-- what holds of the marks besides -/
def InvW (a : Int → Int) : Prop := ∀ m, 0 ≤ m → m < a 1 → WKv a m ∧ wlF a m (lenF a m).toNat ≤ 60 ∧ ∀ k, 0 ≤ k → k + 1 < lenF a m → prtF a m k 0 ≠ 6 ∧ (prtF a m k 0 = 5 → prtF a m (k + 1) 0 = 6)
theorem kd_end {a : Int → Int} (hI : Inv a) (hW : InvW a) {m k : Int} (m0 : 0 ≤ m) (m1 : m < a 1) (k0 : 0 ≤ k) (k1 : k < lenF a m) (h : 5 ≤ prtF a m k 0) : lenF a m = k + 1 ∨ (lenF a m = k + 2 ∧ prtF a m (k + 1) 0 = 6 ∧ prtF a m k 0 = 5) := by
  have hw := (hW m m0 m1).2.2
  have hv := (hI.mv m0 m1).2.2
  by_cases h1 : k + 1 < lenF a m
  · have q1 := hw k k0 h1
    have p1 := (hv k k0 k1).1
    have q2 := q1.2 (by omega)
    by_cases h2 : k + 1 + 1 < lenF a m
    · have := (hw (k + 1) (by omega) h2).1
      omega
    · omega
  · omega
theorem vol_s (a : Int → Int) (m : Int) (k : Nat) : volL a m (k + 1) = if prtF a m (k : Int) 0 = 5 then prtF a m (k : Int) 1 else volL a m k := rfl
theorem wk_s (a : Int → Int) (m : Int) (k : Nat) : wkL a m (k + 1) = wkL a m k + (if prtF a m (k : Int) 0 < 5 then 1 else 0) := rfl

theorem r_Marks_volumeOf {d N : Nat} {P : am_P} {H : am_H} {m : Int} {a : Int → Int} (hP : PZ P) (hI : Inv a) (hW : InvW a) (hM : RM H 10 a) (hm : 0 ≤ m ∧ m < a 1) : am_R (d + 3) 164 [am_r 11, am_i (m)] (N, P, H) (some (am_i (volF a m))) (N, P, H) := by
  refine am_en1 (d := d + 2) (ml := 3) (ls := [_, _, _]) cq_Marks_volumeOf rfl (Nat.le_of_ble_eq_true rfl) rfl ?_
  have hn := hI.n
  have hmv := hI.mv hm.1 hm.2
  have hl := hmv.2.1
  refine st_iconst rfl ?_
  refine st_istore_n (ls' := [_, _, _]) rfl (Nat.le_of_ble_eq_true rfl) rfl ?_
  suffices hz : ∀ j, j ≤ (lenF a m).toNat → volL a m j = -1 → am_WP (am_R (d + 2)) cd_Marks_volumeOf (fun v' s' => v' = some (am_i (volF a m)) ∧ s' = (N, P, H)) 2 [some (am_r 11), some (am_i m), some (am_i (j : Int))] [] (N, P, H) from hz 0 (Nat.zero_le _) rfl
  refine up_ind (n := (lenF a m).toNat) ?_ ?_
  · intro hv
    refine st_iload_n rfl rfl ?_
    refine st_aload_n rfl rfl (by decide) ?_
    refine st_iload_n rfl rfl ?_
    refine st_cv1 (w := [_]) rfl rfl rfl (Nat.le_of_ble_eq_true rfl) (Nat.le_of_ble_eq_true rfl) rfl rfl (r_Marks_lengthOf hP hI hM) ?_
    rw [lnA_p hm.1 hm.2]
    refine st_icmp_ge rfl (fun h6 => ?_) (fun h6 => (by exfalso; omega))
    refine st_iconst rfl ?_
    refine st_iret rfl (fun z => by first | exact absurd z (by decide) | exact bi_01 _ | decide | omega) ?_
    exact ⟨am_ri hv.symm, rfl⟩
  · intro j hj ih hv
    have hpv := hmv.2.2 (j : Int) (by omega) (by omega)
    refine st_iload_n rfl rfl ?_
    refine st_aload_n rfl rfl (by decide) ?_
    refine st_iload_n rfl rfl ?_
    refine st_cv1 (w := [_]) rfl rfl rfl (Nat.le_of_ble_eq_true rfl) (Nat.le_of_ble_eq_true rfl) rfl rfl (r_Marks_lengthOf hP hI hM) ?_
    rw [lnA_p hm.1 hm.2]
    refine st_icmp_ge rfl (fun h6 => (by exfalso; omega)) (fun h6 => ?_)
    refine st_aload_n rfl rfl (by decide) ?_
    refine st_iload_n rfl rfl ?_
    refine st_iload_n rfl rfl ?_
    refine st_cv1 (w := []) rfl rfl rfl (Nat.le_of_ble_eq_true rfl) (Nat.le_of_ble_eq_true rfl) rfl rfl (r_Marks_partOf hP hI hM hm (by omega)) ?_
    refine st_cs1 (w := []) rfl (by decide) (by decide) (by decide) (Nat.le_of_ble_eq_true rfl) (Nat.le_of_ble_eq_true rfl) rfl rfl (r_Part_kindOf hpv.pk) ?_
    refine st_iconst rfl ?_
    refine st_icmp_ne rfl (fun h13 => ?_) (fun h13 => ?_)
    · refine st_iinc (ls' := [_, _, _]) rfl rfl (by omega) rfl ?_
      refine st_goto rfl ?_
      exact ih (by rw [vol_s, if_neg (by omega)]; exact hv)
    · refine st_aload_n rfl rfl (by decide) ?_
      refine st_iload_n rfl rfl ?_
      refine st_iload_n rfl rfl ?_
      refine st_cv1 (w := []) rfl rfl rfl (Nat.le_of_ble_eq_true rfl) (Nat.le_of_ble_eq_true rfl) rfl rfl (r_Marks_partOf hP hI hM hm (by omega)) ?_
      refine st_cs1 (w := []) rfl (by decide) (by decide) (by decide) (Nat.le_of_ble_eq_true rfl) (Nat.le_of_ble_eq_true rfl) rfl rfl (r_Part_valueOf hpv.pk) ?_
      refine st_iret rfl (fun z => by first | exact absurd z (by decide) | exact bi_01 _ | decide | omega) ?_
      refine ⟨am_ri ?_, rfl⟩
      have he := kd_end hI hW hm.1 hm.2 (k := (j : Int)) (by omega) (by omega) (by omega)
      unfold volF
      rcases he with he | ⟨he, h6, h5⟩
      · rw [show (lenF a m).toNat = j + 1 by omega, vol_s, if_pos (by omega)]
      · rw [show (lenF a m).toNat = j + 1 + 1 by omega, vol_s, if_neg (by rw [show ((j + 1 : Nat) : Int) = (j : Int) + 1 by omega]; omega), vol_s, if_pos (by omega)]
theorem r_Marks_lengthOfWork {d N : Nat} {P : am_P} {H : am_H} {m : Int} {a : Int → Int} (hP : PZ P) (hI : Inv a) (hW : InvW a) (hM : RM H 10 a) (hm : 0 ≤ m ∧ m < a 1) : am_R (d + 3) 166 [am_r 11, am_i (m)] (N, P, H) (some (am_i (wkN a m))) (N, P, H) := by
  refine am_en1 (d := d + 2) (ml := 3) (ls := [_, _, _]) cq_Marks_lengthOfWork rfl (Nat.le_of_ble_eq_true rfl) rfl ?_
  have hn := hI.n
  have hmv := hI.mv hm.1 hm.2
  have hl := hmv.2.1
  refine st_iconst rfl ?_
  refine st_istore_n (ls' := [_, _, _]) rfl (Nat.le_of_ble_eq_true rfl) rfl ?_
  suffices hz : ∀ j, j ≤ (lenF a m).toNat → wkL a m j = (j : Int) → am_WP (am_R (d + 2)) cd_Marks_lengthOfWork (fun v' s' => v' = some (am_i (wkN a m)) ∧ s' = (N, P, H)) 2 [some (am_r 11), some (am_i m), some (am_i (j : Int))] [] (N, P, H) from hz 0 (Nat.zero_le _) rfl
  refine up_ind (n := (lenF a m).toNat) ?_ ?_
  · intro hv
    refine st_iload_n rfl rfl ?_
    refine st_aload_n rfl rfl (by decide) ?_
    refine st_iload_n rfl rfl ?_
    refine st_cv1 (w := [_]) rfl rfl rfl (Nat.le_of_ble_eq_true rfl) (Nat.le_of_ble_eq_true rfl) rfl rfl (r_Marks_lengthOf hP hI hM) ?_
    rw [lnA_p hm.1 hm.2]
    refine st_icmp_ge rfl (fun h6 => ?_) (fun h6 => (by exfalso; omega))
    refine st_iload_n rfl rfl ?_
    refine st_iret rfl (fun z => by first | exact absurd z (by decide) | exact bi_01 _ | decide | omega) ?_
    exact ⟨am_ri hv.symm, rfl⟩
  · intro j hj ih hv
    have hpv := hmv.2.2 (j : Int) (by omega) (by omega)
    refine st_iload_n rfl rfl ?_
    refine st_aload_n rfl rfl (by decide) ?_
    refine st_iload_n rfl rfl ?_
    refine st_cv1 (w := [_]) rfl rfl rfl (Nat.le_of_ble_eq_true rfl) (Nat.le_of_ble_eq_true rfl) rfl rfl (r_Marks_lengthOf hP hI hM) ?_
    rw [lnA_p hm.1 hm.2]
    refine st_icmp_ge rfl (fun h6 => (by exfalso; omega)) (fun h6 => ?_)
    refine st_aload_n rfl rfl (by decide) ?_
    refine st_iload_n rfl rfl ?_
    refine st_iload_n rfl rfl ?_
    refine st_cv1 (w := []) rfl rfl rfl (Nat.le_of_ble_eq_true rfl) (Nat.le_of_ble_eq_true rfl) rfl rfl (r_Marks_partOf hP hI hM hm (by omega)) ?_
    refine st_cs1 (w := []) rfl (by decide) (by decide) (by decide) (Nat.le_of_ble_eq_true rfl) (Nat.le_of_ble_eq_true rfl) rfl rfl (r_Part_kindOf hpv.pk) ?_
    refine st_iconst rfl ?_
    refine st_icmp_ge rfl (fun h13 => ?_) (fun h13 => ?_)
    · refine st_iload_n rfl rfl ?_
      refine st_iret rfl (fun z => by first | exact absurd z (by decide) | exact bi_01 _ | decide | omega) ?_
      refine ⟨am_ri ?_, rfl⟩
      have he := kd_end hI hW hm.1 hm.2 (k := (j : Int)) (by omega) (by omega) (by omega)
      unfold wkN
      rcases he with he | ⟨he, h6, h5⟩
      · rw [show (lenF a m).toNat = j + 1 by omega, wk_s, if_neg (by omega)]; omega
      · rw [show (lenF a m).toNat = j + 1 + 1 by omega, wk_s, if_neg (by rw [show ((j + 1 : Nat) : Int) = (j : Int) + 1 by omega]; omega), wk_s, if_neg (by omega)]; omega
    · refine st_iinc (ls' := [_, _, _]) rfl rfl (by omega) rfl ?_
      refine st_goto rfl ?_
      exact ih (by rw [wk_s, if_pos (by omega)]; omega)
theorem eqL_4 {a : Int → Int} {x y k b : Int} (hb : b = 1) : eqL a x y k b 4 = if prtF a x k 0 = prtF a y k 0 ∧ prtF a x k 1 = prtF a y k 1 ∧ prtF a x k 2 = prtF a y k 2 ∧ prtF a x k 3 = prtF a y k 3 then 1 else 0 := by
  subst hb
  have s : ∀ w : Nat, eqL a x y k 1 (w + 1) = if eqL a x y k 1 w = 0 then 0 else if prtF a x k (w : Int) = prtF a y k (w : Int) then 1 else 0 := fun _ => rfl
  have z : eqL a x y k 1 0 = 1 := rfl
  have s0 : eqL a x y k 1 1 = if eqL a x y k 1 0 = 0 then 0 else if prtF a x k 0 = prtF a y k 0 then 1 else 0 := s 0
  have s1 : eqL a x y k 1 2 = if eqL a x y k 1 1 = 0 then 0 else if prtF a x k 1 = prtF a y k 1 then 1 else 0 := s 1
  have s2 : eqL a x y k 1 3 = if eqL a x y k 1 2 = 0 then 0 else if prtF a x k 2 = prtF a y k 2 then 1 else 0 := s 2
  have s3 : eqL a x y k 1 4 = if eqL a x y k 1 3 = 0 then 0 else if prtF a x k 3 = prtF a y k 3 then 1 else 0 := s 3
  rw [if_neg (show ¬ eqL a x y k 1 0 = 0 by omega)] at s0
  by_cases h0 : prtF a x k 0 = prtF a y k 0
  · rw [if_pos h0] at s0
    rw [if_neg (show ¬ eqL a x y k 1 1 = 0 by omega)] at s1
    by_cases h1 : prtF a x k 1 = prtF a y k 1
    · rw [if_pos h1] at s1
      rw [if_neg (show ¬ eqL a x y k 1 2 = 0 by omega)] at s2
      by_cases h2 : prtF a x k 2 = prtF a y k 2
      · rw [if_pos h2] at s2
        rw [if_neg (show ¬ eqL a x y k 1 3 = 0 by omega)] at s3
        by_cases h3 : prtF a x k 3 = prtF a y k 3
        · rw [if_pos h3] at s3
          rw [if_pos ⟨h0, h1, h2, h3⟩]; exact s3
        · rw [if_neg h3] at s3
          rw [if_neg (fun z => h3 z.2.2.2)]; exact s3
      · rw [if_neg h2] at s2
        rw [if_pos s2] at s3
        rw [if_neg (fun z => h2 z.2.2.1)]; exact s3
    · rw [if_neg h1] at s1
      rw [if_pos s1] at s2
      rw [if_pos s2] at s3
      rw [if_neg (fun z => h1 z.2.1)]; exact s3
  · rw [if_neg h0] at s0
    rw [if_pos s0] at s1
    rw [if_pos s1] at s2
    rw [if_pos s2] at s3
    rw [if_neg (fun z => h0 z.1)]; exact s3
theorem pk_inj {a : Int → Int} {x y k : Int} (h1 : PVal (prtF a x k 0) (prtF a x k 1) (prtF a x k 2) (prtF a x k 3)) (h2 : PVal (prtF a y k 0) (prtF a y k 1) (prtF a y k 2) (prtF a y k 3)) : pkA a x k = pkA a y k ↔ (prtF a x k 0 = prtF a y k 0 ∧ prtF a x k 1 = prtF a y k 1 ∧ prtF a x k 2 = prtF a y k 2 ∧ prtF a x k 3 = prtF a y k 3) := by
  have p1 := h1.pk
  have p2 := h2.pk
  unfold pkA pkF
  constructor
  · intro h; omega
  · rintro ⟨e0, e1, e2, e3⟩; rw [e0, e1, e2, e3]
theorem lcmp0 (x y : Int) : am_lcmp x y = 0 ↔ x = y := by
  unfold am_lcmp
  (repeat' split) <;> omega

theorem r_Marks_areOfOneWork {d N : Nat} {P : am_P} {H : am_H} {x y : Int} {a : Int → Int} (hP : PZ P) (hI : Inv a) (hW : InvW a) (hM : RM H 10 a) (hx : 0 ≤ x ∧ x < a 1) (hy : 0 ≤ y ∧ y < a 1) : am_R (d + 4) 165 [am_r 11, am_i (x), am_i (y)] (N, P, H) (some (am_i (oneF a x y))) (N, P, H) := by
  refine am_en1 (d := d + 3) (ml := 5) (ls := [_, _, _, _, _]) cq_Marks_areOfOneWork rfl (Nat.le_of_ble_eq_true rfl) rfl ?_
  have hX := hI.mv hx.1 hx.2
  have hY := hI.mv hy.1 hy.2
  have hx1 := wkL_r a x (lenF a x).toNat
  have hy1 := wkL_r a y (lenF a y).toNat
  have ex1 : wkN a x = wkL a x (lenF a x).toNat := rfl
  have ey1 : wkN a y = wkL a y (lenF a y).toNat := rfl
  have hX1 := hX.2.1
  have hY1 := hY.2.1
  refine st_aload_n rfl rfl (by decide) ?_
  refine st_iload_n rfl rfl ?_
  refine st_cv1 (w := []) rfl rfl rfl (Nat.le_of_ble_eq_true rfl) (Nat.le_of_ble_eq_true rfl) rfl rfl (r_Marks_lengthOfWork hP hI hW hM hx) ?_
  refine st_istore_n (ls' := [_, _, _, _, _]) rfl (Nat.le_of_ble_eq_true rfl) rfl ?_
  refine st_iload_n rfl rfl ?_
  refine st_aload_n rfl rfl (by decide) ?_
  refine st_iload_n rfl rfl ?_
  refine st_cv1 (w := [_]) rfl rfl rfl (Nat.le_of_ble_eq_true rfl) (Nat.le_of_ble_eq_true rfl) rfl rfl (r_Marks_lengthOfWork hP hI hW hM hy) ?_
  refine st_icmp_eq rfl (fun h8 => ?_) (fun h8 => ?_)
  · refine st_iconst rfl ?_
    refine st_istore (ls' := [_, _, _, _, _]) rfl (Nat.le_of_ble_eq_true rfl) rfl ?_
    suffices hz : ∀ j, j ≤ (wkN a x).toNat → oneL a x y j = 1 → am_WP (am_R (d + 3)) cd_Marks_areOfOneWork (fun v' s' => v' = some (am_i (oneF a x y)) ∧ s' = (N, P, H)) 13 [some (am_r 11), some (am_i x), some (am_i y), some (am_i (wkN a x)), some (am_i (j : Int))] [] (N, P, H) from hz 0 (Nat.zero_le _) (if_pos (by omega))
    refine up_ind (n := (wkN a x).toNat) ?_ ?_
    · intro ho
      refine st_iload rfl rfl ?_
      refine st_iload_n rfl rfl ?_
      refine st_icmp_ge rfl (fun h15 => ?_) (fun h15 => (by exfalso; omega))
      refine st_iconst rfl ?_
      refine st_iret rfl (fun z => by first | exact absurd z (by decide) | exact bi_01 _ | decide | omega) ?_
      exact ⟨am_ri ho.symm, rfl⟩
    · intro j hj ih ho
      have px := hX.2.2 (j : Int) (by omega) (by omega)
      have py := hY.2.2 (j : Int) (by omega) (by omega)
      have hpk := pk_inj px py
      have h4 := eqL_4 (a := a) (x := x) (y := y) (k := (j : Int)) ho
      have hos : oneL a x y (j + 1) = eqL a x y (j : Int) (oneL a x y j) 4 := rfl
      refine st_iload rfl rfl ?_
      refine st_iload_n rfl rfl ?_
      refine st_icmp_ge rfl (fun h15 => (by exfalso; omega)) (fun h15 => ?_)
      refine st_aload_n rfl rfl (by decide) ?_
      refine st_iload_n rfl rfl ?_
      refine st_iload rfl rfl ?_
      refine st_cv1 (w := []) rfl rfl rfl (Nat.le_of_ble_eq_true rfl) (Nat.le_of_ble_eq_true rfl) rfl rfl (r_Marks_partOf hP hI hM hx (by omega)) ?_
      refine st_aload_n rfl rfl (by decide) ?_
      refine st_iload_n rfl rfl ?_
      refine st_iload rfl rfl ?_
      refine st_cv1 (w := [_]) rfl rfl rfl (Nat.le_of_ble_eq_true rfl) (Nat.le_of_ble_eq_true rfl) rfl rfl (r_Marks_partOf hP hI hM hy (by omega)) ?_
      refine st_lcmp rfl ?_
      have hlc := lcmp0 (pkA a x (j : Int)) (pkA a y (j : Int))
      refine st_if_eq rfl (fun h25 => ?_) (fun h25 => ?_)
      · refine st_iinc (ls' := [_, _, _, _, _]) rfl rfl (by omega) rfl ?_
        refine st_goto rfl ?_
        exact ih (by rw [hos, h4, if_pos (hpk.mp (hlc.mp h25))])
      · refine st_iconst rfl ?_
        refine st_iret rfl (fun z => by first | exact absurd z (by decide) | exact bi_01 _ | decide | omega) ?_
        refine ⟨am_ri ?_, rfl⟩
        rw [if_neg (fun z => h25 (hlc.mpr (hpk.mpr z)))] at h4
        have hz := oneL_z a x y (j + 1) (by rw [hos, h4]) ((wkN a x).toNat - (j + 1))
        unfold oneF
        rw [show (wkN a x).toNat = j + 1 + ((wkN a x).toNat - (j + 1)) by omega, hz]
  · refine st_iconst rfl ?_
    refine st_iret rfl (fun z => by first | exact absurd z (by decide) | exact bi_01 _ | decide | omega) ?_
    refine ⟨am_ri ?_, rfl⟩
    have hz := oneL_z a x y 0 (if_neg (by omega)) (wkN a x).toNat
    unfold oneF
    rw [Nat.zero_add] at hz
    exact hz.symm
