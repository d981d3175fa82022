/-! ===== the reference: works, gathering ===== -/
def wkL (a : Int → Int) (m : Int) : Nat → Int
  | 0 => 0
  | j + 1 => wkL a m j + (if prtF a m (j : Int) 0 < 5 then 1 else 0)
theorem wkL_r (a : Int → Int) (m : Int) : ∀ j : Nat, 0 ≤ wkL a m j ∧ wkL a m j ≤ (j : Int)
  | 0 => by simp only [wkL]; omega
  | j + 1 => by
    have ih := wkL_r a m j
    simp only [wkL]
    split <;> omega
def wkN (a : Int → Int) (m : Int) : Int := wkL a m (lenF a m).toNat
def eqL (a : Int → Int) (x y k b : Int) : Nat → Int
  | 0 => b
  | w + 1 => if eqL a x y k b w = 0 then 0 else if prtF a x k (w : Int) = prtF a y k (w : Int) then 1 else 0
theorem eqL_r (a : Int → Int) (x y k : Int) {b : Int} (hb : b = 0 ∨ b = 1) : ∀ w : Nat, eqL a x y k b w = 0 ∨ eqL a x y k b w = 1
  | 0 => hb
  | w + 1 => by
    simp only [eqL]
    split
    · exact Or.inl rfl
    · split
      · exact Or.inr rfl
      · exact Or.inl rfl
theorem eqL_z (a : Int → Int) (x y k : Int) : ∀ w : Nat, eqL a x y k 0 w = 0
  | 0 => rfl
  | w + 1 => by
    have ih := eqL_z a x y k w
    simp only [eqL]
    rw [if_pos ih]
def oneL (a : Int → Int) (x y : Int) : Nat → Int
  | 0 => if wkN a x = wkN a y then 1 else 0
  | k + 1 => eqL a x y (k : Int) (oneL a x y k) 4
theorem oneL_r (a : Int → Int) (x y : Int) : ∀ k : Nat, oneL a x y k = 0 ∨ oneL a x y k = 1
  | 0 => by
    simp only [oneL]
    split
    · exact Or.inr rfl
    · exact Or.inl rfl
  | k + 1 => eqL_r a x y (k : Int) (oneL_r a x y k) 4
theorem oneL_z (a : Int → Int) (x y : Int) (k : Nat) (h : oneL a x y k = 0) : ∀ n : Nat, oneL a x y (k + n) = 0
  | 0 => h
  | n + 1 => by
    have ih := oneL_z a x y k h n
    show eqL a x y _ (oneL a x y (k + n)) 4 = 0
    rw [ih]
    exact eqL_z _ _ _ _ _
def oneF (a : Int → Int) (x y : Int) : Int := oneL a x y (wkN a x).toNat

theorem r_Model_isOneWork {d N : Nat} {P : am_P} {H : am_H} {x y : Int} (hP : PZ P) (hx : MV (H 54) x) (hy : MV (H 54) y) : am_R (d + 2) 123 [am_r 53, am_i (x), am_i (y)] (N, P, H) (some (am_i (oneF (H 54) x y))) (N, P, H) := by
  refine am_en1 (d := d + 1) (ml := 8) (ls := [_, _, _, _, _, _, _, _]) cq_Model_isOneWork rfl (Nat.le_of_ble_eq_true rfl) rfl ?_
  have hlx := hx.2.1
  have hly := hy.2.1
  have hx0 := hx.1
  have hy0 := hy.1
  have ex : H 54 (70 + 33 * x) = lenF (H 54) x := rfl
  have ey : H 54 (70 + 33 * y) = lenF (H 54) y := rfl
  have epx : ∀ k w, H 54 (70 + 33 * x + 1 + 4 * k + w) = prtF (H 54) x k w := fun _ _ => rfl
  have epy : ∀ k w, H 54 (70 + 33 * y + 1 + 4 * k + w) = prtF (H 54) y k w := fun _ _ => rfl
  have wx := wkL_r (H 54) x (lenF (H 54) x).toNat
  have wy := wkL_r (H 54) y (lenF (H 54) y).toNat
  have ewx : wkN (H 54) x = wkL (H 54) x (lenF (H 54) x).toNat := rfl
  have ewy : wkN (H 54) y = wkL (H 54) y (lenF (H 54) y).toNat := rfl
  refine st_iconst rfl ?_
  refine st_istore_n (ls' := [_, _, _, _, _, _, _, _]) rfl (Nat.le_of_ble_eq_true rfl) rfl ?_
  refine st_iconst rfl ?_
  refine st_istore (ls' := [_, _, _, _, _, _, _, _]) rfl (Nat.le_of_ble_eq_true rfl) rfl ?_
  refine st_iconst rfl ?_
  refine st_istore (ls' := [_, _, _, _, _, _, _, _]) rfl (Nat.le_of_ble_eq_true rfl) rfl ?_
  refine up_ind (n := (lenF (H 54) x).toNat) (p := fun j => am_WP (am_R (d + 1)) cd_Model_isOneWork _ 6 [some (am_r 53), some (am_i x), some (am_i y), some (am_i (wkL (H 54) x j)), some (am_i 0), some (am_i (j : Int)), none, none] [] (N, P, H)) ?_ ?_ 0 (Nat.zero_le _)
  · show am_WP _ _ _ _ _ _ _
    refine st_iload rfl rfl ?_
    refine st_aload_n rfl rfl (by decide) ?_
    refine st_iload_n rfl rfl ?_
    refine st_cv1 (w := [_]) rfl rfl rfl (Nat.le_of_ble_eq_true rfl) (Nat.le_of_ble_eq_true rfl) rfl rfl (r_Model_partsOf hP (by omega) (by omega)) ?_
    rw [ex]
    refine st_icmp_ge rfl (fun h10 => ?_) (fun h10 => (by exfalso; omega))
    rw [← ewx]
    refine st_iconst rfl ?_
    refine st_istore (ls' := [_, _, _, _, _, _, _, _]) rfl (Nat.le_of_ble_eq_true rfl) rfl ?_
    refine up_ind (n := (lenF (H 54) y).toNat) (p := fun j => am_WP (am_R (d + 1)) cd_Model_isOneWork _ 28 [some (am_r 53), some (am_i x), some (am_i y), some (am_i (wkN (H 54) x)), some (am_i (wkL (H 54) y j)), some (am_i (j : Int)), none, none] [] (N, P, H)) ?_ ?_ 0 (Nat.zero_le _)
    · show am_WP _ _ _ _ _ _ _
      refine st_iload rfl rfl ?_
      refine st_aload_n rfl rfl (by decide) ?_
      refine st_iload_n rfl rfl ?_
      refine st_cv1 (w := [_]) rfl rfl rfl (Nat.le_of_ble_eq_true rfl) (Nat.le_of_ble_eq_true rfl) rfl rfl (r_Model_partsOf hP (by omega) (by omega)) ?_
      rw [ey]
      refine st_icmp_ge rfl (fun h32 => ?_) (fun h32 => (by exfalso; omega))
      rw [← ewy]
      refine st_iload_n rfl rfl ?_
      refine st_iload rfl rfl ?_
      refine st_icmp_ne rfl (fun h50 => ?_) (fun h50 => ?_)
      · refine st_iconst rfl ?_
        refine st_istore (ls' := [_, _, _, _, _, _, _, _]) rfl (Nat.le_of_ble_eq_true rfl) rfl ?_
        refine st_iconst rfl ?_
        refine st_istore (ls' := [_, _, _, _, _, _, _, _]) rfl (Nat.le_of_ble_eq_true rfl) rfl ?_
        suffices hl : ∀ j, j ≤ (wkN (H 54) x).toNat → ∀ t, am_WP (am_R (d + 1)) cd_Model_isOneWork (fun v' s' => v' = some (am_i (oneF (H 54) x y)) ∧ s' = (N, P, H)) 57 [some (am_r 53), some (am_i x), some (am_i y), some (am_i (wkN (H 54) x)), some (am_i (wkN (H 54) y)), some (am_i (oneL (H 54) x y j)), some (am_i (j : Int)), t] [] (N, P, H) from by
          have h0 := hl 0 (Nat.zero_le _) none
          rw [show oneL (H 54) x y 0 = 0 from if_neg h50] at h0
          exact h0
        refine up_ind (n := (wkN (H 54) x).toNat) ?_ ?_
        · intro t
          have hro := oneL_r (H 54) x y (wkN (H 54) x).toNat
          refine st_iload rfl rfl ?_
          refine st_iload_n rfl rfl ?_
          refine st_icmp_ge rfl (fun h59 => ?_) (fun h59 => (by exfalso; omega))
          refine st_iload rfl rfl ?_
          refine st_iret rfl (fun z => by first | exact absurd z (by decide) | exact bi_01 _ | decide | omega) ?_
          exact ⟨am_ri (by unfold oneF; first | rfl | (have hz := oneL_z (H 54) x y j (by omega) ((wkN (H 54) x).toNat - j); rw [show j + ((wkN (H 54) x).toNat - j) = (wkN (H 54) x).toNat by omega] at hz; omega)), rfl⟩
        · intro j hj ih t
          have hro := oneL_r (H 54) x y j
          refine st_iload rfl rfl ?_
          refine st_iload_n rfl rfl ?_
          refine st_icmp_ge rfl (fun h59 => (by exfalso; omega)) (fun h59 => ?_)
          refine st_iload rfl rfl ?_
          refine st_if_eq rfl (fun h61 => ?_) (fun h61 => ?_)
          · refine st_iload rfl rfl ?_
            refine st_iret rfl (fun z => by first | exact absurd z (by decide) | exact bi_01 _ | decide | omega) ?_
            exact ⟨am_ri (by unfold oneF; first | rfl | (have hz := oneL_z (H 54) x y j (by omega) ((wkN (H 54) x).toNat - j); rw [show j + ((wkN (H 54) x).toNat - j) = (wkN (H 54) x).toNat by omega] at hz; omega)), rfl⟩
          · refine st_iconst rfl ?_
            refine st_istore (ls' := [_, _, _, _, _, _, _, _]) rfl (Nat.le_of_ble_eq_true rfl) rfl ?_
            refine up_ind (n := 4) (p := fun w => am_WP (am_R (d + 1)) cd_Model_isOneWork _ 64 [some (am_r 53), some (am_i x), some (am_i y), some (am_i (wkN (H 54) x)), some (am_i (wkN (H 54) y)), some (am_i (eqL (H 54) x y (j : Int) (oneL (H 54) x y j) w)), some (am_i (j : Int)), some (am_i (w : Int))] [] (N, P, H)) ?_ ?_ 0 (Nat.zero_le _)
            · show am_WP _ _ _ _ _ _ _
              refine st_iload rfl rfl ?_
              refine st_iconst rfl ?_
              refine st_icmp_ge rfl (fun h66 => ?_) (fun h66 => (by exfalso; omega))
              refine st_iinc (ls' := [_, _, _, _, _, _, _, _]) rfl rfl (by omega) rfl ?_
              refine st_goto rfl ?_
              exact ih _
            · intro w hw ihw
              have ihw : am_WP _ _ _ _ _ _ _ := ihw
              show am_WP _ _ _ _ _ _ _
              have hre := eqL_r (H 54) x y (j : Int) (oneL_r (H 54) x y j) w
              refine st_iload rfl rfl ?_
              refine st_iconst rfl ?_
              refine st_icmp_ge rfl (fun h66 => (by exfalso; omega)) (fun h66 => ?_)
              refine st_iload rfl rfl ?_
              refine st_if_eq rfl (fun h68 => ?_) (fun h68 => ?_)
              · refine st_iconst rfl ?_
                refine st_istore (ls' := [_, _, _, _, _, _, _, _]) rfl (Nat.le_of_ble_eq_true rfl) rfl ?_
                refine st_iinc (ls' := [_, _, _, _, _, _, _, _]) rfl rfl (by omega) rfl ?_
                refine st_goto rfl ?_
                first
                | (rw [show eqL (H 54) x y (j : Int) (oneL (H 54) x y j) (w + 1) = 0 by simp only [eqL]; rw [if_pos (by omega)]] at ihw; exact ihw)
                | (rw [show eqL (H 54) x y (j : Int) (oneL (H 54) x y j) (w + 1) = 0 by simp only [eqL]; rw [if_neg (by omega), if_neg (by omega)]] at ihw; exact ihw)
                | (rw [show eqL (H 54) x y (j : Int) (oneL (H 54) x y j) (w + 1) = 1 by simp only [eqL]; rw [if_neg (by omega), if_pos (by omega)]] at ihw; exact ihw)
              · refine st_aload_n rfl rfl (by decide) ?_
                refine st_iload_n rfl rfl ?_
                refine st_iload rfl rfl ?_
                refine st_iload rfl rfl ?_
                refine st_cv1 (w := []) rfl rfl rfl (Nat.le_of_ble_eq_true rfl) (Nat.le_of_ble_eq_true rfl) rfl rfl (r_Model_partOf hP (by omega) (by omega) (by omega) (by omega) (by omega) (by omega)) ?_
                rw [epx]
                refine st_aload_n rfl rfl (by decide) ?_
                refine st_iload_n rfl rfl ?_
                refine st_iload rfl rfl ?_
                refine st_iload rfl rfl ?_
                refine st_cv1 (w := [_]) rfl rfl rfl (Nat.le_of_ble_eq_true rfl) (Nat.le_of_ble_eq_true rfl) rfl rfl (r_Model_partOf hP (by omega) (by omega) (by omega) (by omega) (by omega) (by omega)) ?_
                rw [epy]
                refine st_icmp_ne rfl (fun h79 => ?_) (fun h79 => ?_)
                · refine st_iconst rfl ?_
                  refine st_istore (ls' := [_, _, _, _, _, _, _, _]) rfl (Nat.le_of_ble_eq_true rfl) rfl ?_
                  refine st_iinc (ls' := [_, _, _, _, _, _, _, _]) rfl rfl (by omega) rfl ?_
                  refine st_goto rfl ?_
                  first
                  | (rw [show eqL (H 54) x y (j : Int) (oneL (H 54) x y j) (w + 1) = 0 by simp only [eqL]; rw [if_pos (by omega)]] at ihw; exact ihw)
                  | (rw [show eqL (H 54) x y (j : Int) (oneL (H 54) x y j) (w + 1) = 0 by simp only [eqL]; rw [if_neg (by omega), if_neg (by omega)]] at ihw; exact ihw)
                  | (rw [show eqL (H 54) x y (j : Int) (oneL (H 54) x y j) (w + 1) = 1 by simp only [eqL]; rw [if_neg (by omega), if_pos (by omega)]] at ihw; exact ihw)
                · refine st_iconst rfl ?_
                  refine st_goto rfl ?_
                  refine st_istore (ls' := [_, _, _, _, _, _, _, _]) rfl (Nat.le_of_ble_eq_true rfl) rfl ?_
                  refine st_iinc (ls' := [_, _, _, _, _, _, _, _]) rfl rfl (by omega) rfl ?_
                  refine st_goto rfl ?_
                  first
                  | (rw [show eqL (H 54) x y (j : Int) (oneL (H 54) x y j) (w + 1) = 0 by simp only [eqL]; rw [if_pos (by omega)]] at ihw; exact ihw)
                  | (rw [show eqL (H 54) x y (j : Int) (oneL (H 54) x y j) (w + 1) = 0 by simp only [eqL]; rw [if_neg (by omega), if_neg (by omega)]] at ihw; exact ihw)
                  | (rw [show eqL (H 54) x y (j : Int) (oneL (H 54) x y j) (w + 1) = 1 by simp only [eqL]; rw [if_neg (by omega), if_pos (by omega)]] at ihw; exact ihw)
      · refine st_iconst rfl ?_
        refine st_goto rfl ?_
        refine st_istore (ls' := [_, _, _, _, _, _, _, _]) rfl (Nat.le_of_ble_eq_true rfl) rfl ?_
        refine st_iconst rfl ?_
        refine st_istore (ls' := [_, _, _, _, _, _, _, _]) rfl (Nat.le_of_ble_eq_true rfl) rfl ?_
        suffices hl : ∀ j, j ≤ (wkN (H 54) x).toNat → ∀ t, am_WP (am_R (d + 1)) cd_Model_isOneWork (fun v' s' => v' = some (am_i (oneF (H 54) x y)) ∧ s' = (N, P, H)) 57 [some (am_r 53), some (am_i x), some (am_i y), some (am_i (wkN (H 54) x)), some (am_i (wkN (H 54) y)), some (am_i (oneL (H 54) x y j)), some (am_i (j : Int)), t] [] (N, P, H) from by
          have h0 := hl 0 (Nat.zero_le _) none
          rw [show oneL (H 54) x y 0 = 1 from if_pos (by omega)] at h0
          exact h0
        refine up_ind (n := (wkN (H 54) x).toNat) ?_ ?_
        · intro t
          have hro := oneL_r (H 54) x y (wkN (H 54) x).toNat
          refine st_iload rfl rfl ?_
          refine st_iload_n rfl rfl ?_
          refine st_icmp_ge rfl (fun h59 => ?_) (fun h59 => (by exfalso; omega))
          refine st_iload rfl rfl ?_
          refine st_iret rfl (fun z => by first | exact absurd z (by decide) | exact bi_01 _ | decide | omega) ?_
          exact ⟨am_ri (by unfold oneF; first | rfl | (have hz := oneL_z (H 54) x y j (by omega) ((wkN (H 54) x).toNat - j); rw [show j + ((wkN (H 54) x).toNat - j) = (wkN (H 54) x).toNat by omega] at hz; omega)), rfl⟩
        · intro j hj ih t
          have hro := oneL_r (H 54) x y j
          refine st_iload rfl rfl ?_
          refine st_iload_n rfl rfl ?_
          refine st_icmp_ge rfl (fun h59 => (by exfalso; omega)) (fun h59 => ?_)
          refine st_iload rfl rfl ?_
          refine st_if_eq rfl (fun h61 => ?_) (fun h61 => ?_)
          · refine st_iload rfl rfl ?_
            refine st_iret rfl (fun z => by first | exact absurd z (by decide) | exact bi_01 _ | decide | omega) ?_
            exact ⟨am_ri (by unfold oneF; first | rfl | (have hz := oneL_z (H 54) x y j (by omega) ((wkN (H 54) x).toNat - j); rw [show j + ((wkN (H 54) x).toNat - j) = (wkN (H 54) x).toNat by omega] at hz; omega)), rfl⟩
          · refine st_iconst rfl ?_
            refine st_istore (ls' := [_, _, _, _, _, _, _, _]) rfl (Nat.le_of_ble_eq_true rfl) rfl ?_
            refine up_ind (n := 4) (p := fun w => am_WP (am_R (d + 1)) cd_Model_isOneWork _ 64 [some (am_r 53), some (am_i x), some (am_i y), some (am_i (wkN (H 54) x)), some (am_i (wkN (H 54) y)), some (am_i (eqL (H 54) x y (j : Int) (oneL (H 54) x y j) w)), some (am_i (j : Int)), some (am_i (w : Int))] [] (N, P, H)) ?_ ?_ 0 (Nat.zero_le _)
            · show am_WP _ _ _ _ _ _ _
              refine st_iload rfl rfl ?_
              refine st_iconst rfl ?_
              refine st_icmp_ge rfl (fun h66 => ?_) (fun h66 => (by exfalso; omega))
              refine st_iinc (ls' := [_, _, _, _, _, _, _, _]) rfl rfl (by omega) rfl ?_
              refine st_goto rfl ?_
              exact ih _
            · intro w hw ihw
              have ihw : am_WP _ _ _ _ _ _ _ := ihw
              show am_WP _ _ _ _ _ _ _
              have hre := eqL_r (H 54) x y (j : Int) (oneL_r (H 54) x y j) w
              refine st_iload rfl rfl ?_
              refine st_iconst rfl ?_
              refine st_icmp_ge rfl (fun h66 => (by exfalso; omega)) (fun h66 => ?_)
              refine st_iload rfl rfl ?_
              refine st_if_eq rfl (fun h68 => ?_) (fun h68 => ?_)
              · refine st_iconst rfl ?_
                refine st_istore (ls' := [_, _, _, _, _, _, _, _]) rfl (Nat.le_of_ble_eq_true rfl) rfl ?_
                refine st_iinc (ls' := [_, _, _, _, _, _, _, _]) rfl rfl (by omega) rfl ?_
                refine st_goto rfl ?_
                first
                | (rw [show eqL (H 54) x y (j : Int) (oneL (H 54) x y j) (w + 1) = 0 by simp only [eqL]; rw [if_pos (by omega)]] at ihw; exact ihw)
                | (rw [show eqL (H 54) x y (j : Int) (oneL (H 54) x y j) (w + 1) = 0 by simp only [eqL]; rw [if_neg (by omega), if_neg (by omega)]] at ihw; exact ihw)
                | (rw [show eqL (H 54) x y (j : Int) (oneL (H 54) x y j) (w + 1) = 1 by simp only [eqL]; rw [if_neg (by omega), if_pos (by omega)]] at ihw; exact ihw)
              · refine st_aload_n rfl rfl (by decide) ?_
                refine st_iload_n rfl rfl ?_
                refine st_iload rfl rfl ?_
                refine st_iload rfl rfl ?_
                refine st_cv1 (w := []) rfl rfl rfl (Nat.le_of_ble_eq_true rfl) (Nat.le_of_ble_eq_true rfl) rfl rfl (r_Model_partOf hP (by omega) (by omega) (by omega) (by omega) (by omega) (by omega)) ?_
                rw [epx]
                refine st_aload_n rfl rfl (by decide) ?_
                refine st_iload_n rfl rfl ?_
                refine st_iload rfl rfl ?_
                refine st_iload rfl rfl ?_
                refine st_cv1 (w := [_]) rfl rfl rfl (Nat.le_of_ble_eq_true rfl) (Nat.le_of_ble_eq_true rfl) rfl rfl (r_Model_partOf hP (by omega) (by omega) (by omega) (by omega) (by omega) (by omega)) ?_
                rw [epy]
                refine st_icmp_ne rfl (fun h79 => ?_) (fun h79 => ?_)
                · refine st_iconst rfl ?_
                  refine st_istore (ls' := [_, _, _, _, _, _, _, _]) rfl (Nat.le_of_ble_eq_true rfl) rfl ?_
                  refine st_iinc (ls' := [_, _, _, _, _, _, _, _]) rfl rfl (by omega) rfl ?_
                  refine st_goto rfl ?_
                  first
                  | (rw [show eqL (H 54) x y (j : Int) (oneL (H 54) x y j) (w + 1) = 0 by simp only [eqL]; rw [if_pos (by omega)]] at ihw; exact ihw)
                  | (rw [show eqL (H 54) x y (j : Int) (oneL (H 54) x y j) (w + 1) = 0 by simp only [eqL]; rw [if_neg (by omega), if_neg (by omega)]] at ihw; exact ihw)
                  | (rw [show eqL (H 54) x y (j : Int) (oneL (H 54) x y j) (w + 1) = 1 by simp only [eqL]; rw [if_neg (by omega), if_pos (by omega)]] at ihw; exact ihw)
                · refine st_iconst rfl ?_
                  refine st_goto rfl ?_
                  refine st_istore (ls' := [_, _, _, _, _, _, _, _]) rfl (Nat.le_of_ble_eq_true rfl) rfl ?_
                  refine st_iinc (ls' := [_, _, _, _, _, _, _, _]) rfl rfl (by omega) rfl ?_
                  refine st_goto rfl ?_
                  first
                  | (rw [show eqL (H 54) x y (j : Int) (oneL (H 54) x y j) (w + 1) = 0 by simp only [eqL]; rw [if_pos (by omega)]] at ihw; exact ihw)
                  | (rw [show eqL (H 54) x y (j : Int) (oneL (H 54) x y j) (w + 1) = 0 by simp only [eqL]; rw [if_neg (by omega), if_neg (by omega)]] at ihw; exact ihw)
                  | (rw [show eqL (H 54) x y (j : Int) (oneL (H 54) x y j) (w + 1) = 1 by simp only [eqL]; rw [if_neg (by omega), if_pos (by omega)]] at ihw; exact ihw)
    · intro j hj ih
      have ih : am_WP _ _ _ _ _ _ _ := ih
      show am_WP _ _ _ _ _ _ _
      have hr := wkL_r (H 54) y j
      refine st_iload rfl rfl ?_
      refine st_aload_n rfl rfl (by decide) ?_
      refine st_iload_n rfl rfl ?_
      refine st_cv1 (w := [_]) rfl rfl rfl (Nat.le_of_ble_eq_true rfl) (Nat.le_of_ble_eq_true rfl) rfl rfl (r_Model_partsOf hP (by omega) (by omega)) ?_
      rw [ey]
      refine st_icmp_ge rfl (fun h32 => (by exfalso; omega)) (fun h32 => ?_)
      refine st_iload rfl rfl ?_
      refine st_aload_n rfl rfl (by decide) ?_
      refine st_iload_n rfl rfl ?_
      refine st_iload rfl rfl ?_
      refine st_iconst rfl ?_
      refine st_cv1 (w := [_]) rfl rfl rfl (Nat.le_of_ble_eq_true rfl) (Nat.le_of_ble_eq_true rfl) rfl rfl (r_Model_partOf hP (by omega) (by omega) (by omega) (by omega) (by omega) (by omega)) ?_
      rw [epy]
      refine st_iconst rfl ?_
      refine st_icmp_ge rfl (fun h40 => ?_) (fun h40 => ?_)
      · refine st_iconst rfl ?_
        refine st_iadd rfl (by omega) ?_
        refine st_istore (ls' := [_, _, _, _, _, _, _, _]) rfl (Nat.le_of_ble_eq_true rfl) rfl ?_
        refine st_iinc (ls' := [_, _, _, _, _, _, _, _]) rfl rfl (by omega) rfl ?_
        refine st_goto rfl ?_
        first
        | (rw [show wkL (H 54) y (j + 1) = wkL (H 54) y j + 1 by simp only [wkL]; rw [if_pos (by omega)]] at ih; exact ih)
        | (rw [show wkL (H 54) y (j + 1) = wkL (H 54) y j + 0 by simp only [wkL]; rw [if_neg (by omega)]] at ih; exact ih)
      · refine st_iconst rfl ?_
        refine st_goto rfl ?_
        refine st_iadd rfl (by omega) ?_
        refine st_istore (ls' := [_, _, _, _, _, _, _, _]) rfl (Nat.le_of_ble_eq_true rfl) rfl ?_
        refine st_iinc (ls' := [_, _, _, _, _, _, _, _]) rfl rfl (by omega) rfl ?_
        refine st_goto rfl ?_
        first
        | (rw [show wkL (H 54) y (j + 1) = wkL (H 54) y j + 1 by simp only [wkL]; rw [if_pos (by omega)]] at ih; exact ih)
        | (rw [show wkL (H 54) y (j + 1) = wkL (H 54) y j + 0 by simp only [wkL]; rw [if_neg (by omega)]] at ih; exact ih)
  · intro j hj ih
    have ih : am_WP _ _ _ _ _ _ _ := ih
    show am_WP _ _ _ _ _ _ _
    have hr := wkL_r (H 54) x j
    refine st_iload rfl rfl ?_
    refine st_aload_n rfl rfl (by decide) ?_
    refine st_iload_n rfl rfl ?_
    refine st_cv1 (w := [_]) rfl rfl rfl (Nat.le_of_ble_eq_true rfl) (Nat.le_of_ble_eq_true rfl) rfl rfl (r_Model_partsOf hP (by omega) (by omega)) ?_
    rw [ex]
    refine st_icmp_ge rfl (fun h10 => (by exfalso; omega)) (fun h10 => ?_)
    refine st_iload_n rfl rfl ?_
    refine st_aload_n rfl rfl (by decide) ?_
    refine st_iload_n rfl rfl ?_
    refine st_iload rfl rfl ?_
    refine st_iconst rfl ?_
    refine st_cv1 (w := [_]) rfl rfl rfl (Nat.le_of_ble_eq_true rfl) (Nat.le_of_ble_eq_true rfl) rfl rfl (r_Model_partOf hP (by omega) (by omega) (by omega) (by omega) (by omega) (by omega)) ?_
    rw [epx]
    refine st_iconst rfl ?_
    refine st_icmp_ge rfl (fun h18 => ?_) (fun h18 => ?_)
    · refine st_iconst rfl ?_
      refine st_iadd rfl (by omega) ?_
      refine st_istore_n (ls' := [_, _, _, _, _, _, _, _]) rfl (Nat.le_of_ble_eq_true rfl) rfl ?_
      refine st_iinc (ls' := [_, _, _, _, _, _, _, _]) rfl rfl (by omega) rfl ?_
      refine st_goto rfl ?_
      first
      | (rw [show wkL (H 54) x (j + 1) = wkL (H 54) x j + 1 by simp only [wkL]; rw [if_pos (by omega)]] at ih; exact ih)
      | (rw [show wkL (H 54) x (j + 1) = wkL (H 54) x j + 0 by simp only [wkL]; rw [if_neg (by omega)]] at ih; exact ih)
    · refine st_iconst rfl ?_
      refine st_goto rfl ?_
      refine st_iadd rfl (by omega) ?_
      refine st_istore_n (ls' := [_, _, _, _, _, _, _, _]) rfl (Nat.le_of_ble_eq_true rfl) rfl ?_
      refine st_iinc (ls' := [_, _, _, _, _, _, _, _]) rfl rfl (by omega) rfl ?_
      refine st_goto rfl ?_
      first
      | (rw [show wkL (H 54) x (j + 1) = wkL (H 54) x j + 1 by simp only [wkL]; rw [if_pos (by omega)]] at ih; exact ih)
      | (rw [show wkL (H 54) x (j + 1) = wkL (H 54) x j + 0 by simp only [wkL]; rw [if_neg (by omega)]] at ih; exact ih)
def gW (a : Int → Int) (f : Int) (t : Nat) : Int := thgF a (f + ((t / 30 : Nat) : Int)) ((t % 30 : Nat) : Int)
def gN (a : Int → Int) (f : Int) : Nat → Int
  | 0 => 0
  | t + 1 => if gW a f t < 0 then gN a f t else gN a f t + 1
theorem gN_r (a : Int → Int) (f : Int) : ∀ t : Nat, 0 ≤ gN a f t ∧ gN a f t ≤ (t : Int)
  | 0 => by simp only [gN]; omega
  | t + 1 => by
    have ih := gN_r a f t
    simp only [gN]
    split <;> omega
/-- the things gathered: V tells what is kept of each place -/
def gA (a : Int → Int) (f : Int) (V : Nat → Int) (I : Int → Int) : Nat → Int → Int
  | 0 => I
  | t + 1 => if gW a f t < 0 then gA a f V I t else am_uf (gA a f V I t) (gN a f t) (V t)
def gS (a : Int → Int) (f : Int) (S : Int → Int) (t : Nat) : Int → Int := fun k => if 0 ≤ k ∧ k < (t : Int) then gW a f k.toNat else S k
theorem gS_0 (a : Int → Int) (f : Int) (S : Int → Int) : gS a f S 0 = S := by
  funext k; exact if_neg (by omega)
theorem gS_s (a : Int → Int) (f : Int) (S : Int → Int) (t : Nat) : gS a f S (t + 1) = am_uf (gS a f S t) (t : Int) (gW a f t) := by
  funext k
  unfold am_uf gS
  by_cases h : k = (t : Int)
  · rw [if_pos (by omega), if_pos h, h]; rfl
  · rw [if_neg h]
    by_cases h2 : 0 ≤ k ∧ k < (t : Int)
    · rw [if_pos h2, if_pos (by omega)]
    · rw [if_neg h2, if_neg (by omega)]
def gtH (H : am_H) (f : Int) (t : Nat) : am_H := fun o => if o = 53 then am_uf (H 53) 19 (gN (H 54) f t) else if o = 64 then gA (H 54) f (gW (H 54) f) (H 64) t else if o = 65 then gA (H 54) f (fun t => ((t / 30 : Nat) : Int)) (H 65) t else if o = 70 then gS (H 54) f (H 70) t else H o
theorem gtH_54 (H : am_H) (f : Int) (t : Nat) : gtH H f t 54 = H 54 := rfl
theorem gtH_53 (H : am_H) (f : Int) (t : Nat) : gtH H f t 53 = am_uf (H 53) 19 (gN (H 54) f t) := rfl
theorem gtH_0 (H : am_H) (f : Int) : gtH H f 0 = am_up H 53 19 0 := by
  funext o
  unfold gtH
  by_cases h : o = 53
  · subst h; rw [if_pos rfl, am_up_eq]; rfl
  · rw [if_neg h, am_up_ne h, gS_0]
    repeat' split
    · rename_i h; subst h; rfl
    · rename_i h; subst h; rfl
    · rename_i h; subst h; rfl
    · rfl
theorem gtH_n (H : am_H) (f : Int) (t : Nat) (h : gW (H 54) f t < 0) : gtH H f (t + 1) = am_up (gtH H f t) 70 (t : Int) (gW (H 54) f t) := by
  funext o
  by_cases h7 : o = 70
  · subst h7; rw [am_up_eq]; exact gS_s _ _ _ _
  · rw [am_up_ne h7]
    unfold gtH
    rw [if_neg h7, if_neg h7]
    simp only [gN, gA]
    rw [if_pos h, if_pos h, if_pos h]
theorem gtH_s (H : am_H) (f : Int) (t : Nat) (h : ¬ gW (H 54) f t < 0) : gtH H f (t + 1) = am_up (am_up (am_up (am_up (gtH H f t) 70 (t : Int) (gW (H 54) f t)) 64 (gN (H 54) f t) (gW (H 54) f t)) 65 (gN (H 54) f t) ((t / 30 : Nat) : Int)) 53 19 (gN (H 54) f t + 1) := by
  funext o
  by_cases h3 : o = 53
  · subst h3
    rw [am_up_eq, am_up_ne (by decide), am_up_ne (by decide), am_up_ne (by decide), gtH_53, gtH_53]
    simp only [gN]
    rw [if_neg h]
    funext k
    unfold am_uf
    split <;> rfl
  · rw [am_up_ne h3]
    by_cases h5 : o = 65
    · subst h5
      rw [am_up_eq, am_up_ne (by decide), am_up_ne (by decide)]
      show gA _ _ _ _ (t + 1) = am_uf (gA _ _ _ _ t) _ _
      simp only [gA]
      rw [if_neg h]
    · rw [am_up_ne h5]
      by_cases h4 : o = 64
      · subst h4
        rw [am_up_eq, am_up_ne (by decide)]
        show gA _ _ _ _ (t + 1) = am_uf (gA _ _ _ _ t) _ _
        simp only [gA]
        rw [if_neg h]
      · rw [am_up_ne h4]
        by_cases h7 : o = 70
        · subst h7; rw [am_up_eq]; exact gS_s _ _ _ _
        · rw [am_up_ne h7]
          unfold gtH
          rw [if_neg h3, if_neg h4, if_neg h5, if_neg h7, if_neg h3, if_neg h4, if_neg h5, if_neg h7]

theorem r_Model_gathers {d N : Nat} {P : am_P} {H : am_H} {f l : Int} (hP : PZ P) (h1 : 0 ≤ f) (h2 : f ≤ l) (h3 : l < 16) : am_R (d + 2) 124 [am_r 53, am_i (f), am_i (l)] (N, P, H) none (N, P, gtH H f (30 * (l + 1 - f).toNat)) := by
  refine am_en1 (d := d + 1) (ml := 6) (ls := [_, _, _, _, _, _]) cq_Model_gathers rfl (Nat.le_of_ble_eq_true rfl) rfl ?_
  refine st_aload_n rfl rfl (by decide) ?_
  refine st_iconst rfl ?_
  refine st_putI (kk := 19) rfl rfl rfl rfl ?_
  refine st_iload_n rfl rfl ?_
  refine st_istore_n (ls' := [_, _, _, _, _, _]) rfl (Nat.le_of_ble_eq_true rfl) rfl ?_
  suffices hl : ∀ j, j ≤ (l + 1 - f).toNat → ∀ p t, am_WP (am_R (d + 1)) cd_Model_gathers (fun v' s' => v' = none ∧ s' = (N, P, gtH H f (30 * (l + 1 - f).toNat))) 5 [some (am_r 53), some (am_i f), some (am_i l), some (am_i (f + (j : Int))), p, t] [] (N, P, gtH H f (30 * j)) from by
    have h0 := hl 0 (Nat.zero_le _) none none
    rw [show f + ((0 : Nat) : Int) = f by omega, show 30 * 0 = 0 from rfl, gtH_0] at h0
    exact h0
  refine up_ind (n := (l + 1 - f).toNat) ?_ ?_
  · intro p t
    refine st_iload_n rfl rfl ?_
    refine st_iload_n rfl rfl ?_
    refine st_icmp_gt rfl (fun h7 => ?_) (fun h7 => (by exfalso; omega))
    refine st_ret rfl ?_
    exact ⟨rfl, rfl⟩
  · intro j hj ih p t
    have ih : ∀ p t, am_WP (am_R (d + 1)) cd_Model_gathers (fun v' s' => v' = none ∧ s' = (N, P, gtH H f (30 * (l + 1 - f).toNat))) 5 [some (am_r 53), some (am_i f), some (am_i l), some (am_i (f + (j : Int) + 1)), p, t] [] (N, P, gtH H f (30 * j + 30)) := by
      intro p t
      have h1 := ih p t
      rw [show f + ((j + 1 : Nat) : Int) = f + (j : Int) + 1 by omega, show 30 * (j + 1) = 30 * j + 30 by omega] at h1
      exact h1
    refine st_iload_n rfl rfl ?_
    refine st_iload_n rfl rfl ?_
    refine st_icmp_gt rfl (fun h7 => (by exfalso; omega)) (fun h7 => ?_)
    refine st_iconst rfl ?_
    refine st_istore (ls' := [_, _, _, _, _, _]) rfl (Nat.le_of_ble_eq_true rfl) rfl ?_
    refine up_ind (n := 30) (p := fun p => ∀ t, am_WP (am_R (d + 1)) cd_Model_gathers _ 10 [some (am_r 53), some (am_i f), some (am_i l), some (am_i (f + (j : Int))), some (am_i (p : Int)), t] [] (N, P, gtH H f (30 * j + p))) ?_ ?_ 0 (Nat.zero_le _) _
    · show ∀ t, am_WP _ _ _ _ _ _ _
      intro t
      refine st_iload rfl rfl ?_
      refine st_bipush rfl ?_
      refine st_icmp_ge rfl (fun h12 => ?_) (fun h12 => (by exfalso; omega))
      refine st_iinc (ls' := [_, _, _, _, _, _]) rfl rfl (by omega) rfl ?_
      refine st_goto rfl ?_
      exact ih _ _
    · intro p hp ihp
      have ihp : ∀ t, am_WP _ _ _ _ _ _ _ := ihp
      show ∀ t, am_WP _ _ _ _ _ _ _
      intro t
      have hg := gN_r (H 54) f (30 * j + p)
      have e0 : gtH H f (30 * j + p) 54 (6670 + 32 * (f + (j : Int)) + 2 + (p : Int)) = gW (H 54) f (30 * j + p) := by
        rw [gtH_54]
        unfold gW thgF
        rw [show (30 * j + p) / 30 = j by omega, show (30 * j + p) % 30 = p by omega]
      refine st_iload rfl rfl ?_
      refine st_bipush rfl ?_
      refine st_icmp_ge rfl (fun h12 => (by exfalso; omega)) (fun h12 => ?_)
      refine st_aload_n rfl rfl (by decide) ?_
      refine st_getR (kk := 0) rfl rfl rfl (pz_53_0 hP) rfl ?_
      refine st_aload_n rfl rfl (by decide) ?_
      refine st_iload_n rfl rfl ?_
      refine st_iload rfl rfl ?_
      refine st_cv1 (w := [_]) rfl rfl rfl (Nat.le_of_ble_eq_true rfl) (Nat.le_of_ble_eq_true rfl) rfl rfl (r_Model_placeOf (by omega) (by omega) (by omega) (by omega)) ?_
      refine st_iaload rfl rfl (by omega) (by omega) ?_
      rw [e0]
      refine st_istore (ls' := [_, _, _, _, _, _]) rfl (Nat.le_of_ble_eq_true rfl) rfl ?_
      refine st_aload_n rfl rfl (by decide) ?_
      refine st_getR (kk := 26) rfl rfl rfl (pz_53_26 hP) rfl ?_
      refine st_bipush rfl ?_
      refine st_iload_n rfl rfl ?_
      refine st_iload_n rfl rfl ?_
      refine st_isub rfl (by omega) ?_
      refine st_imul rfl (by omega) ?_
      refine st_iload rfl rfl ?_
      refine st_iadd rfl (by omega) ?_
      refine st_iload rfl rfl ?_
      rw [show 30 * (f + (j : Int) - f) + (p : Int) = (((30 * j + p) : Nat) : Int) by omega]
      refine st_iastore rfl rfl (by omega) (by omega) ?_
      refine st_iload rfl rfl ?_
      refine st_if_ge rfl (fun h33 => ?_) (fun h33 => ?_)
      · refine st_aload_n rfl rfl (by decide) ?_
        refine st_getR (kk := 16) rfl rfl rfl (pz_53_16 hP) rfl ?_
        refine st_aload_n rfl rfl (by decide) ?_
        refine st_getI (kk := 19) rfl rfl (by decide) rfl ?_
        refine st_iload rfl rfl ?_
        rw [am_up_ne (by decide), gtH_53, am_uf_eq]
        refine st_iastore rfl rfl (by omega) (by omega) ?_
        refine st_aload_n rfl rfl (by decide) ?_
        refine st_getR (kk := 17) rfl rfl rfl (pz_53_17 hP) rfl ?_
        refine st_aload_n rfl rfl (by decide) ?_
        refine st_getI (kk := 19) rfl rfl (by decide) rfl ?_
        refine st_iload_n rfl rfl ?_
        refine st_iload_n rfl rfl ?_
        refine st_isub rfl (by omega) ?_
        rw [am_up_ne (by decide), am_up_ne (by decide), gtH_53, am_uf_eq, show f + (j : Int) - f = (((30 * j + p) / 30 : Nat) : Int) by omega]
        refine st_iastore rfl rfl (by omega) (by omega) ?_
        refine st_aload_n rfl rfl (by decide) ?_
        refine st_dup rfl rfl ?_
        refine st_getI (kk := 19) rfl rfl (by decide) rfl ?_
        rw [am_up_ne (by decide), am_up_ne (by decide), am_up_ne (by decide), gtH_53, am_uf_eq]
        refine st_iconst rfl ?_
        refine st_iadd rfl (by omega) ?_
        refine st_putI (kk := 19) rfl rfl rfl rfl ?_
        refine st_iinc (ls' := [_, _, _, _, _, _]) rfl rfl (by omega) rfl ?_
        refine st_goto rfl ?_
        have ihp := ihp (some (am_i (gW (H 54) f (30 * j + p))))
        rw [show 30 * j + (p + 1) = (30 * j + p) + 1 from rfl] at ihp
        first
        | (rw [gtH_n H f (30 * j + p) (by omega)] at ihp; exact ihp)
        | (rw [gtH_s H f (30 * j + p) (by omega)] at ihp; exact ihp)
      · refine st_goto rfl ?_
        refine st_iinc (ls' := [_, _, _, _, _, _]) rfl rfl (by omega) rfl ?_
        refine st_goto rfl ?_
        have ihp := ihp (some (am_i (gW (H 54) f (30 * j + p))))
        rw [show 30 * j + (p + 1) = (30 * j + p) + 1 from rfl] at ihp
        first
        | (rw [gtH_n H f (30 * j + p) (by omega)] at ihp; exact ihp)
        | (rw [gtH_s H f (30 * j + p) (by omega)] at ihp; exact ihp)
