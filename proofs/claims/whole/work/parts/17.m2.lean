/-! ===== the reference: how marks sort ===== -/
theorem up_ind {n : Nat} {p : Nat → Prop} (h0 : p n) (hs : ∀ j, j < n → p (j + 1) → p j) : ∀ j, j ≤ n → p j := by
  intro j hj
  obtain ⟨f, hf⟩ : ∃ f, j + f = n := ⟨n - j, by omega⟩
  induction f generalizing j with
  | zero => rw [show j = n by omega]; exact h0
  | succ f ih => exact hs j (by omega) (ih (j + 1) (by omega) (by omega))
def lenF (a : Int → Int) (m : Int) : Int := a (70 + 33 * m)
def prtF (a : Int → Int) (m k w : Int) : Int := a (70 + 33 * m + 1 + 4 * k + w)
def filF (v n L b : Int) : Int := v * b ^ (L - n).toNat
/-- a part that a text can give -/
def PVal (kd v g c : Int) : Prop := (0 ≤ kd ∧ kd ≤ 6) ∧ (0 ≤ v ∧ v ≤ 19682) ∧ (0 ≤ c ∧ c ≤ 6) ∧ (0 ≤ g ∧ g * 10 ^ (6 - c).toNat < 1000000) ∧ ((kd = 2 ∨ kd = 4) → 1 ≤ c)
def MV (a : Int → Int) (m : Int) : Prop := (0 ≤ m ∧ m < 200) ∧ (1 ≤ lenF a m ∧ lenF a m ≤ 8) ∧ ∀ k, 0 ≤ k → k < lenF a m → PVal (prtF a m k 0) (prtF a m k 1) (prtF a m k 2) (prtF a m k 3)
theorem filF_pos {v n L b : Int} (h : 0 ≤ v) (hb : 0 ≤ b) : 0 ≤ filF v n L b := Int.mul_nonneg h (Int.pow_nonneg hb)
theorem fil27 {v : Int} (h : 0 ≤ v) (h2 : v ≤ 19682) : 0 ≤ filF v (letN v) 3 27 ∧ filF v (letN v) 3 27 ≤ 19682 := by
  refine ⟨filF_pos h (by decide), ?_⟩
  unfold filF letN
  split
  · show v * 27 ^ 2 ≤ 19682
    omega
  · split
    · show v * 27 ^ 1 ≤ 19682
      omega
    · show v * 27 ^ 0 ≤ 19682
      omega

theorem l_filled {d N : Nat} {P : am_P} {H : am_H} {v n len base : Int} {Q : Option am_V → am_S → Prop} (hb : 1 ≤ base) : ∀ (f : Nat) (w k : Int), len - k = f → -1000 ≤ k → len ≤ 1000 → 0 ≤ w → w * base ^ f < 2147483648 → Q (some (am_i (w * base ^ f))) (N, P, H) → am_WP (am_R (d + 0)) cd_Model_filled Q 4 [some (am_i v), some (am_i n), some (am_i len), some (am_i base), some (am_i w), some (am_i k)] [] (N, P, H) := by
  intro f
  induction f with
  | zero =>
    intro w k h1 hk hl h2 h3 hq
    refine st_iload rfl rfl ?_
    refine st_iload_n rfl rfl ?_
    refine st_icmp_ge rfl (fun h6 => ?_) (fun h6 => (by exfalso; omega))
    refine st_iload rfl rfl ?_
    refine st_iret rfl (fun z => by first | exact absurd z (by decide) | exact bi_01 _ | decide | omega) ?_
    rw [Int.pow_zero, Int.mul_one] at hq
    exact hq
  | succ f ih =>
    intro w k h1 hk hl h2 h3 hq
    have hp : 1 ≤ base ^ f := Int.pow_pos (by omega)
    have e : w * base * base ^ f = w * base ^ (f + 1) := by rw [Int.pow_succ, Int.mul_assoc, Int.mul_comm base]
    have g0 : 0 ≤ w * base := Int.mul_nonneg h2 (by omega)
    have g1 : w * base ≤ w * base ^ (f + 1) := by rw [← e]; have := Int.mul_le_mul_of_nonneg_left hp g0; rw [Int.mul_one] at this; exact this
    refine st_iload rfl rfl ?_
    refine st_iload_n rfl rfl ?_
    refine st_icmp_ge rfl (fun h6 => (by exfalso; omega)) (fun h6 => ?_)
    refine st_iload rfl rfl ?_
    refine st_iload_n rfl rfl ?_
    refine st_imul rfl (by omega) ?_
    refine st_istore (ls' := [_, _, _, _, _, _]) rfl (Nat.le_of_ble_eq_true rfl) rfl ?_
    refine st_iinc (ls' := [_, _, _, _, _, _]) rfl rfl (by omega) rfl ?_
    refine st_goto rfl ?_
    exact ih (w * base) (k + 1) (by omega) (by omega) hl g0 (by rw [e]; exact h3) (by rw [e]; exact hq)
theorem r_Model_filled {d N : Nat} {P : am_P} {H : am_H} {v n len base : Int} (hb : 1 ≤ base) (h1 : 0 ≤ n) (h2 : n ≤ len) (h3 : len ≤ 1000) (h4 : 0 ≤ v) (h5 : filF v n len base < 2147483648) : am_R (d + 1) 78 [am_i (v), am_i (n), am_i (len), am_i (base)] (N, P, H) (some (am_i (filF v n len base))) (N, P, H) := by
  refine am_en1 (d := d + 0) (ml := 6) (ls := [_, _, _, _, _, _]) cq_Model_filled rfl (Nat.le_of_ble_eq_true rfl) rfl ?_
  refine st_iload_n rfl rfl ?_
  refine st_istore (ls' := [_, _, _, _, _, _]) rfl (Nat.le_of_ble_eq_true rfl) rfl ?_
  refine st_iload_n rfl rfl ?_
  refine st_istore (ls' := [_, _, _, _, _, _]) rfl (Nat.le_of_ble_eq_true rfl) rfl ?_
  exact l_filled hb (len - n).toNat v n (by omega) (by omega) h3 h4 h5 ⟨rfl, rfl⟩
def heldF (a : Int → Int) (x y k w : Int) : Int :=
  if prtF a x k 0 = 0 then sgn (filF (prtF a x k 1) (letN (prtF a x k 1)) 3 27 - filF (prtF a y k 1) (letN (prtF a y k 1)) 3 27)
  else if prtF a x k 1 ≠ prtF a y k 1 then sgn (prtF a x k 1 - prtF a y k 1)
  else if w = 1 ∧ prtF a x k 3 ≠ prtF a y k 3 then sgn (prtF a x k 3 - prtF a y k 3)
  else sgn (filF (prtF a x k 2) (prtF a x k 3) 6 10 - filF (prtF a y k 2) (prtF a y k 3) 6 10)
theorem letN_r (v : Int) : 1 ≤ letN v ∧ letN v ≤ 3 := by unfold letN; (repeat' split) <;> omega
theorem r_Model_held {d N : Nat} {P : am_P} {H : am_H} {x y k w : Int} (hP : PZ P) (h1 : 0 ≤ x) (h2 : x < 200) (h3 : 0 ≤ y) (h4 : y < 200) (h5 : 0 ≤ k) (h6 : k < 8) (hx : PVal (prtF (H 54) x k 0) (prtF (H 54) x k 1) (prtF (H 54) x k 2) (prtF (H 54) x k 3)) (hy : PVal (prtF (H 54) y k 0) (prtF (H 54) y k 1) (prtF (H 54) y k 2) (prtF (H 54) y k 3)) : am_R (d + 2) 80 [am_r 53, am_i (x), am_i (y), am_i (k), am_i (w)] (N, P, H) (some (am_i (heldF (H 54) x y k w))) (N, P, H) := by
  refine am_en1 (d := d + 1) (ml := 10) (ls := [_, _, _, _, _, _, _, _, _, _]) cq_Model_held rfl (Nat.le_of_ble_eq_true rfl) rfl ?_
  have e0 : ∀ m k w, H 54 (70 + 33 * m + 1 + 4 * k + w) = prtF (H 54) m k w := fun _ _ _ => rfl
  obtain ⟨x0, x1, x2, x3, x4⟩ := hx
  obtain ⟨y0, y1, y2, y3, y4⟩ := hy
  have f1 := fil27 x1.1 x1.2
  have f2 := fil27 y1.1 y1.2
  have l1 := letN_r (prtF (H 54) x k 1)
  have l2 := letN_r (prtF (H 54) y k 1)
  have g1 : 0 ≤ filF (prtF (H 54) x k 2) (prtF (H 54) x k 3) 6 10 ∧ filF (prtF (H 54) x k 2) (prtF (H 54) x k 3) 6 10 < 1000000 := ⟨filF_pos x3.1 (by decide), x3.2⟩
  have g2 : 0 ≤ filF (prtF (H 54) y k 2) (prtF (H 54) y k 3) 6 10 ∧ filF (prtF (H 54) y k 2) (prtF (H 54) y k 3) 6 10 < 1000000 := ⟨filF_pos y3.1 (by decide), y3.2⟩
  refine st_aload_n rfl rfl (by decide) ?_
  refine st_iload_n rfl rfl ?_
  refine st_iload_n rfl rfl ?_
  refine st_iconst rfl ?_
  refine st_cv1 (w := []) rfl rfl rfl (Nat.le_of_ble_eq_true rfl) (Nat.le_of_ble_eq_true rfl) rfl rfl (r_Model_partOf hP (by omega) (by omega) (by omega) (by omega) (by omega) (by omega)) ?_
  rw [e0]
  refine st_istore (ls' := [_, _, _, _, _, _, _, _, _, _]) rfl (Nat.le_of_ble_eq_true rfl) rfl ?_
  refine st_aload_n rfl rfl (by decide) ?_
  refine st_iload_n rfl rfl ?_
  refine st_iload_n rfl rfl ?_
  refine st_iconst rfl ?_
  refine st_cv1 (w := []) rfl rfl rfl (Nat.le_of_ble_eq_true rfl) (Nat.le_of_ble_eq_true rfl) rfl rfl (r_Model_partOf hP (by omega) (by omega) (by omega) (by omega) (by omega) (by omega)) ?_
  rw [e0]
  refine st_istore (ls' := [_, _, _, _, _, _, _, _, _, _]) rfl (Nat.le_of_ble_eq_true rfl) rfl ?_
  refine st_aload_n rfl rfl (by decide) ?_
  refine st_iload_n rfl rfl ?_
  refine st_iload_n rfl rfl ?_
  refine st_iconst rfl ?_
  refine st_cv1 (w := []) rfl rfl rfl (Nat.le_of_ble_eq_true rfl) (Nat.le_of_ble_eq_true rfl) rfl rfl (r_Model_partOf hP (by omega) (by omega) (by omega) (by omega) (by omega) (by omega)) ?_
  rw [e0]
  refine st_istore (ls' := [_, _, _, _, _, _, _, _, _, _]) rfl (Nat.le_of_ble_eq_true rfl) rfl ?_
  refine st_iload rfl rfl ?_
  refine st_if_ne rfl (fun h19 => ?_) (fun h19 => ?_)
  · refine st_iload rfl rfl ?_
    refine st_iload rfl rfl ?_
    refine st_icmp_eq rfl (fun h37 => ?_) (fun h37 => ?_)
    · refine st_aload_n rfl rfl (by decide) ?_
      refine st_iload_n rfl rfl ?_
      refine st_iload_n rfl rfl ?_
      refine st_iconst rfl ?_
      refine st_cv1 (w := []) rfl rfl rfl (Nat.le_of_ble_eq_true rfl) (Nat.le_of_ble_eq_true rfl) rfl rfl (r_Model_partOf hP (by omega) (by omega) (by omega) (by omega) (by omega) (by omega)) ?_
      rw [e0]
      refine st_istore (ls' := [_, _, _, _, _, _, _, _, _, _]) rfl (Nat.le_of_ble_eq_true rfl) rfl ?_
      refine st_aload_n rfl rfl (by decide) ?_
      refine st_iload_n rfl rfl ?_
      refine st_iload_n rfl rfl ?_
      refine st_iconst rfl ?_
      refine st_cv1 (w := []) rfl rfl rfl (Nat.le_of_ble_eq_true rfl) (Nat.le_of_ble_eq_true rfl) rfl rfl (r_Model_partOf hP (by omega) (by omega) (by omega) (by omega) (by omega) (by omega)) ?_
      rw [e0]
      refine st_istore (ls' := [_, _, _, _, _, _, _, _, _, _]) rfl (Nat.le_of_ble_eq_true rfl) rfl ?_
      refine st_iload rfl rfl ?_
      refine st_iconst rfl ?_
      refine st_icmp_ne rfl (fun h57 => ?_) (fun h57 => ?_)
      · refine st_aload_n rfl rfl (by decide) ?_
        refine st_iload_n rfl rfl ?_
        refine st_iload_n rfl rfl ?_
        refine st_iconst rfl ?_
        refine st_cv1 (w := []) rfl rfl rfl (Nat.le_of_ble_eq_true rfl) (Nat.le_of_ble_eq_true rfl) rfl rfl (r_Model_partOf hP (by omega) (by omega) (by omega) (by omega) (by omega) (by omega)) ?_
        rw [e0]
        refine st_iload rfl rfl ?_
        refine st_bipush rfl ?_
        refine st_bipush rfl ?_
        refine st_cs1 (w := []) rfl (by decide) (by decide) (by decide) (Nat.le_of_ble_eq_true rfl) (Nat.le_of_ble_eq_true rfl) rfl rfl (r_Model_filled (by omega) (by omega) (by omega) (by omega) (by omega) (by omega)) ?_
        refine st_aload_n rfl rfl (by decide) ?_
        refine st_iload_n rfl rfl ?_
        refine st_iload_n rfl rfl ?_
        refine st_iconst rfl ?_
        refine st_cv1 (w := [_]) rfl rfl rfl (Nat.le_of_ble_eq_true rfl) (Nat.le_of_ble_eq_true rfl) rfl rfl (r_Model_partOf hP (by omega) (by omega) (by omega) (by omega) (by omega) (by omega)) ?_
        rw [e0]
        refine st_iload rfl rfl ?_
        refine st_bipush rfl ?_
        refine st_bipush rfl ?_
        refine st_cs1 (w := [_]) rfl (by decide) (by decide) (by decide) (Nat.le_of_ble_eq_true rfl) (Nat.le_of_ble_eq_true rfl) rfl rfl (r_Model_filled (by omega) (by omega) (by omega) (by omega) (by omega) (by omega)) ?_
        refine st_isub rfl (by omega) ?_
        refine st_cs1 (w := []) rfl (by decide) (by decide) (by decide) (Nat.le_of_ble_eq_true rfl) (Nat.le_of_ble_eq_true rfl) rfl rfl (r_Model_sign) ?_
        refine st_iret rfl (fun z => by first | exact absurd z (by decide) | exact bi_01 _ | decide | omega) ?_
        exact ⟨am_ri (by unfold heldF; rw [if_neg h19, if_neg (by omega), if_neg (by omega)]), rfl⟩
      · refine st_iload rfl rfl ?_
        refine st_iload rfl rfl ?_
        refine st_icmp_eq rfl (fun h60 => ?_) (fun h60 => ?_)
        · refine st_aload_n rfl rfl (by decide) ?_
          refine st_iload_n rfl rfl ?_
          refine st_iload_n rfl rfl ?_
          refine st_iconst rfl ?_
          refine st_cv1 (w := []) rfl rfl rfl (Nat.le_of_ble_eq_true rfl) (Nat.le_of_ble_eq_true rfl) rfl rfl (r_Model_partOf hP (by omega) (by omega) (by omega) (by omega) (by omega) (by omega)) ?_
          rw [e0]
          refine st_iload rfl rfl ?_
          refine st_bipush rfl ?_
          refine st_bipush rfl ?_
          refine st_cs1 (w := []) rfl (by decide) (by decide) (by decide) (Nat.le_of_ble_eq_true rfl) (Nat.le_of_ble_eq_true rfl) rfl rfl (r_Model_filled (by omega) (by omega) (by omega) (by omega) (by omega) (by omega)) ?_
          refine st_aload_n rfl rfl (by decide) ?_
          refine st_iload_n rfl rfl ?_
          refine st_iload_n rfl rfl ?_
          refine st_iconst rfl ?_
          refine st_cv1 (w := [_]) rfl rfl rfl (Nat.le_of_ble_eq_true rfl) (Nat.le_of_ble_eq_true rfl) rfl rfl (r_Model_partOf hP (by omega) (by omega) (by omega) (by omega) (by omega) (by omega)) ?_
          rw [e0]
          refine st_iload rfl rfl ?_
          refine st_bipush rfl ?_
          refine st_bipush rfl ?_
          refine st_cs1 (w := [_]) rfl (by decide) (by decide) (by decide) (Nat.le_of_ble_eq_true rfl) (Nat.le_of_ble_eq_true rfl) rfl rfl (r_Model_filled (by omega) (by omega) (by omega) (by omega) (by omega) (by omega)) ?_
          refine st_isub rfl (by omega) ?_
          refine st_cs1 (w := []) rfl (by decide) (by decide) (by decide) (Nat.le_of_ble_eq_true rfl) (Nat.le_of_ble_eq_true rfl) rfl rfl (r_Model_sign) ?_
          refine st_iret rfl (fun z => by first | exact absurd z (by decide) | exact bi_01 _ | decide | omega) ?_
          exact ⟨am_ri (by unfold heldF; rw [if_neg h19, if_neg (by omega), if_neg (by omega)]), rfl⟩
        · refine st_iload rfl rfl ?_
          refine st_iload rfl rfl ?_
          refine st_isub rfl (by omega) ?_
          refine st_cs1 (w := []) rfl (by decide) (by decide) (by decide) (Nat.le_of_ble_eq_true rfl) (Nat.le_of_ble_eq_true rfl) rfl rfl (r_Model_sign) ?_
          refine st_iret rfl (fun z => by first | exact absurd z (by decide) | exact bi_01 _ | decide | omega) ?_
          exact ⟨am_ri (by unfold heldF; rw [if_neg h19, if_neg (by omega), if_pos (by omega)]), rfl⟩
    · refine st_iload rfl rfl ?_
      refine st_iload rfl rfl ?_
      refine st_isub rfl (by omega) ?_
      refine st_cs1 (w := []) rfl (by decide) (by decide) (by decide) (Nat.le_of_ble_eq_true rfl) (Nat.le_of_ble_eq_true rfl) rfl rfl (r_Model_sign) ?_
      refine st_iret rfl (fun z => by first | exact absurd z (by decide) | exact bi_01 _ | decide | omega) ?_
      exact ⟨am_ri (by unfold heldF; rw [if_neg h19, if_pos h37]), rfl⟩
  · refine st_iload rfl rfl ?_
    refine st_iload rfl rfl ?_
    refine st_cs1 (w := [_]) rfl (by decide) (by decide) (by decide) (Nat.le_of_ble_eq_true rfl) (Nat.le_of_ble_eq_true rfl) rfl rfl (r_Model_lettersIn) ?_
    refine st_iconst rfl ?_
    refine st_bipush rfl ?_
    refine st_cs1 (w := []) rfl (by decide) (by decide) (by decide) (Nat.le_of_ble_eq_true rfl) (Nat.le_of_ble_eq_true rfl) rfl rfl (r_Model_filled (by omega) (by omega) (by omega) (by omega) (by omega) (by omega)) ?_
    refine st_iload rfl rfl ?_
    refine st_iload rfl rfl ?_
    refine st_cs1 (w := [_, _]) rfl (by decide) (by decide) (by decide) (Nat.le_of_ble_eq_true rfl) (Nat.le_of_ble_eq_true rfl) rfl rfl (r_Model_lettersIn) ?_
    refine st_iconst rfl ?_
    refine st_bipush rfl ?_
    refine st_cs1 (w := [_]) rfl (by decide) (by decide) (by decide) (Nat.le_of_ble_eq_true rfl) (Nat.le_of_ble_eq_true rfl) rfl rfl (r_Model_filled (by omega) (by omega) (by omega) (by omega) (by omega) (by omega)) ?_
    refine st_isub rfl (by omega) ?_
    refine st_cs1 (w := []) rfl (by decide) (by decide) (by decide) (Nat.le_of_ble_eq_true rfl) (Nat.le_of_ble_eq_true rfl) rfl rfl (r_Model_sign) ?_
    refine st_iret rfl (fun z => by first | exact absurd z (by decide) | exact bi_01 _ | decide | omega) ?_
    exact ⟨am_ri (by unfold heldF; rw [if_pos h19]), rfl⟩
def tolF (a : Int → Int) (x y w k : Int) : Int :=
  if lenF a x ≤ k then (if lenF a y ≤ k then 0 else -1)
  else if lenF a y ≤ k then 1
  else if prtF a x k 0 ≠ prtF a y k 0 then sgn (prtF a x k 0 - prtF a y k 0) else heldF a x y k w
def cmpL (a : Int → Int) (x y w : Int) : Nat → Int → Int
  | 0, _ => 0
  | n + 1, k => if lenF a x ≤ k ∧ lenF a y ≤ k then 0 else if tolF a x y w k ≠ 0 then tolF a x y w k else cmpL a x y w n (k + 1)
def cmpF (a : Int → Int) (x y w : Int) : Int := cmpL a x y w 8 0
theorem sgn_r (v : Int) : -1 ≤ sgn v ∧ sgn v ≤ 1 := by unfold sgn; (repeat' split) <;> omega

theorem l0_compare {d N : Nat} {P : am_P} {H : am_H} {x y w t k : Int} {Q : Option am_V → am_S → Prop} (hq : t ≠ 0 → Q (some (am_i t)) (N, P, H)) (h0 : t = 0 → am_WP (am_R (d + 2)) cd_Model_compare Q 12 [some (am_r 53), some (am_i x), some (am_i y), some (am_i w), some (am_i (lenF (H 54) x)), some (am_i (lenF (H 54) y)), some (am_i (0)), some (am_i (k))] [] (N, P, H)) : am_WP (am_R (d + 2)) cd_Model_compare Q 12 [some (am_r 53), some (am_i x), some (am_i y), some (am_i w), some (am_i (lenF (H 54) x)), some (am_i (lenF (H 54) y)), some (am_i (t)), some (am_i (k))] [] (N, P, H) := by
  by_cases ht : t = 0
  · subst ht; exact h0 rfl
  refine st_iload rfl rfl ?_
  refine st_bipush rfl ?_
  refine st_icmp_ge rfl (fun h14 => ?_) (fun h14 => ?_)
  · refine st_iload rfl rfl ?_
    refine st_iret rfl (fun z => by first | exact absurd z (by decide) | exact bi_01 _ | decide | omega) ?_
    exact hq ht
  · refine st_iload rfl rfl ?_
    refine st_if_ne rfl (fun h16 => ?_) (fun h16 => (by exfalso; omega))
    refine st_iload rfl rfl ?_
    refine st_iret rfl (fun z => by first | exact absurd z (by decide) | exact bi_01 _ | decide | omega) ?_
    exact hq ht
theorem l_compare {d N : Nat} {P : am_P} {H : am_H} {x y w : Int} {Q : Option am_V → am_S → Prop} (hP : PZ P) (h1 : 0 ≤ x) (h2 : x < 200) (h3 : 0 ≤ y) (h4 : y < 200) (h5 : lenF (H 54) x ≤ 8) (h6 : lenF (H 54) y ≤ 8) (hX : ∀ k, 0 ≤ k → k < lenF (H 54) x → PVal (prtF (H 54) x k 0) (prtF (H 54) x k 1) (prtF (H 54) x k 2) (prtF (H 54) x k 3)) (hY : ∀ k, 0 ≤ k → k < lenF (H 54) y → PVal (prtF (H 54) y k 0) (prtF (H 54) y k 1) (prtF (H 54) y k 2) (prtF (H 54) y k 3)) : ∀ (f : Nat) (k : Int), k + f = 8 → 0 ≤ k → Q (some (am_i (cmpL (H 54) x y w f k))) (N, P, H) → am_WP (am_R (d + 2)) cd_Model_compare Q 12 [some (am_r 53), some (am_i x), some (am_i y), some (am_i w), some (am_i (lenF (H 54) x)), some (am_i (lenF (H 54) y)), some (am_i (0)), some (am_i (k))] [] (N, P, H) := by
  have e0 : ∀ m k w, H 54 (70 + 33 * m + 1 + 4 * k + w) = prtF (H 54) m k w := fun _ _ _ => rfl
  intro f
  induction f with
  | zero =>
    intro k e hk hq
    refine st_iload rfl rfl ?_
    refine st_bipush rfl ?_
    refine st_icmp_ge rfl (fun h14 => ?_) (fun h14 => (by exfalso; omega))
    refine st_iload rfl rfl ?_
    refine st_iret rfl (fun z => by first | exact absurd z (by decide) | exact bi_01 _ | decide | omega) ?_
    exact hq
  | succ f ih =>
    intro k e hk hq
    unfold cmpL at hq
    have hxk := hX k hk
    have hyk := hY k hk
    unfold PVal at hxk hyk
    refine st_iload rfl rfl ?_
    refine st_bipush rfl ?_
    refine st_icmp_ge rfl (fun h14 => (by exfalso; omega)) (fun h14 => ?_)
    refine st_iload rfl rfl ?_
    refine st_if_ne rfl (fun h16 => (by exfalso; omega)) (fun h16 => ?_)
    refine st_iload rfl rfl ?_
    refine st_iload rfl rfl ?_
    refine st_icmp_ge rfl (fun h19 => ?_) (fun h19 => ?_)
    · refine st_iload rfl rfl ?_
      refine st_iload rfl rfl ?_
      refine st_icmp_lt rfl (fun h25 => (by exfalso; omega)) (fun h25 => ?_)
      refine st_iload rfl rfl ?_
      refine st_iload rfl rfl ?_
      refine st_icmp_lt rfl (fun h28 => ?_) (fun h28 => ?_)
      · refine st_iload rfl rfl ?_
        refine st_iload rfl rfl ?_
        refine st_icmp_lt rfl (fun h33 => (by exfalso; omega)) (fun h33 => ?_)
        refine st_iconst rfl ?_
        refine st_goto rfl ?_
        refine st_istore (ls' := [_, _, _, _, _, _, _, _]) rfl (Nat.le_of_ble_eq_true rfl) rfl ?_
        refine st_iload rfl rfl ?_
        refine st_iload rfl rfl ?_
        refine st_icmp_lt rfl (fun h40 => (by exfalso; omega)) (fun h40 => ?_)
        refine st_iload rfl rfl ?_
        refine st_iload rfl rfl ?_
        refine st_icmp_lt rfl (fun h43 => ?_) (fun h43 => (by exfalso; omega))
        refine st_iinc (ls' := [_, _, _, _, _, _, _, _]) rfl rfl (by omega) rfl ?_
        refine st_goto rfl ?_
        first
        | (exfalso; omega)
        | (refine l0_compare (fun ht => ?_) (fun ht => ih (k + 1) (by omega) (by omega) ?_)
           · rw [if_neg (by omega)] at hq
             have et : tolF (H 54) x y w k = -1 := by unfold tolF; rw [if_pos (by omega), if_neg (by omega)]
             rw [et, if_pos ht] at hq; exact hq
           · rw [if_neg (by omega)] at hq
             have et : tolF (H 54) x y w k = -1 := by unfold tolF; rw [if_pos (by omega), if_neg (by omega)]
             rw [et, if_neg (fun z => z ht)] at hq; exact hq)
        | (refine l0_compare (fun ht => ?_) (fun ht => ih (k + 1) (by omega) (by omega) ?_)
           · rw [if_neg (by omega)] at hq
             have et : tolF (H 54) x y w k = 1 := by unfold tolF; rw [if_neg (by omega), if_pos (by omega)]
             rw [et, if_pos ht] at hq; exact hq
           · rw [if_neg (by omega)] at hq
             have et : tolF (H 54) x y w k = 1 := by unfold tolF; rw [if_neg (by omega), if_pos (by omega)]
             rw [et, if_neg (fun z => z ht)] at hq; exact hq)
        | (refine l0_compare (fun ht => ?_) (fun ht => ih (k + 1) (by omega) (by omega) ?_)
           · rw [if_neg (by omega)] at hq
             have et : tolF (H 54) x y w k = sgn (prtF (H 54) x k 0 - prtF (H 54) y k 0) := by unfold tolF; rw [if_neg (by omega), if_neg (by omega), if_pos h56]
             rw [et, if_pos ht] at hq; exact hq
           · rw [if_neg (by omega)] at hq
             have et : tolF (H 54) x y w k = sgn (prtF (H 54) x k 0 - prtF (H 54) y k 0) := by unfold tolF; rw [if_neg (by omega), if_neg (by omega), if_pos h56]
             rw [et, if_neg (fun z => z ht)] at hq; exact hq)
        | (refine l0_compare (fun ht => ?_) (fun ht => ih (k + 1) (by omega) (by omega) ?_)
           · rw [if_neg (by omega)] at hq
             have et : tolF (H 54) x y w k = heldF (H 54) x y k w := by unfold tolF; rw [if_neg (by omega), if_neg (by omega), if_neg (by omega)]
             rw [et, if_pos ht] at hq; exact hq
           · rw [if_neg (by omega)] at hq
             have et : tolF (H 54) x y w k = heldF (H 54) x y k w := by unfold tolF; rw [if_neg (by omega), if_neg (by omega), if_neg (by omega)]
             rw [et, if_neg (fun z => z ht)] at hq; exact hq)
      · refine st_iconst rfl ?_
        refine st_goto rfl ?_
        refine st_istore (ls' := [_, _, _, _, _, _, _, _]) rfl (Nat.le_of_ble_eq_true rfl) rfl ?_
        refine st_iload rfl rfl ?_
        refine st_iload rfl rfl ?_
        refine st_icmp_lt rfl (fun h40 => (by exfalso; omega)) (fun h40 => ?_)
        refine st_iload rfl rfl ?_
        refine st_iload rfl rfl ?_
        refine st_icmp_lt rfl (fun h43 => (by exfalso; omega)) (fun h43 => ?_)
        refine st_iconst rfl ?_
        refine st_iret rfl (fun z => by first | exact absurd z (by decide) | exact bi_01 _ | decide | omega) ?_
        rw [if_pos (by omega)] at hq; exact hq
    · refine st_iload rfl rfl ?_
      refine st_iload rfl rfl ?_
      refine st_icmp_lt rfl (fun h22 => ?_) (fun h22 => ?_)
      · refine st_aload_n rfl rfl (by decide) ?_
        refine st_iload_n rfl rfl ?_
        refine st_iload rfl rfl ?_
        refine st_iconst rfl ?_
        refine st_cv1 (w := []) rfl rfl rfl (Nat.le_of_ble_eq_true rfl) (Nat.le_of_ble_eq_true rfl) rfl rfl (r_Model_partOf hP (by omega) (by omega) (by omega) (by omega) (by omega) (by omega)) ?_
        rw [e0]
        refine st_aload_n rfl rfl (by decide) ?_
        refine st_iload_n rfl rfl ?_
        refine st_iload rfl rfl ?_
        refine st_iconst rfl ?_
        refine st_cv1 (w := [_]) rfl rfl rfl (Nat.le_of_ble_eq_true rfl) (Nat.le_of_ble_eq_true rfl) rfl rfl (r_Model_partOf hP (by omega) (by omega) (by omega) (by omega) (by omega) (by omega)) ?_
        rw [e0]
        refine st_icmp_eq rfl (fun h56 => ?_) (fun h56 => ?_)
        · refine st_aload_n rfl rfl (by decide) ?_
          refine st_iload_n rfl rfl ?_
          refine st_iload_n rfl rfl ?_
          refine st_iload rfl rfl ?_
          refine st_iload_n rfl rfl ?_
          refine st_cv1 (w := []) rfl rfl rfl (Nat.le_of_ble_eq_true rfl) (Nat.le_of_ble_eq_true rfl) rfl rfl (r_Model_held hP (by omega) (by omega) (by omega) (by omega) (by omega) (by omega) (hX _ (by omega) (by omega)) (hY _ (by omega) (by omega))) ?_
          refine st_istore (ls' := [_, _, _, _, _, _, _, _]) rfl (Nat.le_of_ble_eq_true rfl) rfl ?_
          refine st_iinc (ls' := [_, _, _, _, _, _, _, _]) rfl rfl (by omega) rfl ?_
          refine st_goto rfl ?_
          first
          | (exfalso; omega)
          | (refine l0_compare (fun ht => ?_) (fun ht => ih (k + 1) (by omega) (by omega) ?_)
             · rw [if_neg (by omega)] at hq
               have et : tolF (H 54) x y w k = -1 := by unfold tolF; rw [if_pos (by omega), if_neg (by omega)]
               rw [et, if_pos ht] at hq; exact hq
             · rw [if_neg (by omega)] at hq
               have et : tolF (H 54) x y w k = -1 := by unfold tolF; rw [if_pos (by omega), if_neg (by omega)]
               rw [et, if_neg (fun z => z ht)] at hq; exact hq)
          | (refine l0_compare (fun ht => ?_) (fun ht => ih (k + 1) (by omega) (by omega) ?_)
             · rw [if_neg (by omega)] at hq
               have et : tolF (H 54) x y w k = 1 := by unfold tolF; rw [if_neg (by omega), if_pos (by omega)]
               rw [et, if_pos ht] at hq; exact hq
             · rw [if_neg (by omega)] at hq
               have et : tolF (H 54) x y w k = 1 := by unfold tolF; rw [if_neg (by omega), if_pos (by omega)]
               rw [et, if_neg (fun z => z ht)] at hq; exact hq)
          | (refine l0_compare (fun ht => ?_) (fun ht => ih (k + 1) (by omega) (by omega) ?_)
             · rw [if_neg (by omega)] at hq
               have et : tolF (H 54) x y w k = sgn (prtF (H 54) x k 0 - prtF (H 54) y k 0) := by unfold tolF; rw [if_neg (by omega), if_neg (by omega), if_pos h56]
               rw [et, if_pos ht] at hq; exact hq
             · rw [if_neg (by omega)] at hq
               have et : tolF (H 54) x y w k = sgn (prtF (H 54) x k 0 - prtF (H 54) y k 0) := by unfold tolF; rw [if_neg (by omega), if_neg (by omega), if_pos h56]
               rw [et, if_neg (fun z => z ht)] at hq; exact hq)
          | (refine l0_compare (fun ht => ?_) (fun ht => ih (k + 1) (by omega) (by omega) ?_)
             · rw [if_neg (by omega)] at hq
               have et : tolF (H 54) x y w k = heldF (H 54) x y k w := by unfold tolF; rw [if_neg (by omega), if_neg (by omega), if_neg (by omega)]
               rw [et, if_pos ht] at hq; exact hq
             · rw [if_neg (by omega)] at hq
               have et : tolF (H 54) x y w k = heldF (H 54) x y k w := by unfold tolF; rw [if_neg (by omega), if_neg (by omega), if_neg (by omega)]
               rw [et, if_neg (fun z => z ht)] at hq; exact hq)
        · refine st_aload_n rfl rfl (by decide) ?_
          refine st_iload_n rfl rfl ?_
          refine st_iload rfl rfl ?_
          refine st_iconst rfl ?_
          refine st_cv1 (w := []) rfl rfl rfl (Nat.le_of_ble_eq_true rfl) (Nat.le_of_ble_eq_true rfl) rfl rfl (r_Model_partOf hP (by omega) (by omega) (by omega) (by omega) (by omega) (by omega)) ?_
          rw [e0]
          refine st_aload_n rfl rfl (by decide) ?_
          refine st_iload_n rfl rfl ?_
          refine st_iload rfl rfl ?_
          refine st_iconst rfl ?_
          refine st_cv1 (w := [_]) rfl rfl rfl (Nat.le_of_ble_eq_true rfl) (Nat.le_of_ble_eq_true rfl) rfl rfl (r_Model_partOf hP (by omega) (by omega) (by omega) (by omega) (by omega) (by omega)) ?_
          rw [e0]
          refine st_isub rfl (by omega) ?_
          refine st_cs1 (w := []) rfl (by decide) (by decide) (by decide) (Nat.le_of_ble_eq_true rfl) (Nat.le_of_ble_eq_true rfl) rfl rfl (r_Model_sign) ?_
          refine st_istore (ls' := [_, _, _, _, _, _, _, _]) rfl (Nat.le_of_ble_eq_true rfl) rfl ?_
          refine st_goto rfl ?_
          refine st_iinc (ls' := [_, _, _, _, _, _, _, _]) rfl rfl (by omega) rfl ?_
          refine st_goto rfl ?_
          first
          | (exfalso; omega)
          | (refine l0_compare (fun ht => ?_) (fun ht => ih (k + 1) (by omega) (by omega) ?_)
             · rw [if_neg (by omega)] at hq
               have et : tolF (H 54) x y w k = -1 := by unfold tolF; rw [if_pos (by omega), if_neg (by omega)]
               rw [et, if_pos ht] at hq; exact hq
             · rw [if_neg (by omega)] at hq
               have et : tolF (H 54) x y w k = -1 := by unfold tolF; rw [if_pos (by omega), if_neg (by omega)]
               rw [et, if_neg (fun z => z ht)] at hq; exact hq)
          | (refine l0_compare (fun ht => ?_) (fun ht => ih (k + 1) (by omega) (by omega) ?_)
             · rw [if_neg (by omega)] at hq
               have et : tolF (H 54) x y w k = 1 := by unfold tolF; rw [if_neg (by omega), if_pos (by omega)]
               rw [et, if_pos ht] at hq; exact hq
             · rw [if_neg (by omega)] at hq
               have et : tolF (H 54) x y w k = 1 := by unfold tolF; rw [if_neg (by omega), if_pos (by omega)]
               rw [et, if_neg (fun z => z ht)] at hq; exact hq)
          | (refine l0_compare (fun ht => ?_) (fun ht => ih (k + 1) (by omega) (by omega) ?_)
             · rw [if_neg (by omega)] at hq
               have et : tolF (H 54) x y w k = sgn (prtF (H 54) x k 0 - prtF (H 54) y k 0) := by unfold tolF; rw [if_neg (by omega), if_neg (by omega), if_pos h56]
               rw [et, if_pos ht] at hq; exact hq
             · rw [if_neg (by omega)] at hq
               have et : tolF (H 54) x y w k = sgn (prtF (H 54) x k 0 - prtF (H 54) y k 0) := by unfold tolF; rw [if_neg (by omega), if_neg (by omega), if_pos h56]
               rw [et, if_neg (fun z => z ht)] at hq; exact hq)
          | (refine l0_compare (fun ht => ?_) (fun ht => ih (k + 1) (by omega) (by omega) ?_)
             · rw [if_neg (by omega)] at hq
               have et : tolF (H 54) x y w k = heldF (H 54) x y k w := by unfold tolF; rw [if_neg (by omega), if_neg (by omega), if_neg (by omega)]
               rw [et, if_pos ht] at hq; exact hq
             · rw [if_neg (by omega)] at hq
               have et : tolF (H 54) x y w k = heldF (H 54) x y k w := by unfold tolF; rw [if_neg (by omega), if_neg (by omega), if_neg (by omega)]
               rw [et, if_neg (fun z => z ht)] at hq; exact hq)
      · refine st_iload rfl rfl ?_
        refine st_iload rfl rfl ?_
        refine st_icmp_lt rfl (fun h25 => ?_) (fun h25 => (by exfalso; omega))
        refine st_iload rfl rfl ?_
        refine st_iload rfl rfl ?_
        refine st_icmp_lt rfl (fun h33 => ?_) (fun h33 => (by exfalso; omega))
        refine st_iconst rfl ?_
        refine st_istore (ls' := [_, _, _, _, _, _, _, _]) rfl (Nat.le_of_ble_eq_true rfl) rfl ?_
        refine st_iload rfl rfl ?_
        refine st_iload rfl rfl ?_
        refine st_icmp_lt rfl (fun h40 => ?_) (fun h40 => (by exfalso; omega))
        refine st_iinc (ls' := [_, _, _, _, _, _, _, _]) rfl rfl (by omega) rfl ?_
        refine st_goto rfl ?_
        first
        | (exfalso; omega)
        | (refine l0_compare (fun ht => ?_) (fun ht => ih (k + 1) (by omega) (by omega) ?_)
           · rw [if_neg (by omega)] at hq
             have et : tolF (H 54) x y w k = -1 := by unfold tolF; rw [if_pos (by omega), if_neg (by omega)]
             rw [et, if_pos ht] at hq; exact hq
           · rw [if_neg (by omega)] at hq
             have et : tolF (H 54) x y w k = -1 := by unfold tolF; rw [if_pos (by omega), if_neg (by omega)]
             rw [et, if_neg (fun z => z ht)] at hq; exact hq)
        | (refine l0_compare (fun ht => ?_) (fun ht => ih (k + 1) (by omega) (by omega) ?_)
           · rw [if_neg (by omega)] at hq
             have et : tolF (H 54) x y w k = 1 := by unfold tolF; rw [if_neg (by omega), if_pos (by omega)]
             rw [et, if_pos ht] at hq; exact hq
           · rw [if_neg (by omega)] at hq
             have et : tolF (H 54) x y w k = 1 := by unfold tolF; rw [if_neg (by omega), if_pos (by omega)]
             rw [et, if_neg (fun z => z ht)] at hq; exact hq)
        | (refine l0_compare (fun ht => ?_) (fun ht => ih (k + 1) (by omega) (by omega) ?_)
           · rw [if_neg (by omega)] at hq
             have et : tolF (H 54) x y w k = sgn (prtF (H 54) x k 0 - prtF (H 54) y k 0) := by unfold tolF; rw [if_neg (by omega), if_neg (by omega), if_pos h56]
             rw [et, if_pos ht] at hq; exact hq
           · rw [if_neg (by omega)] at hq
             have et : tolF (H 54) x y w k = sgn (prtF (H 54) x k 0 - prtF (H 54) y k 0) := by unfold tolF; rw [if_neg (by omega), if_neg (by omega), if_pos h56]
             rw [et, if_neg (fun z => z ht)] at hq; exact hq)
        | (refine l0_compare (fun ht => ?_) (fun ht => ih (k + 1) (by omega) (by omega) ?_)
           · rw [if_neg (by omega)] at hq
             have et : tolF (H 54) x y w k = heldF (H 54) x y k w := by unfold tolF; rw [if_neg (by omega), if_neg (by omega), if_neg (by omega)]
             rw [et, if_pos ht] at hq; exact hq
           · rw [if_neg (by omega)] at hq
             have et : tolF (H 54) x y w k = heldF (H 54) x y k w := by unfold tolF; rw [if_neg (by omega), if_neg (by omega), if_neg (by omega)]
             rw [et, if_neg (fun z => z ht)] at hq; exact hq)
theorem r_Model_compare {d N : Nat} {P : am_P} {H : am_H} {x y w : Int} (hP : PZ P) (hx : MV (H 54) x) (hy : MV (H 54) y) : am_R (d + 3) 81 [am_r 53, am_i (x), am_i (y), am_i (w)] (N, P, H) (some (am_i (cmpF (H 54) x y w))) (N, P, H) := by
  refine am_en1 (d := d + 2) (ml := 8) (ls := [_, _, _, _, _, _, _, _]) cq_Model_compare rfl (Nat.le_of_ble_eq_true rfl) rfl ?_
  obtain ⟨x0, x1, hX⟩ := hx
  obtain ⟨y0, y1, hY⟩ := hy
  refine st_aload_n rfl rfl (by decide) ?_
  refine st_iload_n rfl rfl ?_
  refine st_cv1 (w := []) rfl rfl rfl (Nat.le_of_ble_eq_true rfl) (Nat.le_of_ble_eq_true rfl) rfl rfl (r_Model_partsOf hP (by omega) (by omega)) ?_
  refine st_istore (ls' := [_, _, _, _, _, _, _, _]) rfl (Nat.le_of_ble_eq_true rfl) rfl ?_
  refine st_aload_n rfl rfl (by decide) ?_
  refine st_iload_n rfl rfl ?_
  refine st_cv1 (w := []) rfl rfl rfl (Nat.le_of_ble_eq_true rfl) (Nat.le_of_ble_eq_true rfl) rfl rfl (r_Model_partsOf hP (by omega) (by omega)) ?_
  refine st_istore (ls' := [_, _, _, _, _, _, _, _]) rfl (Nat.le_of_ble_eq_true rfl) rfl ?_
  refine st_iconst rfl ?_
  refine st_istore (ls' := [_, _, _, _, _, _, _, _]) rfl (Nat.le_of_ble_eq_true rfl) rfl ?_
  refine st_iconst rfl ?_
  refine st_istore (ls' := [_, _, _, _, _, _, _, _]) rfl (Nat.le_of_ble_eq_true rfl) rfl ?_
  exact l_compare hP (by omega) (by omega) (by omega) (by omega) (by omega) (by omega) hX hY 8 0 (by omega) (by omega) ⟨rfl, rfl⟩
theorem r_Model_compared {d N : Nat} {P : am_P} {H : am_H} {x y : Int} (hP : PZ P) (hx : MV (H 54) x) (hy : MV (H 54) y) : am_R (d + 4) 82 [am_r 53, am_i (x), am_i (y)] (N, P, H) (some (am_i (cmpF (H 54) x y (H 54 0)))) (N, P, H) := by
  refine am_en1 (d := d + 3) (ml := 3) (ls := [_, _, _]) cq_Model_compared rfl (Nat.le_of_ble_eq_true rfl) rfl ?_
  refine st_aload_n rfl rfl (by decide) ?_
  refine st_iload_n rfl rfl ?_
  refine st_iload_n rfl rfl ?_
  refine st_aload_n rfl rfl (by decide) ?_
  refine st_getR (kk := 0) rfl rfl rfl (pz_53_0 hP) rfl ?_
  refine st_iconst rfl ?_
  refine st_iaload rfl rfl (by omega) (by omega) ?_
  refine st_cv1 (w := []) rfl rfl rfl (Nat.le_of_ble_eq_true rfl) (Nat.le_of_ble_eq_true rfl) rfl rfl (r_Model_compare hP (by assumption) (by assumption)) ?_
  refine st_iret rfl (fun z => by first | exact absurd z (by decide) | exact bi_01 _ | decide | omega) ?_
  exact ⟨am_ri (by first | rfl | omega | (split <;> omega) | (split <;> (try split) <;> omega)), rfl⟩
