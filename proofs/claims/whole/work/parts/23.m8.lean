/-! ===== the reference: order, moves, where ===== -/
theorem rgH_o (H : am_H) {o : Nat} (h1 : o ≠ 62) (h2 : o ≠ 63) : rgH H o = H o := by
  unfold rgH
  rw [am_so_ne _ _ h2, am_so_ne _ _ h1]
theorem rgH_63 (H : am_H) : rgH H 63 = rgF (H 54) (H 62) (H 63) := am_so_at _ _ _
def orL (R : Int → Int) (w : Int) : Nat → Int → Int → Int
  | 0, _, _ => -1
  | f + 1, i, l => if R i = w then (if l = 0 then i else orL R w f (i + 1) (l - 1)) else orL R w f (i + 1) l
/-- the first place that isn't right -/
def wrL (R : Int → Int) : Nat → Int → Int
  | 0, i => i
  | f + 1, i => if R i = 0 then i else wrL R f (i + 1)
def toL (a R : Int → Int) (m : Int) (w : Int) : Nat → Int
  | 0 => 0
  | i + 1 => if R (i : Int) ≠ 0 ∧ 0 ≤ cmpF a m (seeF a (i : Int)) (a 0) then (if w < (i : Int) then (i : Int) else (i : Int) + 1) else toL a R m w i
def slF (a : Int → Int) (lo n : Int) : Int → Int := fun k => if lo ≤ k ∧ k < lo + n then a (k + 1) else a k
def srF (a : Int → Int) (hi n : Int) : Int → Int := fun k => if hi - n < k ∧ k ≤ hi then a (k - 1) else a k
theorem slF_0 (a : Int → Int) (lo : Int) : slF a lo 0 = a := by funext k; exact if_neg (by omega)
theorem srF_0 (a : Int → Int) (hi : Int) : srF a hi 0 = a := by funext k; exact if_neg (by omega)
theorem slF_s (a : Int → Int) (lo : Int) (j : Nat) : am_uf (slF a lo (j : Int)) (lo + (j : Int)) (slF a lo (j : Int) (lo + (j : Int) + 1)) = slF a lo ((j + 1 : Nat) : Int) := by
  funext k
  unfold am_uf slF
  by_cases h : k = lo + (j : Int)
  · rw [if_pos h, if_neg (by omega), if_pos (by omega), h]
  · rw [if_neg h]
    by_cases h2 : lo ≤ k ∧ k < lo + (j : Int)
    · rw [if_pos h2, if_pos (by omega)]
    · rw [if_neg h2, if_neg (by omega)]
theorem srF_s (a : Int → Int) (hi : Int) (j : Nat) : am_uf (srF a hi (j : Int)) (hi - (j : Int)) (srF a hi (j : Int) (hi - (j : Int) - 1)) = srF a hi ((j + 1 : Nat) : Int) := by
  funext k
  unfold am_uf srF
  by_cases h : k = hi - (j : Int)
  · rw [if_pos h, if_neg (by omega), if_pos (by omega), h]
  · rw [if_neg h]
    by_cases h2 : hi - (j : Int) < k ∧ k ≤ hi
    · rw [if_pos h2, if_pos (by omega)]
    · rw [if_neg h2, if_neg (by omega)]
theorem zrT_r {R0 : Int → Int} {n : Int} : ∀ r : Nat, (r : Int) ≤ n → ∀ k : Int, n - r ≤ k → k < n → zrT R0 n r k = 0
  | 0, _, k, h1, h2 => by omega
  | r + 1, h, k, h1, h2 => by
    simp only [zrT]
    by_cases hk : k = n - 1 - (r : Int)
    · rw [hk, am_uf_eq]
    · rw [am_uf_ne _ _ hk]
      exact zrT_r r (by omega) k (by omega) h2
/-- what was settled stays -/
theorem rgS_k {a T R : Int → Int} {b : Int} {i : Nat} : ∀ j : Nat, i < j → (rgS a T R b j).2.2 (i : Int) = (rgS a T R b (i + 1)).2.2 (i : Int)
  | 0, h => by omega
  | j + 1, h => by
    by_cases hij : i = j
    · rw [hij]
    · rw [← rgS_k j (by omega)]
      simp only [rgS]
      split
      · rfl
      · simp only []
        rw [am_uf_ne _ _ (by omega)]
theorem rgS_n {a T R : Int → Int} {b : Int} : ∀ (j : Nat) (k : Int), (j : Int) ≤ k → (rgS a T R b j).2.2 k = R k
  | 0, _, _ => rfl
  | j + 1, k, h => by
    simp only [rgS]
    split
    · exact rgS_n j k (by omega)
    · simp only []
      rw [am_uf_ne _ _ (by omega)]
      exact rgS_n j k (by omega)
theorem rgS_01 {a T R : Int → Int} {b n : Int} (hR : ∀ k, 0 ≤ k → k < n → R k = 0) : ∀ (j : Nat) (k : Int), 0 ≤ k → k < n → (rgS a T R b j).2.2 k = 0 ∨ (rgS a T R b j).2.2 k = 1
  | 0, k, h0, h1 => Or.inl (hR k h0 h1)
  | j + 1, k, h0, h1 => by
    simp only [rgS]
    split
    · exact rgS_01 hR j k h0 h1
    · simp only []
      by_cases hk : k = (j : Int)
      · rw [hk, am_uf_eq]; exact Or.inr rfl
      · rw [am_uf_ne _ _ hk]; exact rgS_01 hR j k h0 h1
/-- if all are right, the row is as long as the reading -/
theorem rgS_all {a T R : Int → Int} {b n : Int} (hR : ∀ k, 0 ≤ k → k < n → R k = 0) : ∀ j : Nat, (j : Int) ≤ n → (∀ i : Nat, i < j → (rgS a T R b j).2.2 (i : Int) ≠ 0) → (rgS a T R b j).1 = b - j
  | 0, _, _ => by simp only [rgS]; omega
  | j + 1, h, hall => by
    have h1 := hall j (by omega)
    have ih := rgS_all (a := a) (T := T) (b := b) hR j (by omega) (fun i hi => by
      rw [rgS_k j hi]
      have := hall i (by omega)
      rw [rgS_k (j + 1) (by omega)] at this
      exact this)
    simp only [rgS] at h1 ⊢
    split at h1
    · rw [rgS_n j (j : Int) (by omega), hR (j : Int) (by omega) (by omega)] at h1
      exact absurd rfl h1
    · rename_i hc
      rw [if_neg hc]
      simp only []
      omega
theorem rgF_01 {a : Int → Int} (hI : Inv a) (T0 R0 : Int → Int) {k : Int} (h0 : 0 ≤ k) (h1 : k < manF a) : rgF a T0 R0 k = 0 ∨ rgF a T0 R0 k = 1 := by
  have hm := man_r hI
  exact rgS_01 (n := manF a) (fun q q0 q1 => zrT_r _ (by omega) q (by omega) q1) _ k h0 h1
theorem wr_ex {a : Int → Int} (hI : Inv a) (T0 R0 : Int → Int) (hb : bsF a T0 ≠ manF a) : ∃ k, 0 ≤ k ∧ k < manF a ∧ rgF a T0 R0 k = 0 := by
  have hm := man_r hI
  apply Classical.byContradiction
  intro hne
  have hz : ∀ q, 0 ≤ q → q < manF a → zrT R0 (manF a) (manF a).toNat q = 0 := fun q q0 q1 => zrT_r _ (by omega) q (by omega) q1
  have h1 := rgS_all (a := a) (T := lgF a T0) (b := bsF a T0) hz (manF a).toNat (by omega) (fun i hi => by
    intro h0
    exact hne ⟨(i : Int), by omega, by omega, h0⟩)
  have h2 := bsT_r (a := a) (T0 := T0) (n := manF a) (manF a).toNat (by omega)
  have h3 := (rgS_r (a := a) (T := lgF a T0) (R := zrT R0 (manF a) (manF a).toNat) (b := bsF a T0) h2.1 (manF a).toNat).1
  unfold bsF at *
  omega
theorem wrL_r {R : Int → Int} : ∀ (f : Nat) (i k : Int), i ≤ k → k < i + f → R k = 0 → i ≤ wrL R f i ∧ wrL R f i ≤ k ∧ R (wrL R f i) = 0
  | 0, i, k, h1, h2, _ => by omega
  | f + 1, i, k, h1, h2, h3 => by
    simp only [wrL]
    split
    · rename_i h
      exact ⟨by omega, h1, h⟩
    · rename_i h
      have hk : i ≠ k := fun q => h (by rw [q]; exact h3)
      have := wrL_r (R := R) f (i + 1) k (by omega) (by omega) h3
      exact ⟨by omega, this.2⟩

theorem l_order {d N : Nat} {P : am_P} {H : am_H} {w k nn : Int} {Q : Option am_V → am_S → Prop} (hP : PZ P) (hI : Inv (H 54)) (hk : 0 ≤ k) (hn0 : 0 ≤ nn) : ∀ (f : Nat) (i l : Int), i + f = manF (H 54) → 0 ≤ i → 0 ≤ l → l ≤ 2147483647 → Q (some (am_i (orL (rgF (H 54) (H 62) (H 63)) w f i l))) (N, P, rgH H) → am_WP (am_R (d + 5)) cd_Model_order Q 9 [some (am_r 53), some (am_i w), some (am_i k), some (am_i (-1)), some (am_i nn), some (am_i l), some (am_i i)] [] (N, P, rgH H) := by
  have hm := man_r hI
  have e54 : rgH H 54 = H 54 := rgH_o H (by decide) (by decide)
  have em : (if rgH H 54 5 < 0 then 0 else rgH H 54 6) = manF (H 54) := by rw [e54]; rfl
  intro f
  induction f with
  | zero =>
    intro i l e hi hl hl2 hq
    refine st_iload rfl rfl ?_
    refine st_aload_n rfl rfl (by decide) ?_
    refine st_cv1 (w := [_]) rfl rfl rfl (Nat.le_of_ble_eq_true rfl) (Nat.le_of_ble_eq_true rfl) rfl rfl (r_Model_many (H := rgH H) hP) ?_
    rw [em]
    refine st_icmp_ge rfl (fun h12 => ?_) (fun h12 => (by exfalso; omega))
    refine st_iload rfl rfl ?_
    refine st_if_lt rfl (fun h32 => (by exfalso; omega)) (fun h32 => ?_)
    refine st_iload_n rfl rfl ?_
    refine st_goto rfl ?_
    refine st_iret rfl (fun z => by first | exact absurd z (by decide) | exact bi_01 _ | decide | omega) ?_
    exact hq
  | succ f ih =>
    intro i l e hi hl hl2 hq
    rw [show orL (rgF (H 54) (H 62) (H 63)) w (f + 1) i l = if rgF (H 54) (H 62) (H 63) i = w then (if l = 0 then i else orL (rgF (H 54) (H 62) (H 63)) w f (i + 1) (l - 1)) else orL (rgF (H 54) (H 62) (H 63)) w f (i + 1) l from rfl] at hq
    refine st_iload rfl rfl ?_
    refine st_aload_n rfl rfl (by decide) ?_
    refine st_cv1 (w := [_]) rfl rfl rfl (Nat.le_of_ble_eq_true rfl) (Nat.le_of_ble_eq_true rfl) rfl rfl (r_Model_many (H := rgH H) hP) ?_
    rw [em]
    refine st_icmp_ge rfl (fun h12 => (by exfalso; omega)) (fun h12 => ?_)
    refine st_iload_n rfl rfl ?_
    refine st_if_ge rfl (fun h14 => (by exfalso; omega)) (fun h14 => ?_)
    refine st_iload_n rfl rfl ?_
    refine st_if_lt rfl (fun h16 => (by exfalso; omega)) (fun h16 => ?_)
    refine st_aload_n rfl rfl (by decide) ?_
    refine st_getR (kk := 15) rfl rfl rfl (pz_53_15 hP) rfl ?_
    refine st_iload rfl rfl ?_
    refine st_baload rfl rfl (Or.inr rfl) (by omega) (by omega) ?_
    rw [rgH_63]
    refine st_iload_n rfl rfl ?_
    refine st_icmp_eq rfl (fun h22 => ?_) (fun h22 => ?_)
    · refine st_iload rfl rfl ?_
      refine st_if_ne rfl (fun h25 => ?_) (fun h25 => ?_)
      · refine st_iinc (ls' := [_, _, _, _, _, _, _]) rfl rfl (by omega) rfl ?_
        refine st_iinc (ls' := [_, _, _, _, _, _, _]) rfl rfl (by omega) rfl ?_
        refine st_goto rfl ?_
        first
        | (rw [if_neg h22] at hq; exact ih (i + 1) l (by omega) (by omega) hl hl2 hq)
        | (rw [if_pos h22, if_neg (by omega)] at hq; exact ih (i + 1) (l + -1) (by omega) (by omega) (by omega) (by omega) hq)
      · refine st_iload rfl rfl ?_
        refine st_istore_n (ls' := [_, _, _, _, _, _, _]) rfl (Nat.le_of_ble_eq_true rfl) rfl ?_
        refine st_iinc (ls' := [_, _, _, _, _, _, _]) rfl rfl (by omega) rfl ?_
        refine st_iinc (ls' := [_, _, _, _, _, _, _]) rfl rfl (by omega) rfl ?_
        refine st_goto rfl ?_
        refine st_iload rfl rfl ?_
        refine st_aload_n rfl rfl (by decide) ?_
        refine st_cv1 (w := [_]) rfl rfl rfl (Nat.le_of_ble_eq_true rfl) (Nat.le_of_ble_eq_true rfl) rfl rfl (r_Model_many (H := rgH H) hP) ?_
        rw [em]
        refine st_icmp_ge rfl (fun h12 => ?_) (fun h12 => ?_)
        · refine st_iload rfl rfl ?_
          refine st_if_lt rfl (fun h32 => (by exfalso; omega)) (fun h32 => ?_)
          refine st_iload_n rfl rfl ?_
          refine st_goto rfl ?_
          refine st_iret rfl (fun z => by first | exact absurd z (by decide) | exact bi_01 _ | decide | omega) ?_
          rw [if_pos h22, if_pos h25] at hq; exact hq
        · refine st_iload_n rfl rfl ?_
          refine st_if_ge rfl (fun h14 => ?_) (fun h14 => (by exfalso; omega))
          refine st_iload rfl rfl ?_
          refine st_if_lt rfl (fun h32 => (by exfalso; omega)) (fun h32 => ?_)
          refine st_iload_n rfl rfl ?_
          refine st_goto rfl ?_
          refine st_iret rfl (fun z => by first | exact absurd z (by decide) | exact bi_01 _ | decide | omega) ?_
          rw [if_pos h22, if_pos h25] at hq; exact hq
    · refine st_goto rfl ?_
      refine st_iinc (ls' := [_, _, _, _, _, _, _]) rfl rfl (by omega) rfl ?_
      refine st_goto rfl ?_
      first
      | (rw [if_neg h22] at hq; exact ih (i + 1) l (by omega) (by omega) hl hl2 hq)
      | (rw [if_pos h22, if_neg (by omega)] at hq; exact ih (i + 1) (l + -1) (by omega) (by omega) (by omega) (by omega) hq)
theorem r_Model_order {d N : Nat} {P : am_P} {H : am_H} {w k : Int} (hP : PZ P) (hI : Inv (H 54)) (hk : k ≤ 2147483647) : am_R (d + 6) 109 [am_r 53, am_i (w), am_i (k)] (N, P, H) (some (am_i (if 0 ≤ k then orL (rgF (H 54) (H 62) (H 63)) w (manF (H 54)).toNat 0 k else -1))) (N, P, rgH H) := by
  refine am_en1 (d := d + 5) (ml := 7) (ls := [_, _, _, _, _, _, _]) cq_Model_order rfl (Nat.le_of_ble_eq_true rfl) rfl ?_
  have hm := man_r hI
  have hb := bsT_r (a := H 54) (T0 := H 62) (n := manF (H 54)) (manF (H 54)).toNat (by omega)
  have e54 : rgH H 54 = H 54 := rgH_o H (by decide) (by decide)
  have em : (if rgH H 54 5 < 0 then 0 else rgH H 54 6) = manF (H 54) := by rw [e54]; rfl
  refine st_iconst rfl ?_
  refine st_istore_n (ls' := [_, _, _, _, _, _, _]) rfl (Nat.le_of_ble_eq_true rfl) rfl ?_
  refine st_aload_n rfl rfl (by decide) ?_
  refine st_cv1 (w := []) rfl rfl rfl (Nat.le_of_ble_eq_true rfl) (Nat.le_of_ble_eq_true rfl) rfl rfl (r_Model_rights hP hI) ?_
  refine st_istore (ls' := [_, _, _, _, _, _, _]) rfl (Nat.le_of_ble_eq_true rfl) rfl ?_
  refine st_iload_n rfl rfl ?_
  refine st_istore (ls' := [_, _, _, _, _, _, _]) rfl (Nat.le_of_ble_eq_true rfl) rfl ?_
  refine st_iconst rfl ?_
  refine st_istore (ls' := [_, _, _, _, _, _, _]) rfl (Nat.le_of_ble_eq_true rfl) rfl ?_
  by_cases hk0 : 0 ≤ k
  · exact l_order hP hI hk0 hb.1 (manF (H 54)).toNat 0 k (by omega) (by omega) hk0 hk ⟨am_ri (by rw [if_pos hk0]), rfl⟩
  · refine st_iload rfl rfl ?_
    refine st_aload_n rfl rfl (by decide) ?_
    refine st_cv1 (w := [_]) rfl rfl rfl (Nat.le_of_ble_eq_true rfl) (Nat.le_of_ble_eq_true rfl) rfl rfl (r_Model_many (H := rgH H) hP) ?_
    rw [em]
    refine st_icmp_ge rfl (fun h12 => ?_) (fun h12 => ?_)
    · refine st_iload rfl rfl ?_
      have hb2 : ¬ bsF (H 54) (H 62) < 0 := by unfold bsF; omega
      refine st_if_lt rfl (fun h32 => (by exfalso; omega)) (fun h32 => ?_)
      refine st_iload_n rfl rfl ?_
      refine st_goto rfl ?_
      refine st_iret rfl (fun z => by first | exact absurd z (by decide) | exact bi_01 _ | decide | omega) ?_
      exact ⟨am_ri (by rw [if_neg hk0]), rfl⟩
    · refine st_iload_n rfl rfl ?_
      refine st_if_ge rfl (fun h14 => (by exfalso; omega)) (fun h14 => ?_)
      refine st_iload_n rfl rfl ?_
      refine st_if_lt rfl (fun h16 => ?_) (fun h16 => (by exfalso; omega))
      refine st_iload rfl rfl ?_
      have hb2 : ¬ bsF (H 54) (H 62) < 0 := by unfold bsF; omega
      refine st_if_lt rfl (fun h32 => (by exfalso; omega)) (fun h32 => ?_)
      refine st_iload_n rfl rfl ?_
      refine st_goto rfl ?_
      refine st_iret rfl (fun z => by first | exact absurd z (by decide) | exact bi_01 _ | decide | omega) ?_
      exact ⟨am_ri (by rw [if_neg hk0]), rfl⟩
theorem r_Model_fewest {d N : Nat} {P : am_P} {H : am_H}  (hP : PZ P) (hI : Inv (H 54)) : am_R (d + 6) 110 [am_r 53] (N, P, H) (some (am_i (if H 54 5 < 0 then -1 else manF (H 54) - bsF (H 54) (H 62)))) (N, P, if H 54 5 < 0 then H else rgH H) := by
  refine am_en1 (d := d + 5) (ml := 1) (ls := [_]) cq_Model_fewest rfl (Nat.le_of_ble_eq_true rfl) rfl ?_
  have hm := man_r hI
  have hb := bsT_r (a := H 54) (T0 := H 62) (n := manF (H 54)) (manF (H 54)).toNat (by omega)
  refine st_aload_n rfl rfl (by decide) ?_
  refine st_getR (kk := 0) rfl rfl rfl (pz_53_0 hP) rfl ?_
  refine st_iconst rfl ?_
  refine st_iaload rfl rfl (by omega) (by omega) ?_
  refine st_if_ge rfl (fun h4 => ?_) (fun h4 => ?_)
  · refine st_aload_n rfl rfl (by decide) ?_
    refine st_cv1 (w := []) rfl rfl rfl (Nat.le_of_ble_eq_true rfl) (Nat.le_of_ble_eq_true rfl) rfl rfl (r_Model_many hP) ?_
    rw [show (if H 54 5 < 0 then 0 else H 54 6) = manF (H 54) from rfl]
    refine st_aload_n rfl rfl (by decide) ?_
    refine st_cv1 (w := [_]) rfl rfl rfl (Nat.le_of_ble_eq_true rfl) (Nat.le_of_ble_eq_true rfl) rfl rfl (r_Model_rights hP hI) ?_
    have hb2 : 0 ≤ bsF (H 54) (H 62) ∧ bsF (H 54) (H 62) ≤ 60 := by unfold bsF; omega
    refine st_isub rfl (by omega) ?_
    refine st_iret rfl (fun z => by first | exact absurd z (by decide) | exact bi_01 _ | decide | omega) ?_
    first
    | (refine ⟨am_ri (by rw [if_pos (by omega)]), ?_⟩; rw [if_pos (by omega)])
    | (refine ⟨am_ri (by rw [if_neg (by omega)]), ?_⟩; rw [if_neg (by omega)])
  · refine st_iconst rfl ?_
    refine st_goto rfl ?_
    refine st_iret rfl (fun z => by first | exact absurd z (by decide) | exact bi_01 _ | decide | omega) ?_
    first
    | (refine ⟨am_ri (by rw [if_pos (by omega)]), ?_⟩; rw [if_pos (by omega)])
    | (refine ⟨am_ri (by rw [if_neg (by omega)]), ?_⟩; rw [if_neg (by omega)])
def whL (a : Int → Int) (m : Int) : Nat → Int
  | 0 => 0
  | i + 1 => whL a m i + bi (0 ≤ cmpF a m (seeF a (i : Int)) (a 0))
theorem whL_r (a : Int → Int) (m : Int) : ∀ j : Nat, 0 ≤ whL a m j ∧ whL a m j ≤ (j : Int)
  | 0 => by simp only [whL]; omega
  | j + 1 => by
    have ih := whL_r a m j
    have := bi_01 (0 ≤ cmpF a m (seeF a (j : Int)) (a 0))
    simp only [whL]
    omega
abbrev whC (H : am_H) (m : Int) : Prop := 0 ≤ H 54 5 ∧ (0 ≤ m ∧ m < H 54 1) ∧ manF (H 54) ≤ bsF (H 54) (H 62)
abbrev whS (H : am_H) (m : Int) : am_H := if 0 ≤ H 54 5 ∧ (0 ≤ m ∧ m < H 54 1) then rgH H else H

theorem r_Model_where {d N : Nat} {P : am_P} {H : am_H} {m : Int} (hP : PZ P) (hI : Inv (H 54)) : am_R (d + 6) 112 [am_r 53, am_i (m)] (N, P, H) (some (am_i (if whC H m then whL (H 54) m (manF (H 54)).toNat else -1))) (N, P, whS H m) := by
  refine am_en1 (d := d + 5) (ml := 4) (ls := [_, _, _, _]) cq_Model_where rfl (Nat.le_of_ble_eq_true rfl) rfl ?_
  have hm := man_r hI
  have hb := bsT_r (a := H 54) (T0 := H 62) (n := manF (H 54)) (manF (H 54)).toNat (by omega)
  have e54 : rgH H 54 = H 54 := rgH_o H (by decide) (by decide)
  have em : (if rgH H 54 5 < 0 then 0 else rgH H 54 6) = manF (H 54) := by rw [e54]; rfl
  have ek : ∀ k, rgH H 54 (5 + 2 + k) = seeF (H 54) k := fun k => by rw [e54]; rfl
  refine st_aload_n rfl rfl (by decide) ?_
  refine st_getR (kk := 0) rfl rfl rfl (pz_53_0 hP) rfl ?_
  refine st_iconst rfl ?_
  refine st_iaload rfl rfl (by omega) (by omega) ?_
  refine st_if_lt rfl (fun h4 => ?_) (fun h4 => ?_)
  · refine st_iconst rfl ?_
    refine st_iret rfl (fun z => by first | exact absurd z (by decide) | exact bi_01 _ | decide | omega) ?_
    refine ⟨am_ri (by rw [if_neg (by omega)]), ?_⟩
    unfold whS
    first | rw [if_pos (by omega)] | rw [if_neg (by omega)]
  · refine st_aload_n rfl rfl (by decide) ?_
    refine st_iload_n rfl rfl ?_
    refine st_cv1 (w := []) rfl rfl rfl (Nat.le_of_ble_eq_true rfl) (Nat.le_of_ble_eq_true rfl) rfl rfl (r_Model_isMark hP) ?_
    refine st_if_eq_b rfl (fun h8 => ?_) (fun h8 => ?_)
    · refine st_iconst rfl ?_
      refine st_iret rfl (fun z => by first | exact absurd z (by decide) | exact bi_01 _ | decide | omega) ?_
      refine ⟨am_ri (by rw [if_neg (by omega)]), ?_⟩
      unfold whS
      first | rw [if_pos (by omega)] | rw [if_neg (by omega)]
    · refine st_aload_n rfl rfl (by decide) ?_
      refine st_cv1 (w := []) rfl rfl rfl (Nat.le_of_ble_eq_true rfl) (Nat.le_of_ble_eq_true rfl) rfl rfl (r_Model_rights hP hI) ?_
      refine st_aload_n rfl rfl (by decide) ?_
      refine st_cv1 (w := [_]) rfl rfl rfl (Nat.le_of_ble_eq_true rfl) (Nat.le_of_ble_eq_true rfl) rfl rfl (r_Model_many (H := rgH H) hP) ?_
      rw [em]
      refine st_icmp_ge rfl (fun h13 => ?_) (fun h13 => ?_)
      · refine st_iconst rfl ?_
        refine st_istore_n (ls' := [_, _, _, _]) rfl (Nat.le_of_ble_eq_true rfl) rfl ?_
        refine st_iconst rfl ?_
        refine st_istore_n (ls' := [_, _, _, _]) rfl (Nat.le_of_ble_eq_true rfl) rfl ?_
        have hmv := hI.mv (m := m) (by omega) (by omega)
        refine up_ind (n := (manF (H 54)).toNat) (p := fun j => am_WP (am_R (d + 5)) cd_Model_where _ 20 [some (am_r 53), some (am_i m), some (am_i (whL (H 54) m j)), some (am_i (j : Int))] [] (N, P, rgH H)) ?_ ?_ 0 (Nat.zero_le _)
        · show am_WP _ _ _ _ _ _ _
          refine st_iload_n rfl rfl ?_
          refine st_aload_n rfl rfl (by decide) ?_
          refine st_cv1 (w := [_]) rfl rfl rfl (Nat.le_of_ble_eq_true rfl) (Nat.le_of_ble_eq_true rfl) rfl rfl (r_Model_many (H := rgH H) hP) ?_
          rw [em]
          refine st_icmp_ge rfl (fun h23 => ?_) (fun h23 => (by exfalso; omega))
          refine st_iload_n rfl rfl ?_
          refine st_iret rfl (fun z => by first | exact absurd z (by decide) | exact bi_01 _ | decide | omega) ?_
          refine ⟨am_ri (by rw [if_pos (by omega)]), ?_⟩
          unfold whS
          rw [if_pos (by omega)]
        · intro j hj ih
          have ih : am_WP _ _ _ _ _ _ _ := ih
          show am_WP _ _ _ _ _ _ _
          have hr := whL_r (H 54) m j
          have hk := hm.2.2 (j : Int) (by omega) (by omega)
          have hmk := hI.mv hk.1 hk.2
          refine st_iload_n rfl rfl ?_
          refine st_aload_n rfl rfl (by decide) ?_
          refine st_cv1 (w := [_]) rfl rfl rfl (Nat.le_of_ble_eq_true rfl) (Nat.le_of_ble_eq_true rfl) rfl rfl (r_Model_many (H := rgH H) hP) ?_
          rw [em]
          refine st_icmp_ge rfl (fun h23 => (by exfalso; omega)) (fun h23 => ?_)
          refine st_iload_n rfl rfl ?_
          refine st_aload_n rfl rfl (by decide) ?_
          refine st_iload_n rfl rfl ?_
          refine st_aload_n rfl rfl (by decide) ?_
          refine st_iload_n rfl rfl ?_
          refine st_cv1 (w := [_, _, _]) rfl rfl rfl (Nat.le_of_ble_eq_true rfl) (Nat.le_of_ble_eq_true rfl) rfl rfl (r_Model_seenAt (H := rgH H) hP (by omega) (by omega)) ?_
          rw [ek]
          refine st_cv1 (w := [_]) rfl rfl rfl (Nat.le_of_ble_eq_true rfl) (Nat.le_of_ble_eq_true rfl) rfl rfl (r_Model_compared (H := rgH H) hP (by rw [e54]; exact hmv) (by rw [e54]; exact hmk)) ?_
          rw [e54]
          refine st_if_lt rfl (fun h31 => ?_) (fun h31 => ?_)
          · refine st_iconst rfl ?_
            refine st_iadd rfl (by omega) ?_
            refine st_istore_n (ls' := [_, _, _, _]) rfl (Nat.le_of_ble_eq_true rfl) rfl ?_
            refine st_iinc (ls' := [_, _, _, _]) rfl rfl (by omega) rfl ?_
            refine st_goto rfl ?_
            first
            | (rw [show whL (H 54) m (j + 1) = whL (H 54) m j + 1 by simp only [whL]; rw [bi_t (by omega)]] at ih; exact ih)
            | (rw [show whL (H 54) m (j + 1) = whL (H 54) m j + 0 by simp only [whL]; rw [bi_f (by omega)]] at ih; exact ih)
          · refine st_iconst rfl ?_
            refine st_goto rfl ?_
            refine st_iadd rfl (by omega) ?_
            refine st_istore_n (ls' := [_, _, _, _]) rfl (Nat.le_of_ble_eq_true rfl) rfl ?_
            refine st_iinc (ls' := [_, _, _, _]) rfl rfl (by omega) rfl ?_
            refine st_goto rfl ?_
            first
            | (rw [show whL (H 54) m (j + 1) = whL (H 54) m j + 1 by simp only [whL]; rw [bi_t (by omega)]] at ih; exact ih)
            | (rw [show whL (H 54) m (j + 1) = whL (H 54) m j + 0 by simp only [whL]; rw [bi_f (by omega)]] at ih; exact ih)
      · refine st_iconst rfl ?_
        refine st_iret rfl (fun z => by first | exact absurd z (by decide) | exact bi_01 _ | decide | omega) ?_
        refine ⟨am_ri (by rw [if_neg (by omega)]), ?_⟩
        unfold whS
        first | rw [if_pos (by omega)] | rw [if_neg (by omega)]
def btF (H : am_H) (m w : Int) : Int :=
  if whC H m ∧ (0 ≤ w ∧ w < 2) then (if 0 ≤ whL (H 54) m (manF (H 54)).toNat - (if w = 0 then 1 else 0) ∧ whL (H 54) m (manF (H 54)).toNat - (if w = 0 then 1 else 0) < manF (H 54) then seeF (H 54) (whL (H 54) m (manF (H 54)).toNat - (if w = 0 then 1 else 0)) else -1) else -1
theorem whS_54 (H : am_H) (m : Int) : whS H m 54 = H 54 := by
  unfold whS
  split
  · exact rgH_o H (by decide) (by decide)
  · rfl

theorem r_Model_between {d N : Nat} {P : am_P} {H : am_H} {m w : Int} (hP : PZ P) (hI : Inv (H 54)) : am_R (d + 7) 113 [am_r 53, am_i (m), am_i (w)] (N, P, H) (some (am_i (btF H m w))) (N, P, whS H m) := by
  refine am_en1 (d := d + 6) (ml := 5) (ls := [_, _, _, _, _]) cq_Model_between rfl (Nat.le_of_ble_eq_true rfl) rfl ?_
  have hm := man_r hI
  have hr := whL_r (H 54) m (manF (H 54)).toNat
  have em : (if whS H m 54 5 < 0 then 0 else whS H m 54 6) = manF (H 54) := by rw [whS_54]; rfl
  have ek : ∀ k, whS H m 54 (5 + 2 + k) = seeF (H 54) k := fun k => by rw [whS_54]; rfl
  have hc1 : whC H m → (if whC H m then whL (H 54) m (manF (H 54)).toNat else -1) = whL (H 54) m (manF (H 54)).toNat := fun z => if_pos z
  have hc2 : ¬ whC H m → (if whC H m then whL (H 54) m (manF (H 54)).toNat else -1) = -1 := fun z => if_neg z
  generalize hW : (if whC H m then whL (H 54) m (manF (H 54)).toNat else -1) = W at hc1 hc2
  refine st_aload_n rfl rfl (by decide) ?_
  refine st_iload_n rfl rfl ?_
  refine st_cv1 (w := []) rfl rfl rfl (Nat.le_of_ble_eq_true rfl) (Nat.le_of_ble_eq_true rfl) rfl rfl (r_Model_where hP hI) ?_
  rw [hW]
  refine st_istore_n (ls' := [_, _, _, _, _]) rfl (Nat.le_of_ble_eq_true rfl) rfl ?_
  refine st_iload_n rfl rfl ?_
  refine st_if_lt rfl (fun h5 => ?_) (fun h5 => ?_)
  · refine st_iconst rfl ?_
    refine st_iret rfl (fun z => by first | exact absurd z (by decide) | exact bi_01 _ | decide | omega) ?_
    refine ⟨am_ri ?_, rfl⟩
    unfold btF
    by_cases hwc : whC H m
    · rw [hc1 hwc] at *
      by_cases hw0 : w = 0
      · simp only [hw0, if_true] at *
        try ((repeat' split) <;> first | rfl | omega)
      · simp only [hw0, if_false, Int.sub_zero] at *
        try ((repeat' split) <;> first | rfl | omega)
    · rw [hc2 hwc] at *
      rw [if_neg (fun z => hwc z.1)]
      try (first | rfl | omega)
  · refine st_iload_n rfl rfl ?_
    refine st_iconst rfl ?_
    refine st_cs1 (w := []) rfl (by decide) (by decide) (by decide) (Nat.le_of_ble_eq_true rfl) (Nat.le_of_ble_eq_true rfl) rfl rfl (r_Model_isIn) ?_
    refine st_if_ne_b rfl (fun h9 => ?_) (fun h9 => ?_)
    · refine st_iload_n rfl rfl ?_
      refine st_if_ne rfl (fun h13 => ?_) (fun h13 => ?_)
      · refine st_iload_n rfl rfl ?_
        refine st_istore (ls' := [_, _, _, _, _]) rfl (Nat.le_of_ble_eq_true rfl) rfl ?_
        refine st_iload rfl rfl ?_
        refine st_aload_n rfl rfl (by decide) ?_
        refine st_cv1 (w := [_]) rfl rfl rfl (Nat.le_of_ble_eq_true rfl) (Nat.le_of_ble_eq_true rfl) rfl rfl (r_Model_many (H := whS H m) hP) ?_
        rw [em]
        refine st_cs1 (w := []) rfl (by decide) (by decide) (by decide) (Nat.le_of_ble_eq_true rfl) (Nat.le_of_ble_eq_true rfl) rfl rfl (r_Model_isIn) ?_
        refine st_if_eq_b rfl (fun h24 => ?_) (fun h24 => ?_)
        · refine st_iconst rfl ?_
          refine st_iret rfl (fun z => by first | exact absurd z (by decide) | exact bi_01 _ | decide | omega) ?_
          refine ⟨am_ri ?_, rfl⟩
          unfold btF
          by_cases hwc : whC H m
          · rw [hc1 hwc] at *
            by_cases hw0 : w = 0
            · simp only [hw0, if_true] at *
              try ((repeat' split) <;> first | rfl | omega)
            · simp only [hw0, if_false, Int.sub_zero] at *
              try ((repeat' split) <;> first | rfl | omega)
          · rw [hc2 hwc] at *
            rw [if_neg (fun z => hwc z.1)]
            try (first | rfl | omega)
        · refine st_aload_n rfl rfl (by decide) ?_
          refine st_iload rfl rfl ?_
          refine st_cv1 (w := []) rfl rfl rfl (Nat.le_of_ble_eq_true rfl) (Nat.le_of_ble_eq_true rfl) rfl rfl (r_Model_seenAt (H := whS H m) hP (by omega) (by omega)) ?_
          rw [ek]
          refine st_goto rfl ?_
          refine st_iret rfl (fun z => by first | exact absurd z (by decide) | exact bi_01 _ | decide | omega) ?_
          refine ⟨am_ri ?_, rfl⟩
          unfold btF
          by_cases hwc : whC H m
          · rw [hc1 hwc] at *
            by_cases hw0 : w = 0
            · simp only [hw0, if_true] at *
              try ((repeat' split) <;> first | rfl | omega)
            · simp only [hw0, if_false, Int.sub_zero] at *
              try ((repeat' split) <;> first | rfl | omega)
          · rw [hc2 hwc] at *
            rw [if_neg (fun z => hwc z.1)]
            try (first | rfl | omega)
      · refine st_iload_n rfl rfl ?_
        refine st_iconst rfl ?_
        refine st_isub rfl (by omega) ?_
        refine st_goto rfl ?_
        refine st_istore (ls' := [_, _, _, _, _]) rfl (Nat.le_of_ble_eq_true rfl) rfl ?_
        refine st_iload rfl rfl ?_
        refine st_aload_n rfl rfl (by decide) ?_
        refine st_cv1 (w := [_]) rfl rfl rfl (Nat.le_of_ble_eq_true rfl) (Nat.le_of_ble_eq_true rfl) rfl rfl (r_Model_many (H := whS H m) hP) ?_
        rw [em]
        refine st_cs1 (w := []) rfl (by decide) (by decide) (by decide) (Nat.le_of_ble_eq_true rfl) (Nat.le_of_ble_eq_true rfl) rfl rfl (r_Model_isIn) ?_
        refine st_if_eq_b rfl (fun h24 => ?_) (fun h24 => ?_)
        · refine st_iconst rfl ?_
          refine st_iret rfl (fun z => by first | exact absurd z (by decide) | exact bi_01 _ | decide | omega) ?_
          refine ⟨am_ri ?_, rfl⟩
          unfold btF
          by_cases hwc : whC H m
          · rw [hc1 hwc] at *
            by_cases hw0 : w = 0
            · simp only [hw0, if_true] at *
              try ((repeat' split) <;> first | rfl | omega)
            · simp only [hw0, if_false, Int.sub_zero] at *
              try ((repeat' split) <;> first | rfl | omega)
          · rw [hc2 hwc] at *
            rw [if_neg (fun z => hwc z.1)]
            try (first | rfl | omega)
        · refine st_aload_n rfl rfl (by decide) ?_
          refine st_iload rfl rfl ?_
          refine st_cv1 (w := []) rfl rfl rfl (Nat.le_of_ble_eq_true rfl) (Nat.le_of_ble_eq_true rfl) rfl rfl (r_Model_seenAt (H := whS H m) hP (by omega) (by omega)) ?_
          rw [ek]
          refine st_goto rfl ?_
          refine st_iret rfl (fun z => by first | exact absurd z (by decide) | exact bi_01 _ | decide | omega) ?_
          refine ⟨am_ri ?_, rfl⟩
          unfold btF
          by_cases hwc : whC H m
          · rw [hc1 hwc] at *
            by_cases hw0 : w = 0
            · simp only [hw0, if_true] at *
              try ((repeat' split) <;> first | rfl | omega)
            · simp only [hw0, if_false, Int.sub_zero] at *
              try ((repeat' split) <;> first | rfl | omega)
          · rw [hc2 hwc] at *
            rw [if_neg (fun z => hwc z.1)]
            try (first | rfl | omega)
    · refine st_iconst rfl ?_
      refine st_iret rfl (fun z => by first | exact absurd z (by decide) | exact bi_01 _ | decide | omega) ?_
      refine ⟨am_ri ?_, rfl⟩
      unfold btF
      by_cases hwc : whC H m
      · rw [hc1 hwc] at *
        by_cases hw0 : w = 0
        · simp only [hw0, if_true] at *
          try ((repeat' split) <;> first | rfl | omega)
        · simp only [hw0, if_false, Int.sub_zero] at *
          try ((repeat' split) <;> first | rfl | omega)
      · rw [hc2 hwc] at *
        rw [if_neg (fun z => hwc z.1)]
        try (first | rfl | omega)
