/-! ===== the reference: counts, the list, checks ===== -/
def cntL (a : Int → Int) : Nat → Int
  | 0 => 0
  | m + 1 => cntL a m + bi (0 ≤ a (8782 + (m : Int)))
theorem cntL_r (a : Int → Int) : ∀ j : Nat, 0 ≤ cntL a j ∧ cntL a j ≤ (j : Int)
  | 0 => by simp only [cntL]; omega
  | j + 1 => by
    have ih := cntL_r a j
    have := bi_01 (0 ≤ a (8782 + (j : Int)))
    simp only [cntL]
    omega
def cotF (a : Int → Int) (w : Int) : Int := if w = 0 then a 1 else if w = 1 then a 2 else if w = 2 then a 3 else if w = 3 then cntL a (a 1).toNat else if w = 4 then a 4 else if w = 5 then (if a 5 < 0 then -1 else a 6) else if w = 6 then a 5 else if w = 7 then a 0 else -1

theorem r_Model_count {d N : Nat} {P : am_P} {H : am_H} {w : Int} (hP : PZ P) (hI : Inv (H 54)) : am_R (d + 1) 66 [am_r 53, am_i (w)] (N, P, H) (some (am_i (cotF (H 54) w))) (N, P, H) := by
  refine am_en1 (d := d + 0) (ml := 4) (ls := [_, _, _, _]) cq_Model_count rfl (Nat.le_of_ble_eq_true rfl) rfl ?_
  have hn := hI.n
  have hc : (((H 54 1).toNat : Nat) : Int) = H 54 1 := Int.toNat_of_nonneg (by omega)
  refine st_iconst rfl ?_
  refine st_istore_n (ls' := [_, _, _, _]) rfl (Nat.le_of_ble_eq_true rfl) rfl ?_
  refine st_iconst rfl ?_
  refine st_istore_n (ls' := [_, _, _, _]) rfl (Nat.le_of_ble_eq_true rfl) rfl ?_
  refine up_ind (n := (H 54 1).toNat) (p := fun j => am_WP (am_R (d + 0)) cd_Model_count _ 4 [some (am_r 53), some (am_i w), some (am_i (cntL (H 54) j)), some (am_i (j : Int))] [] (N, P, H)) ?_ ?_ 0 (Nat.zero_le _)
  · show am_WP _ _ _ _ _ _ _
    refine st_iload_n rfl rfl ?_
    refine st_aload_n rfl rfl (by decide) ?_
    refine st_getR (kk := 0) rfl rfl rfl (pz_53_0 hP) rfl ?_
    refine st_iconst rfl ?_
    refine st_iaload rfl rfl (by omega) (by omega) ?_
    refine st_icmp_ge rfl (fun h9 => ?_) (fun h9 => (by exfalso; omega))
    refine st_iload_n rfl rfl ?_
    by_cases h26_0 : w = 0
    · refine st_swC (c := 0) rfl h26_0 (t := 27) (by decide +kernel) ?_
      refine st_aload_n rfl rfl (by decide) ?_
      refine st_getR (kk := 0) rfl rfl rfl (pz_53_0 hP) rfl ?_
      refine st_iconst rfl ?_
      refine st_iaload rfl rfl (by omega) (by omega) ?_
      refine st_iret rfl (fun z => by first | exact absurd z (by decide) | exact bi_01 _ | decide | omega) ?_
      refine ⟨am_ri ?_, rfl⟩
      unfold cotF
      (repeat' split) <;> first | rfl | omega
    by_cases h26_1 : w = 1
    · refine st_swC (c := 1) rfl h26_1 (t := 32) (by decide +kernel) ?_
      refine st_aload_n rfl rfl (by decide) ?_
      refine st_getR (kk := 0) rfl rfl rfl (pz_53_0 hP) rfl ?_
      refine st_iconst rfl ?_
      refine st_iaload rfl rfl (by omega) (by omega) ?_
      refine st_iret rfl (fun z => by first | exact absurd z (by decide) | exact bi_01 _ | decide | omega) ?_
      refine ⟨am_ri ?_, rfl⟩
      unfold cotF
      (repeat' split) <;> first | rfl | omega
    by_cases h26_2 : w = 2
    · refine st_swC (c := 2) rfl h26_2 (t := 37) (by decide +kernel) ?_
      refine st_aload_n rfl rfl (by decide) ?_
      refine st_getR (kk := 0) rfl rfl rfl (pz_53_0 hP) rfl ?_
      refine st_iconst rfl ?_
      refine st_iaload rfl rfl (by omega) (by omega) ?_
      refine st_iret rfl (fun z => by first | exact absurd z (by decide) | exact bi_01 _ | decide | omega) ?_
      refine ⟨am_ri ?_, rfl⟩
      unfold cotF
      (repeat' split) <;> first | rfl | omega
    by_cases h26_3 : w = 3
    · refine st_swC (c := 3) rfl h26_3 (t := 42) (by decide +kernel) ?_
      refine st_iload_n rfl rfl ?_
      refine st_iret rfl (fun z => by first | exact absurd z (by decide) | exact bi_01 _ | decide | omega) ?_
      refine ⟨am_ri ?_, rfl⟩
      unfold cotF
      (repeat' split) <;> first | rfl | omega
    by_cases h26_4 : w = 4
    · refine st_swC (c := 4) rfl h26_4 (t := 44) (by decide +kernel) ?_
      refine st_aload_n rfl rfl (by decide) ?_
      refine st_getR (kk := 0) rfl rfl rfl (pz_53_0 hP) rfl ?_
      refine st_iconst rfl ?_
      refine st_iaload rfl rfl (by omega) (by omega) ?_
      refine st_iret rfl (fun z => by first | exact absurd z (by decide) | exact bi_01 _ | decide | omega) ?_
      refine ⟨am_ri ?_, rfl⟩
      unfold cotF
      (repeat' split) <;> first | rfl | omega
    by_cases h26_5 : w = 5
    · refine st_swC (c := 5) rfl h26_5 (t := 49) (by decide +kernel) ?_
      refine st_aload_n rfl rfl (by decide) ?_
      refine st_getR (kk := 0) rfl rfl rfl (pz_53_0 hP) rfl ?_
      refine st_iconst rfl ?_
      refine st_iaload rfl rfl (by omega) (by omega) ?_
      refine st_if_ge rfl (fun h53 => ?_) (fun h53 => ?_)
      · refine st_aload_n rfl rfl (by decide) ?_
        refine st_getR (kk := 0) rfl rfl rfl (pz_53_0 hP) rfl ?_
        refine st_bipush rfl ?_
        refine st_iaload rfl rfl (by omega) (by omega) ?_
        refine st_iret rfl (fun z => by first | exact absurd z (by decide) | exact bi_01 _ | decide | omega) ?_
        refine ⟨am_ri ?_, rfl⟩
        unfold cotF
        (repeat' split) <;> first | rfl | omega
      · refine st_iconst rfl ?_
        refine st_goto rfl ?_
        refine st_iret rfl (fun z => by first | exact absurd z (by decide) | exact bi_01 _ | decide | omega) ?_
        refine ⟨am_ri ?_, rfl⟩
        unfold cotF
        (repeat' split) <;> first | rfl | omega
    by_cases h26_6 : w = 6
    · refine st_swC (c := 6) rfl h26_6 (t := 61) (by decide +kernel) ?_
      refine st_aload_n rfl rfl (by decide) ?_
      refine st_getR (kk := 0) rfl rfl rfl (pz_53_0 hP) rfl ?_
      refine st_iconst rfl ?_
      refine st_iaload rfl rfl (by omega) (by omega) ?_
      refine st_iret rfl (fun z => by first | exact absurd z (by decide) | exact bi_01 _ | decide | omega) ?_
      refine ⟨am_ri ?_, rfl⟩
      unfold cotF
      (repeat' split) <;> first | rfl | omega
    by_cases h26_7 : w = 7
    · refine st_swC (c := 7) rfl h26_7 (t := 66) (by decide +kernel) ?_
      refine st_aload_n rfl rfl (by decide) ?_
      refine st_getR (kk := 0) rfl rfl rfl (pz_53_0 hP) rfl ?_
      refine st_iconst rfl ?_
      refine st_iaload rfl rfl (by omega) (by omega) ?_
      refine st_iret rfl (fun z => by first | exact absurd z (by decide) | exact bi_01 _ | decide | omega) ?_
      refine ⟨am_ri ?_, rfl⟩
      unfold cotF
      (repeat' split) <;> first | rfl | omega
    refine st_swD rfl (by omega) (t := 71) (by decide +kernel) ?_
    refine st_iconst rfl ?_
    refine st_iret rfl (fun z => by first | exact absurd z (by decide) | exact bi_01 _ | decide | omega) ?_
    refine ⟨am_ri ?_, rfl⟩
    unfold cotF
    (repeat' split) <;> first | rfl | omega
  · intro j hj ih
    have ih : am_WP _ _ _ _ _ _ _ := ih
    show am_WP _ _ _ _ _ _ _
    have hr := cntL_r (H 54) j
    refine st_iload_n rfl rfl ?_
    refine st_aload_n rfl rfl (by decide) ?_
    refine st_getR (kk := 0) rfl rfl rfl (pz_53_0 hP) rfl ?_
    refine st_iconst rfl ?_
    refine st_iaload rfl rfl (by omega) (by omega) ?_
    refine st_icmp_ge rfl (fun h9 => (by exfalso; omega)) (fun h9 => ?_)
    refine st_iload_n rfl rfl ?_
    refine st_aload_n rfl rfl (by decide) ?_
    refine st_getR (kk := 0) rfl rfl rfl (pz_53_0 hP) rfl ?_
    refine st_sipush rfl ?_
    refine st_iload_n rfl rfl ?_
    refine st_iadd rfl (by omega) ?_
    refine st_iaload rfl rfl (by omega) (by omega) ?_
    refine st_if_lt rfl (fun h17 => ?_) (fun h17 => ?_)
    · refine st_iconst rfl ?_
      refine st_iadd rfl (by omega) ?_
      refine st_istore_n (ls' := [_, _, _, _]) rfl (Nat.le_of_ble_eq_true rfl) rfl ?_
      refine st_iinc (ls' := [_, _, _, _]) rfl rfl (by omega) rfl ?_
      refine st_goto rfl ?_
      first
      | (rw [show cntL (H 54) (j + 1) = cntL (H 54) j + 1 by simp only [cntL]; rw [bi_t (by omega)]] at ih; exact ih)
      | (rw [show cntL (H 54) (j + 1) = cntL (H 54) j + 0 by simp only [cntL]; rw [bi_f (by omega)]] at ih; exact ih)
    · refine st_iconst rfl ?_
      refine st_goto rfl ?_
      refine st_iadd rfl (by omega) ?_
      refine st_istore_n (ls' := [_, _, _, _]) rfl (Nat.le_of_ble_eq_true rfl) rfl ?_
      refine st_iinc (ls' := [_, _, _, _]) rfl rfl (by omega) rfl ?_
      refine st_goto rfl ?_
      first
      | (rw [show cntL (H 54) (j + 1) = cntL (H 54) j + 1 by simp only [cntL]; rw [bi_t (by omega)]] at ih; exact ih)
      | (rw [show cntL (H 54) (j + 1) = cntL (H 54) j + 0 by simp only [cntL]; rw [bi_f (by omega)]] at ih; exact ih)
def ofL (a : Int → Int) (s m : Int) : Nat → Int
  | 0 => 0
  | k + 1 => ofL a s m k + bi (a (9382 + 62 * s + 2 + (k : Int)) = m)
theorem ofL_r (a : Int → Int) (s m : Int) : ∀ j : Nat, 0 ≤ ofL a s m j ∧ ofL a s m j ≤ (j : Int)
  | 0 => by simp only [ofL]; omega
  | j + 1 => by
    have ih := ofL_r a s m j
    have := bi_01 (a (9382 + 62 * s + 2 + (j : Int)) = m)
    simp only [ofL]
    omega
def ofF (a : Int → Int) (s m : Int) : Int := ofL a s m (a (9382 + 62 * s + 1)).toNat

theorem r_Model_often {d N : Nat} {P : am_P} {H : am_H} {s m : Int} (hP : PZ P) (h1 : 0 ≤ s) (h2 : s < 16) (h3 : 0 ≤ H 54 (9382 + 62 * s + 1)) (h4 : H 54 (9382 + 62 * s + 1) ≤ 60) : am_R (d + 1) 114 [am_r 53, am_i (s), am_i (m)] (N, P, H) (some (am_i (ofF (H 54) s m))) (N, P, H) := by
  refine am_en1 (d := d + 0) (ml := 6) (ls := [_, _, _, _, _, _]) cq_Model_often rfl (Nat.le_of_ble_eq_true rfl) rfl ?_
  have hc : (((H 54 (9382 + 62 * s + 1)).toNat : Nat) : Int) = H 54 (9382 + 62 * s + 1) := Int.toNat_of_nonneg (by omega)
  refine st_sipush rfl ?_
  refine st_bipush rfl ?_
  refine st_iload_n rfl rfl ?_
  refine st_imul rfl (by omega) ?_
  refine st_iadd rfl (by omega) ?_
  refine st_istore_n (ls' := [_, _, _, _, _, _]) rfl (Nat.le_of_ble_eq_true rfl) rfl ?_
  refine st_iconst rfl ?_
  refine st_istore (ls' := [_, _, _, _, _, _]) rfl (Nat.le_of_ble_eq_true rfl) rfl ?_
  refine st_iconst rfl ?_
  refine st_istore (ls' := [_, _, _, _, _, _]) rfl (Nat.le_of_ble_eq_true rfl) rfl ?_
  refine up_ind (n := (H 54 (9382 + 62 * s + 1)).toNat) (p := fun j => am_WP (am_R (d + 0)) cd_Model_often _ 10 [some (am_r 53), some (am_i s), some (am_i m), some (am_i (9382 + 62 * s)), some (am_i (ofL (H 54) s m j)), some (am_i (j : Int))] [] (N, P, H)) ?_ ?_ 0 (Nat.zero_le _)
  · show am_WP _ _ _ _ _ _ _
    refine st_iload rfl rfl ?_
    refine st_aload_n rfl rfl (by decide) ?_
    refine st_getR (kk := 0) rfl rfl rfl (pz_53_0 hP) rfl ?_
    refine st_iload_n rfl rfl ?_
    refine st_iconst rfl ?_
    refine st_iadd rfl (by omega) ?_
    refine st_iaload rfl rfl (by omega) (by omega) ?_
    refine st_icmp_ge rfl (fun h17 => ?_) (fun h17 => (by exfalso; omega))
    refine st_iload rfl rfl ?_
    refine st_iret rfl (fun z => by first | exact absurd z (by decide) | exact bi_01 _ | decide | omega) ?_
    exact ⟨rfl, rfl⟩
  · intro j hj ih
    have ih : am_WP _ _ _ _ _ _ _ := ih
    show am_WP _ _ _ _ _ _ _
    have hr := ofL_r (H 54) s m j
    refine st_iload rfl rfl ?_
    refine st_aload_n rfl rfl (by decide) ?_
    refine st_getR (kk := 0) rfl rfl rfl (pz_53_0 hP) rfl ?_
    refine st_iload_n rfl rfl ?_
    refine st_iconst rfl ?_
    refine st_iadd rfl (by omega) ?_
    refine st_iaload rfl rfl (by omega) (by omega) ?_
    refine st_icmp_ge rfl (fun h17 => (by exfalso; omega)) (fun h17 => ?_)
    refine st_iload rfl rfl ?_
    refine st_aload_n rfl rfl (by decide) ?_
    refine st_getR (kk := 0) rfl rfl rfl (pz_53_0 hP) rfl ?_
    refine st_iload_n rfl rfl ?_
    refine st_iconst rfl ?_
    refine st_iadd rfl (by omega) ?_
    refine st_iload rfl rfl ?_
    refine st_iadd rfl (by omega) ?_
    refine st_iaload rfl rfl (by omega) (by omega) ?_
    refine st_iload_n rfl rfl ?_
    refine st_icmp_ne rfl (fun h28 => ?_) (fun h28 => ?_)
    · refine st_iconst rfl ?_
      refine st_iadd rfl (by omega) ?_
      refine st_istore (ls' := [_, _, _, _, _, _]) rfl (Nat.le_of_ble_eq_true rfl) rfl ?_
      refine st_iinc (ls' := [_, _, _, _, _, _]) rfl rfl (by omega) rfl ?_
      refine st_goto rfl ?_
      first
      | (rw [show ofL (H 54) s m (j + 1) = ofL (H 54) s m j + 1 by simp only [ofL]; rw [bi_t (by omega)]] at ih; exact ih)
      | (rw [show ofL (H 54) s m (j + 1) = ofL (H 54) s m j + 0 by simp only [ofL]; rw [bi_f (by omega)]] at ih; exact ih)
    · refine st_iconst rfl ?_
      refine st_goto rfl ?_
      refine st_iadd rfl (by omega) ?_
      refine st_istore (ls' := [_, _, _, _, _, _]) rfl (Nat.le_of_ble_eq_true rfl) rfl ?_
      refine st_iinc (ls' := [_, _, _, _, _, _]) rfl rfl (by omega) rfl ?_
      refine st_goto rfl ?_
      first
      | (rw [show ofL (H 54) s m (j + 1) = ofL (H 54) s m j + 1 by simp only [ofL]; rw [bi_t (by omega)]] at ih; exact ih)
      | (rw [show ofL (H 54) s m (j + 1) = ofL (H 54) s m j + 0 by simp only [ofL]; rw [bi_f (by omega)]] at ih; exact ih)
def ckL (a : Int → Int) (s : Int) : Nat → Int → Int → Int
  | 0, _, _ => -1
  | f + 1, p, b => if thgF a s p < 0 then ckL a s f (p + 1) b else if 0 ≤ b ∧ cmpF a (mkF a (thgF a s p)) b (a 0) < 0 then p else ckL a s f (p + 1) (mkF a (thgF a s p))
theorem TH.mod {a : Int → Int} {t : Int} (h : TH a t) (h0 : 0 ≤ t) (hb : a 3 ≤ 200) : 0 ≤ t % 1000 ∧ t % 1000 < a 3 := by
  rcases h with h | h | h
  · omega
  · rw [Int.emod_eq_of_lt h.1 (by omega)]; exact h
  · rw [show t % 1000 = t - 1000 by omega]; omega
theorem Inv.mk {a : Int → Int} (hI : Inv a) {t : Int} (h : TH a t) (h0 : 0 ≤ t) : 0 ≤ mkF a t ∧ mkF a t < a 1 := by
  have hm := h.mod h0 hI.b.1.2
  exact (hI.b.2 _ hm.1 hm.2).2.1

theorem l_check {d N : Nat} {P : am_P} {H : am_H} {s : Int} {Q : Option am_V → am_S → Prop} (hP : PZ P) (hI : Inv (H 54)) (h1 : 0 ≤ s) (h2 : s < H 54 2) : ∀ (f : Nat) (p b : Int) (w : Option am_V), p + f = 30 → 0 ≤ p → (0 ≤ b → MV (H 54) b) → -1 ≤ b → Q (some (am_i (ckL (H 54) s f p b))) (N, P, H) → am_WP (am_R (d + 4)) cd_Model_check Q 10 [some (am_r 53), some (am_i s), some (am_i b), some (am_i p), w] [] (N, P, H) := by
  have hn := hI.n
  have e0 : ∀ p, H 54 (6670 + 32 * s + 2 + p) = thgF (H 54) s p := fun _ => rfl
  intro f
  induction f with
  | zero =>
    intro p b w e hp hb hb1 hq
    refine st_iload_n rfl rfl ?_
    refine st_bipush rfl ?_
    refine st_icmp_ge rfl (fun h12 => ?_) (fun h12 => (by exfalso; omega))
    refine st_iconst rfl ?_
    refine st_iret rfl (fun z => by first | exact absurd z (by decide) | exact bi_01 _ | decide | omega) ?_
    exact hq
  | succ f ih =>
    intro p b w e hp hb hb1 hq
    have ht := hI.th h1 h2 hp (by omega)
    unfold ckL at hq
    refine st_iload_n rfl rfl ?_
    refine st_bipush rfl ?_
    refine st_icmp_ge rfl (fun h12 => (by exfalso; omega)) (fun h12 => ?_)
    refine st_aload_n rfl rfl (by decide) ?_
    refine st_getR (kk := 0) rfl rfl rfl (pz_53_0 hP) rfl ?_
    refine st_aload_n rfl rfl (by decide) ?_
    refine st_iload_n rfl rfl ?_
    refine st_iload_n rfl rfl ?_
    refine st_cv1 (w := [_]) rfl rfl rfl (Nat.le_of_ble_eq_true rfl) (Nat.le_of_ble_eq_true rfl) rfl rfl (r_Model_placeOf (by omega) (by omega) (by omega) (by omega)) ?_
    refine st_iaload rfl rfl (by omega) (by omega) ?_
    rw [e0]
    refine st_istore (ls' := [_, _, _, _, _]) rfl (Nat.le_of_ble_eq_true rfl) rfl ?_
    refine st_iload rfl rfl ?_
    refine st_if_ge rfl (fun h22 => ?_) (fun h22 => ?_)
    · have hmk := hI.mk ht (by omega)
      have hmv := hI.mv hmk.1 hmk.2
      have hmd := ht.mod (by omega) (by omega)
      rw [if_neg (by omega)] at hq
      refine st_iload_n rfl rfl ?_
      refine st_if_lt rfl (fun h25 => ?_) (fun h25 => ?_)
      · refine st_aload_n rfl rfl (by decide) ?_
        refine st_iload rfl rfl ?_
        refine st_cv1 (w := []) rfl rfl rfl (Nat.le_of_ble_eq_true rfl) (Nat.le_of_ble_eq_true rfl) rfl rfl (r_Model_markOf hP (by omega) (by omega)) ?_
        refine st_istore_n (ls' := [_, _, _, _, _]) rfl (Nat.le_of_ble_eq_true rfl) rfl ?_
        refine st_iinc (ls' := [_, _, _, _, _]) rfl rfl (by omega) rfl ?_
        refine st_goto rfl ?_
        first
        | (rw [if_pos (by omega)] at hq; exact ih (p + 1) b _ (by omega) (by omega) hb hb1 hq)
        | (rw [if_neg (by omega)] at hq; exact ih (p + 1) _ _ (by omega) (by omega) (fun _ => hmv) (by omega) hq)
      · have hbv := hb (by omega)
        refine st_aload_n rfl rfl (by decide) ?_
        refine st_aload_n rfl rfl (by decide) ?_
        refine st_iload rfl rfl ?_
        refine st_cv1 (w := [_]) rfl rfl rfl (Nat.le_of_ble_eq_true rfl) (Nat.le_of_ble_eq_true rfl) rfl rfl (r_Model_markOf hP (by omega) (by omega)) ?_
        refine st_iload_n rfl rfl ?_
        refine st_cv1 (w := []) rfl rfl rfl (Nat.le_of_ble_eq_true rfl) (Nat.le_of_ble_eq_true rfl) rfl rfl (r_Model_compared hP (by assumption) (by assumption)) ?_
        refine st_if_ge rfl (fun h32 => ?_) (fun h32 => ?_)
        · refine st_aload_n rfl rfl (by decide) ?_
          refine st_iload rfl rfl ?_
          refine st_cv1 (w := []) rfl rfl rfl (Nat.le_of_ble_eq_true rfl) (Nat.le_of_ble_eq_true rfl) rfl rfl (r_Model_markOf hP (by omega) (by omega)) ?_
          refine st_istore_n (ls' := [_, _, _, _, _]) rfl (Nat.le_of_ble_eq_true rfl) rfl ?_
          refine st_iinc (ls' := [_, _, _, _, _]) rfl rfl (by omega) rfl ?_
          refine st_goto rfl ?_
          first
          | (rw [if_pos (by omega)] at hq; exact ih (p + 1) b _ (by omega) (by omega) hb hb1 hq)
          | (rw [if_neg (by omega)] at hq; exact ih (p + 1) _ _ (by omega) (by omega) (fun _ => hmv) (by omega) hq)
        · refine st_iload_n rfl rfl ?_
          refine st_iret rfl (fun z => by first | exact absurd z (by decide) | exact bi_01 _ | decide | omega) ?_
          rw [if_pos (by omega)] at hq; exact hq
    · refine st_goto rfl ?_
      refine st_iinc (ls' := [_, _, _, _, _]) rfl rfl (by omega) rfl ?_
      refine st_goto rfl ?_
      first
      | (rw [if_pos (by omega)] at hq; exact ih (p + 1) b _ (by omega) (by omega) hb hb1 hq)
      | (rw [if_neg (by omega)] at hq; exact ih (p + 1) _ _ (by omega) (by omega) (fun _ => hmv) (by omega) hq)
theorem r_Model_check {d N : Nat} {P : am_P} {H : am_H} {s : Int} (hP : PZ P) (hI : Inv (H 54)) : am_R (d + 5) 120 [am_r 53, am_i (s)] (N, P, H) (some (am_i (if 0 ≤ s ∧ s < H 54 2 then ckL (H 54) s 30 0 (-1) else -2))) (N, P, H) := by
  refine am_en1 (d := d + 4) (ml := 5) (ls := [_, _, _, _, _]) cq_Model_check rfl (Nat.le_of_ble_eq_true rfl) rfl ?_
  have hn := hI.n
  refine st_aload_n rfl rfl (by decide) ?_
  refine st_iload_n rfl rfl ?_
  refine st_cv1 (w := []) rfl rfl rfl (Nat.le_of_ble_eq_true rfl) (Nat.le_of_ble_eq_true rfl) rfl rfl (r_Model_isShelf hP) ?_
  refine st_if_ne_b rfl (fun h3 => ?_) (fun h3 => ?_)
  · refine st_iconst rfl ?_
    refine st_istore_n (ls' := [_, _, _, _, _]) rfl (Nat.le_of_ble_eq_true rfl) rfl ?_
    refine st_iconst rfl ?_
    refine st_istore_n (ls' := [_, _, _, _, _]) rfl (Nat.le_of_ble_eq_true rfl) rfl ?_
    exact l_check hP hI h3.1 h3.2 30 0 (-1) _ (by omega) (by omega) (fun z => by omega) (by omega) ⟨am_ri (by rw [if_pos h3]), rfl⟩
  · refine st_bipush rfl ?_
    refine st_iret rfl (fun z => by first | exact absurd z (by decide) | exact bi_01 _ | decide | omega) ?_
    exact ⟨am_ri (by rw [if_neg h3]), rfl⟩
abbrev isS (a : Int → Int) (s w m : Int) : Prop := (w = 0 ∧ a (8782 + m) = s ∧ ofF a s m = 0) ∨ (w = 1 ∧ 1 < ofF a s m) ∨ (w = 2 ∧ a (8782 + m) = s ∧ a (9182 + m) = 1)
def fdL (a : Int → Int) (s w : Int) : Nat → Int → Int → Int
  | 0, _, _ => -1
  | f + 1, m, k => if isS a s w m then (if k = 0 then m else fdL a s w f (m + 1) (k - 1)) else fdL a s w f (m + 1) k

theorem l_found {d N : Nat} {P : am_P} {H : am_H} {s w k : Int} {Q : Option am_V → am_S → Prop} (hP : PZ P) (hI : Inv (H 54)) (h1 : 0 ≤ s) (h2 : s < H 54 2) (hw : 0 ≤ w ∧ w < 3) (hk : 0 ≤ k) : ∀ (f : Nat) (m l : Int) (w1 w2 w3 : Option am_V), m + f = H 54 1 → 0 ≤ m → 0 ≤ l → l ≤ 2147483647 → Q (some (am_i (fdL (H 54) s w f m l))) (N, P, H) → am_WP (am_R (d + 2)) cd_Model_found Q 23 [some (am_r 53), some (am_i s), some (am_i w), some (am_i k), some (am_i l), some (am_i m), w1, w2, w3] [] (N, P, H) := by
  have hn := hI.n
  have hl := hI.l.2 s h1 (by omega)
  intro f
  induction f with
  | zero =>
    intro m l w1 w2 w3 e hm hl0 hl1 hq
    refine st_iload rfl rfl ?_
    refine st_aload_n rfl rfl (by decide) ?_
    refine st_getR (kk := 0) rfl rfl rfl (pz_53_0 hP) rfl ?_
    refine st_iconst rfl ?_
    refine st_iaload rfl rfl (by omega) (by omega) ?_
    refine st_icmp_ge rfl (fun h28 => ?_) (fun h28 => (by exfalso; omega))
    refine st_iconst rfl ?_
    refine st_iret rfl (fun z => by first | exact absurd z (by decide) | exact bi_01 _ | decide | omega) ?_
    exact hq
  | succ f ih =>
    intro m l w1 w2 w3 e hm hl0 hl1 hq
    unfold fdL at hq
    refine st_iload rfl rfl ?_
    refine st_aload_n rfl rfl (by decide) ?_
    refine st_getR (kk := 0) rfl rfl rfl (pz_53_0 hP) rfl ?_
    refine st_iconst rfl ?_
    refine st_iaload rfl rfl (by omega) (by omega) ?_
    refine st_icmp_ge rfl (fun h28 => (by exfalso; omega)) (fun h28 => ?_)
    refine st_iload_n rfl rfl ?_
    refine st_if_lt rfl (fun h30 => (by exfalso; omega)) (fun h30 => ?_)
    refine st_aload_n rfl rfl (by decide) ?_
    refine st_getR (kk := 0) rfl rfl rfl (pz_53_0 hP) rfl ?_
    refine st_sipush rfl ?_
    refine st_iload rfl rfl ?_
    refine st_iadd rfl (by omega) ?_
    refine st_iaload rfl rfl (by omega) (by omega) ?_
    refine st_iload_n rfl rfl ?_
    refine st_icmp_ne rfl (fun h38 => ?_) (fun h38 => ?_)
    · refine st_iconst rfl ?_
      refine st_istore (ls' := [_, _, _, _, _, _, _, _, _]) rfl (Nat.le_of_ble_eq_true rfl) rfl ?_
      refine st_aload_n rfl rfl (by decide) ?_
      refine st_iload_n rfl rfl ?_
      refine st_iload rfl rfl ?_
      refine st_cv1 (w := []) rfl rfl rfl (Nat.le_of_ble_eq_true rfl) (Nat.le_of_ble_eq_true rfl) rfl rfl (r_Model_often hP (by omega) (by omega) (by omega) (by omega)) ?_
      refine st_istore (ls' := [_, _, _, _, _, _, _, _, _]) rfl (Nat.le_of_ble_eq_true rfl) rfl ?_
      refine st_iload_n rfl rfl ?_
      refine st_if_ne rfl (fun h49 => ?_) (fun h49 => ?_)
      · refine st_iload_n rfl rfl ?_
        refine st_iconst rfl ?_
        refine st_icmp_ne rfl (fun h60 => ?_) (fun h60 => ?_)
        · refine st_iload rfl rfl ?_
          refine st_if_eq rfl (fun h69 => ?_) (fun h69 => (by exfalso; omega))
          refine st_iconst rfl ?_
          refine st_istore (ls' := [_, _, _, _, _, _, _, _, _]) rfl (Nat.le_of_ble_eq_true rfl) rfl ?_
          refine st_iload rfl rfl ?_
          refine st_if_eq rfl (fun h83 => ?_) (fun h83 => (by exfalso; omega))
          refine st_iload rfl rfl ?_
          refine st_iload rfl rfl ?_
          refine st_if_eq rfl (fun h90 => ?_) (fun h90 => (by exfalso; omega))
          refine st_iconst rfl ?_
          refine st_isub rfl (by omega) ?_
          refine st_istore (ls' := [_, _, _, _, _, _, _, _, _]) rfl (Nat.le_of_ble_eq_true rfl) rfl ?_
          refine st_iinc (ls' := [_, _, _, _, _, _, _, _, _]) rfl rfl (by omega) rfl ?_
          refine st_goto rfl ?_
          first
          | (rw [if_neg (by omega)] at hq; exact ih (m + 1) (l - 0) _ _ _ (by omega) (by omega) (by omega) (by omega) (by rw [Int.sub_zero]; exact hq))
          | (rw [if_pos (by omega), if_neg (by omega)] at hq; exact ih (m + 1) (l - 1) _ _ _ (by omega) (by omega) (by omega) (by omega) hq)
        · refine st_iload rfl rfl ?_
          refine st_iconst rfl ?_
          refine st_icmp_le rfl (fun h63 => ?_) (fun h63 => ?_)
          · refine st_iconst rfl ?_
            refine st_goto rfl ?_
            refine st_istore (ls' := [_, _, _, _, _, _, _, _, _]) rfl (Nat.le_of_ble_eq_true rfl) rfl ?_
            refine st_iload rfl rfl ?_
            refine st_if_eq rfl (fun h83 => ?_) (fun h83 => (by exfalso; omega))
            refine st_iload rfl rfl ?_
            refine st_iload rfl rfl ?_
            refine st_if_eq rfl (fun h90 => ?_) (fun h90 => (by exfalso; omega))
            refine st_iconst rfl ?_
            refine st_isub rfl (by omega) ?_
            refine st_istore (ls' := [_, _, _, _, _, _, _, _, _]) rfl (Nat.le_of_ble_eq_true rfl) rfl ?_
            refine st_iinc (ls' := [_, _, _, _, _, _, _, _, _]) rfl rfl (by omega) rfl ?_
            refine st_goto rfl ?_
            first
            | (rw [if_neg (by omega)] at hq; exact ih (m + 1) (l - 0) _ _ _ (by omega) (by omega) (by omega) (by omega) (by rw [Int.sub_zero]; exact hq))
            | (rw [if_pos (by omega), if_neg (by omega)] at hq; exact ih (m + 1) (l - 1) _ _ _ (by omega) (by omega) (by omega) (by omega) hq)
          · refine st_iconst rfl ?_
            refine st_goto rfl ?_
            refine st_istore (ls' := [_, _, _, _, _, _, _, _, _]) rfl (Nat.le_of_ble_eq_true rfl) rfl ?_
            refine st_iload rfl rfl ?_
            refine st_if_eq rfl (fun h83 => (by exfalso; omega)) (fun h83 => ?_)
            refine st_iload rfl rfl ?_
            refine st_if_ne rfl (fun h85 => ?_) (fun h85 => ?_)
            · refine st_iload rfl rfl ?_
              refine st_iload rfl rfl ?_
              refine st_if_eq rfl (fun h90 => (by exfalso; omega)) (fun h90 => ?_)
              refine st_iconst rfl ?_
              refine st_goto rfl ?_
              refine st_isub rfl (by omega) ?_
              refine st_istore (ls' := [_, _, _, _, _, _, _, _, _]) rfl (Nat.le_of_ble_eq_true rfl) rfl ?_
              refine st_iinc (ls' := [_, _, _, _, _, _, _, _, _]) rfl rfl (by omega) rfl ?_
              refine st_goto rfl ?_
              first
              | (rw [if_neg (by omega)] at hq; exact ih (m + 1) (l - 0) _ _ _ (by omega) (by omega) (by omega) (by omega) (by rw [Int.sub_zero]; exact hq))
              | (rw [if_pos (by omega), if_neg (by omega)] at hq; exact ih (m + 1) (l - 1) _ _ _ (by omega) (by omega) (by omega) (by omega) hq)
            · refine st_iload rfl rfl ?_
              refine st_iret rfl (fun z => by first | exact absurd z (by decide) | exact bi_01 _ | decide | omega) ?_
              rw [if_pos (by omega), if_pos (by omega)] at hq; exact hq
      · refine st_iload rfl rfl ?_
        refine st_if_eq rfl (fun h51 => ?_) (fun h51 => (by exfalso; omega))
        refine st_iconst rfl ?_
        refine st_goto rfl ?_
        refine st_istore (ls' := [_, _, _, _, _, _, _, _, _]) rfl (Nat.le_of_ble_eq_true rfl) rfl ?_
        refine st_iload rfl rfl ?_
        refine st_if_eq rfl (fun h83 => ?_) (fun h83 => (by exfalso; omega))
        refine st_iload rfl rfl ?_
        refine st_iload rfl rfl ?_
        refine st_if_eq rfl (fun h90 => ?_) (fun h90 => (by exfalso; omega))
        refine st_iconst rfl ?_
        refine st_isub rfl (by omega) ?_
        refine st_istore (ls' := [_, _, _, _, _, _, _, _, _]) rfl (Nat.le_of_ble_eq_true rfl) rfl ?_
        refine st_iinc (ls' := [_, _, _, _, _, _, _, _, _]) rfl rfl (by omega) rfl ?_
        refine st_goto rfl ?_
        first
        | (rw [if_neg (by omega)] at hq; exact ih (m + 1) (l - 0) _ _ _ (by omega) (by omega) (by omega) (by omega) (by rw [Int.sub_zero]; exact hq))
        | (rw [if_pos (by omega), if_neg (by omega)] at hq; exact ih (m + 1) (l - 1) _ _ _ (by omega) (by omega) (by omega) (by omega) hq)
    · refine st_iconst rfl ?_
      refine st_goto rfl ?_
      refine st_istore (ls' := [_, _, _, _, _, _, _, _, _]) rfl (Nat.le_of_ble_eq_true rfl) rfl ?_
      refine st_aload_n rfl rfl (by decide) ?_
      refine st_iload_n rfl rfl ?_
      refine st_iload rfl rfl ?_
      refine st_cv1 (w := []) rfl rfl rfl (Nat.le_of_ble_eq_true rfl) (Nat.le_of_ble_eq_true rfl) rfl rfl (r_Model_often hP (by omega) (by omega) (by omega) (by omega)) ?_
      refine st_istore (ls' := [_, _, _, _, _, _, _, _, _]) rfl (Nat.le_of_ble_eq_true rfl) rfl ?_
      refine st_iload_n rfl rfl ?_
      refine st_if_ne rfl (fun h49 => ?_) (fun h49 => ?_)
      · refine st_iload_n rfl rfl ?_
        refine st_iconst rfl ?_
        refine st_icmp_ne rfl (fun h60 => ?_) (fun h60 => ?_)
        · refine st_iload rfl rfl ?_
          refine st_if_eq rfl (fun h69 => (by exfalso; omega)) (fun h69 => ?_)
          refine st_aload_n rfl rfl (by decide) ?_
          refine st_getR (kk := 0) rfl rfl rfl (pz_53_0 hP) rfl ?_
          refine st_sipush rfl ?_
          refine st_iload rfl rfl ?_
          refine st_iadd rfl (by omega) ?_
          refine st_iaload rfl rfl (by omega) (by omega) ?_
          refine st_iconst rfl ?_
          refine st_icmp_ne rfl (fun h77 => ?_) (fun h77 => ?_)
          · refine st_iconst rfl ?_
            refine st_istore (ls' := [_, _, _, _, _, _, _, _, _]) rfl (Nat.le_of_ble_eq_true rfl) rfl ?_
            refine st_iload rfl rfl ?_
            refine st_if_eq rfl (fun h83 => ?_) (fun h83 => (by exfalso; omega))
            refine st_iload rfl rfl ?_
            refine st_iload rfl rfl ?_
            refine st_if_eq rfl (fun h90 => ?_) (fun h90 => (by exfalso; omega))
            refine st_iconst rfl ?_
            refine st_isub rfl (by omega) ?_
            refine st_istore (ls' := [_, _, _, _, _, _, _, _, _]) rfl (Nat.le_of_ble_eq_true rfl) rfl ?_
            refine st_iinc (ls' := [_, _, _, _, _, _, _, _, _]) rfl rfl (by omega) rfl ?_
            refine st_goto rfl ?_
            first
            | (rw [if_neg (by omega)] at hq; exact ih (m + 1) (l - 0) _ _ _ (by omega) (by omega) (by omega) (by omega) (by rw [Int.sub_zero]; exact hq))
            | (rw [if_pos (by omega), if_neg (by omega)] at hq; exact ih (m + 1) (l - 1) _ _ _ (by omega) (by omega) (by omega) (by omega) hq)
          · refine st_iconst rfl ?_
            refine st_goto rfl ?_
            refine st_istore (ls' := [_, _, _, _, _, _, _, _, _]) rfl (Nat.le_of_ble_eq_true rfl) rfl ?_
            refine st_iload rfl rfl ?_
            refine st_if_eq rfl (fun h83 => (by exfalso; omega)) (fun h83 => ?_)
            refine st_iload rfl rfl ?_
            refine st_if_ne rfl (fun h85 => ?_) (fun h85 => ?_)
            · refine st_iload rfl rfl ?_
              refine st_iload rfl rfl ?_
              refine st_if_eq rfl (fun h90 => (by exfalso; omega)) (fun h90 => ?_)
              refine st_iconst rfl ?_
              refine st_goto rfl ?_
              refine st_isub rfl (by omega) ?_
              refine st_istore (ls' := [_, _, _, _, _, _, _, _, _]) rfl (Nat.le_of_ble_eq_true rfl) rfl ?_
              refine st_iinc (ls' := [_, _, _, _, _, _, _, _, _]) rfl rfl (by omega) rfl ?_
              refine st_goto rfl ?_
              first
              | (rw [if_neg (by omega)] at hq; exact ih (m + 1) (l - 0) _ _ _ (by omega) (by omega) (by omega) (by omega) (by rw [Int.sub_zero]; exact hq))
              | (rw [if_pos (by omega), if_neg (by omega)] at hq; exact ih (m + 1) (l - 1) _ _ _ (by omega) (by omega) (by omega) (by omega) hq)
            · refine st_iload rfl rfl ?_
              refine st_iret rfl (fun z => by first | exact absurd z (by decide) | exact bi_01 _ | decide | omega) ?_
              rw [if_pos (by omega), if_pos (by omega)] at hq; exact hq
        · refine st_iload rfl rfl ?_
          refine st_iconst rfl ?_
          refine st_icmp_le rfl (fun h63 => ?_) (fun h63 => ?_)
          · refine st_iconst rfl ?_
            refine st_goto rfl ?_
            refine st_istore (ls' := [_, _, _, _, _, _, _, _, _]) rfl (Nat.le_of_ble_eq_true rfl) rfl ?_
            refine st_iload rfl rfl ?_
            refine st_if_eq rfl (fun h83 => ?_) (fun h83 => (by exfalso; omega))
            refine st_iload rfl rfl ?_
            refine st_iload rfl rfl ?_
            refine st_if_eq rfl (fun h90 => ?_) (fun h90 => (by exfalso; omega))
            refine st_iconst rfl ?_
            refine st_isub rfl (by omega) ?_
            refine st_istore (ls' := [_, _, _, _, _, _, _, _, _]) rfl (Nat.le_of_ble_eq_true rfl) rfl ?_
            refine st_iinc (ls' := [_, _, _, _, _, _, _, _, _]) rfl rfl (by omega) rfl ?_
            refine st_goto rfl ?_
            first
            | (rw [if_neg (by omega)] at hq; exact ih (m + 1) (l - 0) _ _ _ (by omega) (by omega) (by omega) (by omega) (by rw [Int.sub_zero]; exact hq))
            | (rw [if_pos (by omega), if_neg (by omega)] at hq; exact ih (m + 1) (l - 1) _ _ _ (by omega) (by omega) (by omega) (by omega) hq)
          · refine st_iconst rfl ?_
            refine st_goto rfl ?_
            refine st_istore (ls' := [_, _, _, _, _, _, _, _, _]) rfl (Nat.le_of_ble_eq_true rfl) rfl ?_
            refine st_iload rfl rfl ?_
            refine st_if_eq rfl (fun h83 => (by exfalso; omega)) (fun h83 => ?_)
            refine st_iload rfl rfl ?_
            refine st_if_ne rfl (fun h85 => ?_) (fun h85 => ?_)
            · refine st_iload rfl rfl ?_
              refine st_iload rfl rfl ?_
              refine st_if_eq rfl (fun h90 => (by exfalso; omega)) (fun h90 => ?_)
              refine st_iconst rfl ?_
              refine st_goto rfl ?_
              refine st_isub rfl (by omega) ?_
              refine st_istore (ls' := [_, _, _, _, _, _, _, _, _]) rfl (Nat.le_of_ble_eq_true rfl) rfl ?_
              refine st_iinc (ls' := [_, _, _, _, _, _, _, _, _]) rfl rfl (by omega) rfl ?_
              refine st_goto rfl ?_
              first
              | (rw [if_neg (by omega)] at hq; exact ih (m + 1) (l - 0) _ _ _ (by omega) (by omega) (by omega) (by omega) (by rw [Int.sub_zero]; exact hq))
              | (rw [if_pos (by omega), if_neg (by omega)] at hq; exact ih (m + 1) (l - 1) _ _ _ (by omega) (by omega) (by omega) (by omega) hq)
            · refine st_iload rfl rfl ?_
              refine st_iret rfl (fun z => by first | exact absurd z (by decide) | exact bi_01 _ | decide | omega) ?_
              rw [if_pos (by omega), if_pos (by omega)] at hq; exact hq
      · refine st_iload rfl rfl ?_
        refine st_if_eq rfl (fun h51 => (by exfalso; omega)) (fun h51 => ?_)
        refine st_iload rfl rfl ?_
        refine st_if_ne rfl (fun h53 => ?_) (fun h53 => ?_)
        · refine st_iconst rfl ?_
          refine st_goto rfl ?_
          refine st_istore (ls' := [_, _, _, _, _, _, _, _, _]) rfl (Nat.le_of_ble_eq_true rfl) rfl ?_
          refine st_iload rfl rfl ?_
          refine st_if_eq rfl (fun h83 => ?_) (fun h83 => (by exfalso; omega))
          refine st_iload rfl rfl ?_
          refine st_iload rfl rfl ?_
          refine st_if_eq rfl (fun h90 => ?_) (fun h90 => (by exfalso; omega))
          refine st_iconst rfl ?_
          refine st_isub rfl (by omega) ?_
          refine st_istore (ls' := [_, _, _, _, _, _, _, _, _]) rfl (Nat.le_of_ble_eq_true rfl) rfl ?_
          refine st_iinc (ls' := [_, _, _, _, _, _, _, _, _]) rfl rfl (by omega) rfl ?_
          refine st_goto rfl ?_
          first
          | (rw [if_neg (by omega)] at hq; exact ih (m + 1) (l - 0) _ _ _ (by omega) (by omega) (by omega) (by omega) (by rw [Int.sub_zero]; exact hq))
          | (rw [if_pos (by omega), if_neg (by omega)] at hq; exact ih (m + 1) (l - 1) _ _ _ (by omega) (by omega) (by omega) (by omega) hq)
        · refine st_iconst rfl ?_
          refine st_goto rfl ?_
          refine st_istore (ls' := [_, _, _, _, _, _, _, _, _]) rfl (Nat.le_of_ble_eq_true rfl) rfl ?_
          refine st_iload rfl rfl ?_
          refine st_if_eq rfl (fun h83 => (by exfalso; omega)) (fun h83 => ?_)
          refine st_iload rfl rfl ?_
          refine st_if_ne rfl (fun h85 => ?_) (fun h85 => ?_)
          · refine st_iload rfl rfl ?_
            refine st_iload rfl rfl ?_
            refine st_if_eq rfl (fun h90 => (by exfalso; omega)) (fun h90 => ?_)
            refine st_iconst rfl ?_
            refine st_goto rfl ?_
            refine st_isub rfl (by omega) ?_
            refine st_istore (ls' := [_, _, _, _, _, _, _, _, _]) rfl (Nat.le_of_ble_eq_true rfl) rfl ?_
            refine st_iinc (ls' := [_, _, _, _, _, _, _, _, _]) rfl rfl (by omega) rfl ?_
            refine st_goto rfl ?_
            first
            | (rw [if_neg (by omega)] at hq; exact ih (m + 1) (l - 0) _ _ _ (by omega) (by omega) (by omega) (by omega) (by rw [Int.sub_zero]; exact hq))
            | (rw [if_pos (by omega), if_neg (by omega)] at hq; exact ih (m + 1) (l - 1) _ _ _ (by omega) (by omega) (by omega) (by omega) hq)
          · refine st_iload rfl rfl ?_
            refine st_iret rfl (fun z => by first | exact absurd z (by decide) | exact bi_01 _ | decide | omega) ?_
            rw [if_pos (by omega), if_pos (by omega)] at hq; exact hq
def fdF (a : Int → Int) (s w k : Int) : Int := if (0 ≤ s ∧ s < a 2) ∧ a (9382 + 62 * s) ≠ 0 ∧ (0 ≤ w ∧ w < 3) ∧ 0 ≤ k then fdL a s w (a 1).toNat 0 k else -1
theorem r_Model_found {d N : Nat} {P : am_P} {H : am_H} {s w k : Int} (hP : PZ P) (hI : Inv (H 54)) (hk : k ≤ 2147483647) : am_R (d + 3) 119 [am_r 53, am_i (s), am_i (w), am_i (k)] (N, P, H) (some (am_i (fdF (H 54) s w k))) (N, P, H) := by
  refine am_en1 (d := d + 2) (ml := 9) (ls := [_, _, _, _, _, _, _, _, _]) cq_Model_found rfl (Nat.le_of_ble_eq_true rfl) rfl ?_
  have hn := hI.n
  refine st_aload_n rfl rfl (by decide) ?_
  refine st_iload_n rfl rfl ?_
  refine st_cv1 (w := []) rfl rfl rfl (Nat.le_of_ble_eq_true rfl) (Nat.le_of_ble_eq_true rfl) rfl rfl (r_Model_isShelf hP) ?_
  refine st_if_eq_b rfl (fun h3 => ?_) (fun h3 => ?_)
  · refine st_iconst rfl ?_
    refine st_iret rfl (fun z => by first | exact absurd z (by decide) | exact bi_01 _ | decide | omega) ?_
    exact ⟨am_ri (by unfold fdF; rw [if_neg (by omega)]), rfl⟩
  · refine st_aload_n rfl rfl (by decide) ?_
    refine st_getR (kk := 0) rfl rfl rfl (pz_53_0 hP) rfl ?_
    refine st_sipush rfl ?_
    refine st_bipush rfl ?_
    refine st_iload_n rfl rfl ?_
    refine st_imul rfl (by omega) ?_
    refine st_iadd rfl (by omega) ?_
    refine st_iaload rfl rfl (by omega) (by omega) ?_
    refine st_if_eq rfl (fun h12 => ?_) (fun h12 => ?_)
    · refine st_iconst rfl ?_
      refine st_iret rfl (fun z => by first | exact absurd z (by decide) | exact bi_01 _ | decide | omega) ?_
      exact ⟨am_ri (by unfold fdF; rw [if_neg (by omega)]), rfl⟩
    · refine st_iload_n rfl rfl ?_
      refine st_iconst rfl ?_
      refine st_cs1 (w := []) rfl (by decide) (by decide) (by decide) (Nat.le_of_ble_eq_true rfl) (Nat.le_of_ble_eq_true rfl) rfl rfl (r_Model_isIn) ?_
      refine st_if_ne_b rfl (fun h16 => ?_) (fun h16 => ?_)
      · refine st_iload_n rfl rfl ?_
        refine st_istore (ls' := [_, _, _, _, _, _, _, _, _]) rfl (Nat.le_of_ble_eq_true rfl) rfl ?_
        refine st_iconst rfl ?_
        refine st_istore (ls' := [_, _, _, _, _, _, _, _, _]) rfl (Nat.le_of_ble_eq_true rfl) rfl ?_
        by_cases hk0 : 0 ≤ k
        · exact l_found hP hI h3.1 h3.2 h16 hk0 (H 54 1).toNat 0 k _ _ _ (by omega) (by omega) hk0 hk ⟨am_ri (by unfold fdF; rw [if_pos (by omega)]), rfl⟩
        · refine st_iload rfl rfl ?_
          refine st_aload_n rfl rfl (by decide) ?_
          refine st_getR (kk := 0) rfl rfl rfl (pz_53_0 hP) rfl ?_
          refine st_iconst rfl ?_
          refine st_iaload rfl rfl (by omega) (by omega) ?_
          refine st_icmp_ge rfl (fun h28 => ?_) (fun h28 => ?_)
          · refine st_iconst rfl ?_
            refine st_iret rfl (fun z => by first | exact absurd z (by decide) | exact bi_01 _ | decide | omega) ?_
            exact ⟨am_ri (by unfold fdF; rw [if_neg (by omega)]), rfl⟩
          · refine st_iload_n rfl rfl ?_
            refine st_if_lt rfl (fun h30 => ?_) (fun h30 => (by exfalso; omega))
            refine st_iconst rfl ?_
            refine st_iret rfl (fun z => by first | exact absurd z (by decide) | exact bi_01 _ | decide | omega) ?_
            exact ⟨am_ri (by unfold fdF; rw [if_neg (by omega)]), rfl⟩
      · refine st_iconst rfl ?_
        refine st_iret rfl (fun z => by first | exact absurd z (by decide) | exact bi_01 _ | decide | omega) ?_
        exact ⟨am_ri (by unfold fdF; rw [if_neg (by omega)]), rfl⟩
def flS (a : Int → Int) (y : Int) : Nat → Int → Int
  | 0, _ => -1
  | f + 1, s => if riF a s y < 0 then 100 * y + s else flS a y f (s + 1)
def flY (a : Int → Int) : Nat → Int → Int
  | 0, _ => -1
  | f + 1, y => if 0 ≤ flS a y (a 2).toNat 0 then flS a y (a 2).toNat 0 else flY a f (y + 1)
theorem flS_r (a : Int → Int) {y : Int} (hy : 0 ≤ y) : ∀ (f : Nat) (s : Int), 0 ≤ s → -1 ≤ flS a y f s
  | 0, _, _ => by simp only [flS]; omega
  | f + 1, s, hs => by
    have ih := flS_r a hy f (s + 1) (by omega)
    simp only [flS]
    split <;> omega

theorem l1_full {d N : Nat} {P : am_P} {H : am_H} {y : Int} {Q : Option am_V → am_S → Prop} (hP : PZ P) (hI : Inv (H 54)) (h1 : 0 ≤ y) (h2 : y ≤ 60) (hx : flS (H 54) y (H 54 2).toNat 0 = -1 → ∀ w, am_WP (am_R (d + 5)) cd_Model_full Q 26 [some (am_r 53), some (am_i y), w] [] (N, P, H)) (hq : 0 ≤ flS (H 54) y (H 54 2).toNat 0 → Q (some (am_i (flS (H 54) y (H 54 2).toNat 0))) (N, P, H)) : ∀ (f : Nat) (s : Int), s + f = H 54 2 → 0 ≤ s → flS (H 54) y (H 54 2).toNat 0 = flS (H 54) y f s → am_WP (am_R (d + 5)) cd_Model_full Q 7 [some (am_r 53), some (am_i y), some (am_i s)] [] (N, P, H) := by
  have hn := hI.n
  intro f
  induction f with
  | zero =>
    intro s e hs he
    refine st_iload_n rfl rfl ?_
    refine st_aload_n rfl rfl (by decide) ?_
    refine st_getR (kk := 0) rfl rfl rfl (pz_53_0 hP) rfl ?_
    refine st_iconst rfl ?_
    refine st_iaload rfl rfl (by omega) (by omega) ?_
    refine st_icmp_ge rfl (fun h12 => ?_) (fun h12 => (by exfalso; omega))
    exact hx he _
  | succ f ih =>
    intro s e hs he
    rw [show flS (H 54) y (f + 1) s = if riF (H 54) s y < 0 then 100 * y + s else flS (H 54) y f (s + 1) from rfl] at he
    refine st_iload_n rfl rfl ?_
    refine st_aload_n rfl rfl (by decide) ?_
    refine st_getR (kk := 0) rfl rfl rfl (pz_53_0 hP) rfl ?_
    refine st_iconst rfl ?_
    refine st_iaload rfl rfl (by omega) (by omega) ?_
    refine st_icmp_ge rfl (fun h12 => (by exfalso; omega)) (fun h12 => ?_)
    refine st_aload_n rfl rfl (by decide) ?_
    refine st_iload_n rfl rfl ?_
    refine st_iload_n rfl rfl ?_
    refine st_cv1 (w := []) rfl rfl rfl (Nat.le_of_ble_eq_true rfl) (Nat.le_of_ble_eq_true rfl) rfl rfl (r_Model_roomIn hP hI (by omega) (by omega) (by omega) (by omega)) ?_
    refine st_if_ge rfl (fun h17 => ?_) (fun h17 => ?_)
    · refine st_iinc (ls' := [_, _, _]) rfl rfl (by omega) rfl ?_
      refine st_goto rfl ?_
      rw [if_neg (by omega)] at he
      exact ih (s + 1) (by omega) (by omega) (by rw [he])
    · refine st_bipush rfl ?_
      refine st_iload_n rfl rfl ?_
      refine st_imul rfl (by omega) ?_
      refine st_iload_n rfl rfl ?_
      refine st_iadd rfl (by omega) ?_
      refine st_iret rfl (fun z => by first | exact absurd z (by decide) | exact bi_01 _ | decide | omega) ?_
      rw [if_pos (by omega)] at he
      rw [he] at hq
      exact hq (by omega)
theorem l2_full {d N : Nat} {P : am_P} {H : am_H} {Q : Option am_V → am_S → Prop} (hP : PZ P) (hI : Inv (H 54)) : ∀ (f : Nat) (y : Int) (w : Option am_V), y + f = 61 → 0 ≤ y → Q (some (am_i (flY (H 54) f y))) (N, P, H) → am_WP (am_R (d + 5)) cd_Model_full Q 2 [some (am_r 53), some (am_i y), w] [] (N, P, H) := by
  have hn := hI.n
  intro f
  induction f with
  | zero =>
    intro y w e hy hq
    refine st_iload_n rfl rfl ?_
    refine st_bipush rfl ?_
    refine st_icmp_gt rfl (fun h4 => ?_) (fun h4 => (by exfalso; omega))
    refine st_iconst rfl ?_
    refine st_iret rfl (fun z => by first | exact absurd z (by decide) | exact bi_01 _ | decide | omega) ?_
    exact hq
  | succ f ih =>
    intro y w e hy hq
    have hr := flS_r (H 54) hy (H 54 2).toNat 0 (by omega)
    unfold flY at hq
    refine st_iload_n rfl rfl ?_
    refine st_bipush rfl ?_
    refine st_icmp_gt rfl (fun h4 => (by exfalso; omega)) (fun h4 => ?_)
    refine st_iconst rfl ?_
    refine st_istore_n (ls' := [_, _, _]) rfl (Nat.le_of_ble_eq_true rfl) rfl ?_
    refine l1_full hP hI hy (by omega) (fun z w => ?_) (fun z => ?_) (H 54 2).toNat 0 (by omega) (by omega) rfl
    · rw [if_neg (by omega)] at hq
      refine st_iinc (ls' := [_, _, _]) rfl rfl (by omega) rfl ?_
      refine st_goto rfl ?_
      exact ih (y + 1) _ (by omega) (by omega) hq
    · rw [if_pos z] at hq; exact hq
theorem r_Model_full {d N : Nat} {P : am_P} {H : am_H}  (hP : PZ P) (hI : Inv (H 54)) : am_R (d + 6) 122 [am_r 53] (N, P, H) (some (am_i (flY (H 54) 61 0))) (N, P, H) := by
  refine am_en1 (d := d + 5) (ml := 3) (ls := [_, _, _]) cq_Model_full rfl (Nat.le_of_ble_eq_true rfl) rfl ?_
  have hn := hI.n
  refine st_iconst rfl ?_
  refine st_istore_n (ls' := [_, _, _]) rfl (Nat.le_of_ble_eq_true rfl) rfl ?_
  exact l2_full hP hI 61 0 _ (by omega) (by omega) ⟨rfl, rfl⟩
