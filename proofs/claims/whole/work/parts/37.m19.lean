/-! ===== the reference: the reading of texts ===== -/
/-- the byte at a place of the text -/
def hbF (H : am_H) (x : Int) : Int := if x < H 53 5 then H 56 x % 256 else -1
def pH (H : am_H) (p q : Int) (K V G C : Int → Int) : am_H := fun o => if o = 53 then am_uf (am_uf (H 53) 6 p) 7 q else if o = 57 then K else if o = 58 then V else if o = 59 then G else if o = 60 then C else H o
theorem pH_6 (H : am_H) (p q : Int) (K V G C : Int → Int) : pH H p q K V G C 53 6 = p := by show am_uf (am_uf (H 53) 6 p) 7 q 6 = p; rw [am_uf_ne _ _ (by omega), am_uf_eq]
theorem pH_7 (H : am_H) (p q : Int) (K V G C : Int → Int) : pH H p q K V G C 53 7 = q := by show am_uf (am_uf (H 53) 6 p) 7 q 7 = q; rw [am_uf_eq]
theorem pH_k (H : am_H) (p q : Int) (K V G C : Int → Int) {k : Int} (h6 : k ≠ 6) (h7 : k ≠ 7) : pH H p q K V G C 53 k = H 53 k := by show am_uf (am_uf (H 53) 6 p) 7 q k = _; rw [am_uf_ne _ _ h7, am_uf_ne _ _ h6]
theorem pH_h (H : am_H) (p q : Int) (K V G C : Int → Int) : hereF (pH H p q K V G C) = hbF H p := by
  unfold hereF hbF
  rw [pH_6, pH_k _ _ _ _ _ _ _ (by omega) (by omega), bt_and]
  rfl
theorem pH_u6 (H : am_H) (p q : Int) (K V G C : Int → Int) (x : Int) : am_up (pH H p q K V G C) 53 6 x = pH H x q K V G C := by
  funext o
  by_cases h : o = 53
  · subst h
    rw [am_up_eq]
    show am_uf (am_uf (am_uf (H 53) 6 p) 7 q) 6 x = am_uf (am_uf (H 53) 6 x) 7 q
    funext k
    unfold am_uf
    by_cases h6 : k = 6
    · rw [if_pos h6, if_neg (by omega), if_pos h6]
    · rw [if_neg h6, if_neg h6, if_neg h6]
  · rw [am_up_ne h]; unfold pH; rw [if_neg h, if_neg h]
theorem pH_u7 (H : am_H) (p q : Int) (K V G C : Int → Int) (x : Int) : am_up (pH H p q K V G C) 53 7 x = pH H p x K V G C := by
  funext o
  by_cases h : o = 53
  · subst h
    rw [am_up_eq]
    show am_uf (am_uf (am_uf (H 53) 6 p) 7 q) 7 x = am_uf (am_uf (H 53) 6 p) 7 x
    funext k
    unfold am_uf
    by_cases h7 : k = 7
    · rw [if_pos h7, if_pos h7]
    · rw [if_neg h7, if_neg h7, if_neg h7]
  · rw [am_up_ne h]; unfold pH; rw [if_neg h, if_neg h]
theorem pH_uK (H : am_H) (p q : Int) (K V G C : Int → Int) (i x : Int) : am_up (pH H p q K V G C) 57 i x = pH H p q (am_uf K i x) V G C := by
  funext o
  by_cases h : o = 57
  · subst h; rw [am_up_eq]; rfl
  · rw [am_up_ne h]; unfold pH; repeat' split
    all_goals first | rfl | (exfalso; omega)
theorem pH_uV (H : am_H) (p q : Int) (K V G C : Int → Int) (i x : Int) : am_up (pH H p q K V G C) 58 i x = pH H p q K (am_uf V i x) G C := by
  funext o
  by_cases h : o = 58
  · subst h; rw [am_up_eq]; rfl
  · rw [am_up_ne h]; unfold pH; repeat' split
    all_goals first | rfl | (exfalso; omega)
theorem pH_uG (H : am_H) (p q : Int) (K V G C : Int → Int) (i x : Int) : am_up (pH H p q K V G C) 59 i x = pH H p q K V (am_uf G i x) C := by
  funext o
  by_cases h : o = 59
  · subst h; rw [am_up_eq]; rfl
  · rw [am_up_ne h]; unfold pH; repeat' split
    all_goals first | rfl | (exfalso; omega)
theorem pH_uC (H : am_H) (p q : Int) (K V G C : Int → Int) (i x : Int) : am_up (pH H p q K V G C) 60 i x = pH H p q K V G (am_uf C i x) := by
  funext o
  by_cases h : o = 60
  · subst h; rw [am_up_eq]; rfl
  · rw [am_up_ne h]; unfold pH; repeat' split
    all_goals first | rfl | (exfalso; omega)
theorem uf_uf {α : Type} (f : Int → α) (k : Int) (x y : α) : am_uf (am_uf f k x) k y = am_uf f k y := by
  funext z; unfold am_uf; split <;> rfl
abbrev isD (x : Int) : Prop := 48 ≤ x ∧ x ≤ 57
abbrev isL (x : Int) : Prop := 65 ≤ x ∧ x ≤ 90
/-- digits read from p on: their number and how many -/
def dgF (h : Int → Int) (p : Int) : Nat → Int × Int
  | 0 => (0, 0)
  | j + 1 => if (dgF h p j).2 = (j : Int) ∧ isD (h (p + (j : Int))) then (10 * (dgF h p j).1 + h (p + (j : Int)) - 48, (j : Int) + 1) else dgF h p j
theorem dgF_r (h : Int → Int) (p : Int) : ∀ j : Nat, (0 ≤ (dgF h p j).2 ∧ (dgF h p j).2 ≤ (j : Int)) ∧ 0 ≤ (dgF h p j).1 ∧ (dgF h p j).1 < tnF (dgF h p j).2.toNat
  | 0 => by simp only [dgF]; decide
  | j + 1 => by
    have ih := dgF_r h p j
    simp only [dgF]
    split
    · rename_i q
      have q1 := q.1
      have q2 := q.2
      rw [q1, Int.toNat_natCast] at ih
      simp only []
      rw [show ((j : Int) + 1).toNat = j + 1 by omega]
      simp only [tnF]
      omega
    · omega
theorem dgF_s {h : Int → Int} {p : Int} {j : Nat} (hn : (dgF h p j).2 ≠ (j : Int) ∨ ¬ isD (h (p + (j : Int)))) : ∀ x : Nat, dgF h p (j + x) = dgF h p j
  | 0 => rfl
  | x + 1 => by
    have ih := dgF_s hn x
    rw [show j + (x + 1) = (j + x) + 1 from rfl]
    simp only [dgF]
    rw [ih, if_neg]
    rintro ⟨q1, q2⟩
    have hr := dgF_r h p j
    have : x = 0 := by omega
    subst this
    rw [Nat.add_zero] at q1 q2
    rcases hn with z | z
    · exact z q1
    · exact z q2

theorem r_Model_begins {d N : Nat} {P : am_P} {H : am_H} {p q : Int} {K V G C : Int → Int} {kd : Int} (hP : PZ P) (hq : 0 ≤ q ∧ q < 8) : am_R (d + 1) 52 [am_r 53, am_i (kd)] (N, P, pH H p q K V G C) none (N, P, pH H p q (am_uf K q kd) (am_uf V q 0) (am_uf G q 0) (am_uf C q 0)) := by
  refine am_en1 (d := d + 0) (ml := 2) (ls := [_, _]) cq_Model_begins rfl (Nat.le_of_ble_eq_true rfl) rfl ?_
  refine st_aload_n rfl rfl (by decide) ?_
  refine st_getR (kk := 8) rfl rfl rfl (pz_53_8 hP) rfl ?_
  refine st_aload_n rfl rfl (by decide) ?_
  refine st_getI (kk := 7) rfl rfl (by decide) rfl ?_
  rw [pH_7]
  refine st_iload_n rfl rfl ?_
  refine st_iastore rfl rfl (by omega) (by omega) ?_
  rw [pH_uK]
  refine st_aload_n rfl rfl (by decide) ?_
  refine st_getR (kk := 9) rfl rfl rfl (pz_53_9 hP) rfl ?_
  refine st_aload_n rfl rfl (by decide) ?_
  refine st_getI (kk := 7) rfl rfl (by decide) rfl ?_
  rw [pH_7]
  refine st_iconst rfl ?_
  refine st_iastore rfl rfl (by omega) (by omega) ?_
  rw [pH_uV]
  refine st_aload_n rfl rfl (by decide) ?_
  refine st_getR (kk := 10) rfl rfl rfl (pz_53_10 hP) rfl ?_
  refine st_aload_n rfl rfl (by decide) ?_
  refine st_getI (kk := 7) rfl rfl (by decide) rfl ?_
  rw [pH_7]
  refine st_iconst rfl ?_
  refine st_iastore rfl rfl (by omega) (by omega) ?_
  rw [pH_uG]
  refine st_aload_n rfl rfl (by decide) ?_
  refine st_getR (kk := 11) rfl rfl rfl (pz_53_11 hP) rfl ?_
  refine st_aload_n rfl rfl (by decide) ?_
  refine st_getI (kk := 7) rfl rfl (by decide) rfl ?_
  rw [pH_7]
  refine st_iconst rfl ?_
  refine st_iastore rfl rfl (by omega) (by omega) ?_
  rw [pH_uC]
  refine st_ret rfl ?_
  exact ⟨rfl, rfl⟩
theorem r_Model_isValue {d N : Nat} {P : am_P} {H : am_H} {p q : Int} {K V G C : Int → Int} {v g c : Int} (hP : PZ P) (hq : 0 ≤ q ∧ q < 8) : am_R (d + 1) 54 [am_r 53] (N, P, pH H p q K (am_uf V q v) (am_uf G q g) (am_uf C q c)) none (N, P, pH H p q K (am_uf V q g) (am_uf G q 0) (am_uf C q 0)) := by
  refine am_en1 (d := d + 0) (ml := 1) (ls := [_]) cq_Model_isValue rfl (Nat.le_of_ble_eq_true rfl) rfl ?_
  refine st_aload_n rfl rfl (by decide) ?_
  refine st_getR (kk := 9) rfl rfl rfl (pz_53_9 hP) rfl ?_
  refine st_aload_n rfl rfl (by decide) ?_
  refine st_getI (kk := 7) rfl rfl (by decide) rfl ?_
  rw [pH_7]
  refine st_aload_n rfl rfl (by decide) ?_
  refine st_getR (kk := 10) rfl rfl rfl (pz_53_10 hP) rfl ?_
  refine st_aload_n rfl rfl (by decide) ?_
  refine st_getI (kk := 7) rfl rfl (by decide) rfl ?_
  rw [pH_7]
  refine st_iaload rfl rfl (by omega) (by omega) ?_
  rw [show pH H p q K (am_uf V q v) (am_uf G q g) (am_uf C q c) 59 q = g from am_uf_eq _ _ _]
  refine st_iastore rfl rfl (by omega) (by omega) ?_
  rw [pH_uV, uf_uf]
  refine st_aload_n rfl rfl (by decide) ?_
  refine st_getR (kk := 10) rfl rfl rfl (pz_53_10 hP) rfl ?_
  refine st_aload_n rfl rfl (by decide) ?_
  refine st_getI (kk := 7) rfl rfl (by decide) rfl ?_
  rw [pH_7]
  refine st_iconst rfl ?_
  refine st_iastore rfl rfl (by omega) (by omega) ?_
  rw [pH_uG, uf_uf]
  refine st_aload_n rfl rfl (by decide) ?_
  refine st_getR (kk := 11) rfl rfl rfl (pz_53_11 hP) rfl ?_
  refine st_aload_n rfl rfl (by decide) ?_
  refine st_getI (kk := 7) rfl rfl (by decide) rfl ?_
  rw [pH_7]
  refine st_iconst rfl ?_
  refine st_iastore rfl rfl (by omega) (by omega) ?_
  rw [pH_uC, uf_uf]
  refine st_ret rfl ?_
  exact ⟨rfl, rfl⟩
theorem r_Model_number {d N : Nat} {P : am_P} {H : am_H} {most : Nat} {p q : Int} {K V G C : Int → Int} (hP : PZ P) (hq : 0 ≤ q ∧ q < 8) (hz : H 53 5 ≤ 80) (hp : 0 ≤ p ∧ p ≤ 100) (hm : most ≤ 6) : am_R (d + 3) 53 [am_r 53, am_i ((most : Int))] (N, P, pH H p q K V G C) (some (am_i ((dgF (hbF H) p most).2))) (N, P, pH H (p + (dgF (hbF H) p most).2) q K V (am_uf G q (dgF (hbF H) p most).1) (am_uf C q (dgF (hbF H) p most).2)) := by
  refine am_en1 (d := d + 2) (ml := 4) (ls := [_, _, _, _]) cq_Model_number rfl (Nat.le_of_ble_eq_true rfl) rfl ?_
  refine st_iconst rfl ?_
  refine st_istore_n (ls' := [_, _, _, _]) rfl (Nat.le_of_ble_eq_true rfl) rfl ?_
  refine st_iconst rfl ?_
  refine st_istore_n (ls' := [_, _, _, _]) rfl (Nat.le_of_ble_eq_true rfl) rfl ?_
  suffices hlo : ∀ j, j ≤ most → (dgF (hbF H) p j).2 = (j : Int) → am_WP (am_R (d + 2)) cd_Model_number (fun v' σ' => v' = some (am_i (dgF (hbF H) p most).2) ∧ σ' = (N, P, pH H (p + (dgF (hbF H) p most).2) q K V (am_uf G q (dgF (hbF H) p most).1) (am_uf C q (dgF (hbF H) p most).2))) 4 [some (am_r 53), some (am_i (most : Int)), some (am_i (j : Int)), some (am_i (dgF (hbF H) p j).1)] [] (N, P, pH H (p + (j : Int)) q K V G C) from by
    have h0 := hlo 0 (Nat.zero_le _) rfl
    rw [show p + ((0 : Nat) : Int) = p by omega] at h0
    exact h0
  refine up_ind (n := most) ?_ ?_
  · intro hj2
    refine st_iload_n rfl rfl ?_
    refine st_iload_n rfl rfl ?_
    refine st_icmp_ge rfl (fun h6 => ?_) (fun h6 => (by exfalso; omega))
    refine st_aload_n rfl rfl (by decide) ?_
    refine st_getR (kk := 10) rfl rfl rfl (pz_53_10 hP) rfl ?_
    refine st_aload_n rfl rfl (by decide) ?_
    refine st_getI (kk := 7) rfl rfl (by decide) rfl ?_
    rw [pH_7]
    refine st_iload_n rfl rfl ?_
    refine st_iastore rfl rfl (by omega) (by omega) ?_
    rw [pH_uG]
    refine st_aload_n rfl rfl (by decide) ?_
    refine st_getR (kk := 11) rfl rfl rfl (pz_53_11 hP) rfl ?_
    refine st_aload_n rfl rfl (by decide) ?_
    refine st_getI (kk := 7) rfl rfl (by decide) rfl ?_
    rw [pH_7]
    refine st_iload_n rfl rfl ?_
    refine st_iastore rfl rfl (by omega) (by omega) ?_
    rw [pH_uC]
    refine st_iload_n rfl rfl ?_
    refine st_iret rfl (fun z => by first | exact absurd z (by decide) | exact bi_01 _ | decide | omega) ?_
    refine ⟨am_ri (by rw [hj2]), ?_⟩
    rw [hj2]
  · intro j hj ih hj2
    have hr := dgF_r (hbF H) p j
    have htn := tnF_r (j := j) (by omega)
    rw [hj2, Int.toNat_natCast] at hr
    have e1 : dgF (hbF H) p (j + 1) = if (dgF (hbF H) p j).2 = (j : Int) ∧ isD ((hbF H) (p + (j : Int))) then (10 * (dgF (hbF H) p j).1 + (hbF H) (p + (j : Int)) - 48, (j : Int) + 1) else dgF (hbF H) p j := rfl
    refine st_iload_n rfl rfl ?_
    refine st_iload_n rfl rfl ?_
    refine st_icmp_ge rfl (fun h6 => (by exfalso; omega)) (fun h6 => ?_)
    refine st_aload_n rfl rfl (by decide) ?_
    refine st_cv1 (w := []) rfl rfl rfl (Nat.le_of_ble_eq_true rfl) (Nat.le_of_ble_eq_true rfl) rfl rfl (r_Model_isDigit hP (by rw [pH_6]; omega) (by rw [pH_k _ _ _ _ _ _ _ (by omega) (by omega)]; exact hz)) ?_
    rw [pH_h]
    refine st_if_eq_b rfl (fun h9 => ?_) (fun h9 => ?_)
    · have eD : dgF (hbF H) p most = dgF (hbF H) p j := by
        have := dgF_s (h := (hbF H)) (p := p) (j := j) (Or.inr h9) (most - j)
        rw [show j + (most - j) = most by omega] at this
        exact this
      refine st_aload_n rfl rfl (by decide) ?_
      refine st_getR (kk := 10) rfl rfl rfl (pz_53_10 hP) rfl ?_
      refine st_aload_n rfl rfl (by decide) ?_
      refine st_getI (kk := 7) rfl rfl (by decide) rfl ?_
      rw [pH_7]
      refine st_iload_n rfl rfl ?_
      refine st_iastore rfl rfl (by omega) (by omega) ?_
      rw [pH_uG]
      refine st_aload_n rfl rfl (by decide) ?_
      refine st_getR (kk := 11) rfl rfl rfl (pz_53_11 hP) rfl ?_
      refine st_aload_n rfl rfl (by decide) ?_
      refine st_getI (kk := 7) rfl rfl (by decide) rfl ?_
      rw [pH_7]
      refine st_iload_n rfl rfl ?_
      refine st_iastore rfl rfl (by omega) (by omega) ?_
      rw [pH_uC]
      refine st_iload_n rfl rfl ?_
      refine st_iret rfl (fun z => by first | exact absurd z (by decide) | exact bi_01 _ | decide | omega) ?_
      refine ⟨am_ri (by rw [eD, hj2]), ?_⟩
      rw [eD, hj2]
    · refine st_bipush rfl ?_
      refine st_iload_n rfl rfl ?_
      refine st_imul rfl (by omega) ?_
      refine st_aload_n rfl rfl (by decide) ?_
      refine st_cv1 (w := [_]) rfl rfl rfl (Nat.le_of_ble_eq_true rfl) (Nat.le_of_ble_eq_true rfl) rfl rfl (r_Model_here hP (by rw [pH_6]; omega) (by rw [pH_k _ _ _ _ _ _ _ (by omega) (by omega)]; exact hz)) ?_
      rw [pH_h]
      refine st_iadd rfl (by omega) ?_
      refine st_bipush rfl ?_
      refine st_isub rfl (by omega) ?_
      refine st_istore_n (ls' := [_, _, _, _]) rfl (Nat.le_of_ble_eq_true rfl) rfl ?_
      refine st_iinc (ls' := [_, _, _, _]) rfl rfl (by omega) rfl ?_
      refine st_aload_n rfl rfl (by decide) ?_
      refine st_dup rfl rfl ?_
      refine st_getI (kk := 6) rfl rfl (by decide) rfl ?_
      rw [pH_6]
      refine st_iconst rfl ?_
      refine st_iadd rfl (by omega) ?_
      refine st_putI (kk := 6) rfl rfl rfl rfl ?_
      rw [pH_u6]
      refine st_goto rfl ?_
      rw [e1, if_pos ⟨hj2, h9⟩, show p + ((j + 1 : Nat) : Int) = p + (j : Int) + 1 by omega] at ih
      exact ih rfl
theorem r_Model_fraction {d N : Nat} {P : am_P} {H : am_H} {most : Nat} {p q : Int} {K V G C : Int → Int} (hP : PZ P) (hq : 0 ≤ q ∧ q < 8) (hz : H 53 5 ≤ 80) (hp : 0 ≤ p ∧ p ≤ 100) (hm : most ≤ 6) : am_R (d + 4) 55 [am_r 53, am_i ((most : Int))] (N, P, pH H p q K V G C) (some (am_i (bi (0 < (dgF (hbF H) p most).2 ∧ (dgF (hbF H) p most).1 % 10 ≠ 0)))) (N, P, pH H (p + (dgF (hbF H) p most).2) q K V (am_uf G q (dgF (hbF H) p most).1) (am_uf C q (dgF (hbF H) p most).2)) := by
  refine am_en1 (d := d + 3) (ml := 2) (ls := [_, _]) cq_Model_fraction rfl (Nat.le_of_ble_eq_true rfl) rfl ?_
  have hr := dgF_r (hbF H) p most
  refine st_aload_n rfl rfl (by decide) ?_
  refine st_iload_n rfl rfl ?_
  refine st_cv1 (w := []) rfl rfl rfl (Nat.le_of_ble_eq_true rfl) (Nat.le_of_ble_eq_true rfl) rfl rfl (r_Model_number hP hq hz hp hm) ?_
  refine st_if_le rfl (fun h3 => ?_) (fun h3 => ?_)
  · refine st_iconst rfl ?_
    refine st_iret rfl (fun z => by first | exact absurd z (by decide) | exact bi_01 _ | decide | omega) ?_
    exact ⟨am_ri (by first | rfl | exact bi_iff (by omega) | exact (bi_t (by omega)).symm | exact (bi_f (by omega)).symm), rfl⟩
  · refine st_aload_n rfl rfl (by decide) ?_
    refine st_getR (kk := 10) rfl rfl rfl (pz_53_10 hP) rfl ?_
    refine st_aload_n rfl rfl (by decide) ?_
    refine st_getI (kk := 7) rfl rfl (by decide) rfl ?_
    rw [pH_7]
    refine st_iaload rfl rfl (by omega) (by omega) ?_
    rw [show ∀ p' K V G C (x : Int), pH H p' q K V (am_uf G q x) C 59 q = x from fun _ _ _ _ _ _ => am_uf_eq _ _ _]
    refine st_bipush rfl ?_
    refine st_irem rfl (by omega) (by omega) (by omega) ?_
    refine st_if_eq rfl (fun h11 => ?_) (fun h11 => ?_)
    · refine st_iconst rfl ?_
      refine st_iret rfl (fun z => by first | exact absurd z (by decide) | exact bi_01 _ | decide | omega) ?_
      exact ⟨am_ri (by first | rfl | exact bi_iff (by omega) | exact (bi_t (by omega)).symm | exact (bi_f (by omega)).symm), rfl⟩
    · refine st_iconst rfl ?_
      refine st_goto rfl ?_
      refine st_iret rfl (fun z => by first | exact absurd z (by decide) | exact bi_01 _ | decide | omega) ?_
      exact ⟨am_ri (by first | rfl | exact bi_iff (by omega) | exact (bi_t (by omega)).symm | exact (bi_f (by omega)).symm), rfl⟩
/-- letters read from p on -/
def ltF (h : Int → Int) (p : Int) : Nat → Int × Int
  | 0 => (0, 0)
  | j + 1 => if (ltF h p j).2 = (j : Int) ∧ isL (h (p + (j : Int))) then (27 * (ltF h p j).1 + h (p + (j : Int)) - 65 + 1, (j : Int) + 1) else ltF h p j
theorem ltF_r (h : Int → Int) (p : Int) : ∀ j : Nat, j ≤ 3 → (0 ≤ (ltF h p j).2 ∧ (ltF h p j).2 ≤ (j : Int)) ∧ 0 ≤ (ltF h p j).1 ∧ (ltF h p j).1 ≤ 19682 ∧ (j ≤ 2 → (ltF h p j).1 ≤ 728) ∧ (j ≤ 1 → (ltF h p j).1 ≤ 26) ∧ (j = 0 → (ltF h p j).1 = 0)
  | 0, _ => by simp only [ltF]; decide
  | j + 1, hj => by
    have ih := ltF_r h p j (by omega)
    simp only [ltF]
    split
    · rename_i q
      have q2 := q.2
      simp only []
      omega
    · omega
theorem ltF_s {h : Int → Int} {p : Int} {j : Nat} (hj : (ltF h p j).2 ≤ (j : Int)) (hn : ¬ isL (h (p + (j : Int)))) : ∀ x : Nat, ltF h p (j + x) = ltF h p j
  | 0 => rfl
  | x + 1 => by
    have ih := ltF_s hj hn x
    rw [show j + (x + 1) = (j + x) + 1 from rfl]
    simp only [ltF]
    rw [ih, if_neg]
    rintro ⟨q1, q2⟩
    have : x = 0 := by omega
    subst this
    exact hn q2

theorem r_Model_letters {d N : Nat} {P : am_P} {H : am_H} {p q : Int} {K V G C : Int → Int} (hP : PZ P) (hq : 0 ≤ q ∧ q < 8) (hz : H 53 5 ≤ 80) (hp : 0 ≤ p ∧ p ≤ 100) : am_R (d + 3) 56 [am_r 53] (N, P, pH H p q K V G C) (some (am_i (1))) (N, P, pH H (p + (ltF (hbF H) p 3).2) q (am_uf K q 0) (am_uf V q (ltF (hbF H) p 3).1) (am_uf G q 0) (am_uf C q 0)) := by
  refine am_en1 (d := d + 2) (ml := 2) (ls := [_, _]) cq_Model_letters rfl (Nat.le_of_ble_eq_true rfl) rfl ?_
  refine st_aload_n rfl rfl (by decide) ?_
  refine st_iconst rfl ?_
  refine st_cv0 (w := []) rfl rfl rfl (Nat.le_of_ble_eq_true rfl) (Nat.le_of_ble_eq_true rfl) rfl rfl (r_Model_begins hP hq) ?_
  refine st_iconst rfl ?_
  refine st_istore_n (ls' := [_, _]) rfl (Nat.le_of_ble_eq_true rfl) rfl ?_
  suffices hlo : ∀ j, j ≤ 3 → (ltF (hbF H) p j).2 = (j : Int) → am_WP (am_R (d + 2)) cd_Model_letters (fun v' σ' => v' = some (am_i 1) ∧ σ' = (N, P, pH H (p + (ltF (hbF H) p 3).2) q (am_uf K q 0) (am_uf V q (ltF (hbF H) p 3).1) (am_uf G q 0) (am_uf C q 0))) 5 [some (am_r 53), some (am_i (j : Int))] [] (N, P, pH H (p + (j : Int)) q (am_uf K q 0) (am_uf V q (ltF (hbF H) p j).1) (am_uf G q 0) (am_uf C q 0)) from by
    have h0 := hlo 0 (Nat.zero_le _) rfl
    rw [show p + ((0 : Nat) : Int) = p by omega] at h0
    exact h0
  refine up_ind (n := 3) ?_ ?_
  · intro hj2
    refine st_iload_n rfl rfl ?_
    refine st_iconst rfl ?_
    refine st_icmp_ge rfl (fun h7 => ?_) (fun h7 => (by exfalso; omega))
    refine st_iconst rfl ?_
    refine st_iret rfl (fun z => by first | exact absurd z (by decide) | exact bi_01 _ | decide | omega) ?_
    refine ⟨rfl, ?_⟩
    rw [hj2]
  · intro j hj ih hj2
    have hr := ltF_r (hbF H) p j (by omega)
    have e1 : ltF (hbF H) p (j + 1) = if (ltF (hbF H) p j).2 = (j : Int) ∧ isL ((hbF H) (p + (j : Int))) then (27 * (ltF (hbF H) p j).1 + (hbF H) (p + (j : Int)) - 65 + 1, (j : Int) + 1) else ltF (hbF H) p j := rfl
    refine st_iload_n rfl rfl ?_
    refine st_iconst rfl ?_
    refine st_icmp_ge rfl (fun h7 => (by exfalso; omega)) (fun h7 => ?_)
    refine st_aload_n rfl rfl (by decide) ?_
    refine st_cv1 (w := []) rfl rfl rfl (Nat.le_of_ble_eq_true rfl) (Nat.le_of_ble_eq_true rfl) rfl rfl (r_Model_isLetter hP (by rw [pH_6]; omega) (by rw [pH_k _ _ _ _ _ _ _ (by omega) (by omega)]; exact hz)) ?_
    rw [pH_h]
    refine st_if_eq_b rfl (fun h10 => ?_) (fun h10 => ?_)
    · have eD : ltF (hbF H) p 3 = ltF (hbF H) p j := by
        have := ltF_s (h := (hbF H)) (p := p) (j := j) (by omega) h10 (3 - j)
        rw [show j + (3 - j) = 3 by omega] at this
        exact this
      refine st_iconst rfl ?_
      refine st_iret rfl (fun z => by first | exact absurd z (by decide) | exact bi_01 _ | decide | omega) ?_
      refine ⟨rfl, ?_⟩
      rw [eD, hj2]
    · refine st_aload_n rfl rfl (by decide) ?_
      refine st_getR (kk := 9) rfl rfl rfl (pz_53_9 hP) rfl ?_
      refine st_aload_n rfl rfl (by decide) ?_
      refine st_getI (kk := 7) rfl rfl (by decide) rfl ?_
      rw [pH_7]
      refine st_bipush rfl ?_
      refine st_aload_n rfl rfl (by decide) ?_
      refine st_getR (kk := 9) rfl rfl rfl (pz_53_9 hP) rfl ?_
      refine st_aload_n rfl rfl (by decide) ?_
      refine st_getI (kk := 7) rfl rfl (by decide) rfl ?_
      rw [pH_7]
      refine st_iaload rfl rfl (by omega) (by omega) ?_
      rw [show ∀ p' K V G C (x : Int), pH H p' q K (am_uf V q x) G C 58 q = x from fun _ _ _ _ _ _ => am_uf_eq _ _ _]
      refine st_imul rfl (by omega) ?_
      refine st_aload_n rfl rfl (by decide) ?_
      refine st_cv1 (w := [_, _, _]) rfl rfl rfl (Nat.le_of_ble_eq_true rfl) (Nat.le_of_ble_eq_true rfl) rfl rfl (r_Model_here hP (by rw [pH_6]; omega) (by rw [pH_k _ _ _ _ _ _ _ (by omega) (by omega)]; exact hz)) ?_
      rw [pH_h]
      refine st_iadd rfl (by omega) ?_
      refine st_bipush rfl ?_
      refine st_isub rfl (by omega) ?_
      refine st_iconst rfl ?_
      refine st_iadd rfl (by omega) ?_
      refine st_iastore rfl rfl (by omega) (by omega) ?_
      rw [pH_uV, uf_uf]
      refine st_iinc (ls' := [_, _]) rfl rfl (by omega) rfl ?_
      refine st_aload_n rfl rfl (by decide) ?_
      refine st_dup rfl rfl ?_
      refine st_getI (kk := 6) rfl rfl (by decide) rfl ?_
      rw [pH_6]
      refine st_iconst rfl ?_
      refine st_iadd rfl (by omega) ?_
      refine st_putI (kk := 6) rfl rfl rfl rfl ?_
      rw [pH_u6]
      refine st_goto rfl ?_
      rw [e1, if_pos ⟨hj2, h10⟩, show p + ((j + 1 : Nat) : Int) = p + (j : Int) + 1 by omega] at ih
      exact ih rfl
