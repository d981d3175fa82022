/-! ===== the reference: run, done ===== -/
def rnL (a : Int → Int) (s : Int) : Nat → Int × (Int → Int)
  | 0 => (0, am_uf a 5 s)
  | p + 1 => if thgF a s (p : Int) < 0 then rnL a s p else ((rnL a s p).1 + 1, am_uf (rnL a s p).2 (7 + (rnL a s p).1) (mkF a (thgF a s (p : Int))))
theorem rnL_r (a : Int → Int) (s : Int) : ∀ p : Nat, 0 ≤ (rnL a s p).1 ∧ (rnL a s p).1 ≤ (p : Int)
  | 0 => by simp only [rnL]; omega
  | p + 1 => by
    have ih := rnL_r a s p
    simp only [rnL]
    split
    · omega
    · simp only []; omega
/-- beyond the reading nothing changes -/
theorem rnL_k (a : Int → Int) (s : Int) {k : Int} (hk : 70 ≤ k) : ∀ p : Nat, p ≤ 30 → (rnL a s p).2 k = a k
  | 0, _ => by simp only [rnL]; rw [am_uf_ne _ _ (by omega)]
  | p + 1, hp => by
    have ih := rnL_k a s hk p (by omega)
    have hr := rnL_r a s p
    simp only [rnL]
    split
    · exact ih
    · simp only []
      rw [am_uf_ne _ _ (by omega)]
      exact ih
def rnF (a : Int → Int) (s w : Int) : Int → Int := if w = 0 then am_uf (am_uf a 5 s) 6 0 else am_uf (rnL a s 30).2 6 (rnL a s 30).1

theorem r_Model_run {d N : Nat} {P : am_P} {H : am_H} {s w : Int} (hP : PZ P) (hI : Inv (H 54)) : am_R (d + 3) 103 [am_r 53, am_i (s), am_i (w)] (N, P, H) (some (am_i (bi (0 ≤ s ∧ s < H 54 2)))) (N, P, am_so H 54 (if 0 ≤ s ∧ s < H 54 2 then rnF (H 54) s w else H 54)) := by
  refine am_en1 (d := d + 2) (ml := 6) (ls := [_, _, _, _, _, _]) cq_Model_run rfl (Nat.le_of_ble_eq_true rfl) rfl ?_
  have hn := hI.n
  refine st_aload_n rfl rfl (by decide) ?_
  refine st_iload_n rfl rfl ?_
  refine st_cv1 (w := []) rfl rfl rfl (Nat.le_of_ble_eq_true rfl) (Nat.le_of_ble_eq_true rfl) rfl rfl (r_Model_isShelf hP) ?_
  refine st_if_ne_b rfl (fun h3 => ?_) (fun h3 => ?_)
  · refine st_aload_n rfl rfl (by decide) ?_
    refine st_getR (kk := 0) rfl rfl rfl (pz_53_0 hP) rfl ?_
    refine st_iconst rfl ?_
    refine st_iload_n rfl rfl ?_
    refine st_iastore rfl rfl (by omega) (by omega) ?_
    refine st_iconst rfl ?_
    refine st_istore_n (ls' := [_, _, _, _, _, _]) rfl (Nat.le_of_ble_eq_true rfl) rfl ?_
    refine st_iconst rfl ?_
    refine st_istore (ls' := [_, _, _, _, _, _]) rfl (Nat.le_of_ble_eq_true rfl) rfl ?_
    by_cases hw : w = 0
    · refine st_iload rfl rfl ?_
      refine st_bipush rfl ?_
      refine st_icmp_ge rfl (fun h17 => (by exfalso; omega)) (fun h17 => ?_)
      refine st_iload_n rfl rfl ?_
      refine st_if_eq rfl (fun h19 => ?_) (fun h19 => (by exfalso; omega))
      refine st_aload_n rfl rfl (by decide) ?_
      refine st_getR (kk := 0) rfl rfl rfl (pz_53_0 hP) rfl ?_
      refine st_bipush rfl ?_
      refine st_iload_n rfl rfl ?_
      refine st_iastore rfl rfl (by omega) (by omega) ?_
      refine st_iconst rfl ?_
      refine st_iret rfl (fun z => by first | exact absurd z (by decide) | exact bi_01 _ | decide | omega) ?_
      refine ⟨am_ri (bi_t h3).symm, ?_⟩
      rw [if_pos h3]
      unfold rnF
      rw [if_pos hw]
      simp only [am_up, am_so_so, am_so_at]
    · suffices hl : ∀ j, j ≤ 30 → ∀ t, am_WP (am_R (d + 2)) cd_Model_run (fun v' s' => v' = some (am_i (bi (0 ≤ s ∧ s < H 54 2))) ∧ s' = (N, P, am_so H 54 (if 0 ≤ s ∧ s < H 54 2 then rnF (H 54) s w else H 54))) 15 [some (am_r 53), some (am_i s), some (am_i w), some (am_i (rnL (H 54) s j).1), some (am_i (j : Int)), t] [] (N, P, am_so H 54 (rnL (H 54) s j).2) from hl 0 (Nat.zero_le _) _
      refine up_ind (n := 30) ?_ ?_
      · intro t
        refine st_iload rfl rfl ?_
        refine st_bipush rfl ?_
        refine st_icmp_ge rfl (fun h17 => ?_) (fun h17 => (by exfalso; omega))
        refine st_aload_n rfl rfl (by decide) ?_
        refine st_getR (kk := 0) rfl rfl rfl (pz_53_0 hP) rfl ?_
        refine st_bipush rfl ?_
        refine st_iload_n rfl rfl ?_
        refine st_iastore rfl rfl (by omega) (by omega) ?_
        refine st_iconst rfl ?_
        refine st_iret rfl (fun z => by first | exact absurd z (by decide) | exact bi_01 _ | decide | omega) ?_
        refine ⟨am_ri (bi_t h3).symm, ?_⟩
        rw [if_pos h3]
        unfold rnF
        rw [if_neg hw]
        simp only [am_up, am_so_so, am_so_at]
      · intro j hj ih t
        have hr := rnL_r (H 54) s j
        have hth := hI.th h3.1 h3.2 (by omega : 0 ≤ (j : Int)) (by omega)
        have hk := fun (k : Int) (q : 70 ≤ k) => rnL_k (H 54) s q j (by omega)
        have e0 : am_so H 54 (rnL (H 54) s j).2 54 (6670 + 32 * s + 2 + (j : Int)) = thgF (H 54) s (j : Int) := by rw [am_so_at, hk _ (by omega)]; rfl
        refine st_iload rfl rfl ?_
        refine st_bipush rfl ?_
        refine st_icmp_ge rfl (fun h17 => (by exfalso; omega)) (fun h17 => ?_)
        refine st_iload_n rfl rfl ?_
        refine st_if_eq rfl (fun h19 => (by exfalso; omega)) (fun h19 => ?_)
        refine st_aload_n rfl rfl (by decide) ?_
        refine st_getR (kk := 0) rfl rfl rfl (pz_53_0 hP) rfl ?_
        refine st_aload_n rfl rfl (by decide) ?_
        refine st_iload_n rfl rfl ?_
        refine st_iload rfl rfl ?_
        refine st_cv1 (w := [_]) rfl rfl rfl (Nat.le_of_ble_eq_true rfl) (Nat.le_of_ble_eq_true rfl) rfl rfl (r_Model_placeOf (by omega) (by omega) (by omega) (by omega)) ?_
        refine st_iaload rfl rfl (by omega) (by omega) ?_
        rw [e0]
        refine st_istore (ls' := [_, _, _, _, _, _]) rfl (Nat.le_of_ble_eq_true rfl) rfl ?_
        refine st_iload rfl rfl ?_
        refine st_if_ge rfl (fun h29 => ?_) (fun h29 => ?_)
        · have hmd := hth.mod (by omega) (by omega)
          refine st_aload_n rfl rfl (by decide) ?_
          refine st_getR (kk := 0) rfl rfl rfl (pz_53_0 hP) rfl ?_
          refine st_bipush rfl ?_
          refine st_iload_n rfl rfl ?_
          refine st_iadd rfl (by omega) ?_
          refine st_aload_n rfl rfl (by decide) ?_
          refine st_iload rfl rfl ?_
          refine st_cv1 (w := [_, _]) rfl rfl rfl (Nat.le_of_ble_eq_true rfl) (Nat.le_of_ble_eq_true rfl) rfl rfl (r_Model_markOf (H := am_so H 54 (rnL (H 54) s j).2) hP (by omega) (by omega)) ?_
          rw [show mkF (am_so H 54 (rnL (H 54) s j).2 54) (thgF (H 54) s (j : Int)) = mkF (H 54) (thgF (H 54) s (j : Int)) by unfold mkF bkF; rw [am_so_at, hk _ (by omega)]]
          refine st_iastore rfl rfl (by omega) (by omega) ?_
          refine st_iinc (ls' := [_, _, _, _, _, _]) rfl rfl (by omega) rfl ?_
          refine st_iinc (ls' := [_, _, _, _, _, _]) rfl rfl (by omega) rfl ?_
          refine st_goto rfl ?_
          have ih := ih (some (am_i (thgF (H 54) s (j : Int))))
          first
          | (rw [show rnL (H 54) s (j + 1) = rnL (H 54) s j by simp only [rnL]; rw [if_pos (by omega)]] at ih; exact ih)
          | (rw [show rnL (H 54) s (j + 1) = ((rnL (H 54) s j).1 + 1, am_uf (rnL (H 54) s j).2 (7 + (rnL (H 54) s j).1) (mkF (H 54) (thgF (H 54) s (j : Int)))) by simp only [rnL]; rw [if_neg (by omega)]] at ih
             simp only [am_up, am_so_so, am_so_at]
             exact ih)
        · refine st_goto rfl ?_
          refine st_iinc (ls' := [_, _, _, _, _, _]) rfl rfl (by omega) rfl ?_
          refine st_goto rfl ?_
          have ih := ih (some (am_i (thgF (H 54) s (j : Int))))
          first
          | (rw [show rnL (H 54) s (j + 1) = rnL (H 54) s j by simp only [rnL]; rw [if_pos (by omega)]] at ih; exact ih)
          | (rw [show rnL (H 54) s (j + 1) = ((rnL (H 54) s j).1 + 1, am_uf (rnL (H 54) s j).2 (7 + (rnL (H 54) s j).1) (mkF (H 54) (thgF (H 54) s (j : Int)))) by simp only [rnL]; rw [if_neg (by omega)]] at ih
             simp only [am_up, am_so_so, am_so_at]
             exact ih)
  · refine st_iconst rfl ?_
    refine st_iret rfl (fun z => by first | exact absurd z (by decide) | exact bi_01 _ | decide | omega) ?_
    refine ⟨am_ri (bi_f h3).symm, ?_⟩
    rw [if_neg h3, am_so_self]
def dn1 (a : Int → Int) : Int → Int := am_uf (am_uf a (9382 + 62 * a 5) 1) (9382 + 62 * a 5 + 1) (a 6)
def dn2 (a : Int → Int) : Int → Int := am_uf (cpF (dn1 a) 7 (9382 + 62 * a 5 + 2) (a 6)) 5 (-1)
def nlF (a : Int → Int) (s m : Int) : Int := if 0 < ofF a s m then a (8982 + m) else if a (8782 + m) = s then 1 else a (8982 + m)
def nfF (a : Int → Int) (s m : Int) : Int := if 0 < ofF a s m then (if a (8982 + m) = 1 then 1 else a (9182 + m)) else if a (8782 + m) = s then 0 else a (9182 + m)
def dnS (a : Int → Int) (s n : Int) : Int → Int := fun k => if 8982 ≤ k ∧ k < 8982 + n then nlF a s (k - 8982) else if 9182 ≤ k ∧ k < 9182 + n then nfF a s (k - 9182) else a k
def goL (a : Int → Int) (s : Int) : Nat → Int
  | 0 => 0
  | m + 1 => if ofF a s (m : Int) ≤ 0 ∧ a (8782 + (m : Int)) = s then goL a s m + 1 else goL a s m
theorem goL_r (a : Int → Int) (s : Int) : ∀ j : Nat, 0 ≤ goL a s j ∧ goL a s j ≤ (j : Int)
  | 0 => by simp only [goL]; omega
  | j + 1 => by
    have ih := goL_r a s j
    simp only [goL]
    split <;> omega
theorem dnS_0 (a : Int → Int) (s : Int) : dnS a s 0 = a := by
  funext k
  unfold dnS
  rw [if_neg (by omega), if_neg (by omega)]
theorem dnS_s (a : Int → Int) (s : Int) (j : Nat) (hj : (j : Int) < 200) : dnS a s ((j + 1 : Nat) : Int) = am_uf (am_uf (dnS a s (j : Int)) (8982 + (j : Int)) (nlF a s (j : Int))) (9182 + (j : Int)) (nfF a s (j : Int)) := by
  funext k
  unfold am_uf dnS
  by_cases h1 : k = 9182 + (j : Int)
  · rw [if_pos h1, if_neg (by omega), if_pos (by omega), h1]
    congr 1
    omega
  · rw [if_neg h1]
    by_cases h2 : k = 8982 + (j : Int)
    · rw [if_pos h2, if_pos (by omega), h2]
      congr 1
      omega
    · rw [if_neg h2]
      by_cases h3 : 8982 ≤ k ∧ k < 8982 + (j : Int)
      · rw [if_pos h3, if_pos (by omega)]
      · rw [if_neg h3, if_neg (by omega)]
        by_cases h4 : 9182 ≤ k ∧ k < 9182 + (j : Int)
        · rw [if_pos h4, if_pos (by omega)]
        · rw [if_neg h4, if_neg (by omega)]
theorem dnS_k (a : Int → Int) (s n : Int) {k : Int} (h : k < 8982 ∨ (8982 + n ≤ k ∧ k < 9182) ∨ 9382 ≤ k) (hn : n ≤ 200) : dnS a s n k = a k := by
  unfold dnS
  rw [if_neg (by omega), if_neg (by omega)]
theorem uf_self {α : Type} (f : Int → α) {k : Int} {v : α} (h : f k = v) : am_uf f k v = f := by
  funext x
  unfold am_uf
  split
  · rename_i hx; rw [hx, h]
  · rfl

theorem r_Model_done {d N : Nat} {P : am_P} {H : am_H}  (hP : PZ P) (hI : Inv (H 54)) : am_R (d + 2) 115 [am_r 53] (N, P, H) (some (am_i (if 0 ≤ H 54 5 then goL (dn2 (H 54)) (H 54 5) (H 54 1).toNat else -1))) (N, P, am_so H 54 (if 0 ≤ H 54 5 then dnS (dn2 (H 54)) (H 54 5) (H 54 1) else H 54)) := by
  refine am_en1 (d := d + 1) (ml := 5) (ls := [_, _, _, _, _]) cq_Model_done rfl (Nat.le_of_ble_eq_true rfl) rfl ?_
  have hn := hI.n
  have hh := hI.h
  have hh1 := hh.1
  have hh2 := hh.2.1
  have hh3 := hh.2.2
  refine st_aload_n rfl rfl (by decide) ?_
  refine st_getR (kk := 0) rfl rfl rfl (pz_53_0 hP) rfl ?_
  refine st_iconst rfl ?_
  refine st_iaload rfl rfl (by omega) (by omega) ?_
  refine st_if_ge rfl (fun h4 => ?_) (fun h4 => ?_)
  · refine st_aload_n rfl rfl (by decide) ?_
    refine st_getR (kk := 0) rfl rfl rfl (pz_53_0 hP) rfl ?_
    refine st_iconst rfl ?_
    refine st_iaload rfl rfl (by omega) (by omega) ?_
    refine st_istore_n (ls' := [_, _, _, _, _]) rfl (Nat.le_of_ble_eq_true rfl) rfl ?_
    refine st_sipush rfl ?_
    refine st_bipush rfl ?_
    refine st_iload_n rfl rfl ?_
    refine st_imul rfl (by omega) ?_
    refine st_iadd rfl (by omega) ?_
    refine st_istore_n (ls' := [_, _, _, _, _]) rfl (Nat.le_of_ble_eq_true rfl) rfl ?_
    refine st_aload_n rfl rfl (by decide) ?_
    refine st_getR (kk := 0) rfl rfl rfl (pz_53_0 hP) rfl ?_
    refine st_iload_n rfl rfl ?_
    refine st_iconst rfl ?_
    refine st_iastore rfl rfl (by omega) (by omega) ?_
    refine st_aload_n rfl rfl (by decide) ?_
    refine st_getR (kk := 0) rfl rfl rfl (pz_53_0 hP) rfl ?_
    refine st_iload_n rfl rfl ?_
    refine st_iconst rfl ?_
    refine st_iadd rfl (by omega) ?_
    refine st_aload_n rfl rfl (by decide) ?_
    refine st_getR (kk := 0) rfl rfl rfl (pz_53_0 hP) rfl ?_
    refine st_bipush rfl ?_
    refine st_iaload rfl rfl (by omega) (by omega) ?_
    rw [am_up_eq, am_uf_ne _ _ (by omega)]
    refine st_iastore rfl rfl (by omega) (by omega) ?_
    refine st_iconst rfl ?_
    refine st_istore_n (ls' := [_, _, _, _, _]) rfl (Nat.le_of_ble_eq_true rfl) rfl ?_
    have ec : (((H 54 6).toNat : Nat) : Int) = H 54 6 := by omega
    rw [show am_up (am_up H 54 (9382 + 62 * H 54 5) 1) 54 (9382 + 62 * H 54 5 + 1) (H 54 6) = am_so H 54 (cpF (dn1 (H 54)) 7 (9382 + 62 * H 54 5 + 2) ((0 : Nat) : Int)) by rw [show ((0 : Nat) : Int) = 0 from rfl, cpF_0]; unfold dn1; simp only [am_up, am_so_so, am_so_at]]
    have e6 : ∀ q : Nat, (q : Int) ≤ H 54 6 → cpF (dn1 (H 54)) 7 (9382 + 62 * H 54 5 + 2) (q : Int) 6 = H 54 6 := by
      intro q hq
      unfold cpF dn1
      rw [if_neg (by omega), am_uf_ne _ _ (by omega), am_uf_ne _ _ (by omega)]
    refine up_ind (n := (H 54 6).toNat) (p := fun j => am_WP (am_R (d + 1)) cd_Model_done _ 35 [some (am_r 53), some (am_i (H 54 5)), some (am_i (9382 + 62 * H 54 5)), some (am_i (j : Int)), none] [] (N, P, am_so H 54 (cpF (dn1 (H 54)) 7 (9382 + 62 * H 54 5 + 2) (j : Int)))) ?_ ?_ 0 (Nat.zero_le _)
    · show am_WP _ _ _ _ _ _ _
      refine st_iload_n rfl rfl ?_
      refine st_aload_n rfl rfl (by decide) ?_
      refine st_getR (kk := 0) rfl rfl rfl (pz_53_0 hP) rfl ?_
      refine st_bipush rfl ?_
      refine st_iaload rfl rfl (by omega) (by omega) ?_
      rw [am_so_at, e6 _ (by omega)]
      refine st_icmp_ge rfl (fun h40 => ?_) (fun h40 => (by exfalso; omega))
      refine st_aload_n rfl rfl (by decide) ?_
      refine st_getR (kk := 0) rfl rfl rfl (pz_53_0 hP) rfl ?_
      refine st_iconst rfl ?_
      refine st_iconst rfl ?_
      refine st_iastore rfl rfl (by omega) (by omega) ?_
      refine st_iconst rfl ?_
      refine st_istore_n (ls' := [_, _, _, _, _]) rfl (Nat.le_of_ble_eq_true rfl) rfl ?_
      refine st_iconst rfl ?_
      refine st_istore (ls' := [_, _, _, _, _]) rfl (Nat.le_of_ble_eq_true rfl) rfl ?_
      have e5 : H 54 5 < 16 := by omega
      have a1e : dn2 (H 54) 1 = H 54 1 := by
        unfold dn2 cpF dn1
        rw [am_uf_ne _ _ (by omega), if_neg (by omega), am_uf_ne _ _ (by omega), am_uf_ne _ _ (by omega)]
      have ale : dn2 (H 54) (9382 + 62 * H 54 5 + 1) = H 54 6 := by
        unfold dn2 cpF dn1
        rw [am_uf_ne _ _ (by omega), if_neg (by omega), am_uf_eq]
      rw [show am_up (am_so H 54 (cpF (dn1 (H 54)) 7 (9382 + 62 * H 54 5 + 2) (((H 54 6).toNat : Nat) : Int))) 54 5 (-1) = am_so H 54 (dnS (dn2 (H 54)) (H 54 5) ((0 : Nat) : Int)) by
        rw [show ((0 : Nat) : Int) = 0 from rfl, dnS_0, show (((H 54 6).toNat : Nat) : Int) = H 54 6 by omega]
        simp only [am_up, am_so_so, am_so_at]
        rfl]
      refine up_ind (n := (H 54 1).toNat) (p := fun j => am_WP (am_R (d + 1)) cd_Model_done _ 63 [some (am_r 53), some (am_i (H 54 5)), some (am_i (9382 + 62 * H 54 5)), some (am_i (goL (dn2 (H 54)) (H 54 5) j)), some (am_i (j : Int))] [] (N, P, am_so H 54 (dnS (dn2 (H 54)) (H 54 5) (j : Int)))) ?_ ?_ 0 (Nat.zero_le _)
      · show am_WP _ _ _ _ _ _ _
        refine st_iload rfl rfl ?_
        refine st_aload_n rfl rfl (by decide) ?_
        refine st_getR (kk := 0) rfl rfl rfl (pz_53_0 hP) rfl ?_
        refine st_iconst rfl ?_
        refine st_iaload rfl rfl (by omega) (by omega) ?_
        rw [am_so_at, dnS_k _ _ _ (by omega) (by omega), a1e]
        refine st_icmp_ge rfl (fun h68 => ?_) (fun h68 => (by exfalso; omega))
        refine st_iload_n rfl rfl ?_
        refine st_iret rfl (fun z => by first | exact absurd z (by decide) | exact bi_01 _ | decide | omega) ?_
        refine ⟨am_ri (by rw [if_pos (by omega)]), ?_⟩
        rw [if_pos (by omega), show (((H 54 1).toNat : Nat) : Int) = H 54 1 by omega]
      · intro j hj ih
        have ih : am_WP _ _ _ _ _ _ _ := ih
        show am_WP _ _ _ _ _ _ _
        have hgr := goL_r (dn2 (H 54)) (H 54 5) j
        have el : dnS (dn2 (H 54)) (H 54 5) (j : Int) (8982 + (j : Int)) = dn2 (H 54) (8982 + (j : Int)) := dnS_k _ _ _ (by omega) (by omega)
        have ef : dnS (dn2 (H 54)) (H 54 5) (j : Int) (9182 + (j : Int)) = dn2 (H 54) (9182 + (j : Int)) := by unfold dnS; rw [if_neg (by omega), if_neg (by omega)]
        have eo : ofF (am_so H 54 (dnS (dn2 (H 54)) (H 54 5) (j : Int)) 54) (H 54 5) (j : Int) = ofF (dn2 (H 54)) (H 54 5) (j : Int) := by
          rw [am_so_at]
          unfold ofF
          rw [dnS_k _ _ _ (by omega) (by omega)]
          have : ∀ q : Nat, ofL (dnS (dn2 (H 54)) (H 54 5) (j : Int)) (H 54 5) (j : Int) q = ofL (dn2 (H 54)) (H 54 5) (j : Int) q := by
            intro q
            induction q with
            | zero => rfl
            | succ q ihq => simp only [ofL]; rw [ihq, dnS_k _ _ _ (by omega) (by omega)]
          exact this _
        refine st_iload rfl rfl ?_
        refine st_aload_n rfl rfl (by decide) ?_
        refine st_getR (kk := 0) rfl rfl rfl (pz_53_0 hP) rfl ?_
        refine st_iconst rfl ?_
        refine st_iaload rfl rfl (by omega) (by omega) ?_
        rw [am_so_at, dnS_k _ _ _ (by omega) (by omega), a1e]
        refine st_icmp_ge rfl (fun h68 => (by exfalso; omega)) (fun h68 => ?_)
        refine st_aload_n rfl rfl (by decide) ?_
        refine st_iload_n rfl rfl ?_
        refine st_iload rfl rfl ?_
        refine st_cv1 (w := []) rfl rfl rfl (Nat.le_of_ble_eq_true rfl) (Nat.le_of_ble_eq_true rfl) rfl rfl (r_Model_often (H := am_so H 54 (dnS (dn2 (H 54)) (H 54 5) (j : Int))) hP (by omega) (by omega) (by rw [am_so_at, dnS_k _ _ _ (by omega) (by omega), ale]; omega) (by rw [am_so_at, dnS_k _ _ _ (by omega) (by omega), ale]; omega)) ?_
        rw [eo]
        refine st_if_le rfl (fun h73 => ?_) (fun h73 => ?_)
        · refine st_aload_n rfl rfl (by decide) ?_
          refine st_getR (kk := 0) rfl rfl rfl (pz_53_0 hP) rfl ?_
          refine st_sipush rfl ?_
          refine st_iload rfl rfl ?_
          refine st_iadd rfl (by omega) ?_
          refine st_iaload rfl rfl (by omega) (by omega) ?_
          rw [am_so_at, dnS_k _ _ _ (by omega) (by omega)]
          refine st_iload_n rfl rfl ?_
          refine st_icmp_ne rfl (fun h97 => ?_) (fun h97 => ?_)
          · refine st_iinc (ls' := [_, _, _, _, _]) rfl rfl (by omega) rfl ?_
            refine st_goto rfl ?_
            first
            | (have e : dnS (dn2 (H 54)) (H 54 5) ((j + 1 : Nat) : Int) = dnS (dn2 (H 54)) (H 54 5) (j : Int) := by
                 rw [dnS_s _ _ j (by omega)]
                 unfold nlF nfF
                 rw [if_pos (by omega), if_pos (by omega), if_neg (by omega), uf_self _ el, uf_self _ ef]
               have e2 : goL (dn2 (H 54)) (H 54 5) (j + 1) = goL (dn2 (H 54)) (H 54 5) j := by
                 simp only [goL]
                 rw [if_neg (by omega)]
               rw [e, e2] at ih
               skip
               exact ih)
            | (have e : dnS (dn2 (H 54)) (H 54 5) ((j + 1 : Nat) : Int) = am_uf (dnS (dn2 (H 54)) (H 54 5) (j : Int)) (9182 + (j : Int)) 1 := by
                 rw [dnS_s _ _ j (by omega)]
                 unfold nlF nfF
                 rw [if_pos (by omega), if_pos (by omega), if_pos (by omega), uf_self _ el]
               have e2 : goL (dn2 (H 54)) (H 54 5) (j + 1) = goL (dn2 (H 54)) (H 54 5) j := by
                 simp only [goL]
                 rw [if_neg (by omega)]
               rw [e, e2] at ih
               simp only [am_up, am_so_so, am_so_at]
               exact ih)
            | (have e : dnS (dn2 (H 54)) (H 54 5) ((j + 1 : Nat) : Int) = dnS (dn2 (H 54)) (H 54 5) (j : Int) := by
                 rw [dnS_s _ _ j (by omega)]
                 unfold nlF nfF
                 rw [if_neg (by omega), if_neg (by omega), if_neg (by omega), if_neg (by omega), uf_self _ el, uf_self _ ef]
               have e2 : goL (dn2 (H 54)) (H 54 5) (j + 1) = goL (dn2 (H 54)) (H 54 5) j := by
                 simp only [goL]
                 rw [if_neg (by omega)]
               rw [e, e2] at ih
               skip
               exact ih)
            | (have e : dnS (dn2 (H 54)) (H 54 5) ((j + 1 : Nat) : Int) = am_uf (am_uf (dnS (dn2 (H 54)) (H 54 5) (j : Int)) (8982 + (j : Int)) 1) (9182 + (j : Int)) 0 := by
                 rw [dnS_s _ _ j (by omega)]
                 unfold nlF nfF
                 rw [if_neg (by omega), if_pos (by omega), if_neg (by omega), if_pos (by omega)]
               have e2 : goL (dn2 (H 54)) (H 54 5) (j + 1) = goL (dn2 (H 54)) (H 54 5) j + 1 := by
                 simp only [goL]
                 rw [if_pos (by omega)]
               rw [e, e2] at ih
               simp only [am_up, am_so_so, am_so_at]
               exact ih)
          · refine st_aload_n rfl rfl (by decide) ?_
            refine st_getR (kk := 0) rfl rfl rfl (pz_53_0 hP) rfl ?_
            refine st_sipush rfl ?_
            refine st_iload rfl rfl ?_
            refine st_iadd rfl (by omega) ?_
            refine st_iconst rfl ?_
            refine st_iastore rfl rfl (by omega) (by omega) ?_
            refine st_aload_n rfl rfl (by decide) ?_
            refine st_getR (kk := 0) rfl rfl rfl (pz_53_0 hP) rfl ?_
            refine st_sipush rfl ?_
            refine st_iload rfl rfl ?_
            refine st_iadd rfl (by omega) ?_
            refine st_iconst rfl ?_
            refine st_iastore rfl rfl (by omega) (by omega) ?_
            refine st_iinc (ls' := [_, _, _, _, _]) rfl rfl (by omega) rfl ?_
            refine st_iinc (ls' := [_, _, _, _, _]) rfl rfl (by omega) rfl ?_
            refine st_goto rfl ?_
            first
            | (have e : dnS (dn2 (H 54)) (H 54 5) ((j + 1 : Nat) : Int) = dnS (dn2 (H 54)) (H 54 5) (j : Int) := by
                 rw [dnS_s _ _ j (by omega)]
                 unfold nlF nfF
                 rw [if_pos (by omega), if_pos (by omega), if_neg (by omega), uf_self _ el, uf_self _ ef]
               have e2 : goL (dn2 (H 54)) (H 54 5) (j + 1) = goL (dn2 (H 54)) (H 54 5) j := by
                 simp only [goL]
                 rw [if_neg (by omega)]
               rw [e, e2] at ih
               skip
               exact ih)
            | (have e : dnS (dn2 (H 54)) (H 54 5) ((j + 1 : Nat) : Int) = am_uf (dnS (dn2 (H 54)) (H 54 5) (j : Int)) (9182 + (j : Int)) 1 := by
                 rw [dnS_s _ _ j (by omega)]
                 unfold nlF nfF
                 rw [if_pos (by omega), if_pos (by omega), if_pos (by omega), uf_self _ el]
               have e2 : goL (dn2 (H 54)) (H 54 5) (j + 1) = goL (dn2 (H 54)) (H 54 5) j := by
                 simp only [goL]
                 rw [if_neg (by omega)]
               rw [e, e2] at ih
               simp only [am_up, am_so_so, am_so_at]
               exact ih)
            | (have e : dnS (dn2 (H 54)) (H 54 5) ((j + 1 : Nat) : Int) = dnS (dn2 (H 54)) (H 54 5) (j : Int) := by
                 rw [dnS_s _ _ j (by omega)]
                 unfold nlF nfF
                 rw [if_neg (by omega), if_neg (by omega), if_neg (by omega), if_neg (by omega), uf_self _ el, uf_self _ ef]
               have e2 : goL (dn2 (H 54)) (H 54 5) (j + 1) = goL (dn2 (H 54)) (H 54 5) j := by
                 simp only [goL]
                 rw [if_neg (by omega)]
               rw [e, e2] at ih
               skip
               exact ih)
            | (have e : dnS (dn2 (H 54)) (H 54 5) ((j + 1 : Nat) : Int) = am_uf (am_uf (dnS (dn2 (H 54)) (H 54 5) (j : Int)) (8982 + (j : Int)) 1) (9182 + (j : Int)) 0 := by
                 rw [dnS_s _ _ j (by omega)]
                 unfold nlF nfF
                 rw [if_neg (by omega), if_pos (by omega), if_neg (by omega), if_pos (by omega)]
               have e2 : goL (dn2 (H 54)) (H 54 5) (j + 1) = goL (dn2 (H 54)) (H 54 5) j + 1 := by
                 simp only [goL]
                 rw [if_pos (by omega)]
               rw [e, e2] at ih
               simp only [am_up, am_so_so, am_so_at]
               exact ih)
        · refine st_aload_n rfl rfl (by decide) ?_
          refine st_getR (kk := 0) rfl rfl rfl (pz_53_0 hP) rfl ?_
          refine st_sipush rfl ?_
          refine st_iload rfl rfl ?_
          refine st_iadd rfl (by omega) ?_
          refine st_iaload rfl rfl (by omega) (by omega) ?_
          rw [am_so_at, el]
          refine st_iconst rfl ?_
          refine st_icmp_ne rfl (fun h81 => ?_) (fun h81 => ?_)
          · refine st_iinc (ls' := [_, _, _, _, _]) rfl rfl (by omega) rfl ?_
            refine st_goto rfl ?_
            first
            | (have e : dnS (dn2 (H 54)) (H 54 5) ((j + 1 : Nat) : Int) = dnS (dn2 (H 54)) (H 54 5) (j : Int) := by
                 rw [dnS_s _ _ j (by omega)]
                 unfold nlF nfF
                 rw [if_pos (by omega), if_pos (by omega), if_neg (by omega), uf_self _ el, uf_self _ ef]
               have e2 : goL (dn2 (H 54)) (H 54 5) (j + 1) = goL (dn2 (H 54)) (H 54 5) j := by
                 simp only [goL]
                 rw [if_neg (by omega)]
               rw [e, e2] at ih
               skip
               exact ih)
            | (have e : dnS (dn2 (H 54)) (H 54 5) ((j + 1 : Nat) : Int) = am_uf (dnS (dn2 (H 54)) (H 54 5) (j : Int)) (9182 + (j : Int)) 1 := by
                 rw [dnS_s _ _ j (by omega)]
                 unfold nlF nfF
                 rw [if_pos (by omega), if_pos (by omega), if_pos (by omega), uf_self _ el]
               have e2 : goL (dn2 (H 54)) (H 54 5) (j + 1) = goL (dn2 (H 54)) (H 54 5) j := by
                 simp only [goL]
                 rw [if_neg (by omega)]
               rw [e, e2] at ih
               simp only [am_up, am_so_so, am_so_at]
               exact ih)
            | (have e : dnS (dn2 (H 54)) (H 54 5) ((j + 1 : Nat) : Int) = dnS (dn2 (H 54)) (H 54 5) (j : Int) := by
                 rw [dnS_s _ _ j (by omega)]
                 unfold nlF nfF
                 rw [if_neg (by omega), if_neg (by omega), if_neg (by omega), if_neg (by omega), uf_self _ el, uf_self _ ef]
               have e2 : goL (dn2 (H 54)) (H 54 5) (j + 1) = goL (dn2 (H 54)) (H 54 5) j := by
                 simp only [goL]
                 rw [if_neg (by omega)]
               rw [e, e2] at ih
               skip
               exact ih)
            | (have e : dnS (dn2 (H 54)) (H 54 5) ((j + 1 : Nat) : Int) = am_uf (am_uf (dnS (dn2 (H 54)) (H 54 5) (j : Int)) (8982 + (j : Int)) 1) (9182 + (j : Int)) 0 := by
                 rw [dnS_s _ _ j (by omega)]
                 unfold nlF nfF
                 rw [if_neg (by omega), if_pos (by omega), if_neg (by omega), if_pos (by omega)]
               have e2 : goL (dn2 (H 54)) (H 54 5) (j + 1) = goL (dn2 (H 54)) (H 54 5) j + 1 := by
                 simp only [goL]
                 rw [if_pos (by omega)]
               rw [e, e2] at ih
               simp only [am_up, am_so_so, am_so_at]
               exact ih)
          · refine st_aload_n rfl rfl (by decide) ?_
            refine st_getR (kk := 0) rfl rfl rfl (pz_53_0 hP) rfl ?_
            refine st_sipush rfl ?_
            refine st_iload rfl rfl ?_
            refine st_iadd rfl (by omega) ?_
            refine st_iconst rfl ?_
            refine st_iastore rfl rfl (by omega) (by omega) ?_
            refine st_goto rfl ?_
            refine st_iinc (ls' := [_, _, _, _, _]) rfl rfl (by omega) rfl ?_
            refine st_goto rfl ?_
            first
            | (have e : dnS (dn2 (H 54)) (H 54 5) ((j + 1 : Nat) : Int) = dnS (dn2 (H 54)) (H 54 5) (j : Int) := by
                 rw [dnS_s _ _ j (by omega)]
                 unfold nlF nfF
                 rw [if_pos (by omega), if_pos (by omega), if_neg (by omega), uf_self _ el, uf_self _ ef]
               have e2 : goL (dn2 (H 54)) (H 54 5) (j + 1) = goL (dn2 (H 54)) (H 54 5) j := by
                 simp only [goL]
                 rw [if_neg (by omega)]
               rw [e, e2] at ih
               skip
               exact ih)
            | (have e : dnS (dn2 (H 54)) (H 54 5) ((j + 1 : Nat) : Int) = am_uf (dnS (dn2 (H 54)) (H 54 5) (j : Int)) (9182 + (j : Int)) 1 := by
                 rw [dnS_s _ _ j (by omega)]
                 unfold nlF nfF
                 rw [if_pos (by omega), if_pos (by omega), if_pos (by omega), uf_self _ el]
               have e2 : goL (dn2 (H 54)) (H 54 5) (j + 1) = goL (dn2 (H 54)) (H 54 5) j := by
                 simp only [goL]
                 rw [if_neg (by omega)]
               rw [e, e2] at ih
               simp only [am_up, am_so_so, am_so_at]
               exact ih)
            | (have e : dnS (dn2 (H 54)) (H 54 5) ((j + 1 : Nat) : Int) = dnS (dn2 (H 54)) (H 54 5) (j : Int) := by
                 rw [dnS_s _ _ j (by omega)]
                 unfold nlF nfF
                 rw [if_neg (by omega), if_neg (by omega), if_neg (by omega), if_neg (by omega), uf_self _ el, uf_self _ ef]
               have e2 : goL (dn2 (H 54)) (H 54 5) (j + 1) = goL (dn2 (H 54)) (H 54 5) j := by
                 simp only [goL]
                 rw [if_neg (by omega)]
               rw [e, e2] at ih
               skip
               exact ih)
            | (have e : dnS (dn2 (H 54)) (H 54 5) ((j + 1 : Nat) : Int) = am_uf (am_uf (dnS (dn2 (H 54)) (H 54 5) (j : Int)) (8982 + (j : Int)) 1) (9182 + (j : Int)) 0 := by
                 rw [dnS_s _ _ j (by omega)]
                 unfold nlF nfF
                 rw [if_neg (by omega), if_pos (by omega), if_neg (by omega), if_pos (by omega)]
               have e2 : goL (dn2 (H 54)) (H 54 5) (j + 1) = goL (dn2 (H 54)) (H 54 5) j + 1 := by
                 simp only [goL]
                 rw [if_pos (by omega)]
               rw [e, e2] at ih
               simp only [am_up, am_so_so, am_so_at]
               exact ih)
    · intro j hj ih
      have ih : am_WP _ _ _ _ _ _ _ := ih
      show am_WP _ _ _ _ _ _ _
      refine st_iload_n rfl rfl ?_
      refine st_aload_n rfl rfl (by decide) ?_
      refine st_getR (kk := 0) rfl rfl rfl (pz_53_0 hP) rfl ?_
      refine st_bipush rfl ?_
      refine st_iaload rfl rfl (by omega) (by omega) ?_
      rw [am_so_at, e6 _ (by omega)]
      refine st_icmp_ge rfl (fun h40 => (by exfalso; omega)) (fun h40 => ?_)
      refine st_aload_n rfl rfl (by decide) ?_
      refine st_getR (kk := 0) rfl rfl rfl (pz_53_0 hP) rfl ?_
      refine st_iload_n rfl rfl ?_
      refine st_iconst rfl ?_
      refine st_iadd rfl (by omega) ?_
      refine st_iload_n rfl rfl ?_
      refine st_iadd rfl (by omega) ?_
      refine st_aload_n rfl rfl (by decide) ?_
      refine st_iload_n rfl rfl ?_
      refine st_cv1 (w := [_, _]) rfl rfl rfl (Nat.le_of_ble_eq_true rfl) (Nat.le_of_ble_eq_true rfl) rfl rfl (r_Model_seenAt (H := am_so H 54 (cpF (dn1 (H 54)) 7 (9382 + 62 * H 54 5 + 2) (j : Int))) hP (by omega) (by omega)) ?_
      rw [am_so_at]
      refine st_iastore rfl rfl (by omega) (by omega) ?_
      refine st_iinc (ls' := [_, _, _, _, _]) rfl rfl (by omega) rfl ?_
      refine st_goto rfl ?_
      rw [show am_up (am_so H 54 (cpF (dn1 (H 54)) 7 (9382 + 62 * H 54 5 + 2) (j : Int))) 54 (9382 + 62 * H 54 5 + 2 + (j : Int)) ((cpF (dn1 (H 54)) 7 (9382 + 62 * H 54 5 + 2) (j : Int)) (5 + 2 + (j : Int))) = am_so H 54 (cpF (dn1 (H 54)) 7 (9382 + 62 * H 54 5 + 2) ((j + 1 : Nat) : Int)) by rw [← cpF_s (dn1 (H 54)) (s := 7) (n := 60) (by omega) j (by omega)]; simp only [am_up, am_so_so, am_so_at]; rfl]
      exact ih
  · refine st_iconst rfl ?_
    refine st_iret rfl (fun z => by first | exact absurd z (by decide) | exact bi_01 _ | decide | omega) ?_
    refine ⟨am_ri (by rw [if_neg (by omega)]), ?_⟩
    rw [if_neg (by omega), am_so_self]
