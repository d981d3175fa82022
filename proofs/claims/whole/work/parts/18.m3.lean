/-! ===== the reference: shelves and books ===== -/
theorem am_so_so {α : Type} (H : Nat → Int → α) (o : Nat) (f g : Int → α) : am_so (am_so H o f) o g = am_so H o g := by
  funext x; unfold am_so; split <;> rfl
theorem am_so_at {α : Type} (H : Nat → Int → α) (o : Nat) (f : Int → α) : am_so H o f o = f := if_pos rfl
theorem am_so_ne {α : Type} (H : Nat → Int → α) {o o' : Nat} (f : Int → α) (h : o' ≠ o) : am_so H o f o' = H o' := if_neg h
theorem am_so_self {α : Type} (H : Nat → Int → α) (o : Nat) : am_so H o (H o) = H := by
  funext x; unfold am_so; split
  · rename_i h; rw [h]
  · rfl
theorem am_uf_eq {α : Type} (g : Int → α) (k : Int) (v : α) : am_uf g k v k = v := if_pos rfl
theorem am_uf_ne {α : Type} (g : Int → α) {k k' : Int} (v : α) (h : k' ≠ k) : am_uf g k v k' = g k' := if_neg h
def fillF (a : Int → Int) (lo n v : Int) : Int → Int := fun k => if lo ≤ k ∧ k < lo + n then v else a k
theorem fillF_0 (a : Int → Int) (lo v : Int) : fillF a lo 0 v = a := by
  funext k; exact if_neg (by omega)
theorem fillF_s (a : Int → Int) (lo v : Int) (j : Nat) : am_uf (fillF a lo (j : Int) v) (lo + (j : Int)) v = fillF a lo ((j + 1 : Nat) : Int) v := by
  funext k
  unfold am_uf fillF
  by_cases h : k = lo + (j : Int)
  · rw [if_pos h, if_pos (by omega)]
  · rw [if_neg h]
    by_cases h2 : lo ≤ k ∧ k < lo + (j : Int)
    · rw [if_pos h2, if_pos (by omega)]
    · rw [if_neg h2, if_neg (by omega)]
def volL (a : Int → Int) (m : Int) : Nat → Int
  | 0 => -1
  | k + 1 => if prtF a m (k : Int) 0 = 5 then prtF a m (k : Int) 1 else volL a m k
def volF (a : Int → Int) (m : Int) : Int := volL a m (lenF a m).toNat
def thgF (a : Int → Int) (s p : Int) : Int := a (6670 + 32 * s + 2 + p)
def bkF (a : Int → Int) (b w : Int) : Int := a (7182 + 8 * b + w)
def widF (a : Int → Int) (t : Int) : Int := if 1000 ≤ t then 5 else bkF a t 2 + (if bkF a t 0 = 3 then 10 else 0)
def mkF (a : Int → Int) (t : Int) : Int := bkF a (t % 1000) 1

theorem r_Model_volumeOf {d N : Nat} {P : am_P} {H : am_H} {m : Int} (hP : PZ P) (h1 : 0 ≤ m) (h2 : m < 200) (h3 : 0 ≤ lenF (H 54) m) (h4 : lenF (H 54) m ≤ 8) : am_R (d + 2) 85 [am_r 53, am_i (m)] (N, P, H) (some (am_i (volF (H 54) m))) (N, P, H) := by
  refine am_en1 (d := d + 1) (ml := 4) (ls := [_, _, _, _]) cq_Model_volumeOf rfl (Nat.le_of_ble_eq_true rfl) rfl ?_
  have hn : (((lenF (H 54) m).toNat : Nat) : Int) = lenF (H 54) m := Int.toNat_of_nonneg (by omega)
  have e0 : ∀ m k w, H 54 (70 + 33 * m + 1 + 4 * k + w) = prtF (H 54) m k w := fun _ _ _ => rfl
  have e1 : ∀ m, H 54 (70 + 33 * m) = lenF (H 54) m := fun _ => rfl
  refine st_iconst rfl ?_
  refine st_istore_n (ls' := [_, _, _, _]) rfl (Nat.le_of_ble_eq_true rfl) rfl ?_
  refine st_iconst rfl ?_
  refine st_istore_n (ls' := [_, _, _, _]) rfl (Nat.le_of_ble_eq_true rfl) rfl ?_
  refine up_ind (n := (lenF (H 54) m).toNat) (p := fun j => am_WP (am_R (d + 1)) cd_Model_volumeOf _ 4 [some (am_r 53), some (am_i m), some (am_i (volL (H 54) m j)), some (am_i (j : Int))] [] (N, P, H)) ?_ ?_ 0 (Nat.zero_le _)
  · show am_WP _ _ _ _ _ _ _
    refine st_iload_n rfl rfl ?_
    refine st_aload_n rfl rfl (by decide) ?_
    refine st_iload_n rfl rfl ?_
    refine st_cv1 (w := [_]) rfl rfl rfl (Nat.le_of_ble_eq_true rfl) (Nat.le_of_ble_eq_true rfl) rfl rfl (r_Model_partsOf hP (by omega) (by omega)) ?_
    rw [e1]
    refine st_icmp_ge rfl (fun h8 => ?_) (fun h8 => (by exfalso; omega))
    refine st_iload_n rfl rfl ?_
    refine st_iret rfl (fun z => by first | exact absurd z (by decide) | exact bi_01 _ | decide | omega) ?_
    exact ⟨rfl, rfl⟩
  · intro j hj ih
    have ih : am_WP _ _ _ _ _ _ _ := ih
    show am_WP _ _ _ _ _ _ _
    refine st_iload_n rfl rfl ?_
    refine st_aload_n rfl rfl (by decide) ?_
    refine st_iload_n rfl rfl ?_
    refine st_cv1 (w := [_]) rfl rfl rfl (Nat.le_of_ble_eq_true rfl) (Nat.le_of_ble_eq_true rfl) rfl rfl (r_Model_partsOf hP (by omega) (by omega)) ?_
    rw [e1]
    refine st_icmp_ge rfl (fun h8 => (by exfalso; omega)) (fun h8 => ?_)
    refine st_aload_n rfl rfl (by decide) ?_
    refine st_iload_n rfl rfl ?_
    refine st_iload_n rfl rfl ?_
    refine st_iconst rfl ?_
    refine st_cv1 (w := []) rfl rfl rfl (Nat.le_of_ble_eq_true rfl) (Nat.le_of_ble_eq_true rfl) rfl rfl (r_Model_partOf hP (by omega) (by omega) (by omega) (by omega) (by omega) (by omega)) ?_
    rw [e0]
    refine st_iconst rfl ?_
    refine st_icmp_ne rfl (fun h15 => ?_) (fun h15 => ?_)
    · refine st_iinc (ls' := [_, _, _, _]) rfl rfl (by omega) rfl ?_
      refine st_goto rfl ?_
      have e : volL (H 54) m (j + 1) = _ := rfl
      first
      | (rw [show volL (H 54) m (j + 1) = prtF (H 54) m j 1 from if_pos (by omega)] at ih; exact ih)
      | (rw [show volL (H 54) m (j + 1) = volL (H 54) m j from if_neg h15] at ih; exact ih)
    · refine st_aload_n rfl rfl (by decide) ?_
      refine st_iload_n rfl rfl ?_
      refine st_iload_n rfl rfl ?_
      refine st_iconst rfl ?_
      refine st_cv1 (w := []) rfl rfl rfl (Nat.le_of_ble_eq_true rfl) (Nat.le_of_ble_eq_true rfl) rfl rfl (r_Model_partOf hP (by omega) (by omega) (by omega) (by omega) (by omega) (by omega)) ?_
      rw [e0]
      refine st_istore_n (ls' := [_, _, _, _]) rfl (Nat.le_of_ble_eq_true rfl) rfl ?_
      refine st_iinc (ls' := [_, _, _, _]) rfl rfl (by omega) rfl ?_
      refine st_goto rfl ?_
      have e : volL (H 54) m (j + 1) = _ := rfl
      first
      | (rw [show volL (H 54) m (j + 1) = prtF (H 54) m j 1 from if_pos (by omega)] at ih; exact ih)
      | (rw [show volL (H 54) m (j + 1) = volL (H 54) m j from if_neg h15] at ih; exact ih)
theorem r_Model_wide {d N : Nat} {P : am_P} {H : am_H} {t : Int} (hP : PZ P) (h1 : 0 ≤ t) (h2 : t < 1000 → t < 200) (h3 : t < 1000 → 0 ≤ bkF (H 54) t 2 ∧ bkF (H 54) t 2 ≤ 200) : am_R (d + 2) 97 [am_r 53, am_i (t)] (N, P, H) (some (am_i (widF (H 54) t))) (N, P, H) := by
  refine am_en1 (d := d + 1) (ml := 2) (ls := [_, _]) cq_Model_wide rfl (Nat.le_of_ble_eq_true rfl) rfl ?_
  have e0 : ∀ b w, H 54 (7182 + 8 * b + w) = bkF (H 54) b w := fun _ _ => rfl
  refine st_iload_n rfl rfl ?_
  refine st_sipush rfl ?_
  refine st_icmp_lt rfl (fun h2 => ?_) (fun h2 => ?_)
  · refine st_aload_n rfl rfl (by decide) ?_
    refine st_iload_n rfl rfl ?_
    refine st_iconst rfl ?_
    refine st_cv1 (w := []) rfl rfl rfl (Nat.le_of_ble_eq_true rfl) (Nat.le_of_ble_eq_true rfl) rfl rfl (r_Model_of hP (by omega) (by omega) (by omega) (by omega)) ?_
    rw [e0]
    refine st_aload_n rfl rfl (by decide) ?_
    refine st_iload_n rfl rfl ?_
    refine st_iconst rfl ?_
    refine st_cv1 (w := [_]) rfl rfl rfl (Nat.le_of_ble_eq_true rfl) (Nat.le_of_ble_eq_true rfl) rfl rfl (r_Model_of hP (by omega) (by omega) (by omega) (by omega)) ?_
    rw [e0]
    refine st_iconst rfl ?_
    refine st_icmp_ne rfl (fun h14 => ?_) (fun h14 => ?_)
    · refine st_iconst rfl ?_
      refine st_iadd rfl (by omega) ?_
      refine st_iret rfl (fun z => by first | exact absurd z (by decide) | exact bi_01 _ | decide | omega) ?_
      exact ⟨am_ri (by unfold widF; (repeat' split) <;> omega), rfl⟩
    · refine st_bipush rfl ?_
      refine st_goto rfl ?_
      refine st_iadd rfl (by omega) ?_
      refine st_iret rfl (fun z => by first | exact absurd z (by decide) | exact bi_01 _ | decide | omega) ?_
      exact ⟨am_ri (by unfold widF; (repeat' split) <;> omega), rfl⟩
  · refine st_iconst rfl ?_
    refine st_goto rfl ?_
    refine st_iret rfl (fun z => by first | exact absurd z (by decide) | exact bi_01 _ | decide | omega) ?_
    exact ⟨am_ri (by unfold widF; (repeat' split) <;> omega), rfl⟩
theorem r_Model_markOf {d N : Nat} {P : am_P} {H : am_H} {t : Int} (hP : PZ P) (h1 : 0 ≤ t) (h2 : t % 1000 < 200) : am_R (d + 2) 98 [am_r 53, am_i (t)] (N, P, H) (some (am_i (mkF (H 54) t))) (N, P, H) := by
  refine am_en1 (d := d + 1) (ml := 2) (ls := [_, _]) cq_Model_markOf rfl (Nat.le_of_ble_eq_true rfl) rfl ?_
  refine st_aload_n rfl rfl (by decide) ?_
  refine st_iload_n rfl rfl ?_
  refine st_sipush rfl ?_
  refine st_irem rfl (by omega) (by omega) (by omega) ?_
  refine st_iconst rfl ?_
  refine st_cv1 (w := []) rfl rfl rfl (Nat.le_of_ble_eq_true rfl) (Nat.le_of_ble_eq_true rfl) rfl rfl (r_Model_of hP (by omega) (by omega) (by omega) (by omega)) ?_
  refine st_iret rfl (fun z => by first | exact absurd z (by decide) | exact bi_01 _ | decide | omega) ?_
  exact ⟨rfl, rfl⟩
def lvF (a : Int → Int) (b f : Int) : Int → Int :=
  am_uf (am_uf (if 0 ≤ bkF a b f then am_uf a (6670 + 32 * bkF a b f + 2 + bkF a b (f + 1)) (-1) else a) (7182 + 8 * b + f) (-1)) (7182 + 8 * b + f + 1) (-1)
def cmF (a : Int → Int) (b f s p : Int) : Int → Int :=
  am_uf (am_uf (am_uf (lvF a b f) (7182 + 8 * b + f) s) (7182 + 8 * b + f + 1) p) (6670 + 32 * s + 2 + p) (if f = 4 then b else 1000 + b)

theorem r_Model_leaves {d N : Nat} {P : am_P} {H : am_H} {b f : Int} (hP : PZ P) (h1 : 0 ≤ b) (h2 : b < 200) (h3 : f = 4 ∨ f = 6) (h4 : 0 ≤ bkF (H 54) b f → bkF (H 54) b f < 16 ∧ 0 ≤ bkF (H 54) b (f + 1) ∧ bkF (H 54) b (f + 1) < 30) : am_R (d + 2) 89 [am_r 53, am_i (b), am_i (f)] (N, P, H) none (N, P, am_so H 54 (lvF (H 54) b f)) := by
  refine am_en1 (d := d + 1) (ml := 4) (ls := [_, _, _, _]) cq_Model_leaves rfl (Nat.le_of_ble_eq_true rfl) rfl ?_
  have e0 : H 54 (7182 + 8 * b + f) = bkF (H 54) b f := rfl
  have e1 : H 54 (7182 + 8 * b + f + 1) = bkF (H 54) b (f + 1) := by unfold bkF; rw [Int.add_assoc (7182 + 8 * b)]
  refine st_sipush rfl ?_
  refine st_bipush rfl ?_
  refine st_iload_n rfl rfl ?_
  refine st_imul rfl (by omega) ?_
  refine st_iadd rfl (by omega) ?_
  refine st_iload_n rfl rfl ?_
  refine st_iadd rfl (by omega) ?_
  refine st_istore_n (ls' := [_, _, _, _]) rfl (Nat.le_of_ble_eq_true rfl) rfl ?_
  refine st_aload_n rfl rfl (by decide) ?_
  refine st_getR (kk := 0) rfl rfl rfl (pz_53_0 hP) rfl ?_
  refine st_iload_n rfl rfl ?_
  refine st_iaload rfl rfl (by omega) (by omega) ?_
  rw [e0]
  refine st_if_lt rfl (fun h12 => ?_) (fun h12 => ?_)
  · refine st_aload_n rfl rfl (by decide) ?_
    refine st_getR (kk := 0) rfl rfl rfl (pz_53_0 hP) rfl ?_
    refine st_iload_n rfl rfl ?_
    refine st_iconst rfl ?_
    refine st_iastore rfl rfl (by omega) (by omega) ?_
    refine st_aload_n rfl rfl (by decide) ?_
    refine st_getR (kk := 0) rfl rfl rfl (pz_53_0 hP) rfl ?_
    refine st_iload_n rfl rfl ?_
    refine st_iconst rfl ?_
    refine st_iadd rfl (by omega) ?_
    refine st_iconst rfl ?_
    refine st_iastore rfl rfl (by omega) (by omega) ?_
    refine st_ret rfl ?_
    refine ⟨rfl, ?_⟩
    unfold lvF
    first | rw [if_pos (by omega)] | rw [if_neg (by omega)]
    simp only [am_up, am_so_so, am_so_at]
  · refine st_aload_n rfl rfl (by decide) ?_
    refine st_getR (kk := 0) rfl rfl rfl (pz_53_0 hP) rfl ?_
    refine st_aload_n rfl rfl (by decide) ?_
    refine st_aload_n rfl rfl (by decide) ?_
    refine st_getR (kk := 0) rfl rfl rfl (pz_53_0 hP) rfl ?_
    refine st_iload_n rfl rfl ?_
    refine st_iaload rfl rfl (by omega) (by omega) ?_
    rw [e0]
    refine st_aload_n rfl rfl (by decide) ?_
    refine st_getR (kk := 0) rfl rfl rfl (pz_53_0 hP) rfl ?_
    refine st_iload_n rfl rfl ?_
    refine st_iconst rfl ?_
    refine st_iadd rfl (by omega) ?_
    refine st_iaload rfl rfl (by omega) (by omega) ?_
    rw [e1]
    refine st_cv1 (w := [_]) rfl rfl rfl (Nat.le_of_ble_eq_true rfl) (Nat.le_of_ble_eq_true rfl) rfl rfl (r_Model_placeOf (by omega) (by omega) (by omega) (by omega)) ?_
    refine st_iconst rfl ?_
    refine st_iastore rfl rfl (by omega) (by omega) ?_
    refine st_aload_n rfl rfl (by decide) ?_
    refine st_getR (kk := 0) rfl rfl rfl (pz_53_0 hP) rfl ?_
    refine st_iload_n rfl rfl ?_
    refine st_iconst rfl ?_
    refine st_iastore rfl rfl (by omega) (by omega) ?_
    refine st_aload_n rfl rfl (by decide) ?_
    refine st_getR (kk := 0) rfl rfl rfl (pz_53_0 hP) rfl ?_
    refine st_iload_n rfl rfl ?_
    refine st_iconst rfl ?_
    refine st_iadd rfl (by omega) ?_
    refine st_iconst rfl ?_
    refine st_iastore rfl rfl (by omega) (by omega) ?_
    refine st_ret rfl ?_
    refine ⟨rfl, ?_⟩
    unfold lvF
    first | rw [if_pos (by omega)] | rw [if_neg (by omega)]
    simp only [am_up, am_so_so, am_so_at]
theorem r_Model_comes {d N : Nat} {P : am_P} {H : am_H} {b f s p : Int} (hP : PZ P) (h1 : 0 ≤ b) (h2 : b < 200) (h3 : f = 4 ∨ f = 6) (h4 : 0 ≤ bkF (H 54) b f → bkF (H 54) b f < 16 ∧ 0 ≤ bkF (H 54) b (f + 1) ∧ bkF (H 54) b (f + 1) < 30) (h5 : 0 ≤ s) (h6 : s < 16) (h7 : 0 ≤ p) (h8 : p < 30) : am_R (d + 3) 90 [am_r 53, am_i (b), am_i (f), am_i (s), am_i (p)] (N, P, H) none (N, P, am_so H 54 (cmF (H 54) b f s p)) := by
  refine am_en1 (d := d + 2) (ml := 5) (ls := [_, _, _, _, _]) cq_Model_comes rfl (Nat.le_of_ble_eq_true rfl) rfl ?_
  refine st_aload_n rfl rfl (by decide) ?_
  refine st_iload_n rfl rfl ?_
  refine st_iload_n rfl rfl ?_
  refine st_cv0 (w := []) rfl rfl rfl (Nat.le_of_ble_eq_true rfl) (Nat.le_of_ble_eq_true rfl) rfl rfl (r_Model_leaves hP (by omega) (by omega) (by omega) (by assumption)) ?_
  refine st_aload_n rfl rfl (by decide) ?_
  refine st_getR (kk := 0) rfl rfl rfl (pz_53_0 hP) rfl ?_
  refine st_sipush rfl ?_
  refine st_bipush rfl ?_
  refine st_iload_n rfl rfl ?_
  refine st_imul rfl (by omega) ?_
  refine st_iadd rfl (by omega) ?_
  refine st_iload_n rfl rfl ?_
  refine st_iadd rfl (by omega) ?_
  refine st_iload_n rfl rfl ?_
  refine st_iastore rfl rfl (by omega) (by omega) ?_
  refine st_aload_n rfl rfl (by decide) ?_
  refine st_getR (kk := 0) rfl rfl rfl (pz_53_0 hP) rfl ?_
  refine st_sipush rfl ?_
  refine st_bipush rfl ?_
  refine st_iload_n rfl rfl ?_
  refine st_imul rfl (by omega) ?_
  refine st_iadd rfl (by omega) ?_
  refine st_iload_n rfl rfl ?_
  refine st_iadd rfl (by omega) ?_
  refine st_iconst rfl ?_
  refine st_iadd rfl (by omega) ?_
  refine st_iload rfl rfl ?_
  refine st_iastore rfl rfl (by omega) (by omega) ?_
  refine st_aload_n rfl rfl (by decide) ?_
  refine st_getR (kk := 0) rfl rfl rfl (pz_53_0 hP) rfl ?_
  refine st_aload_n rfl rfl (by decide) ?_
  refine st_iload_n rfl rfl ?_
  refine st_iload rfl rfl ?_
  refine st_cv1 (w := [_]) rfl rfl rfl (Nat.le_of_ble_eq_true rfl) (Nat.le_of_ble_eq_true rfl) rfl rfl (r_Model_placeOf (by omega) (by omega) (by omega) (by omega)) ?_
  refine st_iload_n rfl rfl ?_
  refine st_iconst rfl ?_
  refine st_icmp_ne rfl (fun h36 => ?_) (fun h36 => ?_)
  · refine st_sipush rfl ?_
    refine st_iload_n rfl rfl ?_
    refine st_iadd rfl (by omega) ?_
    refine st_iastore rfl rfl (by omega) (by omega) ?_
    refine st_ret rfl ?_
    refine ⟨rfl, ?_⟩
    unfold cmF
    first | rw [if_pos (by omega)] | rw [if_neg (by omega)]
    simp only [am_up, am_so_so, am_so_at]
  · refine st_iload_n rfl rfl ?_
    refine st_goto rfl ?_
    refine st_iastore rfl rfl (by omega) (by omega) ?_
    refine st_ret rfl ?_
    refine ⟨rfl, ?_⟩
    unfold cmF
    first | rw [if_pos (by omega)] | rw [if_neg (by omega)]
    simp only [am_up, am_so_so, am_so_at]
def rmL (a : Int → Int) (s : Int) : Nat → Int
  | 0 => a (6670 + 32 * s)
  | p + 1 => if 0 ≤ thgF a s (p : Int) then rmL a s p - widF a (thgF a s (p : Int)) else rmL a s p
def rmF (a : Int → Int) (s : Int) : Int := rmL a s 30
/-- what stands at a place is nothing, a book or a dummy of a book -/
def TH (a : Int → Int) (t : Int) : Prop := t = -1 ∨ (0 ≤ t ∧ t < a 3) ∨ (1000 ≤ t ∧ t < 1000 + a 3)
def BW (a : Int → Int) : Prop := (0 ≤ a 3 ∧ a 3 ≤ 200) ∧ ∀ b, 0 ≤ b → b < a 3 → 1 ≤ bkF a b 2 ∧ bkF a b 2 ≤ 200
theorem widF_r {a : Int → Int} (hb : BW a) {t : Int} (h : TH a t) (h0 : 0 ≤ t) : 1 ≤ widF a t ∧ widF a t ≤ 210 := by
  unfold widF
  rcases h with h | h | h
  · omega
  · have := hb.2 t h.1 h.2
    have := hb.1
    rw [if_neg (by omega)]
    split <;> omega
  · rw [if_pos (by omega)]; omega
theorem rmL_r {a : Int → Int} (hb : BW a) {s : Int} (ht : ∀ p, 0 ≤ p → p < 30 → TH a (thgF a s p)) : ∀ j : Nat, j ≤ 30 → a (6670 + 32 * s) - 210 * (j : Int) ≤ rmL a s j ∧ rmL a s j ≤ a (6670 + 32 * s)
  | 0, _ => by simp only [rmL]; omega
  | j + 1, h => by
    have ih := rmL_r hb ht j (by omega)
    simp only [rmL]
    split
    · rename_i h0
      have := widF_r hb (ht j (by omega) (by omega)) h0
      omega
    · omega

theorem r_Model_plainRoom {d N : Nat} {P : am_P} {H : am_H} {s : Int} (hP : PZ P) (h1 : 0 ≤ s) (h2 : s < 16) (hb : BW (H 54)) (ht : ∀ p, 0 ≤ p → p < 30 → TH (H 54) (thgF (H 54) s p)) (hw : -100000 ≤ H 54 (6670 + 32 * s) ∧ H 54 (6670 + 32 * s) ≤ 100000) : am_R (d + 3) 99 [am_r 53, am_i (s)] (N, P, H) (some (am_i (rmF (H 54) s))) (N, P, H) := by
  refine am_en1 (d := d + 2) (ml := 5) (ls := [_, _, _, _, _]) cq_Model_plainRoom rfl (Nat.le_of_ble_eq_true rfl) rfl ?_
  have e0 : ∀ p, H 54 (6670 + 32 * s + 2 + p) = thgF (H 54) s p := fun _ => rfl
  have hb1 := hb.1
  refine st_aload_n rfl rfl (by decide) ?_
  refine st_getR (kk := 0) rfl rfl rfl (pz_53_0 hP) rfl ?_
  refine st_sipush rfl ?_
  refine st_bipush rfl ?_
  refine st_iload_n rfl rfl ?_
  refine st_imul rfl (by omega) ?_
  refine st_iadd rfl (by omega) ?_
  refine st_iaload rfl rfl (by omega) (by omega) ?_
  refine st_istore_n (ls' := [_, _, _, _, _]) rfl (Nat.le_of_ble_eq_true rfl) rfl ?_
  refine st_iconst rfl ?_
  refine st_istore_n (ls' := [_, _, _, _, _]) rfl (Nat.le_of_ble_eq_true rfl) rfl ?_
  suffices hz : ∀ j, j ≤ 30 → ∀ w, am_WP (am_R (d + 2)) cd_Model_plainRoom (fun v' s' => v' = some (am_i (rmF (H 54) s)) ∧ s' = (N, P, H)) 11 [some (am_r 53), some (am_i s), some (am_i (rmL (H 54) s j)), some (am_i (j : Int)), w] [] (N, P, H) from hz 0 (Nat.zero_le _) _
  refine up_ind (n := 30) ?_ ?_
  · intro w
    refine st_iload_n rfl rfl ?_
    refine st_bipush rfl ?_
    refine st_icmp_ge rfl (fun h13 => ?_) (fun h13 => (by exfalso; omega))
    refine st_iload_n rfl rfl ?_
    refine st_iret rfl (fun z => by first | exact absurd z (by decide) | exact bi_01 _ | decide | omega) ?_
    exact ⟨rfl, rfl⟩
  · intro j hj ih w
    have hr := rmL_r hb ht j (by omega)
    have hth := ht j (by omega) (by omega)
    refine st_iload_n rfl rfl ?_
    refine st_bipush rfl ?_
    refine st_icmp_ge rfl (fun h13 => (by exfalso; omega)) (fun h13 => ?_)
    refine st_aload_n rfl rfl (by decide) ?_
    refine st_getR (kk := 0) rfl rfl rfl (pz_53_0 hP) rfl ?_
    refine st_aload_n rfl rfl (by decide) ?_
    refine st_iload_n rfl rfl ?_
    refine st_iload_n rfl rfl ?_
    refine st_cv1 (w := [_]) rfl rfl rfl (Nat.le_of_ble_eq_true rfl) (Nat.le_of_ble_eq_true rfl) rfl rfl (r_Model_placeOf (by omega) (by omega) (by omega) (by omega)) ?_
    refine st_iaload rfl rfl (by omega) (by omega) ?_
    rw [e0]
    refine st_istore (ls' := [_, _, _, _, _]) rfl (Nat.le_of_ble_eq_true rfl) rfl ?_
    refine st_iload rfl rfl ?_
    refine st_if_lt rfl (fun h23 => ?_) (fun h23 => ?_)
    · refine st_iinc (ls' := [_, _, _, _, _]) rfl rfl (by omega) rfl ?_
      refine st_goto rfl ?_
      have ih := ih (some (am_i (thgF (H 54) s j)))
      first
      | (rw [show rmL (H 54) s (j + 1) = rmL (H 54) s j from if_neg (by omega)] at ih; exact ih)
      | (rw [show rmL (H 54) s (j + 1) = rmL (H 54) s j - widF (H 54) (thgF (H 54) s j) from if_pos (by omega)] at ih; exact ih)
    · have hwd := widF_r hb hth (by omega)
      unfold TH at hth
      refine st_iload_n rfl rfl ?_
      refine st_aload_n rfl rfl (by decide) ?_
      refine st_iload rfl rfl ?_
      refine st_cv1 (w := [_]) rfl rfl rfl (Nat.le_of_ble_eq_true rfl) (Nat.le_of_ble_eq_true rfl) rfl rfl (r_Model_wide hP (by omega) (by omega) (fun z => by have := hb.2 _ (by omega : 0 ≤ thgF (H 54) s j) (by omega); omega)) ?_
      refine st_isub rfl (by omega) ?_
      refine st_istore_n (ls' := [_, _, _, _, _]) rfl (Nat.le_of_ble_eq_true rfl) rfl ?_
      refine st_iinc (ls' := [_, _, _, _, _]) rfl rfl (by omega) rfl ?_
      refine st_goto rfl ?_
      have ih := ih (some (am_i (thgF (H 54) s j)))
      first
      | (rw [show rmL (H 54) s (j + 1) = rmL (H 54) s j from if_neg (by omega)] at ih; exact ih)
      | (rw [show rmL (H 54) s (j + 1) = rmL (H 54) s j - widF (H 54) (thgF (H 54) s j) from if_pos (by omega)] at ih; exact ih)
