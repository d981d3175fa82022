/-! ===== what always holds of the reference; its calls on shelves and books ===== -/
def InvM (a : Int → Int) : Prop := (0 ≤ a 1 ∧ a 1 ≤ 200) ∧ ∀ m, 0 ≤ m → m < a 1 → MV a m
def InvS (a : Int → Int) : Prop := (0 ≤ a 2 ∧ a 2 ≤ 16) ∧ (∀ s, 0 ≤ s → s < a 2 → (100 ≤ a (6670 + 32 * s) ∧ a (6670 + 32 * s) ≤ 2000) ∧ (a (6670 + 32 * s + 1) = 0 ∨ a (6670 + 32 * s + 1) = 1)) ∧
  ∀ s p, 0 ≤ s → s < a 2 → 0 ≤ p → p < 30 → thgF a s p = -1 ∨ (0 ≤ thgF a s p ∧ thgF a s p < a 3 ∧ bkF a (thgF a s p) 4 = s ∧ bkF a (thgF a s p) 5 = p) ∨ (1000 ≤ thgF a s p ∧ thgF a s p < 1000 + a 3 ∧ bkF a (thgF a s p - 1000) 6 = s ∧ bkF a (thgF a s p - 1000) 7 = p)
def InvB1 (a : Int → Int) (b : Int) : Prop := (0 ≤ bkF a b 0 ∧ bkF a b 0 ≤ 3) ∧ (0 ≤ bkF a b 1 ∧ bkF a b 1 < a 1) ∧ (1 ≤ bkF a b 2 ∧ bkF a b 2 ≤ 200) ∧
  ((bkF a b 4 = -1 ∧ bkF a b 5 = -1) ∨ ((0 ≤ bkF a b 4 ∧ bkF a b 4 < a 2) ∧ (0 ≤ bkF a b 5 ∧ bkF a b 5 < 30) ∧ thgF a (bkF a b 4) (bkF a b 5) = b ∧ (a (6670 + 32 * bkF a b 4 + 1) = 1 ↔ bkF a b 0 = 1))) ∧
  ((bkF a b 6 = -1 ∧ bkF a b 7 = -1) ∨ ((0 ≤ bkF a b 6 ∧ bkF a b 6 < a 2) ∧ (0 ≤ bkF a b 7 ∧ bkF a b 7 < 30) ∧ thgF a (bkF a b 6) (bkF a b 7) = 1000 + b ∧ a (6670 + 32 * bkF a b 6 + 1) = 0 ∧ bkF a b 0 = 1))
def InvB (a : Int → Int) : Prop := (0 ≤ a 3 ∧ a 3 ≤ 200) ∧ ∀ b, 0 ≤ b → b < a 3 → InvB1 a b
def InvH (a : Int → Int) : Prop := (-1 ≤ a 5 ∧ a 5 < a 2) ∧ (0 ≤ a 6 ∧ a 6 ≤ 60) ∧ ∀ k, 0 ≤ k → k < a 6 → 0 ≤ a (7 + k) ∧ a (7 + k) < a 1
def InvL (a : Int → Int) : Prop := (∀ m, 0 ≤ m → m < 200 → (-1 ≤ a (8782 + m) ∧ a (8782 + m) < a 2) ∧ (a 1 ≤ m → a (8782 + m) = -1) ∧ ((a (8982 + m) = 0 ∧ a (9182 + m) = 0) ∨ (a (8982 + m) = 1 ∧ a (9182 + m) = 0) ∨ (a (8982 + m) = 1 ∧ a (9182 + m) = 1))) ∧
  ∀ s, 0 ≤ s → s < 16 → (a (9382 + 62 * s) = 0 ∨ a (9382 + 62 * s) = 1) ∧ (0 ≤ a (9382 + 62 * s + 1) ∧ a (9382 + 62 * s + 1) ≤ 60) ∧ ∀ k, 0 ≤ k → k < a (9382 + 62 * s + 1) → 0 ≤ a (9382 + 62 * s + 2 + k) ∧ a (9382 + 62 * s + 2 + k) < a 1
def InvG (a : Int → Int) : Prop := (0 ≤ a 4 ∧ a 4 ≤ 12) ∧ ∀ g, 0 ≤ g → g < a 4 → (0 ≤ a (10374 + 3 * g) ∧ a (10374 + 3 * g) < a 1) ∧ (0 ≤ a (10374 + 3 * g + 1) ∧ a (10374 + 3 * g + 1) < a 1) ∧ (1 ≤ a (10374 + 3 * g + 2) ∧ a (10374 + 3 * g + 2) ≤ 1000)
def Inv (a : Int → Int) : Prop := (a 0 = 0 ∨ a 0 = 1) ∧ InvM a ∧ InvS a ∧ InvB a ∧ InvH a ∧ InvL a ∧ InvG a
theorem Inv.m {a : Int → Int} (h : Inv a) : InvM a := h.2.1
theorem Inv.s {a : Int → Int} (h : Inv a) : InvS a := h.2.2.1
theorem Inv.b {a : Int → Int} (h : Inv a) : InvB a := h.2.2.2.1
theorem Inv.h {a : Int → Int} (h : Inv a) : InvH a := h.2.2.2.2.1
theorem Inv.l {a : Int → Int} (h : Inv a) : InvL a := h.2.2.2.2.2.1
theorem Inv.g {a : Int → Int} (h : Inv a) : InvG a := h.2.2.2.2.2.2
theorem Inv.mv {a : Int → Int} (h : Inv a) {m : Int} (h0 : 0 ≤ m) (h1 : m < a 1) : MV a m := h.m.2 m h0 h1
theorem Inv.bw {a : Int → Int} (h : Inv a) : BW a := ⟨h.b.1, fun b h0 h1 => (h.b.2 b h0 h1).2.2.1⟩
theorem Inv.th {a : Int → Int} (h : Inv a) {s p : Int} (h0 : 0 ≤ s) (h1 : s < a 2) (h2 : 0 ≤ p) (h3 : p < 30) : TH a (thgF a s p) := by
  rcases h.s.2.2 s p h0 h1 h2 h3 with q | q | q
  · exact Or.inl q
  · exact Or.inr (Or.inl ⟨q.1, q.2.1⟩)
  · exact Or.inr (Or.inr ⟨q.1, q.2.1⟩)
theorem Inv.n {a : Int → Int} (h : Inv a) : (0 ≤ a 1 ∧ a 1 ≤ 200) ∧ (0 ≤ a 2 ∧ a 2 ≤ 16) ∧ (0 ≤ a 3 ∧ a 3 ≤ 200) ∧ (0 ≤ a 4 ∧ a 4 ≤ 12) := ⟨h.m.1, h.s.1, h.b.1, h.g.1⟩
theorem mulb {x y A B : Int} (h1 : 0 ≤ x) (h2 : x ≤ A) (h3 : 0 ≤ y) (h4 : y ≤ B) : 0 ≤ x * y ∧ x * y ≤ A * B := ⟨Int.mul_nonneg h1 h3, Int.mul_le_mul h2 h4 h3 (by omega)⟩
abbrev isGr (a : Int → Int) (g s b : Int) : Prop := 0 ≤ bkF a b 4 ∧ (s < 0 ∨ bkF a b 4 = s) ∧ cmpF a (a (10374 + 3 * g)) (bkF a b 1) 0 ≤ 0 ∧ cmpF a (bkF a b 1) (a (10374 + 3 * g + 1)) 0 ≤ 0
def grL (a : Int → Int) (g s : Int) : Nat → Int
  | 0 => 0
  | b + 1 => grL a g s b + bi (isGr a g s (b : Int))
def grF (a : Int → Int) (g s : Int) : Int := grL a g s (a 3).toNat
theorem grL_r (a : Int → Int) (g s : Int) : ∀ j : Nat, 0 ≤ grL a g s j ∧ grL a g s j ≤ (j : Int)
  | 0 => by simp only [grL]; omega
  | j + 1 => by
    have ih := grL_r a g s j
    simp only [grL]
    have := bi_01 (isGr a g s (j : Int))
    omega
theorem grF_r {a : Int → Int} (h : 0 ≤ a 3 ∧ a 3 ≤ 200) (g s : Int) : 0 ≤ grF a g s ∧ grF a g s ≤ 200 := by
  have := grL_r a g s (a 3).toNat
  unfold grF
  omega
def riL (a : Int → Int) (s y : Int) : Nat → Int
  | 0 => rmF a s
  | g + 1 => if 0 < grF a (g : Int) (-1) then riL a s y g - (y * a (10374 + 3 * (g : Int) + 2) * grF a (g : Int) s + grF a (g : Int) (-1) - 1) / grF a (g : Int) (-1) else riL a s y g
def riF (a : Int → Int) (s y : Int) : Int := riL a s y (a 4).toNat

theorem r_Model_growing {d N : Nat} {P : am_P} {H : am_H} {g s : Int} (hP : PZ P) (hI : Inv (H 54)) (h1 : 0 ≤ g) (h2 : g < H 54 4) : am_R (d + 4) 100 [am_r 53, am_i (g), am_i (s)] (N, P, H) (some (am_i (grF (H 54) g s))) (N, P, H) := by
  refine am_en1 (d := d + 3) (ml := 7) (ls := [_, _, _, _, _, _, _]) cq_Model_growing rfl (Nat.le_of_ble_eq_true rfl) rfl ?_
  have hn := hI.n
  have hc : (((H 54 3).toNat : Nat) : Int) = H 54 3 := Int.toNat_of_nonneg (by omega)
  have e0 : ∀ b w, H 54 (7182 + 8 * b + w) = bkF (H 54) b w := fun _ _ => rfl
  have hg := hI.g.2 g h1 h2
  have hf := hI.mv hg.1.1 hg.1.2
  have ht := hI.mv hg.2.1.1 hg.2.1.2
  refine st_sipush rfl ?_
  refine st_iconst rfl ?_
  refine st_iload_n rfl rfl ?_
  refine st_imul rfl (by omega) ?_
  refine st_iadd rfl (by omega) ?_
  refine st_istore_n (ls' := [_, _, _, _, _, _, _]) rfl (Nat.le_of_ble_eq_true rfl) rfl ?_
  refine st_iconst rfl ?_
  refine st_istore (ls' := [_, _, _, _, _, _, _]) rfl (Nat.le_of_ble_eq_true rfl) rfl ?_
  refine st_iconst rfl ?_
  refine st_istore (ls' := [_, _, _, _, _, _, _]) rfl (Nat.le_of_ble_eq_true rfl) rfl ?_
  suffices hz : ∀ j, j ≤ (H 54 3).toNat → ∀ w, am_WP (am_R (d + 3)) cd_Model_growing (fun v' s' => v' = some (am_i (grF (H 54) g s)) ∧ s' = (N, P, H)) 10 [some (am_r 53), some (am_i g), some (am_i s), some (am_i (10374 + 3 * g)), some (am_i (grL (H 54) g s j)), some (am_i (j : Int)), w] [] (N, P, H) from hz 0 (Nat.zero_le _) _
  refine up_ind (n := (H 54 3).toNat) ?_ ?_
  · intro w
    refine st_iload rfl rfl ?_
    refine st_aload_n rfl rfl (by decide) ?_
    refine st_getR (kk := 0) rfl rfl rfl (pz_53_0 hP) rfl ?_
    refine st_iconst rfl ?_
    refine st_iaload rfl rfl (by omega) (by omega) ?_
    refine st_icmp_ge rfl (fun h15 => ?_) (fun h15 => (by exfalso; omega))
    refine st_iload rfl rfl ?_
    refine st_iret rfl (fun z => by first | exact absurd z (by decide) | exact bi_01 _ | decide | omega) ?_
    exact ⟨rfl, rfl⟩
  · intro j hj ih w
    have hr := grL_r (H 54) g s j
    have hbk := hI.b.2 (j : Int) (by omega) (by omega)
    have hm := hI.mv hbk.2.1.1 hbk.2.1.2
    refine st_iload rfl rfl ?_
    refine st_aload_n rfl rfl (by decide) ?_
    refine st_getR (kk := 0) rfl rfl rfl (pz_53_0 hP) rfl ?_
    refine st_iconst rfl ?_
    refine st_iaload rfl rfl (by omega) (by omega) ?_
    refine st_icmp_ge rfl (fun h15 => (by exfalso; omega)) (fun h15 => ?_)
    refine st_aload_n rfl rfl (by decide) ?_
    refine st_iload rfl rfl ?_
    refine st_iconst rfl ?_
    refine st_cv1 (w := []) rfl rfl rfl (Nat.le_of_ble_eq_true rfl) (Nat.le_of_ble_eq_true rfl) rfl rfl (r_Model_of hP (by omega) (by omega) (by omega) (by omega)) ?_
    rw [e0]
    refine st_if_lt rfl (fun h20 => ?_) (fun h20 => ?_)
    · refine st_iinc (ls' := [_, _, _, _, _, _, _]) rfl rfl (by omega) rfl ?_
      refine st_goto rfl ?_
      first
      | (rw [show grL (H 54) g s (j + 1) = grL (H 54) g s j + 1 by simp only [grL]; rw [bi_t (by omega)]] at ih; exact ih _)
      | (rw [show grL (H 54) g s (j + 1) = grL (H 54) g s j + 0 by simp only [grL]; rw [bi_f (by omega)]] at ih; exact ih _)
      | (rw [show grL (H 54) g s (j + 1) = grL (H 54) g s j by simp only [grL]; rw [bi_f (by omega), Int.add_zero]] at ih; exact ih _)
    · refine st_iload_n rfl rfl ?_
      refine st_if_lt rfl (fun h22 => ?_) (fun h22 => ?_)
      · refine st_aload_n rfl rfl (by decide) ?_
        refine st_aload_n rfl rfl (by decide) ?_
        refine st_getR (kk := 0) rfl rfl rfl (pz_53_0 hP) rfl ?_
        refine st_iload_n rfl rfl ?_
        refine st_iaload rfl rfl (by omega) (by omega) ?_
        refine st_aload_n rfl rfl (by decide) ?_
        refine st_iload rfl rfl ?_
        refine st_iconst rfl ?_
        refine st_cv1 (w := [_, _]) rfl rfl rfl (Nat.le_of_ble_eq_true rfl) (Nat.le_of_ble_eq_true rfl) rfl rfl (r_Model_of hP (by omega) (by omega) (by omega) (by omega)) ?_
        rw [e0]
        refine st_iconst rfl ?_
        refine st_cv1 (w := []) rfl rfl rfl (Nat.le_of_ble_eq_true rfl) (Nat.le_of_ble_eq_true rfl) rfl rfl (r_Model_compare hP (by assumption) (by assumption)) ?_
        refine st_if_gt rfl (fun h41 => ?_) (fun h41 => ?_)
        · refine st_iconst rfl ?_
          refine st_istore (ls' := [_, _, _, _, _, _, _]) rfl (Nat.le_of_ble_eq_true rfl) rfl ?_
          refine st_iload rfl rfl ?_
          refine st_iload rfl rfl ?_
          refine st_if_eq rfl (fun h62 => ?_) (fun h62 => (by exfalso; omega))
          refine st_iconst rfl ?_
          refine st_iadd rfl (by omega) ?_
          refine st_istore (ls' := [_, _, _, _, _, _, _]) rfl (Nat.le_of_ble_eq_true rfl) rfl ?_
          refine st_iinc (ls' := [_, _, _, _, _, _, _]) rfl rfl (by omega) rfl ?_
          refine st_goto rfl ?_
          first
          | (rw [show grL (H 54) g s (j + 1) = grL (H 54) g s j + 1 by simp only [grL]; rw [bi_t (by omega)]] at ih; exact ih _)
          | (rw [show grL (H 54) g s (j + 1) = grL (H 54) g s j + 0 by simp only [grL]; rw [bi_f (by omega)]] at ih; exact ih _)
          | (rw [show grL (H 54) g s (j + 1) = grL (H 54) g s j by simp only [grL]; rw [bi_f (by omega), Int.add_zero]] at ih; exact ih _)
        · refine st_aload_n rfl rfl (by decide) ?_
          refine st_aload_n rfl rfl (by decide) ?_
          refine st_iload rfl rfl ?_
          refine st_iconst rfl ?_
          refine st_cv1 (w := [_]) rfl rfl rfl (Nat.le_of_ble_eq_true rfl) (Nat.le_of_ble_eq_true rfl) rfl rfl (r_Model_of hP (by omega) (by omega) (by omega) (by omega)) ?_
          rw [e0]
          refine st_aload_n rfl rfl (by decide) ?_
          refine st_getR (kk := 0) rfl rfl rfl (pz_53_0 hP) rfl ?_
          refine st_iload_n rfl rfl ?_
          refine st_iconst rfl ?_
          refine st_iadd rfl (by omega) ?_
          refine st_iaload rfl rfl (by omega) (by omega) ?_
          refine st_iconst rfl ?_
          refine st_cv1 (w := []) rfl rfl rfl (Nat.le_of_ble_eq_true rfl) (Nat.le_of_ble_eq_true rfl) rfl rfl (r_Model_compare hP (by assumption) (by assumption)) ?_
          refine st_if_gt rfl (fun h55 => ?_) (fun h55 => ?_)
          · refine st_iconst rfl ?_
            refine st_istore (ls' := [_, _, _, _, _, _, _]) rfl (Nat.le_of_ble_eq_true rfl) rfl ?_
            refine st_iload rfl rfl ?_
            refine st_iload rfl rfl ?_
            refine st_if_eq rfl (fun h62 => ?_) (fun h62 => (by exfalso; omega))
            refine st_iconst rfl ?_
            refine st_iadd rfl (by omega) ?_
            refine st_istore (ls' := [_, _, _, _, _, _, _]) rfl (Nat.le_of_ble_eq_true rfl) rfl ?_
            refine st_iinc (ls' := [_, _, _, _, _, _, _]) rfl rfl (by omega) rfl ?_
            refine st_goto rfl ?_
            first
            | (rw [show grL (H 54) g s (j + 1) = grL (H 54) g s j + 1 by simp only [grL]; rw [bi_t (by omega)]] at ih; exact ih _)
            | (rw [show grL (H 54) g s (j + 1) = grL (H 54) g s j + 0 by simp only [grL]; rw [bi_f (by omega)]] at ih; exact ih _)
            | (rw [show grL (H 54) g s (j + 1) = grL (H 54) g s j by simp only [grL]; rw [bi_f (by omega), Int.add_zero]] at ih; exact ih _)
          · refine st_iconst rfl ?_
            refine st_goto rfl ?_
            refine st_istore (ls' := [_, _, _, _, _, _, _]) rfl (Nat.le_of_ble_eq_true rfl) rfl ?_
            refine st_iload rfl rfl ?_
            refine st_iload rfl rfl ?_
            refine st_if_eq rfl (fun h62 => (by exfalso; omega)) (fun h62 => ?_)
            refine st_iconst rfl ?_
            refine st_goto rfl ?_
            refine st_iadd rfl (by omega) ?_
            refine st_istore (ls' := [_, _, _, _, _, _, _]) rfl (Nat.le_of_ble_eq_true rfl) rfl ?_
            refine st_iinc (ls' := [_, _, _, _, _, _, _]) rfl rfl (by omega) rfl ?_
            refine st_goto rfl ?_
            first
            | (rw [show grL (H 54) g s (j + 1) = grL (H 54) g s j + 1 by simp only [grL]; rw [bi_t (by omega)]] at ih; exact ih _)
            | (rw [show grL (H 54) g s (j + 1) = grL (H 54) g s j + 0 by simp only [grL]; rw [bi_f (by omega)]] at ih; exact ih _)
            | (rw [show grL (H 54) g s (j + 1) = grL (H 54) g s j by simp only [grL]; rw [bi_f (by omega), Int.add_zero]] at ih; exact ih _)
      · refine st_aload_n rfl rfl (by decide) ?_
        refine st_iload rfl rfl ?_
        refine st_iconst rfl ?_
        refine st_cv1 (w := []) rfl rfl rfl (Nat.le_of_ble_eq_true rfl) (Nat.le_of_ble_eq_true rfl) rfl rfl (r_Model_of hP (by omega) (by omega) (by omega) (by omega)) ?_
        rw [e0]
        refine st_iload_n rfl rfl ?_
        refine st_icmp_eq rfl (fun h28 => ?_) (fun h28 => ?_)
        · refine st_aload_n rfl rfl (by decide) ?_
          refine st_aload_n rfl rfl (by decide) ?_
          refine st_getR (kk := 0) rfl rfl rfl (pz_53_0 hP) rfl ?_
          refine st_iload_n rfl rfl ?_
          refine st_iaload rfl rfl (by omega) (by omega) ?_
          refine st_aload_n rfl rfl (by decide) ?_
          refine st_iload rfl rfl ?_
          refine st_iconst rfl ?_
          refine st_cv1 (w := [_, _]) rfl rfl rfl (Nat.le_of_ble_eq_true rfl) (Nat.le_of_ble_eq_true rfl) rfl rfl (r_Model_of hP (by omega) (by omega) (by omega) (by omega)) ?_
          rw [e0]
          refine st_iconst rfl ?_
          refine st_cv1 (w := []) rfl rfl rfl (Nat.le_of_ble_eq_true rfl) (Nat.le_of_ble_eq_true rfl) rfl rfl (r_Model_compare hP (by assumption) (by assumption)) ?_
          refine st_if_gt rfl (fun h41 => ?_) (fun h41 => ?_)
          · refine st_iconst rfl ?_
            refine st_istore (ls' := [_, _, _, _, _, _, _]) rfl (Nat.le_of_ble_eq_true rfl) rfl ?_
            refine st_iload rfl rfl ?_
            refine st_iload rfl rfl ?_
            refine st_if_eq rfl (fun h62 => ?_) (fun h62 => (by exfalso; omega))
            refine st_iconst rfl ?_
            refine st_iadd rfl (by omega) ?_
            refine st_istore (ls' := [_, _, _, _, _, _, _]) rfl (Nat.le_of_ble_eq_true rfl) rfl ?_
            refine st_iinc (ls' := [_, _, _, _, _, _, _]) rfl rfl (by omega) rfl ?_
            refine st_goto rfl ?_
            first
            | (rw [show grL (H 54) g s (j + 1) = grL (H 54) g s j + 1 by simp only [grL]; rw [bi_t (by omega)]] at ih; exact ih _)
            | (rw [show grL (H 54) g s (j + 1) = grL (H 54) g s j + 0 by simp only [grL]; rw [bi_f (by omega)]] at ih; exact ih _)
            | (rw [show grL (H 54) g s (j + 1) = grL (H 54) g s j by simp only [grL]; rw [bi_f (by omega), Int.add_zero]] at ih; exact ih _)
          · refine st_aload_n rfl rfl (by decide) ?_
            refine st_aload_n rfl rfl (by decide) ?_
            refine st_iload rfl rfl ?_
            refine st_iconst rfl ?_
            refine st_cv1 (w := [_]) rfl rfl rfl (Nat.le_of_ble_eq_true rfl) (Nat.le_of_ble_eq_true rfl) rfl rfl (r_Model_of hP (by omega) (by omega) (by omega) (by omega)) ?_
            rw [e0]
            refine st_aload_n rfl rfl (by decide) ?_
            refine st_getR (kk := 0) rfl rfl rfl (pz_53_0 hP) rfl ?_
            refine st_iload_n rfl rfl ?_
            refine st_iconst rfl ?_
            refine st_iadd rfl (by omega) ?_
            refine st_iaload rfl rfl (by omega) (by omega) ?_
            refine st_iconst rfl ?_
            refine st_cv1 (w := []) rfl rfl rfl (Nat.le_of_ble_eq_true rfl) (Nat.le_of_ble_eq_true rfl) rfl rfl (r_Model_compare hP (by assumption) (by assumption)) ?_
            refine st_if_gt rfl (fun h55 => ?_) (fun h55 => ?_)
            · refine st_iconst rfl ?_
              refine st_istore (ls' := [_, _, _, _, _, _, _]) rfl (Nat.le_of_ble_eq_true rfl) rfl ?_
              refine st_iload rfl rfl ?_
              refine st_iload rfl rfl ?_
              refine st_if_eq rfl (fun h62 => ?_) (fun h62 => (by exfalso; omega))
              refine st_iconst rfl ?_
              refine st_iadd rfl (by omega) ?_
              refine st_istore (ls' := [_, _, _, _, _, _, _]) rfl (Nat.le_of_ble_eq_true rfl) rfl ?_
              refine st_iinc (ls' := [_, _, _, _, _, _, _]) rfl rfl (by omega) rfl ?_
              refine st_goto rfl ?_
              first
              | (rw [show grL (H 54) g s (j + 1) = grL (H 54) g s j + 1 by simp only [grL]; rw [bi_t (by omega)]] at ih; exact ih _)
              | (rw [show grL (H 54) g s (j + 1) = grL (H 54) g s j + 0 by simp only [grL]; rw [bi_f (by omega)]] at ih; exact ih _)
              | (rw [show grL (H 54) g s (j + 1) = grL (H 54) g s j by simp only [grL]; rw [bi_f (by omega), Int.add_zero]] at ih; exact ih _)
            · refine st_iconst rfl ?_
              refine st_goto rfl ?_
              refine st_istore (ls' := [_, _, _, _, _, _, _]) rfl (Nat.le_of_ble_eq_true rfl) rfl ?_
              refine st_iload rfl rfl ?_
              refine st_iload rfl rfl ?_
              refine st_if_eq rfl (fun h62 => (by exfalso; omega)) (fun h62 => ?_)
              refine st_iconst rfl ?_
              refine st_goto rfl ?_
              refine st_iadd rfl (by omega) ?_
              refine st_istore (ls' := [_, _, _, _, _, _, _]) rfl (Nat.le_of_ble_eq_true rfl) rfl ?_
              refine st_iinc (ls' := [_, _, _, _, _, _, _]) rfl rfl (by omega) rfl ?_
              refine st_goto rfl ?_
              first
              | (rw [show grL (H 54) g s (j + 1) = grL (H 54) g s j + 1 by simp only [grL]; rw [bi_t (by omega)]] at ih; exact ih _)
              | (rw [show grL (H 54) g s (j + 1) = grL (H 54) g s j + 0 by simp only [grL]; rw [bi_f (by omega)]] at ih; exact ih _)
              | (rw [show grL (H 54) g s (j + 1) = grL (H 54) g s j by simp only [grL]; rw [bi_f (by omega), Int.add_zero]] at ih; exact ih _)
        · refine st_goto rfl ?_
          refine st_iinc (ls' := [_, _, _, _, _, _, _]) rfl rfl (by omega) rfl ?_
          refine st_goto rfl ?_
          first
          | (rw [show grL (H 54) g s (j + 1) = grL (H 54) g s j + 1 by simp only [grL]; rw [bi_t (by omega)]] at ih; exact ih _)
          | (rw [show grL (H 54) g s (j + 1) = grL (H 54) g s j + 0 by simp only [grL]; rw [bi_f (by omega)]] at ih; exact ih _)
          | (rw [show grL (H 54) g s (j + 1) = grL (H 54) g s j by simp only [grL]; rw [bi_f (by omega), Int.add_zero]] at ih; exact ih _)
theorem riL_r {a : Int → Int} (hI : Inv a) {s y : Int} (h0 : 0 ≤ s) (h1 : s < a 2) (h2 : 0 ≤ y) (h3 : y ≤ 60) : ∀ j : Nat, (j : Int) ≤ a 4 → -7000 - 13000000 * (j : Int) ≤ riL a s y j ∧ riL a s y j ≤ 2000
  | 0, _ => by
    have hw := hI.s.2.1 s h0 h1
    have := rmL_r hI.bw (fun p q1 q2 => hI.th h0 h1 q1 q2) 30 (Nat.le_refl _)
    simp only [riL]
    unfold rmF
    omega
  | j + 1, h => by
    have ih := riL_r hI h0 h1 h2 h3 j (by omega)
    simp only [riL]
    split
    · rename_i hp
      have hg := hI.g.2 (j : Int) (by omega) (by omega)
      have k1 := grF_r hI.b.1 (j : Int) s
      have k2 := grF_r hI.b.1 (j : Int) (-1)
      have m1 := mulb h2 h3 (by omega : 0 ≤ a (10374 + 3 * (j : Int) + 2)) hg.2.2.2
      have m2 := mulb m1.1 m1.2 k1.1 k1.2
      have d1 := Int.ediv_nonneg (a := y * a (10374 + 3 * (j : Int) + 2) * grF a (j : Int) s + grF a (j : Int) (-1) - 1) (b := grF a (j : Int) (-1)) (by omega) (by omega)
      have d2 := Int.ediv_le_self (a := y * a (10374 + 3 * (j : Int) + 2) * grF a (j : Int) s + grF a (j : Int) (-1) - 1) (grF a (j : Int) (-1)) (by omega)
      omega
    · omega

theorem r_Model_roomIn {d N : Nat} {P : am_P} {H : am_H} {s y : Int} (hP : PZ P) (hI : Inv (H 54)) (h1 : 0 ≤ s) (h2 : s < H 54 2) (h3 : 0 ≤ y) (h4 : y ≤ 60) : am_R (d + 5) 101 [am_r 53, am_i (s), am_i (y)] (N, P, H) (some (am_i (riF (H 54) s y))) (N, P, H) := by
  refine am_en1 (d := d + 4) (ml := 7) (ls := [_, _, _, _, _, _, _]) cq_Model_roomIn rfl (Nat.le_of_ble_eq_true rfl) rfl ?_
  have hn := hI.n
  have hc : (((H 54 4).toNat : Nat) : Int) = H 54 4 := Int.toNat_of_nonneg (by omega)
  have hw := hI.s.2.1 s h1 h2
  refine st_aload_n rfl rfl (by decide) ?_
  refine st_iload_n rfl rfl ?_
  refine st_cv1 (w := []) rfl rfl rfl (Nat.le_of_ble_eq_true rfl) (Nat.le_of_ble_eq_true rfl) rfl rfl (r_Model_plainRoom hP (by omega) (by omega) hI.bw (fun p q1 q2 => hI.th h1 h2 q1 q2) (by omega)) ?_
  refine st_istore_n (ls' := [_, _, _, _, _, _, _]) rfl (Nat.le_of_ble_eq_true rfl) rfl ?_
  refine st_iconst rfl ?_
  refine st_istore (ls' := [_, _, _, _, _, _, _]) rfl (Nat.le_of_ble_eq_true rfl) rfl ?_
  suffices hz : ∀ j, j ≤ (H 54 4).toNat → ∀ w1 w2, am_WP (am_R (d + 4)) cd_Model_roomIn (fun v' s' => v' = some (am_i (riF (H 54) s y)) ∧ s' = (N, P, H)) 6 [some (am_r 53), some (am_i s), some (am_i y), some (am_i (riL (H 54) s y j)), some (am_i (j : Int)), w1, w2] [] (N, P, H) from hz 0 (Nat.zero_le _) _ _
  refine up_ind (n := (H 54 4).toNat) ?_ ?_
  · intro w1 w2
    refine st_iload rfl rfl ?_
    refine st_aload_n rfl rfl (by decide) ?_
    refine st_getR (kk := 0) rfl rfl rfl (pz_53_0 hP) rfl ?_
    refine st_iconst rfl ?_
    refine st_iaload rfl rfl (by omega) (by omega) ?_
    refine st_icmp_ge rfl (fun h11 => ?_) (fun h11 => (by exfalso; omega))
    refine st_iload_n rfl rfl ?_
    refine st_iret rfl (fun z => by first | exact absurd z (by decide) | exact bi_01 _ | decide | omega) ?_
    exact ⟨rfl, rfl⟩
  · intro j hj ih w1 w2
    have hr := riL_r hI h1 h2 h3 h4 j (by omega)
    have hg := hI.g.2 (j : Int) (by omega) (by omega)
    have k1 := grF_r hI.b.1 (j : Int) s
    have k2 := grF_r hI.b.1 (j : Int) (-1)
    have m1 := mulb h3 h4 (by omega : 0 ≤ H 54 (10374 + 3 * (j : Int) + 2)) hg.2.2.2
    have m2 := mulb m1.1 m1.2 k1.1 k1.2
    have d1 := fun (q : 0 < grF (H 54) (j : Int) (-1)) => Int.ediv_nonneg (a := y * H 54 (10374 + 3 * (j : Int) + 2) * grF (H 54) (j : Int) s + grF (H 54) (j : Int) (-1) - 1) (b := grF (H 54) (j : Int) (-1)) (by omega) (by omega)
    have d2 := fun (q : 0 < grF (H 54) (j : Int) (-1)) => Int.ediv_le_self (a := y * H 54 (10374 + 3 * (j : Int) + 2) * grF (H 54) (j : Int) s + grF (H 54) (j : Int) (-1) - 1) (grF (H 54) (j : Int) (-1)) (by omega)
    refine st_iload rfl rfl ?_
    refine st_aload_n rfl rfl (by decide) ?_
    refine st_getR (kk := 0) rfl rfl rfl (pz_53_0 hP) rfl ?_
    refine st_iconst rfl ?_
    refine st_iaload rfl rfl (by omega) (by omega) ?_
    refine st_icmp_ge rfl (fun h11 => (by exfalso; omega)) (fun h11 => ?_)
    refine st_aload_n rfl rfl (by decide) ?_
    refine st_iload rfl rfl ?_
    refine st_iconst rfl ?_
    refine st_cv1 (w := []) rfl rfl rfl (Nat.le_of_ble_eq_true rfl) (Nat.le_of_ble_eq_true rfl) rfl rfl (r_Model_growing hP hI (by omega) (by omega)) ?_
    refine st_istore (ls' := [_, _, _, _, _, _, _]) rfl (Nat.le_of_ble_eq_true rfl) rfl ?_
    refine st_aload_n rfl rfl (by decide) ?_
    refine st_iload rfl rfl ?_
    refine st_iload_n rfl rfl ?_
    refine st_cv1 (w := []) rfl rfl rfl (Nat.le_of_ble_eq_true rfl) (Nat.le_of_ble_eq_true rfl) rfl rfl (r_Model_growing hP hI (by omega) (by omega)) ?_
    refine st_istore (ls' := [_, _, _, _, _, _, _]) rfl (Nat.le_of_ble_eq_true rfl) rfl ?_
    refine st_iload rfl rfl ?_
    refine st_if_le rfl (fun h23 => ?_) (fun h23 => ?_)
    · refine st_iinc (ls' := [_, _, _, _, _, _, _]) rfl rfl (by omega) rfl ?_
      refine st_goto rfl ?_
      have ih := ih (some (am_i (grF (H 54) (j : Int) (-1)))) (some (am_i (grF (H 54) (j : Int) s)))
      first
      | (rw [show riL (H 54) s y (j + 1) = riL (H 54) s y j by simp only [riL]; rw [if_neg (by omega)]] at ih; exact ih)
      | (rw [show riL (H 54) s y (j + 1) = riL (H 54) s y j - (y * H 54 (10374 + 3 * (j : Int) + 2) * grF (H 54) (j : Int) s + grF (H 54) (j : Int) (-1) - 1) / grF (H 54) (j : Int) (-1) by simp only [riL]; rw [if_pos (by omega)]] at ih; exact ih)
    · have d1 := d1 (by omega)
      have d2 := d2 (by omega)
      refine st_iload_n rfl rfl ?_
      refine st_iload_n rfl rfl ?_
      refine st_aload_n rfl rfl (by decide) ?_
      refine st_getR (kk := 0) rfl rfl rfl (pz_53_0 hP) rfl ?_
      refine st_sipush rfl ?_
      refine st_iconst rfl ?_
      refine st_iload rfl rfl ?_
      refine st_imul rfl (by omega) ?_
      refine st_iadd rfl (by omega) ?_
      refine st_iconst rfl ?_
      refine st_iadd rfl (by omega) ?_
      refine st_iaload rfl rfl (by omega) (by omega) ?_
      refine st_imul rfl (by omega) ?_
      refine st_iload rfl rfl ?_
      refine st_imul rfl (by omega) ?_
      refine st_iload rfl rfl ?_
      refine st_iadd rfl (by omega) ?_
      refine st_iconst rfl ?_
      refine st_isub rfl (by omega) ?_
      refine st_iload rfl rfl ?_
      refine st_idiv rfl (by omega) (by omega) (by omega) ?_
      refine st_isub rfl (by omega) ?_
      refine st_istore_n (ls' := [_, _, _, _, _, _, _]) rfl (Nat.le_of_ble_eq_true rfl) rfl ?_
      refine st_iinc (ls' := [_, _, _, _, _, _, _]) rfl rfl (by omega) rfl ?_
      refine st_goto rfl ?_
      have ih := ih (some (am_i (grF (H 54) (j : Int) (-1)))) (some (am_i (grF (H 54) (j : Int) s)))
      first
      | (rw [show riL (H 54) s y (j + 1) = riL (H 54) s y j by simp only [riL]; rw [if_neg (by omega)]] at ih; exact ih)
      | (rw [show riL (H 54) s y (j + 1) = riL (H 54) s y j - (y * H 54 (10374 + 3 * (j : Int) + 2) * grF (H 54) (j : Int) s + grF (H 54) (j : Int) (-1) - 1) / grF (H 54) (j : Int) (-1) by simp only [riL]; rw [if_pos (by omega)]] at ih; exact ih)
theorem r_Model_room {d N : Nat} {P : am_P} {H : am_H} {s y : Int} (hP : PZ P) (hI : Inv (H 54)) : am_R (d + 6) 102 [am_r 53, am_i (s), am_i (y)] (N, P, H) (some (am_i (if (0 ≤ s ∧ s < H 54 2) ∧ 0 ≤ y ∧ y < 61 then riF (H 54) s y else -1000000))) (N, P, H) := by
  refine am_en1 (d := d + 5) (ml := 3) (ls := [_, _, _]) cq_Model_room rfl (Nat.le_of_ble_eq_true rfl) rfl ?_
  refine st_aload_n rfl rfl (by decide) ?_
  refine st_iload_n rfl rfl ?_
  refine st_cv1 (w := []) rfl rfl rfl (Nat.le_of_ble_eq_true rfl) (Nat.le_of_ble_eq_true rfl) rfl rfl (r_Model_isShelf hP) ?_
  refine st_if_eq_b rfl (fun h3 => ?_) (fun h3 => ?_)
  · refine st_ldc rfl ?_
    refine st_iret rfl (fun z => by first | exact absurd z (by decide) | exact bi_01 _ | decide | omega) ?_
    exact ⟨am_ri (by first | rw [if_pos (by omega)] | rw [if_neg (by omega)]), rfl⟩
  · refine st_iload_n rfl rfl ?_
    refine st_bipush rfl ?_
    refine st_cs1 (w := []) rfl (by decide) (by decide) (by decide) (Nat.le_of_ble_eq_true rfl) (Nat.le_of_ble_eq_true rfl) rfl rfl (r_Model_isIn) ?_
    refine st_if_eq_b rfl (fun h7 => ?_) (fun h7 => ?_)
    · refine st_ldc rfl ?_
      refine st_iret rfl (fun z => by first | exact absurd z (by decide) | exact bi_01 _ | decide | omega) ?_
      exact ⟨am_ri (by first | rw [if_pos (by omega)] | rw [if_neg (by omega)]), rfl⟩
    · refine st_aload_n rfl rfl (by decide) ?_
      refine st_iload_n rfl rfl ?_
      refine st_iload_n rfl rfl ?_
      refine st_cv1 (w := []) rfl rfl rfl (Nat.le_of_ble_eq_true rfl) (Nat.le_of_ble_eq_true rfl) rfl rfl (r_Model_roomIn hP hI (by omega) (by omega) (by omega) (by omega)) ?_
      refine st_goto rfl ?_
      refine st_iret rfl (fun z => by first | exact absurd z (by decide) | exact bi_01 _ | decide | omega) ?_
      exact ⟨am_ri (by first | rw [if_pos (by omega)] | rw [if_neg (by omega)]), rfl⟩
theorem r_Model_tell {d N : Nat} {P : am_P} {H : am_H} {b w : Int} (hP : PZ P) (hI : Inv (H 54)) : am_R (d + 3) 95 [am_r 53, am_i (b), am_i (w)] (N, P, H) (some (am_i (if (0 ≤ b ∧ b < H 54 3) ∧ 0 ≤ w ∧ w < 8 then bkF (H 54) b w else -1))) (N, P, H) := by
  refine am_en1 (d := d + 2) (ml := 3) (ls := [_, _, _]) cq_Model_tell rfl (Nat.le_of_ble_eq_true rfl) rfl ?_
  have hn := hI.n
  refine st_aload_n rfl rfl (by decide) ?_
  refine st_iload_n rfl rfl ?_
  refine st_cv1 (w := []) rfl rfl rfl (Nat.le_of_ble_eq_true rfl) (Nat.le_of_ble_eq_true rfl) rfl rfl (r_Model_isBook hP) ?_
  refine st_if_eq_b rfl (fun h3 => ?_) (fun h3 => ?_)
  · refine st_iconst rfl ?_
    refine st_iret rfl (fun z => by first | exact absurd z (by decide) | exact bi_01 _ | decide | omega) ?_
    exact ⟨am_ri (by first | (rw [if_pos (by omega)]; rfl) | rw [if_neg (by omega)]), rfl⟩
  · refine st_iload_n rfl rfl ?_
    refine st_bipush rfl ?_
    refine st_cs1 (w := []) rfl (by decide) (by decide) (by decide) (Nat.le_of_ble_eq_true rfl) (Nat.le_of_ble_eq_true rfl) rfl rfl (r_Model_isIn) ?_
    refine st_if_eq_b rfl (fun h7 => ?_) (fun h7 => ?_)
    · refine st_iconst rfl ?_
      refine st_iret rfl (fun z => by first | exact absurd z (by decide) | exact bi_01 _ | decide | omega) ?_
      exact ⟨am_ri (by first | (rw [if_pos (by omega)]; rfl) | rw [if_neg (by omega)]), rfl⟩
    · refine st_aload_n rfl rfl (by decide) ?_
      refine st_iload_n rfl rfl ?_
      refine st_iload_n rfl rfl ?_
      refine st_cv1 (w := []) rfl rfl rfl (Nat.le_of_ble_eq_true rfl) (Nat.le_of_ble_eq_true rfl) rfl rfl (r_Model_of hP (by omega) (by omega) (by omega) (by omega)) ?_
      refine st_goto rfl ?_
      refine st_iret rfl (fun z => by first | exact absurd z (by decide) | exact bi_01 _ | decide | omega) ?_
      exact ⟨am_ri (by first | (rw [if_pos (by omega)]; rfl) | rw [if_neg (by omega)]), rfl⟩
theorem r_Model_place {d N : Nat} {P : am_P} {H : am_H} {s p : Int} (hP : PZ P) (hI : Inv (H 54)) : am_R (d + 3) 96 [am_r 53, am_i (s), am_i (p)] (N, P, H) (some (am_i (if (0 ≤ s ∧ s < H 54 2) ∧ 0 ≤ p ∧ p < 30 then thgF (H 54) s p else -1))) (N, P, H) := by
  refine am_en1 (d := d + 2) (ml := 3) (ls := [_, _, _]) cq_Model_place rfl (Nat.le_of_ble_eq_true rfl) rfl ?_
  have hn := hI.n
  refine st_aload_n rfl rfl (by decide) ?_
  refine st_iload_n rfl rfl ?_
  refine st_cv1 (w := []) rfl rfl rfl (Nat.le_of_ble_eq_true rfl) (Nat.le_of_ble_eq_true rfl) rfl rfl (r_Model_isShelf hP) ?_
  refine st_if_eq_b rfl (fun h3 => ?_) (fun h3 => ?_)
  · refine st_iconst rfl ?_
    refine st_iret rfl (fun z => by first | exact absurd z (by decide) | exact bi_01 _ | decide | omega) ?_
    exact ⟨am_ri (by first | (rw [if_pos (by omega)]; rfl) | rw [if_neg (by omega)]), rfl⟩
  · refine st_iload_n rfl rfl ?_
    refine st_bipush rfl ?_
    refine st_cs1 (w := []) rfl (by decide) (by decide) (by decide) (Nat.le_of_ble_eq_true rfl) (Nat.le_of_ble_eq_true rfl) rfl rfl (r_Model_isIn) ?_
    refine st_if_eq_b rfl (fun h7 => ?_) (fun h7 => ?_)
    · refine st_iconst rfl ?_
      refine st_iret rfl (fun z => by first | exact absurd z (by decide) | exact bi_01 _ | decide | omega) ?_
      exact ⟨am_ri (by first | (rw [if_pos (by omega)]; rfl) | rw [if_neg (by omega)]), rfl⟩
    · refine st_aload_n rfl rfl (by decide) ?_
      refine st_getR (kk := 0) rfl rfl rfl (pz_53_0 hP) rfl ?_
      refine st_aload_n rfl rfl (by decide) ?_
      refine st_iload_n rfl rfl ?_
      refine st_iload_n rfl rfl ?_
      refine st_cv1 (w := [_]) rfl rfl rfl (Nat.le_of_ble_eq_true rfl) (Nat.le_of_ble_eq_true rfl) rfl rfl (r_Model_placeOf (by omega) (by omega) (by omega) (by omega)) ?_
      refine st_iaload rfl rfl (by omega) (by omega) ?_
      refine st_goto rfl ?_
      refine st_iret rfl (fun z => by first | exact absurd z (by decide) | exact bi_01 _ | decide | omega) ?_
      exact ⟨am_ri (by first | (rw [if_pos (by omega)]; rfl) | rw [if_neg (by omega)]), rfl⟩
theorem r_Model_part {d N : Nat} {P : am_P} {H : am_H} {m k w : Int} (hP : PZ P) (hI : Inv (H 54)) : am_R (d + 3) 69 [am_r 53, am_i (m), am_i (k), am_i (w)] (N, P, H) (some (am_i (if (0 ≤ m ∧ m < H 54 1) ∧ (0 ≤ k ∧ k < lenF (H 54) m) ∧ 0 ≤ w ∧ w < 4 then prtF (H 54) m k w else -1))) (N, P, H) := by
  refine am_en1 (d := d + 2) (ml := 4) (ls := [_, _, _, _]) cq_Model_part rfl (Nat.le_of_ble_eq_true rfl) rfl ?_
  have hn := hI.n
  have e1 : ∀ m, H 54 (70 + 33 * m) = lenF (H 54) m := fun _ => rfl
  refine st_aload_n rfl rfl (by decide) ?_
  refine st_iload_n rfl rfl ?_
  refine st_cv1 (w := []) rfl rfl rfl (Nat.le_of_ble_eq_true rfl) (Nat.le_of_ble_eq_true rfl) rfl rfl (r_Model_isMark hP) ?_
  refine st_if_eq_b rfl (fun h3 => ?_) (fun h3 => ?_)
  · refine st_iconst rfl ?_
    refine st_iret rfl (fun z => by first | exact absurd z (by decide) | exact bi_01 _ | decide | omega) ?_
    exact ⟨am_ri (by first | (rw [if_pos (by omega)]; rfl) | rw [if_neg (by omega)]), rfl⟩
  · refine st_iload_n rfl rfl ?_
    refine st_aload_n rfl rfl (by decide) ?_
    refine st_iload_n rfl rfl ?_
    refine st_cv1 (w := [_]) rfl rfl rfl (Nat.le_of_ble_eq_true rfl) (Nat.le_of_ble_eq_true rfl) rfl rfl (r_Model_partsOf hP (by omega) (by omega)) ?_
    rw [e1]
    refine st_cs1 (w := []) rfl (by decide) (by decide) (by decide) (Nat.le_of_ble_eq_true rfl) (Nat.le_of_ble_eq_true rfl) rfl rfl (r_Model_isIn) ?_
    refine st_if_eq_b rfl (fun h9 => ?_) (fun h9 => ?_)
    · refine st_iconst rfl ?_
      refine st_iret rfl (fun z => by first | exact absurd z (by decide) | exact bi_01 _ | decide | omega) ?_
      exact ⟨am_ri (by first | (rw [if_pos (by omega)]; rfl) | rw [if_neg (by omega)]), rfl⟩
    · refine st_iload_n rfl rfl ?_
      refine st_iconst rfl ?_
      refine st_cs1 (w := []) rfl (by decide) (by decide) (by decide) (Nat.le_of_ble_eq_true rfl) (Nat.le_of_ble_eq_true rfl) rfl rfl (r_Model_isIn) ?_
      refine st_if_ne_b rfl (fun h13 => ?_) (fun h13 => ?_)
      · have hm := (hI.mv (m := m) (by omega) (by omega)).2.1
        refine st_aload_n rfl rfl (by decide) ?_
        refine st_iload_n rfl rfl ?_
        refine st_iload_n rfl rfl ?_
        refine st_iload_n rfl rfl ?_
        refine st_cv1 (w := []) rfl rfl rfl (Nat.le_of_ble_eq_true rfl) (Nat.le_of_ble_eq_true rfl) rfl rfl (r_Model_partOf hP (by omega) (by omega) (by omega) (by omega) (by omega) (by omega)) ?_
        refine st_iret rfl (fun z => by first | exact absurd z (by decide) | exact bi_01 _ | decide | omega) ?_
        exact ⟨am_ri (by first | (rw [if_pos (by omega)]; rfl) | rw [if_neg (by omega)]), rfl⟩
      · refine st_iconst rfl ?_
        refine st_iret rfl (fun z => by first | exact absurd z (by decide) | exact bi_01 _ | decide | omega) ?_
        exact ⟨am_ri (by first | (rw [if_pos (by omega)]; rfl) | rw [if_neg (by omega)]), rfl⟩
theorem r_Model_sorts {d N : Nat} {P : am_P} {H : am_H} {x y : Int} (hP : PZ P) (hI : Inv (H 54)) : am_R (d + 5) 83 [am_r 53, am_i (x), am_i (y)] (N, P, H) (some (am_i (if (0 ≤ x ∧ x < H 54 1) ∧ 0 ≤ y ∧ y < H 54 1 then cmpF (H 54) x y (H 54 0) else -2))) (N, P, H) := by
  refine am_en1 (d := d + 4) (ml := 3) (ls := [_, _, _]) cq_Model_sorts rfl (Nat.le_of_ble_eq_true rfl) rfl ?_
  have hn := hI.n
  refine st_aload_n rfl rfl (by decide) ?_
  refine st_iload_n rfl rfl ?_
  refine st_cv1 (w := []) rfl rfl rfl (Nat.le_of_ble_eq_true rfl) (Nat.le_of_ble_eq_true rfl) rfl rfl (r_Model_isMark hP) ?_
  refine st_if_eq_b rfl (fun h3 => ?_) (fun h3 => ?_)
  · refine st_bipush rfl ?_
    refine st_iret rfl (fun z => by first | exact absurd z (by decide) | exact bi_01 _ | decide | omega) ?_
    exact ⟨am_ri (by first | rw [if_pos (by omega)] | rw [if_neg (by omega)]), rfl⟩
  · refine st_aload_n rfl rfl (by decide) ?_
    refine st_iload_n rfl rfl ?_
    refine st_cv1 (w := []) rfl rfl rfl (Nat.le_of_ble_eq_true rfl) (Nat.le_of_ble_eq_true rfl) rfl rfl (r_Model_isMark hP) ?_
    refine st_if_eq_b rfl (fun h7 => ?_) (fun h7 => ?_)
    · refine st_bipush rfl ?_
      refine st_iret rfl (fun z => by first | exact absurd z (by decide) | exact bi_01 _ | decide | omega) ?_
      exact ⟨am_ri (by first | rw [if_pos (by omega)] | rw [if_neg (by omega)]), rfl⟩
    · have hx := hI.mv (m := x) (by omega) (by omega)
      have hy := hI.mv (m := y) (by omega) (by omega)
      refine st_aload_n rfl rfl (by decide) ?_
      refine st_iload_n rfl rfl ?_
      refine st_iload_n rfl rfl ?_
      refine st_cv1 (w := []) rfl rfl rfl (Nat.le_of_ble_eq_true rfl) (Nat.le_of_ble_eq_true rfl) rfl rfl (r_Model_compared hP (by assumption) (by assumption)) ?_
      refine st_goto rfl ?_
      refine st_iret rfl (fun z => by first | exact absurd z (by decide) | exact bi_01 _ | decide | omega) ?_
      exact ⟨am_ri (by first | rw [if_pos (by omega)] | rw [if_neg (by omega)]), rfl⟩
theorem r_Model_read {d N : Nat} {P : am_P} {H : am_H} {k : Int} (hP : PZ P) (hI : Inv (H 54)) : am_R (d + 2) 107 [am_r 53, am_i (k)] (N, P, H) (some (am_i (if 0 ≤ H 54 5 ∧ 0 ≤ k ∧ k < H 54 6 then H 54 (7 + k) else -1))) (N, P, H) := by
  refine am_en1 (d := d + 1) (ml := 2) (ls := [_, _]) cq_Model_read rfl (Nat.le_of_ble_eq_true rfl) rfl ?_
  have hn := hI.n
  have hh := hI.h
  refine st_iload_n rfl rfl ?_
  refine st_aload_n rfl rfl (by decide) ?_
  refine st_cv1 (w := [_]) rfl rfl rfl (Nat.le_of_ble_eq_true rfl) (Nat.le_of_ble_eq_true rfl) rfl rfl (r_Model_many hP) ?_
  refine st_cs1 (w := []) rfl (by decide) (by decide) (by decide) (Nat.le_of_ble_eq_true rfl) (Nat.le_of_ble_eq_true rfl) rfl rfl (r_Model_isIn) ?_
  have hq : ∀ z, z < (if H 54 5 < 0 then 0 else H 54 6) ↔ ((H 54 5 < 0 ∧ z < 0) ∨ (0 ≤ H 54 5 ∧ z < H 54 6)) := fun z => by split <;> omega
  refine st_if_eq_b rfl (fun h4 => ?_) (fun h4 => ?_)
  · have hq := hq k
    refine st_iconst rfl ?_
    refine st_iret rfl (fun z => by first | exact absurd z (by decide) | exact bi_01 _ | decide | omega) ?_
    exact ⟨am_ri (by first | (rw [if_pos (by omega)]; rfl) | rw [if_neg (by omega)]), rfl⟩
  · have hq := (hq k).mp h4.2
    have h60 := hh.2.1
    refine st_aload_n rfl rfl (by decide) ?_
    refine st_iload_n rfl rfl ?_
    refine st_cv1 (w := []) rfl rfl rfl (Nat.le_of_ble_eq_true rfl) (Nat.le_of_ble_eq_true rfl) rfl rfl (r_Model_seenAt hP (by omega) (by omega)) ?_
    refine st_goto rfl ?_
    refine st_iret rfl (fun z => by first | exact absurd z (by decide) | exact bi_01 _ | decide | omega) ?_
    exact ⟨am_ri (by first | (rw [if_pos (by omega)]; rfl) | rw [if_neg (by omega)]), rfl⟩
theorem r_Model_listed {d N : Nat} {P : am_P} {H : am_H} {m : Int} (hP : PZ P) (hI : Inv (H 54)) : am_R (d + 3) 118 [am_r 53, am_i (m)] (N, P, H) (some (am_i (if 0 ≤ m ∧ m < H 54 1 then H 54 (8782 + m) else -1))) (N, P, H) := by
  refine am_en1 (d := d + 2) (ml := 2) (ls := [_, _]) cq_Model_listed rfl (Nat.le_of_ble_eq_true rfl) rfl ?_
  have hn := hI.n
  refine st_aload_n rfl rfl (by decide) ?_
  refine st_iload_n rfl rfl ?_
  refine st_cv1 (w := []) rfl rfl rfl (Nat.le_of_ble_eq_true rfl) (Nat.le_of_ble_eq_true rfl) rfl rfl (r_Model_isMark hP) ?_
  refine st_if_eq_b rfl (fun h3 => ?_) (fun h3 => ?_)
  · refine st_iconst rfl ?_
    refine st_iret rfl (fun z => by first | exact absurd z (by decide) | exact bi_01 _ | decide | omega) ?_
    exact ⟨am_ri (by first | rw [if_pos (by omega)] | rw [if_neg (by omega)]), rfl⟩
  · refine st_aload_n rfl rfl (by decide) ?_
    refine st_getR (kk := 0) rfl rfl rfl (pz_53_0 hP) rfl ?_
    refine st_sipush rfl ?_
    refine st_iload_n rfl rfl ?_
    refine st_iadd rfl (by omega) ?_
    refine st_iaload rfl rfl (by omega) (by omega) ?_
    refine st_goto rfl ?_
    refine st_iret rfl (fun z => by first | exact absurd z (by decide) | exact bi_01 _ | decide | omega) ?_
    exact ⟨am_ri (by first | rw [if_pos (by omega)] | rw [if_neg (by omega)]), rfl⟩
theorem r_Model_way {d N : Nat} {P : am_P} {H : am_H} {w : Int} (hP : PZ P) (hI : Inv (H 54)) : am_R (d + 2) 76 [am_r 53, am_i (w)] (N, P, H) (some (am_i (bi (0 ≤ w ∧ w < 2)))) (N, P, am_so H 54 (if 0 ≤ w ∧ w < 2 then am_uf (H 54) 0 w else H 54)) := by
  refine am_en1 (d := d + 1) (ml := 2) (ls := [_, _]) cq_Model_way rfl (Nat.le_of_ble_eq_true rfl) rfl ?_
  have hn := hI.n
  refine st_iload_n rfl rfl ?_
  refine st_iconst rfl ?_
  refine st_cs1 (w := []) rfl (by decide) (by decide) (by decide) (Nat.le_of_ble_eq_true rfl) (Nat.le_of_ble_eq_true rfl) rfl rfl (r_Model_isIn) ?_
  refine st_if_ne_b rfl (fun h3 => ?_) (fun h3 => ?_)
  · refine st_aload_n rfl rfl (by decide) ?_
    refine st_getR (kk := 0) rfl rfl rfl (pz_53_0 hP) rfl ?_
    refine st_iconst rfl ?_
    refine st_iload_n rfl rfl ?_
    refine st_iastore rfl rfl (by omega) (by omega) ?_
    refine st_iconst rfl ?_
    refine st_iret rfl (fun z => by first | exact absurd z (by decide) | exact bi_01 _ | decide | omega) ?_
    first
    | (refine ⟨am_ri (bi_f (by omega)).symm, ?_⟩; rw [if_neg (by omega), am_so_self])
    | (refine ⟨am_ri (bi_t (by omega)).symm, ?_⟩; rw [if_pos (by omega)]; try first | rfl | simp only [am_up, am_so_so, am_so_at])
  · refine st_iconst rfl ?_
    refine st_iret rfl (fun z => by first | exact absurd z (by decide) | exact bi_01 _ | decide | omega) ?_
    first
    | (refine ⟨am_ri (bi_f (by omega)).symm, ?_⟩; rw [if_neg (by omega), am_so_self])
    | (refine ⟨am_ri (bi_t (by omega)).symm, ?_⟩; rw [if_pos (by omega)]; try first | rfl | simp only [am_up, am_so_so, am_so_at])
theorem r_Model_list {d N : Nat} {P : am_P} {H : am_H} {m s : Int} (hP : PZ P) (hI : Inv (H 54)) : am_R (d + 3) 116 [am_r 53, am_i (m), am_i (s)] (N, P, H) (some (am_i (bi ((0 ≤ m ∧ m < H 54 1) ∧ 0 ≤ s ∧ s < H 54 2)))) (N, P, am_so H 54 (if (0 ≤ m ∧ m < H 54 1) ∧ 0 ≤ s ∧ s < H 54 2 then am_uf (H 54) (8782 + m) s else H 54)) := by
  refine am_en1 (d := d + 2) (ml := 3) (ls := [_, _, _]) cq_Model_list rfl (Nat.le_of_ble_eq_true rfl) rfl ?_
  have hn := hI.n
  refine st_aload_n rfl rfl (by decide) ?_
  refine st_iload_n rfl rfl ?_
  refine st_cv1 (w := []) rfl rfl rfl (Nat.le_of_ble_eq_true rfl) (Nat.le_of_ble_eq_true rfl) rfl rfl (r_Model_isMark hP) ?_
  refine st_if_eq_b rfl (fun h3 => ?_) (fun h3 => ?_)
  · refine st_iconst rfl ?_
    refine st_iret rfl (fun z => by first | exact absurd z (by decide) | exact bi_01 _ | decide | omega) ?_
    first
    | (refine ⟨am_ri (bi_f (by omega)).symm, ?_⟩; rw [if_neg (by omega), am_so_self])
    | (refine ⟨am_ri (bi_t (by omega)).symm, ?_⟩; rw [if_pos (by omega)]; try first | rfl | simp only [am_up, am_so_so, am_so_at])
  · refine st_aload_n rfl rfl (by decide) ?_
    refine st_iload_n rfl rfl ?_
    refine st_cv1 (w := []) rfl rfl rfl (Nat.le_of_ble_eq_true rfl) (Nat.le_of_ble_eq_true rfl) rfl rfl (r_Model_isShelf hP) ?_
    refine st_if_ne_b rfl (fun h7 => ?_) (fun h7 => ?_)
    · refine st_aload_n rfl rfl (by decide) ?_
      refine st_getR (kk := 0) rfl rfl rfl (pz_53_0 hP) rfl ?_
      refine st_sipush rfl ?_
      refine st_iload_n rfl rfl ?_
      refine st_iadd rfl (by omega) ?_
      refine st_iload_n rfl rfl ?_
      refine st_iastore rfl rfl (by omega) (by omega) ?_
      refine st_iconst rfl ?_
      refine st_iret rfl (fun z => by first | exact absurd z (by decide) | exact bi_01 _ | decide | omega) ?_
      first
      | (refine ⟨am_ri (bi_f (by omega)).symm, ?_⟩; rw [if_neg (by omega), am_so_self])
      | (refine ⟨am_ri (bi_t (by omega)).symm, ?_⟩; rw [if_pos (by omega)]; try first | rfl | simp only [am_up, am_so_so, am_so_at])
    · refine st_iconst rfl ?_
      refine st_iret rfl (fun z => by first | exact absurd z (by decide) | exact bi_01 _ | decide | omega) ?_
      first
      | (refine ⟨am_ri (bi_f (by omega)).symm, ?_⟩; rw [if_neg (by omega), am_so_self])
      | (refine ⟨am_ri (bi_t (by omega)).symm, ?_⟩; rw [if_pos (by omega)]; try first | rfl | simp only [am_up, am_so_so, am_so_at])
theorem r_Model_forget {d N : Nat} {P : am_P} {H : am_H} {m : Int} (hP : PZ P) (hI : Inv (H 54)) : am_R (d + 3) 117 [am_r 53, am_i (m)] (N, P, H) (some (am_i (bi ((0 ≤ m ∧ m < H 54 1) ∧ 0 ≤ H 54 (8782 + m))))) (N, P, am_so H 54 (if (0 ≤ m ∧ m < H 54 1) ∧ 0 ≤ H 54 (8782 + m) then am_uf (am_uf (am_uf (H 54) (8782 + m) (-1)) (8982 + m) 0) (9182 + m) 0 else H 54)) := by
  refine am_en1 (d := d + 2) (ml := 2) (ls := [_, _]) cq_Model_forget rfl (Nat.le_of_ble_eq_true rfl) rfl ?_
  have hn := hI.n
  refine st_aload_n rfl rfl (by decide) ?_
  refine st_iload_n rfl rfl ?_
  refine st_cv1 (w := []) rfl rfl rfl (Nat.le_of_ble_eq_true rfl) (Nat.le_of_ble_eq_true rfl) rfl rfl (r_Model_isMark hP) ?_
  refine st_if_eq_b rfl (fun h3 => ?_) (fun h3 => ?_)
  · refine st_iconst rfl ?_
    refine st_iret rfl (fun z => by first | exact absurd z (by decide) | exact bi_01 _ | decide | omega) ?_
    first
    | (refine ⟨am_ri (bi_f (by omega)).symm, ?_⟩; rw [if_neg (by omega), am_so_self])
    | (refine ⟨am_ri (bi_t (by omega)).symm, ?_⟩; rw [if_pos (by omega)]; try first | rfl | simp only [am_up, am_so_so, am_so_at])
  · refine st_aload_n rfl rfl (by decide) ?_
    refine st_getR (kk := 0) rfl rfl rfl (pz_53_0 hP) rfl ?_
    refine st_sipush rfl ?_
    refine st_iload_n rfl rfl ?_
    refine st_iadd rfl (by omega) ?_
    refine st_iaload rfl rfl (by omega) (by omega) ?_
    refine st_if_ge rfl (fun h10 => ?_) (fun h10 => ?_)
    · refine st_aload_n rfl rfl (by decide) ?_
      refine st_getR (kk := 0) rfl rfl rfl (pz_53_0 hP) rfl ?_
      refine st_sipush rfl ?_
      refine st_iload_n rfl rfl ?_
      refine st_iadd rfl (by omega) ?_
      refine st_iconst rfl ?_
      refine st_iastore rfl rfl (by omega) (by omega) ?_
      refine st_aload_n rfl rfl (by decide) ?_
      refine st_getR (kk := 0) rfl rfl rfl (pz_53_0 hP) rfl ?_
      refine st_sipush rfl ?_
      refine st_iload_n rfl rfl ?_
      refine st_iadd rfl (by omega) ?_
      refine st_iconst rfl ?_
      refine st_iastore rfl rfl (by omega) (by omega) ?_
      refine st_aload_n rfl rfl (by decide) ?_
      refine st_getR (kk := 0) rfl rfl rfl (pz_53_0 hP) rfl ?_
      refine st_sipush rfl ?_
      refine st_iload_n rfl rfl ?_
      refine st_iadd rfl (by omega) ?_
      refine st_iconst rfl ?_
      refine st_iastore rfl rfl (by omega) (by omega) ?_
      refine st_iconst rfl ?_
      refine st_iret rfl (fun z => by first | exact absurd z (by decide) | exact bi_01 _ | decide | omega) ?_
      first
      | (refine ⟨am_ri (bi_f (by omega)).symm, ?_⟩; rw [if_neg (by omega), am_so_self])
      | (refine ⟨am_ri (bi_t (by omega)).symm, ?_⟩; rw [if_pos (by omega)]; try first | rfl | simp only [am_up, am_so_so, am_so_at])
    · refine st_iconst rfl ?_
      refine st_iret rfl (fun z => by first | exact absurd z (by decide) | exact bi_01 _ | decide | omega) ?_
      first
      | (refine ⟨am_ri (bi_f (by omega)).symm, ?_⟩; rw [if_neg (by omega), am_so_self])
      | (refine ⟨am_ri (bi_t (by omega)).symm, ?_⟩; rw [if_pos (by omega)]; try first | rfl | simp only [am_up, am_so_so, am_so_at])
theorem Inv.b4 {a : Int → Int} (hI : Inv a) {b : Int} (h0 : 0 ≤ b) (h1 : b < a 3) : 0 ≤ bkF a b 4 → bkF a b 4 < 16 ∧ 0 ≤ bkF a b (4 + 1) ∧ bkF a b (4 + 1) < 30 := by
  intro z
  have hn := hI.n
  rcases (hI.b.2 b h0 h1).2.2.2.1 with q | q
  · omega
  · exact ⟨by omega, q.2.1.1, q.2.1.2⟩
theorem Inv.b6 {a : Int → Int} (hI : Inv a) {b : Int} (h0 : 0 ≤ b) (h1 : b < a 3) : 0 ≤ bkF a b 6 → bkF a b 6 < 16 ∧ 0 ≤ bkF a b (6 + 1) ∧ bkF a b (6 + 1) < 30 := by
  intro z
  have hn := hI.n
  rcases (hI.b.2 b h0 h1).2.2.2.2 with q | q
  · omega
  · exact ⟨by omega, q.2.1.1, q.2.1.2⟩
theorem bi_x {x : Int} (h : x = 0 ∨ x = 1) : bi (x = 1) = x := by rcases h with rfl | rfl <;> rfl

theorem r_Model_stand {d N : Nat} {P : am_P} {H : am_H} {b s p : Int} (hP : PZ P) (hI : Inv (H 54)) : am_R (d + 4) 92 [am_r 53, am_i (b), am_i (s), am_i (p)] (N, P, H) (some (am_i (bi ((0 ≤ b ∧ b < H 54 3) ∧ (0 ≤ s ∧ s < H 54 2) ∧ (0 ≤ p ∧ p < 30) ∧ (H 54 (6670 + 32 * s + 1) = 1 ↔ bkF (H 54) b 0 = 1) ∧ thgF (H 54) s p < 0)))) (N, P, am_so H 54 (if (0 ≤ b ∧ b < H 54 3) ∧ (0 ≤ s ∧ s < H 54 2) ∧ (0 ≤ p ∧ p < 30) ∧ (H 54 (6670 + 32 * s + 1) = 1 ↔ bkF (H 54) b 0 = 1) ∧ thgF (H 54) s p < 0 then cmF (H 54) b 4 s p else H 54)) := by
  refine am_en1 (d := d + 3) (ml := 4) (ls := [_, _, _, _]) cq_Model_stand rfl (Nat.le_of_ble_eq_true rfl) rfl ?_
  have hn := hI.n
  have e0 : ∀ b w, H 54 (7182 + 8 * b + w) = bkF (H 54) b w := fun _ _ => rfl
  have et : ∀ s p, H 54 (6670 + 32 * s + 2 + p) = thgF (H 54) s p := fun _ _ => rfl
  refine st_aload_n rfl rfl (by decide) ?_
  refine st_iload_n rfl rfl ?_
  refine st_cv1 (w := []) rfl rfl rfl (Nat.le_of_ble_eq_true rfl) (Nat.le_of_ble_eq_true rfl) rfl rfl (r_Model_isBook hP) ?_
  refine st_if_eq_b rfl (fun h3 => ?_) (fun h3 => ?_)
  · refine st_iconst rfl ?_
    refine st_iret rfl (fun z => by first | exact absurd z (by decide) | exact bi_01 _ | decide | omega) ?_
    first
    | (refine ⟨am_ri (bi_f (by omega)).symm, ?_⟩; rw [if_neg (by omega), am_so_self])
    | (refine ⟨am_ri (bi_t (by omega)).symm, ?_⟩; rw [if_pos (by omega)]; try first | rfl | simp only [am_up, am_so_so, am_so_at])
  · refine st_aload_n rfl rfl (by decide) ?_
    refine st_iload_n rfl rfl ?_
    refine st_cv1 (w := []) rfl rfl rfl (Nat.le_of_ble_eq_true rfl) (Nat.le_of_ble_eq_true rfl) rfl rfl (r_Model_isShelf hP) ?_
    refine st_if_eq_b rfl (fun h7 => ?_) (fun h7 => ?_)
    · refine st_iconst rfl ?_
      refine st_iret rfl (fun z => by first | exact absurd z (by decide) | exact bi_01 _ | decide | omega) ?_
      first
      | (refine ⟨am_ri (bi_f (by omega)).symm, ?_⟩; rw [if_neg (by omega), am_so_self])
      | (refine ⟨am_ri (bi_t (by omega)).symm, ?_⟩; rw [if_pos (by omega)]; try first | rfl | simp only [am_up, am_so_so, am_so_at])
    · refine st_iload_n rfl rfl ?_
      refine st_bipush rfl ?_
      refine st_cs1 (w := []) rfl (by decide) (by decide) (by decide) (Nat.le_of_ble_eq_true rfl) (Nat.le_of_ble_eq_true rfl) rfl rfl (r_Model_isIn) ?_
      refine st_if_ne_b rfl (fun h11 => ?_) (fun h11 => ?_)
      · refine st_aload_n rfl rfl (by decide) ?_
        refine st_iload_n rfl rfl ?_
        refine st_cv1 (w := []) rfl rfl rfl (Nat.le_of_ble_eq_true rfl) (Nat.le_of_ble_eq_true rfl) rfl rfl (r_Model_isHigh hP (by omega) (by omega)) ?_
        have hs := (hI.s.2.1 s (by omega) (by omega)).2
        rw [bi_x hs]
        refine st_aload_n rfl rfl (by decide) ?_
        refine st_iload_n rfl rfl ?_
        refine st_iconst rfl ?_
        refine st_cv1 (w := [_]) rfl rfl rfl (Nat.le_of_ble_eq_true rfl) (Nat.le_of_ble_eq_true rfl) rfl rfl (r_Model_of hP (by omega) (by omega) (by omega) (by omega)) ?_
        rw [e0]
        refine st_iconst rfl ?_
        refine st_icmp_ne rfl (fun h22 => ?_) (fun h22 => ?_)
        · refine st_iconst rfl ?_
          refine st_icmp_ne rfl (fun h26 => ?_) (fun h26 => ?_)
          · refine st_iconst rfl ?_
            refine st_iret rfl (fun z => by first | exact absurd z (by decide) | exact bi_01 _ | decide | omega) ?_
            first
            | (refine ⟨am_ri (bi_f (by omega)).symm, ?_⟩; rw [if_neg (by omega), am_so_self])
            | (refine ⟨am_ri (bi_t (by omega)).symm, ?_⟩; rw [if_pos (by omega)]; try first | rfl | simp only [am_up, am_so_so, am_so_at])
          · refine st_aload_n rfl rfl (by decide) ?_
            refine st_getR (kk := 0) rfl rfl rfl (pz_53_0 hP) rfl ?_
            refine st_aload_n rfl rfl (by decide) ?_
            refine st_iload_n rfl rfl ?_
            refine st_iload_n rfl rfl ?_
            refine st_cv1 (w := [_]) rfl rfl rfl (Nat.le_of_ble_eq_true rfl) (Nat.le_of_ble_eq_true rfl) rfl rfl (r_Model_placeOf (by omega) (by omega) (by omega) (by omega)) ?_
            refine st_iaload rfl rfl (by omega) (by omega) ?_
            rw [et]
            refine st_if_lt rfl (fun h34 => ?_) (fun h34 => ?_)
            · have h4 := hI.b4 (b := b) (by omega) (by omega)
              refine st_aload_n rfl rfl (by decide) ?_
              refine st_iload_n rfl rfl ?_
              refine st_iconst rfl ?_
              refine st_iload_n rfl rfl ?_
              refine st_iload_n rfl rfl ?_
              refine st_cv0 (w := []) rfl rfl rfl (Nat.le_of_ble_eq_true rfl) (Nat.le_of_ble_eq_true rfl) rfl rfl (r_Model_comes hP (by omega) (by omega) (by omega) (by assumption) (by omega) (by omega) (by omega) (by omega)) ?_
              refine st_iconst rfl ?_
              refine st_iret rfl (fun z => by first | exact absurd z (by decide) | exact bi_01 _ | decide | omega) ?_
              first
              | (refine ⟨am_ri (bi_f (by omega)).symm, ?_⟩; rw [if_neg (by omega), am_so_self])
              | (refine ⟨am_ri (bi_t (by omega)).symm, ?_⟩; rw [if_pos (by omega)]; try first | rfl | simp only [am_up, am_so_so, am_so_at])
            · refine st_iconst rfl ?_
              refine st_iret rfl (fun z => by first | exact absurd z (by decide) | exact bi_01 _ | decide | omega) ?_
              first
              | (refine ⟨am_ri (bi_f (by omega)).symm, ?_⟩; rw [if_neg (by omega), am_so_self])
              | (refine ⟨am_ri (bi_t (by omega)).symm, ?_⟩; rw [if_pos (by omega)]; try first | rfl | simp only [am_up, am_so_so, am_so_at])
        · refine st_iconst rfl ?_
          refine st_goto rfl ?_
          refine st_icmp_ne rfl (fun h26 => ?_) (fun h26 => ?_)
          · refine st_iconst rfl ?_
            refine st_iret rfl (fun z => by first | exact absurd z (by decide) | exact bi_01 _ | decide | omega) ?_
            first
            | (refine ⟨am_ri (bi_f (by omega)).symm, ?_⟩; rw [if_neg (by omega), am_so_self])
            | (refine ⟨am_ri (bi_t (by omega)).symm, ?_⟩; rw [if_pos (by omega)]; try first | rfl | simp only [am_up, am_so_so, am_so_at])
          · refine st_aload_n rfl rfl (by decide) ?_
            refine st_getR (kk := 0) rfl rfl rfl (pz_53_0 hP) rfl ?_
            refine st_aload_n rfl rfl (by decide) ?_
            refine st_iload_n rfl rfl ?_
            refine st_iload_n rfl rfl ?_
            refine st_cv1 (w := [_]) rfl rfl rfl (Nat.le_of_ble_eq_true rfl) (Nat.le_of_ble_eq_true rfl) rfl rfl (r_Model_placeOf (by omega) (by omega) (by omega) (by omega)) ?_
            refine st_iaload rfl rfl (by omega) (by omega) ?_
            rw [et]
            refine st_if_lt rfl (fun h34 => ?_) (fun h34 => ?_)
            · have h4 := hI.b4 (b := b) (by omega) (by omega)
              refine st_aload_n rfl rfl (by decide) ?_
              refine st_iload_n rfl rfl ?_
              refine st_iconst rfl ?_
              refine st_iload_n rfl rfl ?_
              refine st_iload_n rfl rfl ?_
              refine st_cv0 (w := []) rfl rfl rfl (Nat.le_of_ble_eq_true rfl) (Nat.le_of_ble_eq_true rfl) rfl rfl (r_Model_comes hP (by omega) (by omega) (by omega) (by assumption) (by omega) (by omega) (by omega) (by omega)) ?_
              refine st_iconst rfl ?_
              refine st_iret rfl (fun z => by first | exact absurd z (by decide) | exact bi_01 _ | decide | omega) ?_
              first
              | (refine ⟨am_ri (bi_f (by omega)).symm, ?_⟩; rw [if_neg (by omega), am_so_self])
              | (refine ⟨am_ri (bi_t (by omega)).symm, ?_⟩; rw [if_pos (by omega)]; try first | rfl | simp only [am_up, am_so_so, am_so_at])
            · refine st_iconst rfl ?_
              refine st_iret rfl (fun z => by first | exact absurd z (by decide) | exact bi_01 _ | decide | omega) ?_
              first
              | (refine ⟨am_ri (bi_f (by omega)).symm, ?_⟩; rw [if_neg (by omega), am_so_self])
              | (refine ⟨am_ri (bi_t (by omega)).symm, ?_⟩; rw [if_pos (by omega)]; try first | rfl | simp only [am_up, am_so_so, am_so_at])
      · refine st_iconst rfl ?_
        refine st_iret rfl (fun z => by first | exact absurd z (by decide) | exact bi_01 _ | decide | omega) ?_
        first
        | (refine ⟨am_ri (bi_f (by omega)).symm, ?_⟩; rw [if_neg (by omega), am_so_self])
        | (refine ⟨am_ri (bi_t (by omega)).symm, ?_⟩; rw [if_pos (by omega)]; try first | rfl | simp only [am_up, am_so_so, am_so_at])
theorem r_Model_dummy {d N : Nat} {P : am_P} {H : am_H} {b s p : Int} (hP : PZ P) (hI : Inv (H 54)) : am_R (d + 4) 93 [am_r 53, am_i (b), am_i (s), am_i (p)] (N, P, H) (some (am_i (bi ((0 ≤ b ∧ b < H 54 3) ∧ (0 ≤ s ∧ s < H 54 2) ∧ (0 ≤ p ∧ p < 30) ∧ bkF (H 54) b 0 = 1 ∧ 0 ≤ bkF (H 54) b 4 ∧ ¬ H 54 (6670 + 32 * s + 1) = 1 ∧ thgF (H 54) s p < 0)))) (N, P, am_so H 54 (if (0 ≤ b ∧ b < H 54 3) ∧ (0 ≤ s ∧ s < H 54 2) ∧ (0 ≤ p ∧ p < 30) ∧ bkF (H 54) b 0 = 1 ∧ 0 ≤ bkF (H 54) b 4 ∧ ¬ H 54 (6670 + 32 * s + 1) = 1 ∧ thgF (H 54) s p < 0 then cmF (H 54) b 6 s p else H 54)) := by
  refine am_en1 (d := d + 3) (ml := 4) (ls := [_, _, _, _]) cq_Model_dummy rfl (Nat.le_of_ble_eq_true rfl) rfl ?_
  have hn := hI.n
  have e0 : ∀ b w, H 54 (7182 + 8 * b + w) = bkF (H 54) b w := fun _ _ => rfl
  have et : ∀ s p, H 54 (6670 + 32 * s + 2 + p) = thgF (H 54) s p := fun _ _ => rfl
  refine st_aload_n rfl rfl (by decide) ?_
  refine st_iload_n rfl rfl ?_
  refine st_cv1 (w := []) rfl rfl rfl (Nat.le_of_ble_eq_true rfl) (Nat.le_of_ble_eq_true rfl) rfl rfl (r_Model_isBook hP) ?_
  refine st_if_eq_b rfl (fun h3 => ?_) (fun h3 => ?_)
  · refine st_iconst rfl ?_
    refine st_iret rfl (fun z => by first | exact absurd z (by decide) | exact bi_01 _ | decide | omega) ?_
    first
    | (refine ⟨am_ri (bi_f (by omega)).symm, ?_⟩; rw [if_neg (by omega), am_so_self])
    | (refine ⟨am_ri (bi_t (by omega)).symm, ?_⟩; rw [if_pos (by omega)]; try first | rfl | simp only [am_up, am_so_so, am_so_at])
  · refine st_aload_n rfl rfl (by decide) ?_
    refine st_iload_n rfl rfl ?_
    refine st_cv1 (w := []) rfl rfl rfl (Nat.le_of_ble_eq_true rfl) (Nat.le_of_ble_eq_true rfl) rfl rfl (r_Model_isShelf hP) ?_
    refine st_if_eq_b rfl (fun h7 => ?_) (fun h7 => ?_)
    · refine st_iconst rfl ?_
      refine st_iret rfl (fun z => by first | exact absurd z (by decide) | exact bi_01 _ | decide | omega) ?_
      first
      | (refine ⟨am_ri (bi_f (by omega)).symm, ?_⟩; rw [if_neg (by omega), am_so_self])
      | (refine ⟨am_ri (bi_t (by omega)).symm, ?_⟩; rw [if_pos (by omega)]; try first | rfl | simp only [am_up, am_so_so, am_so_at])
    · refine st_iload_n rfl rfl ?_
      refine st_bipush rfl ?_
      refine st_cs1 (w := []) rfl (by decide) (by decide) (by decide) (Nat.le_of_ble_eq_true rfl) (Nat.le_of_ble_eq_true rfl) rfl rfl (r_Model_isIn) ?_
      refine st_if_ne_b rfl (fun h11 => ?_) (fun h11 => ?_)
      · refine st_aload_n rfl rfl (by decide) ?_
        refine st_iload_n rfl rfl ?_
        refine st_iconst rfl ?_
        refine st_cv1 (w := []) rfl rfl rfl (Nat.le_of_ble_eq_true rfl) (Nat.le_of_ble_eq_true rfl) rfl rfl (r_Model_of hP (by omega) (by omega) (by omega) (by omega)) ?_
        rw [e0]
        refine st_iconst rfl ?_
        refine st_icmp_ne rfl (fun h19 => ?_) (fun h19 => ?_)
        · refine st_iconst rfl ?_
          refine st_iret rfl (fun z => by first | exact absurd z (by decide) | exact bi_01 _ | decide | omega) ?_
          first
          | (refine ⟨am_ri (bi_f (by omega)).symm, ?_⟩; rw [if_neg (by omega), am_so_self])
          | (refine ⟨am_ri (bi_t (by omega)).symm, ?_⟩; rw [if_pos (by omega)]; try first | rfl | simp only [am_up, am_so_so, am_so_at])
        · refine st_aload_n rfl rfl (by decide) ?_
          refine st_iload_n rfl rfl ?_
          refine st_iconst rfl ?_
          refine st_cv1 (w := []) rfl rfl rfl (Nat.le_of_ble_eq_true rfl) (Nat.le_of_ble_eq_true rfl) rfl rfl (r_Model_of hP (by omega) (by omega) (by omega) (by omega)) ?_
          rw [e0]
          refine st_if_lt rfl (fun h24 => ?_) (fun h24 => ?_)
          · refine st_iconst rfl ?_
            refine st_iret rfl (fun z => by first | exact absurd z (by decide) | exact bi_01 _ | decide | omega) ?_
            first
            | (refine ⟨am_ri (bi_f (by omega)).symm, ?_⟩; rw [if_neg (by omega), am_so_self])
            | (refine ⟨am_ri (bi_t (by omega)).symm, ?_⟩; rw [if_pos (by omega)]; try first | rfl | simp only [am_up, am_so_so, am_so_at])
          · refine st_aload_n rfl rfl (by decide) ?_
            refine st_iload_n rfl rfl ?_
            refine st_cv1 (w := []) rfl rfl rfl (Nat.le_of_ble_eq_true rfl) (Nat.le_of_ble_eq_true rfl) rfl rfl (r_Model_isHigh hP (by omega) (by omega)) ?_
            refine st_if_ne_b rfl (fun h28 => ?_) (fun h28 => ?_)
            · refine st_iconst rfl ?_
              refine st_iret rfl (fun z => by first | exact absurd z (by decide) | exact bi_01 _ | decide | omega) ?_
              first
              | (refine ⟨am_ri (bi_f (by omega)).symm, ?_⟩; rw [if_neg (by omega), am_so_self])
              | (refine ⟨am_ri (bi_t (by omega)).symm, ?_⟩; rw [if_pos (by omega)]; try first | rfl | simp only [am_up, am_so_so, am_so_at])
            · refine st_aload_n rfl rfl (by decide) ?_
              refine st_getR (kk := 0) rfl rfl rfl (pz_53_0 hP) rfl ?_
              refine st_aload_n rfl rfl (by decide) ?_
              refine st_iload_n rfl rfl ?_
              refine st_iload_n rfl rfl ?_
              refine st_cv1 (w := [_]) rfl rfl rfl (Nat.le_of_ble_eq_true rfl) (Nat.le_of_ble_eq_true rfl) rfl rfl (r_Model_placeOf (by omega) (by omega) (by omega) (by omega)) ?_
              refine st_iaload rfl rfl (by omega) (by omega) ?_
              rw [et]
              refine st_if_lt rfl (fun h36 => ?_) (fun h36 => ?_)
              · have h4 := hI.b6 (b := b) (by omega) (by omega)
                refine st_aload_n rfl rfl (by decide) ?_
                refine st_iload_n rfl rfl ?_
                refine st_bipush rfl ?_
                refine st_iload_n rfl rfl ?_
                refine st_iload_n rfl rfl ?_
                refine st_cv0 (w := []) rfl rfl rfl (Nat.le_of_ble_eq_true rfl) (Nat.le_of_ble_eq_true rfl) rfl rfl (r_Model_comes hP (by omega) (by omega) (by omega) (by assumption) (by omega) (by omega) (by omega) (by omega)) ?_
                refine st_iconst rfl ?_
                refine st_iret rfl (fun z => by first | exact absurd z (by decide) | exact bi_01 _ | decide | omega) ?_
                first
                | (refine ⟨am_ri (bi_f (by omega)).symm, ?_⟩; rw [if_neg (by omega), am_so_self])
                | (refine ⟨am_ri (bi_t (by omega)).symm, ?_⟩; rw [if_pos (by omega)]; try first | rfl | simp only [am_up, am_so_so, am_so_at])
              · refine st_iconst rfl ?_
                refine st_iret rfl (fun z => by first | exact absurd z (by decide) | exact bi_01 _ | decide | omega) ?_
                first
                | (refine ⟨am_ri (bi_f (by omega)).symm, ?_⟩; rw [if_neg (by omega), am_so_self])
                | (refine ⟨am_ri (bi_t (by omega)).symm, ?_⟩; rw [if_pos (by omega)]; try first | rfl | simp only [am_up, am_so_so, am_so_at])
      · refine st_iconst rfl ?_
        refine st_iret rfl (fun z => by first | exact absurd z (by decide) | exact bi_01 _ | decide | omega) ?_
        first
        | (refine ⟨am_ri (bi_f (by omega)).symm, ?_⟩; rw [if_neg (by omega), am_so_self])
        | (refine ⟨am_ri (bi_t (by omega)).symm, ?_⟩; rw [if_pos (by omega)]; try first | rfl | simp only [am_up, am_so_so, am_so_at])
theorem r_Model_off {d N : Nat} {P : am_P} {H : am_H} {b : Int} (hP : PZ P) (hI : Inv (H 54)) : am_R (d + 3) 94 [am_r 53, am_i (b)] (N, P, H) (some (am_i (bi ((0 ≤ b ∧ b < H 54 3) ∧ 0 ≤ bkF (H 54) b 4)))) (N, P, am_so H 54 (if (0 ≤ b ∧ b < H 54 3) ∧ 0 ≤ bkF (H 54) b 4 then lvF (lvF (H 54) b 4) b 6 else H 54)) := by
  refine am_en1 (d := d + 2) (ml := 2) (ls := [_, _]) cq_Model_off rfl (Nat.le_of_ble_eq_true rfl) rfl ?_
  have hn := hI.n
  have e0 : ∀ b w, H 54 (7182 + 8 * b + w) = bkF (H 54) b w := fun _ _ => rfl
  have et : ∀ s p, H 54 (6670 + 32 * s + 2 + p) = thgF (H 54) s p := fun _ _ => rfl
  refine st_aload_n rfl rfl (by decide) ?_
  refine st_iload_n rfl rfl ?_
  refine st_cv1 (w := []) rfl rfl rfl (Nat.le_of_ble_eq_true rfl) (Nat.le_of_ble_eq_true rfl) rfl rfl (r_Model_isBook hP) ?_
  refine st_if_eq_b rfl (fun h3 => ?_) (fun h3 => ?_)
  · refine st_iconst rfl ?_
    refine st_iret rfl (fun z => by first | exact absurd z (by decide) | exact bi_01 _ | decide | omega) ?_
    first
    | (refine ⟨am_ri (bi_f (by omega)).symm, ?_⟩; rw [if_neg (by omega), am_so_self])
    | (refine ⟨am_ri (bi_t (by omega)).symm, ?_⟩; rw [if_pos (by omega), am_so_at, am_so_so])
  · refine st_aload_n rfl rfl (by decide) ?_
    refine st_iload_n rfl rfl ?_
    refine st_iconst rfl ?_
    refine st_cv1 (w := []) rfl rfl rfl (Nat.le_of_ble_eq_true rfl) (Nat.le_of_ble_eq_true rfl) rfl rfl (r_Model_of hP (by omega) (by omega) (by omega) (by omega)) ?_
    rw [e0]
    refine st_if_ge rfl (fun h8 => ?_) (fun h8 => ?_)
    · have h4 := hI.b4 (b := b) (by omega) (by omega)
      refine st_aload_n rfl rfl (by decide) ?_
      refine st_iload_n rfl rfl ?_
      refine st_iconst rfl ?_
      refine st_cv0 (w := []) rfl rfl rfl (Nat.le_of_ble_eq_true rfl) (Nat.le_of_ble_eq_true rfl) rfl rfl (r_Model_leaves hP (by omega) (by omega) (by omega) (by assumption)) ?_
      have h6 := hI.b6 (b := b) (by omega) (by omega)
      have q6 : ∀ f, f = 6 ∨ f = 7 → bkF (lvF (H 54) b 4) b f = bkF (H 54) b f := by
        intro f hf
        have := h4 h8
        show lvF (H 54) b 4 (7182 + 8 * b + f) = _
        unfold lvF
        rw [am_uf_ne _ _ (by omega), am_uf_ne _ _ (by omega), if_pos h8, am_uf_ne _ _ (by omega)]
        rfl
      refine st_aload_n rfl rfl (by decide) ?_
      refine st_iload_n rfl rfl ?_
      refine st_bipush rfl ?_
      refine st_cv0 (w := []) rfl rfl rfl (Nat.le_of_ble_eq_true rfl) (Nat.le_of_ble_eq_true rfl) rfl rfl (r_Model_leaves (H := am_so H 54 (lvF (H 54) b 4)) hP (by omega) (by omega) (by omega) (by rw [am_so_at, q6 6 (by omega), q6 (6 + 1) (by omega)]; exact h6)) ?_
      refine st_iconst rfl ?_
      refine st_iret rfl (fun z => by first | exact absurd z (by decide) | exact bi_01 _ | decide | omega) ?_
      first
      | (refine ⟨am_ri (bi_f (by omega)).symm, ?_⟩; rw [if_neg (by omega), am_so_self])
      | (refine ⟨am_ri (bi_t (by omega)).symm, ?_⟩; rw [if_pos (by omega), am_so_at, am_so_so])
    · refine st_iconst rfl ?_
      refine st_iret rfl (fun z => by first | exact absurd z (by decide) | exact bi_01 _ | decide | omega) ?_
      first
      | (refine ⟨am_ri (bi_f (by omega)).symm, ?_⟩; rw [if_neg (by omega), am_so_self])
      | (refine ⟨am_ri (bi_t (by omega)).symm, ?_⟩; rw [if_pos (by omega), am_so_at, am_so_so])
theorem r_Model_seen {d N : Nat} {P : am_P} {H : am_H} {m : Int} (hP : PZ P) (hI : Inv (H 54)) : am_R (d + 3) 106 [am_r 53, am_i (m)] (N, P, H) (some (am_i (if 0 ≤ H 54 5 ∧ (0 ≤ m ∧ m < H 54 1) ∧ H 54 6 ≠ 60 then H 54 6 + 1 else -1))) (N, P, am_so H 54 (if 0 ≤ H 54 5 ∧ (0 ≤ m ∧ m < H 54 1) ∧ H 54 6 ≠ 60 then am_uf (am_uf (H 54) (7 + H 54 6) m) 6 (H 54 6 + 1) else H 54)) := by
  refine am_en1 (d := d + 2) (ml := 2) (ls := [_, _]) cq_Model_seen rfl (Nat.le_of_ble_eq_true rfl) rfl ?_
  have hn := hI.n
  have hh := hI.h.2.1
  refine st_aload_n rfl rfl (by decide) ?_
  refine st_getR (kk := 0) rfl rfl rfl (pz_53_0 hP) rfl ?_
  refine st_iconst rfl ?_
  refine st_iaload rfl rfl (by omega) (by omega) ?_
  refine st_if_lt rfl (fun h4 => ?_) (fun h4 => ?_)
  · refine st_iconst rfl ?_
    refine st_iret rfl (fun z => by first | exact absurd z (by decide) | exact bi_01 _ | decide | omega) ?_
    first
    | (refine ⟨am_ri (by rw [if_neg (by omega)]), ?_⟩; rw [if_neg (by omega), am_so_self])
    | (refine ⟨am_ri (by rw [if_pos (by omega)]), ?_⟩; rw [if_pos (by omega)])
  · refine st_aload_n rfl rfl (by decide) ?_
    refine st_iload_n rfl rfl ?_
    refine st_cv1 (w := []) rfl rfl rfl (Nat.le_of_ble_eq_true rfl) (Nat.le_of_ble_eq_true rfl) rfl rfl (r_Model_isMark hP) ?_
    refine st_if_eq_b rfl (fun h8 => ?_) (fun h8 => ?_)
    · refine st_iconst rfl ?_
      refine st_iret rfl (fun z => by first | exact absurd z (by decide) | exact bi_01 _ | decide | omega) ?_
      first
      | (refine ⟨am_ri (by rw [if_neg (by omega)]), ?_⟩; rw [if_neg (by omega), am_so_self])
      | (refine ⟨am_ri (by rw [if_pos (by omega)]), ?_⟩; rw [if_pos (by omega)])
    · refine st_aload_n rfl rfl (by decide) ?_
      refine st_getR (kk := 0) rfl rfl rfl (pz_53_0 hP) rfl ?_
      refine st_bipush rfl ?_
      refine st_iaload rfl rfl (by omega) (by omega) ?_
      refine st_bipush rfl ?_
      refine st_icmp_ne rfl (fun h14 => ?_) (fun h14 => ?_)
      · refine st_aload_n rfl rfl (by decide) ?_
        refine st_getR (kk := 0) rfl rfl rfl (pz_53_0 hP) rfl ?_
        refine st_bipush rfl ?_
        refine st_aload_n rfl rfl (by decide) ?_
        refine st_getR (kk := 0) rfl rfl rfl (pz_53_0 hP) rfl ?_
        refine st_bipush rfl ?_
        refine st_iaload rfl rfl (by omega) (by omega) ?_
        refine st_iadd rfl (by omega) ?_
        refine st_iload_n rfl rfl ?_
        refine st_iastore rfl rfl (by omega) (by omega) ?_
        refine st_aload_n rfl rfl (by decide) ?_
        refine st_getR (kk := 0) rfl rfl rfl (pz_53_0 hP) rfl ?_
        refine st_bipush rfl ?_
        refine st_dup2 rfl rfl rfl ?_
        refine st_iaload rfl rfl (by omega) (by omega) ?_
        simp (disch := omega) only [am_up, am_so_so, am_so_at, am_uf_eq, am_uf_ne]
        refine st_iconst rfl ?_
        refine st_iadd rfl (by omega) ?_
        refine st_iastore rfl rfl (by omega) (by omega) ?_
        refine st_aload_n rfl rfl (by decide) ?_
        refine st_getR (kk := 0) rfl rfl rfl (pz_53_0 hP) rfl ?_
        refine st_bipush rfl ?_
        refine st_iaload rfl rfl (by omega) (by omega) ?_
        simp (disch := omega) only [am_up, am_so_so, am_so_at, am_uf_eq, am_uf_ne]
        refine st_iret rfl (fun z => by first | exact absurd z (by decide) | exact bi_01 _ | decide | omega) ?_
        first
        | (refine ⟨am_ri (by rw [if_neg (by omega)]), ?_⟩; rw [if_neg (by omega), am_so_self])
        | (refine ⟨am_ri (by rw [if_pos (by omega)]), ?_⟩; rw [if_pos (by omega)])
      · refine st_iconst rfl ?_
        refine st_iret rfl (fun z => by first | exact absurd z (by decide) | exact bi_01 _ | decide | omega) ?_
        first
        | (refine ⟨am_ri (by rw [if_neg (by omega)]), ?_⟩; rw [if_neg (by omega), am_so_self])
        | (refine ⟨am_ri (by rw [if_pos (by omega)]), ?_⟩; rw [if_pos (by omega)])
theorem r_Model_grow {d N : Nat} {P : am_P} {H : am_H} {x y z : Int} (hP : PZ P) (hI : Inv (H 54)) : am_R (d + 4) 121 [am_r 53, am_i (x), am_i (y), am_i (z)] (N, P, H) (some (am_i (if H 54 4 ≠ 12 ∧ (0 ≤ x ∧ x < H 54 1) ∧ (0 ≤ y ∧ y < H 54 1) ∧ 0 ≤ cmpF (H 54) y x 0 ∧ 1 ≤ z ∧ z ≤ 1000 then H 54 4 + 1 else -1))) (N, P, am_so H 54 (if H 54 4 ≠ 12 ∧ (0 ≤ x ∧ x < H 54 1) ∧ (0 ≤ y ∧ y < H 54 1) ∧ 0 ≤ cmpF (H 54) y x 0 ∧ 1 ≤ z ∧ z ≤ 1000 then am_uf (am_uf (am_uf (am_uf (H 54) (10374 + 3 * H 54 4) x) (10374 + 3 * H 54 4 + 1) y) (10374 + 3 * H 54 4 + 2) z) 4 (H 54 4 + 1) else H 54)) := by
  refine am_en1 (d := d + 3) (ml := 5) (ls := [_, _, _, _, _]) cq_Model_grow rfl (Nat.le_of_ble_eq_true rfl) rfl ?_
  have hn := hI.n
  refine st_aload_n rfl rfl (by decide) ?_
  refine st_getR (kk := 0) rfl rfl rfl (pz_53_0 hP) rfl ?_
  refine st_iconst rfl ?_
  refine st_iaload rfl rfl (by omega) (by omega) ?_
  refine st_bipush rfl ?_
  refine st_icmp_eq rfl (fun h5 => ?_) (fun h5 => ?_)
  · refine st_iconst rfl ?_
    refine st_iret rfl (fun z => by first | exact absurd z (by decide) | exact bi_01 _ | decide | omega) ?_
    first
    | (refine ⟨am_ri (by rw [if_neg (by omega)]), ?_⟩; rw [if_neg (by omega), am_so_self])
    | (refine ⟨am_ri (by rw [if_pos (by omega)]), ?_⟩; rw [if_pos (by omega)])
  · refine st_aload_n rfl rfl (by decide) ?_
    refine st_iload_n rfl rfl ?_
    refine st_cv1 (w := []) rfl rfl rfl (Nat.le_of_ble_eq_true rfl) (Nat.le_of_ble_eq_true rfl) rfl rfl (r_Model_isMark hP) ?_
    refine st_if_eq_b rfl (fun h9 => ?_) (fun h9 => ?_)
    · refine st_iconst rfl ?_
      refine st_iret rfl (fun z => by first | exact absurd z (by decide) | exact bi_01 _ | decide | omega) ?_
      first
      | (refine ⟨am_ri (by rw [if_neg (by omega)]), ?_⟩; rw [if_neg (by omega), am_so_self])
      | (refine ⟨am_ri (by rw [if_pos (by omega)]), ?_⟩; rw [if_pos (by omega)])
    · refine st_aload_n rfl rfl (by decide) ?_
      refine st_iload_n rfl rfl ?_
      refine st_cv1 (w := []) rfl rfl rfl (Nat.le_of_ble_eq_true rfl) (Nat.le_of_ble_eq_true rfl) rfl rfl (r_Model_isMark hP) ?_
      refine st_if_eq_b rfl (fun h13 => ?_) (fun h13 => ?_)
      · refine st_iconst rfl ?_
        refine st_iret rfl (fun z => by first | exact absurd z (by decide) | exact bi_01 _ | decide | omega) ?_
        first
        | (refine ⟨am_ri (by rw [if_neg (by omega)]), ?_⟩; rw [if_neg (by omega), am_so_self])
        | (refine ⟨am_ri (by rw [if_pos (by omega)]), ?_⟩; rw [if_pos (by omega)])
      · have hx := hI.mv (m := x) (by omega) (by omega)
        have hy := hI.mv (m := y) (by omega) (by omega)
        refine st_aload_n rfl rfl (by decide) ?_
        refine st_iload_n rfl rfl ?_
        refine st_iload_n rfl rfl ?_
        refine st_iconst rfl ?_
        refine st_cv1 (w := []) rfl rfl rfl (Nat.le_of_ble_eq_true rfl) (Nat.le_of_ble_eq_true rfl) rfl rfl (r_Model_compare hP (by assumption) (by assumption)) ?_
        refine st_if_lt rfl (fun h19 => ?_) (fun h19 => ?_)
        · refine st_iconst rfl ?_
          refine st_iret rfl (fun z => by first | exact absurd z (by decide) | exact bi_01 _ | decide | omega) ?_
          first
          | (refine ⟨am_ri (by rw [if_neg (by omega)]), ?_⟩; rw [if_neg (by omega), am_so_self])
          | (refine ⟨am_ri (by rw [if_pos (by omega)]), ?_⟩; rw [if_pos (by omega)])
        · refine st_iload_n rfl rfl ?_
          refine st_iconst rfl ?_
          refine st_icmp_lt rfl (fun h22 => ?_) (fun h22 => ?_)
          · refine st_iconst rfl ?_
            refine st_iret rfl (fun z => by first | exact absurd z (by decide) | exact bi_01 _ | decide | omega) ?_
            first
            | (refine ⟨am_ri (by rw [if_neg (by omega)]), ?_⟩; rw [if_neg (by omega), am_so_self])
            | (refine ⟨am_ri (by rw [if_pos (by omega)]), ?_⟩; rw [if_pos (by omega)])
          · refine st_iload_n rfl rfl ?_
            refine st_sipush rfl ?_
            refine st_icmp_le rfl (fun h25 => ?_) (fun h25 => ?_)
            · refine st_sipush rfl ?_
              refine st_iconst rfl ?_
              refine st_aload_n rfl rfl (by decide) ?_
              refine st_getR (kk := 0) rfl rfl rfl (pz_53_0 hP) rfl ?_
              refine st_iconst rfl ?_
              refine st_iaload rfl rfl (by omega) (by omega) ?_
              refine st_imul rfl (by omega) ?_
              refine st_iadd rfl (by omega) ?_
              refine st_istore (ls' := [_, _, _, _, _]) rfl (Nat.le_of_ble_eq_true rfl) rfl ?_
              refine st_aload_n rfl rfl (by decide) ?_
              refine st_getR (kk := 0) rfl rfl rfl (pz_53_0 hP) rfl ?_
              refine st_iload rfl rfl ?_
              refine st_iload_n rfl rfl ?_
              refine st_iastore rfl rfl (by omega) (by omega) ?_
              refine st_aload_n rfl rfl (by decide) ?_
              refine st_getR (kk := 0) rfl rfl rfl (pz_53_0 hP) rfl ?_
              refine st_iload rfl rfl ?_
              refine st_iconst rfl ?_
              refine st_iadd rfl (by omega) ?_
              refine st_iload_n rfl rfl ?_
              refine st_iastore rfl rfl (by omega) (by omega) ?_
              refine st_aload_n rfl rfl (by decide) ?_
              refine st_getR (kk := 0) rfl rfl rfl (pz_53_0 hP) rfl ?_
              refine st_iload rfl rfl ?_
              refine st_iconst rfl ?_
              refine st_iadd rfl (by omega) ?_
              refine st_iload_n rfl rfl ?_
              refine st_iastore rfl rfl (by omega) (by omega) ?_
              refine st_aload_n rfl rfl (by decide) ?_
              refine st_getR (kk := 0) rfl rfl rfl (pz_53_0 hP) rfl ?_
              refine st_iconst rfl ?_
              refine st_dup2 rfl rfl rfl ?_
              refine st_iaload rfl rfl (by omega) (by omega) ?_
              simp (disch := omega) only [am_up, am_so_so, am_so_at, am_uf_eq, am_uf_ne]
              refine st_iconst rfl ?_
              refine st_iadd rfl (by omega) ?_
              refine st_iastore rfl rfl (by omega) (by omega) ?_
              refine st_aload_n rfl rfl (by decide) ?_
              refine st_getR (kk := 0) rfl rfl rfl (pz_53_0 hP) rfl ?_
              refine st_iconst rfl ?_
              refine st_iaload rfl rfl (by omega) (by omega) ?_
              simp (disch := omega) only [am_up, am_so_so, am_so_at, am_uf_eq, am_uf_ne]
              refine st_iret rfl (fun z => by first | exact absurd z (by decide) | exact bi_01 _ | decide | omega) ?_
              first
              | (refine ⟨am_ri (by rw [if_neg (by omega)]), ?_⟩; rw [if_neg (by omega), am_so_self])
              | (refine ⟨am_ri (by rw [if_pos (by omega)]), ?_⟩; rw [if_pos (by omega)])
            · refine st_iconst rfl ?_
              refine st_iret rfl (fun z => by first | exact absurd z (by decide) | exact bi_01 _ | decide | omega) ?_
              first
              | (refine ⟨am_ri (by rw [if_neg (by omega)]), ?_⟩; rw [if_neg (by omega), am_so_self])
              | (refine ⟨am_ri (by rw [if_pos (by omega)]), ?_⟩; rw [if_pos (by omega)])
def shF (a : Int → Int) (w h : Int) : Int → Int := am_uf (fillF (am_uf (am_uf a (6670 + 32 * a 2) w) (6670 + 32 * a 2 + 1) h) (6670 + 32 * a 2 + 2) 30 (-1)) 2 (a 2 + 1)
def shL (a : Int → Int) (w h : Int) (j : Nat) : Int → Int := fillF (am_uf (am_uf a (6670 + 32 * a 2) w) (6670 + 32 * a 2 + 1) h) (6670 + 32 * a 2 + 2) (j : Int) (-1)
theorem r_Model_shelf {d N : Nat} {P : am_P} {H : am_H} {w h : Int} (hP : PZ P) (hI : Inv (H 54)) : am_R (d + 1) 84 [am_r 53, am_i (w), am_i (h)] (N, P, H) (some (am_i (if H 54 2 ≠ 16 ∧ 100 ≤ w ∧ w ≤ 2000 then H 54 2 else -1))) (N, P, am_so H 54 (if H 54 2 ≠ 16 ∧ 100 ≤ w ∧ w ≤ 2000 then shF (H 54) w (bi (h ≠ 0)) else H 54)) := by
  refine am_en1 (d := d + 0) (ml := 5) (ls := [_, _, _, _, _]) cq_Model_shelf rfl (Nat.le_of_ble_eq_true rfl) rfl ?_
  have hn := hI.n
  refine st_aload_n rfl rfl (by decide) ?_
  refine st_getR (kk := 0) rfl rfl rfl (pz_53_0 hP) rfl ?_
  refine st_iconst rfl ?_
  refine st_iaload rfl rfl (by omega) (by omega) ?_
  refine st_bipush rfl ?_
  refine st_icmp_eq rfl (fun h5 => ?_) (fun h5 => ?_)
  · refine st_iconst rfl ?_
    refine st_iret rfl (fun z => by first | exact absurd z (by decide) | exact bi_01 _ | decide | omega) ?_
    refine ⟨am_ri (by rw [if_neg (by omega)]), ?_⟩
    rw [if_neg (by omega), am_so_self]
  · refine st_iload_n rfl rfl ?_
    refine st_bipush rfl ?_
    refine st_icmp_lt rfl (fun h8 => ?_) (fun h8 => ?_)
    · refine st_iconst rfl ?_
      refine st_iret rfl (fun z => by first | exact absurd z (by decide) | exact bi_01 _ | decide | omega) ?_
      refine ⟨am_ri (by rw [if_neg (by omega)]), ?_⟩
      rw [if_neg (by omega), am_so_self]
    · refine st_iload_n rfl rfl ?_
      refine st_sipush rfl ?_
      refine st_icmp_le rfl (fun h11 => ?_) (fun h11 => ?_)
      · refine st_aload_n rfl rfl (by decide) ?_
        refine st_getR (kk := 0) rfl rfl rfl (pz_53_0 hP) rfl ?_
        refine st_iconst rfl ?_
        refine st_iaload rfl rfl (by omega) (by omega) ?_
        refine st_istore_n (ls' := [_, _, _, _, _]) rfl (Nat.le_of_ble_eq_true rfl) rfl ?_
        refine st_aload_n rfl rfl (by decide) ?_
        refine st_getR (kk := 0) rfl rfl rfl (pz_53_0 hP) rfl ?_
        refine st_sipush rfl ?_
        refine st_bipush rfl ?_
        refine st_iload_n rfl rfl ?_
        refine st_imul rfl (by omega) ?_
        refine st_iadd rfl (by omega) ?_
        refine st_iload_n rfl rfl ?_
        refine st_iastore rfl rfl (by omega) (by omega) ?_
        refine st_aload_n rfl rfl (by decide) ?_
        refine st_getR (kk := 0) rfl rfl rfl (pz_53_0 hP) rfl ?_
        refine st_sipush rfl ?_
        refine st_bipush rfl ?_
        refine st_iload_n rfl rfl ?_
        refine st_imul rfl (by omega) ?_
        refine st_iadd rfl (by omega) ?_
        refine st_iconst rfl ?_
        refine st_iadd rfl (by omega) ?_
        refine st_iload_n rfl rfl ?_
        refine st_if_eq rfl (fun h38 => ?_) (fun h38 => ?_)
        · refine st_iconst rfl ?_
          refine st_iastore rfl rfl (by omega) (by omega) ?_
          refine st_iconst rfl ?_
          refine st_istore (ls' := [_, _, _, _, _]) rfl (Nat.le_of_ble_eq_true rfl) rfl ?_
          first
          | (have hz : h ≠ 0 := by omega
             rw [show am_up (am_up H 54 (6670 + 32 * H 54 2) w) 54 (6670 + 32 * H 54 2 + 1) 1 = am_so H 54 (shL (H 54) w 1 0) by unfold shL; rw [show ((0 : Nat) : Int) = 0 from rfl, fillF_0]; simp only [am_up, am_so_so, am_so_at]]
             refine up_ind (n := 30) (p := fun j => am_WP (am_R (d + 0)) cd_Model_shelf _ 45 [some (am_r 53), some (am_i w), some (am_i h), some (am_i (H 54 2)), some (am_i (j : Int))] [] (N, P, am_so H 54 (shL (H 54) w 1 j))) ?_ ?_ 0 (Nat.zero_le _)
             · show am_WP _ _ _ _ _ _ _
               refine st_iload rfl rfl ?_
               refine st_bipush rfl ?_
               refine st_icmp_ge rfl (fun h47 => ?_) (fun h47 => (by exfalso; omega))
               refine st_aload_n rfl rfl (by decide) ?_
               refine st_getR (kk := 0) rfl rfl rfl (pz_53_0 hP) rfl ?_
               refine st_iconst rfl ?_
               refine st_dup2 rfl rfl rfl ?_
               have e2 : shL (H 54) w 1 30 2 = H 54 2 := by unfold shL fillF; rw [if_neg (by omega), am_uf_ne _ _ (by omega), am_uf_ne _ _ (by omega)]
               refine st_iaload rfl rfl (by omega) (by omega) ?_
               rw [am_so_at, e2]
               refine st_iconst rfl ?_
               refine st_iadd rfl (by omega) ?_
               refine st_iastore rfl rfl (by omega) (by omega) ?_
               refine st_iload_n rfl rfl ?_
               refine st_iret rfl (fun z => by first | exact absurd z (by decide) | exact bi_01 _ | decide | omega) ?_
               refine ⟨am_ri (by rw [if_pos (by omega)]), ?_⟩
               rw [if_pos (by omega)]
               simp only [am_up, am_so_so, am_so_at]
               rw [show bi (h ≠ 0) = 1 from bi_t (by omega)]
               rfl
             · intro j hj ih
               have ih : am_WP _ _ _ _ _ _ _ := ih
               show am_WP _ _ _ _ _ _ _
               refine st_iload rfl rfl ?_
               refine st_bipush rfl ?_
               refine st_icmp_ge rfl (fun h47 => (by exfalso; omega)) (fun h47 => ?_)
               refine st_aload_n rfl rfl (by decide) ?_
               refine st_getR (kk := 0) rfl rfl rfl (pz_53_0 hP) rfl ?_
               refine st_sipush rfl ?_
               refine st_bipush rfl ?_
               refine st_iload_n rfl rfl ?_
               refine st_imul rfl (by omega) ?_
               refine st_iadd rfl (by omega) ?_
               refine st_iconst rfl ?_
               refine st_iadd rfl (by omega) ?_
               refine st_iload rfl rfl ?_
               refine st_iadd rfl (by omega) ?_
               refine st_iconst rfl ?_
               refine st_iastore rfl rfl (by omega) (by omega) ?_
               refine st_iinc (ls' := [_, _, _, _, _]) rfl rfl (by omega) rfl ?_
               refine st_goto rfl ?_
               rw [show am_up (am_so H 54 (shL (H 54) w 1 j)) 54 (6670 + 32 * H 54 2 + 2 + (j : Int)) (-1) = am_so H 54 (shL (H 54) w 1 (j + 1)) by unfold shL; rw [← fillF_s]; simp only [am_up, am_so_so, am_so_at]]
               exact ih)
          | (have hz : h = 0 := by omega
             rw [show am_up (am_up H 54 (6670 + 32 * H 54 2) w) 54 (6670 + 32 * H 54 2 + 1) 0 = am_so H 54 (shL (H 54) w 0 0) by unfold shL; rw [show ((0 : Nat) : Int) = 0 from rfl, fillF_0]; simp only [am_up, am_so_so, am_so_at]]
             refine up_ind (n := 30) (p := fun j => am_WP (am_R (d + 0)) cd_Model_shelf _ 45 [some (am_r 53), some (am_i w), some (am_i h), some (am_i (H 54 2)), some (am_i (j : Int))] [] (N, P, am_so H 54 (shL (H 54) w 0 j))) ?_ ?_ 0 (Nat.zero_le _)
             · show am_WP _ _ _ _ _ _ _
               refine st_iload rfl rfl ?_
               refine st_bipush rfl ?_
               refine st_icmp_ge rfl (fun h47 => ?_) (fun h47 => (by exfalso; omega))
               refine st_aload_n rfl rfl (by decide) ?_
               refine st_getR (kk := 0) rfl rfl rfl (pz_53_0 hP) rfl ?_
               refine st_iconst rfl ?_
               refine st_dup2 rfl rfl rfl ?_
               have e2 : shL (H 54) w 0 30 2 = H 54 2 := by unfold shL fillF; rw [if_neg (by omega), am_uf_ne _ _ (by omega), am_uf_ne _ _ (by omega)]
               refine st_iaload rfl rfl (by omega) (by omega) ?_
               rw [am_so_at, e2]
               refine st_iconst rfl ?_
               refine st_iadd rfl (by omega) ?_
               refine st_iastore rfl rfl (by omega) (by omega) ?_
               refine st_iload_n rfl rfl ?_
               refine st_iret rfl (fun z => by first | exact absurd z (by decide) | exact bi_01 _ | decide | omega) ?_
               refine ⟨am_ri (by rw [if_pos (by omega)]), ?_⟩
               rw [if_pos (by omega)]
               simp only [am_up, am_so_so, am_so_at]
               rw [show bi (h ≠ 0) = 0 from bi_f (by omega)]
               rfl
             · intro j hj ih
               have ih : am_WP _ _ _ _ _ _ _ := ih
               show am_WP _ _ _ _ _ _ _
               refine st_iload rfl rfl ?_
               refine st_bipush rfl ?_
               refine st_icmp_ge rfl (fun h47 => (by exfalso; omega)) (fun h47 => ?_)
               refine st_aload_n rfl rfl (by decide) ?_
               refine st_getR (kk := 0) rfl rfl rfl (pz_53_0 hP) rfl ?_
               refine st_sipush rfl ?_
               refine st_bipush rfl ?_
               refine st_iload_n rfl rfl ?_
               refine st_imul rfl (by omega) ?_
               refine st_iadd rfl (by omega) ?_
               refine st_iconst rfl ?_
               refine st_iadd rfl (by omega) ?_
               refine st_iload rfl rfl ?_
               refine st_iadd rfl (by omega) ?_
               refine st_iconst rfl ?_
               refine st_iastore rfl rfl (by omega) (by omega) ?_
               refine st_iinc (ls' := [_, _, _, _, _]) rfl rfl (by omega) rfl ?_
               refine st_goto rfl ?_
               rw [show am_up (am_so H 54 (shL (H 54) w 0 j)) 54 (6670 + 32 * H 54 2 + 2 + (j : Int)) (-1) = am_so H 54 (shL (H 54) w 0 (j + 1)) by unfold shL; rw [← fillF_s]; simp only [am_up, am_so_so, am_so_at]]
               exact ih)
        · refine st_iconst rfl ?_
          refine st_goto rfl ?_
          refine st_iastore rfl rfl (by omega) (by omega) ?_
          refine st_iconst rfl ?_
          refine st_istore (ls' := [_, _, _, _, _]) rfl (Nat.le_of_ble_eq_true rfl) rfl ?_
          first
          | (have hz : h ≠ 0 := by omega
             rw [show am_up (am_up H 54 (6670 + 32 * H 54 2) w) 54 (6670 + 32 * H 54 2 + 1) 1 = am_so H 54 (shL (H 54) w 1 0) by unfold shL; rw [show ((0 : Nat) : Int) = 0 from rfl, fillF_0]; simp only [am_up, am_so_so, am_so_at]]
             refine up_ind (n := 30) (p := fun j => am_WP (am_R (d + 0)) cd_Model_shelf _ 45 [some (am_r 53), some (am_i w), some (am_i h), some (am_i (H 54 2)), some (am_i (j : Int))] [] (N, P, am_so H 54 (shL (H 54) w 1 j))) ?_ ?_ 0 (Nat.zero_le _)
             · show am_WP _ _ _ _ _ _ _
               refine st_iload rfl rfl ?_
               refine st_bipush rfl ?_
               refine st_icmp_ge rfl (fun h47 => ?_) (fun h47 => (by exfalso; omega))
               refine st_aload_n rfl rfl (by decide) ?_
               refine st_getR (kk := 0) rfl rfl rfl (pz_53_0 hP) rfl ?_
               refine st_iconst rfl ?_
               refine st_dup2 rfl rfl rfl ?_
               have e2 : shL (H 54) w 1 30 2 = H 54 2 := by unfold shL fillF; rw [if_neg (by omega), am_uf_ne _ _ (by omega), am_uf_ne _ _ (by omega)]
               refine st_iaload rfl rfl (by omega) (by omega) ?_
               rw [am_so_at, e2]
               refine st_iconst rfl ?_
               refine st_iadd rfl (by omega) ?_
               refine st_iastore rfl rfl (by omega) (by omega) ?_
               refine st_iload_n rfl rfl ?_
               refine st_iret rfl (fun z => by first | exact absurd z (by decide) | exact bi_01 _ | decide | omega) ?_
               refine ⟨am_ri (by rw [if_pos (by omega)]), ?_⟩
               rw [if_pos (by omega)]
               simp only [am_up, am_so_so, am_so_at]
               rw [show bi (h ≠ 0) = 1 from bi_t (by omega)]
               rfl
             · intro j hj ih
               have ih : am_WP _ _ _ _ _ _ _ := ih
               show am_WP _ _ _ _ _ _ _
               refine st_iload rfl rfl ?_
               refine st_bipush rfl ?_
               refine st_icmp_ge rfl (fun h47 => (by exfalso; omega)) (fun h47 => ?_)
               refine st_aload_n rfl rfl (by decide) ?_
               refine st_getR (kk := 0) rfl rfl rfl (pz_53_0 hP) rfl ?_
               refine st_sipush rfl ?_
               refine st_bipush rfl ?_
               refine st_iload_n rfl rfl ?_
               refine st_imul rfl (by omega) ?_
               refine st_iadd rfl (by omega) ?_
               refine st_iconst rfl ?_
               refine st_iadd rfl (by omega) ?_
               refine st_iload rfl rfl ?_
               refine st_iadd rfl (by omega) ?_
               refine st_iconst rfl ?_
               refine st_iastore rfl rfl (by omega) (by omega) ?_
               refine st_iinc (ls' := [_, _, _, _, _]) rfl rfl (by omega) rfl ?_
               refine st_goto rfl ?_
               rw [show am_up (am_so H 54 (shL (H 54) w 1 j)) 54 (6670 + 32 * H 54 2 + 2 + (j : Int)) (-1) = am_so H 54 (shL (H 54) w 1 (j + 1)) by unfold shL; rw [← fillF_s]; simp only [am_up, am_so_so, am_so_at]]
               exact ih)
          | (have hz : h = 0 := by omega
             rw [show am_up (am_up H 54 (6670 + 32 * H 54 2) w) 54 (6670 + 32 * H 54 2 + 1) 0 = am_so H 54 (shL (H 54) w 0 0) by unfold shL; rw [show ((0 : Nat) : Int) = 0 from rfl, fillF_0]; simp only [am_up, am_so_so, am_so_at]]
             refine up_ind (n := 30) (p := fun j => am_WP (am_R (d + 0)) cd_Model_shelf _ 45 [some (am_r 53), some (am_i w), some (am_i h), some (am_i (H 54 2)), some (am_i (j : Int))] [] (N, P, am_so H 54 (shL (H 54) w 0 j))) ?_ ?_ 0 (Nat.zero_le _)
             · show am_WP _ _ _ _ _ _ _
               refine st_iload rfl rfl ?_
               refine st_bipush rfl ?_
               refine st_icmp_ge rfl (fun h47 => ?_) (fun h47 => (by exfalso; omega))
               refine st_aload_n rfl rfl (by decide) ?_
               refine st_getR (kk := 0) rfl rfl rfl (pz_53_0 hP) rfl ?_
               refine st_iconst rfl ?_
               refine st_dup2 rfl rfl rfl ?_
               have e2 : shL (H 54) w 0 30 2 = H 54 2 := by unfold shL fillF; rw [if_neg (by omega), am_uf_ne _ _ (by omega), am_uf_ne _ _ (by omega)]
               refine st_iaload rfl rfl (by omega) (by omega) ?_
               rw [am_so_at, e2]
               refine st_iconst rfl ?_
               refine st_iadd rfl (by omega) ?_
               refine st_iastore rfl rfl (by omega) (by omega) ?_
               refine st_iload_n rfl rfl ?_
               refine st_iret rfl (fun z => by first | exact absurd z (by decide) | exact bi_01 _ | decide | omega) ?_
               refine ⟨am_ri (by rw [if_pos (by omega)]), ?_⟩
               rw [if_pos (by omega)]
               simp only [am_up, am_so_so, am_so_at]
               rw [show bi (h ≠ 0) = 0 from bi_f (by omega)]
               rfl
             · intro j hj ih
               have ih : am_WP _ _ _ _ _ _ _ := ih
               show am_WP _ _ _ _ _ _ _
               refine st_iload rfl rfl ?_
               refine st_bipush rfl ?_
               refine st_icmp_ge rfl (fun h47 => (by exfalso; omega)) (fun h47 => ?_)
               refine st_aload_n rfl rfl (by decide) ?_
               refine st_getR (kk := 0) rfl rfl rfl (pz_53_0 hP) rfl ?_
               refine st_sipush rfl ?_
               refine st_bipush rfl ?_
               refine st_iload_n rfl rfl ?_
               refine st_imul rfl (by omega) ?_
               refine st_iadd rfl (by omega) ?_
               refine st_iconst rfl ?_
               refine st_iadd rfl (by omega) ?_
               refine st_iload rfl rfl ?_
               refine st_iadd rfl (by omega) ?_
               refine st_iconst rfl ?_
               refine st_iastore rfl rfl (by omega) (by omega) ?_
               refine st_iinc (ls' := [_, _, _, _, _]) rfl rfl (by omega) rfl ?_
               refine st_goto rfl ?_
               rw [show am_up (am_so H 54 (shL (H 54) w 0 j)) 54 (6670 + 32 * H 54 2 + 2 + (j : Int)) (-1) = am_so H 54 (shL (H 54) w 0 (j + 1)) by unfold shL; rw [← fillF_s]; simp only [am_up, am_so_so, am_so_at]]
               exact ih)
      · refine st_iconst rfl ?_
        refine st_iret rfl (fun z => by first | exact absurd z (by decide) | exact bi_01 _ | decide | omega) ?_
        refine ⟨am_ri (by rw [if_neg (by omega)]), ?_⟩
        rw [if_neg (by omega), am_so_self]
