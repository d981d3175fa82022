/-! ===== the class: bytes ===== -/
def wH (H : am_H) (s : OS) : am_H := am_so (am_so H 9 s.1) 8 (am_uf (H 8) 1 s.2)
theorem wH_1 (H : am_H) (s : OS) : wH H s 8 1 = s.2 := by unfold wH; rw [am_so_at, am_uf_eq]
theorem wH_b (H : am_H) (s : OS) : wH H s 9 = s.1 := by unfold wH; rw [am_so_ne _ _ (by decide), am_so_at]
theorem wH_o (H : am_H) (s : OS) {k : Nat} (h : k ≠ 8) (h2 : k ≠ 9) : wH H s k = H k := by unfold wH; rw [am_so_ne _ _ h, am_so_ne _ _ h2]
theorem wH_i (H : am_H) (s : OS) (c : Int) : am_up (am_up (wH H s) 9 s.2 c) 8 1 (s.2 + 1) = wH H (inkF s c) := by
  funext k
  by_cases h : k = 8
  · subst h
    rw [am_up_eq, am_up_ne (by decide)]
    unfold wH inkF
    rw [am_so_at, am_so_at]
    funext x
    unfold am_uf
    split <;> rfl
  · rw [am_up_ne h]
    by_cases h2 : k = 9
    · subst h2
      rw [am_up_eq, wH_b, wH_b]
      rfl
    · rw [am_up_ne h2, wH_o _ _ h h2, wH_o _ _ h h2]
theorem wH_0 (H : am_H) : wH H (H 9, 0) = am_up H 8 1 0 := by
  unfold wH am_up
  show am_so (am_so H 9 (H 9)) 8 _ = _
  rw [am_so_self]
theorem wH_s (H : am_H) : wH H (H 9, H 8 1) = H := by
  unfold wH
  show am_so (am_so H 9 (H 9)) 8 (am_uf (H 8) 1 (H 8 1)) = H
  rw [am_so_self, show am_uf (H 8) 1 (H 8 1) = H 8 from uf_self _ rfl, am_so_self]

theorem r_add_w {d N : Nat} {P : am_P} {H : am_H} {s : OS} {c : Int} (hP : PZ P) (h0 : 0 ≤ s.2) (h1 : s.2 < 60) : am_R (d + 1) 133 [am_r 8, am_i (c)] (N, P, wH H s) none (N, P, wH H (inkF s (c % 256))) := by
  refine am_en1 (d := d + 0) (ml := 2) (ls := [_, _]) cq_ByteRow_add rfl (Nat.le_of_ble_eq_true rfl) rfl ?_
  refine st_aload_n rfl rfl (by decide) ?_
  refine st_getI (kk := 1) rfl rfl (by decide) rfl ?_
  refine st_if_lt rfl (fun h2 => (by exfalso; rw [wH_1] at h2; omega)) (fun h2 => ?_)
  refine st_aload_n rfl rfl (by decide) ?_
  refine st_getI (kk := 1) rfl rfl (by decide) rfl ?_
  refine st_aload_n rfl rfl (by decide) ?_
  refine st_getR (kk := 0) rfl rfl rfl (pz_8_0 hP) rfl ?_
  refine st_alenI rfl rfl ?_
  refine st_icmp_ge rfl (fun h8 => (by exfalso; rw [wH_1] at h8; have : s.2 < 60 := h1; omega)) (fun h8 => ?_)
  refine st_aload_n rfl rfl (by decide) ?_
  refine st_getR (kk := 0) rfl rfl rfl (pz_8_0 hP) rfl ?_
  refine st_aload_n rfl rfl (by decide) ?_
  refine st_getI (kk := 1) rfl rfl (by decide) rfl ?_
  rw [wH_1]
  refine st_iload_n rfl rfl ?_
  refine st_sipush rfl ?_
  refine st_iand rfl (bt_and c) ?_
  refine st_iastore rfl rfl (by omega) (by omega) ?_
  refine st_aload_n rfl rfl (by decide) ?_
  refine st_dup rfl rfl ?_
  refine st_getI (kk := 1) rfl rfl (by decide) rfl ?_
  rw [show am_up (wH H s) 9 s.2 (c % 256) 8 1 = s.2 by rw [am_up_ne (by decide), wH_1]]
  refine st_iconst rfl ?_
  refine st_iadd rfl (by omega) ?_
  refine st_putI (kk := 1) rfl rfl rfl rfl ?_
  refine st_ret rfl ?_
  exact ⟨rfl, by rw [wH_i]⟩
def tH (H : am_H) (s : OS) : am_H := am_so (am_so H 6 s.1) 5 (am_uf (H 5) 1 s.2)
theorem tH_1 (H : am_H) (s : OS) : tH H s 5 1 = s.2 := by unfold tH; rw [am_so_at, am_uf_eq]
theorem tH_b (H : am_H) (s : OS) : tH H s 6 = s.1 := by unfold tH; rw [am_so_ne _ _ (by decide), am_so_at]
theorem tH_o (H : am_H) (s : OS) {k : Nat} (h : k ≠ 5) (h2 : k ≠ 6) : tH H s k = H k := by unfold tH; rw [am_so_ne _ _ h, am_so_ne _ _ h2]
theorem tH_i (H : am_H) (s : OS) (c : Int) : am_up (am_up (tH H s) 6 s.2 c) 5 1 (s.2 + 1) = tH H (inkF s c) := by
  funext k
  by_cases h : k = 5
  · subst h
    rw [am_up_eq, am_up_ne (by decide)]
    unfold tH inkF
    rw [am_so_at, am_so_at]
    funext x
    unfold am_uf
    split <;> rfl
  · rw [am_up_ne h]
    by_cases h2 : k = 6
    · subst h2
      rw [am_up_eq, tH_b, tH_b]
      rfl
    · rw [am_up_ne h2, tH_o _ _ h h2, tH_o _ _ h h2]
theorem tH_0 (H : am_H) : tH H (H 6, 0) = am_up H 5 1 0 := by
  unfold tH am_up
  show am_so (am_so H 6 (H 6)) 5 _ = _
  rw [am_so_self]
theorem tH_s (H : am_H) : tH H (H 6, H 5 1) = H := by
  unfold tH
  show am_so (am_so H 6 (H 6)) 5 (am_uf (H 5) 1 (H 5 1)) = H
  rw [am_so_self, show am_uf (H 5) 1 (H 5 1) = H 5 from uf_self _ rfl, am_so_self]

theorem r_add_t {d N : Nat} {P : am_P} {H : am_H} {s : OS} {c : Int} (hP : PZ P) (h0 : 0 ≤ s.2) (h1 : s.2 < 80) : am_R (d + 1) 133 [am_r 5, am_i (c)] (N, P, tH H s) none (N, P, tH H (inkF s (c % 256))) := by
  refine am_en1 (d := d + 0) (ml := 2) (ls := [_, _]) cq_ByteRow_add rfl (Nat.le_of_ble_eq_true rfl) rfl ?_
  refine st_aload_n rfl rfl (by decide) ?_
  refine st_getI (kk := 1) rfl rfl (by decide) rfl ?_
  refine st_if_lt rfl (fun h2 => (by exfalso; rw [tH_1] at h2; omega)) (fun h2 => ?_)
  refine st_aload_n rfl rfl (by decide) ?_
  refine st_getI (kk := 1) rfl rfl (by decide) rfl ?_
  refine st_aload_n rfl rfl (by decide) ?_
  refine st_getR (kk := 0) rfl rfl rfl (pz_5_0 hP) rfl ?_
  refine st_alenI rfl rfl ?_
  refine st_icmp_ge rfl (fun h8 => (by exfalso; rw [tH_1] at h8; have : s.2 < 80 := h1; omega)) (fun h8 => ?_)
  refine st_aload_n rfl rfl (by decide) ?_
  refine st_getR (kk := 0) rfl rfl rfl (pz_5_0 hP) rfl ?_
  refine st_aload_n rfl rfl (by decide) ?_
  refine st_getI (kk := 1) rfl rfl (by decide) rfl ?_
  rw [tH_1]
  refine st_iload_n rfl rfl ?_
  refine st_sipush rfl ?_
  refine st_iand rfl (bt_and c) ?_
  refine st_iastore rfl rfl (by omega) (by omega) ?_
  refine st_aload_n rfl rfl (by decide) ?_
  refine st_dup rfl rfl ?_
  refine st_getI (kk := 1) rfl rfl (by decide) rfl ?_
  rw [show am_up (tH H s) 6 s.2 (c % 256) 5 1 = s.2 by rw [am_up_ne (by decide), tH_1]]
  refine st_iconst rfl ?_
  refine st_iadd rfl (by omega) ?_
  refine st_putI (kk := 1) rfl rfl rfl rfl ?_
  refine st_ret rfl ?_
  exact ⟨rfl, by rw [tH_i]⟩
def byn (w : Int) (q : Int) : Int := byF w q.toNat
def i4F (s : OS) (w : Int) : OS := (fun x => if s.2 ≤ x ∧ x < s.2 + 4 then byn w (x - s.2) else s.1 x, s.2 + 4)
theorem i4_is (s : OS) (w : Int) : inkF (inkF (inkF (inkF s (w / 16777216 % 256)) (w / 65536 % 256)) (w / 256 % 256)) (w % 256) = i4F s w := by
  unfold inkF i4F
  refine Prod.ext ?_ (by show s.2 + 1 + 1 + 1 + 1 = s.2 + 4; omega)
  funext x
  show am_uf (am_uf (am_uf (am_uf s.1 s.2 (w / 16777216 % 256)) (s.2 + 1) (w / 65536 % 256)) (s.2 + 1 + 1) (w / 256 % 256)) (s.2 + 1 + 1 + 1) (w % 256) x = if s.2 ≤ x ∧ x < s.2 + 4 then byn w (x - s.2) else s.1 x
  by_cases h : s.2 ≤ x ∧ x < s.2 + 4
  · rw [if_pos h]
    have : x = s.2 ∨ x = s.2 + 1 ∨ x = s.2 + 2 ∨ x = s.2 + 3 := by omega
    rcases this with e | e | e | e
    · rw [e, am_uf_ne _ _ (by omega), am_uf_ne _ _ (by omega), am_uf_ne _ _ (by omega), am_uf_eq, show s.2 - s.2 = 0 by omega]; rfl
    · rw [e, am_uf_ne _ _ (by omega), am_uf_ne _ _ (by omega), am_uf_eq, show s.2 + 1 - s.2 = 1 by omega]; rfl
    · rw [e, am_uf_ne _ _ (by omega), show s.2 + 2 = s.2 + 1 + 1 by omega, am_uf_eq, show s.2 + 1 + 1 - s.2 = 2 by omega]; rfl
    · rw [e, show s.2 + 3 = s.2 + 1 + 1 + 1 by omega, am_uf_eq, show s.2 + 1 + 1 + 1 - s.2 = 3 by omega]; rfl
  · rw [if_neg h, am_uf_ne _ _ (by omega), am_uf_ne _ _ (by omega), am_uf_ne _ _ (by omega), am_uf_ne _ _ (by omega)]

theorem r_ByteRow_addNumber {d N : Nat} {P : am_P} {H : am_H} {s : OS} {w : Int} (hP : PZ P) (h0 : 0 ≤ s.2) (h1 : s.2 + 4 ≤ 80) : am_R (d + 2) 134 [am_r 5, am_i (w)] (N, P, tH H s) none (N, P, tH H (i4F s w)) := by
  refine am_en1 (d := d + 1) (ml := 2) (ls := [_, _]) cq_ByteRow_addNumber rfl (Nat.le_of_ble_eq_true rfl) rfl ?_
  refine st_aload_n rfl rfl (by decide) ?_
  refine st_iload_n rfl rfl ?_
  refine st_bipush rfl ?_
  refine st_iushr rfl rfl ?_
  refine st_cv0 (w := []) rfl rfl rfl (Nat.le_of_ble_eq_true rfl) (Nat.le_of_ble_eq_true rfl) rfl rfl (r_add_t (s := s) hP (by first | exact h0 | (simp only [inkF_2]; omega)) (by first | omega | (simp only [inkF_2]; omega))) ?_
  rw [bt_u24]
  refine st_aload_n rfl rfl (by decide) ?_
  refine st_iload_n rfl rfl ?_
  refine st_bipush rfl ?_
  refine st_iushr rfl rfl ?_
  refine st_cv0 (w := []) rfl rfl rfl (Nat.le_of_ble_eq_true rfl) (Nat.le_of_ble_eq_true rfl) rfl rfl (r_add_t (s := inkF s (w / 16777216 % 256)) hP (by first | exact h0 | (simp only [inkF_2]; omega)) (by first | omega | (simp only [inkF_2]; omega))) ?_
  rw [bt_u16]
  refine st_aload_n rfl rfl (by decide) ?_
  refine st_iload_n rfl rfl ?_
  refine st_bipush rfl ?_
  refine st_iushr rfl rfl ?_
  refine st_cv0 (w := []) rfl rfl rfl (Nat.le_of_ble_eq_true rfl) (Nat.le_of_ble_eq_true rfl) rfl rfl (r_add_t (s := inkF (inkF s (w / 16777216 % 256)) (w / 65536 % 256)) hP (by first | exact h0 | (simp only [inkF_2]; omega)) (by first | omega | (simp only [inkF_2]; omega))) ?_
  rw [bt_u8]
  refine st_aload_n rfl rfl (by decide) ?_
  refine st_iload_n rfl rfl ?_
  refine st_cv0 (w := []) rfl rfl rfl (Nat.le_of_ble_eq_true rfl) (Nat.le_of_ble_eq_true rfl) rfl rfl (r_add_t (s := inkF (inkF (inkF s (w / 16777216 % 256)) (w / 65536 % 256)) (w / 256 % 256)) hP (by first | exact h0 | (simp only [inkF_2]; omega)) (by first | omega | (simp only [inkF_2]; omega))) ?_
  refine st_ret rfl ?_
  exact ⟨rfl, by rw [i4_is]⟩
theorem r_Cart_feed {d N : Nat} {P : am_P} {H : am_H} {a b c e f : Int} (hP : PZ P) (ht : 0 ≤ H 5 1 ∧ H 5 1 ≤ 80) : am_R (d + 3) 1 [am_r 3, am_i (a), am_i (b), am_i (c), am_i (e), am_i (f)] (N, P, H) (some (am_i (if H 5 1 + 20 ≤ 80 then H 5 1 + 20 else -1))) (N, P, if H 5 1 + 20 ≤ 80 then tH H (i4F (i4F (i4F (i4F (i4F ((H 6, H 5 1)) a) b) c) e) f) else H) := by
  refine am_en1 (d := d + 2) (ml := 7) (ls := [_, _, _, _, _, _, _]) cq_Cart_feed rfl (Nat.le_of_ble_eq_true rfl) rfl ?_
  refine st_aload_n rfl rfl (by decide) ?_
  refine st_getR (kk := 0) rfl rfl rfl (pz_3_0 hP) rfl ?_
  refine st_getR (kk := 0) rfl rfl rfl (pz_4_0 hP) rfl ?_
  refine st_astore (ls' := [_, _, _, _, _, _, _]) rfl (by decide) (Nat.le_of_ble_eq_true rfl) rfl ?_
  refine st_aload rfl rfl (by decide) ?_
  refine st_getI (kk := 1) rfl rfl (by decide) rfl ?_
  refine st_bipush rfl ?_
  refine st_iadd rfl (by omega) ?_
  refine st_bipush rfl ?_
  refine st_icmp_le rfl (fun h9 => ?_) (fun h9 => ?_)
  · suffices hz : am_WP (am_R (d + 2)) cd_Cart_feed (fun v' s' => v' = some (am_i (if H 5 1 + 20 ≤ 80 then H 5 1 + 20 else -1)) ∧ s' = (N, P, if H 5 1 + 20 ≤ 80 then tH H (i4F (i4F (i4F (i4F (i4F ((H 6, H 5 1)) a) b) c) e) f) else H)) 12 [some (am_r 3), some (am_i a), some (am_i b), some (am_i c), some (am_i e), some (am_i f), some (am_r 5)] [] (N, P, tH H (H 6, H 5 1)) by
      rw [tH_s] at hz; exact hz
    refine st_aload rfl rfl (by decide) ?_
    refine st_iload_n rfl rfl ?_
    refine st_cv0 (w := []) rfl rfl rfl (Nat.le_of_ble_eq_true rfl) (Nat.le_of_ble_eq_true rfl) rfl rfl (r_ByteRow_addNumber (s := (H 6, H 5 1)) hP (by simp only [i4F]; omega) (by simp only [i4F]; omega)) ?_
    refine st_aload rfl rfl (by decide) ?_
    refine st_iload_n rfl rfl ?_
    refine st_cv0 (w := []) rfl rfl rfl (Nat.le_of_ble_eq_true rfl) (Nat.le_of_ble_eq_true rfl) rfl rfl (r_ByteRow_addNumber (s := i4F ((H 6, H 5 1)) a) hP (by simp only [i4F]; omega) (by simp only [i4F]; omega)) ?_
    refine st_aload rfl rfl (by decide) ?_
    refine st_iload_n rfl rfl ?_
    refine st_cv0 (w := []) rfl rfl rfl (Nat.le_of_ble_eq_true rfl) (Nat.le_of_ble_eq_true rfl) rfl rfl (r_ByteRow_addNumber (s := i4F (i4F ((H 6, H 5 1)) a) b) hP (by simp only [i4F]; omega) (by simp only [i4F]; omega)) ?_
    refine st_aload rfl rfl (by decide) ?_
    refine st_iload rfl rfl ?_
    refine st_cv0 (w := []) rfl rfl rfl (Nat.le_of_ble_eq_true rfl) (Nat.le_of_ble_eq_true rfl) rfl rfl (r_ByteRow_addNumber (s := i4F (i4F (i4F ((H 6, H 5 1)) a) b) c) hP (by simp only [i4F]; omega) (by simp only [i4F]; omega)) ?_
    refine st_aload rfl rfl (by decide) ?_
    refine st_iload rfl rfl ?_
    refine st_cv0 (w := []) rfl rfl rfl (Nat.le_of_ble_eq_true rfl) (Nat.le_of_ble_eq_true rfl) rfl rfl (r_ByteRow_addNumber (s := i4F (i4F (i4F (i4F ((H 6, H 5 1)) a) b) c) e) hP (by simp only [i4F]; omega) (by simp only [i4F]; omega)) ?_
    refine st_aload rfl rfl (by decide) ?_
    refine st_getI (kk := 1) rfl rfl (by decide) rfl ?_
    rw [tH_1]
    refine st_iret rfl (fun z => by first | exact absurd z (by decide) | exact bi_01 _ | decide | omega) ?_
    exact ⟨am_ri (by rw [if_pos (by omega)]; simp only [i4F]; omega), by rw [if_pos (by omega)]⟩
  · refine st_iconst rfl ?_
    refine st_iret rfl (fun z => by first | exact absurd z (by decide) | exact bi_01 _ | decide | omega) ?_
    exact ⟨am_ri (by rw [if_neg (by omega)]), by rw [if_neg (by omega)]⟩
theorem feed_b {H : am_H} {a b c e f : Int} (ha : -2147483648 ≤ a ∧ a < 2147483648) (hb : -2147483648 ≤ b ∧ b < 2147483648) (hc : -2147483648 ≤ c ∧ c < 2147483648) (he : -2147483648 ≤ e ∧ e < 2147483648) (hf : -2147483648 ≤ f ∧ f < 2147483648) {S : Int → Int} {n : Int} {i : Nat} (hi : i < 20) : (i4F (i4F (i4F (i4F (i4F (S, n) a) b) c) e) f).1 (n + (i : Int)) = fbF a b c e f i % 256 := by
  have hby : ∀ w : Int, (-2147483648 ≤ w ∧ w < 2147483648) → byn w ((i : Int) % 4) = w8 (am_shr w (24 - 8 * ((i : Int) % 4))) % 256 := by
    intro w hw
    have : (i : Int) % 4 = 0 ∨ (i : Int) % 4 = 1 ∨ (i : Int) % 4 = 2 ∨ (i : Int) % 4 = 3 := by omega
    rcases this with q | q | q | q
    · rw [q, bt_w8, show (24 : Int) - 8 * 0 = 24 by omega, bt_s24 hw]; rfl
    · rw [q, bt_w8, show (24 : Int) - 8 * 1 = 16 by omega, bt_s16 hw]; rfl
    · rw [q, bt_w8, show (24 : Int) - 8 * 2 = 8 by omega, bt_s8 hw]; rfl
    · rw [q, bt_w8, show (24 : Int) - 8 * 3 = 0 by omega, bt_s0 hw]; rfl
  unfold fbF wsF
  simp only [i4F]
  by_cases h1 : i < 4
  · rw [if_pos h1, if_neg (by omega), if_neg (by omega), if_neg (by omega), if_neg (by omega), if_pos (by omega), show n + (i : Int) - n = (i : Int) % 4 by omega, hby a ha]
  · rw [if_neg h1]
    by_cases h2 : i < 8
    · rw [if_pos h2, if_neg (by omega), if_neg (by omega), if_neg (by omega), if_pos (by omega), show n + (i : Int) - (n + 4) = (i : Int) % 4 by omega, hby b hb]
    · rw [if_neg h2]
      by_cases h3 : i < 12
      · rw [if_pos h3, if_neg (by omega), if_neg (by omega), if_pos (by omega), show n + (i : Int) - (n + 4 + 4) = (i : Int) % 4 by omega, hby c hc]
      · rw [if_neg h3]
        by_cases h4 : i < 16
        · rw [if_pos h4, if_neg (by omega), if_pos (by omega), show n + (i : Int) - (n + 4 + 4 + 4) = (i : Int) % 4 by omega, hby e he]
        · rw [if_neg h4, if_pos (by omega), show n + (i : Int) - (n + 4 + 4 + 4 + 4) = (i : Int) % 4 by omega, hby f hf]
theorem feed_o {a b c e f : Int} {S : Int → Int} {n x : Int} (hx : x < n) : (i4F (i4F (i4F (i4F (i4F (S, n) a) b) c) e) f).1 x = S x := by
  simp only [i4F]
  rw [if_neg (by omega), if_neg (by omega), if_neg (by omega), if_neg (by omega), if_neg (by omega)]
theorem tn_tnF {k : Nat} (h : k ≤ 6) : am_tn k = tnF k := by
  have : k = 0 ∨ k = 1 ∨ k = 2 ∨ k = 3 ∨ k = 4 ∨ k = 5 ∨ k = 6 := by omega
  rcases this with rfl | rfl | rfl | rfl | rfl | rfl | rfl <;> decide
theorem dg_r (x : Int) : 0 ≤ x % 10 ∧ x % 10 < 10 := by omega

theorem r_ByteRow_addDigits {d N : Nat} {P : am_P} {H : am_H} {s : OS} {v : Int} {n : Nat} (hP : PZ P) (hv : 0 ≤ v ∧ v < 1000000) (hn : n ≤ 6) (h0 : 0 ≤ s.2) (h1 : s.2 + (n : Int) ≤ 60) : am_R (d + 2) 135 [am_r 8, am_i (v), am_i ((n : Int))] (N, P, wH H s) none (N, P, wH H (nbF v n s)) := by
  refine am_en1 (d := d + 1) (ml := 4) (ls := [_, _, _, _]) cq_ByteRow_addDigits rfl (Nat.le_of_ble_eq_true rfl) rfl ?_
  refine st_iload_n rfl rfl ?_
  refine st_getstatic rfl ?_
  refine st_alenT rfl ?_
  refine st_min rfl (Nat.le_of_ble_eq_true rfl) ?_
  refine st_iconst rfl ?_
  refine st_isub rfl (by omega) ?_
  refine st_istore_n (ls' := [_, _, _, _]) rfl (Nat.le_of_ble_eq_true rfl) rfl ?_
  suffices hz : ∀ (j : Nat) (s : OS), j ≤ 6 → 0 ≤ s.2 → s.2 + (j : Int) ≤ 60 → am_WP (am_R (d + 1)) cd_ByteRow_addDigits (fun v' s' => v' = none ∧ s' = (N, P, wH H (nbF v j s))) 7 [some (am_r 8), some (am_i v), some (am_i (n : Int)), some (am_i ((j : Int) - 1))] [] (N, P, wH H s) by
    have := hz n s hn h0 h1
    rw [show (if (7 : Int) < (n : Int) then (7 : Int) else (n : Int)) = (n : Int) from if_neg (by omega)]
    exact this
  intro j
  induction j with
  | zero =>
    intro s hj q0 q1
    refine st_iload_n rfl rfl ?_
    refine st_if_lt rfl (fun h8 => ?_) (fun h8 => (by exfalso; omega))
    refine st_ret rfl ?_
    exact ⟨rfl, rfl⟩
  | succ j ih =>
    intro s hj q0 q1
    rw [show ((j + 1 : Nat) : Int) - 1 = (j : Int) by omega]
    have ht := tnF_r (j := j) (by omega)
    have hd := Int.ediv_nonneg hv.1 (by omega : 0 ≤ tnF j)
    have hd2 := Int.ediv_le_self (a := v) (tnF j) hv.1
    have hdg := dg_r (v / tnF j)
    refine st_iload_n rfl rfl ?_
    refine st_if_lt rfl (fun h8 => (by exfalso; omega)) (fun h8 => ?_)
    refine st_aload_n rfl rfl (by decide) ?_
    refine st_bipush rfl ?_
    refine st_iload_n rfl rfl ?_
    refine st_getstatic rfl ?_
    refine st_iload_n rfl rfl ?_
    refine st_iatens rfl (by omega) (by omega) ?_
    rw [show ((j : Int)).toNat = j by omega, tn_tnF (by omega)]
    refine st_idiv rfl (by omega) (by omega) (by omega) ?_
    refine st_bipush rfl ?_
    refine st_irem rfl (by omega) (by omega) (by omega) ?_
    refine st_iadd rfl (by omega) ?_
    refine st_cv0 (w := []) rfl rfl rfl (Nat.le_of_ble_eq_true rfl) (Nat.le_of_ble_eq_true rfl) rfl rfl (r_add_w hP q0 (by omega)) ?_
    rw [show (48 + v / tnF j % 10) % 256 = 48 + v / tnF j % 10 by omega]
    refine st_iinc (ls' := [_, _, _, _]) rfl rfl (by omega) rfl ?_
    refine st_goto rfl ?_
    rw [show (j : Int) + -1 = (j : Int) - 1 by omega]
    exact ih (inkF s (48 + v / tnF j % 10)) (by omega) (by rw [inkF_2]; omega) (by rw [inkF_2]; omega)
theorem nd_c {v : Int} (h0 : 0 ≤ v) (h1 : v < 1000000) : (∀ j : Nat, j + 1 < ndF v 1 → am_tn (j + 1) ≤ v) ∧ v < am_tn (ndF v 1) ∧ 1 ≤ ndF v 1 ∧ ndF v 1 ≤ 6 := by
  have t1 : am_tn 1 = 10 := rfl
  have t2 : am_tn 2 = 100 := rfl
  have t3 : am_tn 3 = 1000 := rfl
  have t4 : am_tn 4 = 10000 := rfl
  have t5 : am_tn 5 = 100000 := rfl
  have t6 : am_tn 6 = 1000000 := rfl
  have hc : (v < 10 ∧ ndF v 1 = 1) ∨ (10 ≤ v ∧ v < 100 ∧ ndF v 1 = 2) ∨ (100 ≤ v ∧ v < 1000 ∧ ndF v 1 = 3) ∨ (1000 ≤ v ∧ v < 10000 ∧ ndF v 1 = 4) ∨ (10000 ≤ v ∧ v < 100000 ∧ ndF v 1 = 5) ∨ (100000 ≤ v ∧ ndF v 1 = 6) := by
    unfold ndF
    (repeat' split) <;> omega
  have key : ∀ (n : Nat), ndF v 1 = n → 1 ≤ n → n ≤ 6 → (∀ j : Nat, j + 1 < n → am_tn (j + 1) ≤ v) → v < am_tn n → (∀ j : Nat, j + 1 < ndF v 1 → am_tn (j + 1) ≤ v) ∧ v < am_tn (ndF v 1) ∧ 1 ≤ ndF v 1 ∧ ndF v 1 ≤ 6 := by
    intro n e n1 n2 q1 q2
    rw [e]
    exact ⟨q1, q2, n1, n2⟩
  have jc : ∀ (n : Nat), n ≤ 6 → (1 < n → 10 ≤ v) → (2 < n → 100 ≤ v) → (3 < n → 1000 ≤ v) → (4 < n → 10000 ≤ v) → (5 < n → 100000 ≤ v) → ∀ j : Nat, j + 1 < n → am_tn (j + 1) ≤ v := by
    intro n hn a1 a2 a3 a4 a5 j hj
    have : j = 0 ∨ j = 1 ∨ j = 2 ∨ j = 3 ∨ j = 4 := by omega
    rcases this with rfl | rfl | rfl | rfl | rfl
    · rw [t1]; omega
    · rw [t2]; omega
    · rw [t3]; omega
    · rw [t4]; omega
    · rw [t5]; omega
  rcases hc with h | h | h | h | h | h
  · exact key 1 h.2 (by omega) (by omega) (jc 1 (by omega) (by omega) (by omega) (by omega) (by omega) (by omega)) (by omega)
  · exact key 2 h.2.2 (by omega) (by omega) (jc 2 (by omega) (by omega) (by omega) (by omega) (by omega) (by omega)) (by omega)
  · exact key 3 h.2.2 (by omega) (by omega) (jc 3 (by omega) (by omega) (by omega) (by omega) (by omega) (by omega)) (by omega)
  · exact key 4 h.2.2 (by omega) (by omega) (jc 4 (by omega) (by omega) (by omega) (by omega) (by omega) (by omega)) (by omega)
  · exact key 5 h.2.2 (by omega) (by omega) (jc 5 (by omega) (by omega) (by omega) (by omega) (by omega) (by omega)) (by omega)
  · exact key 6 h.2 (by omega) (by omega) (jc 6 (by omega) (by omega) (by omega) (by omega) (by omega) (by omega)) (by omega)

theorem r_Part_lengthOfNumber {d N : Nat} {P : am_P} {H : am_H} {v : Int} (hv : 0 ≤ v ∧ v < 1000000) : am_R (d + 1) 181 [am_i (v)] (N, P, H) (some (am_i ((ndF v 1 : Int)))) (N, P, H) := by
  refine am_en1 (d := d + 0) (ml := 2) (ls := [_, _]) cq_Part_lengthOfNumber rfl (Nat.le_of_ble_eq_true rfl) rfl ?_
  refine st_iconst rfl ?_
  refine st_istore_n (ls' := [_, _]) rfl (Nat.le_of_ble_eq_true rfl) rfl ?_
  obtain ⟨q1, q2, q3, q4⟩ := nd_c hv.1 hv.2
  suffices hz : ∀ j, j ≤ ndF v 1 - 1 → am_WP (am_R (d + 0)) cd_Part_lengthOfNumber (fun v' s' => v' = some (am_i (ndF v 1 : Int)) ∧ s' = (N, P, H)) 2 [some (am_i v), some (am_i ((j : Int) + 1))] [] (N, P, H) from hz 0 (Nat.zero_le _)
  refine up_ind (n := ndF v 1 - 1) ?_ ?_
  · rw [show (((ndF v 1 - 1 : Nat) : Int) + 1) = (ndF v 1 : Int) by omega]
    refine st_iload_n rfl rfl ?_
    refine st_getstatic rfl ?_
    refine st_alenT rfl ?_
    refine st_icmp_ge rfl (fun h5 => (by exfalso; omega)) (fun h5 => ?_)
    refine st_iload_n rfl rfl ?_
    refine st_getstatic rfl ?_
    refine st_iload_n rfl rfl ?_
    refine st_iatens rfl (by omega) (by omega) ?_
    rw [show ((ndF v 1 : Int)).toNat = ndF v 1 by omega]
    refine st_icmp_lt rfl (fun h10 => ?_) (fun h10 => (by exfalso; omega))
    refine st_iload_n rfl rfl ?_
    refine st_iret rfl (fun z => by first | exact absurd z (by decide) | exact bi_01 _ | decide | omega) ?_
    exact ⟨rfl, rfl⟩
  · intro j hj ih
    have hj1 := q1 j (by omega)
    refine st_iload_n rfl rfl ?_
    refine st_getstatic rfl ?_
    refine st_alenT rfl ?_
    refine st_icmp_ge rfl (fun h5 => (by exfalso; omega)) (fun h5 => ?_)
    refine st_iload_n rfl rfl ?_
    refine st_getstatic rfl ?_
    refine st_iload_n rfl rfl ?_
    refine st_iatens rfl (by omega) (by omega) ?_
    rw [show ((j : Int) + 1).toNat = j + 1 by omega]
    refine st_icmp_lt rfl (fun h10 => (by exfalso; omega)) (fun h10 => ?_)
    refine st_iinc (ls' := [_, _]) rfl rfl (by omega) rfl ?_
    refine st_goto rfl ?_
    rw [show (j : Int) + 1 + 1 = ((j + 1 : Nat) : Int) + 1 by omega]
    exact ih
theorem r_Part_spellLetters {d N : Nat} {P : am_P} {H : am_H} {s : OS} {v : Int} (hP : PZ P) (hv : 0 ≤ v ∧ v ≤ 19682) (h0 : 0 ≤ s.2) (h1 : s.2 + letN v ≤ 60) : am_R (d + 2) 178 [am_i (v), am_r 8] (N, P, wH H s) none (N, P, wH H (lwF v s)) := by
  refine am_en1 (d := d + 1) (ml := 2) (ls := [_, _]) cq_Part_spellLetters rfl (Nat.le_of_ble_eq_true rfl) rfl ?_
  have hl : letN v = (if 729 ≤ v then 1 else 0) + (if 27 ≤ v then 1 else 0) + 1 := by unfold letN; (repeat' split) <;> omega
  have e1 : (lw1 v s).2 = s.2 + (if 729 ≤ v then 1 else 0) := lw1_2 v s
  have e2 : (lw2 v (lw1 v s)).2 = (lw1 v s).2 + (if 27 ≤ v then 1 else 0) := lw2_2 v _
  refine st_iload_n rfl rfl ?_
  refine st_sipush rfl ?_
  refine st_icmp_lt rfl (fun h2 => ?_) (fun h2 => ?_)
  · first
    | (rw [show wH H (inkF s ((65 + v / 729 - 1) % 256)) = wH H (lw1 v s) by unfold lw1; rw [if_pos (by omega), show (65 + v / 729 - 1) % 256 = 64 + v / 729 by omega]])
    | (rw [show wH H s = wH H (lw1 v s) by unfold lw1; rw [if_neg (by omega)]])
    refine st_iload_n rfl rfl ?_
    refine st_bipush rfl ?_
    refine st_icmp_lt rfl (fun h14 => ?_) (fun h14 => ?_)
    · first
      | (rw [show wH H (inkF (lw1 v s) ((65 + v / 27 % 27 - 1) % 256)) = wH H (lw2 v (lw1 v s)) by unfold lw2; rw [if_pos (by omega), show (65 + v / 27 % 27 - 1) % 256 = 64 + v / 27 % 27 by omega]])
      | (rw [show wH H (lw1 v s) = wH H (lw2 v (lw1 v s)) by unfold lw2; rw [if_neg (by omega)]])
      refine st_aload_n rfl rfl (by decide) ?_
      refine st_bipush rfl ?_
      refine st_iload_n rfl rfl ?_
      refine st_bipush rfl ?_
      refine st_irem rfl (by omega) (by omega) (by omega) ?_
      refine st_iadd rfl (by omega) ?_
      refine st_iconst rfl ?_
      refine st_isub rfl (by omega) ?_
      refine st_cv0 (w := []) rfl rfl rfl (Nat.le_of_ble_eq_true rfl) (Nat.le_of_ble_eq_true rfl) rfl rfl (r_add_w (s := lw2 v (lw1 v s)) hP (by rw [e2, e1]; (repeat' split) <;> omega) (by rw [e2, e1]; (repeat' split at hl) <;> (repeat' split) <;> omega)) ?_
      refine st_ret rfl ?_
      exact ⟨rfl, by unfold lwF; rw [show (65 + v % 27 - 1) % 256 = 64 + v % 27 by omega]⟩
    · refine st_aload_n rfl rfl (by decide) ?_
      refine st_bipush rfl ?_
      refine st_iload_n rfl rfl ?_
      refine st_bipush rfl ?_
      refine st_idiv rfl (by omega) (by omega) (by omega) ?_
      refine st_bipush rfl ?_
      refine st_irem rfl (by omega) (by omega) (by omega) ?_
      refine st_iadd rfl (by omega) ?_
      refine st_iconst rfl ?_
      refine st_isub rfl (by omega) ?_
      refine st_cv0 (w := []) rfl rfl rfl (Nat.le_of_ble_eq_true rfl) (Nat.le_of_ble_eq_true rfl) rfl rfl (r_add_w (s := lw1 v s) hP (by rw [e1]; split <;> omega) (by rw [e1]; (repeat' split at hl) <;> (try split) <;> omega)) ?_
      first
      | (rw [show wH H (inkF (lw1 v s) ((65 + v / 27 % 27 - 1) % 256)) = wH H (lw2 v (lw1 v s)) by unfold lw2; rw [if_pos (by omega), show (65 + v / 27 % 27 - 1) % 256 = 64 + v / 27 % 27 by omega]])
      | (rw [show wH H (lw1 v s) = wH H (lw2 v (lw1 v s)) by unfold lw2; rw [if_neg (by omega)]])
      refine st_aload_n rfl rfl (by decide) ?_
      refine st_bipush rfl ?_
      refine st_iload_n rfl rfl ?_
      refine st_bipush rfl ?_
      refine st_irem rfl (by omega) (by omega) (by omega) ?_
      refine st_iadd rfl (by omega) ?_
      refine st_iconst rfl ?_
      refine st_isub rfl (by omega) ?_
      refine st_cv0 (w := []) rfl rfl rfl (Nat.le_of_ble_eq_true rfl) (Nat.le_of_ble_eq_true rfl) rfl rfl (r_add_w (s := lw2 v (lw1 v s)) hP (by rw [e2, e1]; (repeat' split) <;> omega) (by rw [e2, e1]; (repeat' split at hl) <;> (repeat' split) <;> omega)) ?_
      refine st_ret rfl ?_
      exact ⟨rfl, by unfold lwF; rw [show (65 + v % 27 - 1) % 256 = 64 + v % 27 by omega]⟩
  · refine st_aload_n rfl rfl (by decide) ?_
    refine st_bipush rfl ?_
    refine st_iload_n rfl rfl ?_
    refine st_sipush rfl ?_
    refine st_idiv rfl (by omega) (by omega) (by omega) ?_
    refine st_iadd rfl (by omega) ?_
    refine st_iconst rfl ?_
    refine st_isub rfl (by omega) ?_
    refine st_cv0 (w := []) rfl rfl rfl (Nat.le_of_ble_eq_true rfl) (Nat.le_of_ble_eq_true rfl) rfl rfl (r_add_w hP h0 (by (repeat' split at hl) <;> omega)) ?_
    first
    | (rw [show wH H (inkF s ((65 + v / 729 - 1) % 256)) = wH H (lw1 v s) by unfold lw1; rw [if_pos (by omega), show (65 + v / 729 - 1) % 256 = 64 + v / 729 by omega]])
    | (rw [show wH H s = wH H (lw1 v s) by unfold lw1; rw [if_neg (by omega)]])
    refine st_iload_n rfl rfl ?_
    refine st_bipush rfl ?_
    refine st_icmp_lt rfl (fun h14 => (by exfalso; omega)) (fun h14 => ?_)
    refine st_aload_n rfl rfl (by decide) ?_
    refine st_bipush rfl ?_
    refine st_iload_n rfl rfl ?_
    refine st_bipush rfl ?_
    refine st_idiv rfl (by omega) (by omega) (by omega) ?_
    refine st_bipush rfl ?_
    refine st_irem rfl (by omega) (by omega) (by omega) ?_
    refine st_iadd rfl (by omega) ?_
    refine st_iconst rfl ?_
    refine st_isub rfl (by omega) ?_
    refine st_cv0 (w := []) rfl rfl rfl (Nat.le_of_ble_eq_true rfl) (Nat.le_of_ble_eq_true rfl) rfl rfl (r_add_w (s := lw1 v s) hP (by rw [e1]; split <;> omega) (by rw [e1]; (repeat' split at hl) <;> (try split) <;> omega)) ?_
    first
    | (rw [show wH H (inkF (lw1 v s) ((65 + v / 27 % 27 - 1) % 256)) = wH H (lw2 v (lw1 v s)) by unfold lw2; rw [if_pos (by omega), show (65 + v / 27 % 27 - 1) % 256 = 64 + v / 27 % 27 by omega]])
    | (rw [show wH H (lw1 v s) = wH H (lw2 v (lw1 v s)) by unfold lw2; rw [if_neg (by omega)]])
    refine st_aload_n rfl rfl (by decide) ?_
    refine st_bipush rfl ?_
    refine st_iload_n rfl rfl ?_
    refine st_bipush rfl ?_
    refine st_irem rfl (by omega) (by omega) (by omega) ?_
    refine st_iadd rfl (by omega) ?_
    refine st_iconst rfl ?_
    refine st_isub rfl (by omega) ?_
    refine st_cv0 (w := []) rfl rfl rfl (Nat.le_of_ble_eq_true rfl) (Nat.le_of_ble_eq_true rfl) rfl rfl (r_add_w (s := lw2 v (lw1 v s)) hP (by rw [e2, e1]; (repeat' split) <;> omega) (by rw [e2, e1]; (repeat' split at hl) <;> (repeat' split) <;> omega)) ?_
    refine st_ret rfl ?_
    exact ⟨rfl, by unfold lwF; rw [show (65 + v % 27 - 1) % 256 = 64 + v % 27 by omega]⟩
