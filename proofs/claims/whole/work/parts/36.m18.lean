/-! ===== the reference: feeding, the reading of texts ===== -/
def pfy (V : Nat → Int) (S : Int → Int) (lo : Int) (t : Nat) : Int → Int := fun k => if lo ≤ k ∧ k < lo + (t : Int) then V (k - lo).toNat else S k
theorem pfy_0 (V : Nat → Int) (S : Int → Int) (lo : Int) : pfy V S lo 0 = S := by
  funext k; exact if_neg (by omega)
theorem pfy_s (V : Nat → Int) (S : Int → Int) (lo : Int) (t : Nat) : pfy V S lo (t + 1) = am_uf (pfy V S lo t) (lo + (t : Int)) (V t) := by
  funext k
  unfold am_uf pfy
  by_cases h : k = lo + (t : Int)
  · rw [if_pos (by omega), if_pos h, h, show (lo + (t : Int) - lo).toNat = t by omega]
  · rw [if_neg h]
    by_cases h2 : lo ≤ k ∧ k < lo + (t : Int)
    · rw [if_pos h2, if_pos (by omega)]
    · rw [if_neg h2, if_neg (by omega)]
def wsF (a b c e f : Int) (i : Nat) : Int := if i < 4 then a else if i < 8 then b else if i < 12 then c else if i < 16 then e else f
def fbF (a b c e f : Int) (i : Nat) : Int := w8 (am_shr (wsF a b c e f i) (24 - 8 * ((i : Int) % 4)))
def fdH (H : am_H) (V : Nat → Int) (j : Nat) : am_H := am_so (am_so H 56 (pfy V (H 56) (H 53 3) j)) 53 (am_uf (H 53) 3 (H 53 3 + (j : Int)))
theorem fdH_0 (H : am_H) (V : Nat → Int) : fdH H V 0 = H := by
  unfold fdH
  rw [pfy_0, am_so_self, show am_uf (H 53) 3 (H 53 3 + ((0 : Nat) : Int)) = H 53 from uf_self _ (by omega), am_so_self]
theorem fdH_3 (H : am_H) (V : Nat → Int) (j : Nat) : fdH H V j 53 3 = H 53 3 + (j : Int) := by unfold fdH; rw [am_so_at, am_uf_eq]
theorem fdH_s (H : am_H) (V : Nat → Int) (j : Nat) : am_up (am_up (fdH H V j) 56 (H 53 3 + (j : Int)) (V j)) 53 3 (H 53 3 + (j : Int) + 1) = fdH H V (j + 1) := by
  funext o
  by_cases h : o = 53
  · subst h
    rw [am_up_eq, am_up_ne (by decide)]
    funext k
    unfold fdH
    rw [am_so_at, am_so_at]
    unfold am_uf
    split
    · omega
    · rfl
  · rw [am_up_ne h]
    by_cases h2 : o = 56
    · subst h2
      rw [am_up_eq]
      unfold fdH
      rw [am_so_ne _ _ (by decide), am_so_at, am_so_ne _ _ (by decide), am_so_at, pfy_s]
    · rw [am_up_ne h2]
      unfold fdH
      rw [am_so_ne _ _ h, am_so_ne _ _ h2, am_so_ne _ _ h, am_so_ne _ _ h2]
theorem w8_w8 (x : Int) : w8 (w8 x) = w8 x := by unfold w8; omega

theorem r_Model_feed {d N : Nat} {P : am_P} {H : am_H} {a b c e f : Int} (hP : PZ P) (h1 : 0 ≤ H 53 3 ∧ H 53 3 ≤ 80) : am_R (d + 1) 48 [am_r 53, am_i (a), am_i (b), am_i (c), am_i (e), am_i (f)] (N, P, H) (some (am_i (if H 53 3 + 20 ≤ 80 then H 53 3 + 20 else -1))) (N, P, if H 53 3 + 20 ≤ 80 then fdH H (fbF a b c e f) 20 else H) := by
  refine am_en1 (d := d + 0) (ml := 8) (ls := [_, _, _, _, _, _, _, _]) cq_Model_feed rfl (Nat.le_of_ble_eq_true rfl) rfl ?_
  refine st_aload_n rfl rfl (by decide) ?_
  refine st_getI (kk := 3) rfl rfl (by decide) rfl ?_
  refine st_bipush rfl ?_
  refine st_iadd rfl (by omega) ?_
  refine st_bipush rfl ?_
  refine st_icmp_le rfl (fun h5 => ?_) (fun h5 => ?_)
  · refine st_iconst rfl ?_
    refine st_istore (ls' := [_, _, _, _, _, _, _, _]) rfl (Nat.le_of_ble_eq_true rfl) rfl ?_
    rw [show (N, P, H) = (N, P, fdH H (fbF a b c e f) 0) by rw [fdH_0]]
    refine up_ind (n := 20) (p := fun j => ∀ t, am_WP (am_R (d + 0)) cd_Model_feed _ 10 [some (am_r 53), some (am_i a), some (am_i b), some (am_i c), some (am_i e), some (am_i f), some (am_i (j : Int)), t] [] (N, P, fdH H (fbF a b c e f) j)) ?_ ?_ 0 (Nat.zero_le _) _
    · intro t
      refine st_iload rfl rfl ?_
      refine st_bipush rfl ?_
      refine st_icmp_ge rfl (fun h12 => ?_) (fun h12 => (by exfalso; omega))
      refine st_aload_n rfl rfl (by decide) ?_
      refine st_getI (kk := 3) rfl rfl (by decide) rfl ?_
      rw [fdH_3]
      refine st_iret rfl (fun z => by first | exact absurd z (by decide) | exact bi_01 _ | decide | omega) ?_
      refine ⟨am_ri (by rw [if_pos (by omega)]; rfl), ?_⟩
      rw [if_pos (by omega)]
    · intro j hj ih
      intro t
      refine st_iload rfl rfl ?_
      refine st_bipush rfl ?_
      refine st_icmp_ge rfl (fun h12 => (by exfalso; omega)) (fun h12 => ?_)
      refine st_iload rfl rfl ?_
      refine st_iconst rfl ?_
      refine st_icmp_ge rfl (fun h15 => ?_) (fun h15 => ?_)
      · refine st_iload rfl rfl ?_
        refine st_bipush rfl ?_
        refine st_icmp_ge rfl (fun h20 => ?_) (fun h20 => ?_)
        · refine st_iload rfl rfl ?_
          refine st_bipush rfl ?_
          refine st_icmp_ge rfl (fun h25 => ?_) (fun h25 => ?_)
          · refine st_iload rfl rfl ?_
            refine st_bipush rfl ?_
            refine st_icmp_ge rfl (fun h30 => ?_) (fun h30 => ?_)
            · refine st_iload rfl rfl ?_
              refine st_istore (ls' := [_, _, _, _, _, _, _, _]) rfl (Nat.le_of_ble_eq_true rfl) rfl ?_
              refine st_aload_n rfl rfl (by decide) ?_
              refine st_getR (kk := 2) rfl rfl rfl (pz_53_2 hP) rfl ?_
              refine st_aload_n rfl rfl (by decide) ?_
              refine st_getI (kk := 3) rfl rfl (by decide) rfl ?_
              rw [fdH_3]
              refine st_iload rfl rfl ?_
              refine st_bipush rfl ?_
              refine st_bipush rfl ?_
              refine st_iload rfl rfl ?_
              refine st_iconst rfl ?_
              refine st_irem rfl (by omega) (by omega) (by omega) ?_
              refine st_imul rfl (by omega) ?_
              refine st_isub rfl (by omega) ?_
              refine st_ishr rfl rfl ?_
              refine st_i2b rfl rfl ?_
              refine st_bastoreB rfl rfl (by omega) (by omega) ?_
              refine st_aload_n rfl rfl (by decide) ?_
              refine st_dup rfl rfl ?_
              refine st_getI (kk := 3) rfl rfl (by decide) rfl ?_
              rw [am_up_ne (by decide), fdH_3]
              refine st_iconst rfl ?_
              refine st_iadd rfl (by omega) ?_
              refine st_putI (kk := 3) rfl rfl rfl rfl ?_
              refine st_iinc (ls' := [_, _, _, _, _, _, _, _]) rfl rfl (by omega) rfl ?_
              refine st_goto rfl ?_
              have hs := fdH_s H (fbF a b c e f) j
              first
              | rw [show fbF a b c e f j = w8 (am_shr a (24 - 8 * ((j : Int) % 4))) by unfold fbF wsF; rw [if_pos (by omega)]] at hs
              | rw [show fbF a b c e f j = w8 (am_shr b (24 - 8 * ((j : Int) % 4))) by unfold fbF wsF; rw [if_neg (by omega), if_pos (by omega)]] at hs
              | rw [show fbF a b c e f j = w8 (am_shr c (24 - 8 * ((j : Int) % 4))) by unfold fbF wsF; rw [if_neg (by omega), if_neg (by omega), if_pos (by omega)]] at hs
              | rw [show fbF a b c e f j = w8 (am_shr e (24 - 8 * ((j : Int) % 4))) by unfold fbF wsF; rw [if_neg (by omega), if_neg (by omega), if_neg (by omega), if_pos (by omega)]] at hs
              | rw [show fbF a b c e f j = w8 (am_shr f (24 - 8 * ((j : Int) % 4))) by unfold fbF wsF; rw [if_neg (by omega), if_neg (by omega), if_neg (by omega), if_neg (by omega)]] at hs
              rw [w8_w8, hs]
              exact ih _
            · refine st_iload rfl rfl ?_
              refine st_goto rfl ?_
              refine st_istore (ls' := [_, _, _, _, _, _, _, _]) rfl (Nat.le_of_ble_eq_true rfl) rfl ?_
              refine st_aload_n rfl rfl (by decide) ?_
              refine st_getR (kk := 2) rfl rfl rfl (pz_53_2 hP) rfl ?_
              refine st_aload_n rfl rfl (by decide) ?_
              refine st_getI (kk := 3) rfl rfl (by decide) rfl ?_
              rw [fdH_3]
              refine st_iload rfl rfl ?_
              refine st_bipush rfl ?_
              refine st_bipush rfl ?_
              refine st_iload rfl rfl ?_
              refine st_iconst rfl ?_
              refine st_irem rfl (by omega) (by omega) (by omega) ?_
              refine st_imul rfl (by omega) ?_
              refine st_isub rfl (by omega) ?_
              refine st_ishr rfl rfl ?_
              refine st_i2b rfl rfl ?_
              refine st_bastoreB rfl rfl (by omega) (by omega) ?_
              refine st_aload_n rfl rfl (by decide) ?_
              refine st_dup rfl rfl ?_
              refine st_getI (kk := 3) rfl rfl (by decide) rfl ?_
              rw [am_up_ne (by decide), fdH_3]
              refine st_iconst rfl ?_
              refine st_iadd rfl (by omega) ?_
              refine st_putI (kk := 3) rfl rfl rfl rfl ?_
              refine st_iinc (ls' := [_, _, _, _, _, _, _, _]) rfl rfl (by omega) rfl ?_
              refine st_goto rfl ?_
              have hs := fdH_s H (fbF a b c e f) j
              first
              | rw [show fbF a b c e f j = w8 (am_shr a (24 - 8 * ((j : Int) % 4))) by unfold fbF wsF; rw [if_pos (by omega)]] at hs
              | rw [show fbF a b c e f j = w8 (am_shr b (24 - 8 * ((j : Int) % 4))) by unfold fbF wsF; rw [if_neg (by omega), if_pos (by omega)]] at hs
              | rw [show fbF a b c e f j = w8 (am_shr c (24 - 8 * ((j : Int) % 4))) by unfold fbF wsF; rw [if_neg (by omega), if_neg (by omega), if_pos (by omega)]] at hs
              | rw [show fbF a b c e f j = w8 (am_shr e (24 - 8 * ((j : Int) % 4))) by unfold fbF wsF; rw [if_neg (by omega), if_neg (by omega), if_neg (by omega), if_pos (by omega)]] at hs
              | rw [show fbF a b c e f j = w8 (am_shr f (24 - 8 * ((j : Int) % 4))) by unfold fbF wsF; rw [if_neg (by omega), if_neg (by omega), if_neg (by omega), if_neg (by omega)]] at hs
              rw [w8_w8, hs]
              exact ih _
          · refine st_iload_n rfl rfl ?_
            refine st_goto rfl ?_
            refine st_istore (ls' := [_, _, _, _, _, _, _, _]) rfl (Nat.le_of_ble_eq_true rfl) rfl ?_
            refine st_aload_n rfl rfl (by decide) ?_
            refine st_getR (kk := 2) rfl rfl rfl (pz_53_2 hP) rfl ?_
            refine st_aload_n rfl rfl (by decide) ?_
            refine st_getI (kk := 3) rfl rfl (by decide) rfl ?_
            rw [fdH_3]
            refine st_iload rfl rfl ?_
            refine st_bipush rfl ?_
            refine st_bipush rfl ?_
            refine st_iload rfl rfl ?_
            refine st_iconst rfl ?_
            refine st_irem rfl (by omega) (by omega) (by omega) ?_
            refine st_imul rfl (by omega) ?_
            refine st_isub rfl (by omega) ?_
            refine st_ishr rfl rfl ?_
            refine st_i2b rfl rfl ?_
            refine st_bastoreB rfl rfl (by omega) (by omega) ?_
            refine st_aload_n rfl rfl (by decide) ?_
            refine st_dup rfl rfl ?_
            refine st_getI (kk := 3) rfl rfl (by decide) rfl ?_
            rw [am_up_ne (by decide), fdH_3]
            refine st_iconst rfl ?_
            refine st_iadd rfl (by omega) ?_
            refine st_putI (kk := 3) rfl rfl rfl rfl ?_
            refine st_iinc (ls' := [_, _, _, _, _, _, _, _]) rfl rfl (by omega) rfl ?_
            refine st_goto rfl ?_
            have hs := fdH_s H (fbF a b c e f) j
            first
            | rw [show fbF a b c e f j = w8 (am_shr a (24 - 8 * ((j : Int) % 4))) by unfold fbF wsF; rw [if_pos (by omega)]] at hs
            | rw [show fbF a b c e f j = w8 (am_shr b (24 - 8 * ((j : Int) % 4))) by unfold fbF wsF; rw [if_neg (by omega), if_pos (by omega)]] at hs
            | rw [show fbF a b c e f j = w8 (am_shr c (24 - 8 * ((j : Int) % 4))) by unfold fbF wsF; rw [if_neg (by omega), if_neg (by omega), if_pos (by omega)]] at hs
            | rw [show fbF a b c e f j = w8 (am_shr e (24 - 8 * ((j : Int) % 4))) by unfold fbF wsF; rw [if_neg (by omega), if_neg (by omega), if_neg (by omega), if_pos (by omega)]] at hs
            | rw [show fbF a b c e f j = w8 (am_shr f (24 - 8 * ((j : Int) % 4))) by unfold fbF wsF; rw [if_neg (by omega), if_neg (by omega), if_neg (by omega), if_neg (by omega)]] at hs
            rw [w8_w8, hs]
            exact ih _
        · refine st_iload_n rfl rfl ?_
          refine st_goto rfl ?_
          refine st_istore (ls' := [_, _, _, _, _, _, _, _]) rfl (Nat.le_of_ble_eq_true rfl) rfl ?_
          refine st_aload_n rfl rfl (by decide) ?_
          refine st_getR (kk := 2) rfl rfl rfl (pz_53_2 hP) rfl ?_
          refine st_aload_n rfl rfl (by decide) ?_
          refine st_getI (kk := 3) rfl rfl (by decide) rfl ?_
          rw [fdH_3]
          refine st_iload rfl rfl ?_
          refine st_bipush rfl ?_
          refine st_bipush rfl ?_
          refine st_iload rfl rfl ?_
          refine st_iconst rfl ?_
          refine st_irem rfl (by omega) (by omega) (by omega) ?_
          refine st_imul rfl (by omega) ?_
          refine st_isub rfl (by omega) ?_
          refine st_ishr rfl rfl ?_
          refine st_i2b rfl rfl ?_
          refine st_bastoreB rfl rfl (by omega) (by omega) ?_
          refine st_aload_n rfl rfl (by decide) ?_
          refine st_dup rfl rfl ?_
          refine st_getI (kk := 3) rfl rfl (by decide) rfl ?_
          rw [am_up_ne (by decide), fdH_3]
          refine st_iconst rfl ?_
          refine st_iadd rfl (by omega) ?_
          refine st_putI (kk := 3) rfl rfl rfl rfl ?_
          refine st_iinc (ls' := [_, _, _, _, _, _, _, _]) rfl rfl (by omega) rfl ?_
          refine st_goto rfl ?_
          have hs := fdH_s H (fbF a b c e f) j
          first
          | rw [show fbF a b c e f j = w8 (am_shr a (24 - 8 * ((j : Int) % 4))) by unfold fbF wsF; rw [if_pos (by omega)]] at hs
          | rw [show fbF a b c e f j = w8 (am_shr b (24 - 8 * ((j : Int) % 4))) by unfold fbF wsF; rw [if_neg (by omega), if_pos (by omega)]] at hs
          | rw [show fbF a b c e f j = w8 (am_shr c (24 - 8 * ((j : Int) % 4))) by unfold fbF wsF; rw [if_neg (by omega), if_neg (by omega), if_pos (by omega)]] at hs
          | rw [show fbF a b c e f j = w8 (am_shr e (24 - 8 * ((j : Int) % 4))) by unfold fbF wsF; rw [if_neg (by omega), if_neg (by omega), if_neg (by omega), if_pos (by omega)]] at hs
          | rw [show fbF a b c e f j = w8 (am_shr f (24 - 8 * ((j : Int) % 4))) by unfold fbF wsF; rw [if_neg (by omega), if_neg (by omega), if_neg (by omega), if_neg (by omega)]] at hs
          rw [w8_w8, hs]
          exact ih _
      · refine st_iload_n rfl rfl ?_
        refine st_goto rfl ?_
        refine st_istore (ls' := [_, _, _, _, _, _, _, _]) rfl (Nat.le_of_ble_eq_true rfl) rfl ?_
        refine st_aload_n rfl rfl (by decide) ?_
        refine st_getR (kk := 2) rfl rfl rfl (pz_53_2 hP) rfl ?_
        refine st_aload_n rfl rfl (by decide) ?_
        refine st_getI (kk := 3) rfl rfl (by decide) rfl ?_
        rw [fdH_3]
        refine st_iload rfl rfl ?_
        refine st_bipush rfl ?_
        refine st_bipush rfl ?_
        refine st_iload rfl rfl ?_
        refine st_iconst rfl ?_
        refine st_irem rfl (by omega) (by omega) (by omega) ?_
        refine st_imul rfl (by omega) ?_
        refine st_isub rfl (by omega) ?_
        refine st_ishr rfl rfl ?_
        refine st_i2b rfl rfl ?_
        refine st_bastoreB rfl rfl (by omega) (by omega) ?_
        refine st_aload_n rfl rfl (by decide) ?_
        refine st_dup rfl rfl ?_
        refine st_getI (kk := 3) rfl rfl (by decide) rfl ?_
        rw [am_up_ne (by decide), fdH_3]
        refine st_iconst rfl ?_
        refine st_iadd rfl (by omega) ?_
        refine st_putI (kk := 3) rfl rfl rfl rfl ?_
        refine st_iinc (ls' := [_, _, _, _, _, _, _, _]) rfl rfl (by omega) rfl ?_
        refine st_goto rfl ?_
        have hs := fdH_s H (fbF a b c e f) j
        first
        | rw [show fbF a b c e f j = w8 (am_shr a (24 - 8 * ((j : Int) % 4))) by unfold fbF wsF; rw [if_pos (by omega)]] at hs
        | rw [show fbF a b c e f j = w8 (am_shr b (24 - 8 * ((j : Int) % 4))) by unfold fbF wsF; rw [if_neg (by omega), if_pos (by omega)]] at hs
        | rw [show fbF a b c e f j = w8 (am_shr c (24 - 8 * ((j : Int) % 4))) by unfold fbF wsF; rw [if_neg (by omega), if_neg (by omega), if_pos (by omega)]] at hs
        | rw [show fbF a b c e f j = w8 (am_shr e (24 - 8 * ((j : Int) % 4))) by unfold fbF wsF; rw [if_neg (by omega), if_neg (by omega), if_neg (by omega), if_pos (by omega)]] at hs
        | rw [show fbF a b c e f j = w8 (am_shr f (24 - 8 * ((j : Int) % 4))) by unfold fbF wsF; rw [if_neg (by omega), if_neg (by omega), if_neg (by omega), if_neg (by omega)]] at hs
        rw [w8_w8, hs]
        exact ih _
  · refine st_iconst rfl ?_
    refine st_iret rfl (fun z => by first | exact absurd z (by decide) | exact bi_01 _ | decide | omega) ?_
    refine ⟨am_ri (by rw [if_neg (by omega)]), ?_⟩
    rw [if_neg (by omega)]
