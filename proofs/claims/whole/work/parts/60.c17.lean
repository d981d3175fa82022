/-! ===== the class: a shelf filled ===== -/
theorem sm_s (w : Int → Int) (i : Int) (c : Nat) : smF w i (c + 1) = smF w i c + w (i + (c : Int)) := rfl
theorem ch_s (hm : Int → Int) (k i : Int) (c : Nat) : chF hm k i (c + 1) = chF hm k i c + (if hm (i + (c : Int)) = k then 0 else 1) := rfl
theorem tr_s (T e0 : Int) (w hm pd rest : Int → Int) (n k L G i : Int) (c : Nat) : trL T e0 w hm pd rest n k L G i (c + 1) = if i + (c : Int) ≤ n ∧ trG w pd n L G i c ∧ chF hm k i c + rest (i + (c : Int)) < (trL T e0 w hm pd rest n k L G i c).1 then (chF hm k i c + rest (i + (c : Int)), i + (c : Int)) else trL T e0 w hm pd rest n k L G i c := rfl
theorem smF_mo {w : Int → Int} {i n : Int} (hi : 0 ≤ i) (h : ∀ x, 0 ≤ x → x < n → 1 ≤ w x ∧ w x ≤ 210) (c : Nat) : ∀ x : Nat, i + ((c + x : Nat) : Int) ≤ n → smF w i c ≤ smF w i (c + x)
  | 0, _ => Int.le_refl _
  | x + 1, hx => by
    have ih := smF_mo hi h c x (by omega)
    have := h (i + ((c + x : Nat) : Int)) (by omega) (by omega)
    show smF w i c ≤ smF w i (c + x + 1)
    rw [sm_s]
    omega
theorem trL_brk {T e0 : Int} {w hm pd rest : Int → Int} {n k L G i : Int} (hi : 0 ≤ i) (h : ∀ x, 0 ≤ x → x < n → 1 ≤ w x ∧ w x ≤ 210) {c : Nat} (hG : G < smF w i c) : ∀ x : Nat, trL T e0 w hm pd rest n k L G i (c + x) = trL T e0 w hm pd rest n k L G i c
  | 0 => rfl
  | x + 1 => by
    have ih := trL_brk (T := T) (e0 := e0) (hm := hm) (pd := pd) (rest := rest) (k := k) (L := L) hi h hG x
    show trL T e0 w hm pd rest n k L G i (c + x + 1) = _
    rw [tr_s, if_neg]
    · exact ih
    · intro z
      have := smF_mo hi h c x z.1
      have := z.2.1.1
      omega

theorem r_Shifter_fill {d N : Nat} {P : am_P} {H : am_H} {k b s L G : Int} {n : Nat} (hP : PZ P) (h0 : H 43 0 = (n : Int)) (hn : n ≤ 200) (hL : H 43 8 = L) (hG : H 43 9 = G) (hk : 0 ≤ k ∧ k < 16) (hb : 0 ≤ b ∧ b ≤ (n : Int)) (hw : ∀ x, 0 ≤ x → x < (n : Int) → 1 ≤ H 47 x ∧ H 47 x ≤ 210) (hr : ∀ j, 0 ≤ j → j ≤ (n : Int) → 0 ≤ H 49 ((k + 1) * 201 + j) ∧ H 49 ((k + 1) * 201 + j) ≤ 1000000) : am_R (d + 1) 202 [am_r 43, am_i (k), am_i (b), am_i (s)] (N, P, H) none (N, P, am_up (am_up H 49 (k * 201 + b) (trL 1000000 b (H 47) (H 46) (H 48) (fun j => H 49 ((k + 1) * 201 + j)) (n : Int) s L G b 31).1) 50 (k * 201 + b) (trL 1000000 b (H 47) (H 46) (H 48) (fun j => H 49 ((k + 1) * 201 + j)) (n : Int) s L G b 31).2) := by
  refine am_en1 (d := d + 0) (ml := 11) (ls := [_, _, _, _, _, _, _, _, _, _, _]) cq_Shifter_fill rfl (Nat.le_of_ble_eq_true rfl) rfl ?_
  have hT0 : ∀ c : Nat, 0 ≤ (trL 1000000 b (H 47) (H 46) (H 48) (fun j => H 49 ((k + 1) * 201 + j)) (n : Int) s L G b c).1 ∧ (trL 1000000 b (H 47) (H 46) (H 48) (fun j => H 49 ((k + 1) * 201 + j)) (n : Int) s L G b c).1 ≤ 1000000 := fun c => by
    rcases trL_r 1000000 b (w := H 47) (hm := H 46) (pd := H 48) (rest := fun j => H 49 ((k + 1) * 201 + j)) (n := (n : Int)) (k := s) (L := L) (G := G) (i := b) (fun j j0 j1 => (hr j j0 j1).1) hb.1 c with z | ⟨x, x1, x2, x3, x4, x5⟩
    · rw [z]; exact ⟨by show (0 : Int) ≤ 1000000; omega, by show (1000000 : Int) ≤ 1000000; omega⟩
    · rw [x4]; have := chF_r (H 46) s b x; have := (hr (b + (x : Int)) (by omega) x2).1; exact ⟨by show 0 ≤ chF (H 46) s b x + H 49 ((k + 1) * 201 + (b + (x : Int))); omega, by show chF (H 46) s b x + H 49 ((k + 1) * 201 + (b + (x : Int))) ≤ 1000000; have : chF (H 46) s b x + H 49 ((k + 1) * 201 + (b + (x : Int))) < 1000000 := x5; omega⟩
  refine st_ldc rfl ?_
  refine st_istore (ls' := [_, _, _, _, _, _, _, _, _, _, _]) rfl (Nat.le_of_ble_eq_true rfl) rfl ?_
  refine st_iload_n rfl rfl ?_
  refine st_istore (ls' := [_, _, _, _, _, _, _, _, _, _, _]) rfl (Nat.le_of_ble_eq_true rfl) rfl ?_
  refine st_iconst rfl ?_
  refine st_istore (ls' := [_, _, _, _, _, _, _, _, _, _, _]) rfl (Nat.le_of_ble_eq_true rfl) rfl ?_
  refine st_iconst rfl ?_
  refine st_istore (ls' := [_, _, _, _, _, _, _, _, _, _, _]) rfl (Nat.le_of_ble_eq_true rfl) rfl ?_
  refine st_iload_n rfl rfl ?_
  refine st_istore (ls' := [_, _, _, _, _, _, _, _, _, _, _]) rfl (Nat.le_of_ble_eq_true rfl) rfl ?_
  have hx : ∀ (c : Nat) (w6 w7 w8 w9 w10 : Option am_V), trL 1000000 b (H 47) (H 46) (H 48) (fun j => H 49 ((k + 1) * 201 + j)) (n : Int) s L G b c = trL 1000000 b (H 47) (H 46) (H 48) (fun j => H 49 ((k + 1) * 201 + j)) (n : Int) s L G b 31 → am_WP (am_R (d + 0)) cd_Shifter_fill (fun v' s' => v' = none ∧ s' = (N, P, am_up (am_up H 49 (k * 201 + b) (trL 1000000 b (H 47) (H 46) (H 48) (fun j => H 49 ((k + 1) * 201 + j)) (n : Int) s L G b 31).1) 50 (k * 201 + b) (trL 1000000 b (H 47) (H 46) (H 48) (fun j => H 49 ((k + 1) * 201 + j)) (n : Int) s L G b 31).2)) 95 [some (am_r 43), some (am_i k), some (am_i b), some (am_i s), some (am_i (trL 1000000 b (H 47) (H 46) (H 48) (fun j => H 49 ((k + 1) * 201 + j)) (n : Int) s L G b c).1), some (am_i (trL 1000000 b (H 47) (H 46) (H 48) (fun j => H 49 ((k + 1) * 201 + j)) (n : Int) s L G b c).2), w6, w7, w8, w9, w10] [] (N, P, H) := by
    intro c w6 w7 w8 w9 w10 he
    rw [he]
    refine st_aload_n rfl rfl (by decide) ?_
    refine st_getR (kk := 6) rfl rfl rfl (pz_43_6 hP) rfl ?_
    refine st_iload_n rfl rfl ?_
    refine st_sipush rfl ?_
    refine st_imul rfl (by omega) ?_
    refine st_iload_n rfl rfl ?_
    refine st_iadd rfl (by omega) ?_
    refine st_iload rfl rfl ?_
    refine st_iastore rfl rfl (by omega) (by omega) ?_
    refine st_aload_n rfl rfl (by decide) ?_
    refine st_getR (kk := 7) rfl rfl rfl (pz_43_7 hP) rfl ?_
    refine st_iload_n rfl rfl ?_
    refine st_sipush rfl ?_
    refine st_imul rfl (by omega) ?_
    refine st_iload_n rfl rfl ?_
    refine st_iadd rfl (by omega) ?_
    refine st_iload rfl rfl ?_
    refine st_iastore rfl rfl (by omega) (by omega) ?_
    refine st_ret rfl ?_
    exact ⟨rfl, rfl⟩
  suffices hz : ∀ c : Nat, c ≤ 31 → b + (c : Int) ≤ (n : Int) + 1 → ∀ w9 w10, am_WP (am_R (d + 0)) cd_Shifter_fill (fun v' s' => v' = none ∧ s' = (N, P, am_up (am_up H 49 (k * 201 + b) (trL 1000000 b (H 47) (H 46) (H 48) (fun j => H 49 ((k + 1) * 201 + j)) (n : Int) s L G b 31).1) 50 (k * 201 + b) (trL 1000000 b (H 47) (H 46) (H 48) (fun j => H 49 ((k + 1) * 201 + j)) (n : Int) s L G b 31).2)) 10 [some (am_r 43), some (am_i k), some (am_i b), some (am_i s), some (am_i (trL 1000000 b (H 47) (H 46) (H 48) (fun j => H 49 ((k + 1) * 201 + j)) (n : Int) s L G b c).1), some (am_i (trL 1000000 b (H 47) (H 46) (H 48) (fun j => H 49 ((k + 1) * 201 + j)) (n : Int) s L G b c).2), some (am_i (smF (H 47) b (c - 1))), some (am_i (chF (H 46) s b (c - 1))), some (am_i (b + (c : Int))), w9, w10] [] (N, P, H) by
    have := hz 0 (Nat.zero_le _) (by omega) none none
    rw [show b + ((0 : Nat) : Int) = b by omega] at this
    exact this
  refine up_ind (n := 31) ?_ ?_
  · intro hcn w9 w10
    refine st_iload rfl rfl ?_
    refine st_aload_n rfl rfl (by decide) ?_
    refine st_getI (kk := 0) rfl rfl (by decide) rfl ?_
    rw [h0]
    refine st_icmp_gt rfl (fun h13 => ?_) (fun h13 => ?_)
    · exact hx 31 _ _ _ _ _ rfl
    · refine st_iload rfl rfl ?_
      refine st_iload_n rfl rfl ?_
      refine st_isub rfl (by omega) ?_
      refine st_bipush rfl ?_
      refine st_icmp_gt rfl (fun h18 => ?_) (fun h18 => (by exfalso; omega))
      exact hx 31 _ _ _ _ _ rfl
  · intro c hc ih hcn w9 w10
    have hs := smF_r (w := H 47) (i := b) (n := (n : Int)) hw hb.1
    have hch := chF_r (H 46) s b
    have hch1 := hch (c - 1)
    have hch2 := hch c
    have hT1 := hT0 c
    have hst := tr_s 1000000 b (H 47) (H 46) (H 48) (fun j => H 49 ((k + 1) * 201 + j)) (n : Int) s L G b c
    have hsm1 : 1 ≤ c → smF (H 47) b (c - 1) + H 47 (b + (c : Int) - 1) = smF (H 47) b c := fun z => by
      have := sm_s (H 47) b (c - 1)
      rw [show c - 1 + 1 = c by omega, show b + ((c - 1 : Nat) : Int) = b + (c : Int) - 1 by omega] at this
      exact this.symm
    have hcm1 : 1 ≤ c → chF (H 46) s b c = chF (H 46) s b (c - 1) + (if H 46 (b + (c : Int) - 1) = s then 0 else 1) := fun z => by
      have := ch_s (H 46) s b (c - 1)
      rw [show c - 1 + 1 = c by omega, show b + ((c - 1 : Nat) : Int) = b + (c : Int) - 1 by omega] at this
      exact this
    refine st_iload rfl rfl ?_
    refine st_aload_n rfl rfl (by decide) ?_
    refine st_getI (kk := 0) rfl rfl (by decide) rfl ?_
    rw [h0]
    refine st_icmp_gt rfl (fun h13 => ?_) (fun h13 => ?_)
    · first
      | (refine hx c _ _ _ _ _ ?_
         have := trL_n 1000000 b (H 47) (H 46) (H 48) (fun j => H 49 ((k + 1) * 201 + j)) (n : Int) s L G b c (by omega) (31 - c)
         rw [show c + (31 - c) = 31 by omega] at this
         exact this.symm)
      | (refine hx c _ _ _ _ _ ?_
         have := trL_brk (T := 1000000) (e0 := b) (hm := H 46) (pd := H 48) (rest := fun j => H 49 ((k + 1) * 201 + j)) (k := s) (L := L) (G := G) (c := c) hb.1 hw (by omega) (31 - c)
         rw [show c + (31 - c) = 31 by omega] at this
         exact this.symm)
    · refine st_iload rfl rfl ?_
      refine st_iload_n rfl rfl ?_
      refine st_isub rfl (by omega) ?_
      refine st_bipush rfl ?_
      refine st_icmp_gt rfl (fun h18 => (by exfalso; omega)) (fun h18 => ?_)
      have hs1 := hs (c - 1) (by omega)
      have hs2 := hs c (by omega)
      have hrc := hr (b + (c : Int)) (by omega) (by omega)
      refine st_iload rfl rfl ?_
      refine st_iload_n rfl rfl ?_
      refine st_icmp_le rfl (fun h21 => ?_) (fun h21 => ?_)
      · first
        | rw [show c - 1 = c by omega]
        | (rw [show chF (H 46) s b (c - 1) + 0 = chF (H 46) s b c by rw [hcm1 (by omega), if_pos (by omega)]])
        | (rw [show chF (H 46) s b (c - 1) + 1 = chF (H 46) s b c by rw [hcm1 (by omega), if_neg (by omega)]])
        refine st_iload rfl rfl ?_
        refine st_aload_n rfl rfl (by decide) ?_
        refine st_getI (kk := 9) rfl rfl (by decide) rfl ?_
        rw [hG]
        refine st_icmp_le rfl (fun h48 => ?_) (fun h48 => ?_)
        · refine st_iload rfl rfl ?_
          refine st_iload_n rfl rfl ?_
          refine st_icmp_eq rfl (fun h52 => ?_) (fun h52 => ?_)
          · refine st_iconst rfl ?_
            refine st_goto rfl ?_
            refine st_istore (ls' := [_, _, _, _, _, _, _, _, _, _, _]) rfl (Nat.le_of_ble_eq_true rfl) rfl ?_
            refine st_iload rfl rfl ?_
            refine st_aload_n rfl rfl (by decide) ?_
            refine st_getR (kk := 6) rfl rfl rfl (pz_43_6 hP) rfl ?_
            refine st_iload_n rfl rfl ?_
            refine st_iconst rfl ?_
            refine st_iadd rfl (by omega) ?_
            refine st_sipush rfl ?_
            refine st_imul rfl (by omega) ?_
            refine st_iload rfl rfl ?_
            refine st_iadd rfl (by omega) ?_
            refine st_iaload rfl rfl (by omega) (by omega) ?_
            refine st_iadd rfl (by omega) ?_
            refine st_istore (ls' := [_, _, _, _, _, _, _, _, _, _, _]) rfl (Nat.le_of_ble_eq_true rfl) rfl ?_
            refine st_iload rfl rfl ?_
            refine st_if_eq rfl (fun h79 => (by exfalso; omega)) (fun h79 => ?_)
            refine st_aload_n rfl rfl (by decide) ?_
            refine st_getR (kk := 5) rfl rfl rfl (pz_43_5 hP) rfl ?_
            refine st_iload rfl rfl ?_
            refine st_iaload rfl rfl (by omega) (by omega) ?_
            refine st_iconst rfl ?_
            refine st_icmp_ne rfl (fun h85 => ?_) (fun h85 => ?_)
            · refine st_iinc (ls' := [_, _, _, _, _, _, _, _, _, _, _]) rfl rfl (by omega) rfl ?_
              refine st_goto rfl ?_
              have ih := ih (by omega)
              rw [show b + (c : Int) + 1 = b + ((c + 1 : Nat) : Int) by omega]
              first
              | (rw [if_pos (show b + (c : Int) ≤ (n : Int) ∧ trG (H 47) (H 48) (n : Int) L G b c ∧ chF (H 46) s b c + H 49 ((k + 1) * 201 + (b + (c : Int))) < (trL 1000000 b (H 47) (H 46) (H 48) (fun j => H 49 ((k + 1) * 201 + j)) (n : Int) s L G b c).1 from ⟨by omega, ⟨by omega, by omega, by omega⟩, by omega⟩)] at hst
                 rw [hst] at ih
                 exact ih _ _)
              | (rw [if_neg (fun z => by have z1 := z.2.1.1; have z2 := z.2.1.2.1; have z3 := z.2.1.2.2; have z4 : chF (H 46) s b c + H 49 ((k + 1) * 201 + (b + (c : Int))) < (trL 1000000 b (H 47) (H 46) (H 48) (fun j => H 49 ((k + 1) * 201 + j)) (n : Int) s L G b c).1 := z.2.2; omega)] at hst
                 rw [hst] at ih
                 exact ih _ _)
            · refine st_iload rfl rfl ?_
              refine st_iload rfl rfl ?_
              refine st_icmp_ge rfl (fun h88 => ?_) (fun h88 => ?_)
              · refine st_iinc (ls' := [_, _, _, _, _, _, _, _, _, _, _]) rfl rfl (by omega) rfl ?_
                refine st_goto rfl ?_
                have ih := ih (by omega)
                rw [show b + (c : Int) + 1 = b + ((c + 1 : Nat) : Int) by omega]
                first
                | (rw [if_pos (show b + (c : Int) ≤ (n : Int) ∧ trG (H 47) (H 48) (n : Int) L G b c ∧ chF (H 46) s b c + H 49 ((k + 1) * 201 + (b + (c : Int))) < (trL 1000000 b (H 47) (H 46) (H 48) (fun j => H 49 ((k + 1) * 201 + j)) (n : Int) s L G b c).1 from ⟨by omega, ⟨by omega, by omega, by omega⟩, by omega⟩)] at hst
                   rw [hst] at ih
                   exact ih _ _)
                | (rw [if_neg (fun z => by have z1 := z.2.1.1; have z2 := z.2.1.2.1; have z3 := z.2.1.2.2; have z4 : chF (H 46) s b c + H 49 ((k + 1) * 201 + (b + (c : Int))) < (trL 1000000 b (H 47) (H 46) (H 48) (fun j => H 49 ((k + 1) * 201 + j)) (n : Int) s L G b c).1 := z.2.2; omega)] at hst
                   rw [hst] at ih
                   exact ih _ _)
              · refine st_iload rfl rfl ?_
                refine st_istore (ls' := [_, _, _, _, _, _, _, _, _, _, _]) rfl (Nat.le_of_ble_eq_true rfl) rfl ?_
                refine st_iload rfl rfl ?_
                refine st_istore (ls' := [_, _, _, _, _, _, _, _, _, _, _]) rfl (Nat.le_of_ble_eq_true rfl) rfl ?_
                refine st_iinc (ls' := [_, _, _, _, _, _, _, _, _, _, _]) rfl rfl (by omega) rfl ?_
                refine st_goto rfl ?_
                have ih := ih (by omega)
                rw [show b + (c : Int) + 1 = b + ((c + 1 : Nat) : Int) by omega]
                first
                | (rw [if_pos (show b + (c : Int) ≤ (n : Int) ∧ trG (H 47) (H 48) (n : Int) L G b c ∧ chF (H 46) s b c + H 49 ((k + 1) * 201 + (b + (c : Int))) < (trL 1000000 b (H 47) (H 46) (H 48) (fun j => H 49 ((k + 1) * 201 + j)) (n : Int) s L G b c).1 from ⟨by omega, ⟨by omega, by omega, by omega⟩, by omega⟩)] at hst
                   rw [hst] at ih
                   exact ih _ _)
                | (rw [if_neg (fun z => by have z1 := z.2.1.1; have z2 := z.2.1.2.1; have z3 := z.2.1.2.2; have z4 : chF (H 46) s b c + H 49 ((k + 1) * 201 + (b + (c : Int))) < (trL 1000000 b (H 47) (H 46) (H 48) (fun j => H 49 ((k + 1) * 201 + j)) (n : Int) s L G b c).1 := z.2.2; omega)] at hst
                   rw [hst] at ih
                   exact ih _ _)
          · refine st_iload rfl rfl ?_
            refine st_aload_n rfl rfl (by decide) ?_
            refine st_getI (kk := 0) rfl rfl (by decide) rfl ?_
            rw [h0]
            refine st_icmp_eq rfl (fun h56 => ?_) (fun h56 => ?_)
            · refine st_iconst rfl ?_
              refine st_goto rfl ?_
              refine st_istore (ls' := [_, _, _, _, _, _, _, _, _, _, _]) rfl (Nat.le_of_ble_eq_true rfl) rfl ?_
              refine st_iload rfl rfl ?_
              refine st_aload_n rfl rfl (by decide) ?_
              refine st_getR (kk := 6) rfl rfl rfl (pz_43_6 hP) rfl ?_
              refine st_iload_n rfl rfl ?_
              refine st_iconst rfl ?_
              refine st_iadd rfl (by omega) ?_
              refine st_sipush rfl ?_
              refine st_imul rfl (by omega) ?_
              refine st_iload rfl rfl ?_
              refine st_iadd rfl (by omega) ?_
              refine st_iaload rfl rfl (by omega) (by omega) ?_
              refine st_iadd rfl (by omega) ?_
              refine st_istore (ls' := [_, _, _, _, _, _, _, _, _, _, _]) rfl (Nat.le_of_ble_eq_true rfl) rfl ?_
              refine st_iload rfl rfl ?_
              refine st_if_eq rfl (fun h79 => (by exfalso; omega)) (fun h79 => ?_)
              refine st_aload_n rfl rfl (by decide) ?_
              refine st_getR (kk := 5) rfl rfl rfl (pz_43_5 hP) rfl ?_
              refine st_iload rfl rfl ?_
              refine st_iaload rfl rfl (by omega) (by omega) ?_
              refine st_iconst rfl ?_
              refine st_icmp_ne rfl (fun h85 => ?_) (fun h85 => ?_)
              · refine st_iinc (ls' := [_, _, _, _, _, _, _, _, _, _, _]) rfl rfl (by omega) rfl ?_
                refine st_goto rfl ?_
                have ih := ih (by omega)
                rw [show b + (c : Int) + 1 = b + ((c + 1 : Nat) : Int) by omega]
                first
                | (rw [if_pos (show b + (c : Int) ≤ (n : Int) ∧ trG (H 47) (H 48) (n : Int) L G b c ∧ chF (H 46) s b c + H 49 ((k + 1) * 201 + (b + (c : Int))) < (trL 1000000 b (H 47) (H 46) (H 48) (fun j => H 49 ((k + 1) * 201 + j)) (n : Int) s L G b c).1 from ⟨by omega, ⟨by omega, by omega, by omega⟩, by omega⟩)] at hst
                   rw [hst] at ih
                   exact ih _ _)
                | (rw [if_neg (fun z => by have z1 := z.2.1.1; have z2 := z.2.1.2.1; have z3 := z.2.1.2.2; have z4 : chF (H 46) s b c + H 49 ((k + 1) * 201 + (b + (c : Int))) < (trL 1000000 b (H 47) (H 46) (H 48) (fun j => H 49 ((k + 1) * 201 + j)) (n : Int) s L G b c).1 := z.2.2; omega)] at hst
                   rw [hst] at ih
                   exact ih _ _)
              · refine st_iload rfl rfl ?_
                refine st_iload rfl rfl ?_
                refine st_icmp_ge rfl (fun h88 => ?_) (fun h88 => ?_)
                · refine st_iinc (ls' := [_, _, _, _, _, _, _, _, _, _, _]) rfl rfl (by omega) rfl ?_
                  refine st_goto rfl ?_
                  have ih := ih (by omega)
                  rw [show b + (c : Int) + 1 = b + ((c + 1 : Nat) : Int) by omega]
                  first
                  | (rw [if_pos (show b + (c : Int) ≤ (n : Int) ∧ trG (H 47) (H 48) (n : Int) L G b c ∧ chF (H 46) s b c + H 49 ((k + 1) * 201 + (b + (c : Int))) < (trL 1000000 b (H 47) (H 46) (H 48) (fun j => H 49 ((k + 1) * 201 + j)) (n : Int) s L G b c).1 from ⟨by omega, ⟨by omega, by omega, by omega⟩, by omega⟩)] at hst
                     rw [hst] at ih
                     exact ih _ _)
                  | (rw [if_neg (fun z => by have z1 := z.2.1.1; have z2 := z.2.1.2.1; have z3 := z.2.1.2.2; have z4 : chF (H 46) s b c + H 49 ((k + 1) * 201 + (b + (c : Int))) < (trL 1000000 b (H 47) (H 46) (H 48) (fun j => H 49 ((k + 1) * 201 + j)) (n : Int) s L G b c).1 := z.2.2; omega)] at hst
                     rw [hst] at ih
                     exact ih _ _)
                · refine st_iload rfl rfl ?_
                  refine st_istore (ls' := [_, _, _, _, _, _, _, _, _, _, _]) rfl (Nat.le_of_ble_eq_true rfl) rfl ?_
                  refine st_iload rfl rfl ?_
                  refine st_istore (ls' := [_, _, _, _, _, _, _, _, _, _, _]) rfl (Nat.le_of_ble_eq_true rfl) rfl ?_
                  refine st_iinc (ls' := [_, _, _, _, _, _, _, _, _, _, _]) rfl rfl (by omega) rfl ?_
                  refine st_goto rfl ?_
                  have ih := ih (by omega)
                  rw [show b + (c : Int) + 1 = b + ((c + 1 : Nat) : Int) by omega]
                  first
                  | (rw [if_pos (show b + (c : Int) ≤ (n : Int) ∧ trG (H 47) (H 48) (n : Int) L G b c ∧ chF (H 46) s b c + H 49 ((k + 1) * 201 + (b + (c : Int))) < (trL 1000000 b (H 47) (H 46) (H 48) (fun j => H 49 ((k + 1) * 201 + j)) (n : Int) s L G b c).1 from ⟨by omega, ⟨by omega, by omega, by omega⟩, by omega⟩)] at hst
                     rw [hst] at ih
                     exact ih _ _)
                  | (rw [if_neg (fun z => by have z1 := z.2.1.1; have z2 := z.2.1.2.1; have z3 := z.2.1.2.2; have z4 : chF (H 46) s b c + H 49 ((k + 1) * 201 + (b + (c : Int))) < (trL 1000000 b (H 47) (H 46) (H 48) (fun j => H 49 ((k + 1) * 201 + j)) (n : Int) s L G b c).1 := z.2.2; omega)] at hst
                     rw [hst] at ih
                     exact ih _ _)
            · refine st_iload rfl rfl ?_
              refine st_aload_n rfl rfl (by decide) ?_
              refine st_getI (kk := 8) rfl rfl (by decide) rfl ?_
              rw [hL]
              refine st_icmp_lt rfl (fun h60 => ?_) (fun h60 => ?_)
              · refine st_iconst rfl ?_
                refine st_istore (ls' := [_, _, _, _, _, _, _, _, _, _, _]) rfl (Nat.le_of_ble_eq_true rfl) rfl ?_
                refine st_iload rfl rfl ?_
                refine st_aload_n rfl rfl (by decide) ?_
                refine st_getR (kk := 6) rfl rfl rfl (pz_43_6 hP) rfl ?_
                refine st_iload_n rfl rfl ?_
                refine st_iconst rfl ?_
                refine st_iadd rfl (by omega) ?_
                refine st_sipush rfl ?_
                refine st_imul rfl (by omega) ?_
                refine st_iload rfl rfl ?_
                refine st_iadd rfl (by omega) ?_
                refine st_iaload rfl rfl (by omega) (by omega) ?_
                refine st_iadd rfl (by omega) ?_
                refine st_istore (ls' := [_, _, _, _, _, _, _, _, _, _, _]) rfl (Nat.le_of_ble_eq_true rfl) rfl ?_
                refine st_iload rfl rfl ?_
                refine st_if_eq rfl (fun h79 => ?_) (fun h79 => (by exfalso; omega))
                refine st_iinc (ls' := [_, _, _, _, _, _, _, _, _, _, _]) rfl rfl (by omega) rfl ?_
                refine st_goto rfl ?_
                have ih := ih (by omega)
                rw [show b + (c : Int) + 1 = b + ((c + 1 : Nat) : Int) by omega]
                first
                | (rw [if_pos (show b + (c : Int) ≤ (n : Int) ∧ trG (H 47) (H 48) (n : Int) L G b c ∧ chF (H 46) s b c + H 49 ((k + 1) * 201 + (b + (c : Int))) < (trL 1000000 b (H 47) (H 46) (H 48) (fun j => H 49 ((k + 1) * 201 + j)) (n : Int) s L G b c).1 from ⟨by omega, ⟨by omega, by omega, by omega⟩, by omega⟩)] at hst
                   rw [hst] at ih
                   exact ih _ _)
                | (rw [if_neg (fun z => by have z1 := z.2.1.1; have z2 := z.2.1.2.1; have z3 := z.2.1.2.2; have z4 : chF (H 46) s b c + H 49 ((k + 1) * 201 + (b + (c : Int))) < (trL 1000000 b (H 47) (H 46) (H 48) (fun j => H 49 ((k + 1) * 201 + j)) (n : Int) s L G b c).1 := z.2.2; omega)] at hst
                   rw [hst] at ih
                   exact ih _ _)
              · refine st_iconst rfl ?_
                refine st_goto rfl ?_
                refine st_istore (ls' := [_, _, _, _, _, _, _, _, _, _, _]) rfl (Nat.le_of_ble_eq_true rfl) rfl ?_
                refine st_iload rfl rfl ?_
                refine st_aload_n rfl rfl (by decide) ?_
                refine st_getR (kk := 6) rfl rfl rfl (pz_43_6 hP) rfl ?_
                refine st_iload_n rfl rfl ?_
                refine st_iconst rfl ?_
                refine st_iadd rfl (by omega) ?_
                refine st_sipush rfl ?_
                refine st_imul rfl (by omega) ?_
                refine st_iload rfl rfl ?_
                refine st_iadd rfl (by omega) ?_
                refine st_iaload rfl rfl (by omega) (by omega) ?_
                refine st_iadd rfl (by omega) ?_
                refine st_istore (ls' := [_, _, _, _, _, _, _, _, _, _, _]) rfl (Nat.le_of_ble_eq_true rfl) rfl ?_
                refine st_iload rfl rfl ?_
                refine st_if_eq rfl (fun h79 => (by exfalso; omega)) (fun h79 => ?_)
                refine st_aload_n rfl rfl (by decide) ?_
                refine st_getR (kk := 5) rfl rfl rfl (pz_43_5 hP) rfl ?_
                refine st_iload rfl rfl ?_
                refine st_iaload rfl rfl (by omega) (by omega) ?_
                refine st_iconst rfl ?_
                refine st_icmp_ne rfl (fun h85 => ?_) (fun h85 => ?_)
                · refine st_iinc (ls' := [_, _, _, _, _, _, _, _, _, _, _]) rfl rfl (by omega) rfl ?_
                  refine st_goto rfl ?_
                  have ih := ih (by omega)
                  rw [show b + (c : Int) + 1 = b + ((c + 1 : Nat) : Int) by omega]
                  first
                  | (rw [if_pos (show b + (c : Int) ≤ (n : Int) ∧ trG (H 47) (H 48) (n : Int) L G b c ∧ chF (H 46) s b c + H 49 ((k + 1) * 201 + (b + (c : Int))) < (trL 1000000 b (H 47) (H 46) (H 48) (fun j => H 49 ((k + 1) * 201 + j)) (n : Int) s L G b c).1 from ⟨by omega, ⟨by omega, by omega, by omega⟩, by omega⟩)] at hst
                     rw [hst] at ih
                     exact ih _ _)
                  | (rw [if_neg (fun z => by have z1 := z.2.1.1; have z2 := z.2.1.2.1; have z3 := z.2.1.2.2; have z4 : chF (H 46) s b c + H 49 ((k + 1) * 201 + (b + (c : Int))) < (trL 1000000 b (H 47) (H 46) (H 48) (fun j => H 49 ((k + 1) * 201 + j)) (n : Int) s L G b c).1 := z.2.2; omega)] at hst
                     rw [hst] at ih
                     exact ih _ _)
                · refine st_iload rfl rfl ?_
                  refine st_iload rfl rfl ?_
                  refine st_icmp_ge rfl (fun h88 => ?_) (fun h88 => ?_)
                  · refine st_iinc (ls' := [_, _, _, _, _, _, _, _, _, _, _]) rfl rfl (by omega) rfl ?_
                    refine st_goto rfl ?_
                    have ih := ih (by omega)
                    rw [show b + (c : Int) + 1 = b + ((c + 1 : Nat) : Int) by omega]
                    first
                    | (rw [if_pos (show b + (c : Int) ≤ (n : Int) ∧ trG (H 47) (H 48) (n : Int) L G b c ∧ chF (H 46) s b c + H 49 ((k + 1) * 201 + (b + (c : Int))) < (trL 1000000 b (H 47) (H 46) (H 48) (fun j => H 49 ((k + 1) * 201 + j)) (n : Int) s L G b c).1 from ⟨by omega, ⟨by omega, by omega, by omega⟩, by omega⟩)] at hst
                       rw [hst] at ih
                       exact ih _ _)
                    | (rw [if_neg (fun z => by have z1 := z.2.1.1; have z2 := z.2.1.2.1; have z3 := z.2.1.2.2; have z4 : chF (H 46) s b c + H 49 ((k + 1) * 201 + (b + (c : Int))) < (trL 1000000 b (H 47) (H 46) (H 48) (fun j => H 49 ((k + 1) * 201 + j)) (n : Int) s L G b c).1 := z.2.2; omega)] at hst
                       rw [hst] at ih
                       exact ih _ _)
                  · refine st_iload rfl rfl ?_
                    refine st_istore (ls' := [_, _, _, _, _, _, _, _, _, _, _]) rfl (Nat.le_of_ble_eq_true rfl) rfl ?_
                    refine st_iload rfl rfl ?_
                    refine st_istore (ls' := [_, _, _, _, _, _, _, _, _, _, _]) rfl (Nat.le_of_ble_eq_true rfl) rfl ?_
                    refine st_iinc (ls' := [_, _, _, _, _, _, _, _, _, _, _]) rfl rfl (by omega) rfl ?_
                    refine st_goto rfl ?_
                    have ih := ih (by omega)
                    rw [show b + (c : Int) + 1 = b + ((c + 1 : Nat) : Int) by omega]
                    first
                    | (rw [if_pos (show b + (c : Int) ≤ (n : Int) ∧ trG (H 47) (H 48) (n : Int) L G b c ∧ chF (H 46) s b c + H 49 ((k + 1) * 201 + (b + (c : Int))) < (trL 1000000 b (H 47) (H 46) (H 48) (fun j => H 49 ((k + 1) * 201 + j)) (n : Int) s L G b c).1 from ⟨by omega, ⟨by omega, by omega, by omega⟩, by omega⟩)] at hst
                       rw [hst] at ih
                       exact ih _ _)
                    | (rw [if_neg (fun z => by have z1 := z.2.1.1; have z2 := z.2.1.2.1; have z3 := z.2.1.2.2; have z4 : chF (H 46) s b c + H 49 ((k + 1) * 201 + (b + (c : Int))) < (trL 1000000 b (H 47) (H 46) (H 48) (fun j => H 49 ((k + 1) * 201 + j)) (n : Int) s L G b c).1 := z.2.2; omega)] at hst
                       rw [hst] at ih
                       exact ih _ _)
        · refine st_goto rfl ?_
          first
          | (refine hx c _ _ _ _ _ ?_
             have := trL_n 1000000 b (H 47) (H 46) (H 48) (fun j => H 49 ((k + 1) * 201 + j)) (n : Int) s L G b c (by omega) (31 - c)
             rw [show c + (31 - c) = 31 by omega] at this
             exact this.symm)
          | (refine hx c _ _ _ _ _ ?_
             have := trL_brk (T := 1000000) (e0 := b) (hm := H 46) (pd := H 48) (rest := fun j => H 49 ((k + 1) * 201 + j)) (k := s) (L := L) (G := G) (c := c) hb.1 hw (by omega) (31 - c)
             rw [show c + (31 - c) = 31 by omega] at this
             exact this.symm)
      · refine st_iload rfl rfl ?_
        refine st_aload_n rfl rfl (by decide) ?_
        refine st_getR (kk := 4) rfl rfl rfl (pz_43_4 hP) rfl ?_
        refine st_iload rfl rfl ?_
        refine st_iconst rfl ?_
        refine st_isub rfl (by omega) ?_
        refine st_iaload rfl rfl (by omega) (by omega) ?_
        have hw1 := hw (b + (c : Int) - 1) (by omega) (by omega)
        refine st_iadd rfl (by omega) ?_
        rw [hsm1 (by omega)]
        refine st_istore (ls' := [_, _, _, _, _, _, _, _, _, _, _]) rfl (Nat.le_of_ble_eq_true rfl) rfl ?_
        refine st_iload rfl rfl ?_
        refine st_aload_n rfl rfl (by decide) ?_
        refine st_getR (kk := 3) rfl rfl rfl (pz_43_3 hP) rfl ?_
        refine st_iload rfl rfl ?_
        refine st_iconst rfl ?_
        refine st_isub rfl (by omega) ?_
        refine st_iaload rfl rfl (by omega) (by omega) ?_
        refine st_iload_n rfl rfl ?_
        refine st_icmp_ne rfl (fun h39 => ?_) (fun h39 => ?_)
        · refine st_iconst rfl ?_
          refine st_iadd rfl (by omega) ?_
          refine st_istore (ls' := [_, _, _, _, _, _, _, _, _, _, _]) rfl (Nat.le_of_ble_eq_true rfl) rfl ?_
          first
          | rw [show c - 1 = c by omega]
          | (rw [show chF (H 46) s b (c - 1) + 0 = chF (H 46) s b c by rw [hcm1 (by omega), if_pos (by omega)]])
          | (rw [show chF (H 46) s b (c - 1) + 1 = chF (H 46) s b c by rw [hcm1 (by omega), if_neg (by omega)]])
          refine st_iload rfl rfl ?_
          refine st_aload_n rfl rfl (by decide) ?_
          refine st_getI (kk := 9) rfl rfl (by decide) rfl ?_
          rw [hG]
          refine st_icmp_le rfl (fun h48 => ?_) (fun h48 => ?_)
          · refine st_iload rfl rfl ?_
            refine st_iload_n rfl rfl ?_
            refine st_icmp_eq rfl (fun h52 => (by exfalso; omega)) (fun h52 => ?_)
            refine st_iload rfl rfl ?_
            refine st_aload_n rfl rfl (by decide) ?_
            refine st_getI (kk := 0) rfl rfl (by decide) rfl ?_
            rw [h0]
            refine st_icmp_eq rfl (fun h56 => ?_) (fun h56 => ?_)
            · refine st_iconst rfl ?_
              refine st_goto rfl ?_
              refine st_istore (ls' := [_, _, _, _, _, _, _, _, _, _, _]) rfl (Nat.le_of_ble_eq_true rfl) rfl ?_
              refine st_iload rfl rfl ?_
              refine st_aload_n rfl rfl (by decide) ?_
              refine st_getR (kk := 6) rfl rfl rfl (pz_43_6 hP) rfl ?_
              refine st_iload_n rfl rfl ?_
              refine st_iconst rfl ?_
              refine st_iadd rfl (by omega) ?_
              refine st_sipush rfl ?_
              refine st_imul rfl (by omega) ?_
              refine st_iload rfl rfl ?_
              refine st_iadd rfl (by omega) ?_
              refine st_iaload rfl rfl (by omega) (by omega) ?_
              refine st_iadd rfl (by omega) ?_
              refine st_istore (ls' := [_, _, _, _, _, _, _, _, _, _, _]) rfl (Nat.le_of_ble_eq_true rfl) rfl ?_
              refine st_iload rfl rfl ?_
              refine st_if_eq rfl (fun h79 => (by exfalso; omega)) (fun h79 => ?_)
              refine st_aload_n rfl rfl (by decide) ?_
              refine st_getR (kk := 5) rfl rfl rfl (pz_43_5 hP) rfl ?_
              refine st_iload rfl rfl ?_
              refine st_iaload rfl rfl (by omega) (by omega) ?_
              refine st_iconst rfl ?_
              refine st_icmp_ne rfl (fun h85 => ?_) (fun h85 => ?_)
              · refine st_iinc (ls' := [_, _, _, _, _, _, _, _, _, _, _]) rfl rfl (by omega) rfl ?_
                refine st_goto rfl ?_
                have ih := ih (by omega)
                rw [show b + (c : Int) + 1 = b + ((c + 1 : Nat) : Int) by omega]
                first
                | (rw [if_pos (show b + (c : Int) ≤ (n : Int) ∧ trG (H 47) (H 48) (n : Int) L G b c ∧ chF (H 46) s b c + H 49 ((k + 1) * 201 + (b + (c : Int))) < (trL 1000000 b (H 47) (H 46) (H 48) (fun j => H 49 ((k + 1) * 201 + j)) (n : Int) s L G b c).1 from ⟨by omega, ⟨by omega, by omega, by omega⟩, by omega⟩)] at hst
                   rw [hst] at ih
                   exact ih _ _)
                | (rw [if_neg (fun z => by have z1 := z.2.1.1; have z2 := z.2.1.2.1; have z3 := z.2.1.2.2; have z4 : chF (H 46) s b c + H 49 ((k + 1) * 201 + (b + (c : Int))) < (trL 1000000 b (H 47) (H 46) (H 48) (fun j => H 49 ((k + 1) * 201 + j)) (n : Int) s L G b c).1 := z.2.2; omega)] at hst
                   rw [hst] at ih
                   exact ih _ _)
              · refine st_iload rfl rfl ?_
                refine st_iload rfl rfl ?_
                refine st_icmp_ge rfl (fun h88 => ?_) (fun h88 => ?_)
                · refine st_iinc (ls' := [_, _, _, _, _, _, _, _, _, _, _]) rfl rfl (by omega) rfl ?_
                  refine st_goto rfl ?_
                  have ih := ih (by omega)
                  rw [show b + (c : Int) + 1 = b + ((c + 1 : Nat) : Int) by omega]
                  first
                  | (rw [if_pos (show b + (c : Int) ≤ (n : Int) ∧ trG (H 47) (H 48) (n : Int) L G b c ∧ chF (H 46) s b c + H 49 ((k + 1) * 201 + (b + (c : Int))) < (trL 1000000 b (H 47) (H 46) (H 48) (fun j => H 49 ((k + 1) * 201 + j)) (n : Int) s L G b c).1 from ⟨by omega, ⟨by omega, by omega, by omega⟩, by omega⟩)] at hst
                     rw [hst] at ih
                     exact ih _ _)
                  | (rw [if_neg (fun z => by have z1 := z.2.1.1; have z2 := z.2.1.2.1; have z3 := z.2.1.2.2; have z4 : chF (H 46) s b c + H 49 ((k + 1) * 201 + (b + (c : Int))) < (trL 1000000 b (H 47) (H 46) (H 48) (fun j => H 49 ((k + 1) * 201 + j)) (n : Int) s L G b c).1 := z.2.2; omega)] at hst
                     rw [hst] at ih
                     exact ih _ _)
                · refine st_iload rfl rfl ?_
                  refine st_istore (ls' := [_, _, _, _, _, _, _, _, _, _, _]) rfl (Nat.le_of_ble_eq_true rfl) rfl ?_
                  refine st_iload rfl rfl ?_
                  refine st_istore (ls' := [_, _, _, _, _, _, _, _, _, _, _]) rfl (Nat.le_of_ble_eq_true rfl) rfl ?_
                  refine st_iinc (ls' := [_, _, _, _, _, _, _, _, _, _, _]) rfl rfl (by omega) rfl ?_
                  refine st_goto rfl ?_
                  have ih := ih (by omega)
                  rw [show b + (c : Int) + 1 = b + ((c + 1 : Nat) : Int) by omega]
                  first
                  | (rw [if_pos (show b + (c : Int) ≤ (n : Int) ∧ trG (H 47) (H 48) (n : Int) L G b c ∧ chF (H 46) s b c + H 49 ((k + 1) * 201 + (b + (c : Int))) < (trL 1000000 b (H 47) (H 46) (H 48) (fun j => H 49 ((k + 1) * 201 + j)) (n : Int) s L G b c).1 from ⟨by omega, ⟨by omega, by omega, by omega⟩, by omega⟩)] at hst
                     rw [hst] at ih
                     exact ih _ _)
                  | (rw [if_neg (fun z => by have z1 := z.2.1.1; have z2 := z.2.1.2.1; have z3 := z.2.1.2.2; have z4 : chF (H 46) s b c + H 49 ((k + 1) * 201 + (b + (c : Int))) < (trL 1000000 b (H 47) (H 46) (H 48) (fun j => H 49 ((k + 1) * 201 + j)) (n : Int) s L G b c).1 := z.2.2; omega)] at hst
                     rw [hst] at ih
                     exact ih _ _)
            · refine st_iload rfl rfl ?_
              refine st_aload_n rfl rfl (by decide) ?_
              refine st_getI (kk := 8) rfl rfl (by decide) rfl ?_
              rw [hL]
              refine st_icmp_lt rfl (fun h60 => ?_) (fun h60 => ?_)
              · refine st_iconst rfl ?_
                refine st_istore (ls' := [_, _, _, _, _, _, _, _, _, _, _]) rfl (Nat.le_of_ble_eq_true rfl) rfl ?_
                refine st_iload rfl rfl ?_
                refine st_aload_n rfl rfl (by decide) ?_
                refine st_getR (kk := 6) rfl rfl rfl (pz_43_6 hP) rfl ?_
                refine st_iload_n rfl rfl ?_
                refine st_iconst rfl ?_
                refine st_iadd rfl (by omega) ?_
                refine st_sipush rfl ?_
                refine st_imul rfl (by omega) ?_
                refine st_iload rfl rfl ?_
                refine st_iadd rfl (by omega) ?_
                refine st_iaload rfl rfl (by omega) (by omega) ?_
                refine st_iadd rfl (by omega) ?_
                refine st_istore (ls' := [_, _, _, _, _, _, _, _, _, _, _]) rfl (Nat.le_of_ble_eq_true rfl) rfl ?_
                refine st_iload rfl rfl ?_
                refine st_if_eq rfl (fun h79 => ?_) (fun h79 => (by exfalso; omega))
                refine st_iinc (ls' := [_, _, _, _, _, _, _, _, _, _, _]) rfl rfl (by omega) rfl ?_
                refine st_goto rfl ?_
                have ih := ih (by omega)
                rw [show b + (c : Int) + 1 = b + ((c + 1 : Nat) : Int) by omega]
                first
                | (rw [if_pos (show b + (c : Int) ≤ (n : Int) ∧ trG (H 47) (H 48) (n : Int) L G b c ∧ chF (H 46) s b c + H 49 ((k + 1) * 201 + (b + (c : Int))) < (trL 1000000 b (H 47) (H 46) (H 48) (fun j => H 49 ((k + 1) * 201 + j)) (n : Int) s L G b c).1 from ⟨by omega, ⟨by omega, by omega, by omega⟩, by omega⟩)] at hst
                   rw [hst] at ih
                   exact ih _ _)
                | (rw [if_neg (fun z => by have z1 := z.2.1.1; have z2 := z.2.1.2.1; have z3 := z.2.1.2.2; have z4 : chF (H 46) s b c + H 49 ((k + 1) * 201 + (b + (c : Int))) < (trL 1000000 b (H 47) (H 46) (H 48) (fun j => H 49 ((k + 1) * 201 + j)) (n : Int) s L G b c).1 := z.2.2; omega)] at hst
                   rw [hst] at ih
                   exact ih _ _)
              · refine st_iconst rfl ?_
                refine st_goto rfl ?_
                refine st_istore (ls' := [_, _, _, _, _, _, _, _, _, _, _]) rfl (Nat.le_of_ble_eq_true rfl) rfl ?_
                refine st_iload rfl rfl ?_
                refine st_aload_n rfl rfl (by decide) ?_
                refine st_getR (kk := 6) rfl rfl rfl (pz_43_6 hP) rfl ?_
                refine st_iload_n rfl rfl ?_
                refine st_iconst rfl ?_
                refine st_iadd rfl (by omega) ?_
                refine st_sipush rfl ?_
                refine st_imul rfl (by omega) ?_
                refine st_iload rfl rfl ?_
                refine st_iadd rfl (by omega) ?_
                refine st_iaload rfl rfl (by omega) (by omega) ?_
                refine st_iadd rfl (by omega) ?_
                refine st_istore (ls' := [_, _, _, _, _, _, _, _, _, _, _]) rfl (Nat.le_of_ble_eq_true rfl) rfl ?_
                refine st_iload rfl rfl ?_
                refine st_if_eq rfl (fun h79 => (by exfalso; omega)) (fun h79 => ?_)
                refine st_aload_n rfl rfl (by decide) ?_
                refine st_getR (kk := 5) rfl rfl rfl (pz_43_5 hP) rfl ?_
                refine st_iload rfl rfl ?_
                refine st_iaload rfl rfl (by omega) (by omega) ?_
                refine st_iconst rfl ?_
                refine st_icmp_ne rfl (fun h85 => ?_) (fun h85 => ?_)
                · refine st_iinc (ls' := [_, _, _, _, _, _, _, _, _, _, _]) rfl rfl (by omega) rfl ?_
                  refine st_goto rfl ?_
                  have ih := ih (by omega)
                  rw [show b + (c : Int) + 1 = b + ((c + 1 : Nat) : Int) by omega]
                  first
                  | (rw [if_pos (show b + (c : Int) ≤ (n : Int) ∧ trG (H 47) (H 48) (n : Int) L G b c ∧ chF (H 46) s b c + H 49 ((k + 1) * 201 + (b + (c : Int))) < (trL 1000000 b (H 47) (H 46) (H 48) (fun j => H 49 ((k + 1) * 201 + j)) (n : Int) s L G b c).1 from ⟨by omega, ⟨by omega, by omega, by omega⟩, by omega⟩)] at hst
                     rw [hst] at ih
                     exact ih _ _)
                  | (rw [if_neg (fun z => by have z1 := z.2.1.1; have z2 := z.2.1.2.1; have z3 := z.2.1.2.2; have z4 : chF (H 46) s b c + H 49 ((k + 1) * 201 + (b + (c : Int))) < (trL 1000000 b (H 47) (H 46) (H 48) (fun j => H 49 ((k + 1) * 201 + j)) (n : Int) s L G b c).1 := z.2.2; omega)] at hst
                     rw [hst] at ih
                     exact ih _ _)
                · refine st_iload rfl rfl ?_
                  refine st_iload rfl rfl ?_
                  refine st_icmp_ge rfl (fun h88 => ?_) (fun h88 => ?_)
                  · refine st_iinc (ls' := [_, _, _, _, _, _, _, _, _, _, _]) rfl rfl (by omega) rfl ?_
                    refine st_goto rfl ?_
                    have ih := ih (by omega)
                    rw [show b + (c : Int) + 1 = b + ((c + 1 : Nat) : Int) by omega]
                    first
                    | (rw [if_pos (show b + (c : Int) ≤ (n : Int) ∧ trG (H 47) (H 48) (n : Int) L G b c ∧ chF (H 46) s b c + H 49 ((k + 1) * 201 + (b + (c : Int))) < (trL 1000000 b (H 47) (H 46) (H 48) (fun j => H 49 ((k + 1) * 201 + j)) (n : Int) s L G b c).1 from ⟨by omega, ⟨by omega, by omega, by omega⟩, by omega⟩)] at hst
                       rw [hst] at ih
                       exact ih _ _)
                    | (rw [if_neg (fun z => by have z1 := z.2.1.1; have z2 := z.2.1.2.1; have z3 := z.2.1.2.2; have z4 : chF (H 46) s b c + H 49 ((k + 1) * 201 + (b + (c : Int))) < (trL 1000000 b (H 47) (H 46) (H 48) (fun j => H 49 ((k + 1) * 201 + j)) (n : Int) s L G b c).1 := z.2.2; omega)] at hst
                       rw [hst] at ih
                       exact ih _ _)
                  · refine st_iload rfl rfl ?_
                    refine st_istore (ls' := [_, _, _, _, _, _, _, _, _, _, _]) rfl (Nat.le_of_ble_eq_true rfl) rfl ?_
                    refine st_iload rfl rfl ?_
                    refine st_istore (ls' := [_, _, _, _, _, _, _, _, _, _, _]) rfl (Nat.le_of_ble_eq_true rfl) rfl ?_
                    refine st_iinc (ls' := [_, _, _, _, _, _, _, _, _, _, _]) rfl rfl (by omega) rfl ?_
                    refine st_goto rfl ?_
                    have ih := ih (by omega)
                    rw [show b + (c : Int) + 1 = b + ((c + 1 : Nat) : Int) by omega]
                    first
                    | (rw [if_pos (show b + (c : Int) ≤ (n : Int) ∧ trG (H 47) (H 48) (n : Int) L G b c ∧ chF (H 46) s b c + H 49 ((k + 1) * 201 + (b + (c : Int))) < (trL 1000000 b (H 47) (H 46) (H 48) (fun j => H 49 ((k + 1) * 201 + j)) (n : Int) s L G b c).1 from ⟨by omega, ⟨by omega, by omega, by omega⟩, by omega⟩)] at hst
                       rw [hst] at ih
                       exact ih _ _)
                    | (rw [if_neg (fun z => by have z1 := z.2.1.1; have z2 := z.2.1.2.1; have z3 := z.2.1.2.2; have z4 : chF (H 46) s b c + H 49 ((k + 1) * 201 + (b + (c : Int))) < (trL 1000000 b (H 47) (H 46) (H 48) (fun j => H 49 ((k + 1) * 201 + j)) (n : Int) s L G b c).1 := z.2.2; omega)] at hst
                       rw [hst] at ih
                       exact ih _ _)
          · refine st_goto rfl ?_
            first
            | (refine hx c _ _ _ _ _ ?_
               have := trL_n 1000000 b (H 47) (H 46) (H 48) (fun j => H 49 ((k + 1) * 201 + j)) (n : Int) s L G b c (by omega) (31 - c)
               rw [show c + (31 - c) = 31 by omega] at this
               exact this.symm)
            | (refine hx c _ _ _ _ _ ?_
               have := trL_brk (T := 1000000) (e0 := b) (hm := H 46) (pd := H 48) (rest := fun j => H 49 ((k + 1) * 201 + j)) (k := s) (L := L) (G := G) (c := c) hb.1 hw (by omega) (31 - c)
               rw [show c + (31 - c) = 31 by omega] at this
               exact this.symm)
        · refine st_iconst rfl ?_
          refine st_goto rfl ?_
          refine st_iadd rfl (by omega) ?_
          refine st_istore (ls' := [_, _, _, _, _, _, _, _, _, _, _]) rfl (Nat.le_of_ble_eq_true rfl) rfl ?_
          first
          | rw [show c - 1 = c by omega]
          | (rw [show chF (H 46) s b (c - 1) + 0 = chF (H 46) s b c by rw [hcm1 (by omega), if_pos (by omega)]])
          | (rw [show chF (H 46) s b (c - 1) + 1 = chF (H 46) s b c by rw [hcm1 (by omega), if_neg (by omega)]])
          refine st_iload rfl rfl ?_
          refine st_aload_n rfl rfl (by decide) ?_
          refine st_getI (kk := 9) rfl rfl (by decide) rfl ?_
          rw [hG]
          refine st_icmp_le rfl (fun h48 => ?_) (fun h48 => ?_)
          · refine st_iload rfl rfl ?_
            refine st_iload_n rfl rfl ?_
            refine st_icmp_eq rfl (fun h52 => (by exfalso; omega)) (fun h52 => ?_)
            refine st_iload rfl rfl ?_
            refine st_aload_n rfl rfl (by decide) ?_
            refine st_getI (kk := 0) rfl rfl (by decide) rfl ?_
            rw [h0]
            refine st_icmp_eq rfl (fun h56 => ?_) (fun h56 => ?_)
            · refine st_iconst rfl ?_
              refine st_goto rfl ?_
              refine st_istore (ls' := [_, _, _, _, _, _, _, _, _, _, _]) rfl (Nat.le_of_ble_eq_true rfl) rfl ?_
              refine st_iload rfl rfl ?_
              refine st_aload_n rfl rfl (by decide) ?_
              refine st_getR (kk := 6) rfl rfl rfl (pz_43_6 hP) rfl ?_
              refine st_iload_n rfl rfl ?_
              refine st_iconst rfl ?_
              refine st_iadd rfl (by omega) ?_
              refine st_sipush rfl ?_
              refine st_imul rfl (by omega) ?_
              refine st_iload rfl rfl ?_
              refine st_iadd rfl (by omega) ?_
              refine st_iaload rfl rfl (by omega) (by omega) ?_
              refine st_iadd rfl (by omega) ?_
              refine st_istore (ls' := [_, _, _, _, _, _, _, _, _, _, _]) rfl (Nat.le_of_ble_eq_true rfl) rfl ?_
              refine st_iload rfl rfl ?_
              refine st_if_eq rfl (fun h79 => (by exfalso; omega)) (fun h79 => ?_)
              refine st_aload_n rfl rfl (by decide) ?_
              refine st_getR (kk := 5) rfl rfl rfl (pz_43_5 hP) rfl ?_
              refine st_iload rfl rfl ?_
              refine st_iaload rfl rfl (by omega) (by omega) ?_
              refine st_iconst rfl ?_
              refine st_icmp_ne rfl (fun h85 => ?_) (fun h85 => ?_)
              · refine st_iinc (ls' := [_, _, _, _, _, _, _, _, _, _, _]) rfl rfl (by omega) rfl ?_
                refine st_goto rfl ?_
                have ih := ih (by omega)
                rw [show b + (c : Int) + 1 = b + ((c + 1 : Nat) : Int) by omega]
                first
                | (rw [if_pos (show b + (c : Int) ≤ (n : Int) ∧ trG (H 47) (H 48) (n : Int) L G b c ∧ chF (H 46) s b c + H 49 ((k + 1) * 201 + (b + (c : Int))) < (trL 1000000 b (H 47) (H 46) (H 48) (fun j => H 49 ((k + 1) * 201 + j)) (n : Int) s L G b c).1 from ⟨by omega, ⟨by omega, by omega, by omega⟩, by omega⟩)] at hst
                   rw [hst] at ih
                   exact ih _ _)
                | (rw [if_neg (fun z => by have z1 := z.2.1.1; have z2 := z.2.1.2.1; have z3 := z.2.1.2.2; have z4 : chF (H 46) s b c + H 49 ((k + 1) * 201 + (b + (c : Int))) < (trL 1000000 b (H 47) (H 46) (H 48) (fun j => H 49 ((k + 1) * 201 + j)) (n : Int) s L G b c).1 := z.2.2; omega)] at hst
                   rw [hst] at ih
                   exact ih _ _)
              · refine st_iload rfl rfl ?_
                refine st_iload rfl rfl ?_
                refine st_icmp_ge rfl (fun h88 => ?_) (fun h88 => ?_)
                · refine st_iinc (ls' := [_, _, _, _, _, _, _, _, _, _, _]) rfl rfl (by omega) rfl ?_
                  refine st_goto rfl ?_
                  have ih := ih (by omega)
                  rw [show b + (c : Int) + 1 = b + ((c + 1 : Nat) : Int) by omega]
                  first
                  | (rw [if_pos (show b + (c : Int) ≤ (n : Int) ∧ trG (H 47) (H 48) (n : Int) L G b c ∧ chF (H 46) s b c + H 49 ((k + 1) * 201 + (b + (c : Int))) < (trL 1000000 b (H 47) (H 46) (H 48) (fun j => H 49 ((k + 1) * 201 + j)) (n : Int) s L G b c).1 from ⟨by omega, ⟨by omega, by omega, by omega⟩, by omega⟩)] at hst
                     rw [hst] at ih
                     exact ih _ _)
                  | (rw [if_neg (fun z => by have z1 := z.2.1.1; have z2 := z.2.1.2.1; have z3 := z.2.1.2.2; have z4 : chF (H 46) s b c + H 49 ((k + 1) * 201 + (b + (c : Int))) < (trL 1000000 b (H 47) (H 46) (H 48) (fun j => H 49 ((k + 1) * 201 + j)) (n : Int) s L G b c).1 := z.2.2; omega)] at hst
                     rw [hst] at ih
                     exact ih _ _)
                · refine st_iload rfl rfl ?_
                  refine st_istore (ls' := [_, _, _, _, _, _, _, _, _, _, _]) rfl (Nat.le_of_ble_eq_true rfl) rfl ?_
                  refine st_iload rfl rfl ?_
                  refine st_istore (ls' := [_, _, _, _, _, _, _, _, _, _, _]) rfl (Nat.le_of_ble_eq_true rfl) rfl ?_
                  refine st_iinc (ls' := [_, _, _, _, _, _, _, _, _, _, _]) rfl rfl (by omega) rfl ?_
                  refine st_goto rfl ?_
                  have ih := ih (by omega)
                  rw [show b + (c : Int) + 1 = b + ((c + 1 : Nat) : Int) by omega]
                  first
                  | (rw [if_pos (show b + (c : Int) ≤ (n : Int) ∧ trG (H 47) (H 48) (n : Int) L G b c ∧ chF (H 46) s b c + H 49 ((k + 1) * 201 + (b + (c : Int))) < (trL 1000000 b (H 47) (H 46) (H 48) (fun j => H 49 ((k + 1) * 201 + j)) (n : Int) s L G b c).1 from ⟨by omega, ⟨by omega, by omega, by omega⟩, by omega⟩)] at hst
                     rw [hst] at ih
                     exact ih _ _)
                  | (rw [if_neg (fun z => by have z1 := z.2.1.1; have z2 := z.2.1.2.1; have z3 := z.2.1.2.2; have z4 : chF (H 46) s b c + H 49 ((k + 1) * 201 + (b + (c : Int))) < (trL 1000000 b (H 47) (H 46) (H 48) (fun j => H 49 ((k + 1) * 201 + j)) (n : Int) s L G b c).1 := z.2.2; omega)] at hst
                     rw [hst] at ih
                     exact ih _ _)
            · refine st_iload rfl rfl ?_
              refine st_aload_n rfl rfl (by decide) ?_
              refine st_getI (kk := 8) rfl rfl (by decide) rfl ?_
              rw [hL]
              refine st_icmp_lt rfl (fun h60 => ?_) (fun h60 => ?_)
              · refine st_iconst rfl ?_
                refine st_istore (ls' := [_, _, _, _, _, _, _, _, _, _, _]) rfl (Nat.le_of_ble_eq_true rfl) rfl ?_
                refine st_iload rfl rfl ?_
                refine st_aload_n rfl rfl (by decide) ?_
                refine st_getR (kk := 6) rfl rfl rfl (pz_43_6 hP) rfl ?_
                refine st_iload_n rfl rfl ?_
                refine st_iconst rfl ?_
                refine st_iadd rfl (by omega) ?_
                refine st_sipush rfl ?_
                refine st_imul rfl (by omega) ?_
                refine st_iload rfl rfl ?_
                refine st_iadd rfl (by omega) ?_
                refine st_iaload rfl rfl (by omega) (by omega) ?_
                refine st_iadd rfl (by omega) ?_
                refine st_istore (ls' := [_, _, _, _, _, _, _, _, _, _, _]) rfl (Nat.le_of_ble_eq_true rfl) rfl ?_
                refine st_iload rfl rfl ?_
                refine st_if_eq rfl (fun h79 => ?_) (fun h79 => (by exfalso; omega))
                refine st_iinc (ls' := [_, _, _, _, _, _, _, _, _, _, _]) rfl rfl (by omega) rfl ?_
                refine st_goto rfl ?_
                have ih := ih (by omega)
                rw [show b + (c : Int) + 1 = b + ((c + 1 : Nat) : Int) by omega]
                first
                | (rw [if_pos (show b + (c : Int) ≤ (n : Int) ∧ trG (H 47) (H 48) (n : Int) L G b c ∧ chF (H 46) s b c + H 49 ((k + 1) * 201 + (b + (c : Int))) < (trL 1000000 b (H 47) (H 46) (H 48) (fun j => H 49 ((k + 1) * 201 + j)) (n : Int) s L G b c).1 from ⟨by omega, ⟨by omega, by omega, by omega⟩, by omega⟩)] at hst
                   rw [hst] at ih
                   exact ih _ _)
                | (rw [if_neg (fun z => by have z1 := z.2.1.1; have z2 := z.2.1.2.1; have z3 := z.2.1.2.2; have z4 : chF (H 46) s b c + H 49 ((k + 1) * 201 + (b + (c : Int))) < (trL 1000000 b (H 47) (H 46) (H 48) (fun j => H 49 ((k + 1) * 201 + j)) (n : Int) s L G b c).1 := z.2.2; omega)] at hst
                   rw [hst] at ih
                   exact ih _ _)
              · refine st_iconst rfl ?_
                refine st_goto rfl ?_
                refine st_istore (ls' := [_, _, _, _, _, _, _, _, _, _, _]) rfl (Nat.le_of_ble_eq_true rfl) rfl ?_
                refine st_iload rfl rfl ?_
                refine st_aload_n rfl rfl (by decide) ?_
                refine st_getR (kk := 6) rfl rfl rfl (pz_43_6 hP) rfl ?_
                refine st_iload_n rfl rfl ?_
                refine st_iconst rfl ?_
                refine st_iadd rfl (by omega) ?_
                refine st_sipush rfl ?_
                refine st_imul rfl (by omega) ?_
                refine st_iload rfl rfl ?_
                refine st_iadd rfl (by omega) ?_
                refine st_iaload rfl rfl (by omega) (by omega) ?_
                refine st_iadd rfl (by omega) ?_
                refine st_istore (ls' := [_, _, _, _, _, _, _, _, _, _, _]) rfl (Nat.le_of_ble_eq_true rfl) rfl ?_
                refine st_iload rfl rfl ?_
                refine st_if_eq rfl (fun h79 => (by exfalso; omega)) (fun h79 => ?_)
                refine st_aload_n rfl rfl (by decide) ?_
                refine st_getR (kk := 5) rfl rfl rfl (pz_43_5 hP) rfl ?_
                refine st_iload rfl rfl ?_
                refine st_iaload rfl rfl (by omega) (by omega) ?_
                refine st_iconst rfl ?_
                refine st_icmp_ne rfl (fun h85 => ?_) (fun h85 => ?_)
                · refine st_iinc (ls' := [_, _, _, _, _, _, _, _, _, _, _]) rfl rfl (by omega) rfl ?_
                  refine st_goto rfl ?_
                  have ih := ih (by omega)
                  rw [show b + (c : Int) + 1 = b + ((c + 1 : Nat) : Int) by omega]
                  first
                  | (rw [if_pos (show b + (c : Int) ≤ (n : Int) ∧ trG (H 47) (H 48) (n : Int) L G b c ∧ chF (H 46) s b c + H 49 ((k + 1) * 201 + (b + (c : Int))) < (trL 1000000 b (H 47) (H 46) (H 48) (fun j => H 49 ((k + 1) * 201 + j)) (n : Int) s L G b c).1 from ⟨by omega, ⟨by omega, by omega, by omega⟩, by omega⟩)] at hst
                     rw [hst] at ih
                     exact ih _ _)
                  | (rw [if_neg (fun z => by have z1 := z.2.1.1; have z2 := z.2.1.2.1; have z3 := z.2.1.2.2; have z4 : chF (H 46) s b c + H 49 ((k + 1) * 201 + (b + (c : Int))) < (trL 1000000 b (H 47) (H 46) (H 48) (fun j => H 49 ((k + 1) * 201 + j)) (n : Int) s L G b c).1 := z.2.2; omega)] at hst
                     rw [hst] at ih
                     exact ih _ _)
                · refine st_iload rfl rfl ?_
                  refine st_iload rfl rfl ?_
                  refine st_icmp_ge rfl (fun h88 => ?_) (fun h88 => ?_)
                  · refine st_iinc (ls' := [_, _, _, _, _, _, _, _, _, _, _]) rfl rfl (by omega) rfl ?_
                    refine st_goto rfl ?_
                    have ih := ih (by omega)
                    rw [show b + (c : Int) + 1 = b + ((c + 1 : Nat) : Int) by omega]
                    first
                    | (rw [if_pos (show b + (c : Int) ≤ (n : Int) ∧ trG (H 47) (H 48) (n : Int) L G b c ∧ chF (H 46) s b c + H 49 ((k + 1) * 201 + (b + (c : Int))) < (trL 1000000 b (H 47) (H 46) (H 48) (fun j => H 49 ((k + 1) * 201 + j)) (n : Int) s L G b c).1 from ⟨by omega, ⟨by omega, by omega, by omega⟩, by omega⟩)] at hst
                       rw [hst] at ih
                       exact ih _ _)
                    | (rw [if_neg (fun z => by have z1 := z.2.1.1; have z2 := z.2.1.2.1; have z3 := z.2.1.2.2; have z4 : chF (H 46) s b c + H 49 ((k + 1) * 201 + (b + (c : Int))) < (trL 1000000 b (H 47) (H 46) (H 48) (fun j => H 49 ((k + 1) * 201 + j)) (n : Int) s L G b c).1 := z.2.2; omega)] at hst
                       rw [hst] at ih
                       exact ih _ _)
                  · refine st_iload rfl rfl ?_
                    refine st_istore (ls' := [_, _, _, _, _, _, _, _, _, _, _]) rfl (Nat.le_of_ble_eq_true rfl) rfl ?_
                    refine st_iload rfl rfl ?_
                    refine st_istore (ls' := [_, _, _, _, _, _, _, _, _, _, _]) rfl (Nat.le_of_ble_eq_true rfl) rfl ?_
                    refine st_iinc (ls' := [_, _, _, _, _, _, _, _, _, _, _]) rfl rfl (by omega) rfl ?_
                    refine st_goto rfl ?_
                    have ih := ih (by omega)
                    rw [show b + (c : Int) + 1 = b + ((c + 1 : Nat) : Int) by omega]
                    first
                    | (rw [if_pos (show b + (c : Int) ≤ (n : Int) ∧ trG (H 47) (H 48) (n : Int) L G b c ∧ chF (H 46) s b c + H 49 ((k + 1) * 201 + (b + (c : Int))) < (trL 1000000 b (H 47) (H 46) (H 48) (fun j => H 49 ((k + 1) * 201 + j)) (n : Int) s L G b c).1 from ⟨by omega, ⟨by omega, by omega, by omega⟩, by omega⟩)] at hst
                       rw [hst] at ih
                       exact ih _ _)
                    | (rw [if_neg (fun z => by have z1 := z.2.1.1; have z2 := z.2.1.2.1; have z3 := z.2.1.2.2; have z4 : chF (H 46) s b c + H 49 ((k + 1) * 201 + (b + (c : Int))) < (trL 1000000 b (H 47) (H 46) (H 48) (fun j => H 49 ((k + 1) * 201 + j)) (n : Int) s L G b c).1 := z.2.2; omega)] at hst
                       rw [hst] at ih
                       exact ih _ _)
          · refine st_goto rfl ?_
            first
            | (refine hx c _ _ _ _ _ ?_
               have := trL_n 1000000 b (H 47) (H 46) (H 48) (fun j => H 49 ((k + 1) * 201 + j)) (n : Int) s L G b c (by omega) (31 - c)
               rw [show c + (31 - c) = 31 by omega] at this
               exact this.symm)
            | (refine hx c _ _ _ _ _ ?_
               have := trL_brk (T := 1000000) (e0 := b) (hm := H 46) (pd := H 48) (rest := fun j => H 49 ((k + 1) * 201 + j)) (k := s) (L := L) (G := G) (c := c) hb.1 hw (by omega) (31 - c)
               rw [show c + (31 - c) = 31 by omega] at this
               exact this.symm)
theorem tr_lift {w hm pd r1 r2 : Int → Int} {n k L G i e1 e2 B : Int} (hi : 0 ≤ i) (hB : 0 ≤ B ∧ B ≤ 99000) (hr : ∀ j, 0 ≤ j → (r1 j = r2 j ∧ 0 ≤ r1 j ∧ r1 j ≤ B) ∨ (r1 j = 100000 ∧ r2 j = 1000000)) : ∀ c : Nat, c ≤ 31 → (trL 100000 e1 w hm pd r1 n k L G i c = trL 1000000 e2 w hm pd r2 n k L G i c ∧ (trL 100000 e1 w hm pd r1 n k L G i c).1 ≤ B + 30) ∨ (trL 100000 e1 w hm pd r1 n k L G i c = (100000, e1) ∧ trL 1000000 e2 w hm pd r2 n k L G i c = (1000000, e2))
  | 0, _ => Or.inr ⟨rfl, rfl⟩
  | c + 1, hc => by
    have ih := tr_lift (w := w) (hm := hm) (pd := pd) (n := n) (k := k) (L := L) (G := G) (e1 := e1) (e2 := e2) hi hB hr c (by omega)
    have hch := chF_r hm k i c
    rw [tr_s, tr_s]
    by_cases hg : i + (c : Int) ≤ n ∧ trG w pd n L G i c
    · rcases hr (i + (c : Int)) (by omega) with ⟨q1, q2, q3⟩ | ⟨q1, q2⟩
      · rcases ih with ⟨i1, i2⟩ | ⟨i1, i2⟩
        · rw [← i1, ← q1]
          split
          · exact Or.inl ⟨rfl, by show chF hm k i c + r1 (i + (c : Int)) ≤ B + 30; omega⟩
          · exact Or.inl ⟨rfl, i2⟩
        · rw [i1, i2, ← q1, if_pos ⟨hg.1, hg.2, by show chF hm k i c + r1 (i + (c : Int)) < 100000; omega⟩, if_pos ⟨hg.1, hg.2, by show chF hm k i c + r1 (i + (c : Int)) < 1000000; omega⟩]
          exact Or.inl ⟨rfl, by show chF hm k i c + r1 (i + (c : Int)) ≤ B + 30; omega⟩
      · rw [if_neg, if_neg]
        · exact ih
        · intro z
          have z := z.2.2
          rw [q2] at z
          rcases ih with ⟨i1, i2⟩ | ⟨i1, i2⟩
          · rw [← i1] at z; omega
          · rw [i2] at z
            have z : chF hm k i c + 1000000 < 1000000 := z
            omega
        · intro z
          have z := z.2.2
          rw [q1] at z
          rcases ih with ⟨i1, i2⟩ | ⟨i1, i2⟩
          · omega
          · rw [i1] at z
            have z : chF hm k i c + 100000 < 100000 := z
            omega
    · rw [if_neg (fun z => hg ⟨z.1, z.2.1⟩), if_neg (fun z => hg ⟨z.1, z.2.1⟩)]
      exact ih
theorem dp_lift {w hm pd : Int → Int} {n : Int} {ks Ls Gs : Int → Int} {sh : Int} : ∀ (r : Nat), r ≤ 3000 → ∀ i : Int, 0 ≤ i → ((dpR 100000 (fun _ => -1) w hm pd n ks Ls Gs sh r i).1 = (dpR 1000000 (fun j => j) w hm pd n ks Ls Gs sh r i).1 ∧ (0 ≤ (dpR 100000 (fun _ => -1) w hm pd n ks Ls Gs sh r i).1 ∧ (dpR 100000 (fun _ => -1) w hm pd n ks Ls Gs sh r i).1 ≤ 31 * (r : Int)) ∧ (1 ≤ r → (dpR 100000 (fun _ => -1) w hm pd n ks Ls Gs sh r i).2 = (dpR 1000000 (fun j => j) w hm pd n ks Ls Gs sh r i).2)) ∨ ((dpR 100000 (fun _ => -1) w hm pd n ks Ls Gs sh r i).1 = 100000 ∧ (dpR 1000000 (fun j => j) w hm pd n ks Ls Gs sh r i).1 = 1000000)
  | 0, _, i, _ => by
    have f1 : (dpR 100000 (fun _ => -1) w hm pd n ks Ls Gs sh 0 i).1 = if i = n then (0 : Int) else 100000 := rfl
    have f2 : (dpR 1000000 (fun j => j) w hm pd n ks Ls Gs sh 0 i).1 = if i = n then (0 : Int) else 1000000 := rfl
    rw [f1, f2]
    by_cases h : i = n
    · rw [if_pos h, if_pos h]
      exact Or.inl ⟨rfl, by omega, fun z => by omega⟩
    · rw [if_neg h, if_neg h]
      exact Or.inr ⟨rfl, rfl⟩
  | r + 1, hr, i, hi => by
    have ih := dp_lift (w := w) (hm := hm) (pd := pd) (n := n) (ks := ks) (Ls := Ls) (Gs := Gs) (sh := sh) r (by omega)
    have e1 : dpR 100000 (fun _ => -1) w hm pd n ks Ls Gs sh (r + 1) i = trL 100000 (-1) w hm pd (fun j => (dpR 100000 (fun _ => -1) w hm pd n ks Ls Gs sh r j).1) n (ks (sh - 1 - (r : Int))) (Ls (sh - 1 - (r : Int))) (Gs (sh - 1 - (r : Int))) i 31 := rfl
    have e2 : dpR 1000000 (fun j => j) w hm pd n ks Ls Gs sh (r + 1) i = trL 1000000 i w hm pd (fun j => (dpR 1000000 (fun j => j) w hm pd n ks Ls Gs sh r j).1) n (ks (sh - 1 - (r : Int))) (Ls (sh - 1 - (r : Int))) (Gs (sh - 1 - (r : Int))) i 31 := rfl
    have hl := tr_lift (w := w) (hm := hm) (pd := pd) (r1 := fun j => (dpR 100000 (fun _ => -1) w hm pd n ks Ls Gs sh r j).1) (r2 := fun j => (dpR 1000000 (fun j => j) w hm pd n ks Ls Gs sh r j).1) (n := n) (k := ks (sh - 1 - (r : Int))) (L := Ls (sh - 1 - (r : Int))) (G := Gs (sh - 1 - (r : Int))) (e1 := -1) (e2 := i) (B := 31 * (r : Int)) hi (by omega) (fun j j0 => by
      rcases ih j j0 with ⟨q1, q2, q3⟩ | q
      · exact Or.inl ⟨q1, q2.1, q2.2⟩
      · exact Or.inr q) 31 (Nat.le_refl _)
    have h0 := (dpR_r (T := 100000) (by omega) (fun _ => -1) (w := w) (hm := hm) (pd := pd) (n := n) (ks := ks) (Ls := Ls) (Gs := Gs) (sh := sh) (r + 1) i hi).1
    rw [← e1, ← e2] at hl
    rcases hl with ⟨q1, q2⟩ | ⟨q1, q2⟩
    · exact Or.inl ⟨by rw [q1], ⟨h0, by omega⟩, fun _ => by rw [q1]⟩
    · exact Or.inr ⟨by rw [q1], by rw [q2]⟩

