/-! ===== the class: its calls, books and readings ===== -/
theorem th_neg {a : Int → Int} (hI : Inv a) {s p : Int} (hs : 0 ≤ s ∧ s < a 2) (hp : 0 ≤ p ∧ p < 30) : thgF a s p < 0 ↔ thgF a s p = -1 := by
  have := hI.th hs.1 hs.2 hp.1 hp.2
  unfold TH at this
  omega
theorem cm_o {a : Int → Int} (hI : Inv a) {b f s p k : Int} (hb : 0 ≤ b ∧ b < a 3) (hf : f = 4 ∨ f = 6) (hs : 0 ≤ s ∧ s < a 2) (hp : 0 ≤ p ∧ p < 30) (hk : k < 6670 ∨ 8782 ≤ k) : cmF a b f s p k = a k := by
  have hn := hI.n
  rw [cmF_pt, ptF_o (by omega) hf (by omega) hp (by omega), lvF_o (by omega) hf (hI.pos hb.1 hb.2 hf) (by omega)]

theorem c_Cart_stand {d N : Nat} {P : am_P} {H : am_H} {b s p : Int} {a : Int → Int} (hP : PZ P) (hI : Inv a) (hW : InvW a) (hS : RS H 10 a)  : am_C (d + 6) 13 [am_r 3, am_i (b), am_i (s), am_i (p)] (N, P, H) (CQ N P H (bi ((0 ≤ b ∧ b < a 3) ∧ (0 ≤ s ∧ s < a 2) ∧ (0 ≤ p ∧ p < 30) ∧ (a (6670 + 32 * s + 1) = 1 ↔ bkF a b 0 = 1) ∧ thgF a s p < 0)) (if (0 ≤ b ∧ b < a 3) ∧ (0 ≤ s ∧ s < a 2) ∧ (0 ≤ p ∧ p < 30) ∧ (a (6670 + 32 * s + 1) = 1 ↔ bkF a b 0 = 1) ∧ thgF a s p < 0 then cmF a b 4 s p else a)) := by
  refine am_enC (d := d + 5) (ml := 5) (ls := [_, _, _, _, _]) cq_Cart_stand rfl (Nat.le_of_ble_eq_true rfl) rfl ?_
  have hn := hI.n
  have hM := hS.m
  have hT := hS.t
  have hR := hS.r
  have hC := hS.c
  have hG := hS.g
  have t0 : H 14 0 = a 2 := hT.1
  have t4 : H 14 4 = a 3 := hT.2.1
  have tb := hT.2.2.2.2
  refine st_aload_n rfl rfl (by decide) ?_
  refine st_getR (kk := 3) rfl rfl rfl (pz_3_3 hP) rfl ?_
  refine st_getR (kk := 1) rfl rfl rfl (pz_10_1 hP) rfl ?_
  refine st_astore (ls' := [_, _, _, _, _]) rfl (by decide) (Nat.le_of_ble_eq_true rfl) rfl ?_
  refine st_aload rfl rfl (by decide) ?_
  refine st_iload_n rfl rfl ?_
  refine st_cv1 (w := []) rfl rfl rfl (Nat.le_of_ble_eq_true rfl) (Nat.le_of_ble_eq_true rfl) rfl rfl (r_Stacks_hasBook hP t4) ?_
  refine st_if_eq_b rfl (fun h7 => ?_) (fun h7 => ?_)
  · refine st_iconst rfl ?_
    refine st_iret rfl (fun z => by first | exact absurd z (by decide) | exact bi_01 _ | decide | omega) ?_
    exact ⟨am_ri (bi_f (fun z => by have := th_neg hI z.2.1 z.2.2.1; omega)).symm, H, rfl, fun _ _ => rfl, by rw [if_neg (fun z => by have := th_neg hI z.2.1 z.2.2.1; omega)]; exact hS⟩
  · refine st_aload rfl rfl (by decide) ?_
    refine st_iload_n rfl rfl ?_
    refine st_iload_n rfl rfl ?_
    refine st_cv1 (w := []) rfl rfl rfl (Nat.le_of_ble_eq_true rfl) (Nat.le_of_ble_eq_true rfl) rfl rfl (r_Stacks_isFree hP hI hT) ?_
    refine st_if_ne_b rfl (fun h12 => ?_) (fun h12 => ?_)
    · refine st_aload rfl rfl (by decide) ?_
      refine st_iload_n rfl rfl ?_
      refine st_cv1 (w := []) rfl rfl rfl (Nat.le_of_ble_eq_true rfl) (Nat.le_of_ble_eq_true rfl) rfl rfl (r_Stacks_isHigh hP hI hT) ?_
      refine st_aload rfl rfl (by decide) ?_
      refine st_getR (kk := 5) rfl rfl rfl (pz_14_5 hP) rfl ?_
      refine st_iload_n rfl rfl ?_
      refine st_iaload rfl rfl (by omega) (by omega) ?_
      rw [(tb b h7.1 h7.2).1]
      refine st_iconst rfl ?_
      refine st_icmp_ne rfl (fun h23 => ?_) (fun h23 => ?_)
      · refine st_iconst rfl ?_
        refine st_icmp_eq rfl (fun h27 => ?_) (fun h27 => ?_)
        · refine st_aload rfl rfl (by decide) ?_
          refine st_iload_n rfl rfl ?_
          refine st_iload_n rfl rfl ?_
          refine st_iload_n rfl rfl ?_
          refine st_cvC (w := []) rfl rfl rfl (Nat.le_of_ble_eq_true rfl) (Nat.le_of_ble_eq_true rfl) rfl rfl (c_Stacks_put4 hP hI hT (by omega) (by omega) (by omega)) ?_
          rintro v σ ⟨rfl, H1, rfl, hf, hT1⟩
          show am_WP _ _ _ _ _ [] _
          refine st_iconst rfl ?_
          refine st_iret rfl (fun z => by first | exact absurd z (by decide) | exact bi_01 _ | decide | omega) ?_
          have hc : (0 ≤ b ∧ b < a 3) ∧ (0 ≤ s ∧ s < a 2) ∧ (0 ≤ p ∧ p < 30) ∧ (a (6670 + 32 * s + 1) = 1 ↔ bkF a b 0 = 1) ∧ thgF a s p < 0 := ⟨by omega, by omega, by omega, by unfold bi at h27; split at h27 <;> omega, by have := th_neg hI (s := s) (p := p) (by omega) (by omega); omega⟩
          refine ⟨am_ri (bi_t hc).symm, H1, rfl, fun o ho => hf o (by omega), ?_⟩
          rw [if_pos hc]
          exact RS_st hI hS (fun o ho => hf o (by omega)) hT1 (fun k hk => cm_o hI (by omega) (by omega) (by omega) (by omega) (by omega))
        · refine st_iconst rfl ?_
          refine st_iret rfl (fun z => by first | exact absurd z (by decide) | exact bi_01 _ | decide | omega) ?_
          exact ⟨am_ri (bi_f (fun z => by have := z.2.2.2.1; unfold bi at h27; split at h27 <;> omega)).symm, H, rfl, fun _ _ => rfl, by rw [if_neg (fun z => by have := z.2.2.2.1; unfold bi at h27; split at h27 <;> omega)]; exact hS⟩
      · refine st_iconst rfl ?_
        refine st_goto rfl ?_
        refine st_icmp_eq rfl (fun h27 => ?_) (fun h27 => ?_)
        · refine st_aload rfl rfl (by decide) ?_
          refine st_iload_n rfl rfl ?_
          refine st_iload_n rfl rfl ?_
          refine st_iload_n rfl rfl ?_
          refine st_cvC (w := []) rfl rfl rfl (Nat.le_of_ble_eq_true rfl) (Nat.le_of_ble_eq_true rfl) rfl rfl (c_Stacks_put4 hP hI hT (by omega) (by omega) (by omega)) ?_
          rintro v σ ⟨rfl, H1, rfl, hf, hT1⟩
          show am_WP _ _ _ _ _ [] _
          refine st_iconst rfl ?_
          refine st_iret rfl (fun z => by first | exact absurd z (by decide) | exact bi_01 _ | decide | omega) ?_
          have hc : (0 ≤ b ∧ b < a 3) ∧ (0 ≤ s ∧ s < a 2) ∧ (0 ≤ p ∧ p < 30) ∧ (a (6670 + 32 * s + 1) = 1 ↔ bkF a b 0 = 1) ∧ thgF a s p < 0 := ⟨by omega, by omega, by omega, by unfold bi at h27; split at h27 <;> omega, by have := th_neg hI (s := s) (p := p) (by omega) (by omega); omega⟩
          refine ⟨am_ri (bi_t hc).symm, H1, rfl, fun o ho => hf o (by omega), ?_⟩
          rw [if_pos hc]
          exact RS_st hI hS (fun o ho => hf o (by omega)) hT1 (fun k hk => cm_o hI (by omega) (by omega) (by omega) (by omega) (by omega))
        · refine st_iconst rfl ?_
          refine st_iret rfl (fun z => by first | exact absurd z (by decide) | exact bi_01 _ | decide | omega) ?_
          exact ⟨am_ri (bi_f (fun z => by have := z.2.2.2.1; unfold bi at h27; split at h27 <;> omega)).symm, H, rfl, fun _ _ => rfl, by rw [if_neg (fun z => by have := z.2.2.2.1; unfold bi at h27; split at h27 <;> omega)]; exact hS⟩
    · refine st_iconst rfl ?_
      refine st_iret rfl (fun z => by first | exact absurd z (by decide) | exact bi_01 _ | decide | omega) ?_
      exact ⟨am_ri (bi_f (fun z => by have := th_neg hI z.2.1 z.2.2.1; omega)).symm, H, rfl, fun _ _ => rfl, by rw [if_neg (fun z => by have := th_neg hI z.2.1 z.2.2.1; omega)]; exact hS⟩
theorem c_Cart_dummy {d N : Nat} {P : am_P} {H : am_H} {b s p : Int} {a : Int → Int} (hP : PZ P) (hI : Inv a) (hW : InvW a) (hS : RS H 10 a)  : am_C (d + 6) 14 [am_r 3, am_i (b), am_i (s), am_i (p)] (N, P, H) (CQ N P H (bi ((0 ≤ b ∧ b < a 3) ∧ (0 ≤ s ∧ s < a 2) ∧ (0 ≤ p ∧ p < 30) ∧ bkF a b 0 = 1 ∧ 0 ≤ bkF a b 4 ∧ ¬ a (6670 + 32 * s + 1) = 1 ∧ thgF a s p < 0)) (if (0 ≤ b ∧ b < a 3) ∧ (0 ≤ s ∧ s < a 2) ∧ (0 ≤ p ∧ p < 30) ∧ bkF a b 0 = 1 ∧ 0 ≤ bkF a b 4 ∧ ¬ a (6670 + 32 * s + 1) = 1 ∧ thgF a s p < 0 then cmF a b 6 s p else a)) := by
  refine am_enC (d := d + 5) (ml := 5) (ls := [_, _, _, _, _]) cq_Cart_dummy rfl (Nat.le_of_ble_eq_true rfl) rfl ?_
  have hn := hI.n
  have hM := hS.m
  have hT := hS.t
  have hR := hS.r
  have hC := hS.c
  have hG := hS.g
  have t0 : H 14 0 = a 2 := hT.1
  have t4 : H 14 4 = a 3 := hT.2.1
  have tb := hT.2.2.2.2
  refine st_aload_n rfl rfl (by decide) ?_
  refine st_getR (kk := 3) rfl rfl rfl (pz_3_3 hP) rfl ?_
  refine st_getR (kk := 1) rfl rfl rfl (pz_10_1 hP) rfl ?_
  refine st_astore (ls' := [_, _, _, _, _]) rfl (by decide) (Nat.le_of_ble_eq_true rfl) rfl ?_
  refine st_aload rfl rfl (by decide) ?_
  refine st_iload_n rfl rfl ?_
  refine st_cv1 (w := []) rfl rfl rfl (Nat.le_of_ble_eq_true rfl) (Nat.le_of_ble_eq_true rfl) rfl rfl (r_Stacks_hasBook hP t4) ?_
  refine st_if_eq_b rfl (fun h7 => ?_) (fun h7 => ?_)
  · refine st_iconst rfl ?_
    refine st_iret rfl (fun z => by first | exact absurd z (by decide) | exact bi_01 _ | decide | omega) ?_
    exact ⟨am_ri (bi_f (fun z => by have := th_neg hI z.2.1 z.2.2.1; omega)).symm, H, rfl, fun _ _ => rfl, by rw [if_neg (fun z => by have := th_neg hI z.2.1 z.2.2.1; omega)]; exact hS⟩
  · refine st_aload rfl rfl (by decide) ?_
    refine st_iload_n rfl rfl ?_
    refine st_iload_n rfl rfl ?_
    refine st_cv1 (w := []) rfl rfl rfl (Nat.le_of_ble_eq_true rfl) (Nat.le_of_ble_eq_true rfl) rfl rfl (r_Stacks_isFree hP hI hT) ?_
    refine st_if_eq_b rfl (fun h12 => ?_) (fun h12 => ?_)
    · refine st_iconst rfl ?_
      refine st_iret rfl (fun z => by first | exact absurd z (by decide) | exact bi_01 _ | decide | omega) ?_
      exact ⟨am_ri (bi_f (fun z => by have := th_neg hI z.2.1 z.2.2.1; omega)).symm, H, rfl, fun _ _ => rfl, by rw [if_neg (fun z => by have := th_neg hI z.2.1 z.2.2.1; omega)]; exact hS⟩
    · refine st_aload rfl rfl (by decide) ?_
      refine st_iload_n rfl rfl ?_
      refine st_cv1 (w := []) rfl rfl rfl (Nat.le_of_ble_eq_true rfl) (Nat.le_of_ble_eq_true rfl) rfl rfl (r_Stacks_isHigh hP hI hT) ?_
      refine st_if_eq_b rfl (fun h16 => ?_) (fun h16 => ?_)
      · refine st_aload rfl rfl (by decide) ?_
        refine st_getR (kk := 5) rfl rfl rfl (pz_14_5 hP) rfl ?_
        refine st_iload_n rfl rfl ?_
        refine st_iaload rfl rfl (by omega) (by omega) ?_
        rw [(tb b h7.1 h7.2).1]
        refine st_iconst rfl ?_
        refine st_icmp_ne rfl (fun h24 => ?_) (fun h24 => ?_)
        · refine st_iconst rfl ?_
          refine st_iret rfl (fun z => by first | exact absurd z (by decide) | exact bi_01 _ | decide | omega) ?_
          exact ⟨am_ri (bi_f (fun z => by omega)).symm, H, rfl, fun _ _ => rfl, by rw [if_neg (fun z => by omega)]; exact hS⟩
        · refine st_aload rfl rfl (by decide) ?_
          refine st_getR (kk := 9) rfl rfl rfl (pz_14_9 hP) rfl ?_
          refine st_iload_n rfl rfl ?_
          refine st_iaload rfl rfl (by omega) (by omega) ?_
          rw [(tb b h7.1 h7.2).2.2.2.2.1]
          have hB4 := (hI.b.2 b h7.1 h7.2).2.2.2.1
          refine st_iconst rfl ?_
          refine st_icmp_ne rfl (fun h30 => ?_) (fun h30 => ?_)
          · refine st_aload rfl rfl (by decide) ?_
            refine st_sipush rfl ?_
            refine st_iload_n rfl rfl ?_
            refine st_iadd rfl (by omega) ?_
            refine st_iload_n rfl rfl ?_
            refine st_iload_n rfl rfl ?_
            refine st_cvC (w := []) rfl rfl rfl (Nat.le_of_ble_eq_true rfl) (Nat.le_of_ble_eq_true rfl) rfl rfl (c_Stacks_put6 hP hI hT (by omega) (by omega) (by omega)) ?_
            rintro v σ ⟨rfl, H1, rfl, hf, hT1⟩
            show am_WP _ _ _ _ _ [] _
            refine st_iconst rfl ?_
            refine st_iret rfl (fun z => by first | exact absurd z (by decide) | exact bi_01 _ | decide | omega) ?_
            have hc : (0 ≤ b ∧ b < a 3) ∧ (0 ≤ s ∧ s < a 2) ∧ (0 ≤ p ∧ p < 30) ∧ bkF a b 0 = 1 ∧ 0 ≤ bkF a b 4 ∧ ¬ a (6670 + 32 * s + 1) = 1 ∧ thgF a s p < 0 := ⟨by omega, by omega, by omega, by omega, by omega, by omega, by have := th_neg hI (s := s) (p := p) (by omega) (by omega); omega⟩
            refine ⟨am_ri (bi_t hc).symm, H1, rfl, fun o ho => hf o (by omega), ?_⟩
            rw [if_pos hc]
            exact RS_st hI hS (fun o ho => hf o (by omega)) hT1 (fun k hk => cm_o hI (by omega) (by omega) (by omega) (by omega) (by omega))
          · refine st_iconst rfl ?_
            refine st_iret rfl (fun z => by first | exact absurd z (by decide) | exact bi_01 _ | decide | omega) ?_
            exact ⟨am_ri (bi_f (fun z => by omega)).symm, H, rfl, fun _ _ => rfl, by rw [if_neg (fun z => by omega)]; exact hS⟩
      · refine st_iconst rfl ?_
        refine st_iret rfl (fun z => by first | exact absurd z (by decide) | exact bi_01 _ | decide | omega) ?_
        exact ⟨am_ri (bi_f (fun z => by have := th_neg hI z.2.1 z.2.2.1; omega)).symm, H, rfl, fun _ _ => rfl, by rw [if_neg (fun z => by have := th_neg hI z.2.1 z.2.2.1; omega)]; exact hS⟩
theorem c_Cart_off {d N : Nat} {P : am_P} {H : am_H} {b : Int} {a : Int → Int} (hP : PZ P) (hI : Inv a) (hW : InvW a) (hS : RS H 10 a)  : am_C (d + 5) 15 [am_r 3, am_i (b)] (N, P, H) (CQ N P H (bi ((0 ≤ b ∧ b < a 3) ∧ 0 ≤ bkF a b 4)) (if (0 ≤ b ∧ b < a 3) ∧ 0 ≤ bkF a b 4 then lvF (lvF a b 4) b 6 else a)) := by
  refine am_enC (d := d + 4) (ml := 3) (ls := [_, _, _]) cq_Cart_off rfl (Nat.le_of_ble_eq_true rfl) rfl ?_
  have hn := hI.n
  have hM := hS.m
  have hT := hS.t
  have hR := hS.r
  have hC := hS.c
  have hG := hS.g
  have t0 : H 14 0 = a 2 := hT.1
  have t4 : H 14 4 = a 3 := hT.2.1
  have tb := hT.2.2.2.2
  refine st_aload_n rfl rfl (by decide) ?_
  refine st_getR (kk := 3) rfl rfl rfl (pz_3_3 hP) rfl ?_
  refine st_getR (kk := 1) rfl rfl rfl (pz_10_1 hP) rfl ?_
  refine st_astore_n (ls' := [_, _, _]) rfl (by decide) (Nat.le_of_ble_eq_true rfl) rfl ?_
  refine st_aload_n rfl rfl (by decide) ?_
  refine st_iload_n rfl rfl ?_
  refine st_cv1 (w := []) rfl rfl rfl (Nat.le_of_ble_eq_true rfl) (Nat.le_of_ble_eq_true rfl) rfl rfl (r_Stacks_hasBook hP t4) ?_
  refine st_if_eq_b rfl (fun h7 => ?_) (fun h7 => ?_)
  · refine st_iconst rfl ?_
    refine st_iret rfl (fun z => by first | exact absurd z (by decide) | exact bi_01 _ | decide | omega) ?_
    exact ⟨am_ri (bi_f (by omega)).symm, H, rfl, fun _ _ => rfl, by rw [if_neg (by omega)]; exact hS⟩
  · refine st_aload_n rfl rfl (by decide) ?_
    refine st_getR (kk := 9) rfl rfl rfl (pz_14_9 hP) rfl ?_
    refine st_iload_n rfl rfl ?_
    refine st_iaload rfl rfl (by omega) (by omega) ?_
    rw [(tb b h7.1 h7.2).2.2.2.2.1]
    have hB4 := (hI.b.2 b h7.1 h7.2).2.2.2.1
    refine st_iconst rfl ?_
    refine st_icmp_ne rfl (fun h13 => ?_) (fun h13 => ?_)
    · refine st_aload_n rfl rfl (by decide) ?_
      refine st_iload_n rfl rfl ?_
      refine st_cvC (w := []) rfl rfl rfl (Nat.le_of_ble_eq_true rfl) (Nat.le_of_ble_eq_true rfl) rfl rfl (c_Stacks_take4 hP hI hT h7) ?_
      rintro v σ ⟨rfl, H1, rfl, hf, hT1⟩
      show am_WP _ _ _ _ _ [] _
      have hI1 := inv_lv hI h7.1 h7.2 (f := 4) (Or.inl rfl)
      have hlo : ∀ k, k < 6672 ∨ 8782 ≤ k → lvF a b 4 k = a k := fun k hk => lvF_o (by omega) (Or.inl rfl) (hI.pos h7.1 h7.2 (Or.inl rfl)) hk
      refine st_aload_n rfl rfl (by decide) ?_
      refine st_sipush rfl ?_
      refine st_iload_n rfl rfl ?_
      refine st_iadd rfl (by omega) ?_
      refine st_cvC (w := []) rfl rfl rfl (Nat.le_of_ble_eq_true rfl) (Nat.le_of_ble_eq_true rfl) rfl rfl (c_Stacks_take6 hP hI1 hT1 (by rw [hlo 3 (by omega)]; exact h7)) ?_
      rintro v σ ⟨rfl, H2, rfl, hf2, hT2⟩
      show am_WP _ _ _ _ _ [] _
      refine st_iconst rfl ?_
      refine st_iret rfl (fun z => by first | exact absurd z (by decide) | exact bi_01 _ | decide | omega) ?_
      refine ⟨am_ri (bi_t (by omega)).symm, H2, rfl, fun o ho => by rw [hf2 o (by omega), hf o (by omega)], ?_⟩
      rw [if_pos (by omega)]
      exact RS_st hI hS (fun o ho => by rw [hf2 o (by omega), hf o (by omega)]) hT2 (fun k hk => by rw [lvF_o (by omega) (Or.inr rfl) (hI1.pos h7.1 (by rw [hlo 3 (by omega)]; exact h7.2) (Or.inr rfl)) (by omega), hlo k (by omega)])
    · refine st_iconst rfl ?_
      refine st_iret rfl (fun z => by first | exact absurd z (by decide) | exact bi_01 _ | decide | omega) ?_
      exact ⟨am_ri (bi_f (by omega)).symm, H, rfl, fun _ _ => rfl, by rw [if_neg (by omega)]; exact hS⟩
theorem RS.cnt {H : am_H} {a : Int → Int} {X Y : Int → Int} (hI : Inv a) (hS : RS H 10 a) : RS (am_so (am_so H 37 X) 38 Y) 10 a := hS.cg hI (fun k hk => by rw [am_so_ne _ _ (by omega), am_so_ne _ _ (by omega)]) (fun _ _ _ => rfl)

theorem c_Cart_room {d N : Nat} {P : am_P} {H : am_H} {s y : Int} {a : Int → Int} (hP : PZ P) (hI : Inv a) (hW : InvW a) (hS : RS H 10 a)  : am_C (d + 6) 18 [am_r 3, am_i (s), am_i (y)] (N, P, H) (CQ N P H (if (0 ≤ s ∧ s < a 2) ∧ 0 ≤ y ∧ y < 61 then riF a s y else -1000000) (a)) := by
  refine am_enC (d := d + 5) (ml := 3) (ls := [_, _, _]) cq_Cart_room rfl (Nat.le_of_ble_eq_true rfl) rfl ?_
  have hn := hI.n
  have hM := hS.m
  have hT := hS.t
  have hR := hS.r
  have hC := hS.c
  have hG := hS.g
  have t0 : H 14 0 = a 2 := hT.1
  have t4 : H 14 4 = a 3 := hT.2.1
  refine st_aload_n rfl rfl (by decide) ?_
  refine st_getR (kk := 3) rfl rfl rfl (pz_3_3 hP) rfl ?_
  refine st_getR (kk := 1) rfl rfl rfl (pz_10_1 hP) rfl ?_
  refine st_iload_n rfl rfl ?_
  refine st_cv1 (w := []) rfl rfl rfl (Nat.le_of_ble_eq_true rfl) (Nat.le_of_ble_eq_true rfl) rfl rfl (r_Stacks_hasShelf hP t0) ?_
  refine st_if_eq_b rfl (fun h5 => ?_) (fun h5 => ?_)
  · refine st_ldc rfl ?_
    refine st_iret rfl (fun z => by first | exact absurd z (by decide) | exact bi_01 _ | decide | omega) ?_
    exact ⟨am_ri (by rw [if_neg (by omega)]), H, rfl, fun _ _ => rfl, hS⟩
  · refine st_iload_n rfl rfl ?_
    refine st_if_lt rfl (fun h7 => ?_) (fun h7 => ?_)
    · refine st_ldc rfl ?_
      refine st_iret rfl (fun z => by first | exact absurd z (by decide) | exact bi_01 _ | decide | omega) ?_
      exact ⟨am_ri (by rw [if_neg (by omega)]), H, rfl, fun _ _ => rfl, hS⟩
    · refine st_iload_n rfl rfl ?_
      refine st_bipush rfl ?_
      refine st_icmp_le rfl (fun h10 => ?_) (fun h10 => ?_)
      · refine st_aload_n rfl rfl (by decide) ?_
        refine st_getR (kk := 3) rfl rfl rfl (pz_3_3 hP) rfl ?_
        refine st_getR (kk := 4) rfl rfl rfl (pz_10_4 hP) rfl ?_
        refine st_aload_n rfl rfl (by decide) ?_
        refine st_getR (kk := 3) rfl rfl rfl (pz_3_3 hP) rfl ?_
        refine st_getR (kk := 0) rfl rfl rfl (pz_10_0 hP) rfl ?_
        refine st_aload_n rfl rfl (by decide) ?_
        refine st_getR (kk := 3) rfl rfl rfl (pz_3_3 hP) rfl ?_
        refine st_getR (kk := 1) rfl rfl rfl (pz_10_1 hP) rfl ?_
        refine st_cvC (w := []) rfl rfl rfl (Nat.le_of_ble_eq_true rfl) (Nat.le_of_ble_eq_true rfl) rfl rfl (c_countBooks hP hI hM hT hG) ?_
        rintro v σ ⟨rfl, X, Y, rfl, hX, hY⟩
        show am_WP _ _ _ _ _ [] _
        have hS1 : RS (am_so (am_so H 37 X) 38 Y) 10 a := hS.cnt hI
        refine st_aload_n rfl rfl (by decide) ?_
        refine st_getR (kk := 3) rfl rfl rfl (pz_3_3 hP) rfl ?_
        refine st_getR (kk := 1) rfl rfl rfl (pz_10_1 hP) rfl ?_
        refine st_iload_n rfl rfl ?_
        refine st_cv1 (w := []) rfl rfl rfl (Nat.le_of_ble_eq_true rfl) (Nat.le_of_ble_eq_true rfl) rfl rfl (r_Stacks_roomNow hP hI hS1.t h5) ?_
        refine st_aload_n rfl rfl (by decide) ?_
        refine st_getR (kk := 3) rfl rfl rfl (pz_3_3 hP) rfl ?_
        refine st_getR (kk := 4) rfl rfl rfl (pz_10_4 hP) rfl ?_
        refine st_iload_n rfl rfl ?_
        refine st_iload_n rfl rfl ?_
        refine st_cv1 (w := [_]) rfl rfl rfl (Nat.le_of_ble_eq_true rfl) (Nat.le_of_ble_eq_true rfl) rfl rfl (r_Growths_lossOf hP hI hS1.g (fun q q0 q1 => by rw [am_so_ne _ _ (by decide), am_so_at]; exact hX q q0 q1) (fun q s q0 q1 s0 s1 => by rw [am_so_at]; exact hY q s q0 q1 s0 s1) h5 (by omega)) ?_
        have hr1 := lsL_r hI h5.1 h5.2 (y := y) (by omega) (by omega) (a 4).toNat (by omega)
        have hr2 : lsF a s y = lsL a s y (a 4).toNat := rfl
        have hr3 := riL_r hI h5.1 h5.2 (y := y) (by omega) (by omega) (a 4).toNat (by omega)
        have hr4 := lsF_ri a s y
        have hr5 : riF a s y = riL a s y (a 4).toNat := rfl
        refine st_isub rfl (by omega) ?_
        refine st_iret rfl (fun z => by first | exact absurd z (by decide) | exact bi_01 _ | decide | omega) ?_
        exact ⟨am_ri (by rw [if_pos (by omega)]; omega), _, rfl, fun o ho => by rw [am_so_ne _ _ (by omega), am_so_ne _ _ (by omega)], hS1⟩
      · refine st_ldc rfl ?_
        refine st_iret rfl (fun z => by first | exact absurd z (by decide) | exact bi_01 _ | decide | omega) ?_
        exact ⟨am_ri (by rw [if_neg (by omega)]), H, rfl, fun _ _ => rfl, hS⟩
theorem c_Cart_seen {d N : Nat} {P : am_P} {H : am_H} {m : Int} {a : Int → Int} (hP : PZ P) (hI : Inv a) (hW : InvW a) (hS : RS H 10 a)  : am_C (d + 2) 20 [am_r 3, am_i (m)] (N, P, H) (CQ N P H (if 0 ≤ a 5 ∧ (0 ≤ m ∧ m < a 1) ∧ a 6 ≠ 60 then a 6 + 1 else -1) (if 0 ≤ a 5 ∧ (0 ≤ m ∧ m < a 1) ∧ a 6 ≠ 60 then am_uf (am_uf a (7 + a 6) m) 6 (a 6 + 1) else a)) := by
  refine am_enC (d := d + 1) (ml := 2) (ls := [_, _]) cq_Cart_seen rfl (Nat.le_of_ble_eq_true rfl) rfl ?_
  have hn := hI.n
  have hM := hS.m
  have hT := hS.t
  have hR := hS.r
  have hC := hS.c
  have hG := hS.g
  have t0 : H 14 0 = a 2 := hT.1
  have t4 : H 14 4 = a 3 := hT.2.1
  have hh2 := hI.h.2.1
  refine st_aload_n rfl rfl (by decide) ?_
  refine st_getR (kk := 3) rfl rfl rfl (pz_3_3 hP) rfl ?_
  refine st_getR (kk := 2) rfl rfl rfl (pz_10_2 hP) rfl ?_
  refine st_cv1 (w := []) rfl rfl rfl (Nat.le_of_ble_eq_true rfl) (Nat.le_of_ble_eq_true rfl) rfl rfl (r_Reading_isThere hP hI hR) ?_
  refine st_if_eq_b rfl (fun h4 => ?_) (fun h4 => ?_)
  · refine st_iconst rfl ?_
    refine st_iret rfl (fun z => by first | exact absurd z (by decide) | exact bi_01 _ | decide | omega) ?_
    exact ⟨am_ri (by rw [if_neg (by omega)]), _, rfl, fun _ _ => rfl, by rw [if_neg (by omega)]; exact hS⟩
  · refine st_aload_n rfl rfl (by decide) ?_
    refine st_getR (kk := 3) rfl rfl rfl (pz_3_3 hP) rfl ?_
    refine st_getR (kk := 0) rfl rfl rfl (pz_10_0 hP) rfl ?_
    refine st_iload_n rfl rfl ?_
    refine st_cv1 (w := []) rfl rfl rfl (Nat.le_of_ble_eq_true rfl) (Nat.le_of_ble_eq_true rfl) rfl rfl (r_Marks_has hP hI hM) ?_
    refine st_if_eq_b rfl (fun h10 => ?_) (fun h10 => ?_)
    · refine st_iconst rfl ?_
      refine st_iret rfl (fun z => by first | exact absurd z (by decide) | exact bi_01 _ | decide | omega) ?_
      exact ⟨am_ri (by rw [if_neg (by omega)]), _, rfl, fun _ _ => rfl, by rw [if_neg (by omega)]; exact hS⟩
    · refine st_aload_n rfl rfl (by decide) ?_
      refine st_getR (kk := 3) rfl rfl rfl (pz_3_3 hP) rfl ?_
      refine st_getR (kk := 2) rfl rfl rfl (pz_10_2 hP) rfl ?_
      refine st_iload_n rfl rfl ?_
      refine st_cv1 (w := []) rfl rfl rfl (Nat.le_of_ble_eq_true rfl) (Nat.le_of_ble_eq_true rfl) rfl rfl (r_Reading_add hP (hR.2 h4).1 hh2) ?_
      by_cases h60 : a 6 = 60
      · rw [if_neg (show ¬ (a 6 < 60) by omega)]
        refine st_if_ne_b rfl (fun h16 => (by exfalso; omega)) (fun h16 => ?_)
        refine st_iconst rfl ?_
        refine st_iret rfl (fun z => by first | exact absurd z (by decide) | exact bi_01 _ | decide | omega) ?_
        exact ⟨am_ri (by rw [if_neg (by omega)]), _, rfl, fun _ _ => rfl, by rw [if_neg (by omega)]; exact hS⟩
      rw [if_pos (show a 6 < 60 by omega)]
      refine st_if_ne_b rfl (fun h16 => ?_) (fun h16 => (by exfalso; omega))
      refine st_aload_n rfl rfl (by decide) ?_
      refine st_getR (kk := 3) rfl rfl rfl (pz_3_3 hP) rfl ?_
      refine st_getR (kk := 2) rfl rfl rfl (pz_10_2 hP) rfl ?_
      refine st_getI (kk := 1) rfl rfl (by decide) rfl ?_
      rw [am_up_eq, am_uf_eq]
      refine st_iret rfl (fun z => by first | exact absurd z (by decide) | exact bi_01 _ | decide | omega) ?_
      have hc : 0 ≤ a 5 ∧ (0 ≤ m ∧ m < a 1) ∧ a 6 ≠ 60 := ⟨h4, h10, h60⟩
      refine ⟨am_ri (by rw [if_pos hc]), _, rfl, fun o ho => by rw [am_up_ne (by omega), am_up_ne (by omega)], ?_⟩
      rw [if_pos hc]
      refine RS_hd hI hS (by rw [am_up_ne (by decide), am_up_ne (by decide), am_uf_ne _ _ (by omega), am_uf_ne _ _ (by omega)]; exact hS.way) (fun k hk => by rw [am_up_ne (by omega), am_up_ne (by omega)]) ⟨?_, fun _ => ⟨?_, fun k k0 k1 => ?_⟩⟩ (fun k hk => by rw [am_uf_ne _ _ (by omega), am_uf_ne _ _ (by omega)])
      · rw [am_uf_ne _ _ (by omega), am_uf_ne _ _ (by omega)]
        exact hR.1
      · rw [am_uf_eq, show (10 + 16 : Nat) = 26 from rfl, am_up_eq, am_uf_eq]
      · rw [am_uf_eq] at k1
        show am_uf (H 27) (a 6) m k = _
        by_cases hk : k = a 6
        · rw [hk, am_uf_eq, am_uf_ne _ _ (by omega), am_uf_eq]
        · rw [am_uf_ne _ _ hk, am_uf_ne _ _ (by omega), am_uf_ne _ _ (by omega)]
          exact (hR.2 h4).2 k k0 (by omega)
theorem c_Cart_read {d N : Nat} {P : am_P} {H : am_H} {k : Int} {a : Int → Int} (hP : PZ P) (hI : Inv a) (hW : InvW a) (hS : RS H 10 a)  : am_C (d + 2) 21 [am_r 3, am_i (k)] (N, P, H) (CQ N P H (if 0 ≤ a 5 ∧ 0 ≤ k ∧ k < a 6 then a (7 + k) else -1) (a)) := by
  refine am_enC (d := d + 1) (ml := 2) (ls := [_, _]) cq_Cart_read rfl (Nat.le_of_ble_eq_true rfl) rfl ?_
  have hn := hI.n
  have hM := hS.m
  have hT := hS.t
  have hR := hS.r
  have hC := hS.c
  have hG := hS.g
  have t0 : H 14 0 = a 2 := hT.1
  have t4 : H 14 4 = a 3 := hT.2.1
  refine st_aload_n rfl rfl (by decide) ?_
  refine st_getR (kk := 3) rfl rfl rfl (pz_3_3 hP) rfl ?_
  refine st_getR (kk := 2) rfl rfl rfl (pz_10_2 hP) rfl ?_
  refine st_cv1 (w := []) rfl rfl rfl (Nat.le_of_ble_eq_true rfl) (Nat.le_of_ble_eq_true rfl) rfl rfl (r_Reading_isThere hP hI hR) ?_
  refine st_if_eq_b rfl (fun h4 => ?_) (fun h4 => ?_)
  · refine st_iconst rfl ?_
    refine st_iret rfl (fun z => by first | exact absurd z (by decide) | exact bi_01 _ | decide | omega) ?_
    first
    | exact ⟨am_ri (by unfold rdA; by_cases hk : 0 ≤ k ∧ k < a 6 <;> simp [hk, h4]), H, rfl, fun _ _ => rfl, hS⟩
    | exact ⟨am_ri (by rw [if_neg (by omega)]), H, rfl, fun _ _ => rfl, hS⟩
  · refine st_aload_n rfl rfl (by decide) ?_
    refine st_getR (kk := 3) rfl rfl rfl (pz_3_3 hP) rfl ?_
    refine st_getR (kk := 2) rfl rfl rfl (pz_10_2 hP) rfl ?_
    refine st_iload_n rfl rfl ?_
    refine st_cv1 (w := []) rfl rfl rfl (Nat.le_of_ble_eq_true rfl) (Nat.le_of_ble_eq_true rfl) rfl rfl (r_Reading_markAt hP hI hR h4) ?_
    refine st_goto rfl ?_
    refine st_iret rfl (fun z => by first | exact absurd z (by decide) | exact bi_01 _ | decide | omega) ?_
    first
    | exact ⟨am_ri (by unfold rdA; by_cases hk : 0 ≤ k ∧ k < a 6 <;> simp [hk, h4]), H, rfl, fun _ _ => rfl, hS⟩
    | exact ⟨am_ri (by rw [if_neg (by omega)]), H, rfl, fun _ _ => rfl, hS⟩
theorem cntL_set {a : Int → Int} {m s : Int} : ∀ n : Nat, 0 ≤ m → cntL (am_uf a (8782 + m) s) n = cntL a n + (if m < (n : Int) then bi (0 ≤ s) - bi (0 ≤ a (8782 + m)) else 0)
  | 0, h => by simp only [cntL]; rw [if_neg (by omega)]; rfl
  | n + 1, h => by
    have ih := cntL_set (a := a) (m := m) (s := s) n h
    simp only [cntL]
    rw [ih]
    by_cases hm : m = (n : Int)
    · rw [if_neg (by omega), if_pos (by omega), hm, am_uf_eq]
      omega
    · rw [am_uf_ne _ _ (by omega)]
      by_cases h2 : m < (n : Int)
      · rw [if_pos h2, if_pos (by omega)]; omega
      · rw [if_neg h2, if_neg (by omega)]; omega
theorem RS_ls {H H' : am_H} {a a' : Int → Int} (hI : Inv a) (hS : RS H 10 a) (hh : ∀ k, k < 28 ∨ 32 < k → H' k = H k) (hc : RC H' 10 a') (e : ∀ k, k < 8782 ∨ 10374 ≤ k → a' k = a k) : RS H' 10 a' :=
  ⟨by rw [hh _ (by omega), e 0 (by omega)]; exact hS.way, hS.m.cg hI (hh _ (by omega)) (hh _ (by omega)) (hh _ (by omega)) (e 1 (by omega)) (fun k k0 k1 => e k (by omega)), hS.t.cg hI (fun k k0 k1 => hh _ (by omega)) (e 2 (by omega)) (e 3 (by omega)) (fun k k0 k1 => e k (by omega)), hS.r.cg hI (hh _ (by omega)) (hh _ (by omega)) (fun k k0 k1 => e k (by omega)), hc, hS.g.cg hI (fun k k0 k1 => hh _ (by omega)) (e 4 (by omega)) (fun k k0 k1 => e k (by omega))⟩
theorem RC_set {H H' : am_H} {a : Int → Int} {m s t0 f0 tr : Int} (hI : Inv a) (hC : RC H 10 a) (hm : 0 ≤ m ∧ m < a 1) (h28 : H' 28 0 = H 28 0 + bi (0 ≤ s) - bi (0 ≤ a (8782 + m))) (h29 : H' 29 = am_uf (H 29) m s) (h30 : H' 30 = am_uf (H 30) m tr) (ht : tr = t0 + f0) (hh : ∀ k, 31 ≤ k ∧ k ≤ 32 → H' k = H k) : RC H' 10 (am_uf (am_uf (am_uf a (8782 + m) s) (8982 + m) t0) (9182 + m) f0) := by
  have hn := hI.n
  obtain ⟨q0, q1, q2⟩ := hC
  have e : ∀ k, k ≠ 8782 + m → k ≠ 8982 + m → k ≠ 9182 + m → am_uf (am_uf (am_uf a (8782 + m) s) (8982 + m) t0) (9182 + m) f0 k = a k := fun k k1 k2 k3 => by rw [am_uf_ne _ _ k3, am_uf_ne _ _ k2, am_uf_ne _ _ k1]
  refine ⟨?_, fun k k0 k1 => ?_, fun t u0 u1 => ?_⟩
  · rw [e 1 (by omega) (by omega) (by omega), cntL_cg (a := am_uf a (8782 + m) s) (fun k k0 k1 => by rw [am_uf_ne _ _ (by omega), am_uf_ne _ _ (by omega)]) _ (by omega), cntL_set _ hm.1, if_pos (by omega)]
    show H' 28 0 = _
    rw [h28, show H 28 0 = cntL a (a 1).toNat from q0]
    omega
  · show H' 29 k = _ ∧ H' 30 k = _
    rw [h29, h30]
    by_cases hk : k = m
    · rw [hk, am_uf_eq, am_uf_eq, am_uf_ne _ _ (by omega), am_uf_ne _ _ (by omega), am_uf_eq, am_uf_ne _ _ (by omega), am_uf_eq, am_uf_eq]
      exact ⟨rfl, ht⟩
    · rw [am_uf_ne _ _ hk, am_uf_ne _ _ hk, e _ (by omega) (by omega) (by omega), e _ (by omega) (by omega) (by omega), e _ (by omega) (by omega) (by omega)]
      exact q1 k k0 k1
  · have z := q2 t u0 u1
    have hl := hI.l.2 t u0 u1
    rw [hh (10 + 21) (by omega), hh (10 + 22) (by omega), e _ (by omega) (by omega) (by omega), e _ (by omega) (by omega) (by omega)]
    refine ⟨z.1, fun w k k0 k1 => ?_⟩
    rw [e _ (by omega) (by omega) (by omega)]
    exact z.2 w k k0 k1
theorem RS.ent {H : am_H} {a : Int → Int} (hI : Inv a) (hS : RS H 10 a) : 0 ≤ H 28 0 ∧ H 28 0 ≤ 200 := by
  have hn := hI.n
  have := cntL_r a (a 1).toNat
  have e : H 28 0 = cntL a (a 1).toNat := hS.c.1
  omega

theorem c_Cart_list {d N : Nat} {P : am_P} {H : am_H} {m s : Int} {a : Int → Int} (hP : PZ P) (hI : Inv a) (hW : InvW a) (hS : RS H 10 a)  : am_C (d + 3) 29 [am_r 3, am_i (m), am_i (s)] (N, P, H) (CQ N P H (bi ((0 ≤ m ∧ m < a 1) ∧ 0 ≤ s ∧ s < a 2)) (if (0 ≤ m ∧ m < a 1) ∧ 0 ≤ s ∧ s < a 2 then am_uf a (8782 + m) s else a)) := by
  refine am_enC (d := d + 2) (ml := 3) (ls := [_, _, _]) cq_Cart_list rfl (Nat.le_of_ble_eq_true rfl) rfl ?_
  have hn := hI.n
  have hM := hS.m
  have hT := hS.t
  have hR := hS.r
  have hC := hS.c
  have hG := hS.g
  have t0 : H 14 0 = a 2 := hT.1
  have t4 : H 14 4 = a 3 := hT.2.1
  refine st_aload_n rfl rfl (by decide) ?_
  refine st_getR (kk := 3) rfl rfl rfl (pz_3_3 hP) rfl ?_
  refine st_getR (kk := 0) rfl rfl rfl (pz_10_0 hP) rfl ?_
  refine st_iload_n rfl rfl ?_
  refine st_cv1 (w := []) rfl rfl rfl (Nat.le_of_ble_eq_true rfl) (Nat.le_of_ble_eq_true rfl) rfl rfl (r_Marks_has hP hI hM) ?_
  refine st_if_eq_b rfl (fun h5 => ?_) (fun h5 => ?_)
  · refine st_iconst rfl ?_
    refine st_iret rfl (fun z => by first | exact absurd z (by decide) | exact bi_01 _ | decide | omega) ?_
    exact ⟨am_ri (bi_f (by omega)).symm, H, rfl, fun _ _ => rfl, by rw [if_neg (by omega)]; exact hS⟩
  · refine st_aload_n rfl rfl (by decide) ?_
    refine st_getR (kk := 3) rfl rfl rfl (pz_3_3 hP) rfl ?_
    refine st_getR (kk := 1) rfl rfl rfl (pz_10_1 hP) rfl ?_
    refine st_iload_n rfl rfl ?_
    refine st_cv1 (w := []) rfl rfl rfl (Nat.le_of_ble_eq_true rfl) (Nat.le_of_ble_eq_true rfl) rfl rfl (r_Stacks_hasShelf hP t0) ?_
    refine st_if_ne_b rfl (fun h11 => ?_) (fun h11 => ?_)
    · refine st_aload_n rfl rfl (by decide) ?_
      refine st_getR (kk := 3) rfl rfl rfl (pz_3_3 hP) rfl ?_
      refine st_getR (kk := 3) rfl rfl rfl (pz_10_3 hP) rfl ?_
      refine st_iload_n rfl rfl ?_
      refine st_iload_n rfl rfl ?_
      refine st_cv0 (w := []) rfl rfl rfl (Nat.le_of_ble_eq_true rfl) (Nat.le_of_ble_eq_true rfl) rfl rfl (r_Catalogue_enter hP hI.l hC (by omega) (hS.ent hI)) ?_
      refine st_iconst rfl ?_
      refine st_iret rfl (fun z => by first | exact absurd z (by decide) | exact bi_01 _ | decide | omega) ?_
      have hlm := (hI.l.1 m h5.1 (by omega)).1
      have hb1 : bi (0 ≤ s) = 1 := bi_t (by omega)
      have hcc : (0 ≤ m ∧ m < a 1) ∧ 0 ≤ s ∧ s < a 2 := ⟨h5, h11⟩
      refine ⟨am_ri (bi_t hcc).symm, _, rfl, fun o ho => ?_, ?_⟩
      · rw [am_up_ne (by omega)]
        split
        · exact am_up_ne (by omega)
        · rfl
      · rw [if_pos hcc]
        have hfr : ∀ k : Nat, k ≠ 28 → k ≠ 29 → am_up (if a (8782 + m) = -1 then am_up H 28 0 (H 28 0 + 1) else H) 29 m s k = H k := fun k k1 k2 => by
          rw [am_up_ne k2]
          split
          · exact am_up_ne k1
          · rfl
        refine RS_ls hI hS (fun k hk => hfr k (by omega) (by omega)) ?_ (fun k hk => am_uf_ne _ _ (by omega))
        have hz := RC_set (s := s) (t0 := a (8982 + m)) (f0 := a (9182 + m)) (tr := H 30 m) (H' := am_up (if a (8782 + m) = -1 then am_up H 28 0 (H 28 0 + 1) else H) 29 m s) hI hC h5 ?_ ?_ ?_ (hC.2.1 m h5.1 (by omega)).2 (fun k hk => hfr k (by omega) (by omega))
        · rw [show am_uf (am_uf (am_uf a (8782 + m) s) (8982 + m) (a (8982 + m))) (9182 + m) (a (9182 + m)) = am_uf a (8782 + m) s by
            funext k
            unfold am_uf
            by_cases k1 : k = 9182 + m
            · rw [if_pos k1, if_neg (by omega), k1]
            · rw [if_neg k1]
              by_cases k2 : k = 8982 + m
              · rw [if_pos k2, if_neg (by omega), k2]
              · rw [if_neg k2]] at hz
          exact hz
        · rw [am_up_ne (by decide), hb1]
          split
          · rw [am_up_eq, am_uf_eq, bi_f (by omega)]; omega
          · rw [bi_t (by omega)]; omega
        · rw [am_up_eq]
          split
          · rw [am_up_ne (by decide)]
          · rfl
        · rw [hfr 30 (by decide) (by decide)]
          funext k
          unfold am_uf
          split
          · rename_i hk; rw [hk]
          · rfl
    · refine st_iconst rfl ?_
      refine st_iret rfl (fun z => by first | exact absurd z (by decide) | exact bi_01 _ | decide | omega) ?_
      exact ⟨am_ri (bi_f (by omega)).symm, H, rfl, fun _ _ => rfl, by rw [if_neg (by omega)]; exact hS⟩
theorem c_Cart_forget {d N : Nat} {P : am_P} {H : am_H} {m : Int} {a : Int → Int} (hP : PZ P) (hI : Inv a) (hW : InvW a) (hS : RS H 10 a)  : am_C (d + 4) 30 [am_r 3, am_i (m)] (N, P, H) (CQ N P H (bi ((0 ≤ m ∧ m < a 1) ∧ 0 ≤ a (8782 + m))) (if (0 ≤ m ∧ m < a 1) ∧ 0 ≤ a (8782 + m) then am_uf (am_uf (am_uf a (8782 + m) (-1)) (8982 + m) 0) (9182 + m) 0 else a)) := by
  refine am_enC (d := d + 3) (ml := 2) (ls := [_, _]) cq_Cart_forget rfl (Nat.le_of_ble_eq_true rfl) rfl ?_
  have hn := hI.n
  have hM := hS.m
  have hT := hS.t
  have hR := hS.r
  have hC := hS.c
  have hG := hS.g
  have t0 : H 14 0 = a 2 := hT.1
  have t4 : H 14 4 = a 3 := hT.2.1
  refine st_aload_n rfl rfl (by decide) ?_
  refine st_getR (kk := 3) rfl rfl rfl (pz_3_3 hP) rfl ?_
  refine st_getR (kk := 0) rfl rfl rfl (pz_10_0 hP) rfl ?_
  refine st_iload_n rfl rfl ?_
  refine st_cv1 (w := []) rfl rfl rfl (Nat.le_of_ble_eq_true rfl) (Nat.le_of_ble_eq_true rfl) rfl rfl (r_Marks_has hP hI hM) ?_
  refine st_if_eq_b rfl (fun h5 => ?_) (fun h5 => ?_)
  · refine st_iconst rfl ?_
    refine st_iret rfl (fun z => by first | exact absurd z (by decide) | exact bi_01 _ | decide | omega) ?_
    first
    | exact ⟨am_ri (bi_f (by omega)).symm, H, rfl, fun _ _ => rfl, by rw [if_neg (by omega)]; exact hS⟩
    | (refine ⟨am_ri (bi_t (by omega)).symm, _, rfl, fun o ho => by rw [am_up_ne (by omega), am_up_ne (by omega), am_up_ne (by omega)], ?_⟩
       rw [if_pos (by omega)]
       refine RS_ls hI hS (fun k hk => by rw [am_up_ne (by omega), am_up_ne (by omega), am_up_ne (by omega)]) ?_ (fun k hk => by rw [am_uf_ne _ _ (by omega), am_uf_ne _ _ (by omega), am_uf_ne _ _ (by omega)])
       refine RC_set (tr := 0) hI hC h5 ?_ rfl rfl rfl (fun k hk => by rw [am_up_ne (by omega), am_up_ne (by omega), am_up_ne (by omega)])
       rw [am_up_eq, am_uf_eq, bi_f (by omega), bi_t (by omega)]
       omega)
  · refine st_aload_n rfl rfl (by decide) ?_
    refine st_getR (kk := 3) rfl rfl rfl (pz_3_3 hP) rfl ?_
    refine st_getR (kk := 3) rfl rfl rfl (pz_10_3 hP) rfl ?_
    refine st_iload_n rfl rfl ?_
    refine st_cv1 (w := []) rfl rfl rfl (Nat.le_of_ble_eq_true rfl) (Nat.le_of_ble_eq_true rfl) rfl rfl (r_Catalogue_strike hP hI.l hC (by omega) (hS.ent hI)) ?_
    have hlm := (hI.l.1 m h5.1 (by omega)).1
    by_cases hz : a (8782 + m) = -1
    · rw [if_neg (show ¬ (a (8782 + m) ≠ -1) by omega)]
      refine st_if_eq_b rfl (fun h11 => ?_) (fun h11 => (by exfalso; omega))
      refine st_iconst rfl ?_
      refine st_iret rfl (fun z => by first | exact absurd z (by decide) | exact bi_01 _ | decide | omega) ?_
      exact ⟨am_ri (bi_f (by omega)).symm, H, rfl, fun _ _ => rfl, by rw [if_neg (by omega)]; exact hS⟩
    rw [if_pos (show a (8782 + m) ≠ -1 by omega)]
    refine st_if_eq_b rfl (fun h11 => (by exfalso; omega)) (fun h11 => ?_)
    refine st_iconst rfl ?_
    refine st_goto rfl ?_
    refine st_iret rfl (fun z => by first | exact absurd z (by decide) | exact bi_01 _ | decide | omega) ?_
    first
    | exact ⟨am_ri (bi_f (by omega)).symm, H, rfl, fun _ _ => rfl, by rw [if_neg (by omega)]; exact hS⟩
    | (refine ⟨am_ri (bi_t (by omega)).symm, _, rfl, fun o ho => by rw [am_up_ne (by omega), am_up_ne (by omega), am_up_ne (by omega)], ?_⟩
       rw [if_pos (by omega)]
       refine RS_ls hI hS (fun k hk => by rw [am_up_ne (by omega), am_up_ne (by omega), am_up_ne (by omega)]) ?_ (fun k hk => by rw [am_uf_ne _ _ (by omega), am_uf_ne _ _ (by omega), am_uf_ne _ _ (by omega)])
       refine RC_set (tr := 0) hI hC h5 ?_ rfl rfl rfl (fun k hk => by rw [am_up_ne (by omega), am_up_ne (by omega), am_up_ne (by omega)])
       rw [am_up_eq, am_uf_eq, bi_f (by omega), bi_t (by omega)]
       omega)
theorem c_Cart_listed {d N : Nat} {P : am_P} {H : am_H} {m : Int} {a : Int → Int} (hP : PZ P) (hI : Inv a) (hW : InvW a) (hS : RS H 10 a)  : am_C (d + 3) 31 [am_r 3, am_i (m)] (N, P, H) (CQ N P H (if 0 ≤ m ∧ m < a 1 then a (8782 + m) else -1) (a)) := by
  refine am_enC (d := d + 2) (ml := 2) (ls := [_, _]) cq_Cart_listed rfl (Nat.le_of_ble_eq_true rfl) rfl ?_
  have hn := hI.n
  have hM := hS.m
  have hT := hS.t
  have hR := hS.r
  have hC := hS.c
  have hG := hS.g
  have t0 : H 14 0 = a 2 := hT.1
  have t4 : H 14 4 = a 3 := hT.2.1
  refine st_aload_n rfl rfl (by decide) ?_
  refine st_getR (kk := 3) rfl rfl rfl (pz_3_3 hP) rfl ?_
  refine st_getR (kk := 0) rfl rfl rfl (pz_10_0 hP) rfl ?_
  refine st_iload_n rfl rfl ?_
  refine st_cv1 (w := []) rfl rfl rfl (Nat.le_of_ble_eq_true rfl) (Nat.le_of_ble_eq_true rfl) rfl rfl (r_Marks_has hP hI hM) ?_
  refine st_if_eq_b rfl (fun h5 => ?_) (fun h5 => ?_)
  · refine st_iconst rfl ?_
    refine st_iret rfl (fun z => by first | exact absurd z (by decide) | exact bi_01 _ | decide | omega) ?_
    first
    | exact ⟨am_ri (by rw [if_neg (by omega)]), H, rfl, fun _ _ => rfl, hS⟩
    | exact ⟨am_ri (by unfold lsA; rw [if_pos (by omega), if_pos (by omega)]), H, rfl, fun _ _ => rfl, hS⟩
  · refine st_aload_n rfl rfl (by decide) ?_
    refine st_getR (kk := 3) rfl rfl rfl (pz_3_3 hP) rfl ?_
    refine st_getR (kk := 3) rfl rfl rfl (pz_10_3 hP) rfl ?_
    refine st_iload_n rfl rfl ?_
    refine st_cv1 (w := []) rfl rfl rfl (Nat.le_of_ble_eq_true rfl) (Nat.le_of_ble_eq_true rfl) rfl rfl (r_Catalogue_shelfOf hP hI.l hC) ?_
    refine st_goto rfl ?_
    refine st_iret rfl (fun z => by first | exact absurd z (by decide) | exact bi_01 _ | decide | omega) ?_
    first
    | exact ⟨am_ri (by rw [if_neg (by omega)]), H, rfl, fun _ _ => rfl, hS⟩
    | exact ⟨am_ri (by unfold lsA; rw [if_pos (by omega), if_pos (by omega)]), H, rfl, fun _ _ => rfl, hS⟩
theorem c_Cart_grow {d N : Nat} {P : am_P} {H : am_H} {x y z : Int} {a : Int → Int} (hP : PZ P) (hI : Inv a) (hW : InvW a) (hS : RS H 10 a)  : am_C (d + 4) 34 [am_r 3, am_i (x), am_i (y), am_i (z)] (N, P, H) (CQ N P H (if a 4 ≠ 12 ∧ (0 ≤ x ∧ x < a 1) ∧ (0 ≤ y ∧ y < a 1) ∧ 0 ≤ cmpF a y x 0 ∧ 1 ≤ z ∧ z ≤ 1000 then a 4 + 1 else -1) (if a 4 ≠ 12 ∧ (0 ≤ x ∧ x < a 1) ∧ (0 ≤ y ∧ y < a 1) ∧ 0 ≤ cmpF a y x 0 ∧ 1 ≤ z ∧ z ≤ 1000 then am_uf (am_uf (am_uf (am_uf a (10374 + 3 * a 4) x) (10374 + 3 * a 4 + 1) y) (10374 + 3 * a 4 + 2) z) 4 (a 4 + 1) else a)) := by
  refine am_enC (d := d + 3) (ml := 4) (ls := [_, _, _, _]) cq_Cart_grow rfl (Nat.le_of_ble_eq_true rfl) rfl ?_
  have hn := hI.n
  have hM := hS.m
  have hT := hS.t
  have hR := hS.r
  have hC := hS.c
  have hG := hS.g
  have t0 : H 14 0 = a 2 := hT.1
  have t4 : H 14 4 = a 3 := hT.2.1
  refine st_aload_n rfl rfl (by decide) ?_
  refine st_getR (kk := 3) rfl rfl rfl (pz_3_3 hP) rfl ?_
  refine st_getR (kk := 0) rfl rfl rfl (pz_10_0 hP) rfl ?_
  refine st_iload_n rfl rfl ?_
  refine st_cv1 (w := []) rfl rfl rfl (Nat.le_of_ble_eq_true rfl) (Nat.le_of_ble_eq_true rfl) rfl rfl (r_Marks_has hP hI hM) ?_
  refine st_if_eq_b rfl (fun h5 => ?_) (fun h5 => ?_)
  · refine st_iconst rfl ?_
    refine st_iret rfl (fun z => by first | exact absurd z (by decide) | exact bi_01 _ | decide | omega) ?_
    exact ⟨am_ri (by rw [if_neg (by omega)]), H, rfl, fun _ _ => rfl, by rw [if_neg (by omega)]; exact hS⟩
  · refine st_aload_n rfl rfl (by decide) ?_
    refine st_getR (kk := 3) rfl rfl rfl (pz_3_3 hP) rfl ?_
    refine st_getR (kk := 0) rfl rfl rfl (pz_10_0 hP) rfl ?_
    refine st_iload_n rfl rfl ?_
    refine st_cv1 (w := []) rfl rfl rfl (Nat.le_of_ble_eq_true rfl) (Nat.le_of_ble_eq_true rfl) rfl rfl (r_Marks_has hP hI hM) ?_
    refine st_if_eq_b rfl (fun h11 => ?_) (fun h11 => ?_)
    · refine st_iconst rfl ?_
      refine st_iret rfl (fun z => by first | exact absurd z (by decide) | exact bi_01 _ | decide | omega) ?_
      exact ⟨am_ri (by rw [if_neg (by omega)]), H, rfl, fun _ _ => rfl, by rw [if_neg (by omega)]; exact hS⟩
    · refine st_iload_n rfl rfl ?_
      refine st_iconst rfl ?_
      refine st_icmp_lt rfl (fun h14 => ?_) (fun h14 => ?_)
      · refine st_iconst rfl ?_
        refine st_iret rfl (fun z => by first | exact absurd z (by decide) | exact bi_01 _ | decide | omega) ?_
        exact ⟨am_ri (by rw [if_neg (by omega)]), H, rfl, fun _ _ => rfl, by rw [if_neg (by omega)]; exact hS⟩
      · refine st_iload_n rfl rfl ?_
        refine st_sipush rfl ?_
        refine st_icmp_le rfl (fun h17 => ?_) (fun h17 => ?_)
        · refine st_aload_n rfl rfl (by decide) ?_
          refine st_getR (kk := 3) rfl rfl rfl (pz_3_3 hP) rfl ?_
          refine st_getR (kk := 0) rfl rfl rfl (pz_10_0 hP) rfl ?_
          refine st_iload_n rfl rfl ?_
          refine st_iload_n rfl rfl ?_
          refine st_iconst rfl ?_
          refine st_cv1 (w := []) rfl rfl rfl (Nat.le_of_ble_eq_true rfl) (Nat.le_of_ble_eq_true rfl) rfl rfl (r_Marks_compare hP hI hM (by omega) (by omega) (Or.inl rfl)) ?_
          refine st_if_ge rfl (fun h27 => ?_) (fun h27 => ?_)
          · refine st_aload_n rfl rfl (by decide) ?_
            refine st_getR (kk := 3) rfl rfl rfl (pz_3_3 hP) rfl ?_
            refine st_getR (kk := 4) rfl rfl rfl (pz_10_4 hP) rfl ?_
            refine st_iload_n rfl rfl ?_
            refine st_iload_n rfl rfl ?_
            refine st_iload_n rfl rfl ?_
            refine st_cv1 (w := []) rfl rfl rfl (Nat.le_of_ble_eq_true rfl) (Nat.le_of_ble_eq_true rfl) rfl rfl (r_Growths_make hP hG.1 hn.2.2.2) ?_
            refine st_iret rfl (fun z => by first | exact absurd z (by decide) | exact bi_01 _ | decide | omega) ?_
            by_cases h12 : a 4 = 12
            · rw [if_neg (show ¬ (a 4 ≠ 12) by omega), if_neg (show ¬ (a 4 ≠ 12) by omega)]
              exact ⟨am_ri (by rw [if_neg (by omega)]), H, rfl, fun _ _ => rfl, by rw [if_neg (by omega)]; exact hS⟩
            · have hc : a 4 ≠ 12 ∧ (0 ≤ x ∧ x < a 1) ∧ (0 ≤ y ∧ y < a 1) ∧ 0 ≤ cmpF a y x 0 ∧ 1 ≤ z ∧ z ≤ 1000 := by omega
              rw [if_pos h12, if_pos h12]
              refine ⟨am_ri (by rw [if_pos hc]), _, rfl, fun o ho => by rw [am_up_ne (by omega), am_up_ne (by omega), am_up_ne (by omega), am_up_ne (by omega)], ?_⟩
              rw [if_pos hc]
              have e : ∀ k, k ≠ 4 → (k < 10374 + 3 * a 4 ∨ 10374 + 3 * a 4 + 2 < k) → am_uf (am_uf (am_uf (am_uf a (10374 + 3 * a 4) x) (10374 + 3 * a 4 + 1) y) (10374 + 3 * a 4 + 2) z) 4 (a 4 + 1) k = a k := fun k k1 k2 => by rw [am_uf_ne _ _ k1, am_uf_ne _ _ (by omega), am_uf_ne _ _ (by omega), am_uf_ne _ _ (by omega)]
              have hh : ∀ k : Nat, (k < 33 ∨ 36 < k) → am_up (am_up (am_up (am_up H 34 (a 4) x) 35 (a 4) y) 36 (a 4) z) 33 0 (a 4 + 1) k = H k := fun k hk => by rw [am_up_ne (by omega), am_up_ne (by omega), am_up_ne (by omega), am_up_ne (by omega)]
              refine ⟨by rw [hh _ (by omega), e 0 (by omega) (by omega)]; exact hS.way, hM.cg hI (hh _ (by omega)) (hh _ (by omega)) (hh _ (by omega)) (e 1 (by omega) (by omega)) (fun k k0 k1 => e k (by omega) (by omega)), hT.cg hI (fun k k0 k1 => hh _ (by omega)) (e 2 (by omega) (by omega)) (e 3 (by omega) (by omega)) (fun k k0 k1 => e k (by omega) (by omega)), hR.cg hI (hh _ (by omega)) (hh _ (by omega)) (fun k k0 k1 => e k (by omega) (by omega)), hC.cg hI (fun k k0 k1 => hh _ (by omega)) (e 1 (by omega) (by omega)) (fun k k0 k1 => e k (by omega) (by omega)), ?_, fun g g0 g1 => ?_⟩
              · rw [show (10 + 23 : Nat) = 33 from rfl, am_up_eq, am_uf_eq, am_uf_eq]
              · rw [am_uf_eq] at g1
                show am_uf (H 34) (a 4) x g = _ ∧ am_uf (H 35) (a 4) y g = _ ∧ am_uf (H 36) (a 4) z g = _
                by_cases hg : g = a 4
                · rw [hg, am_uf_eq, am_uf_eq, am_uf_eq, am_uf_ne _ _ (by omega), am_uf_ne _ _ (by omega), am_uf_ne _ _ (by omega), am_uf_eq, am_uf_ne _ _ (by omega), am_uf_ne _ _ (by omega), am_uf_eq, am_uf_ne _ _ (by omega), am_uf_eq]
                  exact ⟨rfl, rfl, rfl⟩
                · rw [am_uf_ne _ _ hg, am_uf_ne _ _ hg, am_uf_ne _ _ hg, e _ (by omega) (by omega), e _ (by omega) (by omega), e _ (by omega) (by omega)]
                  exact hG.2 g g0 (by omega)
          · refine st_iconst rfl ?_
            refine st_iret rfl (fun z => by first | exact absurd z (by decide) | exact bi_01 _ | decide | omega) ?_
            exact ⟨am_ri (by rw [if_neg (by omega)]), H, rfl, fun _ _ => rfl, by rw [if_neg (by omega)]; exact hS⟩
        · refine st_iconst rfl ?_
          refine st_iret rfl (fun z => by first | exact absurd z (by decide) | exact bi_01 _ | decide | omega) ?_
          exact ⟨am_ri (by rw [if_neg (by omega)]), H, rfl, fun _ _ => rfl, by rw [if_neg (by omega)]; exact hS⟩
