/-! ===== the law's loop ===== -/
theorem rel_N {L : Nat} {xs : Int → Int} {N : Nat} {P : am_P} {H : am_H} (h : Rel L xs N P H) : N ≤ 188 := by
  have im := h.2.2.2.2.2.1
  have hs := has_sum im
  have hN := im.2.2
  omega
set_option maxRecDepth 20000 in
theorem lw_loop {L : Nat} {xs : Int → Int} (hL : L ≤ 3072) (hx : ∀ k, -2147483648 ≤ xs k ∧ xs k < 2147483648) : ∀ (n : Nat) (i : Int) (N : Nat) (P : am_P) (H : am_H), 0 ≤ i → i ≤ (L : Int) → (L : Int) - i < n → Rel L xs N P H → am_WP (am_R 8) cd_CartLaw_law (fun v σ' => v = some (am_i 1) ∧ σ'.1 ≤ 188) 10 [some (am_r 2), some (am_r 3), some (am_r 53), some (am_i i)] [] (N, P, H) := by
  intro n
  induction n with
  | zero => intro i N P H i0 i1 i2; omega
  | succ n ih =>
    intro i N P H i0 i1 i2 hR
    obtain ⟨s0, s2⟩ := rel_s hR
    have hN := rel_N hR
    have hk : i + 6 ≤ (L : Int) → ∀ N2 P2 H2, Rel L xs N2 P2 H2 → am_WP (am_R 8) cd_CartLaw_law (fun v σ' => v = some (am_i 1) ∧ σ'.1 ≤ 188) 922 [some (am_r 2), some (am_r 3), some (am_r 53), some (am_i i)] [] (N2, P2, H2) := fun h6 N2 P2 H2 hR2 => by
      refine st_iinc (ls' := [_, _, _, _]) rfl rfl (by omega) rfl ?_
      refine st_goto rfl ?_
      exact ih (i + 6) N2 P2 H2 (by omega) (by omega) (by omega) hR2
    refine st_iload_n rfl rfl ?_
    refine st_aload_n rfl rfl (by decide) ?_
    refine st_alenS rfl ?_
    refine st_bipush rfl ?_
    refine st_isub rfl (by omega) ?_
    refine st_icmp_gt rfl (fun h15 => ?_) (fun h15 => ?_)
    · refine st_iconst rfl ?_
      refine st_iret rfl (fun z => by first | exact absurd z (by decide) | exact bi_01 _ | decide | omega) ?_
      exact ⟨rfl, hN⟩
    · refine st_aload_n rfl rfl (by decide) ?_
      refine st_iload_n rfl rfl ?_
      refine st_iascr rfl (by omega) (by omega) ?_
      refine st_bipush rfl ?_
      refine st_iand rfl rfl ?_
      by_cases h21_0 : am_and (H 2 i) 63 = 0
      · refine st_swC (c := 0) rfl h21_0 (t := 22) (by decide +kernel) ?_
        exact lw_c0 hL hx i0 (by omega) hR (hk (by omega))
      by_cases h21_1 : am_and (H 2 i) 63 = 1
      · refine st_swC (c := 1) rfl h21_1 (t := 79) (by decide +kernel) ?_
        exact lw_c1 hL hx i0 (by omega) hR (hk (by omega))
      by_cases h21_2 : am_and (H 2 i) 63 = 2
      · refine st_swC (c := 2) rfl h21_2 (t := 96) (by decide +kernel) ?_
        exact lw_c2 hL hx i0 (by omega) hR (hk (by omega))
      by_cases h21_3 : am_and (H 2 i) 63 = 3
      · refine st_swC (c := 3) rfl h21_3 (t := 103) (by decide +kernel) ?_
        exact lw_c3 hL hx i0 (by omega) hR (hk (by omega))
      by_cases h21_4 : am_and (H 2 i) 63 = 4
      · refine st_swC (c := 4) rfl h21_4 (t := 120) (by decide +kernel) ?_
        exact lw_c4 hL hx i0 (by omega) hR (hk (by omega))
      by_cases h21_5 : am_and (H 2 i) 63 = 5
      · refine st_swC (c := 5) rfl h21_5 (t := 157) (by decide +kernel) ?_
        exact lw_c5 hL hx i0 (by omega) hR (hk (by omega))
      by_cases h21_6 : am_and (H 2 i) 63 = 6
      · refine st_swC (c := 6) rfl h21_6 (t := 174) (by decide +kernel) ?_
        exact lw_c6 hL hx i0 (by omega) hR (hk (by omega))
      by_cases h21_7 : am_and (H 2 i) 63 = 7
      · refine st_swC (c := 7) rfl h21_7 (t := 191) (by decide +kernel) ?_
        exact lw_c7 hL hx i0 (by omega) hR (hk (by omega))
      by_cases h21_8 : am_and (H 2 i) 63 = 8
      · refine st_swC (c := 8) rfl h21_8 (t := 208) (by decide +kernel) ?_
        exact lw_c8 hL hx i0 (by omega) hR (hk (by omega))
      by_cases h21_9 : am_and (H 2 i) 63 = 9
      · refine st_swC (c := 9) rfl h21_9 (t := 235) (by decide +kernel) ?_
        exact lw_c9 hL hx i0 (by omega) hR (hk (by omega))
      by_cases h21_10 : am_and (H 2 i) 63 = 10
      · refine st_swC (c := 10) rfl h21_10 (t := 270) (by decide +kernel) ?_
        exact lw_c10 hL hx i0 (by omega) hR (hk (by omega))
      by_cases h21_11 : am_and (H 2 i) 63 = 11
      · refine st_swC (c := 11) rfl h21_11 (t := 317) (by decide +kernel) ?_
        exact lw_c11 hL hx i0 (by omega) hR (hk (by omega))
      by_cases h21_12 : am_and (H 2 i) 63 = 12
      · refine st_swC (c := 12) rfl h21_12 (t := 354) (by decide +kernel) ?_
        exact lw_c12 hL hx i0 (by omega) hR (hk (by omega))
      by_cases h21_13 : am_and (H 2 i) 63 = 13
      · refine st_swC (c := 13) rfl h21_13 (t := 391) (by decide +kernel) ?_
        exact lw_c13 hL hx i0 (by omega) hR (hk (by omega))
      by_cases h21_14 : am_and (H 2 i) 63 = 14
      · refine st_swC (c := 14) rfl h21_14 (t := 408) (by decide +kernel) ?_
        exact lw_c14 hL hx i0 (by omega) hR (hk (by omega))
      by_cases h21_15 : am_and (H 2 i) 63 = 15
      · refine st_swC (c := 15) rfl h21_15 (t := 435) (by decide +kernel) ?_
        exact lw_c15 hL hx i0 (by omega) hR (hk (by omega))
      by_cases h21_16 : am_and (H 2 i) 63 = 16
      · refine st_swC (c := 16) rfl h21_16 (t := 462) (by decide +kernel) ?_
        exact lw_c16 hL hx i0 (by omega) hR (hk (by omega))
      by_cases h21_17 : am_and (H 2 i) 63 = 17
      · refine st_swC (c := 17) rfl h21_17 (t := 489) (by decide +kernel) ?_
        exact lw_c17 hL hx i0 (by omega) hR (hk (by omega))
      by_cases h21_18 : am_and (H 2 i) 63 = 18
      · refine st_swC (c := 18) rfl h21_18 (t := 524) (by decide +kernel) ?_
        exact lw_c18 hL hx i0 (by omega) hR (hk (by omega))
      by_cases h21_19 : am_and (H 2 i) 63 = 19
      · refine st_swC (c := 19) rfl h21_19 (t := 541) (by decide +kernel) ?_
        exact lw_c19 hL hx i0 (by omega) hR (hk (by omega))
      by_cases h21_20 : am_and (H 2 i) 63 = 20
      · refine st_swC (c := 20) rfl h21_20 (t := 558) (by decide +kernel) ?_
        exact lw_c20 hL hx i0 (by omega) hR (hk (by omega))
      by_cases h21_21 : am_and (H 2 i) 63 = 21
      · refine st_swC (c := 21) rfl h21_21 (t := 593) (by decide +kernel) ?_
        exact lw_c21 hL hx i0 (by omega) hR (hk (by omega))
      by_cases h21_22 : am_and (H 2 i) 63 = 22
      · refine st_swC (c := 22) rfl h21_22 (t := 600) (by decide +kernel) ?_
        exact lw_c22 hL hx i0 (by omega) hR (hk (by omega))
      by_cases h21_23 : am_and (H 2 i) 63 = 23
      · refine st_swC (c := 23) rfl h21_23 (t := 607) (by decide +kernel) ?_
        exact lw_c23 hL hx i0 (by omega) hR (hk (by omega))
      by_cases h21_24 : am_and (H 2 i) 63 = 24
      · refine st_swC (c := 24) rfl h21_24 (t := 624) (by decide +kernel) ?_
        exact lw_c24 hL hx i0 (by omega) hR (hk (by omega))
      by_cases h21_25 : am_and (H 2 i) 63 = 25
      · refine st_swC (c := 25) rfl h21_25 (t := 651) (by decide +kernel) ?_
        exact lw_c25 hL hx i0 (by omega) hR (hk (by omega))
      by_cases h21_26 : am_and (H 2 i) 63 = 26
      · refine st_swC (c := 26) rfl h21_26 (t := 658) (by decide +kernel) ?_
        exact lw_c26 hL hx i0 (by omega) hR (hk (by omega))
      by_cases h21_27 : am_and (H 2 i) 63 = 27
      · refine st_swC (c := 27) rfl h21_27 (t := 685) (by decide +kernel) ?_
        exact lw_c27 hL hx i0 (by omega) hR (hk (by omega))
      by_cases h21_28 : am_and (H 2 i) 63 = 28
      · refine st_swC (c := 28) rfl h21_28 (t := 702) (by decide +kernel) ?_
        exact lw_c28 hL hx i0 (by omega) hR (hk (by omega))
      by_cases h21_29 : am_and (H 2 i) 63 = 29
      · refine st_swC (c := 29) rfl h21_29 (t := 719) (by decide +kernel) ?_
        exact lw_c29 hL hx i0 (by omega) hR (hk (by omega))
      by_cases h21_30 : am_and (H 2 i) 63 = 30
      · refine st_swC (c := 30) rfl h21_30 (t := 756) (by decide +kernel) ?_
        exact lw_c30 hL hx i0 (by omega) hR (hk (by omega))
      by_cases h21_31 : am_and (H 2 i) 63 = 31
      · refine st_swC (c := 31) rfl h21_31 (t := 773) (by decide +kernel) ?_
        exact lw_c31 hL hx i0 (by omega) hR (hk (by omega))
      by_cases h21_32 : am_and (H 2 i) 63 = 32
      · refine st_swC (c := 32) rfl h21_32 (t := 810) (by decide +kernel) ?_
        exact lw_c32 hL hx i0 (by omega) hR (hk (by omega))
      by_cases h21_33 : am_and (H 2 i) 63 = 33
      · refine st_swC (c := 33) rfl h21_33 (t := 817) (by decide +kernel) ?_
        exact lw_c33 hL hx i0 (by omega) hR (hk (by omega))
      by_cases h21_34 : am_and (H 2 i) 63 = 34
      · refine st_swC (c := 34) rfl h21_34 (t := 864) (by decide +kernel) ?_
        exact lw_c34 hL hx i0 (by omega) hR (hk (by omega))
      by_cases h21_35 : am_and (H 2 i) 63 = 35
      · refine st_swC (c := 35) rfl h21_35 (t := 881) (by decide +kernel) ?_
        exact lw_c35 hL hx i0 (by omega) hR (hk (by omega))
      by_cases h21_36 : am_and (H 2 i) 63 = 36
      · refine st_swC (c := 36) rfl h21_36 (t := 888) (by decide +kernel) ?_
        exact lw_c36 hL hx i0 (by omega) hR (hk (by omega))
      by_cases h21_37 : am_and (H 2 i) 63 = 37
      · refine st_swC (c := 37) rfl h21_37 (t := 905) (by decide +kernel) ?_
        exact lw_c37 hL hx i0 (by omega) hR (hk (by omega))
      refine st_swD rfl (by omega) (t := 922) (by decide +kernel) ?_
      exact hk (by omega) N P H hR
theorem rel_ini {L : Nat} {xs : Int → Int} {P P2 : am_P} {H H2 : am_H} (h0 : H 0 0 = (L : Int)) (h2 : H 2 = xs) (h3 : H 3 = fun _ => 0) (q1 : ∀ o, o < 53 → P2 o = am_so (ciP P) 53 (fun _ => 0) o ∧ H2 o = am_so (ciH H) 53 (fun _ => 0) o) (q2 : H2 53 = am_uf (am_so (ciH H) 53 (fun _ => 0) 53) 4 (-1)) (q3 : H2 54 = iniA) (q4 : ∀ o, 55 ≤ o → o < 72 → H2 o = fun _ => 0) (q5 : (∀ q ∈ PZt, q.1 < 53 → am_so (ciP P) 53 (fun _ => 0) q.1 q.2.1 = q.2.2) → PZ P2) : Rel L xs 72 P2 H2 := by
  have eP : ∀ o, o < 53 → P2 o = ciP P o := fun o ho => by rw [(q1 o ho).1, am_so_ne _ _ (by omega)]
  have eH : ∀ o, o < 53 → H2 o = ciH H o := fun o ho => by rw [(q1 o ho).2, am_so_ne _ _ (by omega)]
  obtain ⟨v0, v2, v3, v5, v8, v43⟩ := ciH_v H h3
  have e53 : ∀ k, k ≠ 4 → H2 53 k = 0 := fun k hk => by rw [q2, am_uf_ne _ _ hk, am_so_at]
  have e4 : H2 53 4 = -1 := by rw [q2, am_uf_eq]
  refine ⟨q5 (fun q hq hl => by rw [am_so_ne _ _ (by omega)]; exact ciP_z P q hq hl), ⟨by rw [q3]; exact inv_ini, by rw [q3]; exact invW_ini, ?_⟩, ⟨?_, ?_, ?_⟩, ?_, ⟨?_, ?_, ?_⟩, ⟨fun k k0 k1 => Or.inl ⟨?_, ?_⟩, fun k k' k0 k1 _ _ hne => ?_, ?_⟩, ⟨Or.inl (e53 22 (by omega)), ?_, fun z => ?_⟩, ?_, ?_⟩
  · rw [q3]; exact (ciH_rs H).cg inv_ini (fun k hk => eH _ (by omega)) (fun _ _ _ => rfl)
  · rw [e53 3 (by omega)]; omega
  · rw [eH 5 (by omega), v5, e53 3 (by omega)]
  · intro x x0 x1; rw [e53 3 (by omega)] at x1; omega
  · rw [eH 3 (by omega), v3, e4]
  · rw [e53 13 (by omega)]; omega
  · rw [eH 8 (by omega), v8, e53 13 (by omega)]
  · intro x x0 x1; rw [e53 13 (by omega)] at x1; omega
  · rw [q4 55 (by omega) (by omega)]
  · rw [eP 39 (by omega), ciP_39]
  · rw [eP 39 (by omega), ciP_39] at hne; exact absurd rfl hne
  · rw [q4 55 (by omega) (by omega)]; rfl
  · rw [eH 43 (by omega), v43, e53 22 (by omega)]
  · rw [e53 22 (by omega)] at z; omega
  · rw [eH 0 (by omega), v0]; exact h0
  · rw [eH 2 (by omega), v2]; exact h2
theorem lw_begin {L : Nat} {xs : Int → Int} {P : am_P} {H : am_H} (hL : L ≤ 3072) (hx : ∀ k, -2147483648 ≤ xs k ∧ xs k < 2147483648) (h0 : H 0 0 = (L : Int)) (h2 : H 2 = xs) : am_WP (am_R 8) cd_CartLaw_law (fun v σ' => v = some (am_i 1) ∧ σ'.1 ≤ 188) 0 [some (am_r 2), none, none, none] [] (3, P, H) := by
  have g0 : am_so H 3 (fun _ => 0) 0 0 = (L : Int) := by rw [am_so_ne _ _ (by omega)]; exact h0
  have g2 : am_so H 3 (fun _ => 0) 2 = xs := by rw [am_so_ne _ _ (by omega)]; exact h2
  have g3 : am_so H 3 (fun _ => 0) 3 = fun _ => 0 := am_so_at _ _ _
  refine st_new rfl rfl ?_
  refine st_dup rfl rfl ?_
  refine st_ci0 (w := [_]) rfl (by decide) (by decide) rfl (Nat.le_of_ble_eq_true rfl) (Nat.le_of_ble_eq_true rfl) rfl rfl (r_Cart_init (d := 5) (N := 0)) ?_
  refine st_astore_n (ls' := [_, _, _, _]) rfl (by decide) (Nat.le_of_ble_eq_true rfl) rfl ?_
  refine st_new rfl rfl ?_
  refine st_dup rfl rfl ?_
  refine st_ciC (w := [_]) rfl (by decide) (by decide) rfl (Nat.le_of_ble_eq_true rfl) (Nat.le_of_ble_eq_true rfl) rfl rfl (c_Model_init (d := 7)) ?_
  rintro v σ' ⟨rfl, P2, H2, rfl, q1, q2, q3, q4, q5⟩
  have hR2 := rel_ini g0 g2 g3 q1 q2 q3 q4 q5
  show am_WP _ _ _ _ _ [am_r 53] (72, P2, H2)
  refine st_astore_n (ls' := [_, _, _, _]) rfl (by decide) (Nat.le_of_ble_eq_true rfl) rfl ?_
  refine st_iconst rfl ?_
  refine st_istore_n (ls' := [_, _, _, _]) rfl (Nat.le_of_ble_eq_true rfl) rfl ?_
  exact lw_loop hL hx 3073 0 72 P2 H2 (by omega) (by omega) (by omega) hR2
theorem am_law : am_LawP := by
  intro L xs hL hx _
  refine lw_begin hL hx ?_ ?_
  · show (if (0 : Nat) = 2 then xs 0 else if (0 : Nat) = 0 ∧ (0 : Int) = 0 then (L : Int) else 0) = (L : Int)
    rw [if_neg (by decide), if_pos ⟨rfl, rfl⟩]
  · funext k
    exact if_pos rfl
